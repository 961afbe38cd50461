/-! BITS (bt to b_sshr: the starting text laws/BITS) AND SMALL NUMBERS -/
def bt (x : Int32) (i : Nat) : Bool := x.toBitVec.getLsbD i
theorem b_ext {x y : Int32} (h : ∀ i, i < 32 → bt x i = bt y i) : x = y := Int32.toBitVec_inj.mp (BitVec.eq_of_getLsbD_eq (fun i hi => h i hi))
theorem b_or (x y : Int32) (i : Nat) : bt (x ||| y) i = (bt x i || bt y i) := by unfold bt; rw [Int32.toBitVec_or, BitVec.getLsbD_or]
theorem b_and (x y : Int32) (i : Nat) : bt (x &&& y) i = (bt x i && bt y i) := by unfold bt; rw [Int32.toBitVec_and, BitVec.getLsbD_and]
theorem b_xor (x y : Int32) (i : Nat) : bt (x ^^^ y) i = (bt x i ^^ bt y i) := by unfold bt; rw [Int32.toBitVec_xor, BitVec.getLsbD_xor]
theorem b_big {x : Int32} {i : Nat} (h : 32 ≤ i) : bt x i = false := BitVec.getLsbD_of_ge _ _ h
theorem b_255 (i : Nat) : bt 255 i = decide (i < 8) := by
  rcases Nat.lt_or_ge i 32 with h | h
  · exact (by decide +kernel : ∀ i, i < 32 → bt 255 i = decide (i < 8)) i h
  · rw [b_big h, decide_eq_false (by omega)]
theorem b_65535 (i : Nat) : bt 65535 i = decide (i < 16) := by
  rcases Nat.lt_or_ge i 32 with h | h
  · exact (by decide +kernel : ∀ i, i < 32 → bt 65535 i = decide (i < 16)) i h
  · rw [b_big h, decide_eq_false (by omega)]
theorem b_m1 : ∀ i, i < 32 → bt (-1) i = true := by decide +kernel
theorem b_0 (i : Nat) : bt 0 i = false := BitVec.getLsbD_zero
theorem s_l : ∀ n, n < 32 → ((nI n &&& 31).toBitVec.smod 32).toNat = n := by decide +kernel
theorem s_u : ∀ n, n < 32 → (((nI n).toUInt32 &&& Int32.toUInt32 31).toBitVec % 32).toNat = n := by decide +kernel
theorem b_shl (n : Nat) (hn : n < 32) (x : Int32) {i : Nat} (hi : i < 32) : bt (x <<< (nI n &&& 31)) i = (decide (n ≤ i) && bt x (i - n)) := by
  unfold bt
  rw [Int32.toBitVec_shiftLeft]
  show (x.toBitVec <<< ((nI n &&& 31).toBitVec.smod 32).toNat).getLsbD i = _
  rw [s_l n hn, BitVec.getLsbD_shiftLeft]
  rcases Nat.lt_or_ge i n with h | h
  · simp [h, Nat.not_le.mpr h]
  · simp [hi, h, Nat.not_lt.mpr h]
theorem b_ushr (n : Nat) (hn : n < 32) (x : Int32) (i : Nat) : bt ((x.toUInt32 >>> ((nI n).toUInt32 &&& Int32.toUInt32 31)).toInt32) i = bt x (n + i) := by
  show (x.toUInt32 >>> ((nI n).toUInt32 &&& Int32.toUInt32 31)).toBitVec.getLsbD i = x.toUInt32.toBitVec.getLsbD (n + i)
  rw [UInt32.toBitVec_shiftRight]
  show (x.toUInt32.toBitVec >>> (((nI n).toUInt32 &&& Int32.toUInt32 31).toBitVec % 32).toNat).getLsbD i = _
  rw [s_u n hn, BitVec.getLsbD_ushiftRight]
theorem b_sshr (n : Nat) (hn : n < 32) (x : Int32) {i : Nat} (hi : i < 32) : bt (x >>> (nI n &&& 31)) i = if n + i < 32 then bt x (n + i) else bt x 31 := by
  unfold bt
  rw [Int32.toBitVec_shiftRight]
  show (x.toBitVec.sshiftRight ((nI n &&& 31).toBitVec.smod 32).toNat).getLsbD i = _
  rw [s_l n hn, BitVec.getLsbD_sshiftRight, BitVec.msb_eq_getLsbD_last]
  simp [hi]
theorem il (n : Nat) : (OfNat.ofNat n : Int32) = nI n := rfl
theorem inb_t {N k : Nat} (h : k < N) (hN : N < 2 ^ 31) : inb N (nI k) = true := by
  unfold inb
  rw [decide_eq_true_eq, nI_clamp (by omega)]
  intro q
  rcases q with q | q
  · exact nI_pos (by omega) q
  · omega
theorem bt_nI (m : Nat) {i : Nat} (hi : i < 32) : bt (nI m) i = m.testBit i := by
  show (BitVec.ofNat 32 m).getLsbD i = _
  rw [BitVec.getLsbD_ofNat]
  simp [hi]
theorem m_or (a b : Nat) : nI a ||| nI b = nI (a ||| b) := b_ext fun i hi => by
  rw [b_or, bt_nI _ hi, bt_nI _ hi, bt_nI _ hi, Nat.testBit_or]
theorem m_and (a b : Nat) : nI a &&& nI b = nI (a &&& b) := b_ext fun i hi => by
  rw [b_and, bt_nI _ hi, bt_nI _ hi, bt_nI _ hi, Nat.testBit_and]
theorem m_one {g : Nat} (hg : g < 32) : (1 : Int32) <<< (nI g &&& 31) = nI (2 ^ g) := b_ext fun i hi => by
  rw [b_shl g hg _ hi, bt_nI _ hi, Nat.testBit_two_pow]
  by_cases h : g ≤ i
  · rw [show (1 : Int32) = nI 1 from rfl, bt_nI _ (by omega)]
    by_cases h2 : g = i
    · subst h2; simp
    · have h3 : Nat.testBit 1 (i - g) = false := by
        rw [show (1 : Nat) = 2 ^ 0 from rfl, Nat.testBit_two_pow]
        simp; omega
      simp [h3, h2]
  · have h2 : ¬ g = i := by omega
    simp [h, h2]
/-- numbers of one mask that are not of another -/
def mdiff (a b : Nat) : Nat := a &&& (1023 ^^^ (b &&& 1023))
theorem t1023 (i : Nat) : Nat.testBit 1023 i = decide (i < 10) := by
  rw [show (1023 : Nat) = 2 ^ 10 - 1 from rfl, Nat.testBit_two_pow_sub_one]
theorem mdiff_bit (a b i : Nat) : (mdiff a b).testBit i = (a.testBit i && decide (i < 10) && !b.testBit i) := by
  unfold mdiff
  rw [Nat.testBit_and, Nat.testBit_xor, Nat.testBit_and, t1023]
  cases a.testBit i <;> cases b.testBit i <;> cases decide (i < 10) <;> rfl
theorem m_diff {a b : Nat} (ha : a < 1024) (hb : b < 1024) : nI a &&& (nI b ^^^ (-1)) = nI (mdiff a b) := b_ext fun i hi => by
  rw [b_and, b_xor, b_m1 i hi, bt_nI _ hi, bt_nI _ hi, bt_nI _ hi, mdiff_bit]
  by_cases h : i < 10
  · cases a.testBit i <;> cases b.testBit i <;> simp [h]
  · have h2 : a.testBit i = false := Nat.testBit_lt_two_pow (Nat.lt_of_lt_of_le ha (by rw [show (1024 : Nat) = 2 ^ 10 from rfl]; exact Nat.pow_le_pow_right (by decide) (by omega)))
    rw [h2]; rfl
theorem mdiff_lt {a b : Nat} (ha : a < 1024) : mdiff a b < 1024 := Nat.lt_of_le_of_lt Nat.and_le_left ha
theorem bt_one (i : Nat) (hi : i < 32) : bt 1 i = decide (i = 0) := by
  rw [show (1 : Int32) = nI 1 from rfl, bt_nI _ hi, show (1 : Nat) = 2 ^ 0 from rfl, Nat.testBit_two_pow]
  simp [eq_comm]
theorem m_in {m g : Nat} (hg : g < 31) (hm : m < 1024) : ((nI m >>> (nI g &&& 31)) &&& 1) = (if m.testBit g then (1 : Int32) else 0) := b_ext fun i hi => by
  rw [b_and, bt_one i hi, b_sshr g (by omega) _ hi]
  by_cases h0 : i = 0
  · subst h0
    rw [if_pos (by omega), Nat.add_zero, bt_nI _ (by omega)]
    cases m.testBit g <;> simp [b_0, bt_one]
  · cases m.testBit g <;> simp [h0, b_0, bt_one i hi]
theorem or_lt {a b : Nat} (ha : a < 1024) (hb : b < 1024) : a ||| b < 1024 := Nat.or_lt_two_pow (n := 10) ha hb
theorem pow_lt {g : Nat} (hg : g < 10) : 2 ^ g < 1024 := by
  show 2 ^ g < 2 ^ 10
  exact Nat.pow_lt_pow_right (by decide) hg
theorem bit_or (m g i : Nat) : (m ||| 2 ^ g).testBit i = (m.testBit i || decide (g = i)) := by rw [Nat.testBit_or, Nat.testBit_two_pow]
theorem bit_big {m i : Nat} (hm : m < 1024) (hi : 10 ≤ i) : m.testBit i = false := Nat.testBit_lt_two_pow (Nat.lt_of_lt_of_le hm (by rw [show (1024 : Nat) = 2 ^ 10 from rfl]; exact Nat.pow_le_pow_right (by decide) hi))
/-- a mask of the numbers below k for which P -/
def mk (P : Nat → Bool) : Nat → Nat
  | 0 => 0
  | k + 1 => mk P k ||| (if P k then 2 ^ k else 0)
theorem mk_bit (P : Nat → Bool) : ∀ k i, (mk P k).testBit i = (decide (i < k) && P i)
  | 0, i => by simp [mk]
  | k + 1, i => by
    rw [mk, Nat.testBit_or, mk_bit P k i]
    by_cases hP : P k = true
    · rw [if_pos hP, Nat.testBit_two_pow]
      by_cases e : k = i
      · subst e; simp [hP]
      · have e2 : (i < k + 1) ↔ (i < k) := by omega
        simp [e, e2]
    · rw [if_neg hP, Nat.zero_testBit]
      by_cases e : k = i
      · subst e; simp [hP]
      · have e2 : (i < k + 1) ↔ (i < k) := by omega
        simp [e2]
theorem mk_lt (P : Nat → Bool) : ∀ k, k ≤ 10 → mk P k < 1024
  | 0, _ => by simp [mk]
  | k + 1, h => by
    rw [mk]
    refine or_lt (mk_lt P k (by omega)) ?_
    split
    · exact pow_lt (by omega)
    · decide
theorem mk_of {m k : Nat} {P : Nat → Bool} (hm : ∀ i, m.testBit i = (decide (i < k) && P i)) : m = mk P k := Nat.eq_of_testBit_eq fun i => by rw [hm, mk_bit]
theorem b2_lt {b : Bool} : (if (if b = true then (1 : Int32) else 0) = 0 then (0 : Int32) else 1) = if b = true then 1 else 0 := by cases b <;> rfl
theorem ite01 {b : Bool} {α : Type} (x y : α) : (if (if b = true then (1 : Int32) else 0) = 0 then x else y) = if b = true then y else x := by cases b <;> rfl
theorem ite01i {b : Bool} {α : Type} (x y : α) : (if (if b = true then (1 : Int32) else 0) = 1 then x else y) = if b = true then x else y := by cases b <;> rfl
theorem z01 {b : Bool} : zok (if b = true then (1 : Int32) else 0) = true := by cases b <;> decide
theorem jabs_n {a b : Nat} (ha : a < 2 ^ 30) (hb : b < 2 ^ 30) : jabs (nI a - nI b) = nI (a - b + (b - a)) := by
  unfold jabs
  rcases Nat.le_total b a with h | h
  · rw [pk_sub h, if_pos (by rw [show (0 : Int32) = nI 0 from rfl]; exact nI_le (Nat.zero_le _) (by omega))]
    congr 1; omega
  · by_cases e : a = b
    · subst e
      rw [pk_sub (Nat.le_refl _), if_pos (by rw [show (0 : Int32) = nI 0 from rfl]; exact nI_le (Nat.zero_le _) (by omega))]
      congr 1; omega
    · rw [if_neg (Int32.not_le.mpr (pk_sneg hb (by omega)))]
      have h2 : (0 : Int32) - (nI a - nI b) = nI b - nI a := by
        rw [Int32.zero_sub, Int32.neg_sub]
      rw [h2, pk_sub h]
      congr 1; omega
