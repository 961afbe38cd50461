/-! CALLS: bytes come to the tape -/
theorem s_u64 : ∀ k, k < 8 → (((nI (8 * k)).toInt64.toUInt64 &&& Int64.toUInt64 63).toBitVec % 64).toNat = 8 * k := by decide +kernel
theorem s_l64 : ∀ k, k < 8 → ((((nI (8 * k)).toInt64 &&& 63) : Int64).toBitVec.smod 64).toNat = 8 * k := by decide +kernel
theorem bl_ushr (k : Nat) (hk : k < 8) (x : Int64) (i : Nat) : ((x.toUInt64 >>> ((nI (8 * k)).toInt64.toUInt64 &&& Int64.toUInt64 63)).toInt64).toBitVec.getLsbD i = x.toBitVec.getLsbD (8 * k + i) := by
  show (x.toUInt64 >>> ((nI (8 * k)).toInt64.toUInt64 &&& Int64.toUInt64 63)).toBitVec.getLsbD i = x.toUInt64.toBitVec.getLsbD (8 * k + i)
  rw [UInt64.toBitVec_shiftRight]
  show (x.toUInt64.toBitVec >>> (((nI (8 * k)).toInt64.toUInt64 &&& Int64.toUInt64 63).toBitVec % 64).toNat).getLsbD i = _
  rw [s_u64 k hk, BitVec.getLsbD_ushiftRight]
theorem bl_sshr (k : Nat) (hk : k < 8) (x : Int64) {i : Nat} (hi : i < 8) : (x >>> ((nI (8 * k)).toInt64 &&& 63)).toBitVec.getLsbD i = x.toBitVec.getLsbD (8 * k + i) := by
  rw [Int64.toBitVec_shiftRight]
  show (x.toBitVec.sshiftRight ((((nI (8 * k)).toInt64 &&& 63) : Int64).toBitVec.smod 64).toNat).getLsbD i = _
  rw [s_l64 k hk, BitVec.getLsbD_sshiftRight]
  have h1 : ¬ (64 ≤ i) := by omega
  have h2 : 8 * k + i < 64 := by omega
  simp [h1, h2]
theorem bt_i64 (y : Int64) {i : Nat} (hi : i < 32) : bt y.toInt32 i = y.toBitVec.getLsbD i := by
  show (y.toBitVec.signExtend 32).getLsbD i = _
  rw [BitVec.getLsbD_signExtend, decide_eq_true hi, if_pos (by omega), Bool.true_and]
theorem bt_i8 (x : Int32) {i : Nat} (hi : i < 32) : bt x.toInt8.toInt32 i = if i < 8 then bt x i else bt x 7 := by
  show ((x.toBitVec.signExtend 8).signExtend 32).getLsbD i = _
  rw [BitVec.getLsbD_signExtend, decide_eq_true hi, Bool.true_and]
  by_cases h : i < 8
  · rw [if_pos h, if_pos h, BitVec.getLsbD_signExtend, decide_eq_true h, if_pos (by omega), Bool.true_and]; rfl
  · rw [if_neg h, if_neg h, BitVec.msb_eq_getLsbD_last, BitVec.getLsbD_signExtend]; rfl
theorem sb_bits : ∀ b, b < 256 → ∀ i, i < 32 → bt (sb b) i = if i < 8 then b.testBit i else b.testBit 7 := by decide +kernel
def byt (x : Int64) (k : Nat) : Nat := mk (fun i => x.toBitVec.getLsbD (8 * k + i)) 8
theorem byt_lt (x : Int64) (k : Nat) : byt x k < 256 := by
  refine Nat.lt_pow_two_of_testBit (n := 8) _ fun i hi => ?_
  rw [byt, mk_bit, decide_eq_false (by omega)]; rfl
theorem cls_byte (x : Int64) {k : Nat} (hk : k < 8) : ((((x.toUInt64 >>> ((nI (8 * k)).toInt64.toUInt64 &&& Int64.toUInt64 63)).toInt64).toInt32).toInt8.toInt32).toInt8.toInt32 = sb (byt x k) := by
  refine b_ext fun i hi => ?_
  rw [sb_bits _ (byt_lt x k) i hi, bt_i8 _ hi, bt_i8 _ hi, bt_i8 _ (by decide : 7 < 32), bt_i64 _ hi, bt_i64 _ (by decide : 7 < 32), bl_ushr k hk, bl_ushr k hk, byt, mk_bit, mk_bit]
  by_cases h : i < 8
  · rw [if_pos h, if_pos h, if_pos h, decide_eq_true h]; rfl
  · rw [if_neg h, if_neg h]; rfl
theorem ref_byte (x : Int64) {k : Nat} (hk : k < 8) : ((x >>> ((nI (8 * k)).toInt64 &&& 63)) &&& (255 : Int64)).toInt32 = nI (byt x k) := by
  refine b_ext fun i hi => ?_
  rw [bt_i64 _ hi, bt_nI _ hi, byt, mk_bit, Int64.toBitVec_and, BitVec.getLsbD_and]
  have h255 : (255 : Int64).toBitVec.getLsbD i = decide (i < 8) := (by decide +kernel : ∀ i, i < 32 → (255 : Int64).toBitVec.getLsbD i = decide (i < 8)) i hi
  rw [h255]
  by_cases h : i < 8
  · rw [bl_sshr k hk x h, decide_eq_true h, Bool.and_true, Bool.true_and]
  · rw [decide_eq_false h, Bool.and_false, Bool.false_and]
section FEED
variable {J : Sh} {R : Rw} {I : Iw} {D : Dt}
theorem q_take18 (hR : Lay R) {x : Int64} {s n : Nat} (hn : n ≤ 8) (hs : s + n ≤ 200) : ∀ (r k f : Nat) (I : Iw), k + r = n → r < f → I 33 0 = nI (s + k) → (∀ j, j < k → I 34 (s + j) = sb (byt x j)) →
    ∃ I', f_X3_take_18 (S0 ++ J) R f I 33 x (nI n) (nI k) = some (I', nI (s + n)) ∧ I' 33 0 = nI (s + n) ∧ (∀ j, j < n → I' 34 (s + j) = sb (byt x j)) ∧ ∀ a j, ¬ (a = 33 ∧ j = 0) → ¬ (a = 34 ∧ s ≤ j) → I' a j = I a j := by
  intro r
  induction r with
  | zero =>
    intro k f I hk hf h0 hI
    obtain ⟨f, rfl⟩ := Nat.exists_eq_succ_of_ne_zero (n := f) (by omega)
    have : k = n := by omega
    subst this
    refine ⟨I, ?_, h0, hI, fun _ _ _ _ => rfl⟩
    rw [f_X3_take_18, if_pos (by rw [n_le (by omega) (by omega)]; omega)]
    simp (disch := omega) only [so_33, h0, lit, gp1, rl1, rs1, bd1, lt1, n_add, n_sub, n_dec, n_le, n_lt, n_eq, n_in, nI_clamp, n_mul, m_or, m_and, m_pow, m_bit, m_dif, n_neg, yn_0, yn_1, yn_z, yn_d, one31, Nat.add_sub_cancel, Nat.not_lt_zero, if_true, if_false, ite_true, ite_false, Bool.true_eq_false, Bool.false_eq_true, Nat.add_zero, Nat.zero_add]
  | succ r ih =>
    intro k f I hk hf h0 hI
    obtain ⟨f, rfl⟩ := Nat.exists_eq_succ_of_ne_zero (n := f) (by omega)
    have hb := cls_byte x (show k < 8 by omega)
    obtain ⟨I', e1, e2, e3, e4⟩ := ih (k + 1) f (up2 (up2 I 34 (s + k) (sb (byt x k))) 33 0 (nI (s + k + 1))) (by omega) (by omega) (by rw [u_eq, if_pos ⟨rfl, rfl⟩]; rfl) (fun j hj => by
      rw [u_eq, if_neg (by omega), u_eq]
      by_cases q : j = k
      · rw [if_pos ⟨rfl, by omega⟩, q]
      · rw [if_neg (by omega)]; exact hI j (by omega))
    refine ⟨I', ?_, e2, e3, fun a j a1 a2 => by rw [e4 a j a1 a2, u_eq, if_neg a1, u_eq, if_neg (by omega)]⟩
    rw [f_X3_take_18, if_neg (by rw [n_le (by omega) (by omega)]; omega)]
    simp (disch := omega) only [so_33, ao_34, ly_33_1 hR, ly_33_2 hR, ly_33_3 hR, ly_33_6 hR, h0, hb, u_eq, Nat.reduceEqDiff, false_and, and_false, true_and, and_true, and_self, not_false_eq_true, lit, gp1, rl1, rs1, bd1, lt1, n_add, n_sub, n_dec, n_le, n_lt, n_eq, n_in, nI_clamp, n_mul, m_or, m_and, m_pow, m_bit, m_dif, n_neg, yn_0, yn_1, yn_z, yn_d, one31, Nat.add_sub_cancel, Nat.not_lt_zero, if_true, if_false, ite_true, ite_false, Bool.true_eq_false, Bool.false_eq_true, Nat.add_zero, Nat.zero_add]
    exact e1
theorem m_feed30 (hR : Lay R) {x : Int64} {s n : Nat} (hn : n ≤ 8) (hs : s + n ≤ 200) : ∀ (r k f : Nat) (I : Iw), k + r = n → r < f → I 65 5 = nI (s + k) → (∀ j, j < k → I 69 (s + j) = nI (byt x j)) →
    ∃ I', f_X12_feed_30 (S0 ++ J) R f I 65 x (nI n) (nI k) = some (I', nI (s + n)) ∧ I' 65 5 = nI (s + n) ∧ (∀ j, j < n → I' 69 (s + j) = nI (byt x j)) ∧ ∀ a j, ¬ (a = 65 ∧ j = 5) → ¬ (a = 69 ∧ s ≤ j) → I' a j = I a j := by
  intro r
  induction r with
  | zero =>
    intro k f I hk hf h0 hI
    obtain ⟨f, rfl⟩ := Nat.exists_eq_succ_of_ne_zero (n := f) (by omega)
    have : k = n := by omega
    subst this
    refine ⟨I, ?_, h0, hI, fun _ _ _ _ => rfl⟩
    rw [f_X12_feed_30, if_pos (by rw [n_le (by omega) (by omega)]; omega)]
    simp (disch := omega) only [so_65, h0, lit, gp1, rl1, rs1, bd1, lt1, n_add, n_sub, n_dec, n_le, n_lt, n_eq, n_in, nI_clamp, n_mul, m_or, m_and, m_pow, m_bit, m_dif, n_neg, yn_0, yn_1, yn_z, yn_d, one31, Nat.add_sub_cancel, Nat.not_lt_zero, if_true, if_false, ite_true, ite_false, Bool.true_eq_false, Bool.false_eq_true, Nat.add_zero, Nat.zero_add]
  | succ r ih =>
    intro k f I hk hf h0 hI
    obtain ⟨f, rfl⟩ := Nat.exists_eq_succ_of_ne_zero (n := f) (by omega)
    have hb := ref_byte x (show k < 8 by omega)
    obtain ⟨I', e1, e2, e3, e4⟩ := ih (k + 1) f (up2 (up2 I 69 (s + k) (nI (byt x k))) 65 5 (nI (s + k + 1))) (by omega) (by omega) (by rw [u_eq, if_pos ⟨rfl, rfl⟩]; rfl) (fun j hj => by
      rw [u_eq, if_neg (by omega), u_eq]
      by_cases q : j = k
      · rw [if_pos ⟨rfl, by omega⟩, q]
      · rw [if_neg (by omega)]; exact hI j (by omega))
    refine ⟨I', ?_, e2, e3, fun a j a1 a2 => by rw [e4 a j a1 a2, u_eq, if_neg a1, u_eq, if_neg (by omega)]⟩
    rw [f_X12_feed_30, if_neg (by rw [n_le (by omega) (by omega)]; omega)]
    simp (disch := omega) only [so_65, ly_65_0 hR, ly_65_1 hR, ly_65_2 hR, ly_65_4 hR, ly_65_11 hR, ly_65_13 hR, ly_65_14 hR, ly_65_15 hR, ly_65_16 hR, ly_65_17 hR, ly_65_18 hR, ly_65_19 hR, ly_65_20 hR, ly_65_22 hR, ly_65_24 hR, ly_65_25 hR, ly_65_26 hR, ly_65_27 hR, ly_65_28 hR, ly_65_29 hR, ly_65_30 hR, ao_69, h0, hb, u_eq, Nat.reduceEqDiff, false_and, and_false, true_and, and_true, and_self, not_false_eq_true, lit, gp1, rl1, rs1, bd1, lt1, n_add, n_sub, n_dec, n_le, n_lt, n_eq, n_in, nI_clamp, n_mul, m_or, m_and, m_pow, m_bit, m_dif, n_neg, yn_0, yn_1, yn_z, yn_d, one31, Nat.add_sub_cancel, Nat.not_lt_zero, if_true, if_false, ite_true, ite_false, Bool.true_eq_false, Bool.false_eq_true, Nat.add_zero, Nat.zero_add]
    exact e1
theorem z_feed {n0 : Nat} (hR : Lay R) (h : Core I D (16 * n0)) (hK : Rest (S0 ++ J) R I) (x : Int64) (x3 : Int32) : ZR n0 (S0 ++ J) R (f_X11_feed (S0 ++ J) R I 0 x x3) (fun I1 => f_X12_feed (S0 ++ J) R I1 65 x x3) := by
  have ⟨hC, hM, hV, hT⟩ := h
  obtain ⟨s, s200, t1, t2, t3⟩ := hK.2.1
  cases b1 : btw x3 (nI 1) (nI 8) with
  | false => exact ZR_ZZ hR hK (ZZ_no h (r := -nI 1) (by simp (disch := omega) only [f_X11_feed, x_btw, b1, lit, gp1, rl1, rs1, bd1, lt1, n_add, n_sub, n_dec, n_le, n_lt, n_eq, n_in, nI_clamp, n_mul, m_or, m_and, m_pow, m_bit, m_dif, n_neg, yn_0, yn_1, yn_z, yn_d, one31, Nat.add_sub_cancel, Nat.not_lt_zero, if_true, if_false, ite_true, ite_false, Bool.true_eq_false, Bool.false_eq_true, Nat.add_zero, Nat.zero_add]) (by simp (disch := omega) only [f_X12_feed, m_btw, b1, lit, gp1, rl1, rs1, bd1, lt1, n_add, n_sub, n_dec, n_le, n_lt, n_eq, n_in, nI_clamp, n_mul, m_or, m_and, m_pow, m_bit, m_dif, n_neg, yn_0, yn_1, yn_z, yn_d, one31, Nat.add_sub_cancel, Nat.not_lt_zero, if_true, if_false, ite_true, ite_false, Bool.true_eq_false, Bool.false_eq_true, Nat.add_zero, Nat.zero_add]))
  | true =>
    obtain ⟨n, n1, n8, rfl⟩ := btw_e (by decide) (by decide) b1
    by_cases hs : s + n ≤ 200
    · obtain ⟨I1, e1, e2, e3, e4⟩ := q_take18 (J := J) (x := x) (s := s) hR n8 hs n 0 512 I (by omega) (by omega) t1 (fun j hj => absurd hj (Nat.not_lt_zero j))
      obtain ⟨I2, g1, g2, g3, g4⟩ := m_feed30 (J := J) (x := x) (s := s) hR n8 hs n 0 512 I1 (by omega) (by omega) (by rw [e4 65 5 (by omega) (by omega)]; exact t2) (fun j hj => absurd hj (Nat.not_lt_zero j))
      have fr : ∀ a j, ¬ (a = 33 ∧ j = 0) → ¬ (a = 34 ∧ s ≤ j) → ¬ (a = 65 ∧ j = 5) → ¬ (a = 69 ∧ s ≤ j) → I2 a j = I a j := fun a j a1 a2 a3 a4 => by rw [g4 a j a3 a4, e4 a j a1 a2]
      have t2' : I1 65 5 = nI s := by rw [e4 65 5 (by omega) (by omega)]; exact t2
      refine ⟨I1, nI (s + n), I2, ?_, ?_, J, D, rfl, hR, Core_to ⟨CR_fr (fun a j q1 q2 => fr a j (by omega) (by omega) (by omega) (by omega)) hC, MR_fr (fun j => fr 66 j (by omega) (by omega) (by omega) (by omega)) hM, hV, ST_up (by omega) (ST_fr (fun a j q => fr a j (by omega) (by omega) (by omega) (by omega)) hT)⟩, KP_s (fun a j q => fr a j (by omega) (by omega) (by omega) (by omega)) hK.1, ⟨s + n, hs, ?_, g2, fun k hk => ?_⟩, RW_s (fun a j q => fr a j (by omega) (by omega) (by omega) (by omega)) hK.2.2.1, SH_s (fun a j q => fr a j (by omega) (by omega) (by omega) (by omega)) hK.2.2.2.1, SV_s (fun a j q => fr a j (by omega) (by omega) (by omega) (by omega)) hK.2.2.2.2.1, TH_s (fun a j q => fr a j (by omega) (by omega) (by omega) (by omega)) hK.2.2.2.2.2⟩
      · simp (disch := omega) only [f_X11_feed, f_X3_take, x_btw, b1, so_0, ly_0_0 hR, ly_0_1 hR, ly_0_3 hR, ly_0_4 hR, ly_0_5 hR, ly_0_7 hR, ly_0_8 hR, ly_0_9 hR, ly_0_10 hR, so_33, ly_33_1 hR, ly_33_2 hR, ly_33_3 hR, ly_33_6 hR, t1, hs, lit, gp1, rl1, rs1, bd1, lt1, n_add, n_sub, n_dec, n_le, n_lt, n_eq, n_in, nI_clamp, n_mul, m_or, m_and, m_pow, m_bit, m_dif, n_neg, yn_0, yn_1, yn_z, yn_d, one31, Nat.add_sub_cancel, Nat.not_lt_zero, if_true, if_false, ite_true, ite_false, Bool.true_eq_false, Bool.false_eq_true, Nat.add_zero, Nat.zero_add]
        exact congrArg (fun z => bd z (fun r6 => some (r6.1, r6.2))) e1
      · simp (disch := omega) only [f_X12_feed, m_btw, b1, so_65, ly_65_0 hR, ly_65_1 hR, ly_65_2 hR, ly_65_4 hR, ly_65_11 hR, ly_65_13 hR, ly_65_14 hR, ly_65_15 hR, ly_65_16 hR, ly_65_17 hR, ly_65_18 hR, ly_65_19 hR, ly_65_20 hR, ly_65_22 hR, ly_65_24 hR, ly_65_25 hR, ly_65_26 hR, ly_65_27 hR, ly_65_28 hR, ly_65_29 hR, ly_65_30 hR, t2', hs, lit, gp1, rl1, rs1, bd1, lt1, n_add, n_sub, n_dec, n_le, n_lt, n_eq, n_in, nI_clamp, n_mul, m_or, m_and, m_pow, m_bit, m_dif, n_neg, yn_0, yn_1, yn_z, yn_d, one31, Nat.add_sub_cancel, Nat.not_lt_zero, if_true, if_false, ite_true, ite_false, Bool.true_eq_false, Bool.false_eq_true, Nat.add_zero, Nat.zero_add]
        exact g1
      · rw [g4 33 0 (by omega) (by omega)]; exact e2
      · by_cases q : k < s
        · obtain ⟨b, b1, b2, b3⟩ := t3 k q
          exact ⟨b, b1, (fr 69 k (by omega) (by omega) (by omega) (by omega)).trans b2, (fr 34 k (by omega) (by omega) (by omega) (by omega)).trans b3⟩
        · refine ⟨byt x (k - s), byt_lt x _, ?_, ?_⟩
          · have := g3 (k - s) (by omega)
            rwa [show s + (k - s) = k by omega] at this
          · rw [g4 34 k (by omega) (by omega)]
            have := e3 (k - s) (by omega)
            rwa [show s + (k - s) = k by omega] at this
    · exact ZR_ZZ hR hK (ZZ_no h (r := -nI 2) (by simp (disch := omega) only [f_X11_feed, f_X3_take, x_btw, b1, so_0, ly_0_0 hR, ly_0_1 hR, ly_0_3 hR, ly_0_4 hR, ly_0_5 hR, ly_0_7 hR, ly_0_8 hR, ly_0_9 hR, ly_0_10 hR, so_33, ly_33_1 hR, ly_33_2 hR, ly_33_3 hR, ly_33_6 hR, t1, hs, lit, gp1, rl1, rs1, bd1, lt1, n_add, n_sub, n_dec, n_le, n_lt, n_eq, n_in, nI_clamp, n_mul, m_or, m_and, m_pow, m_bit, m_dif, n_neg, yn_0, yn_1, yn_z, yn_d, one31, Nat.add_sub_cancel, Nat.not_lt_zero, if_true, if_false, ite_true, ite_false, Bool.true_eq_false, Bool.false_eq_true, Nat.add_zero, Nat.zero_add]) (by simp (disch := omega) only [f_X12_feed, m_btw, b1, so_65, ly_65_0 hR, ly_65_1 hR, ly_65_2 hR, ly_65_4 hR, ly_65_11 hR, ly_65_13 hR, ly_65_14 hR, ly_65_15 hR, ly_65_16 hR, ly_65_17 hR, ly_65_18 hR, ly_65_19 hR, ly_65_20 hR, ly_65_22 hR, ly_65_24 hR, ly_65_25 hR, ly_65_26 hR, ly_65_27 hR, ly_65_28 hR, ly_65_29 hR, ly_65_30 hR, t2, hs, lit, gp1, rl1, rs1, bd1, lt1, n_add, n_sub, n_dec, n_le, n_lt, n_eq, n_in, nI_clamp, n_mul, m_or, m_and, m_pow, m_bit, m_dif, n_neg, yn_0, yn_1, yn_z, yn_d, one31, Nat.add_sub_cancel, Nat.not_lt_zero, if_true, if_false, ite_true, ite_false, Bool.true_eq_false, Bool.false_eq_true, Nat.add_zero, Nat.zero_add]))
end FEED
