/-! CALLS: rows, and who reads them -/
theorem KP_s {I I' : Iw} (h : ∀ a j, (a = 0 ∧ j = 2) ∨ (a = 65 ∧ j = 3) ∨ (17 ≤ a ∧ a ≤ 32) ∨ a = 67 → I' a j = I a j) (hK : KPp I) : KPp I' := by
  obtain ⟨b, h1, h2, h3⟩ := hK
  refine ⟨b, (h 0 2 (by omega)).trans h1, (h 65 3 (by omega)).trans h2, fun hb => ?_⟩
  obtain ⟨K, k1, k2, k3⟩ := h3 hb
  exact ⟨K, CR_fr (fun k j q1 q2 => h k j (by omega)) k1, MR_fr (fun j => h 67 j (by omega)) k2, k3⟩
theorem TP_s {I I' : Iw} (h : ∀ a j, (a = 33 ∧ j = 0) ∨ (a = 65 ∧ j = 5) ∨ a = 69 ∨ a = 34 → I' a j = I a j) (hK : TPp I) : TPp I' := by
  obtain ⟨n, h0, h1, h2, h3⟩ := hK
  refine ⟨n, h0, (h 33 0 (by omega)).trans h1, (h 65 5 (by omega)).trans h2, fun k hk => ?_⟩
  obtain ⟨b, b1, b2, b3⟩ := h3 k hk
  exact ⟨b, b1, (h 69 k (by omega)).trans b2, (h 34 k (by omega)).trans b3⟩
theorem RW_s {I I' : Iw} (h : ∀ a j, (a = 0 ∧ j = 6) ∨ (a = 65 ∧ j = 23) ∨ a = 52 ∨ a = 79 → I' a j = I a j) (hK : RWp I) : RWp I' := by
  obtain ⟨n, h0, h1, h2, h3⟩ := hK
  exact ⟨n, h0, (h 0 6 (by omega)).trans h1, (h 65 23 (by omega)).trans h2, fun j hj => by rw [h 52 j (by omega), h 79 j (by omega)]; exact h3 j hj⟩
theorem SH_s {I I' : Iw} (h : ∀ a j, (57 ≤ a ∧ a ≤ 64) ∨ (80 ≤ a ∧ a ≤ 82) → I' a j = I a j) (hK : SHp I) : SHp I' := by
  intro s hs
  obtain ⟨n, h0, h1, h2, h3, h4, h5⟩ := hK s hs
  refine ⟨n, h0, ?_, (h _ 1 (by omega)).trans h2, (h 82 s (by omega)).trans h3, ?_, fun j hj => ?_⟩
  · rw [h _ 0 (by omega), h 81 s (by omega)]; exact h1
  · rw [h 81 s (by omega)]; exact h4
  · rw [h _ j (by omega), h 80 _ (by omega)]; exact h5 j hj
theorem SV_s {I I' : Iw} (h : ∀ a j, (54 ≤ a ∧ a ≤ 56) ∨ (83 ≤ a ∧ a ≤ 85) → I' a j = I a j) (hK : SVp I) : SVp I' := by
  intro s hs
  rw [h 54 s (by omega), h 55 s (by omega), h 56 s (by omega), h 83 s (by omega), h 84 s (by omega), h 85 s (by omega)]
  exact hK s hs
theorem TH_s {S : Sh} {R : Rw} {I I' : Iw} (h : ∀ a j, (a = 65 ∧ j = 31) ∨ 86 ≤ a → I' a j = I a j) (hK : THp S R I) : THp S R I' := by
  rcases hK with ⟨h1, h2⟩ | ⟨a, n, h1, h2, h3, h4, h5, h6, h7, h8, h9⟩
  · exact Or.inl ⟨h1, (h 65 31 (by omega)).trans h2⟩
  · refine Or.inr ⟨a, n, h1, h2, h3, h4, h5, h6, (h a 3 (by omega)).trans h7, (h 65 31 (by omega)).trans h8, fun k hk => ?_⟩
    rw [h (a + 1) k (by omega), h 86 k (by omega)]
    exact h9 k hk
/-- a call of both sides, the world and the rest with it -/
def ZR (n : Nat) (S : Sh) (R : Rw) (c : Option (Iw × Int32)) (m : Iw → Option (Iw × Int32)) : Prop := ∃ I1 r I2, c = some (I1, r) ∧ m I1 = some (I2, r) ∧ Rel (n + 1) S R I2
theorem Core_to {I : Iw} {D : Dt} {n : Nat} (h : Core I D (16 * n + 16)) : Core I D (16 * (n + 1)) := by rw [Nat.mul_succ]; exact h
theorem ZR_ZZ {J : Sh} {R : Rw} {I : Iw} {n : Nat} {c : Option (Iw × Int32)} {m : Iw → Option (Iw × Int32)} (hR : Lay R) (hK : Rest (S0 ++ J) R I) (h : ZZ I (16 * n) c m) : ZR n (S0 ++ J) R c m := by
  obtain ⟨I1, r, I2, D', h1, h2, h3, h4⟩ := h
  exact ⟨I1, r, I2, h1, h2, J, D', rfl, hR, Core_to h3, Rest_fr h4 hK⟩
section ROWCALLS
variable {J : Sh} {R : Rw} {I : Iw} {D : Dt} {T : Nat}
theorem q_cell (hR : Lay R) (hn : ∃ n, n ≤ 9 ∧ I 0 6 = nI n) (x1 x2 : Int32) : ∃ n, n ≤ 9 ∧ I 0 6 = nI n ∧ f_X11_isCell (S0 ++ J) R I 0 x1 x2 = some (yn (ltb n x1 && btw x2 (nI 0) (nI 2))) := by
  obtain ⟨n, n9, h6⟩ := hn
  refine ⟨n, n9, h6, ?_⟩
  rw [f_X11_isCell]
  cases b1 : ltb n x1 with
  | false =>
    rcases ltb_f (by omega) b1 with q | ⟨q1, q2⟩
    · rw [if_pos q]; rfl
    · rw [if_neg q1]
      simp (disch := omega) only [so_0, ly_0_0 hR, ly_0_1 hR, ly_0_3 hR, ly_0_4 hR, ly_0_5 hR, ly_0_7 hR, ly_0_8 hR, ly_0_9 hR, ly_0_10 hR, h6, lit, gp1, rl1, rs1, bd1, lt1, n_add, n_sub, n_dec, n_le, n_lt, n_eq, n_in, nI_clamp, n_mul, m_or, m_and, m_pow, m_bit, m_dif, n_neg, yn_0, yn_1, yn_z, yn_d, one31, Nat.add_sub_cancel, Nat.not_lt_zero, if_true, if_false, ite_true, ite_false, Bool.true_eq_false, Bool.false_eq_true, Nat.add_zero, Nat.zero_add]
      rw [if_pos q2]; rfl
  | true =>
    obtain ⟨k, hk, rfl⟩ := ltb_e (by omega) b1
    rw [if_neg (nI_pos (by omega))]
    simp (disch := omega) only [so_0, ly_0_0 hR, ly_0_1 hR, ly_0_3 hR, ly_0_4 hR, ly_0_5 hR, ly_0_7 hR, ly_0_8 hR, ly_0_9 hR, ly_0_10 hR, h6, x_btw, lit, gp1, rl1, rs1, bd1, lt1, n_add, n_sub, n_dec, n_le, n_lt, n_eq, n_in, nI_clamp, n_mul, m_or, m_and, m_pow, m_bit, m_dif, n_neg, yn_0, yn_1, yn_z, yn_d, one31, Nat.add_sub_cancel, Nat.not_lt_zero, if_true, if_false, ite_true, ite_false, Bool.true_eq_false, Bool.false_eq_true, Nat.add_zero, Nat.zero_add]
    rw [if_neg (by omega)]
    cases btw x2 (nI 0) (nI 2) <;> rfl
theorem m_isRow (hR : Lay R) {n : Nat} (n9 : n ≤ 9) (h : I 65 23 = nI n) (x1 x2 : Int32) : f_X12_isRow (S0 ++ J) R I 65 x1 x2 = some (yn (ltb n x1 && btw x2 (nI 0) (nI 2))) := by
  rw [f_X12_isRow]
  simp (disch := omega) only [so_65, ly_65_0 hR, ly_65_1 hR, ly_65_2 hR, ly_65_4 hR, ly_65_11 hR, ly_65_13 hR, ly_65_14 hR, ly_65_15 hR, ly_65_16 hR, ly_65_17 hR, ly_65_18 hR, ly_65_19 hR, ly_65_20 hR, ly_65_22 hR, ly_65_24 hR, ly_65_25 hR, ly_65_26 hR, ly_65_27 hR, ly_65_28 hR, ly_65_29 hR, ly_65_30 hR, h, m_btw, btw_lt, lit, gp1, rl1, rs1, bd1, lt1, n_add, n_sub, n_dec, n_le, n_lt, n_eq, n_in, nI_clamp, n_mul, m_or, m_and, m_pow, m_bit, m_dif, n_neg, yn_0, yn_1, yn_z, yn_d, one31, Nat.add_sub_cancel, Nat.not_lt_zero, if_true, if_false, ite_true, ite_false, Bool.true_eq_false, Bool.false_eq_true, Nat.add_zero, Nat.zero_add]
  cases ltb n x1 <;> cases btw x2 (nI 0) (nI 2) <;> rfl
theorem z_row (hR : Lay R) (hW : RWp I) (x1 x2 : Int32) : ZQ (f_X11_row (S0 ++ J) R I 0 x1 x2) (f_X12_row (S0 ++ J) R I 65 x1 x2) := by
  obtain ⟨n, n9, h1, h2, h3⟩ := hW
  obtain ⟨n', n9', h1', hc⟩ := q_cell (J := J) hR ⟨n, n9, h1⟩ x1 x2
  have : n' = n := by rw [h1, n_eq (by omega) (by omega)] at h1'; exact h1'.symm
  subst this
  have hr := m_isRow (J := J) hR n9 h2 x1 x2
  cases b : ltb n' x1 && btw x2 (nI 0) (nI 2) with
  | false => exact ⟨-nI 9, by simp (disch := omega) only [f_X11_row, so_0, ly_0_0 hR, ly_0_1 hR, ly_0_3 hR, ly_0_4 hR, ly_0_5 hR, ly_0_7 hR, ly_0_8 hR, ly_0_9 hR, ly_0_10 hR, hc, b, lit, gp1, rl1, rs1, bd1, lt1, n_add, n_sub, n_dec, n_le, n_lt, n_eq, n_in, nI_clamp, n_mul, m_or, m_and, m_pow, m_bit, m_dif, n_neg, yn_0, yn_1, yn_z, yn_d, one31, Nat.add_sub_cancel, Nat.not_lt_zero, if_true, if_false, ite_true, ite_false, Bool.true_eq_false, Bool.false_eq_true, Nat.add_zero, Nat.zero_add], by simp (disch := omega) only [f_X12_row, so_65, ly_65_0 hR, ly_65_1 hR, ly_65_2 hR, ly_65_4 hR, ly_65_11 hR, ly_65_13 hR, ly_65_14 hR, ly_65_15 hR, ly_65_16 hR, ly_65_17 hR, ly_65_18 hR, ly_65_19 hR, ly_65_20 hR, ly_65_22 hR, ly_65_24 hR, ly_65_25 hR, ly_65_26 hR, ly_65_27 hR, ly_65_28 hR, ly_65_29 hR, ly_65_30 hR, hr, b, lit, gp1, rl1, rs1, bd1, lt1, n_add, n_sub, n_dec, n_le, n_lt, n_eq, n_in, nI_clamp, n_mul, m_or, m_and, m_pow, m_bit, m_dif, n_neg, yn_0, yn_1, yn_z, yn_d, one31, Nat.add_sub_cancel, Nat.not_lt_zero, if_true, if_false, ite_true, ite_false, Bool.true_eq_false, Bool.false_eq_true, Nat.add_zero, Nat.zero_add]⟩
  | true =>
    have ⟨b1, b2⟩ := Bool.and_eq_true _ _ ▸ b
    obtain ⟨k, hk, rfl⟩ := ltb_e (by omega) b1
    obtain ⟨w, -, w2, rfl⟩ := btw_e (by decide) (by decide) b2
    have e : I 52 (k * 3 + w) = I 79 (3 * k + w) := by rw [Nat.mul_comm k 3]; exact h3 _ (by omega)
    exact ⟨I 79 (3 * k + w), by simp (disch := omega) only [f_X11_row, so_0, ly_0_0 hR, ly_0_1 hR, ly_0_3 hR, ly_0_4 hR, ly_0_5 hR, ly_0_7 hR, ly_0_8 hR, ly_0_9 hR, ly_0_10 hR, ao_52, hc, b, e, lit, gp1, rl1, rs1, bd1, lt1, n_add, n_sub, n_dec, n_le, n_lt, n_eq, n_in, nI_clamp, n_mul, m_or, m_and, m_pow, m_bit, m_dif, n_neg, yn_0, yn_1, yn_z, yn_d, one31, Nat.add_sub_cancel, Nat.not_lt_zero, if_true, if_false, ite_true, ite_false, Bool.true_eq_false, Bool.false_eq_true, Nat.add_zero, Nat.zero_add], by simp (disch := omega) only [f_X12_row, so_65, ly_65_0 hR, ly_65_1 hR, ly_65_2 hR, ly_65_4 hR, ly_65_11 hR, ly_65_13 hR, ly_65_14 hR, ly_65_15 hR, ly_65_16 hR, ly_65_17 hR, ly_65_18 hR, ly_65_19 hR, ly_65_20 hR, ly_65_22 hR, ly_65_24 hR, ly_65_25 hR, ly_65_26 hR, ly_65_27 hR, ly_65_28 hR, ly_65_29 hR, ly_65_30 hR, ao_79, hr, b, lit, gp1, rl1, rs1, bd1, lt1, n_add, n_sub, n_dec, n_le, n_lt, n_eq, n_in, nI_clamp, n_mul, m_or, m_and, m_pow, m_bit, m_dif, n_neg, yn_0, yn_1, yn_z, yn_d, one31, Nat.add_sub_cancel, Nat.not_lt_zero, if_true, if_false, ite_true, ite_false, Bool.true_eq_false, Bool.false_eq_true, Nat.add_zero, Nat.zero_add]⟩
theorem z_alterRow {n0 : Nat} (hR : Lay R) (h : Core I D (16 * n0)) (hK : Rest (S0 ++ J) R I) (x1 x2 x3 : Int32) : ZR n0 (S0 ++ J) R (f_X11_alterRow (S0 ++ J) R I 0 x1 x2 x3) (fun I1 => f_X12_alterRow (S0 ++ J) R I1 65 x1 x2 x3) := by
  have ⟨hC, hM, hV, hT⟩ := h
  obtain ⟨n, n9, h1, h2, h3⟩ := hK.2.2.1
  obtain ⟨n', n9', h1', hc⟩ := q_cell (J := J) hR ⟨n, n9, h1⟩ x1 x2
  have : n' = n := by rw [h1, n_eq (by omega) (by omega)] at h1'; exact h1'.symm
  subst this
  cases b : ltb n' x1 && btw x2 (nI 0) (nI 2) with
  | false =>
    have hr := m_isRow (J := J) hR n9 h2 x1 x2
    exact ZR_ZZ hR hK (ZZ_no h (r := -nI 9) (by simp (disch := omega) only [f_X11_alterRow, so_0, ly_0_0 hR, ly_0_1 hR, ly_0_3 hR, ly_0_4 hR, ly_0_5 hR, ly_0_7 hR, ly_0_8 hR, ly_0_9 hR, ly_0_10 hR, hc, b, lit, gp1, rl1, rs1, bd1, lt1, n_add, n_sub, n_dec, n_le, n_lt, n_eq, n_in, nI_clamp, n_mul, m_or, m_and, m_pow, m_bit, m_dif, n_neg, yn_0, yn_1, yn_z, yn_d, one31, Nat.add_sub_cancel, Nat.not_lt_zero, if_true, if_false, ite_true, ite_false, Bool.true_eq_false, Bool.false_eq_true, Nat.add_zero, Nat.zero_add]) (by simp (disch := omega) only [f_X12_alterRow, so_65, ly_65_0 hR, ly_65_1 hR, ly_65_2 hR, ly_65_4 hR, ly_65_11 hR, ly_65_13 hR, ly_65_14 hR, ly_65_15 hR, ly_65_16 hR, ly_65_17 hR, ly_65_18 hR, ly_65_19 hR, ly_65_20 hR, ly_65_22 hR, ly_65_24 hR, ly_65_25 hR, ly_65_26 hR, ly_65_27 hR, ly_65_28 hR, ly_65_29 hR, ly_65_30 hR, hr, b, lit, gp1, rl1, rs1, bd1, lt1, n_add, n_sub, n_dec, n_le, n_lt, n_eq, n_in, nI_clamp, n_mul, m_or, m_and, m_pow, m_bit, m_dif, n_neg, yn_0, yn_1, yn_z, yn_d, one31, Nat.add_sub_cancel, Nat.not_lt_zero, if_true, if_false, ite_true, ite_false, Bool.true_eq_false, Bool.false_eq_true, Nat.add_zero, Nat.zero_add]))
  | true =>
    have ⟨b1, b2⟩ := Bool.and_eq_true _ _ ▸ b
    obtain ⟨k, hk, rfl⟩ := ltb_e (by omega) b1
    obtain ⟨w, -, w2, rfl⟩ := btw_e (by decide) (by decide) b2
    have e : I 52 (k * 3 + w) = I 79 (k * 3 + w) := h3 _ (by omega)
    have h2' : up2 I 52 (k * 3 + w) x3 65 23 = nI n' := by rw [u_eq, if_neg (by omega)]; exact h2
    have hr := m_isRow (J := J) hR n9 h2' (nI k) (nI w)
    have hk3 : 3 * k = k * 3 := Nat.mul_comm 3 k
    have fr : ∀ a j, a ≠ 52 → a ≠ 79 → up2 (up2 I 52 (k * 3 + w) x3) 79 (k * 3 + w) x3 a j = I a j := fun a j a1 a2 => by rw [u_eq, if_neg (by omega), u_eq, if_neg (by omega)]
    refine ⟨up2 I 52 (k * 3 + w) x3, I 79 (k * 3 + w), up2 (up2 I 52 (k * 3 + w) x3) 79 (k * 3 + w) x3, by simp (disch := omega) only [f_X11_alterRow, so_0, ly_0_0 hR, ly_0_1 hR, ly_0_3 hR, ly_0_4 hR, ly_0_5 hR, ly_0_7 hR, ly_0_8 hR, ly_0_9 hR, ly_0_10 hR, ao_52, hc, b, e, lit, gp1, rl1, rs1, bd1, lt1, n_add, n_sub, n_dec, n_le, n_lt, n_eq, n_in, nI_clamp, n_mul, m_or, m_and, m_pow, m_bit, m_dif, n_neg, yn_0, yn_1, yn_z, yn_d, one31, Nat.add_sub_cancel, Nat.not_lt_zero, if_true, if_false, ite_true, ite_false, Bool.true_eq_false, Bool.false_eq_true, Nat.add_zero, Nat.zero_add], ?_, J, D, rfl, hR, Core_to ⟨CR_fr (fun a j q1 q2 => fr a j (by omega) (by omega)) hC, MR_fr (fun j => fr 66 j (by decide) (by decide)) hM, hV, ST_up (by omega) (ST_fr (fun a j q => fr a j (by omega) (by omega)) hT)⟩, KP_s (fun a j q => fr a j (by omega) (by omega)) hK.1, TP_s (fun a j q => fr a j (by omega) (by omega)) hK.2.1, ⟨n', n9, ?_, ?_, fun j hj => ?_⟩, SH_s (fun a j q => fr a j (by omega) (by omega)) hK.2.2.2.1, SV_s (fun a j q => fr a j (by omega) (by omega)) hK.2.2.2.2.1, TH_s (fun a j q => fr a j (by omega) (by omega)) hK.2.2.2.2.2⟩
    · simp (disch := omega) only [f_X12_alterRow, so_65, ly_65_0 hR, ly_65_1 hR, ly_65_2 hR, ly_65_4 hR, ly_65_11 hR, ly_65_13 hR, ly_65_14 hR, ly_65_15 hR, ly_65_16 hR, ly_65_17 hR, ly_65_18 hR, ly_65_19 hR, ly_65_20 hR, ly_65_22 hR, ly_65_24 hR, ly_65_25 hR, ly_65_26 hR, ly_65_27 hR, ly_65_28 hR, ly_65_29 hR, ly_65_30 hR, ao_79, hr, b, hk3, u_eq, Nat.reduceEqDiff, false_and, and_false, true_and, and_true, and_self, not_false_eq_true, lit, gp1, rl1, rs1, bd1, lt1, n_add, n_sub, n_dec, n_le, n_lt, n_eq, n_in, nI_clamp, n_mul, m_or, m_and, m_pow, m_bit, m_dif, n_neg, yn_0, yn_1, yn_z, yn_d, one31, Nat.add_sub_cancel, Nat.not_lt_zero, if_true, if_false, ite_true, ite_false, Bool.true_eq_false, Bool.false_eq_true, Nat.add_zero, Nat.zero_add]
    · rw [fr 0 6 (by decide) (by decide)]; exact h1
    · rw [fr 65 23 (by decide) (by decide)]; exact h2
    · rw [u_eq, if_neg (by omega), u_eq, u_eq]
      by_cases q : j = k * 3 + w
      · rw [if_pos ⟨rfl, q⟩, if_pos ⟨rfl, q⟩]
      · rw [if_neg (fun z => q z.2), if_neg (fun z => q z.2), u_eq, if_neg (by omega)]; exact h3 j hj
/-- the reading of rows v from row k on -/
def okb (v : Nat → Int32) (k : Nat) (D : Dt) : Bool := ltb (d_n D) (v (3 * k)) && (mayb D (insm D) (lst D) (v (3 * k)).toNatClampNeg && (decide (v (3 * k + 1) = nI (cnt (insm D) - 1)) && decide (v (3 * k + 2) = nI (fee D (v (3 * k)).toNatClampNeg))))
def jdR (v : Nat → Int32) : Nat → Nat → Dt → Nat
  | 0, k, D => if fre D (insm D) (lst D) = 0 then 0 else k
  | r + 1, k, D => if okb v k D then jdR v r (k + 1) (Dout D (v (3 * k)).toNatClampNeg) else k + 1
theorem q_judge18 (hR : Lay R) {D0 : Dt} (hC : CR I 1 D0) (hV0 : VD D0) {n : Nat} (n9 : n ≤ 9) (h6 : I 0 6 = nI n) : ∀ (r k f : Nat) (D : Dt), k + r = n → r < f → VD D → fre D = fre D0 → d_n D = d_n D0 → fee D = fee D0 →
    f_X11_judge_18 (S0 ++ J) R I f 0 (nI (insm D)) (nI (lst D) - nI 1) (nI k) = some (nI (jdR (I 52) r k D)) := by
  intro r
  induction r with
  | zero =>
    intro k f D hk hf hV e1 e2 e3
    obtain ⟨f, rfl⟩ := Nat.exists_eq_succ_of_ne_zero (n := f) (by omega)
    have hm := fre_lt hV (insm D) (lst D)
    have hmg : f_X7_mayGo (S0 ++ J) R I 1 (nI (insm D)) (nI (lst D) - nI 1) = some (nI (fre D (insm D) (lst D))) := by rw [e1]; exact p_mayGo (J := J) hR hC hV0 (insm_lt D) (by rw [← e2]; exact lst_le hV)
    rw [f_X11_judge_18]
    simp (disch := omega) only [so_0, so_1, ly_0_0 hR, ly_0_1 hR, ly_0_3 hR, ly_0_4 hR, ly_0_5 hR, ly_0_7 hR, ly_0_8 hR, ly_0_9 hR, ly_0_10 hR, ly_1_0 hR, ly_1_1 hR, ly_1_2 hR, ly_1_3 hR, ly_1_4 hR, ly_1_7 hR, ly_1_11 hR, ly_1_12 hR, ly_1_13 hR, h6, hmg, lit, gp1, rl1, rs1, bd1, lt1, n_add, n_sub, n_dec, n_le, n_lt, n_eq, n_in, nI_clamp, n_mul, m_or, m_and, m_pow, m_bit, m_dif, n_neg, yn_0, yn_1, yn_z, yn_d, one31, Nat.add_sub_cancel, Nat.not_lt_zero, if_true, if_false, ite_true, ite_false, Bool.true_eq_false, Bool.false_eq_true, Nat.add_zero, Nat.zero_add]
    rw [if_pos (by omega), jdR, show k = n by omega]
    by_cases h0 : fre D (insm D) (lst D) = 0
    · rw [if_pos h0, if_pos h0]
    · rw [if_neg h0, if_neg h0]
  | succ r ih =>
    intro k f D hk hf hV e1 e2 e3
    obtain ⟨f, rfl⟩ := Nat.exists_eq_succ_of_ne_zero (n := f) (by omega)
    have h9 := hV.1
    have hm := fre_lt hV (insm D) (lst D)
    have hmg : f_X7_mayGo (S0 ++ J) R I 1 (nI (insm D)) (nI (lst D) - nI 1) = some (nI (fre D (insm D) (lst D))) := by rw [e1]; exact p_mayGo (J := J) hR hC hV0 (insm_lt D) (by rw [← e2]; exact lst_le hV)
    have hk3 : k * 3 = 3 * k := Nat.mul_comm k 3
    rw [f_X11_judge_18, jdR, okb]
    simp (disch := omega) only [so_0, so_1, ly_0_0 hR, ly_0_1 hR, ly_0_3 hR, ly_0_4 hR, ly_0_5 hR, ly_0_7 hR, ly_0_8 hR, ly_0_9 hR, ly_0_10 hR, ly_1_0 hR, ly_1_1 hR, ly_1_2 hR, ly_1_3 hR, ly_1_4 hR, ly_1_7 hR, ly_1_11 hR, ly_1_12 hR, ly_1_13 hR, ao_52, h6, hk3, q_has hC.1, hmg, lit, gp1, rl1, rs1, bd1, lt1, n_add, n_sub, n_dec, n_le, n_lt, n_eq, n_in, nI_clamp, n_mul, m_or, m_and, m_pow, m_bit, m_dif, n_neg, yn_0, yn_1, yn_z, yn_d, one31, Nat.add_sub_cancel, Nat.not_lt_zero, if_true, if_false, ite_true, ite_false, Bool.true_eq_false, Bool.false_eq_true, Nat.add_zero, Nat.zero_add]
    rw [if_neg (by omega), ← e2]
    cases b1 : ltb (d_n D) (I 52 (3 * k)) with
    | false => rfl
    | true =>
      obtain ⟨g, hg, eg⟩ := ltb_e (by omega) b1
      have hg10 : g < 10 := by omega
      have hgc : (nI g).toNatClampNeg = g := nI_clamp (by omega)
      have t1 := mayb_fre (D := D) (s := insm D) (l := lst D) hg
      rw [eg, hgc]
      simp (disch := omega) only [x_holds hm hg10, ← t1, x_without (insm_lt D) hg10, lit, gp1, rl1, rs1, bd1, lt1, n_add, n_sub, n_dec, n_le, n_lt, n_eq, n_in, nI_clamp, n_mul, m_or, m_and, m_pow, m_bit, m_dif, n_neg, yn_0, yn_1, yn_z, yn_d, one31, Nat.add_sub_cancel, Nat.not_lt_zero, if_true, if_false, ite_true, ite_false, Bool.true_eq_false, Bool.false_eq_true, Nat.add_zero, Nat.zero_add]
      cases hb : mayb D (insm D) (lst D) g with
      | false => rfl
      | true =>
        have hi := may_in hb
        have hV2 := VD_out hV hi
        have hin : insm (Dout D g) = mdiff (insm D) (2 ^ g) := insm_out (by omega)
        have hcd := cnt_diff (s := insm D) (g := g) (by rw [insm_bit, decide_eq_true (by omega), Bool.true_and]; exact hi) (by omega)
        have hml : mdiff (insm D) (2 ^ g) < 1024 := mdiff_lt (insm_lt D)
        have hfe : f_X7_fee (S0 ++ J) R I 1 (nI g) = some (nI (fee D g)) := by rw [e3]; exact p_fee hR hC.1 hV0 (by omega)
        have hih := ih (k + 1) f (Dout D g) (by omega) (by omega) hV2 e1 e2 e3
        rw [hin, lst_out, n_pred] at hih
        have hc1 : cnt (mdiff (insm D) (2 ^ g)) = cnt (insm D) - 1 := by omega
        simp (disch := omega) only [so_0, so_1, ly_0_0 hR, ly_0_1 hR, ly_0_3 hR, ly_0_4 hR, ly_0_5 hR, ly_0_7 hR, ly_0_8 hR, ly_0_9 hR, ly_0_10 hR, ly_1_0 hR, ly_1_1 hR, ly_1_2 hR, ly_1_3 hR, ly_1_4 hR, ly_1_7 hR, ly_1_11 hR, ly_1_12 hR, ly_1_13 hR, ao_52, bitc hml, hfe, hc1, hih, lit, gp1, rl1, rs1, bd1, lt1, n_add, n_sub, n_dec, n_le, n_lt, n_eq, n_in, nI_clamp, n_mul, m_or, m_and, m_pow, m_bit, m_dif, n_neg, yn_0, yn_1, yn_z, yn_d, one31, Nat.add_sub_cancel, Nat.not_lt_zero, if_true, if_false, ite_true, ite_false, Bool.true_eq_false, Bool.false_eq_true, Nat.add_zero, Nat.zero_add]
        by_cases q1 : I 52 (3 * k + 1) = nI (cnt (insm D) - 1)
        · rw [if_pos q1, decide_eq_true q1]
          by_cases q2 : I 52 (3 * k + 2) = nI (fee D g)
          · rw [if_pos q2, decide_eq_true q2]; rfl
          · rw [if_neg q2, decide_eq_false q2]; rfl
        · rw [if_neg q1, decide_eq_false q1]; rfl
theorem m_back (hR : Lay R) {I0 : Iw} {D0 : Dt} (hM0 : MR I0 66 D0) (hV : VD D0) {I : Iw} (h68 : ∀ j, j < 306 → I 68 j = I0 66 j) (x : Int32) : ∃ I', f_X12_back (S0 ++ J) R I 65 x = some (I', x) ∧ MR I' 66 D0 ∧ ∀ a j, a ≠ 66 → I' a j = I a j := by
  obtain ⟨I1, e1, e2, e3⟩ := m_copy (S := S0 ++ J) (R := R) (a := 68) (b := 66) (by decide) (fun _ => rfl) (fun _ => rfl) I
  refine ⟨I1, ?_, MR_cp (fun j hj => by rw [e2 j hj, h68 j hj]) hM0 hV, fun a j h => e3 a j h⟩
  rw [f_X12_back]
  simp (disch := omega) only [so65q, ly_65_0 hR, ly_65_2 hR, e1, litq, gp1q, rl1q, rs1q, bd1q, lt1q, n_add, n_sub, n_dec, n_le, n_lt, n_eq, n_in, nI_clamp, n_mul, m_or, m_and, m_pow, m_bit, m_dif, n_neg, yn_0, yn_1, yn_z, yn_d, one31, Nat.add_sub_cancel, Nat.not_lt_zero, if_true, if_false, ite_true, ite_false, Bool.true_eq_false, Bool.false_eq_true, Nat.add_zero, Nat.zero_add]
theorem m_jstep (hR : Lay R) {n k r f : Nat} {v : Nat → Int32} {P : Iw → Prop} (n9 : n ≤ 9) (hkn : k < n) (hM : MR I 66 D) (hV : VD D) (h23 : I 65 23 = nI n) (hv : ∀ j, j < 27 → I 79 j = v j)
    (hbad : ∀ I1 : Iw, (∀ a j, a ≠ 77 → I1 a j = I a j) → ∃ I', f_X12_judge_15 (S0 ++ J) R f I1 65 (nI (k + 1)) (nI (k + 1)) = some (I', nI (k + 1)) ∧ P I')
    (hok : ∀ (g : Nat) (I1 : Iw), g < d_n D → mayb D (insm D) (lst D) g = true → MR I1 66 (Dout D g) → (∀ a j, a ≠ 66 → a ≠ 77 → I1 a j = I a j) → ∃ I', (if k + 1 < n then f_X12_judge_15 (S0 ++ J) R f I1 65 (nI 0) (nI (k + 1)) else if fre (Dout D g) (insm (Dout D g)) (lst (Dout D g)) = 0 then f_X12_judge_15 (S0 ++ J) R f I1 65 (nI 0) (nI (k + 1)) else f_X12_judge_15 (S0 ++ J) R f I1 65 (nI (k + 1)) (nI (k + 1))) = some (I', nI (jdR v r (k + 1) (Dout D g))) ∧ P I') :
    ∃ I', f_X12_judge_15 (S0 ++ J) R (f + 1) I 65 (nI 0) (nI k) = some (I', nI (jdR v (r + 1) k D)) ∧ P I' := by
  have h9 := hV.1
  have hv0 := hv (3 * k) (by omega)
  have hv1 := hv (3 * k + 1) (by omega)
  have hv2 := hv (3 * k + 2) (by omega)
  have his := m_isN (J := J) hR hM hV (v (3 * k))
  rw [f_X12_judge_15, jdR, okb]
  simp (disch := omega) only [so_65, ao_66, ly_65_0 hR, ly_65_1 hR, ly_65_2 hR, ly_65_4 hR, ly_65_11 hR, ly_65_13 hR, ly_65_14 hR, ly_65_15 hR, ly_65_16 hR, ly_65_17 hR, ly_65_18 hR, ly_65_19 hR, ly_65_20 hR, ly_65_22 hR, ly_65_24 hR, ly_65_25 hR, ly_65_26 hR, ly_65_27 hR, ly_65_28 hR, ly_65_29 hR, ly_65_30 hR, ao_79, h23, hv0, hv2, his, f_X12_judge_94, f_X12_judge_131, f_X12_judge_143, lit, gp1, rl1, rs1, bd1, lt1, n_add, n_sub, n_dec, n_le, n_lt, n_eq, n_in, nI_clamp, n_mul, m_or, m_and, m_pow, m_bit, m_dif, n_neg, yn_0, yn_1, yn_z, yn_d, one31, Nat.add_sub_cancel, Nat.not_lt_zero, if_true, if_false, ite_true, ite_false, Bool.true_eq_false, Bool.false_eq_true, Nat.add_zero, Nat.zero_add]
  rw [if_neg (by omega)]
  obtain ⟨Ib, eb, pb⟩ := hbad I (fun _ _ _ => rfl)
  cases b1 : ltb (d_n D) (v (3 * k)) with
  | false =>
    refine ⟨Ib, ?_, pb⟩
    simp only [Bool.false_and, Bool.false_eq_true, if_false, if_true, f_X12_judge_95, f_X12_judge_131, f_X12_judge_143]
    simp (disch := omega) only [Nat.add_zero, lit, gp1, rl1, rs1, bd1, lt1, n_add, n_sub, n_dec, n_le, n_lt, n_eq, n_in, nI_clamp, n_mul, m_or, m_and, m_pow, m_bit, m_dif, n_neg, yn_0, yn_1, yn_z, yn_d, one31, Nat.add_sub_cancel, Nat.not_lt_zero, if_true, if_false, ite_true, ite_false, Bool.true_eq_false, Bool.false_eq_true, Nat.add_zero, Nat.zero_add]
    exact eb
  | true =>
    obtain ⟨g, hg, eg⟩ := ltb_e (by omega) b1
    have hgc : (nI g).toNatClampNeg = g := nI_clamp (by omega)
    rw [eg, hgc]
    simp (disch := omega) only [m_mayGo hR hM hV hg, Bool.true_and, lit, gp1, rl1, rs1, bd1, lt1, n_add, n_sub, n_dec, n_le, n_lt, n_eq, n_in, nI_clamp, n_mul, m_or, m_and, m_pow, m_bit, m_dif, n_neg, yn_0, yn_1, yn_z, yn_d, one31, Nat.add_sub_cancel, Nat.not_lt_zero, if_true, if_false, ite_true, ite_false, Bool.true_eq_false, Bool.false_eq_true, Nat.add_zero, Nat.zero_add]
    cases hb : mayb D (insm D) (lst D) g with
    | false =>
      refine ⟨Ib, ?_, pb⟩
      simp only [Bool.false_and, Bool.false_eq_true, if_false, if_true, f_X12_judge_95, f_X12_judge_131, f_X12_judge_143]
      simp (disch := omega) only [Nat.add_zero, lit, gp1, rl1, rs1, bd1, lt1, n_add, n_sub, n_dec, n_le, n_lt, n_eq, n_in, nI_clamp, n_mul, m_or, m_and, m_pow, m_bit, m_dif, n_neg, yn_0, yn_1, yn_z, yn_d, one31, Nat.add_sub_cancel, Nat.not_lt_zero, if_true, if_false, ite_true, ite_false, Bool.true_eq_false, Bool.false_eq_true, Nat.add_zero, Nat.zero_add]
      exact eb
    | true =>
      have hi := may_in hb
      have hcd := cnt_diff (s := insm D) (g := g) (by rw [insm_bit, decide_eq_true (by omega), Bool.true_and]; exact hi) (by omega)
      obtain ⟨If, f1, f2⟩ := m_fee (J := J) hR hM hV hg
      have hMf : MR If 66 D := MR_fr (fun j => f2 66 j (by decide)) hM
      have hv1' : If 79 (3 * k + 1) = v (3 * k + 1) := by rw [f2 79 _ (by decide)]; exact hv1
      obtain ⟨Ic, ec, pc⟩ := hbad If f2
      have hin := m_inMany (J := J) hR hMf hV
      simp (disch := omega) only [f1, hv1', hin, ao_79, Bool.true_and, lit, gp1, rl1, rs1, bd1, lt1, n_add, n_sub, n_dec, n_le, n_lt, n_eq, n_in, nI_clamp, n_mul, m_or, m_and, m_pow, m_bit, m_dif, n_neg, yn_0, yn_1, yn_z, yn_d, one31, Nat.add_sub_cancel, Nat.not_lt_zero, if_true, if_false, ite_true, ite_false, Bool.true_eq_false, Bool.false_eq_true, Nat.add_zero, Nat.zero_add]
      by_cases q2 : v (3 * k + 2) = nI (fee D g)
      · by_cases q1 : v (3 * k + 1) = nI (cnt (insm D) - 1)
        · obtain ⟨I1, o1, o2, o3, _⟩ := m_outback (J := J) hR hMf hV hi
          have h23' : I1 65 23 = nI n := by rw [o3 65 23 (by decide), f2 65 23 (by decide)]; exact h23
          obtain ⟨I', g1, g2⟩ := hok g I1 hg hb o2 (fun a j a1 a2 => by rw [o3 a j a1, f2 a j a2])
          refine ⟨I', ?_, g2⟩
          rw [if_pos q2, if_pos q1, decide_eq_true q1, decide_eq_true q2]
          refine Eq.trans ?_ g1
          simp only [f_X12_judge_95, f_X12_judge_131, f_X12_judge_143, f_X12_judge_124, f_X12_judge_129]
          have hfl := fre_lt (VD_out hV hi) (insm (Dout D g)) (lst (Dout D g))
          simp (disch := omega) only [so_65, o1, h23', m_may hR o2 (VD_out hV hi), Nat.one_ne_zero, lit, gp1, rl1, rs1, bd1, lt1, n_add, n_sub, n_dec, n_le, n_lt, n_eq, n_in, nI_clamp, n_mul, m_or, m_and, m_pow, m_bit, m_dif, n_neg, yn_0, yn_1, yn_z, yn_d, one31, Nat.add_sub_cancel, Nat.not_lt_zero, if_true, if_false, ite_true, ite_false, Bool.true_eq_false, Bool.false_eq_true, Nat.add_zero, Nat.zero_add]
          by_cases hlast : k < n - 1
          · rw [if_pos hlast, if_pos (show k + 1 < n by omega)]
          · rw [if_neg hlast, if_neg (show ¬ k + 1 < n by omega)]
        · refine ⟨Ic, ?_, pc⟩
          rw [if_pos q2, if_neg q1, decide_eq_false q1]
          simp only [Bool.false_and, Bool.false_eq_true, if_false, if_true, f_X12_judge_95, f_X12_judge_131, f_X12_judge_143]
          simp (disch := omega) only [Nat.add_zero, lit, gp1, rl1, rs1, bd1, lt1, n_add, n_sub, n_dec, n_le, n_lt, n_eq, n_in, nI_clamp, n_mul, m_or, m_and, m_pow, m_bit, m_dif, n_neg, yn_0, yn_1, yn_z, yn_d, one31, Nat.add_sub_cancel, Nat.not_lt_zero, if_true, if_false, ite_true, ite_false, Bool.true_eq_false, Bool.false_eq_true, Nat.add_zero, Nat.zero_add]
          exact ec
      · refine ⟨Ic, ?_, pc⟩
        rw [if_neg q2, decide_eq_false q2]
        simp only [Bool.and_false, Bool.false_eq_true, if_false, if_true, f_X12_judge_95, f_X12_judge_131, f_X12_judge_143]
        simp (disch := omega) only [Nat.add_zero, lit, gp1, rl1, rs1, bd1, lt1, n_add, n_sub, n_dec, n_le, n_lt, n_eq, n_in, nI_clamp, n_mul, m_or, m_and, m_pow, m_bit, m_dif, n_neg, yn_0, yn_1, yn_z, yn_d, one31, Nat.add_sub_cancel, Nat.not_lt_zero, if_true, if_false, ite_true, ite_false, Bool.true_eq_false, Bool.false_eq_true, Nat.add_zero, Nat.zero_add]
        exact ec
theorem m_jend (hR : Lay R) {I0 : Iw} {D0 : Dt} (hM0 : MR I0 66 D0) (hV0 : VD D0) {n : Nat} (n9 : n ≤ 9) : ∀ (k w f : Nat) (I : Iw), k < 12 → w < 12 → (w = 0 → n ≤ k) → 0 < f → (∀ j, j < 306 → I 68 j = I0 66 j) → I 65 23 = nI n → ∃ I', f_X12_judge_15 (S0 ++ J) R f I 65 (nI w) (nI k) = some (I', nI w) ∧ MR I' 66 D0 ∧ ∀ a j, a ≠ 66 → I' a j = I a j := by
  intro k w f I hk hw hwk hf h68 h23
  obtain ⟨f, rfl⟩ := Nat.exists_eq_succ_of_ne_zero (n := f) (by omega)
  obtain ⟨I', e1, e2, e3⟩ := m_back (J := J) hR hM0 hV0 h68 (nI w)
  refine ⟨I', ?_, e2, e3⟩
  rw [f_X12_judge_15]
  by_cases h0 : w = 0
  · subst h0
    simp (disch := omega) only [so_65, ly_65_0 hR, ly_65_1 hR, ly_65_2 hR, ly_65_4 hR, ly_65_11 hR, ly_65_13 hR, ly_65_14 hR, ly_65_15 hR, ly_65_16 hR, ly_65_17 hR, ly_65_18 hR, ly_65_19 hR, ly_65_20 hR, ly_65_22 hR, ly_65_24 hR, ly_65_25 hR, ly_65_26 hR, ly_65_27 hR, ly_65_28 hR, ly_65_29 hR, ly_65_30 hR, h23, f_X12_judge_150, e1, lit, gp1, rl1, rs1, bd1, lt1, n_add, n_sub, n_dec, n_le, n_lt, n_eq, n_in, nI_clamp, n_mul, m_or, m_and, m_pow, m_bit, m_dif, n_neg, yn_0, yn_1, yn_z, yn_d, one31, Nat.add_sub_cancel, Nat.not_lt_zero, if_true, if_false, ite_true, ite_false, Bool.true_eq_false, Bool.false_eq_true, Nat.add_zero, Nat.zero_add]
    rw [if_pos (hwk rfl)]
  · simp (disch := omega) only [so_65, ly_65_0 hR, ly_65_1 hR, ly_65_2 hR, ly_65_4 hR, ly_65_11 hR, ly_65_13 hR, ly_65_14 hR, ly_65_15 hR, ly_65_16 hR, ly_65_17 hR, ly_65_18 hR, ly_65_19 hR, ly_65_20 hR, ly_65_22 hR, ly_65_24 hR, ly_65_25 hR, ly_65_26 hR, ly_65_27 hR, ly_65_28 hR, ly_65_29 hR, ly_65_30 hR, h23, f_X12_judge_150, e1, h0, lit, gp1, rl1, rs1, bd1, lt1, n_add, n_sub, n_dec, n_le, n_lt, n_eq, n_in, nI_clamp, n_mul, m_or, m_and, m_pow, m_bit, m_dif, n_neg, yn_0, yn_1, yn_z, yn_d, one31, Nat.add_sub_cancel, Nat.not_lt_zero, if_true, if_false, ite_true, ite_false, Bool.true_eq_false, Bool.false_eq_true, Nat.add_zero, Nat.zero_add]
    split <;> rfl
theorem m_judge15 (hR : Lay R) {I0 : Iw} {D0 : Dt} (hM0 : MR I0 66 D0) (hV0 : VD D0) {n : Nat} (n9 : n ≤ 9) (v : Nat → Int32) : ∀ (r k f : Nat) (D : Dt) (I : Iw), k + (r + 1) = n → r + 2 < f → MR I 66 D → VD D → (∀ j, j < 306 → I 68 j = I0 66 j) → I 65 23 = nI n → (∀ j, j < 27 → I 79 j = v j) →
    ∃ I', f_X12_judge_15 (S0 ++ J) R f I 65 (nI 0) (nI k) = some (I', nI (jdR v (r + 1) k D)) ∧ MR I' 66 D0 ∧ ∀ a j, a ≠ 66 → a ≠ 77 → I' a j = I a j := by
  intro r
  induction r with
  | zero =>
    intro k f D I hk hf hM hV h68 h23 hv
    obtain ⟨f, rfl⟩ := Nat.exists_eq_succ_of_ne_zero (n := f) (by omega)
    refine m_jstep (J := J) (P := fun I' => MR I' 66 D0 ∧ ∀ a j, a ≠ 66 → a ≠ 77 → I' a j = I a j) hR n9 (by omega) hM hV h23 hv (fun I1 h1 => ?_) (fun g I1 hg hb hM1 h1 => ?_)
    · obtain ⟨I', e1, e2, e3⟩ := m_jend (J := J) hR hM0 hV0 n9 (k + 1) (k + 1) f I1 (by omega) (by omega) (by omega) (by omega) (fun j hj => by rw [h1 68 j (by decide)]; exact h68 j hj) (by rw [h1 65 23 (by decide)]; exact h23)
      exact ⟨I', e1, e2, fun a j a1 a2 => by rw [e3 a j a1, h1 a j a2]⟩
    · rw [if_neg (by omega), jdR]
      have g68 : ∀ j, j < 306 → I1 68 j = I0 66 j := fun j hj => by rw [h1 68 j (by decide) (by decide)]; exact h68 j hj
      have g23 : I1 65 23 = nI n := by rw [h1 65 23 (by decide) (by decide)]; exact h23
      by_cases h0 : fre (Dout D g) (insm (Dout D g)) (lst (Dout D g)) = 0
      · rw [if_pos h0, if_pos h0]
        obtain ⟨I', e1, e2, e3⟩ := m_jend (J := J) hR hM0 hV0 n9 (k + 1) 0 f I1 (by omega) (by omega) (by omega) (by omega) g68 g23
        exact ⟨I', e1, e2, fun a j a1 a2 => by rw [e3 a j a1, h1 a j a1 a2]⟩
      · rw [if_neg h0, if_neg h0]
        obtain ⟨I', e1, e2, e3⟩ := m_jend (J := J) hR hM0 hV0 n9 (k + 1) (k + 1) f I1 (by omega) (by omega) (by omega) (by omega) g68 g23
        exact ⟨I', e1, e2, fun a j a1 a2 => by rw [e3 a j a1, h1 a j a1 a2]⟩
  | succ r ih =>
    intro k f D I hk hf hM hV h68 h23 hv
    obtain ⟨f, rfl⟩ := Nat.exists_eq_succ_of_ne_zero (n := f) (by omega)
    refine m_jstep (J := J) (P := fun I' => MR I' 66 D0 ∧ ∀ a j, a ≠ 66 → a ≠ 77 → I' a j = I a j) hR n9 (by omega) hM hV h23 hv (fun I1 h1 => ?_) (fun g I1 hg hb hM1 h1 => ?_)
    · obtain ⟨I', e1, e2, e3⟩ := m_jend (J := J) hR hM0 hV0 n9 (k + 1) (k + 1) f I1 (by omega) (by omega) (by omega) (by omega) (fun j hj => by rw [h1 68 j (by decide)]; exact h68 j hj) (by rw [h1 65 23 (by decide)]; exact h23)
      exact ⟨I', e1, e2, fun a j a1 a2 => by rw [e3 a j a1, h1 a j a2]⟩
    · rw [if_pos (by omega)]
      have g68 : ∀ j, j < 306 → I1 68 j = I0 66 j := fun j hj => by rw [h1 68 j (by decide) (by decide)]; exact h68 j hj
      have g23 : I1 65 23 = nI n := by rw [h1 65 23 (by decide) (by decide)]; exact h23
      obtain ⟨I', e1, e2, e3⟩ := ih (k + 1) f (Dout D g) I1 (by omega) (by omega) hM1 (VD_out hV (may_in hb)) g68 g23 (fun j hj => by rw [h1 79 j (by decide) (by decide)]; exact hv j hj)
      exact ⟨I', e1, e2, fun a j a1 a2 => by rw [e3 a j a1 a2, h1 a j a1 a2]⟩
theorem z_judge (hR : Lay R) (h : Core I D T) (hW : RWp I) : ZP I T (f_X11_judge (S0 ++ J) R I 0) (f_X12_judge (S0 ++ J) R I 65) := by
  have ⟨hC, hM, hV, hT⟩ := h
  obtain ⟨n, n9, h1, h2, h3⟩ := hW
  have c6 : I 1 6 = nI (insm D) := hC.1.2.1
  have hq := q_judge18 (J := J) hR hC hV n9 h1 n 0 512 D (by omega) (by omega) hV rfl rfl rfl
  obtain ⟨I1, e1, e2, e3⟩ := m_copy (S := S0 ++ J) (R := R) (a := 66) (b := 68) (by decide) (fun _ => rfl) (fun _ => rfl) I
  have hM1 : MR I1 66 D := MR_fr (fun j => e3 66 j (by decide)) hM
  have fin : ∀ I2 : Iw, f_X12_judge_15 (S0 ++ J) R 512 I1 65 (nI 0) (nI 0) = some (I2, nI (jdR (I 52) n 0 D)) → MR I2 66 D → (∀ a j, a ≠ 66 → a ≠ 77 → I2 a j = I1 a j) → ZP I T (f_X11_judge (S0 ++ J) R I 0) (f_X12_judge (S0 ++ J) R I 65) := by
    intro I2 m1 m2 m3
    have hfr : ∀ a j, a ≠ 66 → a ≠ 68 → a ≠ 77 → I2 a j = I a j := fun a j a1 a2 a3 => by rw [m3 a j a1 a3, e3 a j a2]
    refine ⟨nI (jdR (I 52) n 0 D), I2, D, ?_, ?_, ⟨CR_fr (fun k j q1 q2 => hfr k j (by omega) (by omega) (by omega)) hC, m2, hV, ST_up (by omega) (ST_fr (fun a j q => hfr a j (by omega) (by omega) (by omega)) hT)⟩, fun a j q => hfr a j (by unfold scr at q; omega) (by unfold scr at q; omega) (by unfold scr at q; omega)⟩
    · simp (disch := omega) only [f_X11_judge, so_0, so_1, ly_0_0 hR, ly_0_1 hR, ly_0_3 hR, ly_0_4 hR, ly_0_5 hR, ly_0_7 hR, ly_0_8 hR, ly_0_9 hR, ly_0_10 hR, ly_1_0 hR, ly_1_1 hR, ly_1_2 hR, ly_1_3 hR, ly_1_4 hR, ly_1_7 hR, ly_1_11 hR, ly_1_12 hR, ly_1_13 hR, c6, q_last hR hC hV, lit, gp1, rl1, rs1, bd1, lt1, n_add, n_sub, n_dec, n_le, n_lt, n_eq, n_in, nI_clamp, n_mul, m_or, m_and, m_pow, m_bit, m_dif, n_neg, yn_0, yn_1, yn_z, yn_d, one31, Nat.add_sub_cancel, Nat.not_lt_zero, if_true, if_false, ite_true, ite_false, Bool.true_eq_false, Bool.false_eq_true, Nat.add_zero, Nat.zero_add]
      exact hq
    · simp (disch := omega) only [f_X12_judge, so65q, ly_65_0 hR, ly_65_2 hR, e1, litq, gp1q, rl1q, rs1q, bd1q, lt1q, n_add, n_sub, n_dec, n_le, n_lt, n_eq, n_in, nI_clamp, n_mul, m_or, m_and, m_pow, m_bit, m_dif, n_neg, yn_0, yn_1, yn_z, yn_d, one31, Nat.add_sub_cancel, Nat.not_lt_zero, if_true, if_false, ite_true, ite_false, Bool.true_eq_false, Bool.false_eq_true, Nat.add_zero, Nat.zero_add]
      exact m1
  have h68 : ∀ j, j < 306 → I1 68 j = I 66 j := e2
  have h23 : I1 65 23 = nI n := by rw [e3 65 23 (by decide)]; exact h2
  by_cases hn : n = 0
  · subst hn
    obtain ⟨I2, m1, m2, m3⟩ := m_jend (J := J) hR hM hV (n := 0) (by decide) 0 0 512 I1 (by decide) (by decide) (fun _ => Nat.le_refl _) (by decide) h68 h23
    refine fin I2 ?_ m2 (fun a j a1 _ => m3 a j a1)
    rw [m1, jdR]
    split <;> rfl
  · obtain ⟨r, rfl⟩ := Nat.exists_eq_succ_of_ne_zero hn
    obtain ⟨I2, m1, m2, m3⟩ := m_judge15 (J := J) hR hM hV n9 (I 52) r 0 512 D I1 (by omega) (by omega) hM1 hV h68 h23 (fun j hj => by rw [e3 79 j (by decide)]; exact (h3 j hj).symm)
    exact fin I2 m1 m2 m3
end ROWCALLS
