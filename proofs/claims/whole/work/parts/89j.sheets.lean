/-! CALLS: sheets -/
theorem btw_m1 {x : Int32} {b : Nat} (hb : b < 2 ^ 30) (h : btw x (-nI 1) (nI b) = true) : x = -nI 1 ∨ ∃ k, k ≤ b ∧ x = nI k := by
  have h2 : ¬ x < -nI 1 ∧ ¬ nI b < x := of_decide_eq_true h
  rcases pk_ix x (n := b + 1) (by omega) with q | q | ⟨k, hk, e⟩
  · left
    apply Int32.toInt_inj.mp
    have a1 : ¬ x.toInt < (-nI 1).toInt := fun z => h2.1 (Int32.lt_iff_toInt_lt.mpr z)
    have a2 : x.toInt < (0 : Int32).toInt := Int32.lt_iff_toInt_lt.mp q
    have a3 : (-nI 1).toInt = -1 := by decide
    have a4 : (0 : Int32).toInt = 0 := by decide
    omega
  · exact absurd (Int32.lt_of_lt_of_le (nI_lt (by omega) (by omega)) q) h2.2
  · exact Or.inr ⟨k, by omega, e⟩
theorem btw_lp {n : Nat} (hn : n < 2 ^ 30) (h0 : 0 < n) {x : Int32} : btw x (nI 0) (nI (n - 1)) = ltb n x := by
  rw [← btw_lt hn, n_sub h0]
theorem m1_lt0 : (-nI 1 < nI 0) = True := n_mone_lt (by decide)
theorem m1_ge0 : (nI 0 ≤ -nI 1) = False := by decide
theorem m11_0 : (-nI 11 = nI 0) = False := by decide
theorem m13_0 : (-nI 13 = nI 0) = False := by decide
section SHEETS
variable {J : Sh} {R : Rw} {I : Iw} {D : Dt} {T : Nat}
theorem sh_f (hR : Lay R) {s : Nat} (hs : s < 4) : R 53 s = some (.inl (57 + 2 * s)) ∧ R (57 + 2 * s) 2 = some (.inl (58 + 2 * s)) ∧ sok (S0 ++ J) (57 + 2 * s) 8 3 = true ∧ ∀ i, aok (S0 ++ J) 20 (58 + 2 * s) i = inb 40 i := by
  rcases (by omega : s = 0 ∨ s = 1 ∨ s = 2 ∨ s = 3) with e | e | e | e <;> subst e
  · exact ⟨ly_53_0 hR, ly_57_2 hR, so_57, fun _ => ao_58⟩
  · exact ⟨ly_53_1 hR, ly_59_2 hR, so_59, fun _ => ao_60⟩
  · exact ⟨ly_53_2 hR, ly_61_2 hR, so_61, fun _ => ao_62⟩
  · exact ⟨ly_53_3 hR, ly_63_2 hR, so_63, fun _ => ao_64⟩
theorem m_isSheet {S : Sh} {x : Int32} : f_X12_isSheet S R I x = some (yn (btw x (nI 0) (nI 3))) := by
  rw [f_X12_isSheet]
  simp only [m_btw, bd1, yn_z, gp1, lit]
theorem q_has8 (hR : Lay R) {s n : Nat} (hs : s < 4) (hn : n ≤ 40) (h1 : I (57 + 2 * s) 1 = nI n) (x : Int32) : f_X8_has (S0 ++ J) R I (57 + 2 * s) x = some (yn (ltb n x)) := by
  obtain ⟨-, -, so, -⟩ := sh_f (J := J) hR hs
  rw [f_X8_has]
  cases b : ltb n x with
  | false =>
    rcases ltb_f (by omega) b with q | ⟨q1, q2⟩
    · rw [if_pos q]; rfl
    · rw [if_neg q1, so, gp1, h1, if_pos q2]; rfl
  | true =>
    obtain ⟨k, hk, rfl⟩ := ltb_e (by omega) b
    rw [if_neg (nI_pos (by omega)), so, gp1, h1, if_neg (by rw [n_le (by omega) (by omega)]; omega)]; rfl
/-- what is refused of a row taken for a sort -/
def rfS (so : Int32) (k : Nat) : Int32 := if so = -nI 1 then -nI 11 else if so = nI k then nI 0 else -nI 13
theorem q_refusal (hR : Lay R) {s : Nat} (hs : s < 4) (h0 : I (57 + 2 * s) 0 = I 81 s) (k : Nat) : f_X8_refusalAs (S0 ++ J) R I (57 + 2 * s) (nI k) = some (rfS (I 81 s) k) := by
  obtain ⟨-, -, so, -⟩ := sh_f (J := J) hR hs
  rw [f_X8_refusalAs, so, gp1, h0, rfS]
  by_cases e : I 81 s = -nI 1
  · rw [if_pos (show I 81 s = -1 from e), if_pos e]; rfl
  · rw [if_neg (show ¬ I 81 s = -1 from e), if_neg e]
    by_cases e2 : I 81 s = nI k
    · rw [if_pos e2, if_pos e2]; rfl
    · rw [if_neg e2, if_neg e2]; rfl
theorem m_refuses (hR : Lay R) {s : Nat} (hs : s < 4) (h3 : I 81 s = -nI 1 ∨ ∃ k, k ≤ 4 ∧ I 81 s = nI k) (k : Nat) : f_X12_refuses (S0 ++ J) R I 65 (nI s) (nI k) = some (rfS (I 81 s) k) := by
  rw [f_X12_refuses, rfS]
  rcases h3 with e | ⟨k', hk, e⟩
  · simp (disch := omega) only [so_65, ly_65_0 hR, ly_65_1 hR, ly_65_2 hR, ly_65_4 hR, ly_65_11 hR, ly_65_13 hR, ly_65_14 hR, ly_65_15 hR, ly_65_16 hR, ly_65_17 hR, ly_65_18 hR, ly_65_19 hR, ly_65_20 hR, ly_65_22 hR, ly_65_24 hR, ly_65_25 hR, ly_65_26 hR, ly_65_27 hR, ly_65_28 hR, ly_65_29 hR, ly_65_30 hR, ao_81, e, m1_ge0, lit, gp1, rl1, rs1, bd1, lt1, n_add, n_sub, n_dec, n_le, n_lt, n_eq, n_in, nI_clamp, n_mul, m_or, m_and, m_pow, m_bit, m_dif, n_neg, yn_0, yn_1, yn_z, yn_d, one31, Nat.add_sub_cancel, Nat.not_lt_zero, if_true, if_false, ite_true, ite_false, Bool.true_eq_false, Bool.false_eq_true, Nat.add_zero, Nat.zero_add]
  · have z : (nI k' = -nI 1) = False := n_nn (by omega) (by decide) (by decide)
    simp (disch := omega) only [so_65, ly_65_0 hR, ly_65_1 hR, ly_65_2 hR, ly_65_4 hR, ly_65_11 hR, ly_65_13 hR, ly_65_14 hR, ly_65_15 hR, ly_65_16 hR, ly_65_17 hR, ly_65_18 hR, ly_65_19 hR, ly_65_20 hR, ly_65_22 hR, ly_65_24 hR, ly_65_25 hR, ly_65_26 hR, ly_65_27 hR, ly_65_28 hR, ly_65_29 hR, ly_65_30 hR, ao_81, e, z, Nat.zero_le, lit, gp1, rl1, rs1, bd1, lt1, n_add, n_sub, n_dec, n_le, n_lt, n_eq, n_in, nI_clamp, n_mul, m_or, m_and, m_pow, m_bit, m_dif, n_neg, yn_0, yn_1, yn_z, yn_d, one31, Nat.add_sub_cancel, Nat.not_lt_zero, if_true, if_false, ite_true, ite_false, Bool.true_eq_false, Bool.false_eq_true, Nat.add_zero, Nat.zero_add]
    split <;> rfl
theorem rfS_0 {so : Int32} {k : Nat} : (rfS so k = nI 0) = (so = nI k ∧ ¬ so = -nI 1) := by
  unfold rfS
  by_cases e : so = -nI 1
  · rw [if_pos e, m11_0]; simp [e]
  · rw [if_neg e]
    by_cases e2 : so = nI k
    · rw [if_pos e2]; simp [e, e2]; exact fun z => e (e2.trans z)
    · rw [if_neg e2, m13_0]; simp [e2]
theorem z_item (hR : Lay R) (hK : SHp I) (x1 x2 x3 : Int32) : ZQ (f_X11_item (S0 ++ J) R I 0 x1 x2 x3) (f_X12_item (S0 ++ J) R I 65 x1 x2 x3) := by
  cases b1 : btw x1 (nI 0) (nI 3) with
  | false => exact ⟨-nI 1, by simp (disch := omega) only [f_X11_item, x_sheet, b1, lit, gp1, rl1, rs1, bd1, lt1, n_add, n_sub, n_dec, n_le, n_lt, n_eq, n_in, nI_clamp, n_mul, m_or, m_and, m_pow, m_bit, m_dif, n_neg, yn_0, yn_1, yn_z, yn_d, one31, Nat.add_sub_cancel, Nat.not_lt_zero, if_true, if_false, ite_true, ite_false, Bool.true_eq_false, Bool.false_eq_true, Nat.add_zero, Nat.zero_add], by simp (disch := omega) only [f_X12_item, m_isSheet, b1, lit, gp1, rl1, rs1, bd1, lt1, n_add, n_sub, n_dec, n_le, n_lt, n_eq, n_in, nI_clamp, n_mul, m_or, m_and, m_pow, m_bit, m_dif, n_neg, yn_0, yn_1, yn_z, yn_d, one31, Nat.add_sub_cancel, Nat.not_lt_zero, if_true, if_false, ite_true, ite_false, Bool.true_eq_false, Bool.false_eq_true, Nat.add_zero, Nat.zero_add]⟩
  | true =>
    obtain ⟨s, -, s3, rfl⟩ := btw_e (by decide) (by decide) b1
    cases b2 : btw x2 (nI 0) (nI 4) with
    | false => exact ⟨-nI 1, by simp (disch := omega) only [f_X11_item, x_sheet, b1, x_btw, b2, lit, gp1, rl1, rs1, bd1, lt1, n_add, n_sub, n_dec, n_le, n_lt, n_eq, n_in, nI_clamp, n_mul, m_or, m_and, m_pow, m_bit, m_dif, n_neg, yn_0, yn_1, yn_z, yn_d, one31, Nat.add_sub_cancel, Nat.not_lt_zero, if_true, if_false, ite_true, ite_false, Bool.true_eq_false, Bool.false_eq_true, Nat.add_zero, Nat.zero_add], by simp (disch := omega) only [f_X12_item, m_isSheet, b1, m_btw, b2, lit, gp1, rl1, rs1, bd1, lt1, n_add, n_sub, n_dec, n_le, n_lt, n_eq, n_in, nI_clamp, n_mul, m_or, m_and, m_pow, m_bit, m_dif, n_neg, yn_0, yn_1, yn_z, yn_d, one31, Nat.add_sub_cancel, Nat.not_lt_zero, if_true, if_false, ite_true, ite_false, Bool.true_eq_false, Bool.false_eq_true, Nat.add_zero, Nat.zero_add]⟩
    | true =>
      obtain ⟨k, -, k4, rfl⟩ := btw_e (by decide) (by decide) b2
      have hs : s < 4 := by omega
      obtain ⟨n, n40, e0, e1, e2, e3, e4⟩ := hK s hs
      obtain ⟨f1, f2, f3, f4⟩ := sh_f (J := J) hR hs
      have hq := q_refusal (J := J) hR hs e0 k
      have hm := m_refuses (J := J) hR hs e3 k
      have hh := q_has8 (J := J) hR hs n40 e1 x3
      by_cases h0 : rfS (I 81 s) k = nI 0
      · cases b3 : ltb n x3 with
        | false => exact ⟨-nI 12, by simp (disch := omega) only [f_X11_item, x_sheet, b1, x_btw, b2, so_0, ly_0_0 hR, ly_0_1 hR, ly_0_3 hR, ly_0_4 hR, ly_0_5 hR, ly_0_7 hR, ly_0_8 hR, ly_0_9 hR, ly_0_10 hR, ao_53, al_53, ly_53_0 hR, ly_53_1 hR, ly_53_2 hR, ly_53_3 hR, f1, f3, hq, h0, hh, b3, lit, gp1, rl1, rs1, bd1, lt1, n_add, n_sub, n_dec, n_le, n_lt, n_eq, n_in, nI_clamp, n_mul, m_or, m_and, m_pow, m_bit, m_dif, n_neg, yn_0, yn_1, yn_z, yn_d, one31, Nat.add_sub_cancel, Nat.not_lt_zero, if_true, if_false, ite_true, ite_false, Bool.true_eq_false, Bool.false_eq_true, Nat.add_zero, Nat.zero_add], by simp (disch := omega) only [f_X12_item, m_isSheet, b1, m_btw, b2, so_65, ly_65_0 hR, ly_65_1 hR, ly_65_2 hR, ly_65_4 hR, ly_65_11 hR, ly_65_13 hR, ly_65_14 hR, ly_65_15 hR, ly_65_16 hR, ly_65_17 hR, ly_65_18 hR, ly_65_19 hR, ly_65_20 hR, ly_65_22 hR, ly_65_24 hR, ly_65_25 hR, ly_65_26 hR, ly_65_27 hR, ly_65_28 hR, ly_65_29 hR, ly_65_30 hR, ao_82, hm, h0, e2, btw_lt, btw_lp, b3, lit, gp1, rl1, rs1, bd1, lt1, n_add, n_sub, n_dec, n_le, n_lt, n_eq, n_in, nI_clamp, n_mul, m_or, m_and, m_pow, m_bit, m_dif, n_neg, yn_0, yn_1, yn_z, yn_d, one31, Nat.add_sub_cancel, Nat.not_lt_zero, if_true, if_false, ite_true, ite_false, Bool.true_eq_false, Bool.false_eq_true, Nat.add_zero, Nat.zero_add]⟩
        | true =>
          obtain ⟨i, hi, rfl⟩ := ltb_e (by omega) b3
          have ei := e4 i (by omega)
          refine ⟨I 80 (40 * s + i), by simp (disch := omega) only [f_X11_item, x_sheet, b1, x_btw, b2, so_0, ly_0_0 hR, ly_0_1 hR, ly_0_3 hR, ly_0_4 hR, ly_0_5 hR, ly_0_7 hR, ly_0_8 hR, ly_0_9 hR, ly_0_10 hR, ao_53, al_53, ly_53_0 hR, ly_53_1 hR, ly_53_2 hR, ly_53_3 hR, f1, f2, f3, f4, hq, h0, hh, b3, ei, lit, gp1, rl1, rs1, bd1, lt1, n_add, n_sub, n_dec, n_le, n_lt, n_eq, n_in, nI_clamp, n_mul, m_or, m_and, m_pow, m_bit, m_dif, n_neg, yn_0, yn_1, yn_z, yn_d, one31, Nat.add_sub_cancel, Nat.not_lt_zero, if_true, if_false, ite_true, ite_false, Bool.true_eq_false, Bool.false_eq_true, Nat.add_zero, Nat.zero_add], ?_⟩
          simp (disch := omega) only [f_X12_item, m_isSheet, b1, m_btw, b2, so_65, ly_65_0 hR, ly_65_1 hR, ly_65_2 hR, ly_65_4 hR, ly_65_11 hR, ly_65_13 hR, ly_65_14 hR, ly_65_15 hR, ly_65_16 hR, ly_65_17 hR, ly_65_18 hR, ly_65_19 hR, ly_65_20 hR, ly_65_22 hR, ly_65_24 hR, ly_65_25 hR, ly_65_26 hR, ly_65_27 hR, ly_65_28 hR, ly_65_29 hR, ly_65_30 hR, ao_80, ao_81, ao_82, hm, h0, e2, btw_lt, btw_lp, b3, lit, gp1, rl1, rs1, bd1, lt1, n_add, n_sub, n_dec, n_le, n_lt, n_eq, n_in, nI_clamp, n_mul, m_or, m_and, m_pow, m_bit, m_dif, n_neg, yn_0, yn_1, yn_z, yn_d, one31, Nat.add_sub_cancel, Nat.not_lt_zero, if_true, if_false, ite_true, ite_false, Bool.true_eq_false, Bool.false_eq_true, Nat.add_zero, Nat.zero_add]
      · exact ⟨rfS (I 81 s) k, by simp (disch := omega) only [f_X11_item, x_sheet, b1, x_btw, b2, so_0, ly_0_0 hR, ly_0_1 hR, ly_0_3 hR, ly_0_4 hR, ly_0_5 hR, ly_0_7 hR, ly_0_8 hR, ly_0_9 hR, ly_0_10 hR, ao_53, al_53, ly_53_0 hR, ly_53_1 hR, ly_53_2 hR, ly_53_3 hR, f1, f3, hq, h0, lit, gp1, rl1, rs1, bd1, lt1, n_add, n_sub, n_dec, n_le, n_lt, n_eq, n_in, nI_clamp, n_mul, m_or, m_and, m_pow, m_bit, m_dif, n_neg, yn_0, yn_1, yn_z, yn_d, one31, Nat.add_sub_cancel, Nat.not_lt_zero, if_true, if_false, ite_true, ite_false, Bool.true_eq_false, Bool.false_eq_true, Nat.add_zero, Nat.zero_add], by simp (disch := omega) only [f_X12_item, m_isSheet, b1, m_btw, b2, so_65, ly_65_0 hR, ly_65_1 hR, ly_65_2 hR, ly_65_4 hR, ly_65_11 hR, ly_65_13 hR, ly_65_14 hR, ly_65_15 hR, ly_65_16 hR, ly_65_17 hR, ly_65_18 hR, ly_65_19 hR, ly_65_20 hR, ly_65_22 hR, ly_65_24 hR, ly_65_25 hR, ly_65_26 hR, ly_65_27 hR, ly_65_28 hR, ly_65_29 hR, ly_65_30 hR, ao_82, hm, h0, lit, gp1, rl1, rs1, bd1, lt1, n_add, n_sub, n_dec, n_le, n_lt, n_eq, n_in, nI_clamp, n_mul, m_or, m_and, m_pow, m_bit, m_dif, n_neg, yn_0, yn_1, yn_z, yn_d, one31, Nat.add_sub_cancel, Nat.not_lt_zero, if_true, if_false, ite_true, ite_false, Bool.true_eq_false, Bool.false_eq_true, Nat.add_zero, Nat.zero_add]⟩
def nrw (k : Nat) (v : Int32) : Int32 := if k = 0 then v.toInt8.toInt32 else if k = 1 then v.toInt16.toInt32 else if k = 4 then (if v = nI 0 then nI 0 else nI 1) else v
theorem q_narrowed (hR : Lay R) {s k : Nat} (hs : s < 4) (hk : k ≤ 4) (h0 : I (57 + 2 * s) 0 = nI k) (v : Int32) : f_X8_narrowed (S0 ++ J) R I (57 + 2 * s) v = some (nrw k v) := by
  obtain ⟨-, -, so, -⟩ := sh_f (J := J) hR hs
  rw [f_X8_narrowed, so, gp1, h0]
  rcases (by omega : k = 0 ∨ k = 1 ∨ k = 2 ∨ k = 3 ∨ k = 4) with e | e | e | e | e <;> subst e
  · rfl
  · rfl
  · rfl
  · rfl
  · show (if v = nI 0 then some (nI 0) else some (nI 1)) = some (if v = nI 0 then nI 0 else nI 1)
    split <;> rfl
theorem SH_w {I I2 : Iw} {s i : Nat} {v : Int32} (hs : s < 4) (hi : i < 40) (h : SHp I) (e : I2 = up2 (up2 I (58 + 2 * s) i v) 80 (40 * s + i) v) : SHp I2 := by
  subst e
  intro t ht
  obtain ⟨n, n40, e0, e1, e2, e3, e4⟩ := h t ht
  have fr : ∀ a j, a ≠ 58 + 2 * s → a ≠ 80 → up2 (up2 I (58 + 2 * s) i v) 80 (40 * s + i) v a j = I a j := fun a j a1 a2 => by rw [u_eq, if_neg (by omega), u_eq, if_neg (by omega)]
  refine ⟨n, n40, ?_, (fr _ _ (by omega) (by omega)).trans e1, (fr _ _ (by omega) (by omega)).trans e2, ?_, fun j hj => ?_⟩
  · rw [fr _ _ (by omega) (by omega), fr _ _ (by omega) (by omega)]; exact e0
  · rw [fr _ _ (by omega) (by omega)]; exact e3
  · rw [u_eq, if_neg (by omega), u_eq, u_eq]
    by_cases q : t = s ∧ j = i
    · rw [if_pos (by omega), if_pos (by omega)]
    · rw [if_neg (by omega), if_neg (by omega), u_eq, if_neg (by omega)]; exact e4 j hj
theorem z_write {n0 : Nat} (hR : Lay R) (h : Core I D (16 * n0)) (hK : Rest (S0 ++ J) R I) (x1 x2 x3 : Int32) : ZR n0 (S0 ++ J) R (f_X11_write (S0 ++ J) R I 0 x1 x2 x3) (fun I1 => f_X12_write (S0 ++ J) R I1 65 x1 x2 x3) := by
  have ⟨hC, hM, hV, hT⟩ := h
  cases b1 : btw x1 (nI 0) (nI 3) with
  | false => exact ZR_ZZ hR hK (ZZ_no h (r := -nI 1) (by simp (disch := omega) only [f_X11_write, x_sheet, b1, lit, gp1, rl1, rs1, bd1, lt1, n_add, n_sub, n_dec, n_le, n_lt, n_eq, n_in, nI_clamp, n_mul, m_or, m_and, m_pow, m_bit, m_dif, n_neg, yn_0, yn_1, yn_z, yn_d, one31, Nat.add_sub_cancel, Nat.not_lt_zero, if_true, if_false, ite_true, ite_false, Bool.true_eq_false, Bool.false_eq_true, Nat.add_zero, Nat.zero_add]) (by simp (disch := omega) only [f_X12_write, m_isSheet, b1, lit, gp1, rl1, rs1, bd1, lt1, n_add, n_sub, n_dec, n_le, n_lt, n_eq, n_in, nI_clamp, n_mul, m_or, m_and, m_pow, m_bit, m_dif, n_neg, yn_0, yn_1, yn_z, yn_d, one31, Nat.add_sub_cancel, Nat.not_lt_zero, if_true, if_false, ite_true, ite_false, Bool.true_eq_false, Bool.false_eq_true, Nat.add_zero, Nat.zero_add]))
  | true =>
    obtain ⟨s, -, s3, rfl⟩ := btw_e (by decide) (by decide) b1
    have hs : s < 4 := by omega
    obtain ⟨n, n40, e0, e1, e2, e3, e4⟩ := hK.2.2.2.1 s hs
    obtain ⟨f1, f2, f3, f4⟩ := sh_f (J := J) hR hs
    rcases e3 with e3 | ⟨k, hk, e3⟩
    · exact ZR_ZZ hR hK (ZZ_no h (r := -nI 11) (by simp (disch := omega) only [f_X11_write, x_sheet, b1, so_0, ly_0_0 hR, ly_0_1 hR, ly_0_3 hR, ly_0_4 hR, ly_0_5 hR, ly_0_7 hR, ly_0_8 hR, ly_0_9 hR, ly_0_10 hR, ao_53, al_53, ly_53_0 hR, ly_53_1 hR, ly_53_2 hR, ly_53_3 hR, f1, f3, e0, e3, lit, gp1, rl1, rs1, bd1, lt1, n_add, n_sub, n_dec, n_le, n_lt, n_eq, n_in, nI_clamp, n_mul, m_or, m_and, m_pow, m_bit, m_dif, n_neg, yn_0, yn_1, yn_z, yn_d, one31, Nat.add_sub_cancel, Nat.not_lt_zero, if_true, if_false, ite_true, ite_false, Bool.true_eq_false, Bool.false_eq_true, Nat.add_zero, Nat.zero_add]) (by simp (disch := omega) only [f_X12_write, m_isSheet, b1, so_65, ly_65_0 hR, ly_65_1 hR, ly_65_2 hR, ly_65_4 hR, ly_65_11 hR, ly_65_13 hR, ly_65_14 hR, ly_65_15 hR, ly_65_16 hR, ly_65_17 hR, ly_65_18 hR, ly_65_19 hR, ly_65_20 hR, ly_65_22 hR, ly_65_24 hR, ly_65_25 hR, ly_65_26 hR, ly_65_27 hR, ly_65_28 hR, ly_65_29 hR, ly_65_30 hR, ao_81, ao_82, e3, m1_ge0, lit, gp1, rl1, rs1, bd1, lt1, n_add, n_sub, n_dec, n_le, n_lt, n_eq, n_in, nI_clamp, n_mul, m_or, m_and, m_pow, m_bit, m_dif, n_neg, yn_0, yn_1, yn_z, yn_d, one31, Nat.add_sub_cancel, Nat.not_lt_zero, if_true, if_false, ite_true, ite_false, Bool.true_eq_false, Bool.false_eq_true, Nat.add_zero, Nat.zero_add]))
    · have z : (nI k = -nI 1) = False := n_nn (by omega) (by decide) (by decide)
      have hh := q_has8 (J := J) hR hs n40 e1 x2
      cases b3 : ltb n x2 with
      | false => exact ZR_ZZ hR hK (ZZ_no h (r := -nI 12) (by simp (disch := omega) only [f_X11_write, x_sheet, b1, so_0, ly_0_0 hR, ly_0_1 hR, ly_0_3 hR, ly_0_4 hR, ly_0_5 hR, ly_0_7 hR, ly_0_8 hR, ly_0_9 hR, ly_0_10 hR, ao_53, al_53, ly_53_0 hR, ly_53_1 hR, ly_53_2 hR, ly_53_3 hR, f1, f3, e0, e3, z, hh, b3, lit, gp1, rl1, rs1, bd1, lt1, n_add, n_sub, n_dec, n_le, n_lt, n_eq, n_in, nI_clamp, n_mul, m_or, m_and, m_pow, m_bit, m_dif, n_neg, yn_0, yn_1, yn_z, yn_d, one31, Nat.add_sub_cancel, Nat.not_lt_zero, if_true, if_false, ite_true, ite_false, Bool.true_eq_false, Bool.false_eq_true, Nat.add_zero, Nat.zero_add]) (by simp (disch := omega) only [f_X12_write, m_isSheet, b1, so_65, ly_65_0 hR, ly_65_1 hR, ly_65_2 hR, ly_65_4 hR, ly_65_11 hR, ly_65_13 hR, ly_65_14 hR, ly_65_15 hR, ly_65_16 hR, ly_65_17 hR, ly_65_18 hR, ly_65_19 hR, ly_65_20 hR, ly_65_22 hR, ly_65_24 hR, ly_65_25 hR, ly_65_26 hR, ly_65_27 hR, ly_65_28 hR, ly_65_29 hR, ly_65_30 hR, ao_81, ao_82, e3, e2, m_btw, btw_lt, btw_lp, b3, Nat.zero_le, lit, gp1, rl1, rs1, bd1, lt1, n_add, n_sub, n_dec, n_le, n_lt, n_eq, n_in, nI_clamp, n_mul, m_or, m_and, m_pow, m_bit, m_dif, n_neg, yn_0, yn_1, yn_z, yn_d, one31, Nat.add_sub_cancel, Nat.not_lt_zero, if_true, if_false, ite_true, ite_false, Bool.true_eq_false, Bool.false_eq_true, Nat.add_zero, Nat.zero_add]))
      | true =>
        obtain ⟨i, hi, rfl⟩ := ltb_e (by omega) b3
        have hi40 : i < 40 := by omega
        have hnw := q_narrowed (J := J) hR hs hk (e0.trans e3) x3
        have fr1 : ∀ a j, a ≠ 58 + 2 * s → up2 I (58 + 2 * s) i (nrw k x3) a j = I a j := fun a j a1 => by rw [u_eq, if_neg (by omega)]
        have fr : ∀ a j, a ≠ 58 + 2 * s → a ≠ 80 → up2 (up2 I (58 + 2 * s) i (nrw k x3)) 80 (40 * s + i) (nrw k x3) a j = I a j := fun a j a1 a2 => by rw [u_eq, if_neg (by omega), u_eq, if_neg (by omega)]
        have g3 : up2 I (58 + 2 * s) i (nrw k x3) 81 s = nI k := (fr1 _ _ (by omega)).trans e3
        have g2 : up2 I (58 + 2 * s) i (nrw k x3) 82 s = nI n := (fr1 _ _ (by omega)).trans e2
        refine ⟨up2 I (58 + 2 * s) i (nrw k x3), nI 1, up2 (up2 I (58 + 2 * s) i (nrw k x3)) 80 (40 * s + i) (nrw k x3), by simp (disch := omega) only [f_X11_write, x_sheet, b1, so_0, ly_0_0 hR, ly_0_1 hR, ly_0_3 hR, ly_0_4 hR, ly_0_5 hR, ly_0_7 hR, ly_0_8 hR, ly_0_9 hR, ly_0_10 hR, ao_53, al_53, ly_53_0 hR, ly_53_1 hR, ly_53_2 hR, ly_53_3 hR, f1, f2, f3, f4, e0, e3, z, hh, b3, hnw, lit, gp1, rl1, rs1, bd1, lt1, n_add, n_sub, n_dec, n_le, n_lt, n_eq, n_in, nI_clamp, n_mul, m_or, m_and, m_pow, m_bit, m_dif, n_neg, yn_0, yn_1, yn_z, yn_d, one31, Nat.add_sub_cancel, Nat.not_lt_zero, if_true, if_false, ite_true, ite_false, Bool.true_eq_false, Bool.false_eq_true, Nat.add_zero, Nat.zero_add], ?_, J, D, rfl, hR, Core_to ⟨CR_fr (fun a j q1 q2 => fr a j (by omega) (by omega)) hC, MR_fr (fun j => fr 66 j (by omega) (by decide)) hM, hV, ST_up (by omega) (ST_fr (fun a j q => fr a j (by omega) (by omega)) hT)⟩, KP_s (fun a j q => fr a j (by omega) (by omega)) hK.1, TP_s (fun a j q => fr a j (by omega) (by omega)) hK.2.1, RW_s (fun a j q => fr a j (by omega) (by omega)) hK.2.2.1, SH_w hs hi40 hK.2.2.2.1 rfl, SV_s (fun a j q => fr a j (by omega) (by omega)) hK.2.2.2.2.1, TH_s (fun a j q => fr a j (by omega) (by omega)) hK.2.2.2.2.2⟩
        rcases (by omega : k = 0 ∨ k = 1 ∨ k = 2 ∨ k = 3 ∨ k = 4) with e | e | e | e | e <;> subst e
        · simp (disch := omega) only [f_X12_write, m_isSheet, b1, so_65, ly_65_0 hR, ly_65_1 hR, ly_65_2 hR, ly_65_4 hR, ly_65_11 hR, ly_65_13 hR, ly_65_14 hR, ly_65_15 hR, ly_65_16 hR, ly_65_17 hR, ly_65_18 hR, ly_65_19 hR, ly_65_20 hR, ly_65_22 hR, ly_65_24 hR, ly_65_25 hR, ly_65_26 hR, ly_65_27 hR, ly_65_28 hR, ly_65_29 hR, ly_65_30 hR, ao_80, ao_81, ao_82, g3, g2, m_btw, btw_lt, btw_lp, b3, Nat.zero_le, lit, gp1, rl1, rs1, bd1, lt1, n_add, n_sub, n_dec, n_le, n_lt, n_eq, n_in, nI_clamp, n_mul, m_or, m_and, m_pow, m_bit, m_dif, n_neg, yn_0, yn_1, yn_z, yn_d, one31, Nat.add_sub_cancel, Nat.not_lt_zero, if_true, if_false, ite_true, ite_false, Bool.true_eq_false, Bool.false_eq_true, Nat.add_zero, Nat.zero_add]
          rfl
        · simp (disch := omega) only [f_X12_write, m_isSheet, b1, so_65, ly_65_0 hR, ly_65_1 hR, ly_65_2 hR, ly_65_4 hR, ly_65_11 hR, ly_65_13 hR, ly_65_14 hR, ly_65_15 hR, ly_65_16 hR, ly_65_17 hR, ly_65_18 hR, ly_65_19 hR, ly_65_20 hR, ly_65_22 hR, ly_65_24 hR, ly_65_25 hR, ly_65_26 hR, ly_65_27 hR, ly_65_28 hR, ly_65_29 hR, ly_65_30 hR, ao_80, ao_81, ao_82, g3, g2, m_btw, btw_lt, btw_lp, b3, Nat.zero_le, Nat.reduceEqDiff, lit, gp1, rl1, rs1, bd1, lt1, n_add, n_sub, n_dec, n_le, n_lt, n_eq, n_in, nI_clamp, n_mul, m_or, m_and, m_pow, m_bit, m_dif, n_neg, yn_0, yn_1, yn_z, yn_d, one31, Nat.add_sub_cancel, Nat.not_lt_zero, if_true, if_false, ite_true, ite_false, Bool.true_eq_false, Bool.false_eq_true, Nat.add_zero, Nat.zero_add]
          rfl
        · simp (disch := omega) only [f_X12_write, m_isSheet, b1, so_65, ly_65_0 hR, ly_65_1 hR, ly_65_2 hR, ly_65_4 hR, ly_65_11 hR, ly_65_13 hR, ly_65_14 hR, ly_65_15 hR, ly_65_16 hR, ly_65_17 hR, ly_65_18 hR, ly_65_19 hR, ly_65_20 hR, ly_65_22 hR, ly_65_24 hR, ly_65_25 hR, ly_65_26 hR, ly_65_27 hR, ly_65_28 hR, ly_65_29 hR, ly_65_30 hR, ao_80, ao_81, ao_82, g3, g2, m_btw, btw_lt, btw_lp, b3, Nat.zero_le, Nat.reduceEqDiff, lit, gp1, rl1, rs1, bd1, lt1, n_add, n_sub, n_dec, n_le, n_lt, n_eq, n_in, nI_clamp, n_mul, m_or, m_and, m_pow, m_bit, m_dif, n_neg, yn_0, yn_1, yn_z, yn_d, one31, Nat.add_sub_cancel, Nat.not_lt_zero, if_true, if_false, ite_true, ite_false, Bool.true_eq_false, Bool.false_eq_true, Nat.add_zero, Nat.zero_add]
          rfl
        · simp (disch := omega) only [f_X12_write, m_isSheet, b1, so_65, ly_65_0 hR, ly_65_1 hR, ly_65_2 hR, ly_65_4 hR, ly_65_11 hR, ly_65_13 hR, ly_65_14 hR, ly_65_15 hR, ly_65_16 hR, ly_65_17 hR, ly_65_18 hR, ly_65_19 hR, ly_65_20 hR, ly_65_22 hR, ly_65_24 hR, ly_65_25 hR, ly_65_26 hR, ly_65_27 hR, ly_65_28 hR, ly_65_29 hR, ly_65_30 hR, ao_80, ao_81, ao_82, g3, g2, m_btw, btw_lt, btw_lp, b3, Nat.zero_le, Nat.reduceEqDiff, lit, gp1, rl1, rs1, bd1, lt1, n_add, n_sub, n_dec, n_le, n_lt, n_eq, n_in, nI_clamp, n_mul, m_or, m_and, m_pow, m_bit, m_dif, n_neg, yn_0, yn_1, yn_z, yn_d, one31, Nat.add_sub_cancel, Nat.not_lt_zero, if_true, if_false, ite_true, ite_false, Bool.true_eq_false, Bool.false_eq_true, Nat.add_zero, Nat.zero_add]
          rfl
        · simp (disch := omega) only [f_X12_write, m_isSheet, b1, so_65, ly_65_0 hR, ly_65_1 hR, ly_65_2 hR, ly_65_4 hR, ly_65_11 hR, ly_65_13 hR, ly_65_14 hR, ly_65_15 hR, ly_65_16 hR, ly_65_17 hR, ly_65_18 hR, ly_65_19 hR, ly_65_20 hR, ly_65_22 hR, ly_65_24 hR, ly_65_25 hR, ly_65_26 hR, ly_65_27 hR, ly_65_28 hR, ly_65_29 hR, ly_65_30 hR, ao_80, ao_81, ao_82, g3, g2, m_btw, btw_lt, btw_lp, b3, Nat.zero_le, Nat.reduceEqDiff, lit, gp1, rl1, rs1, bd1, lt1, n_add, n_sub, n_dec, n_le, n_lt, n_eq, n_in, nI_clamp, n_mul, m_or, m_and, m_pow, m_bit, m_dif, n_neg, yn_0, yn_1, yn_z, yn_d, one31, Nat.add_sub_cancel, Nat.not_lt_zero, if_true, if_false, ite_true, ite_false, Bool.true_eq_false, Bool.false_eq_true, Nat.add_zero, Nat.zero_add]
          unfold nrw
          by_cases q : x3 = nI 0
          · rw [if_pos q, if_neg (by decide), if_neg (by decide), if_pos rfl, if_pos q]
          · rw [if_neg q, if_neg (by decide), if_neg (by decide), if_pos rfl, if_neg q]
theorem q_become12 (hR : Lay R) {s : Nat} (hs : s < 4) : ∀ (r t f : Nat) (I : Iw), t + r = 40 → r < f → (∀ j, j < t → I (58 + 2 * s) j = nI 0) →
    ∃ I', f_X8_become_12 (S0 ++ J) R f I (57 + 2 * s) (nI t) = some I' ∧ (∀ j, j < 40 → I' (58 + 2 * s) j = nI 0) ∧ ∀ a j, a ≠ 58 + 2 * s → I' a j = I a j := by
  obtain ⟨f1, f2, f3, f4⟩ := sh_f (J := J) hR hs
  intro r
  induction r with
  | zero =>
    intro t f I ht hf hI
    obtain ⟨f, rfl⟩ := Nat.exists_eq_succ_of_ne_zero (n := f) (by omega)
    have : t = 40 := by omega
    subst this
    exact ⟨I, by rw [f_X8_become_12, if_pos (by decide)], hI, fun _ _ _ => rfl⟩
  | succ r ih =>
    intro t f I ht hf hI
    obtain ⟨f, rfl⟩ := Nat.exists_eq_succ_of_ne_zero (n := f) (by omega)
    obtain ⟨I', e1, e2, e3⟩ := ih (t + 1) f (up2 I (58 + 2 * s) t (nI 0)) (by omega) (by omega) (fun j hj => by
      rw [u_eq]
      by_cases q : j = t
      · rw [if_pos ⟨rfl, q⟩]
      · rw [if_neg (fun z => q z.2)]; exact hI j (by omega))
    refine ⟨I', ?_, e2, fun a j h => by rw [e3 a j h, u_eq, if_neg (by omega)]⟩
    rw [f_X8_become_12]
    simp (disch := omega) only [f2, f3, f4, lit, gp1, rl1, rs1, bd1, lt1, n_add, n_sub, n_dec, n_le, n_lt, n_eq, n_in, nI_clamp, n_mul, m_or, m_and, m_pow, m_bit, m_dif, n_neg, yn_0, yn_1, yn_z, yn_d, one31, Nat.add_sub_cancel, Nat.not_lt_zero, if_true, if_false, ite_true, ite_false, Bool.true_eq_false, Bool.false_eq_true, Nat.add_zero, Nat.zero_add]
    rw [if_neg (by omega)]
    exact e1
theorem m_sheet64 (hR : Lay R) {s : Nat} (hs : s < 4) : ∀ (r t f : Nat) (I : Iw), t + r = 40 → r < f → (∀ j, j < t → I 80 (40 * s + j) = nI 0) →
    ∃ I', f_X12_sheet_64 (S0 ++ J) R f I 65 (nI s) (nI t) = some (I', nI 1) ∧ (∀ j, j < 40 → I' 80 (40 * s + j) = nI 0) ∧ ∀ a j, ¬ (a = 80 ∧ 40 * s ≤ j ∧ j < 40 * s + 40) → I' a j = I a j := by
  intro r
  induction r with
  | zero =>
    intro t f I ht hf hI
    obtain ⟨f, rfl⟩ := Nat.exists_eq_succ_of_ne_zero (n := f) (by omega)
    have : t = 40 := by omega
    subst this
    exact ⟨I, by rw [f_X12_sheet_64, if_pos (by decide)]; rfl, hI, fun _ _ _ => rfl⟩
  | succ r ih =>
    intro t f I ht hf hI
    obtain ⟨f, rfl⟩ := Nat.exists_eq_succ_of_ne_zero (n := f) (by omega)
    obtain ⟨I', e1, e2, e3⟩ := ih (t + 1) f (up2 I 80 (40 * s + t) (nI 0)) (by omega) (by omega) (fun j hj => by
      rw [u_eq]
      by_cases q : j = t
      · rw [if_pos (by omega)]
      · rw [if_neg (by omega)]; exact hI j (by omega))
    refine ⟨I', ?_, e2, fun a j h => by rw [e3 a j h, u_eq, if_neg (by omega)]⟩
    rw [f_X12_sheet_64]
    simp (disch := omega) only [so_65, ly_65_0 hR, ly_65_1 hR, ly_65_2 hR, ly_65_4 hR, ly_65_11 hR, ly_65_13 hR, ly_65_14 hR, ly_65_15 hR, ly_65_16 hR, ly_65_17 hR, ly_65_18 hR, ly_65_19 hR, ly_65_20 hR, ly_65_22 hR, ly_65_24 hR, ly_65_25 hR, ly_65_26 hR, ly_65_27 hR, ly_65_28 hR, ly_65_29 hR, ly_65_30 hR, ao_80, lit, gp1, rl1, rs1, bd1, lt1, n_add, n_sub, n_dec, n_le, n_lt, n_eq, n_in, nI_clamp, n_mul, m_or, m_and, m_pow, m_bit, m_dif, n_neg, yn_0, yn_1, yn_z, yn_d, one31, Nat.add_sub_cancel, Nat.not_lt_zero, if_true, if_false, ite_true, ite_false, Bool.true_eq_false, Bool.false_eq_true, Nat.add_zero, Nat.zero_add]
    rw [if_neg (by omega)]
    exact e1
/-- a sheet becomes another one, on both sides -/
theorem z_become {n0 s n : Nat} (hR : Lay R) (h : Core I D (16 * n0)) (hK : Rest (S0 ++ J) R I) (hs : s < 4) (n40 : n ≤ 40) {so : Int32} (hso : so = -nI 1 ∨ ∃ k, k ≤ 4 ∧ so = nI k) :
    ∃ I1 I2, f_X8_become (S0 ++ J) R I (57 + 2 * s) so (nI n) = some I1 ∧ f_X12_sheet_64 (S0 ++ J) R 512 (up2 (up2 I1 81 s so) 82 s (nI n)) 65 (nI s) 0 = some (I2, nI 1) ∧ Rel (n0 + 1) (S0 ++ J) R I2 := by
  have ⟨hC, hM, hV, hT⟩ := h
  obtain ⟨f1, f2, f3, f4⟩ := sh_f (J := J) hR hs
  obtain ⟨I1, e1, e2, e3⟩ := q_become12 (J := J) hR hs 40 0 512 (up2 (up2 I (57 + 2 * s) 0 so) (57 + 2 * s) 1 (nI n)) rfl (by decide) (fun j hj => absurd hj (Nat.not_lt_zero j))
  obtain ⟨I2, g1, g2, g3⟩ := m_sheet64 (J := J) hR hs 40 0 512 (up2 (up2 I1 81 s so) 82 s (nI n)) rfl (by decide) (fun j hj => absurd hj (Nat.not_lt_zero j))
  have fr1 : ∀ a j, a ≠ 58 + 2 * s → a ≠ 57 + 2 * s → I1 a j = I a j := fun a j a1 a2 => by rw [e3 a j a1, u_eq, if_neg (by omega), u_eq, if_neg (by omega)]
  have fr : ∀ a j, a ≠ 58 + 2 * s → a ≠ 57 + 2 * s → a ≠ 80 → a ≠ 81 → a ≠ 82 → I2 a j = I a j := fun a j a1 a2 a3 a4 a5 => by rw [g3 a j (by omega), u_eq, if_neg (by omega), u_eq, if_neg (by omega), fr1 a j a1 a2]
  refine ⟨I1, I2, ?_, g1, J, D, rfl, hR, Core_to ⟨CR_fr (fun a j q1 q2 => fr a j (by omega) (by omega) (by omega) (by omega) (by omega)) hC, MR_fr (fun j => fr 66 j (by omega) (by omega) (by omega) (by omega) (by omega)) hM, hV, ST_up (by omega) (ST_fr (fun a j q => fr a j (by omega) (by omega) (by omega) (by omega) (by omega)) hT)⟩, KP_s (fun a j q => fr a j (by omega) (by omega) (by omega) (by omega) (by omega)) hK.1, TP_s (fun a j q => fr a j (by omega) (by omega) (by omega) (by omega) (by omega)) hK.2.1, RW_s (fun a j q => fr a j (by omega) (by omega) (by omega) (by omega) (by omega)) hK.2.2.1, fun t ht => ?_, SV_s (fun a j q => fr a j (by omega) (by omega) (by omega) (by omega) (by omega)) hK.2.2.2.2.1, TH_s (fun a j q => fr a j (by omega) (by omega) (by omega) (by omega) (by omega)) hK.2.2.2.2.2⟩
  · rw [f_X8_become, f3, gp1, lt1, lt1]
    exact e1
  · by_cases q : t = s
    · subst q
      have v81 : I2 81 t = so := by rw [g3 81 t (by omega), u_eq, if_neg (by omega), u_eq, if_pos ⟨rfl, rfl⟩]
      refine ⟨n, n40, ?_, ?_, ?_, by rw [v81]; exact hso, fun j hj => ?_⟩
      · rw [v81, g3 _ 0 (by omega), u_eq, if_neg (by omega), u_eq, if_neg (by omega), e3 _ 0 (by omega), u_eq, if_neg (by omega), u_eq, if_pos ⟨rfl, rfl⟩]
      · rw [g3 _ 1 (by omega), u_eq, if_neg (by omega), u_eq, if_neg (by omega), e3 _ 1 (by omega), u_eq, if_pos ⟨rfl, rfl⟩]
      · rw [g3 82 t (by omega), u_eq, if_pos ⟨rfl, rfl⟩]
      · rw [g2 j hj, g3 _ j (by omega), u_eq, if_neg (by omega), u_eq, if_neg (by omega)]
        exact e2 j hj
    · obtain ⟨m, m40, w0, w1, w2, w3, w4⟩ := hK.2.2.2.1 t ht
      have v81 : I2 81 t = I 81 t := by rw [g3 81 t (by omega), u_eq, if_neg (by omega), u_eq, if_neg (by omega), fr1 81 t (by omega) (by omega)]
      refine ⟨m, m40, ?_, ?_, ?_, by rw [v81]; exact w3, fun j hj => ?_⟩
      · rw [v81, fr _ 0 (by omega) (by omega) (by omega) (by omega) (by omega)]; exact w0
      · rw [fr _ 1 (by omega) (by omega) (by omega) (by omega) (by omega)]; exact w1
      · rw [g3 82 t (by omega), u_eq, if_neg (by omega), u_eq, if_neg (by omega), fr1 82 t (by omega) (by omega)]; exact w2
      · rw [fr _ j (by omega) (by omega) (by omega) (by omega) (by omega), g3 80 _ (by omega), u_eq, if_neg (by omega), u_eq, if_neg (by omega), fr1 80 _ (by omega) (by omega)]; exact w4 j hj
theorem z_sheet {n0 : Nat} (hR : Lay R) (h : Core I D (16 * n0)) (hK : Rest (S0 ++ J) R I) (x1 x2 x3 : Int32) : ZR n0 (S0 ++ J) R (f_X11_sheet (S0 ++ J) R I 0 x1 x2 x3) (fun I1 => f_X12_sheet (S0 ++ J) R I1 65 x1 x2 x3) := by
  cases b1 : btw x1 (nI 0) (nI 3) with
  | false => exact ZR_ZZ hR hK (ZZ_no h (r := -nI 1) (by simp (disch := omega) only [f_X11_sheet, x_sheet, b1, lit, gp1, rl1, rs1, bd1, lt1, n_add, n_sub, n_dec, n_le, n_lt, n_eq, n_in, nI_clamp, n_mul, m_or, m_and, m_pow, m_bit, m_dif, n_neg, yn_0, yn_1, yn_z, yn_d, one31, Nat.add_sub_cancel, Nat.not_lt_zero, if_true, if_false, ite_true, ite_false, Bool.true_eq_false, Bool.false_eq_true, Nat.add_zero, Nat.zero_add]) (by simp (disch := omega) only [f_X12_sheet, m_isSheet, b1, lit, gp1, rl1, rs1, bd1, lt1, n_add, n_sub, n_dec, n_le, n_lt, n_eq, n_in, nI_clamp, n_mul, m_or, m_and, m_pow, m_bit, m_dif, n_neg, yn_0, yn_1, yn_z, yn_d, one31, Nat.add_sub_cancel, Nat.not_lt_zero, if_true, if_false, ite_true, ite_false, Bool.true_eq_false, Bool.false_eq_true, Nat.add_zero, Nat.zero_add]))
  | true =>
    obtain ⟨s, -, s3, rfl⟩ := btw_e (by decide) (by decide) b1
    have hs : s < 4 := by omega
    obtain ⟨f1, f2, f3, f4⟩ := sh_f (J := J) hR hs
    cases b2 : btw x2 (-nI 1) (nI 4) with
    | false => exact ZR_ZZ hR hK (ZZ_no h (r := -nI 1) (by simp (disch := omega) only [f_X11_sheet, x_sheet, b1, x_btw, b2, lit, gp1, rl1, rs1, bd1, lt1, n_add, n_sub, n_dec, n_le, n_lt, n_eq, n_in, nI_clamp, n_mul, m_or, m_and, m_pow, m_bit, m_dif, n_neg, yn_0, yn_1, yn_z, yn_d, one31, Nat.add_sub_cancel, Nat.not_lt_zero, if_true, if_false, ite_true, ite_false, Bool.true_eq_false, Bool.false_eq_true, Nat.add_zero, Nat.zero_add]) (by simp (disch := omega) only [f_X12_sheet, m_isSheet, b1, m_btw, b2, lit, gp1, rl1, rs1, bd1, lt1, n_add, n_sub, n_dec, n_le, n_lt, n_eq, n_in, nI_clamp, n_mul, m_or, m_and, m_pow, m_bit, m_dif, n_neg, yn_0, yn_1, yn_z, yn_d, one31, Nat.add_sub_cancel, Nat.not_lt_zero, if_true, if_false, ite_true, ite_false, Bool.true_eq_false, Bool.false_eq_true, Nat.add_zero, Nat.zero_add]))
    | true =>
      rcases btw_m1 (by decide) b2 with rfl | ⟨k, k4, rfl⟩
      · obtain ⟨I1, I2, e1, e2, e3⟩ := z_become (J := J) (so := -nI 1) (n := 0) hR h hK hs (by decide) (Or.inl rfl)
        refine ⟨I1, nI 1, I2, by simp (disch := omega) only [f_X11_sheet, f_X11_sheet_29, f_X11_sheet_41, f_X11_sheet_58, x_sheet, b1, x_btw, b2, so_0, ly_0_0 hR, ly_0_1 hR, ly_0_3 hR, ly_0_4 hR, ly_0_5 hR, ly_0_7 hR, ly_0_8 hR, ly_0_9 hR, ly_0_10 hR, ao_53, al_53, ly_53_0 hR, ly_53_1 hR, ly_53_2 hR, ly_53_3 hR, f1, f3, e1, lit, gp1, rl1, rs1, bd1, lt1, n_add, n_sub, n_dec, n_le, n_lt, n_eq, n_in, nI_clamp, n_mul, m_or, m_and, m_pow, m_bit, m_dif, n_neg, yn_0, yn_1, yn_z, yn_d, one31, Nat.add_sub_cancel, Nat.not_lt_zero, if_true, if_false, ite_true, ite_false, Bool.true_eq_false, Bool.false_eq_true, Nat.add_zero, Nat.zero_add], ?_, e3⟩
        simp (disch := omega) only [f_X12_sheet, f_X12_sheet_28, f_X12_sheet_39, f_X12_sheet_60, m_isSheet, b1, m_btw, b2, m1_lt0, m1_ge0, so_65, ly_65_0 hR, ly_65_1 hR, ly_65_2 hR, ly_65_4 hR, ly_65_11 hR, ly_65_13 hR, ly_65_14 hR, ly_65_15 hR, ly_65_16 hR, ly_65_17 hR, ly_65_18 hR, ly_65_19 hR, ly_65_20 hR, ly_65_22 hR, ly_65_24 hR, ly_65_25 hR, ly_65_26 hR, ly_65_27 hR, ly_65_28 hR, ly_65_29 hR, ly_65_30 hR, ao_81, ao_82, lit, gp1, rl1, rs1, bd1, lt1, n_add, n_sub, n_dec, n_le, n_lt, n_eq, n_in, nI_clamp, n_mul, m_or, m_and, m_pow, m_bit, m_dif, n_neg, yn_0, yn_1, yn_z, yn_d, one31, Nat.add_sub_cancel, Nat.not_lt_zero, if_true, if_false, ite_true, ite_false, Bool.true_eq_false, Bool.false_eq_true, Nat.add_zero, Nat.zero_add]
        exact e2
      · have z : (nI k = -nI 1) = False := n_nn (by omega) (by decide) (by decide)
        by_cases q1 : x3 ≤ nI 40
        · by_cases q2 : nI 0 ≤ x3
          · obtain ⟨n, n40, rfl⟩ : ∃ n, n ≤ 40 ∧ x3 = nI n := by
              rcases pk_ix x3 (n := 41) (by decide) with q | q | ⟨n, hn, e⟩
              · exact absurd (Int32.lt_of_lt_of_le q q2) Int32.lt_irrefl
              · exact absurd (Int32.lt_of_lt_of_le (show nI 40 < nI 41 by decide) (Int32.le_trans q q1)) Int32.lt_irrefl
              · exact ⟨n, by omega, e⟩
            obtain ⟨I1, I2, e1, e2, e3⟩ := z_become (J := J) (so := nI k) (n := n) hR h hK hs n40 (Or.inr ⟨k, k4, rfl⟩)
            refine ⟨I1, nI 1, I2, by simp (disch := omega) only [f_X11_sheet, f_X11_sheet_29, f_X11_sheet_41, f_X11_sheet_58, x_sheet, b1, x_btw, b2, z, q1, q2, Nat.zero_le, n40, so_0, ly_0_0 hR, ly_0_1 hR, ly_0_3 hR, ly_0_4 hR, ly_0_5 hR, ly_0_7 hR, ly_0_8 hR, ly_0_9 hR, ly_0_10 hR, ao_53, al_53, ly_53_0 hR, ly_53_1 hR, ly_53_2 hR, ly_53_3 hR, f1, f3, e1, lit, gp1, rl1, rs1, bd1, lt1, n_add, n_sub, n_dec, n_le, n_lt, n_eq, n_in, nI_clamp, n_mul, m_or, m_and, m_pow, m_bit, m_dif, n_neg, yn_0, yn_1, yn_z, yn_d, one31, Nat.add_sub_cancel, Nat.not_lt_zero, if_true, if_false, ite_true, ite_false, Bool.true_eq_false, Bool.false_eq_true, Nat.add_zero, Nat.zero_add], ?_, e3⟩
            simp (disch := omega) only [f_X12_sheet, f_X12_sheet_28, f_X12_sheet_39, f_X12_sheet_60, m_isSheet, b1, m_btw, b2, z, q1, q2, Nat.zero_le, n40, so_65, ly_65_0 hR, ly_65_1 hR, ly_65_2 hR, ly_65_4 hR, ly_65_11 hR, ly_65_13 hR, ly_65_14 hR, ly_65_15 hR, ly_65_16 hR, ly_65_17 hR, ly_65_18 hR, ly_65_19 hR, ly_65_20 hR, ly_65_22 hR, ly_65_24 hR, ly_65_25 hR, ly_65_26 hR, ly_65_27 hR, ly_65_28 hR, ly_65_29 hR, ly_65_30 hR, ao_81, ao_82, lit, gp1, rl1, rs1, bd1, lt1, n_add, n_sub, n_dec, n_le, n_lt, n_eq, n_in, nI_clamp, n_mul, m_or, m_and, m_pow, m_bit, m_dif, n_neg, yn_0, yn_1, yn_z, yn_d, one31, Nat.add_sub_cancel, Nat.not_lt_zero, if_true, if_false, ite_true, ite_false, Bool.true_eq_false, Bool.false_eq_true, Nat.add_zero, Nat.zero_add]
            exact e2
          · exact ZR_ZZ hR hK (ZZ_no h (r := -nI 14) (by simp (disch := omega) only [f_X11_sheet, f_X11_sheet_29, x_sheet, b1, x_btw, b2, z, q1, q2, lit, gp1, rl1, rs1, bd1, lt1, n_add, n_sub, n_dec, n_le, n_lt, n_eq, n_in, nI_clamp, n_mul, m_or, m_and, m_pow, m_bit, m_dif, n_neg, yn_0, yn_1, yn_z, yn_d, one31, Nat.add_sub_cancel, Nat.not_lt_zero, if_true, if_false, ite_true, ite_false, Bool.true_eq_false, Bool.false_eq_true, Nat.add_zero, Nat.zero_add]) (by simp (disch := omega) only [f_X12_sheet, f_X12_sheet_28, m_isSheet, b1, m_btw, b2, q1, q2, lit, gp1, rl1, rs1, bd1, lt1, n_add, n_sub, n_dec, n_le, n_lt, n_eq, n_in, nI_clamp, n_mul, m_or, m_and, m_pow, m_bit, m_dif, n_neg, yn_0, yn_1, yn_z, yn_d, one31, Nat.add_sub_cancel, Nat.not_lt_zero, if_true, if_false, ite_true, ite_false, Bool.true_eq_false, Bool.false_eq_true, Nat.add_zero, Nat.zero_add]))
        · exact ZR_ZZ hR hK (ZZ_no h (r := -nI 1) (by simp (disch := omega) only [f_X11_sheet, x_sheet, b1, x_btw, b2, z, q1, lit, gp1, rl1, rs1, bd1, lt1, n_add, n_sub, n_dec, n_le, n_lt, n_eq, n_in, nI_clamp, n_mul, m_or, m_and, m_pow, m_bit, m_dif, n_neg, yn_0, yn_1, yn_z, yn_d, one31, Nat.add_sub_cancel, Nat.not_lt_zero, if_true, if_false, ite_true, ite_false, Bool.true_eq_false, Bool.false_eq_true, Nat.add_zero, Nat.zero_add]) (by simp (disch := omega) only [f_X12_sheet, m_isSheet, b1, m_btw, b2, q1, lit, gp1, rl1, rs1, bd1, lt1, n_add, n_sub, n_dec, n_le, n_lt, n_eq, n_in, nI_clamp, n_mul, m_or, m_and, m_pow, m_bit, m_dif, n_neg, yn_0, yn_1, yn_z, yn_d, one31, Nat.add_sub_cancel, Nat.not_lt_zero, if_true, if_false, ite_true, ite_false, Bool.true_eq_false, Bool.false_eq_true, Nat.add_zero, Nat.zero_add]))
end SHEETS
