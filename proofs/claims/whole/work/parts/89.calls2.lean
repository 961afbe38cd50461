/-! CALLS: who goes -/
section CALLS2
variable {J : Sh} {R : Rw} {I : Iw} {D : Dt} {T : Nat}
def mtP (D : Dt) (g h : Nat) : Bool := h != g && bes D g h
theorem mk_s {P : Nat → Bool} {t : Nat} : mk P (t + 1) = mk P t ||| (if P t then 2 ^ t else 0) := rfl
theorem mates_bit {g h : Nat} (hh : h < d_n D) : (mates D g).testBit h = mtP D g h := by
  rw [mates, mk_bit, decide_eq_true hh, Bool.true_and]; rfl
theorem z_beside (hR : Lay R) (h : Core I D T) (x1 x2 : Int32) : ZQ (f_X11_beside (S0 ++ J) R I 0 x1 x2) (f_X12_beside (S0 ++ J) R I 65 x1 x2) := by
  have ⟨hC, hM, hV, hT⟩ := h
  have h9 := hV.1
  cases b1 : ltb (d_n D) x1 with
  | false => exact ⟨-nI 1, by simp (disch := omega) only [f_X11_beside, so_0, so_1, ly_0_0 hR, ly_0_1 hR, ly_0_3 hR, ly_0_4 hR, ly_0_5 hR, ly_0_7 hR, ly_0_8 hR, ly_0_9 hR, ly_0_10 hR, ly_1_0 hR, ly_1_1 hR, ly_1_2 hR, ly_1_3 hR, ly_1_4 hR, ly_1_7 hR, ly_1_11 hR, ly_1_12 hR, ly_1_13 hR, q_has hC.1, b1, lit, gp1, rl1, rs1, bd1, lt1, n_add, n_sub, n_dec, n_le, n_lt, n_eq, n_in, nI_clamp, n_mul, m_or, m_and, m_pow, m_bit, m_dif, n_neg, yn_0, yn_1, yn_z, yn_d, one31, Nat.add_sub_cancel, Nat.not_lt_zero, if_true, if_false, ite_true, ite_false, Bool.true_eq_false, Bool.false_eq_true, Nat.add_zero, Nat.zero_add], by simp (disch := omega) only [f_X12_beside, f_X12_beside_23, so_65, ao_66, ly_65_0 hR, ly_65_1 hR, ly_65_2 hR, ly_65_4 hR, ly_65_11 hR, ly_65_13 hR, ly_65_14 hR, ly_65_15 hR, ly_65_16 hR, ly_65_17 hR, ly_65_18 hR, ly_65_19 hR, ly_65_20 hR, ly_65_22 hR, ly_65_24 hR, ly_65_25 hR, ly_65_26 hR, ly_65_27 hR, ly_65_28 hR, ly_65_29 hR, ly_65_30 hR, m_isN hR hM hV, b1, lit, gp1, rl1, rs1, bd1, lt1, n_add, n_sub, n_dec, n_le, n_lt, n_eq, n_in, nI_clamp, n_mul, m_or, m_and, m_pow, m_bit, m_dif, n_neg, yn_0, yn_1, yn_z, yn_d, one31, Nat.add_sub_cancel, Nat.not_lt_zero, if_true, if_false, ite_true, ite_false, Bool.true_eq_false, Bool.false_eq_true, Nat.add_zero, Nat.zero_add]⟩
  | true =>
    cases b2 : ltb (d_n D) x2 with
    | false => exact ⟨-nI 1, by simp (disch := omega) only [f_X11_beside, so_0, so_1, ly_0_0 hR, ly_0_1 hR, ly_0_3 hR, ly_0_4 hR, ly_0_5 hR, ly_0_7 hR, ly_0_8 hR, ly_0_9 hR, ly_0_10 hR, ly_1_0 hR, ly_1_1 hR, ly_1_2 hR, ly_1_3 hR, ly_1_4 hR, ly_1_7 hR, ly_1_11 hR, ly_1_12 hR, ly_1_13 hR, q_has hC.1, b1, b2, lit, gp1, rl1, rs1, bd1, lt1, n_add, n_sub, n_dec, n_le, n_lt, n_eq, n_in, nI_clamp, n_mul, m_or, m_and, m_pow, m_bit, m_dif, n_neg, yn_0, yn_1, yn_z, yn_d, one31, Nat.add_sub_cancel, Nat.not_lt_zero, if_true, if_false, ite_true, ite_false, Bool.true_eq_false, Bool.false_eq_true, Nat.add_zero, Nat.zero_add], by simp (disch := omega) only [f_X12_beside, f_X12_beside_23, so_65, ao_66, ly_65_0 hR, ly_65_1 hR, ly_65_2 hR, ly_65_4 hR, ly_65_11 hR, ly_65_13 hR, ly_65_14 hR, ly_65_15 hR, ly_65_16 hR, ly_65_17 hR, ly_65_18 hR, ly_65_19 hR, ly_65_20 hR, ly_65_22 hR, ly_65_24 hR, ly_65_25 hR, ly_65_26 hR, ly_65_27 hR, ly_65_28 hR, ly_65_29 hR, ly_65_30 hR, m_isN hR hM hV, b1, b2, lit, gp1, rl1, rs1, bd1, lt1, n_add, n_sub, n_dec, n_le, n_lt, n_eq, n_in, nI_clamp, n_mul, m_or, m_and, m_pow, m_bit, m_dif, n_neg, yn_0, yn_1, yn_z, yn_d, one31, Nat.add_sub_cancel, Nat.not_lt_zero, if_true, if_false, ite_true, ite_false, Bool.true_eq_false, Bool.false_eq_true, Nat.add_zero, Nat.zero_add]⟩
    | true =>
      obtain ⟨g, hg, rfl⟩ := ltb_e (by omega) b1
      obtain ⟨k, hk, rfl⟩ := ltb_e (by omega) b2
      have e6 : I 6 g = nI (mates D g) := hC.2 g hg
      have hk10 : k < 10 := by omega
      by_cases e : g = k
      · exact ⟨-nI 1, by simp (disch := omega) only [f_X11_beside, so_0, so_1, ly_0_0 hR, ly_0_1 hR, ly_0_3 hR, ly_0_4 hR, ly_0_5 hR, ly_0_7 hR, ly_0_8 hR, ly_0_9 hR, ly_0_10 hR, ly_1_0 hR, ly_1_1 hR, ly_1_2 hR, ly_1_3 hR, ly_1_4 hR, ly_1_7 hR, ly_1_11 hR, ly_1_12 hR, ly_1_13 hR, q_has hC.1, b1, b2, e, lit, gp1, rl1, rs1, bd1, lt1, n_add, n_sub, n_dec, n_le, n_lt, n_eq, n_in, nI_clamp, n_mul, m_or, m_and, m_pow, m_bit, m_dif, n_neg, yn_0, yn_1, yn_z, yn_d, one31, Nat.add_sub_cancel, Nat.not_lt_zero, if_true, if_false, ite_true, ite_false, Bool.true_eq_false, Bool.false_eq_true, Nat.add_zero, Nat.zero_add], by simp (disch := omega) only [f_X12_beside, f_X12_beside_23, so_65, ao_66, ly_65_0 hR, ly_65_1 hR, ly_65_2 hR, ly_65_4 hR, ly_65_11 hR, ly_65_13 hR, ly_65_14 hR, ly_65_15 hR, ly_65_16 hR, ly_65_17 hR, ly_65_18 hR, ly_65_19 hR, ly_65_20 hR, ly_65_22 hR, ly_65_24 hR, ly_65_25 hR, ly_65_26 hR, ly_65_27 hR, ly_65_28 hR, ly_65_29 hR, ly_65_30 hR, m_isN hR hM hV, b1, b2, e, lit, gp1, rl1, rs1, bd1, lt1, n_add, n_sub, n_dec, n_le, n_lt, n_eq, n_in, nI_clamp, n_mul, m_or, m_and, m_pow, m_bit, m_dif, n_neg, yn_0, yn_1, yn_z, yn_d, one31, Nat.add_sub_cancel, Nat.not_lt_zero, if_true, if_false, ite_true, ite_false, Bool.true_eq_false, Bool.false_eq_true, Nat.add_zero, Nat.zero_add]⟩
      · have hb : mtP D g k = bes D g k := by
          unfold mtP
          rw [bne_iff_ne.mpr (fun q => e q.symm), Bool.true_and]
        refine ⟨yn (bes D g k), ?_, ?_⟩
        · simp (disch := omega) only [f_X11_beside, so_0, so_1, ao_2, ao_3, ao_4, ao_5, ao_6, ao_7, so_8, ao_9, ao_10, ao_11, ao_12, ao_13, ao_14, ao_15, ao_16, ly_0_0 hR, ly_0_1 hR, ly_0_3 hR, ly_0_4 hR, ly_0_5 hR, ly_0_7 hR, ly_0_8 hR, ly_0_9 hR, ly_0_10 hR, ly_1_0 hR, ly_1_1 hR, ly_1_2 hR, ly_1_3 hR, ly_1_4 hR, ly_1_7 hR, ly_1_11 hR, ly_1_12 hR, ly_1_13 hR, ly_8_1 hR, ly_8_2 hR, ly_8_3 hR, ly_8_5 hR, ly_8_6 hR, ly_8_7 hR, q_has hC.1, b1, b2, e, e6, x_holds (mates_lt hV g) hk10, mates_bit hk, hb, lit, gp1, rl1, rs1, bd1, lt1, n_add, n_sub, n_dec, n_le, n_lt, n_eq, n_in, nI_clamp, n_mul, m_or, m_and, m_pow, m_bit, m_dif, n_neg, yn_0, yn_1, yn_z, yn_d, one31, Nat.add_sub_cancel, Nat.not_lt_zero, if_true, if_false, ite_true, ite_false, Bool.true_eq_false, Bool.false_eq_true, Nat.add_zero, Nat.zero_add]
          cases bes D g k <;> rfl
        · simp (disch := omega) only [f_X12_beside, f_X12_beside_23, so_65, ao_66, ly_65_0 hR, ly_65_1 hR, ly_65_2 hR, ly_65_4 hR, ly_65_11 hR, ly_65_13 hR, ly_65_14 hR, ly_65_15 hR, ly_65_16 hR, ly_65_17 hR, ly_65_18 hR, ly_65_19 hR, ly_65_20 hR, ly_65_22 hR, ly_65_24 hR, ly_65_25 hR, ly_65_26 hR, ly_65_27 hR, ly_65_28 hR, ly_65_29 hR, ly_65_30 hR, m_isN hR hM hV, b1, b2, e, m_came hR hM hV hg hk, lit, gp1, rl1, rs1, bd1, lt1, n_add, n_sub, n_dec, n_le, n_lt, n_eq, n_in, nI_clamp, n_mul, m_or, m_and, m_pow, m_bit, m_dif, n_neg, yn_0, yn_1, yn_z, yn_d, one31, Nat.add_sub_cancel, Nat.not_lt_zero, if_true, if_false, ite_true, ite_false, Bool.true_eq_false, Bool.false_eq_true, Nat.add_zero, Nat.zero_add]
          cases bes D g k <;> rfl
theorem m_mates15 (hR : Lay R) (hM : MR I 66 D) (hV : VD D) {g : Nat} (hg : g < d_n D) : ∀ (r t f : Nat), t + r = d_n D → r < f →
    f_X12_mates_15 (S0 ++ J) R I f 65 (nI g) (nI (mk (mtP D g) t)) (nI t) = some (nI (mk (mtP D g) (d_n D))) := by
  have h9 := hV.1
  have c3 : I 66 3 = nI (d_n D) := hM.2.2.2.1
  intro r
  induction r with
  | zero =>
    intro t f ht hf
    obtain ⟨f, rfl⟩ := Nat.exists_eq_succ_of_ne_zero (n := f) (by omega)
    rw [f_X12_mates_15]
    simp (disch := omega) only [so_65, ao_66, ly_65_0 hR, ly_65_1 hR, ly_65_2 hR, ly_65_4 hR, ly_65_11 hR, ly_65_13 hR, ly_65_14 hR, ly_65_15 hR, ly_65_16 hR, ly_65_17 hR, ly_65_18 hR, ly_65_19 hR, ly_65_20 hR, ly_65_22 hR, ly_65_24 hR, ly_65_25 hR, ly_65_26 hR, ly_65_27 hR, ly_65_28 hR, ly_65_29 hR, ly_65_30 hR, c3, lit, gp1, rl1, rs1, bd1, lt1, n_add, n_sub, n_dec, n_le, n_lt, n_eq, n_in, nI_clamp, n_mul, m_or, m_and, m_pow, m_bit, m_dif, n_neg, yn_0, yn_1, yn_z, yn_d, one31, Nat.add_sub_cancel, Nat.not_lt_zero, if_true, if_false, ite_true, ite_false, Bool.true_eq_false, Bool.false_eq_true, Nat.add_zero, Nat.zero_add]
    rw [if_pos (by omega), show t = d_n D by omega]
  | succ r ih =>
    intro t f ht hf
    obtain ⟨f, rfl⟩ := Nat.exists_eq_succ_of_ne_zero (n := f) (by omega)
    have := ih (t + 1) f (by omega) (by omega)
    rw [mk_s] at this
    have hp : (1 : Int32) <<< (nI t &&& 31) = nI (2 ^ t) := m_one (by omega)
    have ht10 : t < 32 := by omega
    rw [f_X12_mates_15]
    simp (disch := omega) only [f_X12_mates_46, f_X12_mates_47, so_65, ao_66, ly_65_0 hR, ly_65_1 hR, ly_65_2 hR, ly_65_4 hR, ly_65_11 hR, ly_65_13 hR, ly_65_14 hR, ly_65_15 hR, ly_65_16 hR, ly_65_17 hR, ly_65_18 hR, ly_65_19 hR, ly_65_20 hR, ly_65_22 hR, ly_65_24 hR, ly_65_25 hR, ly_65_26 hR, ly_65_27 hR, ly_65_28 hR, ly_65_29 hR, ly_65_30 hR, c3, m_came hR hM hV hg (show t < d_n D by omega), lit, gp1, rl1, rs1, bd1, lt1, n_add, n_sub, n_dec, n_le, n_lt, n_eq, n_in, nI_clamp, n_mul, m_or, m_and, m_pow, m_bit, m_dif, n_neg, yn_0, yn_1, yn_z, yn_d, one31, Nat.add_sub_cancel, Nat.not_lt_zero, if_true, if_false, ite_true, ite_false, Bool.true_eq_false, Bool.false_eq_true, Nat.add_zero, Nat.zero_add]
    rw [if_neg (by omega)]
    unfold mtP at this ⊢
    by_cases e : t = g
    · rw [if_pos e]
      rw [show (t != g) = false by simp [e], Bool.false_and] at this
      simp only [Nat.or_zero, Bool.false_eq_true, if_false] at this ⊢
      exact this
    · rw [if_neg e]
      rw [show (t != g) = true by simp [e], Bool.true_and] at this
      cases hb : bes D g t with
      | true => rw [hb, if_pos rfl] at this; rw [if_neg (by decide)]; exact this
      | false => rw [hb, if_neg (by decide), Nat.or_zero] at this; rw [if_pos rfl, Nat.or_zero]; exact this
theorem z_mates (hR : Lay R) (h : Core I D T) (x1 : Int32) : ZQ (f_X11_mates (S0 ++ J) R I 0 x1) (f_X12_mates (S0 ++ J) R I 65 x1) := by
  have ⟨hC, hM, hV, hT⟩ := h
  have h9 := hV.1
  cases b1 : ltb (d_n D) x1 with
  | false => exact ⟨-nI 1, by simp (disch := omega) only [f_X11_mates, so_0, so_1, ly_0_0 hR, ly_0_1 hR, ly_0_3 hR, ly_0_4 hR, ly_0_5 hR, ly_0_7 hR, ly_0_8 hR, ly_0_9 hR, ly_0_10 hR, ly_1_0 hR, ly_1_1 hR, ly_1_2 hR, ly_1_3 hR, ly_1_4 hR, ly_1_7 hR, ly_1_11 hR, ly_1_12 hR, ly_1_13 hR, q_has hC.1, b1, lit, gp1, rl1, rs1, bd1, lt1, n_add, n_sub, n_dec, n_le, n_lt, n_eq, n_in, nI_clamp, n_mul, m_or, m_and, m_pow, m_bit, m_dif, n_neg, yn_0, yn_1, yn_z, yn_d, one31, Nat.add_sub_cancel, Nat.not_lt_zero, if_true, if_false, ite_true, ite_false, Bool.true_eq_false, Bool.false_eq_true, Nat.add_zero, Nat.zero_add], by simp (disch := omega) only [f_X12_mates, so_65, ao_66, ly_65_0 hR, ly_65_1 hR, ly_65_2 hR, ly_65_4 hR, ly_65_11 hR, ly_65_13 hR, ly_65_14 hR, ly_65_15 hR, ly_65_16 hR, ly_65_17 hR, ly_65_18 hR, ly_65_19 hR, ly_65_20 hR, ly_65_22 hR, ly_65_24 hR, ly_65_25 hR, ly_65_26 hR, ly_65_27 hR, ly_65_28 hR, ly_65_29 hR, ly_65_30 hR, m_isN hR hM hV, b1, lit, gp1, rl1, rs1, bd1, lt1, n_add, n_sub, n_dec, n_le, n_lt, n_eq, n_in, nI_clamp, n_mul, m_or, m_and, m_pow, m_bit, m_dif, n_neg, yn_0, yn_1, yn_z, yn_d, one31, Nat.add_sub_cancel, Nat.not_lt_zero, if_true, if_false, ite_true, ite_false, Bool.true_eq_false, Bool.false_eq_true, Nat.add_zero, Nat.zero_add]⟩
  | true =>
    obtain ⟨g, hg, rfl⟩ := ltb_e (by omega) b1
    have e6 : I 6 g = nI (mates D g) := hC.2 g hg
    refine ⟨nI (mates D g), by simp (disch := omega) only [f_X11_mates, so_0, so_1, ao_2, ao_3, ao_4, ao_5, ao_6, ao_7, so_8, ao_9, ao_10, ao_11, ao_12, ao_13, ao_14, ao_15, ao_16, ly_0_0 hR, ly_0_1 hR, ly_0_3 hR, ly_0_4 hR, ly_0_5 hR, ly_0_7 hR, ly_0_8 hR, ly_0_9 hR, ly_0_10 hR, ly_1_0 hR, ly_1_1 hR, ly_1_2 hR, ly_1_3 hR, ly_1_4 hR, ly_1_7 hR, ly_1_11 hR, ly_1_12 hR, ly_1_13 hR, ly_8_1 hR, ly_8_2 hR, ly_8_3 hR, ly_8_5 hR, ly_8_6 hR, ly_8_7 hR, q_has hC.1, b1, e6, lit, gp1, rl1, rs1, bd1, lt1, n_add, n_sub, n_dec, n_le, n_lt, n_eq, n_in, nI_clamp, n_mul, m_or, m_and, m_pow, m_bit, m_dif, n_neg, yn_0, yn_1, yn_z, yn_d, one31, Nat.add_sub_cancel, Nat.not_lt_zero, if_true, if_false, ite_true, ite_false, Bool.true_eq_false, Bool.false_eq_true, Nat.add_zero, Nat.zero_add], ?_⟩
    simp (disch := omega) only [f_X12_mates, so_65, ao_66, ly_65_0 hR, ly_65_1 hR, ly_65_2 hR, ly_65_4 hR, ly_65_11 hR, ly_65_13 hR, ly_65_14 hR, ly_65_15 hR, ly_65_16 hR, ly_65_17 hR, ly_65_18 hR, ly_65_19 hR, ly_65_20 hR, ly_65_22 hR, ly_65_24 hR, ly_65_25 hR, ly_65_26 hR, ly_65_27 hR, ly_65_28 hR, ly_65_29 hR, ly_65_30 hR, m_isN hR hM hV, b1, lit, gp1, rl1, rs1, bd1, lt1, n_add, n_sub, n_dec, n_le, n_lt, n_eq, n_in, nI_clamp, n_mul, m_or, m_and, m_pow, m_bit, m_dif, n_neg, yn_0, yn_1, yn_z, yn_d, one31, Nat.add_sub_cancel, Nat.not_lt_zero, if_true, if_false, ite_true, ite_false, Bool.true_eq_false, Bool.false_eq_true, Nat.add_zero, Nat.zero_add]
    exact m_mates15 hR hM hV hg (d_n D) 0 512 (by omega) (by omega)
theorem m_may4 (hR : Lay R) (hM : MR I 66 D) (hV : VD D) : ∀ (r t f : Nat), t + r = d_n D → r < f →
    f_X12_may_4 (S0 ++ J) R I f 65 (nI (mk (mayb D (insm D) (lst D)) t)) (nI t) = some (nI (fre D (insm D) (lst D))) := by
  have h9 := hV.1
  have c3 : I 66 3 = nI (d_n D) := hM.2.2.2.1
  intro r
  induction r with
  | zero =>
    intro t f ht hf
    obtain ⟨f, rfl⟩ := Nat.exists_eq_succ_of_ne_zero (n := f) (by omega)
    rw [f_X12_may_4]
    simp (disch := omega) only [so_65, ao_66, ly_65_0 hR, ly_65_1 hR, ly_65_2 hR, ly_65_4 hR, ly_65_11 hR, ly_65_13 hR, ly_65_14 hR, ly_65_15 hR, ly_65_16 hR, ly_65_17 hR, ly_65_18 hR, ly_65_19 hR, ly_65_20 hR, ly_65_22 hR, ly_65_24 hR, ly_65_25 hR, ly_65_26 hR, ly_65_27 hR, ly_65_28 hR, ly_65_29 hR, ly_65_30 hR, c3, lit, gp1, rl1, rs1, bd1, lt1, n_add, n_sub, n_dec, n_le, n_lt, n_eq, n_in, nI_clamp, n_mul, m_or, m_and, m_pow, m_bit, m_dif, n_neg, yn_0, yn_1, yn_z, yn_d, one31, Nat.add_sub_cancel, Nat.not_lt_zero, if_true, if_false, ite_true, ite_false, Bool.true_eq_false, Bool.false_eq_true, Nat.add_zero, Nat.zero_add]
    rw [if_pos (by omega), show t = d_n D by omega]; rfl
  | succ r ih =>
    intro t f ht hf
    obtain ⟨f, rfl⟩ := Nat.exists_eq_succ_of_ne_zero (n := f) (by omega)
    have := ih (t + 1) f (by omega) (by omega)
    rw [mk_s] at this
    rw [f_X12_may_4]
    simp (disch := omega) only [f_X12_may_30, so_65, ao_66, ly_65_0 hR, ly_65_1 hR, ly_65_2 hR, ly_65_4 hR, ly_65_11 hR, ly_65_13 hR, ly_65_14 hR, ly_65_15 hR, ly_65_16 hR, ly_65_17 hR, ly_65_18 hR, ly_65_19 hR, ly_65_20 hR, ly_65_22 hR, ly_65_24 hR, ly_65_25 hR, ly_65_26 hR, ly_65_27 hR, ly_65_28 hR, ly_65_29 hR, ly_65_30 hR, c3, m_mayGo hR hM hV (show t < d_n D by omega), lit, gp1, rl1, rs1, bd1, lt1, n_add, n_sub, n_dec, n_le, n_lt, n_eq, n_in, nI_clamp, n_mul, m_or, m_and, m_pow, m_bit, m_dif, n_neg, yn_0, yn_1, yn_z, yn_d, one31, Nat.add_sub_cancel, Nat.not_lt_zero, if_true, if_false, ite_true, ite_false, Bool.true_eq_false, Bool.false_eq_true, Nat.add_zero, Nat.zero_add]
    rw [if_neg (by omega)]
    cases hb : mayb D (insm D) (lst D) t with
    | true => rw [hb, if_pos rfl] at this; rw [if_neg (by decide)]; exact this
    | false => rw [hb, if_neg (by decide), Nat.or_zero] at this; rw [if_pos rfl, Nat.or_zero]; exact this
theorem m_may (hR : Lay R) (hM : MR I 66 D) (hV : VD D) : f_X12_may (S0 ++ J) R I 65 = some (nI (fre D (insm D) (lst D))) := by
  have h9 := hV.1
  rw [f_X12_may]
  exact m_may4 hR hM hV (d_n D) 0 512 (by omega) (by omega)
theorem z_may (hR : Lay R) (h : Core I D T) : ZQ (f_X11_may (S0 ++ J) R I 0) (f_X12_may (S0 ++ J) R I 65) := ⟨_, q_may hR h.1 h.2.2.1, m_may hR h.2.1 h.2.2.1⟩
theorem m_tops4 (hR : Lay R) (hM : MR I 66 D) (hV : VD D) : ∀ (r t f : Nat), t + r = d_n D → r < f →
    f_X12_tops_4 (S0 ++ J) R I f 65 (nI (mk (topb D (insm D)) t)) (nI t) = some (nI (mk (topb D (insm D)) (d_n D))) := by
  have h9 := hV.1
  have c3 : I 66 3 = nI (d_n D) := hM.2.2.2.1
  intro r
  induction r with
  | zero =>
    intro t f ht hf
    obtain ⟨f, rfl⟩ := Nat.exists_eq_succ_of_ne_zero (n := f) (by omega)
    rw [f_X12_tops_4]
    simp (disch := omega) only [so_65, ao_66, ly_65_0 hR, ly_65_1 hR, ly_65_2 hR, ly_65_4 hR, ly_65_11 hR, ly_65_13 hR, ly_65_14 hR, ly_65_15 hR, ly_65_16 hR, ly_65_17 hR, ly_65_18 hR, ly_65_19 hR, ly_65_20 hR, ly_65_22 hR, ly_65_24 hR, ly_65_25 hR, ly_65_26 hR, ly_65_27 hR, ly_65_28 hR, ly_65_29 hR, ly_65_30 hR, c3, lit, gp1, rl1, rs1, bd1, lt1, n_add, n_sub, n_dec, n_le, n_lt, n_eq, n_in, nI_clamp, n_mul, m_or, m_and, m_pow, m_bit, m_dif, n_neg, yn_0, yn_1, yn_z, yn_d, one31, Nat.add_sub_cancel, Nat.not_lt_zero, if_true, if_false, ite_true, ite_false, Bool.true_eq_false, Bool.false_eq_true, Nat.add_zero, Nat.zero_add]
    rw [if_pos (by omega), show t = d_n D by omega]
  | succ r ih =>
    intro t f ht hf
    obtain ⟨f, rfl⟩ := Nat.exists_eq_succ_of_ne_zero (n := f) (by omega)
    have := ih (t + 1) f (by omega) (by omega)
    rw [mk_s] at this
    rw [f_X12_tops_4]
    simp (disch := omega) only [f_X12_tops_30, so_65, ao_66, ly_65_0 hR, ly_65_1 hR, ly_65_2 hR, ly_65_4 hR, ly_65_11 hR, ly_65_13 hR, ly_65_14 hR, ly_65_15 hR, ly_65_16 hR, ly_65_17 hR, ly_65_18 hR, ly_65_19 hR, ly_65_20 hR, ly_65_22 hR, ly_65_24 hR, ly_65_25 hR, ly_65_26 hR, ly_65_27 hR, ly_65_28 hR, ly_65_29 hR, ly_65_30 hR, c3, m_top hR hM hV (show t < d_n D by omega), lit, gp1, rl1, rs1, bd1, lt1, n_add, n_sub, n_dec, n_le, n_lt, n_eq, n_in, nI_clamp, n_mul, m_or, m_and, m_pow, m_bit, m_dif, n_neg, yn_0, yn_1, yn_z, yn_d, one31, Nat.add_sub_cancel, Nat.not_lt_zero, if_true, if_false, ite_true, ite_false, Bool.true_eq_false, Bool.false_eq_true, Nat.add_zero, Nat.zero_add]
    rw [if_neg (by omega)]
    cases hb : topb D (insm D) t with
    | true => rw [hb, if_pos rfl] at this; rw [if_neg (by decide)]; exact this
    | false => rw [hb, if_neg (by decide), Nat.or_zero] at this; rw [if_pos rfl, Nat.or_zero]; exact this
theorem z_tops (hR : Lay R) (h : Core I D T) : ZQ (f_X11_tops (S0 ++ J) R I 0) (f_X12_tops (S0 ++ J) R I 65) := by
  have ⟨hC, hM, hV, hT⟩ := h
  have h9 := hV.1
  have c6 : I 1 6 = nI (insm D) := hC.1.2.1
  refine ⟨nI (mk (topb D (insm D)) (d_n D)), by simp (disch := omega) only [f_X11_tops, so_0, so_1, ly_0_0 hR, ly_0_1 hR, ly_0_3 hR, ly_0_4 hR, ly_0_5 hR, ly_0_7 hR, ly_0_8 hR, ly_0_9 hR, ly_0_10 hR, ly_1_0 hR, ly_1_1 hR, ly_1_2 hR, ly_1_3 hR, ly_1_4 hR, ly_1_7 hR, ly_1_11 hR, ly_1_12 hR, ly_1_13 hR, c6, p_tops hR hC.1 hV (insm_lt D), lit, gp1, rl1, rs1, bd1, lt1, n_add, n_sub, n_dec, n_le, n_lt, n_eq, n_in, nI_clamp, n_mul, m_or, m_and, m_pow, m_bit, m_dif, n_neg, yn_0, yn_1, yn_z, yn_d, one31, Nat.add_sub_cancel, Nat.not_lt_zero, if_true, if_false, ite_true, ite_false, Bool.true_eq_false, Bool.false_eq_true, Nat.add_zero, Nat.zero_add], ?_⟩
  rw [f_X12_tops]
  exact m_tops4 hR hM hV (d_n D) 0 512 (by omega) (by omega)
/-- the reference's go, where the good may -/
theorem m_went (hR : Lay R) (hM : MR I 66 D) (hV : VD D) {g : Nat} (hi : isin D g = true) : ∃ I', f_X12_wentFor (S0 ++ J) R I 65 (nI g) = some (I', nI (fee D g)) ∧ MR I' 66 (Dout D g) ∧ ∀ a j, a ≠ 66 → a ≠ 77 → I' a j = I a j := by
  have hg := (isin_iff.mp hi).1
  obtain ⟨If, f1, f2⟩ := m_fee (J := J) hR hM hV hg
  obtain ⟨I1, o1, o2, o3, _⟩ := m_outback (J := J) hR (MR_fr (fun j => f2 66 j (by decide)) hM) hV hi
  refine ⟨I1, ?_, o2, fun a j a1 a2 => by rw [o3 a j a1, f2 a j a2]⟩
  simp (disch := omega) only [f_X12_wentFor, so_65, ao_66, ly_65_0 hR, ly_65_1 hR, ly_65_2 hR, ly_65_4 hR, ly_65_11 hR, ly_65_13 hR, ly_65_14 hR, ly_65_15 hR, ly_65_16 hR, ly_65_17 hR, ly_65_18 hR, ly_65_19 hR, ly_65_20 hR, ly_65_22 hR, ly_65_24 hR, ly_65_25 hR, ly_65_26 hR, ly_65_27 hR, ly_65_28 hR, ly_65_29 hR, ly_65_30 hR, f1, o1, lit, gp1, rl1, rs1, bd1, lt1, n_add, n_sub, n_dec, n_le, n_lt, n_eq, n_in, nI_clamp, n_mul, m_or, m_and, m_pow, m_bit, m_dif, n_neg, yn_0, yn_1, yn_z, yn_d, one31, Nat.add_sub_cancel, Nat.not_lt_zero, if_true, if_false, ite_true, ite_false, Bool.true_eq_false, Bool.false_eq_true, Nat.add_zero, Nat.zero_add]
theorem may_in {g : Nat} (h : mayb D (insm D) (lst D) g = true) : isin D g = true := by
  rw [mayb, Bool.and_eq_true, topb, Bool.and_eq_true] at h
  have := h.1.1
  rw [insm_bit, Bool.and_eq_true] at this
  exact this.2
theorem z_go (hR : Lay R) (h : Core I D T) (x1 : Int32) : ZZ I T (f_X11_go (S0 ++ J) R I 0 x1) (fun I1 => f_X12_go (S0 ++ J) R I1 65 x1) := by
  have ⟨hC, hM, hV, hT⟩ := h
  have h9 := hV.1
  cases b1 : ltb (d_n D) x1 with
  | false => exact ZZ_no h (r := -nI 1) (by simp (disch := omega) only [f_X11_go, so_0, so_1, ly_0_0 hR, ly_0_1 hR, ly_0_3 hR, ly_0_4 hR, ly_0_5 hR, ly_0_7 hR, ly_0_8 hR, ly_0_9 hR, ly_0_10 hR, ly_1_0 hR, ly_1_1 hR, ly_1_2 hR, ly_1_3 hR, ly_1_4 hR, ly_1_7 hR, ly_1_11 hR, ly_1_12 hR, ly_1_13 hR, q_has hC.1, b1, lit, gp1, rl1, rs1, bd1, lt1, n_add, n_sub, n_dec, n_le, n_lt, n_eq, n_in, nI_clamp, n_mul, m_or, m_and, m_pow, m_bit, m_dif, n_neg, yn_0, yn_1, yn_z, yn_d, one31, Nat.add_sub_cancel, Nat.not_lt_zero, if_true, if_false, ite_true, ite_false, Bool.true_eq_false, Bool.false_eq_true, Nat.add_zero, Nat.zero_add]) (by simp (disch := omega) only [f_X12_go, so_65, ao_66, ly_65_0 hR, ly_65_1 hR, ly_65_2 hR, ly_65_4 hR, ly_65_11 hR, ly_65_13 hR, ly_65_14 hR, ly_65_15 hR, ly_65_16 hR, ly_65_17 hR, ly_65_18 hR, ly_65_19 hR, ly_65_20 hR, ly_65_22 hR, ly_65_24 hR, ly_65_25 hR, ly_65_26 hR, ly_65_27 hR, ly_65_28 hR, ly_65_29 hR, ly_65_30 hR, m_isN hR hM hV, b1, lit, gp1, rl1, rs1, bd1, lt1, n_add, n_sub, n_dec, n_le, n_lt, n_eq, n_in, nI_clamp, n_mul, m_or, m_and, m_pow, m_bit, m_dif, n_neg, yn_0, yn_1, yn_z, yn_d, one31, Nat.add_sub_cancel, Nat.not_lt_zero, if_true, if_false, ite_true, ite_false, Bool.true_eq_false, Bool.false_eq_true, Nat.add_zero, Nat.zero_add])
  | true =>
    obtain ⟨g, hg, rfl⟩ := ltb_e (by omega) b1
    have hg10 : g < 10 := by omega
    have hf := fre_lt hV (insm D) (lst D)
    have t1 : (fre D (insm D) (lst D)).testBit g = mayb D (insm D) (lst D) g := (mayb_fre hg).symm
    cases hb : mayb D (insm D) (lst D) g with
    | false => exact ZZ_no h (r := -nI 4) (by simp (disch := omega) only [f_X11_go, so_0, so_1, ly_0_0 hR, ly_0_1 hR, ly_0_3 hR, ly_0_4 hR, ly_0_5 hR, ly_0_7 hR, ly_0_8 hR, ly_0_9 hR, ly_0_10 hR, ly_1_0 hR, ly_1_1 hR, ly_1_2 hR, ly_1_3 hR, ly_1_4 hR, ly_1_7 hR, ly_1_11 hR, ly_1_12 hR, ly_1_13 hR, q_has hC.1, b1, q_may hR hC hV, x_holds hf hg10, t1, hb, lit, gp1, rl1, rs1, bd1, lt1, n_add, n_sub, n_dec, n_le, n_lt, n_eq, n_in, nI_clamp, n_mul, m_or, m_and, m_pow, m_bit, m_dif, n_neg, yn_0, yn_1, yn_z, yn_d, one31, Nat.add_sub_cancel, Nat.not_lt_zero, if_true, if_false, ite_true, ite_false, Bool.true_eq_false, Bool.false_eq_true, Nat.add_zero, Nat.zero_add]) (by simp (disch := omega) only [f_X12_go, so_65, ao_66, ly_65_0 hR, ly_65_1 hR, ly_65_2 hR, ly_65_4 hR, ly_65_11 hR, ly_65_13 hR, ly_65_14 hR, ly_65_15 hR, ly_65_16 hR, ly_65_17 hR, ly_65_18 hR, ly_65_19 hR, ly_65_20 hR, ly_65_22 hR, ly_65_24 hR, ly_65_25 hR, ly_65_26 hR, ly_65_27 hR, ly_65_28 hR, ly_65_29 hR, ly_65_30 hR, m_isN hR hM hV, b1, m_mayGo hR hM hV hg, hb, lit, gp1, rl1, rs1, bd1, lt1, n_add, n_sub, n_dec, n_le, n_lt, n_eq, n_in, nI_clamp, n_mul, m_or, m_and, m_pow, m_bit, m_dif, n_neg, yn_0, yn_1, yn_z, yn_d, one31, Nat.add_sub_cancel, Nat.not_lt_zero, if_true, if_false, ite_true, ite_false, Bool.true_eq_false, Bool.false_eq_true, Nat.add_zero, Nat.zero_add])
    | true =>
      have hi := may_in hb
      obtain ⟨I1, e1, e2, e3⟩ := p_putOut (J := J) hR hC hV hi
      have hM1 : MR I1 66 D := MR_fr (fun j => e2 66 j (by omega)) hM
      have hV2 := VD_out hV hi
      have hfee : f_X7_fee (S0 ++ J) R I1 1 (nI g) = some (nI (fee D g)) := p_fee hR e3.1 hV2 hg
      obtain ⟨I2, g1, g2, g3⟩ := m_went (J := J) hR hM1 hV hi
      exact ZZ_D h (r := nI (fee D g)) (by simp (disch := omega) only [f_X11_go, so_0, so_1, ly_0_0 hR, ly_0_1 hR, ly_0_3 hR, ly_0_4 hR, ly_0_5 hR, ly_0_7 hR, ly_0_8 hR, ly_0_9 hR, ly_0_10 hR, ly_1_0 hR, ly_1_1 hR, ly_1_2 hR, ly_1_3 hR, ly_1_4 hR, ly_1_7 hR, ly_1_11 hR, ly_1_12 hR, ly_1_13 hR, q_has hC.1, b1, q_may hR hC hV, x_holds hf hg10, t1, hb, e1, hfee, lit, gp1, rl1, rs1, bd1, lt1, n_add, n_sub, n_dec, n_le, n_lt, n_eq, n_in, nI_clamp, n_mul, m_or, m_and, m_pow, m_bit, m_dif, n_neg, yn_0, yn_1, yn_z, yn_d, one31, Nat.add_sub_cancel, Nat.not_lt_zero, if_true, if_false, ite_true, ite_false, Bool.true_eq_false, Bool.false_eq_true, Nat.add_zero, Nat.zero_add]) (by simp (disch := omega) only [f_X12_go, so_65, ao_66, ly_65_0 hR, ly_65_1 hR, ly_65_2 hR, ly_65_4 hR, ly_65_11 hR, ly_65_13 hR, ly_65_14 hR, ly_65_15 hR, ly_65_16 hR, ly_65_17 hR, ly_65_18 hR, ly_65_19 hR, ly_65_20 hR, ly_65_22 hR, ly_65_24 hR, ly_65_25 hR, ly_65_26 hR, ly_65_27 hR, ly_65_28 hR, ly_65_29 hR, ly_65_30 hR, m_isN hR hM1 hV, b1, m_mayGo hR hM1 hV hg, hb, g1, lit, gp1, rl1, rs1, bd1, lt1, n_add, n_sub, n_dec, n_le, n_lt, n_eq, n_in, nI_clamp, n_mul, m_or, m_and, m_pow, m_bit, m_dif, n_neg, yn_0, yn_1, yn_z, yn_d, one31, Nat.add_sub_cancel, Nat.not_lt_zero, if_true, if_false, ite_true, ite_false, Bool.true_eq_false, Bool.false_eq_true, Nat.add_zero, Nat.zero_add]) e2 g3 e3 g2 hV2
theorem m_home (hR : Lay R) (hM : MR I 66 D) (hV : VD D) (ho : d_o D ≠ 0) : ∃ I', f_X12_home (S0 ++ J) R I 65 = some (I', nI (d_ln D (d_o D - 1))) ∧ MR I' 66 (Dback D) ∧ ∀ a j, a ≠ 66 → I' a j = I a j := by
  have h9 := hV.1
  have on := hV.2.1
  have hlt := hV.2.2.1 (d_o D - 1) (by omega)
  have c5 : I 66 5 = nI (d_o D) := hM.2.2.2.2.2.1
  have c7 : I 66 (7 + (d_o D - 1)) = nI (d_ln D (d_o D - 1)) := by
    have := hM.2.2.2.2.2.2.2.1 (d_o D - 1) (by omega)
    rwa [if_pos (by omega)] at this
  refine ⟨_, ?_, M_back hM hV ho, fun a j h => by rw [u_eq, if_neg (by omega), u_eq, if_neg (by omega), u_eq, if_neg (by omega)]⟩
  have q1 : ¬ (7 + (d_o D - 1) = 5) := by omega
  simp (disch := omega) only [f_X12_home, f_X12_goodAt, f_X12_comes, so_65, ao_66, ly_65_0 hR, ly_65_1 hR, ly_65_2 hR, ly_65_4 hR, ly_65_11 hR, ly_65_13 hR, ly_65_14 hR, ly_65_15 hR, ly_65_16 hR, ly_65_17 hR, ly_65_18 hR, ly_65_19 hR, ly_65_20 hR, ly_65_22 hR, ly_65_24 hR, ly_65_25 hR, ly_65_26 hR, ly_65_27 hR, ly_65_28 hR, ly_65_29 hR, ly_65_30 hR, c5, u_eq, Nat.reduceEqDiff, false_and, and_false, true_and, and_true, and_self, not_false_eq_true, q1, c7, lit, gp1, rl1, rs1, bd1, lt1, n_add, n_sub, n_dec, n_le, n_lt, n_eq, n_in, nI_clamp, n_mul, m_or, m_and, m_pow, m_bit, m_dif, n_neg, yn_0, yn_1, yn_z, yn_d, one31, Nat.add_sub_cancel, Nat.not_lt_zero, if_true, if_false, ite_true, ite_false, Bool.true_eq_false, Bool.false_eq_true, Nat.add_zero, Nat.zero_add]
theorem z_come (hR : Lay R) (h : Core I D T) : ZZ I T (f_X11_come (S0 ++ J) R I 0) (fun I1 => f_X12_come (S0 ++ J) R I1 65) := by
  have ⟨hC, hM, hV, hT⟩ := h
  have h9 := hV.1
  have on := hV.2.1
  obtain ⟨I1, x, e1, e2, e3⟩ := p_bring (J := J) hR hC hV
  have c5 : I 66 5 = nI (d_o D) := hM.2.2.2.2.2.1
  by_cases ho : d_o D = 0
  · rw [if_pos ho] at e3
    obtain ⟨rfl, rfl⟩ := e3
    exact ZZ_no h (r := -nI 3) (by simp (disch := omega) only [f_X11_come, so_0, so_1, ly_0_0 hR, ly_0_1 hR, ly_0_3 hR, ly_0_4 hR, ly_0_5 hR, ly_0_7 hR, ly_0_8 hR, ly_0_9 hR, ly_0_10 hR, ly_1_0 hR, ly_1_1 hR, ly_1_2 hR, ly_1_3 hR, ly_1_4 hR, ly_1_7 hR, ly_1_11 hR, ly_1_12 hR, ly_1_13 hR, e1, lit, gp1, rl1, rs1, bd1, lt1, n_add, n_sub, n_dec, n_le, n_lt, n_eq, n_in, nI_clamp, n_mul, m_or, m_and, m_pow, m_bit, m_dif, n_neg, yn_0, yn_1, yn_z, yn_d, one31, Nat.add_sub_cancel, Nat.not_lt_zero, if_true, if_false, ite_true, ite_false, Bool.true_eq_false, Bool.false_eq_true, Nat.add_zero, Nat.zero_add]) (by simp (disch := omega) only [f_X12_come, so_65, ao_66, ly_65_0 hR, ly_65_1 hR, ly_65_2 hR, ly_65_4 hR, ly_65_11 hR, ly_65_13 hR, ly_65_14 hR, ly_65_15 hR, ly_65_16 hR, ly_65_17 hR, ly_65_18 hR, ly_65_19 hR, ly_65_20 hR, ly_65_22 hR, ly_65_24 hR, ly_65_25 hR, ly_65_26 hR, ly_65_27 hR, ly_65_28 hR, ly_65_29 hR, ly_65_30 hR, c5, ho, lit, gp1, rl1, rs1, bd1, lt1, n_add, n_sub, n_dec, n_le, n_lt, n_eq, n_in, nI_clamp, n_mul, m_or, m_and, m_pow, m_bit, m_dif, n_neg, yn_0, yn_1, yn_z, yn_d, one31, Nat.add_sub_cancel, Nat.not_lt_zero, if_true, if_false, ite_true, ite_false, Bool.true_eq_false, Bool.false_eq_true, Nat.add_zero, Nat.zero_add])
  · rw [if_neg ho] at e3
    obtain ⟨rfl, e3⟩ := e3
    have hM1 : MR I1 66 D := MR_fr (fun j => e2 66 j (by omega)) hM
    have c5' : I1 66 5 = nI (d_o D) := hM1.2.2.2.2.2.1
    obtain ⟨I2, g1, g2, g3⟩ := m_home (J := J) hR hM1 hV ho
    exact ZZ_D h (r := nI (d_ln D (d_o D - 1))) (by simp (disch := omega) only [f_X11_come, so_0, so_1, ly_0_0 hR, ly_0_1 hR, ly_0_3 hR, ly_0_4 hR, ly_0_5 hR, ly_0_7 hR, ly_0_8 hR, ly_0_9 hR, ly_0_10 hR, ly_1_0 hR, ly_1_1 hR, ly_1_2 hR, ly_1_3 hR, ly_1_4 hR, ly_1_7 hR, ly_1_11 hR, ly_1_12 hR, ly_1_13 hR, e1, lit, gp1, rl1, rs1, bd1, lt1, n_add, n_sub, n_dec, n_le, n_lt, n_eq, n_in, nI_clamp, n_mul, m_or, m_and, m_pow, m_bit, m_dif, n_neg, yn_0, yn_1, yn_z, yn_d, one31, Nat.add_sub_cancel, Nat.not_lt_zero, if_true, if_false, ite_true, ite_false, Bool.true_eq_false, Bool.false_eq_true, Nat.add_zero, Nat.zero_add]) (by simp (disch := omega) only [f_X12_come, so_65, ao_66, ly_65_0 hR, ly_65_1 hR, ly_65_2 hR, ly_65_4 hR, ly_65_11 hR, ly_65_13 hR, ly_65_14 hR, ly_65_15 hR, ly_65_16 hR, ly_65_17 hR, ly_65_18 hR, ly_65_19 hR, ly_65_20 hR, ly_65_22 hR, ly_65_24 hR, ly_65_25 hR, ly_65_26 hR, ly_65_27 hR, ly_65_28 hR, ly_65_29 hR, ly_65_30 hR, c5', ho, g1, lit, gp1, rl1, rs1, bd1, lt1, n_add, n_sub, n_dec, n_le, n_lt, n_eq, n_in, nI_clamp, n_mul, m_or, m_and, m_pow, m_bit, m_dif, n_neg, yn_0, yn_1, yn_z, yn_d, one31, Nat.add_sub_cancel, Nat.not_lt_zero, if_true, if_false, ite_true, ite_false, Bool.true_eq_false, Bool.false_eq_true, Nat.add_zero, Nat.zero_add]) e2 (fun a j a1 _ => g3 a j a1) e3 g2 (VD_back hV)
theorem ltb_f {n : Nat} (hn : n < 2 ^ 30) {x : Int32} (h : ltb n x = false) : x < 0 ∨ (¬ x < 0 ∧ nI n ≤ x) := by
  have := of_decide_eq_false h
  rcases pk_ix x (n := n) (by omega) with q | q | ⟨k, hk, e⟩
  · exact Or.inl q
  · refine Or.inr ⟨fun q2 => ?_, q⟩
    exact Int32.lt_irrefl (Int32.lt_of_lt_of_le q2 (Int32.le_trans (nI_le (a := 0) (Nat.zero_le _) (by omega)) q))
  · exact absurd ⟨by rw [e]; exact nI_pos (by omega), by rw [e]; exact nI_lt hk (by omega)⟩ this
theorem z_line (hR : Lay R) (h : Core I D T) (x1 : Int32) : ZQ (f_X11_line (S0 ++ J) R I 0 x1) (f_X12_line (S0 ++ J) R I 65 x1) := by
  have ⟨hC, hM, hV, hT⟩ := h
  have h9 := hV.1
  have on := hV.2.1
  have c8 : I 1 8 = nI (d_o D) := hC.1.2.2.1
  have c5 : I 66 5 = nI (d_o D) := hM.2.2.2.2.2.1
  have his := m_is (J := J) hR (c := 5) (by decide) (by omega) c5 x1
  cases b1 : ltb (d_o D) x1 with
  | false =>
    refine ⟨-nI 3, ?_, by simp (disch := omega) only [f_X12_line, so_65, ao_66, ly_65_0 hR, ly_65_1 hR, ly_65_2 hR, ly_65_4 hR, ly_65_11 hR, ly_65_13 hR, ly_65_14 hR, ly_65_15 hR, ly_65_16 hR, ly_65_17 hR, ly_65_18 hR, ly_65_19 hR, ly_65_20 hR, ly_65_22 hR, ly_65_24 hR, ly_65_25 hR, ly_65_26 hR, ly_65_27 hR, ly_65_28 hR, ly_65_29 hR, ly_65_30 hR, his, b1, lit, gp1, rl1, rs1, bd1, lt1, n_add, n_sub, n_dec, n_le, n_lt, n_eq, n_in, nI_clamp, n_mul, m_or, m_and, m_pow, m_bit, m_dif, n_neg, yn_0, yn_1, yn_z, yn_d, one31, Nat.add_sub_cancel, Nat.not_lt_zero, if_true, if_false, ite_true, ite_false, Bool.true_eq_false, Bool.false_eq_true, Nat.add_zero, Nat.zero_add]⟩
    rcases ltb_f (by omega) b1 with q | ⟨q1, q2⟩
    · rw [f_X11_line, if_pos q]; rfl
    · rw [f_X11_line, if_neg q1]
      simp (disch := omega) only [so_0, so_1, ly_0_0 hR, ly_0_1 hR, ly_0_3 hR, ly_0_4 hR, ly_0_5 hR, ly_0_7 hR, ly_0_8 hR, ly_0_9 hR, ly_0_10 hR, ly_1_0 hR, ly_1_1 hR, ly_1_2 hR, ly_1_3 hR, ly_1_4 hR, ly_1_7 hR, ly_1_11 hR, ly_1_12 hR, ly_1_13 hR, c8, lit, gp1, rl1, rs1, bd1, lt1, n_add, n_sub, n_dec, n_le, n_lt, n_eq, n_in, nI_clamp, n_mul, m_or, m_and, m_pow, m_bit, m_dif, n_neg, yn_0, yn_1, yn_z, yn_d, one31, Nat.add_sub_cancel, Nat.not_lt_zero, if_true, if_false, ite_true, ite_false, Bool.true_eq_false, Bool.false_eq_true, Nat.add_zero, Nat.zero_add]
      rw [if_pos q2]
  | true =>
    obtain ⟨k, hk, rfl⟩ := ltb_e (by omega) b1
    have e7 : I 7 k = nI (d_ln D k) := hC.1.2.2.2.2.2.2.2.2.1 k hk
    have f7 : I 66 (7 + k) = nI (d_ln D k) := by rw [hM.2.2.2.2.2.2.2.1 k (by omega), if_pos hk]
    refine ⟨nI (d_ln D k), ?_, by simp (disch := omega) only [f_X12_line, so_65, ao_66, ly_65_0 hR, ly_65_1 hR, ly_65_2 hR, ly_65_4 hR, ly_65_11 hR, ly_65_13 hR, ly_65_14 hR, ly_65_15 hR, ly_65_16 hR, ly_65_17 hR, ly_65_18 hR, ly_65_19 hR, ly_65_20 hR, ly_65_22 hR, ly_65_24 hR, ly_65_25 hR, ly_65_26 hR, ly_65_27 hR, ly_65_28 hR, ly_65_29 hR, ly_65_30 hR, his, b1, f7, lit, gp1, rl1, rs1, bd1, lt1, n_add, n_sub, n_dec, n_le, n_lt, n_eq, n_in, nI_clamp, n_mul, m_or, m_and, m_pow, m_bit, m_dif, n_neg, yn_0, yn_1, yn_z, yn_d, one31, Nat.add_sub_cancel, Nat.not_lt_zero, if_true, if_false, ite_true, ite_false, Bool.true_eq_false, Bool.false_eq_true, Nat.add_zero, Nat.zero_add]⟩
    have z : (nI k < nI 0) = False := eq_false (nI_pos (by omega))
    simp (disch := omega) only [f_X11_line, so_0, so_1, ao_2, ao_3, ao_4, ao_5, ao_6, ao_7, so_8, ao_9, ao_10, ao_11, ao_12, ao_13, ao_14, ao_15, ao_16, ly_0_0 hR, ly_0_1 hR, ly_0_3 hR, ly_0_4 hR, ly_0_5 hR, ly_0_7 hR, ly_0_8 hR, ly_0_9 hR, ly_0_10 hR, ly_1_0 hR, ly_1_1 hR, ly_1_2 hR, ly_1_3 hR, ly_1_4 hR, ly_1_7 hR, ly_1_11 hR, ly_1_12 hR, ly_1_13 hR, ly_8_1 hR, ly_8_2 hR, ly_8_3 hR, ly_8_5 hR, ly_8_6 hR, ly_8_7 hR, c8, e7, z, lit, gp1, rl1, rs1, bd1, lt1, n_add, n_sub, n_dec, n_le, n_lt, n_eq, n_in, nI_clamp, n_mul, m_or, m_and, m_pow, m_bit, m_dif, n_neg, yn_0, yn_1, yn_z, yn_d, one31, Nat.add_sub_cancel, Nat.not_lt_zero, if_true, if_false, ite_true, ite_false, Bool.true_eq_false, Bool.false_eq_true, Nat.add_zero, Nat.zero_add]
    rw [if_neg (by omega)]
def pdF (D : Dt) (k : Nat) : Nat := fee D (d_ln D k) * (k + 1)
theorem q_paid4 (hR : Lay R) (hC : CR I 1 D) (hV : VD D) : ∀ (r t f : Nat), t + r = d_o D → r < f →
    f_X11_paid_4 (S0 ++ J) R I f 0 (nI (sm (pdF D) t)) (nI t) = some (nI (sm (pdF D) (d_o D))) := by
  have h9 := hV.1
  have on := hV.2.1
  have c8 : I 1 8 = nI (d_o D) := hC.1.2.2.1
  intro r
  induction r with
  | zero =>
    intro t f ht hf
    obtain ⟨f, rfl⟩ := Nat.exists_eq_succ_of_ne_zero (n := f) (by omega)
    rw [f_X11_paid_4]
    simp (disch := omega) only [so_0, so_1, ly_0_0 hR, ly_0_1 hR, ly_0_3 hR, ly_0_4 hR, ly_0_5 hR, ly_0_7 hR, ly_0_8 hR, ly_0_9 hR, ly_0_10 hR, ly_1_0 hR, ly_1_1 hR, ly_1_2 hR, ly_1_3 hR, ly_1_4 hR, ly_1_7 hR, ly_1_11 hR, ly_1_12 hR, ly_1_13 hR, c8, lit, gp1, rl1, rs1, bd1, lt1, n_add, n_sub, n_dec, n_le, n_lt, n_eq, n_in, nI_clamp, n_mul, m_or, m_and, m_pow, m_bit, m_dif, n_neg, yn_0, yn_1, yn_z, yn_d, one31, Nat.add_sub_cancel, Nat.not_lt_zero, if_true, if_false, ite_true, ite_false, Bool.true_eq_false, Bool.false_eq_true, Nat.add_zero, Nat.zero_add]
    rw [if_pos (by omega), show t = d_o D by omega]
  | succ r ih =>
    intro t f ht hf
    obtain ⟨f, rfl⟩ := Nat.exists_eq_succ_of_ne_zero (n := f) (by omega)
    have e7 : I 7 t = nI (d_ln D t) := hC.1.2.2.2.2.2.2.2.2.1 t (by omega)
    rw [f_X11_paid_4]
    simp (disch := omega) only [so_0, so_1, ao_2, ao_3, ao_4, ao_5, ao_6, ao_7, so_8, ao_9, ao_10, ao_11, ao_12, ao_13, ao_14, ao_15, ao_16, ly_0_0 hR, ly_0_1 hR, ly_0_3 hR, ly_0_4 hR, ly_0_5 hR, ly_0_7 hR, ly_0_8 hR, ly_0_9 hR, ly_0_10 hR, ly_1_0 hR, ly_1_1 hR, ly_1_2 hR, ly_1_3 hR, ly_1_4 hR, ly_1_7 hR, ly_1_11 hR, ly_1_12 hR, ly_1_13 hR, ly_8_1 hR, ly_8_2 hR, ly_8_3 hR, ly_8_5 hR, ly_8_6 hR, ly_8_7 hR, c8, e7, p_fee hR hC.1 hV (hV.2.2.1 t (by omega)), lit, gp1, rl1, rs1, bd1, lt1, n_add, n_sub, n_dec, n_le, n_lt, n_eq, n_in, nI_clamp, n_mul, m_or, m_and, m_pow, m_bit, m_dif, n_neg, yn_0, yn_1, yn_z, yn_d, one31, Nat.add_sub_cancel, Nat.not_lt_zero, if_true, if_false, ite_true, ite_false, Bool.true_eq_false, Bool.false_eq_true, Nat.add_zero, Nat.zero_add]
    rw [if_neg (by omega)]
    exact ih (t + 1) f (by omega) (by omega)
theorem m_paid4 (hR : Lay R) (hV : VD D) : ∀ (r t f : Nat) (I : Iw), MR I 66 D → t + r = d_o D → r < f →
    ∃ I', f_X12_paid_4 (S0 ++ J) R f I 65 (nI (sm (pdF D) t)) (nI t) = some (I', nI (sm (pdF D) (d_o D))) ∧ fr7 I I' := by
  have h9 := hV.1
  have on := hV.2.1
  intro r
  induction r with
  | zero =>
    intro t f I hM ht hf
    have c5 : I 66 5 = nI (d_o D) := hM.2.2.2.2.2.1
    obtain ⟨f, rfl⟩ := Nat.exists_eq_succ_of_ne_zero (n := f) (by omega)
    refine ⟨I, ?_, fr7_r I⟩
    rw [f_X12_paid_4]
    simp (disch := omega) only [so_65, ao_66, ly_65_0 hR, ly_65_1 hR, ly_65_2 hR, ly_65_4 hR, ly_65_11 hR, ly_65_13 hR, ly_65_14 hR, ly_65_15 hR, ly_65_16 hR, ly_65_17 hR, ly_65_18 hR, ly_65_19 hR, ly_65_20 hR, ly_65_22 hR, ly_65_24 hR, ly_65_25 hR, ly_65_26 hR, ly_65_27 hR, ly_65_28 hR, ly_65_29 hR, ly_65_30 hR, c5, lit, gp1, rl1, rs1, bd1, lt1, n_add, n_sub, n_dec, n_le, n_lt, n_eq, n_in, nI_clamp, n_mul, m_or, m_and, m_pow, m_bit, m_dif, n_neg, yn_0, yn_1, yn_z, yn_d, one31, Nat.add_sub_cancel, Nat.not_lt_zero, if_true, if_false, ite_true, ite_false, Bool.true_eq_false, Bool.false_eq_true, Nat.add_zero, Nat.zero_add]
    rw [if_pos (by omega), show t = d_o D by omega]
  | succ r ih =>
    intro t f I hM ht hf
    have c5 : I 66 5 = nI (d_o D) := hM.2.2.2.2.2.1
    obtain ⟨f, rfl⟩ := Nat.exists_eq_succ_of_ne_zero (n := f) (by omega)
    have f7 : I 66 (7 + t) = nI (d_ln D t) := by rw [hM.2.2.2.2.2.2.2.1 t (by omega), if_pos (by omega)]
    obtain ⟨If, f1, f2⟩ := m_fee (J := J) hR hM hV (hV.2.2.1 t (by omega))
    obtain ⟨I', q1, q2⟩ := ih (t + 1) f If (MR_fr (fun j => f2 66 j (by decide)) hM) (by omega) (by omega)
    refine ⟨I', ?_, fun a j h => by rw [q2 a j h, f2 a j h]⟩
    rw [f_X12_paid_4]
    simp (disch := omega) only [so_65, ao_66, ly_65_0 hR, ly_65_1 hR, ly_65_2 hR, ly_65_4 hR, ly_65_11 hR, ly_65_13 hR, ly_65_14 hR, ly_65_15 hR, ly_65_16 hR, ly_65_17 hR, ly_65_18 hR, ly_65_19 hR, ly_65_20 hR, ly_65_22 hR, ly_65_24 hR, ly_65_25 hR, ly_65_26 hR, ly_65_27 hR, ly_65_28 hR, ly_65_29 hR, ly_65_30 hR, c5, f7, f1, lit, gp1, rl1, rs1, bd1, lt1, n_add, n_sub, n_dec, n_le, n_lt, n_eq, n_in, nI_clamp, n_mul, m_or, m_and, m_pow, m_bit, m_dif, n_neg, yn_0, yn_1, yn_z, yn_d, one31, Nat.add_sub_cancel, Nat.not_lt_zero, if_true, if_false, ite_true, ite_false, Bool.true_eq_false, Bool.false_eq_true, Nat.add_zero, Nat.zero_add]
    rw [if_neg (by omega), Nat.mul_comm (t + 1)]
    exact q1
theorem z_paid (hR : Lay R) (h : Core I D T) : ZP I T (f_X11_paid (S0 ++ J) R I 0) (f_X12_paid (S0 ++ J) R I 65) := by
  have ⟨hC, hM, hV, hT⟩ := h
  have h9 := hV.1
  have on := hV.2.1
  obtain ⟨I', e1, e2⟩ := m_paid4 (J := J) hR hV (d_o D) 0 512 I hM (by omega) (by omega)
  exact ZP_7 h (q_paid4 hR hC hV (d_o D) 0 512 (by omega) (by omega)) e1 e2
theorem z_seed (hR : Lay R) (h : Core I D T) (x1 : Int32) : ZZ I T (f_X11_seed (S0 ++ J) R I 0 x1) (fun I1 => f_X12_seed (S0 ++ J) R I1 65 x1) := by
  have ⟨hC, hM, hV, hT⟩ := h
  have c15 : I 1 15 = d_z D := hC.1.2.2.2.2.2.2.1
  have hM1 : MR (up2 I 1 15 x1) 66 D := MR_fr (fun j => by rw [u_eq, if_neg (by omega)]) hM
  have o : up2 I 1 15 x1 66 2 = d_z D := hM1.2.2.1
  have := m_comes (J := J) (I := up2 I 1 15 x1) hR (c := 2) (by decide) x1
  exact ZZ_D h (r := d_z D) (I1 := up2 I 1 15 x1) (I2 := up2 (up2 I 1 15 x1) 66 2 x1) (by simp (disch := omega) only [f_X11_seed, so_0, so_1, ly_0_0 hR, ly_0_1 hR, ly_0_3 hR, ly_0_4 hR, ly_0_5 hR, ly_0_7 hR, ly_0_8 hR, ly_0_9 hR, ly_0_10 hR, ly_1_0 hR, ly_1_1 hR, ly_1_2 hR, ly_1_3 hR, ly_1_4 hR, ly_1_7 hR, ly_1_11 hR, ly_1_12 hR, ly_1_13 hR, c15, lit, gp1, rl1, rs1, bd1, lt1, n_add, n_sub, n_dec, n_le, n_lt, n_eq, n_in, nI_clamp, n_mul, m_or, m_and, m_pow, m_bit, m_dif, n_neg, yn_0, yn_1, yn_z, yn_d, one31, Nat.add_sub_cancel, Nat.not_lt_zero, if_true, if_false, ite_true, ite_false, Bool.true_eq_false, Bool.false_eq_true, Nat.add_zero, Nat.zero_add]) (by simp (disch := omega) only [f_X12_seed, so_65, ly_65_0 hR, ly_65_1 hR, ly_65_2 hR, ly_65_4 hR, ly_65_11 hR, ly_65_13 hR, ly_65_14 hR, ly_65_15 hR, ly_65_16 hR, ly_65_17 hR, ly_65_18 hR, ly_65_19 hR, ly_65_20 hR, ly_65_22 hR, ly_65_24 hR, ly_65_25 hR, ly_65_26 hR, ly_65_27 hR, ly_65_28 hR, ly_65_29 hR, ly_65_30 hR, this, o, lit, gp1, rl1, rs1, bd1, lt1, n_add, n_sub, n_dec, n_le, n_lt, n_eq, n_in, nI_clamp, n_mul, m_or, m_and, m_pow, m_bit, m_dif, n_neg, yn_0, yn_1, yn_z, yn_d, one31, Nat.add_sub_cancel, Nat.not_lt_zero, if_true, if_false, ite_true, ite_false, Bool.true_eq_false, Bool.false_eq_true, Nat.add_zero, Nat.zero_add]) (fun a j q => by rw [u_eq, if_neg (by omega)]) (fun a j a1 a2 => by rw [u_eq, if_neg (by omega)]) (p_lot hC) (M_z hM1 hV) (VD_z hV x1)
theorem z_forget (hR : Lay R) (h : Core I D T) : ZZ I T (f_X11_forget (S0 ++ J) R I 0) (fun I1 => f_X12_forget (S0 ++ J) R I1 65) := by
  have ⟨hC, hM, hV, hT⟩ := h
  have c14 : I 1 14 = nI (d_np D) := hC.1.2.2.2.2.2.1
  have hM1 : MR (up2 I 1 14 (nI 0)) 66 D := MR_fr (fun j => by rw [u_eq, if_neg (by omega)]) hM
  have o : up2 I 1 14 (nI 0) 66 6 = nI (d_np D) := hM1.2.2.2.2.2.2.1
  have := m_comes (J := J) (I := up2 I 1 14 (nI 0)) hR (c := 6) (by decide) (nI 0)
  exact ZZ_D h (r := nI (d_np D)) (I1 := up2 I 1 14 (nI 0)) (I2 := up2 (up2 I 1 14 (nI 0)) 66 6 (nI 0)) (by simp (disch := omega) only [f_X11_forget, so_0, so_1, ly_0_0 hR, ly_0_1 hR, ly_0_3 hR, ly_0_4 hR, ly_0_5 hR, ly_0_7 hR, ly_0_8 hR, ly_0_9 hR, ly_0_10 hR, ly_1_0 hR, ly_1_1 hR, ly_1_2 hR, ly_1_3 hR, ly_1_4 hR, ly_1_7 hR, ly_1_11 hR, ly_1_12 hR, ly_1_13 hR, c14, lit, gp1, rl1, rs1, bd1, lt1, n_add, n_sub, n_dec, n_le, n_lt, n_eq, n_in, nI_clamp, n_mul, m_or, m_and, m_pow, m_bit, m_dif, n_neg, yn_0, yn_1, yn_z, yn_d, one31, Nat.add_sub_cancel, Nat.not_lt_zero, if_true, if_false, ite_true, ite_false, Bool.true_eq_false, Bool.false_eq_true, Nat.add_zero, Nat.zero_add]) (by simp (disch := omega) only [f_X12_forget, so_65, ly_65_0 hR, ly_65_1 hR, ly_65_2 hR, ly_65_4 hR, ly_65_11 hR, ly_65_13 hR, ly_65_14 hR, ly_65_15 hR, ly_65_16 hR, ly_65_17 hR, ly_65_18 hR, ly_65_19 hR, ly_65_20 hR, ly_65_22 hR, ly_65_24 hR, ly_65_25 hR, ly_65_26 hR, ly_65_27 hR, ly_65_28 hR, ly_65_29 hR, ly_65_30 hR, this, o, lit, gp1, rl1, rs1, bd1, lt1, n_add, n_sub, n_dec, n_le, n_lt, n_eq, n_in, nI_clamp, n_mul, m_or, m_and, m_pow, m_bit, m_dif, n_neg, yn_0, yn_1, yn_z, yn_d, one31, Nat.add_sub_cancel, Nat.not_lt_zero, if_true, if_false, ite_true, ite_false, Bool.true_eq_false, Bool.false_eq_true, Nat.add_zero, Nat.zero_add]) (fun a j q => by rw [u_eq, if_neg (by omega)]) (fun a j a1 a2 => by rw [u_eq, if_neg (by omega)]) (p_noRep hC) (M_r0 hM1 hV) (VD_r0 hV)
theorem z_report (hR : Lay R) (h : Core I D T) (x1 x2 : Int32) : ZZ I T (f_X11_report (S0 ++ J) R I 0 x1 x2) (fun I1 => f_X12_report (S0 ++ J) R I1 65 x1 x2) := by
  have ⟨hC, hM, hV, hT⟩ := h
  have h9 := hV.1
  have np6 := hV.2.2.2.2.2.2.2.1
  cases b1 : ltb (d_n D) x1 with
  | false => exact ZZ_no h (r := -nI 1) (by simp (disch := omega) only [f_X11_report, so_0, so_1, ly_0_0 hR, ly_0_1 hR, ly_0_3 hR, ly_0_4 hR, ly_0_5 hR, ly_0_7 hR, ly_0_8 hR, ly_0_9 hR, ly_0_10 hR, ly_1_0 hR, ly_1_1 hR, ly_1_2 hR, ly_1_3 hR, ly_1_4 hR, ly_1_7 hR, ly_1_11 hR, ly_1_12 hR, ly_1_13 hR, q_has hC.1, b1, lit, gp1, rl1, rs1, bd1, lt1, n_add, n_sub, n_dec, n_le, n_lt, n_eq, n_in, nI_clamp, n_mul, m_or, m_and, m_pow, m_bit, m_dif, n_neg, yn_0, yn_1, yn_z, yn_d, one31, Nat.add_sub_cancel, Nat.not_lt_zero, if_true, if_false, ite_true, ite_false, Bool.true_eq_false, Bool.false_eq_true, Nat.add_zero, Nat.zero_add]) (by simp (disch := omega) only [f_X12_report, so_65, ao_66, ly_65_0 hR, ly_65_1 hR, ly_65_2 hR, ly_65_4 hR, ly_65_11 hR, ly_65_13 hR, ly_65_14 hR, ly_65_15 hR, ly_65_16 hR, ly_65_17 hR, ly_65_18 hR, ly_65_19 hR, ly_65_20 hR, ly_65_22 hR, ly_65_24 hR, ly_65_25 hR, ly_65_26 hR, ly_65_27 hR, ly_65_28 hR, ly_65_29 hR, ly_65_30 hR, m_isN hR hM hV, b1, lit, gp1, rl1, rs1, bd1, lt1, n_add, n_sub, n_dec, n_le, n_lt, n_eq, n_in, nI_clamp, n_mul, m_or, m_and, m_pow, m_bit, m_dif, n_neg, yn_0, yn_1, yn_z, yn_d, one31, Nat.add_sub_cancel, Nat.not_lt_zero, if_true, if_false, ite_true, ite_false, Bool.true_eq_false, Bool.false_eq_true, Nat.add_zero, Nat.zero_add])
  | true =>
    obtain ⟨g, hg, rfl⟩ := ltb_e (by omega) b1
    cases b2 : btw x2 (nI 0) (nI 1) with
    | false => exact ZZ_no h (r := -nI 1) (by simp (disch := omega) only [f_X11_report, so_0, so_1, ly_0_0 hR, ly_0_1 hR, ly_0_3 hR, ly_0_4 hR, ly_0_5 hR, ly_0_7 hR, ly_0_8 hR, ly_0_9 hR, ly_0_10 hR, ly_1_0 hR, ly_1_1 hR, ly_1_2 hR, ly_1_3 hR, ly_1_4 hR, ly_1_7 hR, ly_1_11 hR, ly_1_12 hR, ly_1_13 hR, q_has hC.1, b1, x_btw, b2, lit, gp1, rl1, rs1, bd1, lt1, n_add, n_sub, n_dec, n_le, n_lt, n_eq, n_in, nI_clamp, n_mul, m_or, m_and, m_pow, m_bit, m_dif, n_neg, yn_0, yn_1, yn_z, yn_d, one31, Nat.add_sub_cancel, Nat.not_lt_zero, if_true, if_false, ite_true, ite_false, Bool.true_eq_false, Bool.false_eq_true, Nat.add_zero, Nat.zero_add]) (by simp (disch := omega) only [f_X12_report, so_65, ao_66, ly_65_0 hR, ly_65_1 hR, ly_65_2 hR, ly_65_4 hR, ly_65_11 hR, ly_65_13 hR, ly_65_14 hR, ly_65_15 hR, ly_65_16 hR, ly_65_17 hR, ly_65_18 hR, ly_65_19 hR, ly_65_20 hR, ly_65_22 hR, ly_65_24 hR, ly_65_25 hR, ly_65_26 hR, ly_65_27 hR, ly_65_28 hR, ly_65_29 hR, ly_65_30 hR, m_isN hR hM hV, b1, m_btw, b2, lit, gp1, rl1, rs1, bd1, lt1, n_add, n_sub, n_dec, n_le, n_lt, n_eq, n_in, nI_clamp, n_mul, m_or, m_and, m_pow, m_bit, m_dif, n_neg, yn_0, yn_1, yn_z, yn_d, one31, Nat.add_sub_cancel, Nat.not_lt_zero, if_true, if_false, ite_true, ite_false, Bool.true_eq_false, Bool.false_eq_true, Nat.add_zero, Nat.zero_add])
    | true =>
      obtain ⟨c, -, c1, rfl⟩ := btw_e (by decide) (by decide) b2
      obtain ⟨I1, x, e1, e2, e3⟩ := p_report (J := J) hR hC hV (g := g) (c := c)
      by_cases hn : d_np D = 6
      · rw [if_pos hn] at e3
        obtain ⟨rfl, rfl⟩ := e3
        have c6 : I1 66 6 = nI (d_np D) := hM.2.2.2.2.2.2.1
        exact ZZ_no h (r := -nI 2) (by simp (disch := omega) only [f_X11_report, so_0, so_1, ly_0_0 hR, ly_0_1 hR, ly_0_3 hR, ly_0_4 hR, ly_0_5 hR, ly_0_7 hR, ly_0_8 hR, ly_0_9 hR, ly_0_10 hR, ly_1_0 hR, ly_1_1 hR, ly_1_2 hR, ly_1_3 hR, ly_1_4 hR, ly_1_7 hR, ly_1_11 hR, ly_1_12 hR, ly_1_13 hR, q_has hC.1, b1, x_btw, b2, e1, lit, gp1, rl1, rs1, bd1, lt1, n_add, n_sub, n_dec, n_le, n_lt, n_eq, n_in, nI_clamp, n_mul, m_or, m_and, m_pow, m_bit, m_dif, n_neg, yn_0, yn_1, yn_z, yn_d, one31, Nat.add_sub_cancel, Nat.not_lt_zero, if_true, if_false, ite_true, ite_false, Bool.true_eq_false, Bool.false_eq_true, Nat.add_zero, Nat.zero_add]) (by simp (disch := omega) only [f_X12_report, so_65, ao_66, ly_65_0 hR, ly_65_1 hR, ly_65_2 hR, ly_65_4 hR, ly_65_11 hR, ly_65_13 hR, ly_65_14 hR, ly_65_15 hR, ly_65_16 hR, ly_65_17 hR, ly_65_18 hR, ly_65_19 hR, ly_65_20 hR, ly_65_22 hR, ly_65_24 hR, ly_65_25 hR, ly_65_26 hR, ly_65_27 hR, ly_65_28 hR, ly_65_29 hR, ly_65_30 hR, m_isN hR hM hV, b1, m_btw, b2, c6, hn, lit, gp1, rl1, rs1, bd1, lt1, n_add, n_sub, n_dec, n_le, n_lt, n_eq, n_in, nI_clamp, n_mul, m_or, m_and, m_pow, m_bit, m_dif, n_neg, yn_0, yn_1, yn_z, yn_d, one31, Nat.add_sub_cancel, Nat.not_lt_zero, if_true, if_false, ite_true, ite_false, Bool.true_eq_false, Bool.false_eq_true, Nat.add_zero, Nat.zero_add])
      · rw [if_neg hn] at e3
        obtain ⟨rfl, e3⟩ := e3
        have hM1 : MR I1 66 D := MR_fr (fun j => e2 66 j (by omega)) hM
        have c6 : I1 66 6 = nI (d_np D) := hM1.2.2.2.2.2.2.1
        have q1 : ¬ (6 = 61 + 2 * d_np D) := by omega
        have q2 : ¬ (6 = 62 + 2 * d_np D) := by omega
        have q3 : 61 + 2 * d_np D + 1 = 62 + 2 * d_np D := by omega
        refine ZZ_D h (r := nI (d_np D)) (by simp (disch := omega) only [f_X11_report, so_0, so_1, ly_0_0 hR, ly_0_1 hR, ly_0_3 hR, ly_0_4 hR, ly_0_5 hR, ly_0_7 hR, ly_0_8 hR, ly_0_9 hR, ly_0_10 hR, ly_1_0 hR, ly_1_1 hR, ly_1_2 hR, ly_1_3 hR, ly_1_4 hR, ly_1_7 hR, ly_1_11 hR, ly_1_12 hR, ly_1_13 hR, q_has hC.1, b1, x_btw, b2, e1, lit, gp1, rl1, rs1, bd1, lt1, n_add, n_sub, n_dec, n_le, n_lt, n_eq, n_in, nI_clamp, n_mul, m_or, m_and, m_pow, m_bit, m_dif, n_neg, yn_0, yn_1, yn_z, yn_d, one31, Nat.add_sub_cancel, Nat.not_lt_zero, if_true, if_false, ite_true, ite_false, Bool.true_eq_false, Bool.false_eq_true, Nat.add_zero, Nat.zero_add]) (I2 := up2 (up2 (up2 I1 66 (61 + 2 * d_np D) (nI g)) 66 (62 + 2 * d_np D) (nI c)) 66 6 (nI (d_np D + 1))) ?_ e2 (fun a j a1 a2 => ?_) e3 (M_rp hM1 hV (by omega)) (VD_rp hV (by omega) hg c1)
        · simp (disch := omega) only [f_X12_report, so_65, ao_66, ly_65_0 hR, ly_65_1 hR, ly_65_2 hR, ly_65_4 hR, ly_65_11 hR, ly_65_13 hR, ly_65_14 hR, ly_65_15 hR, ly_65_16 hR, ly_65_17 hR, ly_65_18 hR, ly_65_19 hR, ly_65_20 hR, ly_65_22 hR, ly_65_24 hR, ly_65_25 hR, ly_65_26 hR, ly_65_27 hR, ly_65_28 hR, ly_65_29 hR, ly_65_30 hR, m_isN hR hM1 hV, b1, m_btw, b2, c6, hn, u_eq, Nat.reduceEqDiff, false_and, and_false, true_and, and_true, and_self, not_false_eq_true, q1, q2, q3, lit, gp1, rl1, rs1, bd1, lt1, n_add, n_sub, n_dec, n_le, n_lt, n_eq, n_in, nI_clamp, n_mul, m_or, m_and, m_pow, m_bit, m_dif, n_neg, yn_0, yn_1, yn_z, yn_d, one31, Nat.add_sub_cancel, Nat.not_lt_zero, if_true, if_false, ite_true, ite_false, Bool.true_eq_false, Bool.false_eq_true, Nat.add_zero, Nat.zero_add]
        · rw [u_eq, if_neg (by omega), u_eq, if_neg (by omega), u_eq, if_neg (by omega)]
end CALLS2
