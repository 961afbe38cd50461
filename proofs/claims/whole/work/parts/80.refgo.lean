/-! THE REFERENCE: a good goes out, and comes home as it was -/
section REFGO
variable {J : Sh} {R : Rw} {D : Dt}
theorem m_outback (hR : Lay R) {I : Iw} (hM : MR I 66 D) (hV : VD D) {g : Nat} (hi : isin D g = true) :
    ∃ I1, f_X12_out (S0 ++ J) R I 65 (nI g) = some I1 ∧ MR I1 66 (Dout D g) ∧ (∀ a j, a ≠ 66 → I1 a j = I a j) ∧
      ∀ I2 : Iw, (∀ a j, a ≠ 77 → I2 a j = I1 a j) → ∃ I3, f_X12_home (S0 ++ J) R I2 65 = some (I3, nI g) ∧ ∀ a j, a ≠ 77 → I3 a j = I a j := by
  have h9 := hV.1
  have hg := (isin_iff.mp hi).1
  have ho : d_o D + 1 ≤ d_n D := (VD_out hV hi).2.1
  have c5 : I 66 5 = nI (d_o D) := hM.2.2.2.2.2.1
  refine ⟨up2 (up2 (up2 I 66 (16 + 5 * g + 4) (nI (d_o D))) 66 (7 + d_o D) (nI g)) 66 5 (nI (d_o D + 1)), ?_, ?_, ?_, ?_⟩
  · rw [f_X12_out]
    have q1 : ¬ (5 = 16 + 5 * g + 4) := by omega
    have q2 : ¬ (5 = 7 + d_o D) := by omega
    simp (disch := omega) only [f_X12_goodAt, so_65, ao_66, ly_65_0 hR, ly_65_1 hR, ly_65_2 hR, ly_65_4 hR, ly_65_11 hR, ly_65_13 hR, ly_65_14 hR, ly_65_15 hR, ly_65_16 hR, ly_65_17 hR, ly_65_18 hR, ly_65_19 hR, ly_65_20 hR, ly_65_22 hR, ly_65_24 hR, ly_65_25 hR, ly_65_26 hR, ly_65_27 hR, ly_65_28 hR, ly_65_29 hR, ly_65_30 hR, c5, u_eq, Nat.reduceEqDiff, false_and, and_false, true_and, and_true, and_self, not_false_eq_true, q1, q2, lit, gp1, rl1, rs1, bd1, lt1, n_add, n_sub, n_dec, n_le, n_lt, n_eq, n_in, nI_clamp, n_mul, m_or, m_and, m_pow, m_bit, m_dif, n_neg, yn_0, yn_1, yn_z, yn_d, one31, Nat.add_sub_cancel, Nat.not_lt_zero, if_true, if_false, ite_true, ite_false]
  · obtain ⟨h0, h1, h2, h3, h4, h5, h6, h7, h8, hl, hp, hr, hk⟩ := hM
    have off : ∀ j, j ≠ 16 + 5 * g + 4 → j ≠ 7 + d_o D → j ≠ 5 → up2 (up2 (up2 I 66 (16 + 5 * g + 4) (nI (d_o D))) 66 (7 + d_o D) (nI g)) 66 5 (nI (d_o D + 1)) 66 j = I 66 j := fun j q1 q2 q3 => by
      rw [u_eq, if_neg (by omega), u_eq, if_neg (by omega), u_eq, if_neg (by omega)]
    have np6 := hV.2.2.2.2.2.2.2.1
    have nr8 := hV.2.2.2.2.2.2.1.1
    refine ⟨by rw [off _ (by omega) (by omega) (by omega)]; exact h0, by rw [off _ (by omega) (by omega) (by omega)]; exact h1, by rw [off _ (by omega) (by omega) (by omega)]; exact h2, by rw [off _ (by omega) (by omega) (by omega)]; exact h3, by rw [off _ (by omega) (by omega) (by omega)]; exact h4, by rw [u_eq, if_pos ⟨rfl, rfl⟩]; rfl, by rw [off _ (by omega) (by omega) (by omega)]; exact h6, fun k hk9 => ?_, fun i hi2 => ?_, fun k hk2 => ?_, fun k hk2 => ?_, fun r hr2 => ?_, fun r hr2 => ?_⟩
    · show _ = if k < d_o D + 1 then nI (up1 (d_ln D) (d_o D) g k) else 0
      rw [u1_eq, u_eq, if_neg (by omega), u_eq]
      by_cases e : k = d_o D
      · rw [if_pos (by omega), if_pos (by omega), if_pos e]
      · rw [if_neg (by omega), u_eq, if_neg (by omega), h7 k hk9, if_neg e]
        by_cases e2 : k < d_o D
        · rw [if_pos e2, if_pos (by omega)]
        · rw [if_neg e2, if_neg (by omega)]
    · have hi2 : i < d_n D := hi2
      have q := h8 i hi2
      rw [off _ (by omega) (by omega) (by omega), off _ (by omega) (by omega) (by omega), off _ (by omega) (by omega) (by omega), off _ (by omega) (by omega) (by omega)]
      refine ⟨q.1, q.2.1, q.2.2.1, q.2.2.2.1, fun hin => ?_⟩
      rw [isin_out, Bool.and_eq_true, bne_iff_ne] at hin
      rw [off _ (by omega) (by omega) (by omega)]
      exact q.2.2.2.2 hin.1
    · have hk2 : k < d_o D + 1 := hk2
      show _ = nI k
      rw [show d_ln (Dout D g) k = up1 (d_ln D) (d_o D) g k from rfl, u1_eq]
      by_cases e : k = d_o D
      · rw [if_pos e, u_eq, if_neg (by omega), u_eq, if_neg (by omega), u_eq, if_pos (by omega), e]
      · rw [if_neg e]
        have hne := (isin_iff.mp hi).2 k (by omega)
        have hlt := hV.2.2.1 k (by omega)
        rw [off _ (by omega) (by omega) (by omega)]
        exact hl k (by omega)
    · have hk2 : k < d_np D := hk2
      rw [off _ (by omega) (by omega) (by omega), off _ (by omega) (by omega) (by omega)]
      exact hp k hk2
    · have hr2 : r < d_nr D := hr2
      rw [off _ (by omega) (by omega) (by omega), off _ (by omega) (by omega) (by omega), off _ (by omega) (by omega) (by omega)]
      refine ⟨(hr r hr2).1, (hr r hr2).2.1, (hr r hr2).2.2.1, fun i t ht => ?_⟩
      rw [off _ (by omega) (by omega) (by omega)]
      exact (hr r hr2).2.2.2 i t ht
    · have hr2 : r ≤ d_nr D := hr2
      rw [off _ (by omega) (by omega) (by omega)]
      exact hk r hr2
  · intro a j h
    rw [u_eq, if_neg (by omega), u_eq, if_neg (by omega), u_eq, if_neg (by omega)]
  · intro I2 hI2
    have z : I 66 (7 + d_o D) = 0 := by
      have := hM.2.2.2.2.2.2.2.1 (d_o D) (by omega)
      rwa [if_neg (by omega)] at this
    have n9 : I 66 (16 + 5 * g + 4) = -nI 9 := by
      have := (hM.2.2.2.2.2.2.2.2.1 g hg).2.2.2.2 hi
      rw [show 16 + 5 * g + 4 = 20 + 5 * g by omega]; exact this
    have d5 : I2 66 5 = nI (d_o D + 1) := by rw [hI2 66 _ (by decide), u_eq, if_pos ⟨rfl, rfl⟩]
    have d7 : I2 66 (7 + d_o D) = nI g := by rw [hI2 66 _ (by decide), u_eq, if_neg (by omega), u_eq, if_pos ⟨rfl, rfl⟩]
    refine ⟨up2 (up2 (up2 I2 66 5 (nI (d_o D))) 66 (7 + d_o D) (nI 0)) 66 (16 + 5 * g + 4) (-nI 9), ?_, fun a j h => ?_⟩
    · rw [f_X12_home]
      simp (disch := omega) only [f_X12_goodAt, f_X12_comes, so_65, ao_66, ly_65_0 hR, ly_65_1 hR, ly_65_2 hR, ly_65_4 hR, ly_65_11 hR, ly_65_13 hR, ly_65_14 hR, ly_65_15 hR, ly_65_16 hR, ly_65_17 hR, ly_65_18 hR, ly_65_19 hR, ly_65_20 hR, ly_65_22 hR, ly_65_24 hR, ly_65_25 hR, ly_65_26 hR, ly_65_27 hR, ly_65_28 hR, ly_65_29 hR, ly_65_30 hR, d5, u_eq, Nat.reduceEqDiff, false_and, and_false, true_and, and_true, and_self, not_false_eq_true, lit, gp1, rl1, rs1, bd1, lt1, n_add, n_sub, n_dec, n_le, n_lt, n_eq, n_in, nI_clamp, n_mul, m_or, m_and, m_pow, m_bit, m_dif, n_neg, yn_0, yn_1, yn_z, yn_d, one31, Nat.add_sub_cancel, Nat.not_lt_zero, if_true, if_false, ite_true, ite_false]
      simp (disch := omega) only [show ¬ (7 + d_o D = 5) by omega, if_false, d7, n_mul, n_add, n_in, nI_clamp, gp1, lt1, bd1]
    · by_cases e1 : a = 66 ∧ j = 16 + 5 * g + 4
      · rw [u_eq, if_pos e1, e1.1, e1.2, n9]
      · rw [u_eq, if_neg e1]
        by_cases e2 : a = 66 ∧ j = 7 + d_o D
        · rw [u_eq, if_pos e2, e2.1, e2.2, z]; rfl
        · rw [u_eq, if_neg e2]
          by_cases e3 : a = 66 ∧ j = 5
          · rw [u_eq, if_pos e3, e3.1, e3.2, c5]
          · rw [u_eq, if_neg e3, hI2 a j h, u_eq, if_neg e3, u_eq, if_neg e2, u_eq, if_neg e1]
end REFGO
