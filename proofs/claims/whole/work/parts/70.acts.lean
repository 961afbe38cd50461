/-! THE CLASS' SHED: what its changes leave -/
def frS (I I' : Iw) : Prop := ∀ a j, (a = 0 ∨ 16 < a) → I' a j = I a j
theorem isin_out {D : Dt} {g : Nat} (i : Nat) : isin (Dout D g) i = (isin D i && i != g) := by
  rw [Bool.eq_iff_iff, Bool.and_eq_true, isin_iff, isin_iff, bne_iff_ne]
  show (i < d_n D ∧ ∀ k, k < d_o D + 1 → up1 (d_ln D) (d_o D) g k ≠ i) ↔ _
  constructor
  · rintro ⟨h1, h2⟩
    refine ⟨⟨h1, fun k hk => ?_⟩, fun e => ?_⟩
    · have := h2 k (by omega)
      rwa [u1_eq, if_neg (by omega)] at this
    · have := h2 (d_o D) (by omega)
      rw [u1_eq, if_pos rfl] at this
      exact this e.symm
  · rintro ⟨⟨h1, h2⟩, h3⟩
    refine ⟨h1, fun k hk => ?_⟩
    rw [u1_eq]
    by_cases e : k = d_o D
    · rw [if_pos e]; exact fun q => h3 q.symm
    · rw [if_neg e]; exact h2 k (by omega)
theorem isin_back {D : Dt} (hV : VD D) (h : d_o D ≠ 0) (i : Nat) : isin (Dback D) i = (isin D i || decide (d_ln D (d_o D - 1) = i)) := by
  rw [Bool.eq_iff_iff, Bool.or_eq_true, isin_iff, isin_iff, decide_eq_true_eq]
  show (i < d_n D ∧ ∀ k, k < d_o D - 1 → d_ln D k ≠ i) ↔ _
  constructor
  · rintro ⟨h1, h2⟩
    by_cases e : d_ln D (d_o D - 1) = i
    · exact Or.inr e
    · refine Or.inl ⟨h1, fun k hk => ?_⟩
      by_cases e2 : k = d_o D - 1
      · rw [e2]; exact e
      · exact h2 k (by omega)
  · rintro (⟨h1, h2⟩ | e)
    · exact ⟨h1, fun k hk => h2 k (by omega)⟩
    · refine ⟨by rw [← e]; exact hV.2.2.1 _ (by omega), fun k hk q => ?_⟩
      rw [← e] at q
      have := hV.2.2.2.1 k (d_o D - 1) (by omega) (by omega) q
      omega
theorem isin_add {D : Dt} (hV : VD D) {k b c w : Nat} (i : Nat) : isin (Dadd D k b c w) i = (isin D i || decide (d_n D = i)) := by
  rw [Bool.eq_iff_iff, Bool.or_eq_true, isin_iff, isin_iff, decide_eq_true_eq]
  show (i < d_n D + 1 ∧ ∀ k, k < d_o D → d_ln D k ≠ i) ↔ _
  constructor
  · rintro ⟨h1, h2⟩
    by_cases e : d_n D = i
    · exact Or.inr e
    · exact Or.inl ⟨by omega, h2⟩
  · rintro (⟨h1, h2⟩ | e)
    · exact ⟨by omega, h2⟩
    · refine ⟨by omega, fun k hk q => ?_⟩
      have := hV.2.2.1 k hk
      omega
theorem insm_out {D : Dt} {g : Nat} (hg : g < 9) : insm (Dout D g) = mdiff (insm D) (2 ^ g) := by
  refine Nat.eq_of_testBit_eq fun i => ?_
  rw [insm_bit, mdiff_bit, insm_bit, isin_out, Nat.testBit_two_pow]
  by_cases h : i < 9
  · have h2 : i < 10 := by omega
    by_cases e : i = g
    · subst e; simp
    · have e2 : ¬ g = i := fun q => e q.symm
      simp [h, h2, e, e2]
  · simp [h]
theorem insm_back {D : Dt} (hV : VD D) (h : d_o D ≠ 0) : insm (Dback D) = insm D ||| 2 ^ d_ln D (d_o D - 1) := by
  have h1 := hV.1
  have h3 := hV.2.2.1 (d_o D - 1) (by omega)
  refine Nat.eq_of_testBit_eq fun i => ?_
  rw [insm_bit, bit_or, insm_bit, isin_back hV h]
  by_cases h2 : i < 9
  · simp [h2]
  · have e : ¬ d_ln D (d_o D - 1) = i := by omega
    simp [h2, e]
theorem insm_add {D : Dt} (hV : VD D) (h : d_n D < 9) {k b c w : Nat} : insm (Dadd D k b c w) = insm D ||| 2 ^ d_n D := by
  refine Nat.eq_of_testBit_eq fun i => ?_
  rw [insm_bit, bit_or, insm_bit, isin_add hV]
  by_cases h2 : i < 9
  · simp [h2]
  · have e : ¬ d_n D = i := by omega
    simp [h2, e]
section ACTS
variable {J : Sh} {R : Rw} {I : Iw} {D : Dt}
theorem p_putOut (hR : Lay R) (hC : CR I 1 D) (hV : VD D) {g : Nat} (hg : isin D g = true) : ∃ I', f_X7_putOut (S0 ++ J) R I 1 (nI g) = some I' ∧ frS I I' ∧ CR I' 1 (Dout D g) := by
  have h9 := hV.1
  have h2 := (VD_out hV hg).2.1
  have h2 : d_o D + 1 ≤ d_n D := h2
  have hi := (isin_iff.mp hg).1
  have c6 : I 1 6 = nI (insm D) := hC.1.2.1
  have c8 : I 1 8 = nI (d_o D) := hC.1.2.2.1
  have hh : f_X7_has (S0 ++ J) R I 1 (nI g) = some (yn true) := by
    rw [p_has hC.1, hs_t hV hi]; rfl
  refine ⟨up2 (up2 (up2 I 1 6 (nI (mdiff (insm D) (2 ^ g)))) 7 (d_o D) (nI g)) 1 8 (nI (d_o D + 1)), ?_, ?_, ?_⟩
  · rw [f_X7_putOut]
    simp (disch := omega) only [so_1, ao_2, ao_3, ao_4, ao_5, ao_6, ao_7, so_8, ao_9, ao_10, ao_11, ao_12, ao_13, ao_14, ao_15, ao_16, ly_1_0 hR, ly_1_1 hR, ly_1_2 hR, ly_1_3 hR, ly_1_4 hR, ly_1_7 hR, ly_1_11 hR, ly_1_12 hR, ly_1_13 hR, ly_8_1 hR, ly_8_2 hR, ly_8_3 hR, ly_8_5 hR, ly_8_6 hR, ly_8_7 hR, hh, c6, c8, x_without (insm_lt D) (show g < 10 by omega), u_eq, lit, gp1, rl1, rs1, bd1, lt1, n_add, n_sub, n_dec, n_le, n_lt, n_eq, n_in, nI_clamp, n_mul, m_or, m_and, m_pow, m_bit, m_dif, n_neg, yn_0, yn_1, yn_z, yn_d, one31, Nat.add_sub_cancel, Nat.not_lt_zero, if_true, if_false, ite_true, ite_false]
    rw [if_neg (by decide), if_neg (by omega)]
    simp only [show ¬ (1 = 7) by decide, show ¬ (8 = 6) by decide, and_false, false_and, if_false, c8, nI_clamp (show d_o D < 2 ^ 31 by omega), n_in (show d_o D < 9 by omega) (by omega), gp1, n_add]
  · intro a j h
    rw [u_eq, if_neg (by omega), u_eq, if_neg (by omega), u_eq, if_neg (by omega)]
  · obtain ⟨⟨h1, h2, h3, h4, h5, h6, h7, h8, h9, h10, h11⟩, hm⟩ := hC
    refine ⟨⟨h1, ?_, ?_, h4, h5, h6, h7, h8, ?_, h10, h11⟩, hm⟩
    · rw [insm_out (by omega)]; simp [u_eq]
    · simp [u_eq]; rfl
    · intro k hk
      have hk : k < d_o D + 1 := hk
      show _ = nI (up1 (d_ln D) (d_o D) g k)
      rw [u1_eq, u_eq, if_neg (by omega), u_eq]
      by_cases e : k = d_o D
      · rw [if_pos (by omega), if_pos e]
      · rw [if_neg (by omega), if_neg e, u_eq, if_neg (by omega)]
        exact h9 k (by omega)
end ACTS
