/-! THE CLASS' SHED: what its changes leave -/
def frS (I I' : Iw) : Prop := ∀ a j, (a = 0 ∨ 16 < a) → I' a j = I a j
theorem isin_out {D : Dt} {g : Nat} (i : Nat) : isin (Dout D g) i = (isin D i && i != g) := by
  rw [Bool.eq_iff_iff, Bool.and_eq_true, isin_iff, isin_iff, bne_iff_ne]
  show (i < d_n D ∧ ∀ k, k < d_o D + 1 → up1 (d_ln D) (d_o D) g k ≠ i) ↔ _
  constructor
  · rintro ⟨h1, h2⟩
    refine ⟨⟨h1, fun k hk => ?_⟩, fun e => ?_⟩
    · have := h2 k (by omega)
      rwa [u1_eq, if_neg (by omega)] at this
    · have := h2 (d_o D) (by omega)
      rw [u1_eq, if_pos rfl] at this
      exact this e.symm
  · rintro ⟨⟨h1, h2⟩, h3⟩
    refine ⟨h1, fun k hk => ?_⟩
    rw [u1_eq]
    by_cases e : k = d_o D
    · rw [if_pos e]; exact fun q => h3 q.symm
    · rw [if_neg e]; exact h2 k (by omega)
theorem isin_back {D : Dt} (hV : VD D) (h : d_o D ≠ 0) (i : Nat) : isin (Dback D) i = (isin D i || decide (d_ln D (d_o D - 1) = i)) := by
  rw [Bool.eq_iff_iff, Bool.or_eq_true, isin_iff, isin_iff, decide_eq_true_eq]
  show (i < d_n D ∧ ∀ k, k < d_o D - 1 → d_ln D k ≠ i) ↔ _
  constructor
  · rintro ⟨h1, h2⟩
    by_cases e : d_ln D (d_o D - 1) = i
    · exact Or.inr e
    · refine Or.inl ⟨h1, fun k hk => ?_⟩
      by_cases e2 : k = d_o D - 1
      · rw [e2]; exact e
      · exact h2 k (by omega)
  · rintro (⟨h1, h2⟩ | e)
    · exact ⟨h1, fun k hk => h2 k (by omega)⟩
    · refine ⟨by rw [← e]; exact hV.2.2.1 _ (by omega), fun k hk q => ?_⟩
      rw [← e] at q
      have := hV.2.2.2.1 k (d_o D - 1) (by omega) (by omega) q
      omega
theorem isin_add {D : Dt} (hV : VD D) {k b c w : Nat} (i : Nat) : isin (Dadd D k b c w) i = (isin D i || decide (d_n D = i)) := by
  rw [Bool.eq_iff_iff, Bool.or_eq_true, isin_iff, isin_iff, decide_eq_true_eq]
  show (i < d_n D + 1 ∧ ∀ k, k < d_o D → d_ln D k ≠ i) ↔ _
  constructor
  · rintro ⟨h1, h2⟩
    by_cases e : d_n D = i
    · exact Or.inr e
    · exact Or.inl ⟨by omega, h2⟩
  · rintro (⟨h1, h2⟩ | e)
    · exact ⟨by omega, h2⟩
    · refine ⟨by omega, fun k hk q => ?_⟩
      have := hV.2.2.1 k hk
      omega
theorem insm_out {D : Dt} {g : Nat} (hg : g < 9) : insm (Dout D g) = mdiff (insm D) (2 ^ g) := by
  refine Nat.eq_of_testBit_eq fun i => ?_
  rw [insm_bit, mdiff_bit, insm_bit, isin_out, Nat.testBit_two_pow]
  by_cases h : i < 9
  · have h2 : i < 10 := by omega
    by_cases e : i = g
    · subst e; simp
    · have e2 : ¬ g = i := fun q => e q.symm
      simp [h, h2, e, e2]
  · simp [h]
theorem insm_back {D : Dt} (hV : VD D) (h : d_o D ≠ 0) : insm (Dback D) = insm D ||| 2 ^ d_ln D (d_o D - 1) := by
  have h1 := hV.1
  have h3 := hV.2.2.1 (d_o D - 1) (by omega)
  refine Nat.eq_of_testBit_eq fun i => ?_
  rw [insm_bit, bit_or, insm_bit, isin_back hV h]
  by_cases h2 : i < 9
  · simp [h2]
  · have e : ¬ d_ln D (d_o D - 1) = i := by omega
    simp [h2, e]
theorem insm_add {D : Dt} (hV : VD D) (h : d_n D < 9) {k b c w : Nat} : insm (Dadd D k b c w) = insm D ||| 2 ^ d_n D := by
  refine Nat.eq_of_testBit_eq fun i => ?_
  rw [insm_bit, bit_or, insm_bit, isin_add hV]
  by_cases h2 : i < 9
  · simp [h2]
  · have e : ¬ d_n D = i := by omega
    simp [h2, e]
section ACTS
variable {J : Sh} {R : Rw} {I : Iw} {D : Dt}
theorem p_putOut (hR : Lay R) (hC : CR I 1 D) (hV : VD D) {g : Nat} (hg : isin D g = true) : ∃ I', f_X7_putOut (S0 ++ J) R I 1 (nI g) = some I' ∧ frS I I' ∧ CR I' 1 (Dout D g) := by
  have h9 := hV.1
  have h2 := (VD_out hV hg).2.1
  have h2 : d_o D + 1 ≤ d_n D := h2
  have hi := (isin_iff.mp hg).1
  have c6 : I 1 6 = nI (insm D) := hC.1.2.1
  have c8 : I 1 8 = nI (d_o D) := hC.1.2.2.1
  have hh : f_X7_has (S0 ++ J) R I 1 (nI g) = some (yn true) := by
    rw [p_has hC.1, hs_t hV hi]; rfl
  refine ⟨up2 (up2 (up2 I 1 6 (nI (mdiff (insm D) (2 ^ g)))) 7 (d_o D) (nI g)) 1 8 (nI (d_o D + 1)), ?_, ?_, ?_⟩
  · rw [f_X7_putOut]
    simp (disch := omega) only [so_1, ao_2, ao_3, ao_4, ao_5, ao_6, ao_7, so_8, ao_9, ao_10, ao_11, ao_12, ao_13, ao_14, ao_15, ao_16, ly_1_0 hR, ly_1_1 hR, ly_1_2 hR, ly_1_3 hR, ly_1_4 hR, ly_1_7 hR, ly_1_11 hR, ly_1_12 hR, ly_1_13 hR, ly_8_1 hR, ly_8_2 hR, ly_8_3 hR, ly_8_5 hR, ly_8_6 hR, ly_8_7 hR, hh, c6, c8, x_without (insm_lt D) (show g < 10 by omega), u_eq, lit, gp1, rl1, rs1, bd1, lt1, n_add, n_sub, n_dec, n_le, n_lt, n_eq, n_in, nI_clamp, n_mul, m_or, m_and, m_pow, m_bit, m_dif, n_neg, yn_0, yn_1, yn_z, yn_d, one31, Nat.add_sub_cancel, Nat.not_lt_zero, if_true, if_false, ite_true, ite_false]
    rw [if_neg (by decide), if_neg (by omega)]
    simp only [show ¬ (1 = 7) by decide, show ¬ (8 = 6) by decide, and_false, false_and, if_false, c8, nI_clamp (show d_o D < 2 ^ 31 by omega), n_in (show d_o D < 9 by omega) (by omega), gp1, n_add]
  · intro a j h
    rw [u_eq, if_neg (by omega), u_eq, if_neg (by omega), u_eq, if_neg (by omega)]
  · obtain ⟨⟨h1, h2, h3, h4, h5, h6, h7, h8, h9, h10, h11⟩, hm⟩ := hC
    refine ⟨⟨h1, ?_, ?_, h4, h5, h6, h7, h8, ?_, h10, h11⟩, hm⟩
    · rw [insm_out (by omega)]; simp [u_eq]
    · simp [u_eq]; rfl
    · intro k hk
      have hk : k < d_o D + 1 := hk
      show _ = nI (up1 (d_ln D) (d_o D) g k)
      rw [u1_eq, u_eq, if_neg (by omega), u_eq]
      by_cases e : k = d_o D
      · rw [if_pos (by omega), if_pos e]
      · rw [if_neg (by omega), if_neg e, u_eq, if_neg (by omega)]
        exact h9 k (by omega)
theorem lst_pos (hV : VD D) (h : d_o D ≠ 0) : lst D = d_ln D (d_o D - 1) + 1 ∧ d_ln D (d_o D - 1) < d_n D := ⟨if_neg h, hV.2.2.1 _ (by omega)⟩
theorem lst_le (hV : VD D) : lst D ≤ d_n D := by
  by_cases h : d_o D = 0
  · rw [lst, if_pos h]; exact Nat.zero_le _
  · have := lst_pos hV h; omega
theorem p_bring (hR : Lay R) (hC : CR I 1 D) (hV : VD D) : ∃ I' x, f_X7_bringBack (S0 ++ J) R I 1 = some (I', x) ∧ frS I I' ∧
    if d_o D = 0 then x = -nI 3 ∧ I' = I else x = nI (d_ln D (d_o D - 1)) ∧ CR I' 1 (Dback D) := by
  have h9 := hV.1
  have h02 := hV.2.1
  have c6 : I 1 6 = nI (insm D) := hC.1.2.1
  have c8 : I 1 8 = nI (d_o D) := hC.1.2.2.1
  have hL := p_last (J := J) hR hC.1 hV
  by_cases h : d_o D = 0
  · refine ⟨I, -nI 3, ?_, fun _ _ _ => rfl, by rw [if_pos h]; exact ⟨rfl, rfl⟩⟩
    rw [lst, if_pos h] at hL
    have hh : f_X7_has (S0 ++ J) R I 1 (nI 0 - nI 1) = some (yn false) := by
      rw [p_has hC.1]; rfl
    rw [f_X7_bringBack]
    simp only [so_1, gp1, hL, bd1]
    simp only [lit, hh, bd1, yn_0, if_true]
  · have hl := lst_pos hV h
    rw [hl.1] at hL
    simp only [lit, n_sub (Nat.le_add_left 1 _), Nat.add_sub_cancel] at hL
    have hh : f_X7_has (S0 ++ J) R I 1 (nI (d_ln D (d_o D - 1))) = some (yn true) := by
      rw [p_has hC.1, hs_t hV hl.2]; rfl
    refine ⟨up2 (up2 I 1 8 (nI (d_o D - 1))) 1 6 (nI (insm D ||| 2 ^ d_ln D (d_o D - 1))), nI (d_ln D (d_o D - 1)), ?_, ?_, ?_⟩
    · rw [f_X7_bringBack]
      simp (disch := omega) only [so_1, ao_2, ao_3, ao_4, ao_5, ao_6, ao_7, so_8, ao_9, ao_10, ao_11, ao_12, ao_13, ao_14, ao_15, ao_16, ly_1_0 hR, ly_1_1 hR, ly_1_2 hR, ly_1_3 hR, ly_1_4 hR, ly_1_7 hR, ly_1_11 hR, ly_1_12 hR, ly_1_13 hR, ly_8_1 hR, ly_8_2 hR, ly_8_3 hR, ly_8_5 hR, ly_8_6 hR, ly_8_7 hR, hL, hh, c8, u_eq, c6, lit, gp1, rl1, rs1, bd1, lt1, n_add, n_sub, n_dec, n_le, n_lt, n_eq, n_in, nI_clamp, n_mul, m_or, m_and, m_pow, m_bit, m_dif, n_neg, yn_0, yn_1, yn_z, yn_d, one31, Nat.add_sub_cancel, Nat.not_lt_zero, if_true, if_false, ite_true, ite_false]
      rw [if_neg (by decide)]
      simp only [show ¬ (6 = 8) by decide, and_false, if_false, c6, m_or]
    · intro a j q
      rw [u_eq, if_neg (by omega), u_eq, if_neg (by omega)]
    · rw [if_neg h]
      obtain ⟨⟨h1, h2, h3, h4, h5, h6, h7, h8, h9, h10, h11⟩, hm⟩ := hC
      refine ⟨rfl, ⟨h1, ?_, rfl, h4, h5, h6, h7, h8, ?_, h10, h11⟩, hm⟩
      · rw [insm_back hV h]; rfl
      · intro k hk
        have hk : k < d_o D - 1 := hk
        exact h9 k (by omega)
theorem p_add (hR : Lay R) (hC : CR I 1 D) (hV : VD D) {k b c w : Nat} (hk : 1 ≤ k ∧ k ≤ 5) (hb : b ≤ 2) (hc : c ≤ 9) (hw : 1 ≤ w ∧ w ≤ 999) : ∃ I' x, f_X7_add (S0 ++ J) R I 1 (nI k) (nI b) (nI c) (nI w) = some (I', x) ∧ frS I I' ∧
    if d_n D = 9 then x = -nI 2 ∧ I' = I else x = nI (d_n D) ∧ CR I' 1 (Dadd D k b c w) := by
  have h9 := hV.1
  have c5 : I 1 5 = nI (d_n D) := hC.1.1
  have c6 : I 1 6 = nI (insm D) := hC.1.2.1
  by_cases h : d_n D = 9
  · refine ⟨I, -nI 2, ?_, fun _ _ _ => rfl, by rw [if_pos h]; exact ⟨rfl, rfl⟩⟩
    rw [f_X7_add]
    simp (disch := omega) only [so_1, ao_2, ao_3, ao_4, ao_5, ao_6, ao_7, so_8, ao_9, ao_10, ao_11, ao_12, ao_13, ao_14, ao_15, ao_16, ly_1_0 hR, ly_1_1 hR, ly_1_2 hR, ly_1_3 hR, ly_1_4 hR, ly_1_7 hR, ly_1_11 hR, ly_1_12 hR, ly_1_13 hR, ly_8_1 hR, ly_8_2 hR, ly_8_3 hR, ly_8_5 hR, ly_8_6 hR, ly_8_7 hR, c5, lit, gp1, rl1, rs1, bd1, lt1, n_add, n_sub, n_dec, n_le, n_lt, n_eq, n_in, nI_clamp, n_mul, m_or, m_and, m_pow, m_bit, m_dif, n_neg, yn_0, yn_1, yn_z, yn_d, one31, Nat.add_sub_cancel, Nat.not_lt_zero, if_true, if_false, ite_true, ite_false]
    rw [if_neg (by omega)]
  · have hV2 := VD_add hV (by omega) hk hb hc hw
    have hC2 : CR0 (up2 (up2 (up2 (up2 (up2 (up2 I 2 (d_n D) (nI k)) 3 (d_n D) (nI b)) 4 (d_n D) (nI c)) 5 (d_n D) (nI w)) 1 6 (nI (insm D ||| 2 ^ d_n D))) 1 5 (nI (d_n D + 1))) 1 (Dadd D k b c w) := by
      obtain ⟨⟨h1, h2, h3, h4, h5, h6, h7, h8, h9, h10, h11⟩, hm⟩ := hC
      refine ⟨rfl, ?_, h3, h4, h5, h6, h7, ?_, h9, h10, h11⟩
      · rw [insm_add hV (by omega)]; rfl
      · intro g hg
        have hg : g < d_n D + 1 := hg
        show up1 (I 2) (d_n D) (nI k) g = nI (up1 (d_kd D) (d_n D) k g) ∧ up1 (I 3) (d_n D) (nI b) g = nI (up1 (d_by D) (d_n D) b g) ∧ up1 (I 4) (d_n D) (nI c) g = nI (up1 (d_cl D) (d_n D) c g) ∧ up1 (I 5) (d_n D) (nI w) g = nI (up1 (d_wo D) (d_n D) w g)
        simp only [u1_eq]
        by_cases e : g = d_n D
        · simp only [if_pos e, and_self]
        · simp only [if_neg e]
          exact h8 g (by omega)
    obtain ⟨I', e, fr, cr⟩ := p_renew (J := J) hR hC2 hV2
    refine ⟨I', nI (d_n D), ?_, ?_, by rw [if_neg h]; exact ⟨rfl, cr⟩⟩
    · rw [f_X7_add]
      simp (disch := omega) only [so_1, ao_2, ao_3, ao_4, ao_5, ao_6, ao_7, so_8, ao_9, ao_10, ao_11, ao_12, ao_13, ao_14, ao_15, ao_16, ly_1_0 hR, ly_1_1 hR, ly_1_2 hR, ly_1_3 hR, ly_1_4 hR, ly_1_7 hR, ly_1_11 hR, ly_1_12 hR, ly_1_13 hR, ly_8_1 hR, ly_8_2 hR, ly_8_3 hR, ly_8_5 hR, ly_8_6 hR, ly_8_7 hR, c5, lit, gp1, rl1, rs1, bd1, lt1, n_add, n_sub, n_dec, n_le, n_lt, n_eq, n_in, nI_clamp, n_mul, m_or, m_and, m_pow, m_bit, m_dif, n_neg, yn_0, yn_1, yn_z, yn_d, one31, Nat.add_sub_cancel, Nat.not_lt_zero, if_true, if_false, ite_true, ite_false]
      rw [if_pos (by omega)]
      simp only [u_eq, show ¬ (1 = 2) by decide, show ¬ (1 = 3) by decide, show ¬ (1 = 4) by decide, show ¬ (1 = 5) by decide, show ¬ (5 = 6) by decide, false_and, and_false, if_false, c5, c6, m_or, n_add, e, bd1]
    · intro a j q
      rw [fr a j (by omega), u_eq, if_neg (by omega), u_eq, if_neg (by omega), u_eq, if_neg (by omega), u_eq, if_neg (by omega), u_eq, if_neg (by omega), u_eq, if_neg (by omega)]
theorem p_kind (hR : Lay R) (hC : CR I 1 D) (hV : VD D) {g k : Nat} (hg : g < d_n D) (hk : 1 ≤ k ∧ k ≤ 5) : ∃ I', f_X7_becomeKind (S0 ++ J) R I 1 (nI g) (nI k) = some I' ∧ frS I I' ∧ CR I' 1 (Dkd D g k) := by
  have h9 := hV.1
  have hh : f_X7_has (S0 ++ J) R I 1 (nI g) = some (yn true) := by
    rw [p_has hC.1, hs_t hV hg]; rfl
  have hC2 : CR0 (up2 I 2 g (nI k)) 1 (Dkd D g k) := by
    obtain ⟨⟨h1, h2, h3, h4, h5, h6, h7, h8, h9, h10, h11⟩, hm⟩ := hC
    refine ⟨h1, h2, h3, h4, h5, h6, h7, ?_, h9, h10, h11⟩
    intro i hi
    show up1 (I 2) g (nI k) i = nI (up1 (d_kd D) g k i) ∧ _
    refine ⟨?_, (h8 i hi).2⟩
    simp only [u1_eq]
    by_cases e : i = g
    · simp only [if_pos e]
    · simp only [if_neg e]
      exact (h8 i hi).1
  obtain ⟨I', e, fr, cr⟩ := p_renew (J := J) hR hC2 (VD_kd hV hk)
  refine ⟨I', ?_, ?_, cr⟩
  · rw [f_X7_becomeKind]
    simp (disch := omega) only [so_1, ao_2, ao_3, ao_4, ao_5, ao_6, ao_7, so_8, ao_9, ao_10, ao_11, ao_12, ao_13, ao_14, ao_15, ao_16, ly_1_0 hR, ly_1_1 hR, ly_1_2 hR, ly_1_3 hR, ly_1_4 hR, ly_1_7 hR, ly_1_11 hR, ly_1_12 hR, ly_1_13 hR, ly_8_1 hR, ly_8_2 hR, ly_8_3 hR, ly_8_5 hR, ly_8_6 hR, ly_8_7 hR, hh, lit, gp1, rl1, rs1, bd1, lt1, n_add, n_sub, n_dec, n_le, n_lt, n_eq, n_in, nI_clamp, n_mul, m_or, m_and, m_pow, m_bit, m_dif, n_neg, yn_0, yn_1, yn_z, yn_d, one31, Nat.add_sub_cancel, Nat.not_lt_zero, if_true, if_false, ite_true, ite_false]
    rw [if_neg (by decide), e]
    rfl
  · intro a j q
    rw [fr a j (by omega), u_eq, if_neg (by omega)]
theorem p_gap (hR : Lay R) (hC : CR I 1 D) (hV : VD D) {v : Nat} (hv : 1 ≤ v ∧ v ≤ 3) : ∃ I', f_X7_becomeGap (S0 ++ J) R I 1 (nI v) = some I' ∧ frS I I' ∧ CR I' 1 (Dga D v) := by
  have hC2 : CR0 (up2 I 1 9 (nI v)) 1 (Dga D v) := by
    obtain ⟨⟨h1, h2, h3, h4, h5, h6, h7, h8, h9, h10, h11⟩, hm⟩ := hC
    exact ⟨h1, h2, h3, rfl, h5, h6, h7, h8, h9, h10, h11⟩
  obtain ⟨I', e, fr, cr⟩ := p_renew (J := J) hR hC2 (VD_ga hV hv)
  refine ⟨I', ?_, ?_, cr⟩
  · rw [f_X7_becomeGap]
    simp (disch := omega) only [so_1, ao_2, ao_3, ao_4, ao_5, ao_6, ao_7, so_8, ao_9, ao_10, ao_11, ao_12, ao_13, ao_14, ao_15, ao_16, ly_1_0 hR, ly_1_1 hR, ly_1_2 hR, ly_1_3 hR, ly_1_4 hR, ly_1_7 hR, ly_1_11 hR, ly_1_12 hR, ly_1_13 hR, ly_8_1 hR, ly_8_2 hR, ly_8_3 hR, ly_8_5 hR, ly_8_6 hR, ly_8_7 hR, e, lit, gp1, rl1, rs1, bd1, lt1, n_add, n_sub, n_dec, n_le, n_lt, n_eq, n_in, nI_clamp, n_mul, m_or, m_and, m_pow, m_bit, m_dif, n_neg, yn_0, yn_1, yn_z, yn_d, one31, Nat.add_sub_cancel, Nat.not_lt_zero, if_true, if_false, ite_true, ite_false]
  · intro a j q
    rw [fr a j (by omega), u_eq, if_neg (by omega)]
theorem p_cloth (hR : Lay R) (hC : CR I 1 D) (hV : VD D) {g k : Nat} (hg : g < d_n D) (hk : k ≤ 9) : ∃ I', f_X7_renewMates (S0 ++ J) R (up2 I 4 g (nI k)) 1 = some I' ∧ frS I I' ∧ CR I' 1 (Dcl D g k) := by
  have hC2 : CR0 (up2 I 4 g (nI k)) 1 (Dcl D g k) := by
    obtain ⟨⟨h1, h2, h3, h4, h5, h6, h7, h8, h9, h10, h11⟩, hm⟩ := hC
    refine ⟨h1, h2, h3, h4, h5, h6, h7, ?_, h9, h10, h11⟩
    intro i hi
    show I 2 i = _ ∧ I 3 i = _ ∧ up1 (I 4) g (nI k) i = nI (up1 (d_cl D) g k i) ∧ I 5 i = _
    refine ⟨(h8 i hi).1, (h8 i hi).2.1, ?_, (h8 i hi).2.2.2⟩
    simp only [u1_eq]
    by_cases e : i = g
    · simp only [if_pos e]
    · simp only [if_neg e]
      exact (h8 i hi).2.2.1
  obtain ⟨I', e, fr, cr⟩ := p_renew (J := J) hR hC2 (VD_cl hV hk)
  refine ⟨I', e, ?_, cr⟩
  intro a j q
  rw [fr a j (by omega), u_eq, if_neg (by omega)]
theorem p_worth (hC : CR I 1 D) {g k : Nat} : CR (up2 I 5 g (nI k)) 1 (Dwo D g k) := by
  obtain ⟨⟨h1, h2, h3, h4, h5, h6, h7, h8, h9, h10, h11⟩, hm⟩ := hC
  refine ⟨⟨h1, h2, h3, h4, h5, h6, h7, ?_, h9, h10, h11⟩, hm⟩
  intro i hi
  show I 2 i = _ ∧ I 3 i = _ ∧ I 4 i = _ ∧ up1 (I 5) g (nI k) i = nI (up1 (d_wo D) g k i)
  refine ⟨(h8 i hi).1, (h8 i hi).2.1, (h8 i hi).2.2.1, ?_⟩
  simp only [u1_eq]
  by_cases e : i = g
  · simp only [if_pos e]
  · simp only [if_neg e]
    exact (h8 i hi).2.2.2
theorem p_day (hC : CR I 1 D) {v : Nat} : CR (up2 I 1 10 (nI v)) 1 (Dda D v) := by
  obtain ⟨⟨h1, h2, h3, h4, h5, h6, h7, h8, h9, h10, h11⟩, hm⟩ := hC
  exact ⟨⟨h1, h2, h3, h4, rfl, h6, h7, h8, h9, h10, h11⟩, hm⟩
theorem p_lot (hC : CR I 1 D) {v : Int32} : CR (up2 I 1 15 v) 1 (Dz D v) := by
  obtain ⟨⟨h1, h2, h3, h4, h5, h6, h7, h8, h9, h10, h11⟩, hm⟩ := hC
  exact ⟨⟨h1, h2, h3, h4, h5, h6, rfl, h8, h9, h10, h11⟩, hm⟩
theorem p_noRep (hC : CR I 1 D) : CR (up2 I 1 14 (nI 0)) 1 (Dr0 D) := by
  obtain ⟨⟨h1, h2, h3, h4, h5, h6, h7, h8, h9, h10, h11⟩, hm⟩ := hC
  exact ⟨⟨h1, h2, h3, h4, h5, rfl, h7, h8, h9, h10, fun k hk => absurd hk (Nat.not_lt_zero k)⟩, hm⟩
theorem p_report (hR : Lay R) (hC : CR I 1 D) (hV : VD D) {g c : Nat} : ∃ I' x, f_X7_addReport (S0 ++ J) R I 1 (nI g) (nI c) = some (I', x) ∧ frS I I' ∧
    if d_np D = 6 then x = -nI 2 ∧ I' = I else x = nI (d_np D) ∧ CR I' 1 (Drp D g c) := by
  have h6 := hV.2.2.2.2.2.2.2.1
  have c14 : I 1 14 = nI (d_np D) := hC.1.2.2.2.2.2.1
  by_cases h : d_np D = 6
  · refine ⟨I, -nI 2, ?_, fun _ _ _ => rfl, by rw [if_pos h]; exact ⟨rfl, rfl⟩⟩
    rw [f_X7_addReport]
    simp (disch := omega) only [so_1, ao_2, ao_3, ao_4, ao_5, ao_6, ao_7, so_8, ao_9, ao_10, ao_11, ao_12, ao_13, ao_14, ao_15, ao_16, ly_1_0 hR, ly_1_1 hR, ly_1_2 hR, ly_1_3 hR, ly_1_4 hR, ly_1_7 hR, ly_1_11 hR, ly_1_12 hR, ly_1_13 hR, ly_8_1 hR, ly_8_2 hR, ly_8_3 hR, ly_8_5 hR, ly_8_6 hR, ly_8_7 hR, c14, lit, gp1, rl1, rs1, bd1, lt1, n_add, n_sub, n_dec, n_le, n_lt, n_eq, n_in, nI_clamp, n_mul, m_or, m_and, m_pow, m_bit, m_dif, n_neg, yn_0, yn_1, yn_z, yn_d, one31, Nat.add_sub_cancel, Nat.not_lt_zero, if_true, if_false, ite_true, ite_false]
    rw [if_neg (by omega)]
  · refine ⟨up2 (up2 (up2 I 15 (d_np D) (nI g)) 16 (d_np D) (nI c)) 1 14 (nI (d_np D + 1)), nI (d_np D), ?_, ?_, ?_⟩
    · rw [f_X7_addReport]
      simp (disch := omega) only [so_1, ao_2, ao_3, ao_4, ao_5, ao_6, ao_7, so_8, ao_9, ao_10, ao_11, ao_12, ao_13, ao_14, ao_15, ao_16, ly_1_0 hR, ly_1_1 hR, ly_1_2 hR, ly_1_3 hR, ly_1_4 hR, ly_1_7 hR, ly_1_11 hR, ly_1_12 hR, ly_1_13 hR, ly_8_1 hR, ly_8_2 hR, ly_8_3 hR, ly_8_5 hR, ly_8_6 hR, ly_8_7 hR, c14, u_eq, lit, gp1, rl1, rs1, bd1, lt1, n_add, n_sub, n_dec, n_le, n_lt, n_eq, n_in, nI_clamp, n_mul, m_or, m_and, m_pow, m_bit, m_dif, n_neg, yn_0, yn_1, yn_z, yn_d, one31, Nat.add_sub_cancel, Nat.not_lt_zero, if_true, if_false, ite_true, ite_false]
      rw [if_pos (by omega)]
      simp only [show ¬ (1 = 15) by decide, show ¬ (1 = 16) by decide, false_and, if_false, c14, nI_clamp (show d_np D < 2 ^ 31 by omega), n_in (show d_np D < 6 by omega) (by omega), gp1, n_add, and_self, if_true, n_sub (show 1 ≤ d_np D + 1 by omega), Nat.add_sub_cancel]
    · intro a j q
      rw [u_eq, if_neg (by omega), u_eq, if_neg (by omega), u_eq, if_neg (by omega)]
    · rw [if_neg h]
      obtain ⟨⟨h1, h2, h3, h4, h5, h6, h7, h8, h9, h10, h11⟩, hm⟩ := hC
      refine ⟨rfl, ⟨h1, h2, h3, h4, h5, rfl, h7, h8, h9, h10, ?_⟩, hm⟩
      intro k hk
      have hk : k < d_np D + 1 := hk
      show up1 (I 15) (d_np D) (nI g) k = nI (up1 (d_pg D) (d_np D) g k) ∧ up1 (I 16) (d_np D) (nI c) k = nI (up1 (d_pc D) (d_np D) c k)
      simp only [u1_eq]
      by_cases e : k = d_np D
      · simp only [if_pos e, and_self]
      · simp only [if_neg e]
        exact h11 k (by omega)
end ACTS
