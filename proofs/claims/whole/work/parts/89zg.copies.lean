/-! THE RULES THAT WERE READ ARE TAKEN -/
section CPS
variable {J : Sh} {R : Rw} {I : Iw}
theorem m_178 (hR : Lay R) {x1 : Int32} {m : Nat} (hm : m ≤ 200) : ∀ (r t f : Nat) (I : Iw), t + r = m → r < f → I 65 12 = nI m →
    ∃ I', f_X12_rules_178 (S0 ++ J) R f I 65 x1 (nI t) = some (I', x1) ∧ (∀ j, I' 66 j = if 106 + t ≤ j ∧ j < 106 + m then I 70 (j - 106) else I 66 j) ∧ ∀ a j, a ≠ 66 → I' a j = I a j
  | 0, t, f, I, ht, hf, h12 => by
    obtain ⟨f, rfl⟩ := Nat.exists_eq_succ_of_ne_zero (n := f) (by omega)
    refine ⟨I, ?_, fun j => by rw [if_neg (by omega)], fun _ _ _ => rfl⟩
    rw [f_X12_rules_178, so_65, gp1, h12, if_pos (by rw [n_le (by omega) (by omega)]; omega)]
  | r + 1, t, f, I, ht, hf, h12 => by
    obtain ⟨f, rfl⟩ := Nat.exists_eq_succ_of_ne_zero (n := f) (by omega)
    obtain ⟨I', e1, e2, e3⟩ := m_178 hR (x1 := x1) hm r (t + 1) f (up2 I 66 (106 + t) (I 70 t)) (by omega) (by omega) (by rw [u_eq, if_neg (by omega)]; exact h12)
    refine ⟨I', ?_, fun j => ?_, fun a j ha => by rw [e3 a j ha, u_eq, if_neg (by omega)]⟩
    · rw [f_X12_rules_178, so_65, gp1, h12, if_neg (by rw [n_le (by omega) (by omega)]; omega)]
      simp (disch := omega) only [so_65, ao_66, ao_67, ao_68, ao_69, ao_70, ly_65_0 hR, ly_65_1 hR, ly_65_2 hR, ly_65_4 hR, ly_65_11 hR, ly_65_13 hR, ly_65_14 hR, ly_65_15 hR, ly_65_16 hR, ly_65_17 hR, ly_65_18 hR, ly_65_19 hR, ly_65_20 hR, ly_65_22 hR, ly_65_24 hR, ly_65_25 hR, ly_65_26 hR, ly_65_27 hR, ly_65_28 hR, ly_65_29 hR, ly_65_30 hR, lit, gp1, rl1, rs1, bd1, lt1, n_add, n_sub, n_dec, n_le, n_lt, n_eq, n_in, nI_clamp, n_mul, m_or, m_and, m_pow, m_bit, m_dif, n_neg, yn_0, yn_1, yn_z, yn_d, one31, Nat.add_sub_cancel, Nat.not_lt_zero, if_true, if_false, ite_true, ite_false, Bool.true_eq_false, Bool.false_eq_true, Nat.add_zero, Nat.zero_add]
      exact e1
    · rw [e2 j]
      by_cases q : j = 106 + t
      · rw [if_neg (by omega), if_pos (by omega), u_eq, if_pos ⟨rfl, q⟩, show j - 106 = t by omega]
      · by_cases q2 : 106 + (t + 1) ≤ j ∧ j < 106 + m
        · rw [if_pos q2, if_pos (by omega), u_eq, if_neg (by omega)]
        · rw [if_neg q2, if_neg (by omega), u_eq, if_neg (by omega)]
theorem m_80 (hR : Lay R) {m nr : Nat} (hm : m ≤ 200) (hnr : nr ≤ 8) : ∀ (r t f : Nat) (I : Iw), t + r = nr → r < f → I 65 12 = nI m →
    ∃ I', f_X12_rules_80 (S0 ++ J) R f I 65 (nI nr) (nI t) = some (I', nI nr) ∧ (∀ a j, a ≠ 66 → I' a j = I a j) ∧
      (∀ i, t ≤ i → i < nr → I' 66 (73 + 3 * i) = I 74 i ∧ I' 66 (74 + 3 * i) = I 75 i ∧ I' 66 (75 + 3 * i) = I 76 i ∧ I' 66 (97 + i) = I 73 i) ∧
      I' 66 (97 + nr) = nI m ∧ (∀ j, j < m → I' 66 (106 + j) = I 70 j) ∧ ∀ j, (j < 73 + 3 * t ∨ (73 + 3 * nr ≤ j ∧ j < 97 + t)) → I' 66 j = I 66 j
  | 0, t, f, I, ht, hf, h12 => by
    obtain ⟨f, rfl⟩ := Nat.exists_eq_succ_of_ne_zero (n := f) (by omega)
    have : t = nr := by omega
    subst this
    obtain ⟨I', e1, e2, e3⟩ := m_178 (J := J) hR (x1 := nI t) hm m 0 512 (up2 I 66 (97 + t) (nI m)) (by omega) (by omega) (by rw [u_eq, if_neg (by omega)]; exact h12)
    refine ⟨I', ?_, fun a j ha => by rw [e3 a j ha, u_eq, if_neg (by omega)], fun i h1 h2 => by omega, ?_, fun j hj => ?_, fun j hj => ?_⟩
    · rw [f_X12_rules_80, if_pos (by rw [n_le (by omega) (by omega)]; omega)]
      simp (disch := omega) only [so_65, ao_66, ly_65_0 hR, ly_65_1 hR, ly_65_2 hR, ly_65_4 hR, ly_65_11 hR, ly_65_13 hR, ly_65_14 hR, ly_65_15 hR, ly_65_16 hR, ly_65_17 hR, ly_65_18 hR, ly_65_19 hR, ly_65_20 hR, ly_65_22 hR, ly_65_24 hR, ly_65_25 hR, ly_65_26 hR, ly_65_27 hR, ly_65_28 hR, ly_65_29 hR, ly_65_30 hR, h12, lit, gp1, rl1, rs1, bd1, lt1, n_add, n_sub, n_dec, n_le, n_lt, n_eq, n_in, nI_clamp, n_mul, m_or, m_and, m_pow, m_bit, m_dif, n_neg, yn_0, yn_1, yn_z, yn_d, one31, Nat.add_sub_cancel, Nat.not_lt_zero, if_true, if_false, ite_true, ite_false, Bool.true_eq_false, Bool.false_eq_true, Nat.add_zero, Nat.zero_add]
      exact e1
    · rw [e2, if_neg (by omega), u_eq, if_pos ⟨rfl, rfl⟩]
    · rw [e2, if_pos (by omega), u_eq, if_neg (by omega), show 106 + j - 106 = j by omega]
    · rw [e2, if_neg (by omega), u_eq, if_neg (by omega)]
  | r + 1, t, f, I, ht, hf, h12 => by
    obtain ⟨f, rfl⟩ := Nat.exists_eq_succ_of_ne_zero (n := f) (by omega)
    obtain ⟨I', e1, e2, e3, e4, e5, e6⟩ := m_80 hR hm hnr r (t + 1) f (up2 (up2 (up2 (up2 I 66 (73 + 3 * t) (I 74 t)) 66 (74 + 3 * t) (I 75 t)) 66 (75 + 3 * t) (I 76 t)) 66 (97 + t) (I 73 t)) (by omega) (by omega) (by rw [u_eq, if_neg (by omega), u_eq, if_neg (by omega), u_eq, if_neg (by omega), u_eq, if_neg (by omega)]; exact h12)
    refine ⟨I', ?_, fun a j ha => by rw [e2 a j ha, u_eq, if_neg (by omega), u_eq, if_neg (by omega), u_eq, if_neg (by omega), u_eq, if_neg (by omega)], fun i h1 h2 => ?_, e4, fun j hj => by rw [e5 j hj, u_eq, if_neg (by omega), u_eq, if_neg (by omega), u_eq, if_neg (by omega), u_eq, if_neg (by omega)], fun j hj => by rw [e6 j (by omega), u_eq, if_neg (by omega), u_eq, if_neg (by omega), u_eq, if_neg (by omega), u_eq, if_neg (by omega)]⟩
    · rw [f_X12_rules_80, if_neg (by rw [n_le (by omega) (by omega)]; omega)]
      simp (disch := omega) only [so_65, ao_66, ly_65_0 hR, ly_65_1 hR, ly_65_2 hR, ly_65_4 hR, ly_65_11 hR, ly_65_13 hR, ly_65_14 hR, ly_65_15 hR, ly_65_16 hR, ly_65_17 hR, ly_65_18 hR, ly_65_19 hR, ly_65_20 hR, ly_65_22 hR, ly_65_24 hR, ly_65_25 hR, ly_65_26 hR, ly_65_27 hR, ly_65_28 hR, ly_65_29 hR, ly_65_30 hR, ao_73, ao_74, ao_75, ao_76, u_eq, Nat.reduceEqDiff, false_and, and_false, true_and, and_true, and_self, not_false_eq_true, lit, gp1, rl1, rs1, bd1, lt1, n_add, n_sub, n_dec, n_le, n_lt, n_eq, n_in, nI_clamp, n_mul, m_or, m_and, m_pow, m_bit, m_dif, n_neg, yn_0, yn_1, yn_z, yn_d, one31, Nat.add_sub_cancel, Nat.not_lt_zero, if_true, if_false, ite_true, ite_false, Bool.true_eq_false, Bool.false_eq_true, Nat.add_zero, Nat.zero_add]
      rw [show 73 + 3 * t + 1 = 74 + 3 * t by omega, show 73 + 3 * t + 2 = 75 + 3 * t by omega]
      exact e1
    · by_cases q : i = t
      · subst q
        refine ⟨?_, ?_, ?_, ?_⟩
        · rw [e6 _ (by omega), u_eq, if_neg (by omega), u_eq, if_neg (by omega), u_eq, if_neg (by omega), u_eq, if_pos ⟨rfl, rfl⟩]
        · rw [e6 _ (by omega), u_eq, if_neg (by omega), u_eq, if_neg (by omega), u_eq, if_pos ⟨rfl, rfl⟩]
        · rw [e6 _ (by omega), u_eq, if_neg (by omega), u_eq, if_pos ⟨rfl, rfl⟩]
        · rw [e6 _ (by omega), u_eq, if_pos ⟨rfl, rfl⟩]
      · have := e3 i (by omega) h2
        rw [this.1, this.2.1, this.2.2.1, this.2.2.2]
        refine ⟨?_, ?_, ?_, ?_⟩ <;> rw [u_eq, if_neg (by omega), u_eq, if_neg (by omega), u_eq, if_neg (by omega), u_eq, if_neg (by omega)]
def c8a (I : Iw) : Iw := up2 (up2 I 8 0 (I 37 0)) 8 4 (I 37 4)
def c8b (I : Iw) : Iw := cpy (c8a I) 38 0 9 0 8
def c8c (I : Iw) : Iw := cpy (c8b I) 39 0 10 0 8
def c8d (I : Iw) : Iw := cpy (c8c I) 40 0 11 0 8
def c8e (I : Iw) : Iw := cpy (c8d I) 41 0 12 0 128
def c8f (I : Iw) : Iw := cpy (c8e I) 42 0 13 0 128
def c8g (I : Iw) : Iw := cpy (c8f I) 43 0 14 0 128
theorem c8_e (I : Iw) (a j : Nat) : c8g I a j = if a = 14 ∧ j < 128 then I 43 j else if a = 13 ∧ j < 128 then I 42 j else if a = 12 ∧ j < 128 then I 41 j else if a = 11 ∧ j < 8 then I 40 j else if a = 10 ∧ j < 8 then I 39 j else if a = 9 ∧ j < 8 then I 38 j else c8a I a j := by
  have hb : ∀ a j, c8b I a j = if a = 9 ∧ j < 8 then c8a I 38 j else c8a I a j := fun a j => cp_e _ _ _ _ _ _
  have hc : ∀ a j, c8c I a j = if a = 10 ∧ j < 8 then c8b I 39 j else c8b I a j := fun a j => cp_e _ _ _ _ _ _
  have hd : ∀ a j, c8d I a j = if a = 11 ∧ j < 8 then c8c I 40 j else c8c I a j := fun a j => cp_e _ _ _ _ _ _
  have he : ∀ a j, c8e I a j = if a = 12 ∧ j < 128 then c8d I 41 j else c8d I a j := fun a j => cp_e _ _ _ _ _ _
  have hf : ∀ a j, c8f I a j = if a = 13 ∧ j < 128 then c8e I 42 j else c8e I a j := fun a j => cp_e _ _ _ _ _ _
  have hg : c8g I a j = if a = 14 ∧ j < 128 then c8f I 43 j else c8f I a j := cp_e _ _ _ _ _ _
  have z : ∀ k j, 37 < k → c8a I k j = I k j := fun k j q => by rw [c8a, u_eq, if_neg (by omega), u_eq, if_neg (by omega)]
  have o38 : ∀ j, c8a I 38 j = I 38 j := fun j => z 38 j (by omega)
  have o39 : ∀ j, c8b I 39 j = I 39 j := fun j => by rw [hb, if_neg (by omega)]; exact z 39 j (by omega)
  have o40 : ∀ j, c8c I 40 j = I 40 j := fun j => by rw [hc, if_neg (by omega), hb, if_neg (by omega)]; exact z 40 j (by omega)
  have o41 : ∀ j, c8d I 41 j = I 41 j := fun j => by rw [hd, if_neg (by omega), hc, if_neg (by omega), hb, if_neg (by omega)]; exact z 41 j (by omega)
  have o42 : ∀ j, c8e I 42 j = I 42 j := fun j => by rw [he, if_neg (by omega), hd, if_neg (by omega), hc, if_neg (by omega), hb, if_neg (by omega)]; exact z 42 j (by omega)
  have o43 : ∀ j, c8f I 43 j = I 43 j := fun j => by rw [hf, if_neg (by omega), he, if_neg (by omega), hd, if_neg (by omega), hc, if_neg (by omega), hb, if_neg (by omega)]; exact z 43 j (by omega)
  rw [hg, o43, hf, o42, he, o41, hd, o40, hc, o39, hb, o38]
theorem k8_1 {J : Sh} : cok (S0 ++ J) 20 38 9 (nI 0) (nI 0) (nI 8) = true := id rfl
theorem k8_2 {J : Sh} : cok (S0 ++ J) 20 39 10 (nI 0) (nI 0) (nI 8) = true := id rfl
theorem k8_3 {J : Sh} : cok (S0 ++ J) 20 40 11 (nI 0) (nI 0) (nI 8) = true := id rfl
theorem k8_4 {J : Sh} : cok (S0 ++ J) 20 41 12 (nI 0) (nI 0) (nI 128) = true := id rfl
theorem k8_5 {J : Sh} : cok (S0 ++ J) 20 42 13 (nI 0) (nI 0) (nI 128) = true := id rfl
theorem k8_6 {J : Sh} : cok (S0 ++ J) 20 43 14 (nI 0) (nI 0) (nI 128) = true := id rfl
theorem q_80 {J : Sh} (hR : Lay R) (I : Iw) : f_X3_readInto_80 (S0 ++ J) R I 33 8 = some (c8g I, I 37 0) := by
  have h : f_X5_copyFrom (S0 ++ J) R I 8 37 = some (c8g I) := by
    rw [f_X5_copyFrom]
    simp (disch := omega) only [so_8, ao_9, ao_10, ao_11, ao_12, ao_13, ao_14, ly_8_1 hR, ly_8_2 hR, ly_8_3 hR, ly_8_5 hR, ly_8_6 hR, ly_8_7 hR, so_37, ao_38, ao_39, ao_40, ao_41, ao_42, ao_43, ly_37_1 hR, ly_37_2 hR, ly_37_3 hR, ly_37_5 hR, ly_37_6 hR, ly_37_7 hR, k8_1, k8_2, k8_3, k8_4, k8_5, k8_6, lit, gp1, rl1, rs1, bd1, lt1, n_add, n_sub, n_dec, n_le, n_lt, n_eq, n_in, nI_clamp, n_mul, m_or, m_and, m_pow, m_bit, m_dif, n_neg, yn_0, yn_1, yn_z, yn_d, one31, Nat.add_sub_cancel, Nat.not_lt_zero, if_true, if_false, ite_true, ite_false, Bool.true_eq_false, Bool.false_eq_true, Nat.add_zero, Nat.zero_add]
    rfl
  have e : c8g I 8 0 = I 37 0 := by
    rw [c8_e, if_neg (by omega), if_neg (by omega), if_neg (by omega), if_neg (by omega), if_neg (by omega), if_neg (by omega), c8a, u_eq, if_neg (by omega), u_eq, if_pos ⟨rfl, rfl⟩]
  rw [f_X3_readInto_80, so_33, gp1, ly_33_6 hR, rl1, so_8, gp1, h, bd1, e]
end CPS
