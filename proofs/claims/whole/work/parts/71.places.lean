/-! THE CLASS' SHED: places that fit the reports -/
theorem n_lts {a b c : Nat} (ha : a < 2 ^ 30) (hb : b < 2 ^ 30) (hc : c < 2 ^ 30) : (nI a < nI b - nI c) = (a + c < b) := by
  rcases Nat.lt_or_ge b c with h | h
  · refine propext ⟨fun q => ?_, fun q => by omega⟩
    exact absurd (Int32.lt_trans q (pk_sneg hc h)) (nI_pos (by omega))
  · rw [n_sub h, n_lt (by omega) (by omega)]
    exact propext ⟨fun q => by omega, fun q => by omega⟩
def couldb (D : Dt) (g p : Nat) : Bool := d_kd D g == 3 || (decide (g + d_ga D < p) || decide (p + d_ga D ≤ g))
def fitP (D : Dt) (p : Nat) (x : Int32) (t : Nat) : Bool := decide (nI t = x) || couldb D (d_pg D t) p == (d_pc D t == 1)
def fitb (D : Dt) (p : Nat) (x : Int32) : Bool := allF (fitP D p x) 0 (d_np D)
section PLACES
variable {J : Sh} {R : Rw} {I : Iw} {D : Dt}
theorem p_could (hR : Lay R) (hC : CR0 I 1 D) (hV : VD D) {g p : Nat} (hg : g < d_n D) (hp : p < 20) : f_X7_couldGoBehind (S0 ++ J) R I 1 (nI g) (nI p) = some (yn (couldb D g p)) := by
  have h9 := hV.1
  have v := hV.2.2.2.2.1 g hg
  have v6 := hV.2.2.2.2.2.1
  have c9 : I 1 9 = nI (d_ga D) := hC.2.2.2.1
  have c2 : I 2 g = nI (d_kd D g) := (hC.2.2.2.2.2.2.2.1 g hg).1
  have hh : f_X7_has (S0 ++ J) R I 1 (nI g) = some (yn true) := by
    rw [p_has hC, hs_t hV hg]; rfl
  simp (disch := omega) only [so_1, ao_2, ao_3, ao_4, ao_5, ao_6, ao_7, so_8, ao_9, ao_10, ao_11, ao_12, ao_13, ao_14, ao_15, ao_16, ly_1_0 hR, ly_1_1 hR, ly_1_2 hR, ly_1_3 hR, ly_1_4 hR, ly_1_7 hR, ly_1_11 hR, ly_1_12 hR, ly_1_13 hR, ly_8_1 hR, ly_8_2 hR, ly_8_3 hR, ly_8_5 hR, ly_8_6 hR, ly_8_7 hR, f_X7_couldGoBehind, f_X7_couldGoBehind_22, f_X7_couldGoBehind_23, f_X7_couldGoBehind_48, hh, c9, c2, n_lts, lit, gp1, rl1, rs1, bd1, lt1, n_add, n_sub, n_dec, n_le, n_lt, n_eq, n_in, nI_clamp, n_mul, m_or, m_and, m_pow, m_bit, m_dif, n_neg, yn_0, yn_1, yn_z, yn_d, one31, Nat.add_sub_cancel, Nat.not_lt_zero, if_true, if_false, ite_true, ite_false]
  rw [if_neg (by decide)]
  unfold couldb
  by_cases e : d_kd D g = 3
  · rw [if_pos e, if_neg (by decide), e]; rfl
  · rw [if_neg e, show (d_kd D g == 3) = false by simpa using e]
    by_cases e1 : g + d_ga D < p
    · rw [if_pos e1]; simp [e1, yn]
    · rw [if_neg e1]
      by_cases e2 : g < p + d_ga D
      · rw [if_pos e2]
        have : ¬ p + d_ga D ≤ g := by omega
        simp [e1, this, yn]
      · rw [if_neg e2]
        have : p + d_ga D ≤ g := by omega
        simp [this, yn]
theorem p_fits2 (hR : Lay R) (hC : CR0 I 1 D) (hV : VD D) {p : Nat} (hp : p < 20) (x : Int32) : ∀ (k t f : Nat), t + k = d_np D → k < f →
    f_X7_fits_2 (S0 ++ J) R I f 1 (nI p) x (nI t) = some (yn (allF (fitP D p x) t k)) := by
  have h6 := hV.2.2.2.2.2.2.2.1
  have h9 := hV.1
  have c14 : I 1 14 = nI (d_np D) := hC.2.2.2.2.2.1
  intro k
  induction k with
  | zero =>
    intro t f ht hf
    obtain ⟨f, rfl⟩ := Nat.exists_eq_succ_of_ne_zero (n := f) (by omega)
    rw [f_X7_fits_2]
    simp (disch := omega) only [so_1, ao_2, ao_3, ao_4, ao_5, ao_6, ao_7, so_8, ao_9, ao_10, ao_11, ao_12, ao_13, ao_14, ao_15, ao_16, ly_1_0 hR, ly_1_1 hR, ly_1_2 hR, ly_1_3 hR, ly_1_4 hR, ly_1_7 hR, ly_1_11 hR, ly_1_12 hR, ly_1_13 hR, ly_8_1 hR, ly_8_2 hR, ly_8_3 hR, ly_8_5 hR, ly_8_6 hR, ly_8_7 hR, c14, lit, gp1, rl1, rs1, bd1, lt1, n_add, n_sub, n_dec, n_le, n_lt, n_eq, n_in, nI_clamp, n_mul, m_or, m_and, m_pow, m_bit, m_dif, n_neg, yn_0, yn_1, yn_z, yn_d, one31, Nat.add_sub_cancel, Nat.not_lt_zero, if_true, if_false, ite_true, ite_false]
    rw [if_pos (by omega)]; rfl
  | succ k ih =>
    intro t f ht hf
    obtain ⟨f, rfl⟩ := Nat.exists_eq_succ_of_ne_zero (n := f) (by omega)
    have vt := hV.2.2.2.2.2.2.2.2 t (by omega)
    have c15 : I 15 t = nI (d_pg D t) := (hC.2.2.2.2.2.2.2.2.2.2 t (by omega)).1
    have c16 : I 16 t = nI (d_pc D t) := (hC.2.2.2.2.2.2.2.2.2.2 t (by omega)).2
    rw [f_X7_fits_2]
    simp (disch := omega) only [so_1, ao_2, ao_3, ao_4, ao_5, ao_6, ao_7, so_8, ao_9, ao_10, ao_11, ao_12, ao_13, ao_14, ao_15, ao_16, ly_1_0 hR, ly_1_1 hR, ly_1_2 hR, ly_1_3 hR, ly_1_4 hR, ly_1_7 hR, ly_1_11 hR, ly_1_12 hR, ly_1_13 hR, ly_8_1 hR, ly_8_2 hR, ly_8_3 hR, ly_8_5 hR, ly_8_6 hR, ly_8_7 hR, c14, c15, c16, p_could hR hC hV vt.1 hp, f_X7_fits_37, ih (t + 1) f (show t + 1 + k = d_np D by omega) (show k < f by omega), lit, gp1, rl1, rs1, bd1, lt1, n_add, n_sub, n_dec, n_le, n_lt, n_eq, n_in, nI_clamp, n_mul, m_or, m_and, m_pow, m_bit, m_dif, n_neg, yn_0, yn_1, yn_z, yn_d, one31, Nat.add_sub_cancel, Nat.not_lt_zero, if_true, if_false, ite_true, ite_false]
    rw [if_neg (by omega), allF, fitP]
    by_cases e : nI t = x
    · rw [if_pos e, decide_eq_true e]; rfl
    · rw [if_neg e, decide_eq_false e]
      have h01 : d_pc D t = 0 ∨ d_pc D t = 1 := by omega
      rcases h01 with q | q <;> rw [q] <;> cases couldb D (d_pg D t) p <;> rfl
theorem p_fits (hR : Lay R) (hC : CR0 I 1 D) (hV : VD D) {p : Nat} (hp : p < 20) (x : Int32) : f_X7_fits (S0 ++ J) R I 1 (nI p) x = some (yn (fitb D p x)) := by
  have h6 := hV.2.2.2.2.2.2.2.1
  exact p_fits2 hR hC hV hp x (d_np D) 0 512 (by omega) (by omega)
theorem p_places4 (hR : Lay R) (hC : CR0 I 1 D) (hV : VD D) (x : Int32) : ∀ (k t f : Nat), t + k = d_n D + 1 → k < f →
    f_X7_placesBut_4 (S0 ++ J) R I f 1 x (nI (mk (fun p => fitb D p x) t)) (nI t) = some (nI (mk (fun p => fitb D p x) (d_n D + 1))) := by
  have h9 := hV.1
  have c5 : I 1 5 = nI (d_n D) := hC.1
  intro k
  induction k with
  | zero =>
    intro t f ht hf
    obtain ⟨f, rfl⟩ := Nat.exists_eq_succ_of_ne_zero (n := f) (by omega)
    rw [f_X7_placesBut_4]
    simp (disch := omega) only [so_1, ao_2, ao_3, ao_4, ao_5, ao_6, ao_7, so_8, ao_9, ao_10, ao_11, ao_12, ao_13, ao_14, ao_15, ao_16, ly_1_0 hR, ly_1_1 hR, ly_1_2 hR, ly_1_3 hR, ly_1_4 hR, ly_1_7 hR, ly_1_11 hR, ly_1_12 hR, ly_1_13 hR, ly_8_1 hR, ly_8_2 hR, ly_8_3 hR, ly_8_5 hR, ly_8_6 hR, ly_8_7 hR, c5, lit, gp1, rl1, rs1, bd1, lt1, n_add, n_sub, n_dec, n_le, n_lt, n_eq, n_in, nI_clamp, n_mul, m_or, m_and, m_pow, m_bit, m_dif, n_neg, yn_0, yn_1, yn_z, yn_d, one31, Nat.add_sub_cancel, Nat.not_lt_zero, if_true, if_false, ite_true, ite_false]
    rw [if_pos (by omega), show t = d_n D + 1 by omega]
  | succ k ih =>
    intro t f ht hf
    obtain ⟨f, rfl⟩ := Nat.exists_eq_succ_of_ne_zero (n := f) (by omega)
    have hx := ih (t + 1) f (by omega) (by omega)
    rw [mk] at hx
    rw [f_X7_placesBut_4]
    simp (disch := omega) only [so_1, ao_2, ao_3, ao_4, ao_5, ao_6, ao_7, so_8, ao_9, ao_10, ao_11, ao_12, ao_13, ao_14, ao_15, ao_16, ly_1_0 hR, ly_1_1 hR, ly_1_2 hR, ly_1_3 hR, ly_1_4 hR, ly_1_7 hR, ly_1_11 hR, ly_1_12 hR, ly_1_13 hR, ly_8_1 hR, ly_8_2 hR, ly_8_3 hR, ly_8_5 hR, ly_8_6 hR, ly_8_7 hR, c5, p_fits hR hC hV (show t < 20 by omega) x, f_X7_placesBut_27, lit, gp1, rl1, rs1, bd1, lt1, n_add, n_sub, n_dec, n_le, n_lt, n_eq, n_in, nI_clamp, n_mul, m_or, m_and, m_pow, m_bit, m_dif, n_neg, yn_0, yn_1, yn_z, yn_d, one31, Nat.add_sub_cancel, Nat.not_lt_zero, if_true, if_false, ite_true, ite_false]
    rw [if_neg (by omega)]
    by_cases e : fitb D t x = true
    · rw [if_neg (by rw [e]; decide)]
      rw [if_pos e] at hx
      exact hx
    · rw [if_pos (by simpa using e)]
      rw [if_neg e, Nat.or_zero] at hx
      exact hx
theorem p_places (hR : Lay R) (hC : CR0 I 1 D) (hV : VD D) (x : Int32) : f_X7_placesBut (S0 ++ J) R I 1 x = some (nI (mk (fun p => fitb D p x) (d_n D + 1))) := by
  have h9 := hV.1
  exact p_places4 hR hC hV x (d_n D + 1) 0 512 (by omega) (by omega)
end PLACES
