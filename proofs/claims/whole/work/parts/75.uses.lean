/-! THE CLASS' ORDERS: a study, and what is asked of it -/
theorem insm_512 (D : Dt) : insm D < 512 := by
  show insm D < 2 ^ 9
  refine Nat.lt_pow_two_of_testBit _ fun i hi => ?_
  rw [insm_bit, decide_eq_false (by omega)]; rfl
def Wy (D : Dt) (s l : Nat) : Nat := oW (fre D) (cnt s) s l
def My (D : Dt) (s l : Nat) : Nat := oM (fre D) (cnt s) s l
def Cy (D : Dt) (s l : Nat) : Option Nat := oC (fre D) (feD D) (afD D) (cnt s) s l
def Gy (D : Dt) (s l : Nat) : Nat := oG (fre D) (cnt s) s l
def Xy (D : Dt) (s l : Nat) : Bool := oX (fre D) (cnt s) s l
/-- what a study leaves -/
def SD (I : Iw) (D : Dt) (T : Nat) : Prop := OC I D T ∧ (∃ go, InvO I D T go (afD D) ∧ ∀ i, go.testBit i = true ↔ (Gy D (insm D) (lst D)).testBit i = true) ∧ I 45 (ix (insm D) (lst D)) = nI T
/-- how many studies were, at most T -/
def ST (I : Iw) (T : Nat) : Prop := ∃ T0, T0 ≤ T ∧ I 44 2 = nI T0 ∧ ∀ i, i < 5120 → ∃ v, v ≤ T0 ∧ I 45 i = nI v
def frT (I I' : Iw) : Prop := ∀ a j, (a < 44 ∨ 50 < a) → I' a j = I a j
section USES
variable {J : Sh} {R : Rw} {D : Dt} {T : Nat} {I : Iw}
theorem p_fee9 (hR : Lay R) (hC : CR0 I 1 D) (hV : VD D) {g : Nat} (hg : g < 9) : f_X7_fee (S0 ++ J) R I 1 (nI g) = some (nI (feD D g)) := by
  unfold feD
  by_cases h : g < d_n D
  · rw [if_pos h]; exact p_fee hR hC hV h
  · rw [if_neg h]
    have h9 := hV.1
    have hh : f_X7_has (S0 ++ J) R I 1 (nI g) = some (yn false) := by
      rw [p_has hC, hs_n hV (by omega), decide_eq_false h]; rfl
    simp (disch := omega) only [f_X7_fee, so_1, hh, lit, gp1, rl1, rs1, bd1, lt1, n_add, n_sub, n_dec, n_le, n_lt, n_eq, n_in, nI_clamp, n_mul, m_or, m_and, m_pow, m_bit, m_dif, n_neg, yn_0, yn_1, yn_z, yn_d, one31, Nat.add_sub_cancel, Nat.not_lt_zero, if_true, if_false, ite_true, ite_false]
theorem p_fees (hR : Lay R) (hV : VD D) : ∀ (r t f : Nat) (I : Iw), t + r = 9 → r < f → CR I 1 D → (∀ g, g < t → I 50 g = nI (feD D g)) →
    ∃ I5, f_X2_study_31 (S0 ++ J) R f I 44 (nI t) = f_X2_study_31 (S0 ++ J) R 1 I5 44 (nI 9) ∧ (∀ a j, a ≠ 50 → I5 a j = I a j) ∧ ∀ g, g < 9 → I5 50 g = nI (feD D g) := by
  intro r
  induction r with
  | zero =>
    intro t f I ht hf hC hI
    have : t = 9 := by omega
    subst this
    obtain ⟨f, rfl⟩ := Nat.exists_eq_succ_of_ne_zero (n := f) (by omega)
    exact ⟨I, by rw [f_X2_study_31, f_X2_study_31]; rw [if_pos (by decide), if_pos (by decide)], fun _ _ _ => rfl, hI⟩
  | succ r ih =>
    intro t f I ht hf hC hI
    obtain ⟨f, rfl⟩ := Nat.exists_eq_succ_of_ne_zero (n := f) (by omega)
    rw [f_X2_study_31]
    simp (disch := omega) only [so_44, ao_45, ao_46, ao_47, ao_48, ao_49, ao_50, ao_51, ly_44_0 hR, ly_44_1 hR, ly_44_3 hR, ly_44_4 hR, ly_44_5 hR, ly_44_6 hR, ly_44_7 hR, ly_44_10 hR, so_1, ao_2, ao_3, ao_4, ao_5, ao_6, ao_7, so_8, ao_9, ao_10, ao_11, ao_12, ao_13, ao_14, ao_15, ao_16, ly_1_0 hR, ly_1_1 hR, ly_1_2 hR, ly_1_3 hR, ly_1_4 hR, ly_1_7 hR, ly_1_11 hR, ly_1_12 hR, ly_1_13 hR, ly_8_1 hR, ly_8_2 hR, ly_8_3 hR, ly_8_5 hR, ly_8_6 hR, ly_8_7 hR, p_fee9 hR hC.1 hV (show t < 9 by omega), lit, gp1, rl1, rs1, bd1, lt1, n_add, n_sub, n_dec, n_le, n_lt, n_eq, n_in, nI_clamp, n_mul, m_or, m_and, m_pow, m_bit, m_dif, n_neg, yn_0, yn_1, yn_z, yn_d, one31, Nat.add_sub_cancel, Nat.not_lt_zero, if_true, if_false, ite_true, ite_false]
    rw [if_neg (by omega)]
    obtain ⟨I5, e1, e2, e3⟩ := ih (t + 1) f (up2 I 50 t (nI (feD D t))) (by omega) (by omega) (CR_fr (fun a j h1 h2 => by rw [u_eq, if_neg (by omega)]) hC) (fun g hg => by
      rw [u_eq]
      by_cases q : g = t
      · rw [if_pos (by omega), q]
      · rw [if_neg (by omega)]; exact hI g (by omega))
    exact ⟨I5, e1, fun a j h => by rw [e2 a j h, u_eq, if_neg (by omega)], e3⟩
theorem ST_of (h : OC I D T) : ST I T := ⟨T, Nat.le_refl _, h.2.1, h.2.2.2.2⟩
theorem p_study (hR : Lay R) (hC : CR I 1 D) (hV : VD D) (hT : ST I T) (hT2 : T < 2 ^ 30) : ∃ I' T', f_X2_study (S0 ++ J) R I 44 = some (I', nI (Wy D (insm D) (lst D))) ∧ T' ≤ T + 1 ∧ SD I' D T' ∧ frT I I' := by
  obtain ⟨T0, h0, h1, h2⟩ := hT
  have hl := lst_le hV
  have h9 := hV.1
  have c6 : I 1 6 = nI (insm D) := hC.1.2.1
  have hi := insm_512 D
  have fr1 : ∀ a j, a ≠ 44 → up2 (up2 (up2 I 44 2 (nI (T0 + 1))) 44 9 (nI 0)) 44 8 (nI (cnt (insm D))) a j = I a j := fun a j h => by rw [u_eq, if_neg (by omega), u_eq, if_neg (by omega), u_eq, if_neg (by omega)]
  obtain ⟨I5, e1, e2, e3⟩ := p_fees (J := J) hR hV 9 0 512 (up2 (up2 (up2 I 44 2 (nI (T0 + 1))) 44 9 (nI 0)) 44 8 (nI (cnt (insm D)))) rfl (by decide) (CR_fr (fun a j q1 q2 => fr1 a j (by omega)) hC) (fun g hg => absurd hg (Nat.not_lt_zero g))
  have hC5 : CR I5 1 D := CR_fr (fun a j q1 q2 => by rw [e2 a j (by omega), fr1 a j (by omega)]) hC
  have hO : OC I5 D (T0 + 1) := by
    refine ⟨hC5, by rw [e2 44 2 (by decide)]; rfl, by rw [e2 44 8 (by decide)]; rfl, e3, fun i hi => ?_⟩
    obtain ⟨v, hv, q⟩ := h2 i hi
    exact ⟨v, by omega, by rw [e2 45 i (by decide), fr1 45 i (by decide)]; exact q⟩
  have hI : InvO I5 D (T0 + 1) 0 (afD D) := by
    refine ⟨by rw [e2 44 9 (by decide)]; rfl, by decide, fun s l hs hl _ q => ?_⟩
    have i1 : ix s l < 5120 := by unfold ix; omega
    obtain ⟨v, hv, q2⟩ := h2 (ix s l) i1
    rw [e2 45 _ (by decide), fr1 45 _ (by decide), q2, n_eq (by omega) (by omega)] at q
    omega
  obtain ⟨I', go', v1, v2, v3, v4, v5, v6, v7, v8⟩ := p_visit (J := J) hR hV (afD D) 12 (by have := cnt_9 hi; unfold afD; omega) (insm D) (lst D) 0 I5 0 rfl (by have := cnt_9 hi; unfold afD; omega) hi hl (Nat.le_refl _) hO hI
  refine ⟨I', T0 + 1, ?_, by omega, ⟨v3, ⟨go', v4, fun i => by rw [v6, Nat.zero_testBit]; exact ⟨fun q => q.elim (fun q => by cases q) id, Or.inr⟩⟩, v5⟩, fun a j h => by rw [v2 a j (by omega) (by omega), e2 a j (by omega), fr1 a j (by omega)]⟩
  have w46 := (v4.2.2 (insm D) (lst D) hi (by omega) (Nat.le_refl _) v5).1.1
  have c65 : I5 1 6 = nI (insm D) := hC5.1.2.1
  have c66 : I' 1 6 = nI (insm D) := v3.1.1.2.1
  have L5 := p_last (J := J) hR hC5.1 hV
  have L6 := p_last (J := J) hR v3.1.1 hV
  rw [show (1 : Int32) = nI 1 from rfl] at L5 L6
  have i1 : ix (insm D) (lst D) < 5120 := by unfold ix; omega
  rw [f_X2_study]
  simp (disch := omega) only [so_44, ao_45, ao_46, ao_47, ao_48, ao_49, ao_50, ao_51, ly_44_0 hR, ly_44_1 hR, ly_44_3 hR, ly_44_4 hR, ly_44_5 hR, ly_44_6 hR, ly_44_7 hR, ly_44_10 hR, so_1, ao_2, ao_3, ao_4, ao_5, ao_6, ao_7, so_8, ao_9, ao_10, ao_11, ao_12, ao_13, ao_14, ao_15, ao_16, ly_1_0 hR, ly_1_1 hR, ly_1_2 hR, ly_1_3 hR, ly_1_4 hR, ly_1_7 hR, ly_1_11 hR, ly_1_12 hR, ly_1_13 hR, ly_8_1 hR, ly_8_2 hR, ly_8_3 hR, ly_8_5 hR, ly_8_6 hR, ly_8_7 hR, u_eq, Nat.reduceEqDiff, false_and, and_false, true_and, and_true, and_self, not_false_eq_true, h1, c6, bitc (show insm D < 1024 by omega), lit, gp1, rl1, rs1, bd1, lt1, n_add, n_sub, n_dec, n_le, n_lt, n_eq, n_in, nI_clamp, n_mul, m_or, m_and, m_pow, m_bit, m_dif, n_neg, yn_0, yn_1, yn_z, yn_d, one31, Nat.add_sub_cancel, Nat.not_lt_zero, if_true, if_false, ite_true, ite_false]
  rw [e1, f_X2_study_31]
  simp (disch := omega) only [so_44, ao_45, ao_46, ao_47, ao_48, ao_49, ao_50, ao_51, ly_44_0 hR, ly_44_1 hR, ly_44_3 hR, ly_44_4 hR, ly_44_5 hR, ly_44_6 hR, ly_44_7 hR, ly_44_10 hR, so_1, ao_2, ao_3, ao_4, ao_5, ao_6, ao_7, so_8, ao_9, ao_10, ao_11, ao_12, ao_13, ao_14, ao_15, ao_16, ly_1_0 hR, ly_1_1 hR, ly_1_2 hR, ly_1_3 hR, ly_1_4 hR, ly_1_7 hR, ly_1_11 hR, ly_1_12 hR, ly_1_13 hR, ly_8_1 hR, ly_8_2 hR, ly_8_3 hR, ly_8_5 hR, ly_8_6 hR, ly_8_7 hR, L5, c65, v1, L6, c66, f_X2_waysBehind, x_state hi (show lst D ≤ 9 by omega), w46, Nat.le_refl, lit, gp1, rl1, rs1, bd1, lt1, n_add, n_sub, n_dec, n_le, n_lt, n_eq, n_in, nI_clamp, n_mul, m_or, m_and, m_pow, m_bit, m_dif, n_neg, yn_0, yn_1, yn_z, yn_d, one31, Nat.add_sub_cancel, Nat.not_lt_zero, if_true, if_false, ite_true, ite_false]
  rfl
end USES
