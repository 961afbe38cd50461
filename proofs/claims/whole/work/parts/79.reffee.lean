/-! THE REFERENCE: worth by the rules, and the fee -/
theorem m_under {S : Sh} {R : Rw} {I : Iw} {k a : Nat} (h1 : 1 ≤ k) (h5 : k ≤ 5) (ha : a ≤ 5) : f_X12_isUnder S R I (nI k) (nI a) = some (yn (und k a)) := by
  have hk : k = 1 ∨ k = 2 ∨ k = 3 ∨ k = 4 ∨ k = 5 := by omega
  have ha2 : a = 0 ∨ a = 1 ∨ a = 2 ∨ a = 3 ∨ a = 4 ∨ a = 5 := by omega
  rcases hk with e | e | e | e | e <;> subst e <;> rcases ha2 with e | e | e | e | e | e <;> subst e <;> rfl
def woR (D : Dt) (g : Nat) : Option Nat → Nat
  | none => d_wo D g
  | some r => if d_rt D r = 2 then 0 else if d_rt D r = 0 then d_wo D g + d_rb D r else d_wo D g - d_rb D r
theorem wof_R (D : Dt) (g : Nat) : wof D g = woR D g (ruleFor D g) := by
  unfold wof
  cases ruleFor D g <;> rfl
section REFFEE
variable {J : Sh} {R : Rw} {D : Dt}
theorem m_worth9 (hR : Lay R) (hV : VD D) {g : Nat} (hg : g < d_n D) : ∀ (k t f : Nat) (I : Iw), MR I 66 D → t + k = d_nr D → k < f →
    ∃ I', f_X12_worthOf_9 (S0 ++ J) R f I 65 (nI g) (nI (d_wo D g)) (nI t) = some (I', nI (woR D g (fndR (rfP D g) t k))) ∧ ∀ a j, a ≠ 77 → I' a j = I a j := by
  have h9 := hV.1
  have v7 := hV.2.2.2.2.2.2.1
  have v := hV.2.2.2.2.1 g hg
  intro k
  induction k with
  | zero =>
    intro t f I hM ht hf
    have c4 : I 66 4 = nI (d_nr D) := hM.2.2.2.2.1
    obtain ⟨f, rfl⟩ := Nat.exists_eq_succ_of_ne_zero (n := f) (by omega)
    refine ⟨I, ?_, fun _ _ _ => rfl⟩
    rw [f_X12_worthOf_9]
    simp (disch := omega) only [so_65, ao_66, ly_65_0 hR, ly_65_1 hR, ly_65_2 hR, ly_65_4 hR, ly_65_11 hR, ly_65_13 hR, ly_65_14 hR, ly_65_15 hR, ly_65_16 hR, ly_65_17 hR, ly_65_18 hR, ly_65_19 hR, ly_65_20 hR, ly_65_22 hR, ly_65_24 hR, ly_65_25 hR, ly_65_26 hR, ly_65_27 hR, ly_65_28 hR, ly_65_29 hR, ly_65_30 hR, c4, lit, gp1, rl1, rs1, bd1, lt1, n_add, n_sub, n_dec, n_le, n_lt, n_eq, n_in, nI_clamp, n_mul, m_or, m_and, m_pow, m_bit, m_dif, n_neg, yn_0, yn_1, yn_z, yn_d, one31, Nat.add_sub_cancel, Nat.not_lt_zero, if_true, if_false, ite_true, ite_false]
    rw [if_pos (by omega)]; rfl
  | succ k ih =>
    intro t f I hM ht hf
    have c4 : I 66 4 = nI (d_nr D) := hM.2.2.2.2.1
    have hr : t < d_nr D := by omega
    have vt := v7.2.2.2 t hr
    have r1 := hM.2.2.2.2.2.2.2.2.2.2.2.1 t hr
    have c73 : I 66 (73 + 3 * t + 0) = nI (d_rk D t) := r1.1
    have c97 : I 66 (97 + t) = nI (tkA D t) := hM.2.2.2.2.2.2.2.2.2.2.2.2 t (by omega)
    have c98 : I 66 (97 + t + 1) = nI (tkA D (t + 1)) := hM.2.2.2.2.2.2.2.2.2.2.2.2 (t + 1) (by omega)
    obtain ⟨I1, e1, e2⟩ := m_holds (J := J) hR hM hV hg hr
    have d74 : I1 66 (73 + 3 * t + 1) = nI (d_rt D t) := by rw [e2 66 _ (by decide), ← r1.2.1, show 73 + 3 * t + 1 = 74 + 3 * t by omega]
    have d75 : I1 66 (73 + 3 * t + 2) = I 66 (75 + 3 * t) := by rw [e2 66 _ (by decide), show 73 + 3 * t + 2 = 75 + 3 * t by omega]
    have hM1 : MR I1 66 D := MR_fr (fun j => e2 66 j (by decide)) hM
    obtain ⟨f, rfl⟩ := Nat.exists_eq_succ_of_ne_zero (n := f) (by omega)
    have nx1 := ih (t + 1) f I hM (by omega) (by omega)
    have nx2 := ih (t + 1) f I1 hM1 (by omega) (by omega)
    rw [f_X12_worthOf_9]
    simp (disch := omega) only [so_65, ao_66, ly_65_0 hR, ly_65_1 hR, ly_65_2 hR, ly_65_4 hR, ly_65_11 hR, ly_65_13 hR, ly_65_14 hR, ly_65_15 hR, ly_65_16 hR, ly_65_17 hR, ly_65_18 hR, ly_65_19 hR, ly_65_20 hR, ly_65_22 hR, ly_65_24 hR, ly_65_25 hR, ly_65_26 hR, ly_65_27 hR, ly_65_28 hR, ly_65_29 hR, ly_65_30 hR, c4, c73, c97, c98, m_kd hR hM hV hg, m_under v.1 v.2.1 vt.1, e1, d74, d75, f_X12_worthOf_132, lit, gp1, rl1, rs1, bd1, lt1, n_add, n_sub, n_dec, n_le, n_lt, n_eq, n_in, nI_clamp, n_mul, m_or, m_and, m_pow, m_bit, m_dif, n_neg, yn_0, yn_1, yn_z, yn_d, one31, Nat.add_sub_cancel, Nat.not_lt_zero, if_true, if_false, ite_true, ite_false]
    rw [if_neg (by omega), fndR, rfP]
    cases hu : und (d_kd D g) (d_rk D t)
    · obtain ⟨I', q1, q2⟩ := nx1
      exact ⟨I', q1, q2⟩
    · cases hc : cond D g (d_rc D t)
      · obtain ⟨I', q1, q2⟩ := nx2
        exact ⟨I', q1, fun a j h => by rw [q2 a j h, e2 a j h]⟩
      · refine ⟨I1, ?_, e2⟩
        show (if d_rt D t = 2 then some (I1, nI 0) else if d_rt D t = 0 then some (I1, nI (d_wo D g) + I 66 (75 + 3 * t)) else some (I1, jmax (nI 0) (nI (d_wo D g) - I 66 (75 + 3 * t)))) = some (I1, nI (if d_rt D t = 2 then 0 else if d_rt D t = 0 then d_wo D g + d_rb D t else d_wo D g - d_rb D t))
        by_cases e : d_rt D t = 2
        · rw [if_pos e, if_pos e]
        · rw [if_neg e, if_neg e, r1.2.2.1 e]
          by_cases e0 : d_rt D t = 0
          · rw [if_pos e0, if_pos e0, n_add]
          · rw [if_neg e0, if_neg e0, j_sub (by omega) (by omega)]
theorem m_worth (hR : Lay R) {I : Iw} (hM : MR I 66 D) (hV : VD D) {g : Nat} (hg : g < d_n D) : ∃ I', f_X12_worthOf (S0 ++ J) R I 65 (nI g) = some (I', nI (wof D g)) ∧ ∀ a j, a ≠ 77 → I' a j = I a j := by
  have v7 := hV.2.2.2.2.2.2.1
  obtain ⟨I', e1, e2⟩ := m_worth9 (J := J) hR hV hg (d_nr D) 0 512 I hM (by omega) (by omega)
  refine ⟨I', ?_, e2⟩
  rw [f_X12_worthOf, wof_R, ruleFor_f]
  simp (disch := omega) only [so_65, ao_66, ly_65_0 hR, ly_65_1 hR, ly_65_2 hR, ly_65_4 hR, ly_65_11 hR, ly_65_13 hR, ly_65_14 hR, ly_65_15 hR, ly_65_16 hR, ly_65_17 hR, ly_65_18 hR, ly_65_19 hR, ly_65_20 hR, ly_65_22 hR, ly_65_24 hR, ly_65_25 hR, ly_65_26 hR, ly_65_27 hR, ly_65_28 hR, ly_65_29 hR, ly_65_30 hR, m_wo hR hM hV hg, lit, gp1, rl1, rs1, bd1, lt1, n_add, n_sub, n_dec, n_le, n_lt, n_eq, n_in, nI_clamp, n_mul, m_or, m_and, m_pow, m_bit, m_dif, n_neg, yn_0, yn_1, yn_z, yn_d, one31, Nat.add_sub_cancel, Nat.not_lt_zero, if_true, if_false, ite_true, ite_false]
  exact e1
theorem m_fee (hR : Lay R) {I : Iw} (hM : MR I 66 D) (hV : VD D) {g : Nat} (hg : g < d_n D) : ∃ I', f_X12_fee (S0 ++ J) R I 65 (nI g) = some (I', nI (fee D g)) ∧ ∀ a j, a ≠ 77 → I' a j = I a j := by
  have v := hV.2.2.2.2.1 g hg
  have v6 := hV.2.2.2.2.2.1
  have hw := (wof_ch hV hg).2
  obtain ⟨I', e1, e2⟩ := m_worth (J := J) hR hM hV hg
  have hM1 : MR I' 66 D := MR_fr (fun j => e2 66 j (by decide)) hM
  have c1 : I' 66 1 = nI (d_da D) := hM1.2.1
  refine ⟨I', ?_, e2⟩
  rw [f_X12_fee]
  simp (disch := omega) only [so_65, ao_66, ly_65_0 hR, ly_65_1 hR, ly_65_2 hR, ly_65_4 hR, ly_65_11 hR, ly_65_13 hR, ly_65_14 hR, ly_65_15 hR, ly_65_16 hR, ly_65_17 hR, ly_65_18 hR, ly_65_19 hR, ly_65_20 hR, ly_65_22 hR, ly_65_24 hR, ly_65_25 hR, ly_65_26 hR, ly_65_27 hR, ly_65_28 hR, ly_65_29 hR, ly_65_30 hR, e1, m_kd hR hM1 hV hg, m_cl hR hM1 hV hg, c1, lit, gp1, rl1, rs1, bd1, lt1, n_add, n_sub, n_dec, n_le, n_lt, n_eq, n_in, nI_clamp, n_mul, m_or, m_and, m_pow, m_bit, m_dif, n_neg, yn_0, yn_1, yn_z, yn_d, one31, Nat.add_sub_cancel, Nat.not_lt_zero, if_true, if_false, ite_true, ite_false]
  unfold fee
  by_cases k1 : d_kd D g = 1
  · rw [if_pos k1, if_pos k1, n_div (by omega)]
  · rw [if_neg k1, if_neg k1]
    by_cases k2 : d_kd D g = 2
    · rw [if_pos k2, if_pos k2]
    · rw [if_neg k2, if_neg k2]
      by_cases k3 : d_kd D g = 3
      · rw [if_pos k3, if_pos k3, j_sub (by omega) (by omega)]
      · rw [if_neg k3, if_neg k3]
        by_cases k4 : d_kd D g = 4
        · rw [if_pos k4, if_pos k4]
        · rw [if_neg k4, if_neg k4]
end REFFEE
