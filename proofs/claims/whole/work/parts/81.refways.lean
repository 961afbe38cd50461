/-! THE REFERENCE'S RECURSIONS: ways, longest, cost, goers, wins -/
theorem cn_mk (P : Nat → Bool) (n m : Nat) (hP : ∀ i, P i = decide (i < n)) : ∀ k, k ≤ m → cn (mk P m) k = min k n := by
  intro k hk
  induction k with
  | zero => simp [cn]
  | succ k ih =>
    rw [cn, ih (by omega), mk_bit, decide_eq_true (by omega), Bool.true_and, hP]
    by_cases h : k < n
    · rw [decide_eq_true h, if_pos rfl]; omega
    · rw [decide_eq_false h]; simp; omega
theorem cnt_insm : ∀ (o : Nat) (D : Dt), VD D → d_o D = o → cnt (insm D) + o = d_n D := by
  intro o
  induction o with
  | zero =>
    intro D hV h0
    have h9 := hV.1
    have h : ∀ i, isin D i = decide (i < d_n D) := fun i => by rw [isin, h0]; simp
    have b9 : (insm D).testBit 9 = false := by rw [insm_bit]; rfl
    show cn (insm D) 9 + (if (insm D).testBit 9 then 1 else 0) + 0 = d_n D
    rw [b9, insm, cn_mk (isin D) (d_n D) 9 h 9 (Nat.le_refl _)]
    simp; omega
  | succ o ih =>
    intro D hV h0
    have h9 := hV.1
    have ne : d_o D ≠ 0 := by omega
    have hb := ih (Dback D) (VD_back hV) (by show d_o D - 1 = o; omega)
    have hl := lst_pos hV ne
    have hi := insm_back hV ne
    have hg : (insm (Dback D)).testBit (d_ln D (d_o D - 1)) = true := by rw [hi, bit_or]; simp
    have hd := cnt_diff hg (by omega)
    have hm : mdiff (insm (Dback D)) (2 ^ d_ln D (d_o D - 1)) = insm D := by
      refine Nat.eq_of_testBit_eq fun i => ?_
      rw [mdiff_bit, hi, bit_or, Nat.testBit_two_pow]
      by_cases e : d_ln D (d_o D - 1) = i
      · have : (insm D).testBit i = false := by
          rw [insm_bit, Bool.and_eq_false_iff]
          refine Or.inr ?_
          cases q : isin D i with
          | false => rfl
          | true => exact absurd e ((isin_iff.mp q).2 _ (by omega))
        simp [e, this]
      · by_cases h10 : i < 10
        · simp [e, h10]
        · simp [e, bit_big (insm_lt D) (show 10 ≤ i by omega)]
    rw [hm] at hd
    have hn : d_n (Dback D) = d_n D := rfl
    omega
theorem lst_out (D : Dt) (g : Nat) : lst (Dout D g) = g + 1 := by
  show (if d_o D + 1 = 0 then 0 else up1 (d_ln D) (d_o D) g (d_o D + 1 - 1) + 1) = g + 1
  rw [if_neg (by omega), u1_eq, if_pos (by omega)]
theorem fre_in {D : Dt} {g : Nat} (h : (fre D (insm D) (lst D)).testBit g = true) : isin D g = true := by
  have := (fre_bit h).2
  rw [insm_bit, Bool.and_eq_true] at this
  exact this.2
section REFWAYS
variable {J : Sh} {R : Rw}
theorem m_inMany (hR : Lay R) {I : Iw} {D : Dt} (hM : MR I 66 D) (hV : VD D) : f_X12_inMany (S0 ++ J) R I 65 = some (nI (cnt (insm D))) := by
  have h9 := hV.1
  have c := cnt_insm (d_o D) D hV rfl
  have c3 : I 66 3 = nI (d_n D) := hM.2.2.2.1
  have c5 : I 66 5 = nI (d_o D) := hM.2.2.2.2.2.1
  simp (disch := omega) only [f_X12_inMany, so_65, ao_66, ly_65_0 hR, ly_65_1 hR, ly_65_2 hR, ly_65_4 hR, ly_65_11 hR, ly_65_13 hR, ly_65_14 hR, ly_65_15 hR, ly_65_16 hR, ly_65_17 hR, ly_65_18 hR, ly_65_19 hR, ly_65_20 hR, ly_65_22 hR, ly_65_24 hR, ly_65_25 hR, ly_65_26 hR, ly_65_27 hR, ly_65_28 hR, ly_65_29 hR, ly_65_30 hR, c3, c5, lit, gp1, rl1, rs1, bd1, lt1, n_add, n_sub, n_dec, n_le, n_lt, n_eq, n_in, nI_clamp, n_mul, m_or, m_and, m_pow, m_bit, m_dif, n_neg, yn_0, yn_1, yn_z, yn_d, one31, Nat.add_sub_cancel, Nat.not_lt_zero, if_true, if_false, ite_true, ite_false]
  rw [← c, Nat.add_sub_cancel]
def WaysOK (J : Sh) (R : Rw) (k n : Nat) : Prop := ∀ (D : Dt) (I : Iw), cnt (insm D) = k → MR I 66 D → VD D → ∃ I', f_X12_waysOn n (S0 ++ J) R I 65 = some (I', nI (oW (fre D) k (insm D) (lst D))) ∧ ∀ a j, a ≠ 77 → I' a j = I a j
theorem m_ways13 (hR : Lay R) {k n : Nat} (hv : WaysOK J R k n) {D : Dt} (hk : cnt (insm D) = k + 1) (hV : VD D) : ∀ (r t f : Nat) (I : Iw), MR I 66 D → t + r = d_n D → r < f →
    ∃ I', f_X12_waysOn_13 (f_X12_waysOn n) (S0 ++ J) R f I 65 (nI (sm (fW D k (insm D) (lst D)) t)) (nI t) = some (I', nI (sm (fW D k (insm D) (lst D)) (d_n D))) ∧ ∀ a j, a ≠ 77 → I' a j = I a j := by
  have h9 := hV.1
  intro r
  induction r with
  | zero =>
    intro t f I hM ht hf
    have c3 : I 66 3 = nI (d_n D) := hM.2.2.2.1
    obtain ⟨f, rfl⟩ := Nat.exists_eq_succ_of_ne_zero (n := f) (by omega)
    refine ⟨I, ?_, fun _ _ _ => rfl⟩
    rw [f_X12_waysOn_13]
    simp (disch := omega) only [so_65, ao_66, ly_65_0 hR, ly_65_1 hR, ly_65_2 hR, ly_65_4 hR, ly_65_11 hR, ly_65_13 hR, ly_65_14 hR, ly_65_15 hR, ly_65_16 hR, ly_65_17 hR, ly_65_18 hR, ly_65_19 hR, ly_65_20 hR, ly_65_22 hR, ly_65_24 hR, ly_65_25 hR, ly_65_26 hR, ly_65_27 hR, ly_65_28 hR, ly_65_29 hR, ly_65_30 hR, c3, lit, gp1, rl1, rs1, bd1, lt1, n_add, n_sub, n_dec, n_le, n_lt, n_eq, n_in, nI_clamp, n_mul, m_or, m_and, m_pow, m_bit, m_dif, n_neg, yn_0, yn_1, yn_z, yn_d, one31, Nat.add_sub_cancel, Nat.not_lt_zero, if_true, if_false, ite_true, ite_false]
    rw [if_pos (by omega), show t = d_n D by omega]
  | succ r ih =>
    intro t f I hM ht hf
    have c3 : I 66 3 = nI (d_n D) := hM.2.2.2.1
    obtain ⟨f, rfl⟩ := Nat.exists_eq_succ_of_ne_zero (n := f) (by omega)
    have hb : mayb D (insm D) (lst D) t = (fre D (insm D) (lst D)).testBit t := by rw [fre, mk_bit, decide_eq_true (by omega), Bool.true_and]
    rw [f_X12_waysOn_13]
    simp (disch := omega) only [so_65, ao_66, ly_65_0 hR, ly_65_1 hR, ly_65_2 hR, ly_65_4 hR, ly_65_11 hR, ly_65_13 hR, ly_65_14 hR, ly_65_15 hR, ly_65_16 hR, ly_65_17 hR, ly_65_18 hR, ly_65_19 hR, ly_65_20 hR, ly_65_22 hR, ly_65_24 hR, ly_65_25 hR, ly_65_26 hR, ly_65_27 hR, ly_65_28 hR, ly_65_29 hR, ly_65_30 hR, c3, m_mayGo hR hM hV (show t < d_n D by omega), f_X12_waysOn_48, hb, lit, gp1, rl1, rs1, bd1, lt1, n_add, n_sub, n_dec, n_le, n_lt, n_eq, n_in, nI_clamp, n_mul, m_or, m_and, m_pow, m_bit, m_dif, n_neg, yn_0, yn_1, yn_z, yn_d, one31, Nat.add_sub_cancel, Nat.not_lt_zero, if_true, if_false, ite_true, ite_false]
    rw [if_neg (by omega)]
    cases hbt : (fre D (insm D) (lst D)).testBit t with
    | false =>
      have := ih (t + 1) f I hM (by omega) (by omega)
      rw [sm, fW, hbt, if_neg (by decide), Nat.add_zero] at this
      rw [if_pos rfl]
      exact this
    | true =>
      have hi := fre_in hbt
      have hV2 := VD_out hV hi
      obtain ⟨I1, o1, o2, o3, o4⟩ := m_outback (J := J) hR hM hV hi
      have hc : cnt (insm (Dout D t)) = k := by
        rw [insm_out (by omega)]
        have := cnt_diff (fre_bit hbt).2 (by omega)
        omega
      obtain ⟨I2, w1, w2⟩ := hv (Dout D t) I1 hc o2 hV2
      obtain ⟨I3, b1, b2⟩ := o4 I2 w2
      obtain ⟨I', q1, q2⟩ := ih (t + 1) f I3 (MR_fr (fun j => b2 66 j (by decide)) hM) (by omega) (by omega)
      rw [sm, fW, hbt, if_pos rfl] at q1
      rw [lst_out, insm_out (by omega)] at w1
      have hF : fre (Dout D t) = fre D := rfl
      rw [hF] at w1
      refine ⟨I', ?_, fun a j h => by rw [q2 a j h, b2 a j h]⟩
      rw [if_neg (by decide), o1]
      simp only [bd1, w1, b1, n_add]
      exact q1
theorem sm_ext {f : Nat → Nat} {n : Nat} (h : ∀ i, n ≤ i → f i = 0) : ∀ m, n ≤ m → sm f m = sm f n := by
  intro m hm
  induction m with
  | zero => rw [Nat.le_zero.mp hm]
  | succ m ih =>
    by_cases e : n = m + 1
    · rw [e]
    · rw [sm, ih (by omega), h m (by omega), Nat.add_zero]
theorem fre_hi {D : Dt} {s l i : Nat} (h : d_n D ≤ i) : (fre D s l).testBit i = false := by
  cases q : (fre D s l).testBit i with
  | false => rfl
  | true => have := (fre_bit q).1; omega
theorem insm_ne {D : Dt} {k : Nat} (h : cnt (insm D) = k + 1) : insm D ≠ 0 := fun q => by
  rw [q, (cnt_0 (by decide)).mpr rfl] at h; omega
theorem m_ways (hR : Lay R) : ∀ k n, k < n → WaysOK J R k n := by
  intro k
  induction k with
  | zero =>
    intro n hn D I hk hM hV
    obtain ⟨n, rfl⟩ := Nat.exists_eq_succ_of_ne_zero (n := n) (by omega)
    have h0 := (cnt_0 (insm_lt D)).mp hk
    refine ⟨I, ?_, fun _ _ _ => rfl⟩
    rw [f_X12_waysOn, f_X12_waysOn_b]
    simp (disch := omega) only [so_65, ao_66, ly_65_0 hR, ly_65_1 hR, ly_65_2 hR, ly_65_4 hR, ly_65_11 hR, ly_65_13 hR, ly_65_14 hR, ly_65_15 hR, ly_65_16 hR, ly_65_17 hR, ly_65_18 hR, ly_65_19 hR, ly_65_20 hR, ly_65_22 hR, ly_65_24 hR, ly_65_25 hR, ly_65_26 hR, ly_65_27 hR, ly_65_28 hR, ly_65_29 hR, ly_65_30 hR, m_inMany hR hM hV, hk, lit, gp1, rl1, rs1, bd1, lt1, n_add, n_sub, n_dec, n_le, n_lt, n_eq, n_in, nI_clamp, n_mul, m_or, m_and, m_pow, m_bit, m_dif, n_neg, yn_0, yn_1, yn_z, yn_d, one31, Nat.add_sub_cancel, Nat.not_lt_zero, if_true, if_false, ite_true, ite_false]
    rw [oW, if_pos h0]
  | succ k ih =>
    intro n hn D I hk hM hV
    obtain ⟨n, rfl⟩ := Nat.exists_eq_succ_of_ne_zero (n := n) (by omega)
    have h9 := hV.1
    have hc := cnt_9 (insm_512 D)
    obtain ⟨I', e1, e2⟩ := m_ways13 (J := J) hR (ih n (by omega)) hk hV (d_n D) 0 512 I hM (by omega) (by omega)
    refine ⟨I', ?_, e2⟩
    rw [f_X12_waysOn, f_X12_waysOn_b]
    simp (disch := omega) only [so_65, ao_66, ly_65_0 hR, ly_65_1 hR, ly_65_2 hR, ly_65_4 hR, ly_65_11 hR, ly_65_13 hR, ly_65_14 hR, ly_65_15 hR, ly_65_16 hR, ly_65_17 hR, ly_65_18 hR, ly_65_19 hR, ly_65_20 hR, ly_65_22 hR, ly_65_24 hR, ly_65_25 hR, ly_65_26 hR, ly_65_27 hR, ly_65_28 hR, ly_65_29 hR, ly_65_30 hR, m_inMany hR hM hV, hk, lit, gp1, rl1, rs1, bd1, lt1, n_add, n_sub, n_dec, n_le, n_lt, n_eq, n_in, nI_clamp, n_mul, m_or, m_and, m_pow, m_bit, m_dif, n_neg, yn_0, yn_1, yn_z, yn_d, one31, Nat.add_sub_cancel, Nat.not_lt_zero, if_true, if_false, ite_true, ite_false]
    rw [if_neg (by omega), oW, if_neg (insm_ne hk)]
    refine e1.trans ?_
    rw [← sm_ext (f := fW D k (insm D) (lst D)) (n := d_n D) (fun i h => by rw [fW, fre_hi h]; rfl) 9 (by omega)]
    rfl
end REFWAYS
