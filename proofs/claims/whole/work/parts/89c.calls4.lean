/-! CALLS: orders -/
theorem mx_at {f : Nat → Nat} : ∀ n, mx f n = 0 ∨ ∃ g, g < n ∧ f g = mx f n
  | 0 => Or.inl rfl
  | n + 1 => by
    rw [mx]
    rcases Nat.le_total (mx f n) (f n) with h | h
    · exact Or.inr ⟨n, by omega, by rw [Nat.max_eq_right h]⟩
    · rw [Nat.max_eq_left h]
      rcases mx_at (f := f) n with e | ⟨g, g1, g2⟩
      · exact Or.inl e
      · exact Or.inr ⟨g, by omega, g2⟩
theorem nxt_pF {D : Dt} {w s l : Nat} : nxtO D w s l = fndR (pF D w s l) 0 9 := rfl
theorem ldb_1 {D : Dt} {s l g : Nat} : ldb D 1 s l g = decide (My D (mdiff s (2 ^ g)) (g + 1) + 1 = My D s l) := by
  unfold ldb
  rw [if_neg (by decide), if_pos rfl]
theorem fst_long {D : Dt} (hV : VD D) : ∀ r s l, s < 512 → cnt s ≤ r → (fstO D 1 r s l).length = My D s l
  | 0, s, l, hs, hc => by
    have : cnt s = 0 := by omega
    unfold My
    rw [this]; rfl
  | r + 1, s, l, hs, hc => by
    have h9 := hV.1
    rw [fstO]
    cases hn : nxtO D 1 s l with
    | none =>
      show 0 = My D s l
      by_cases h0 : cnt s = 0
      · unfold My; rw [h0]; rfl
      · obtain ⟨k, hk⟩ := Nat.exists_eq_succ_of_ne_zero h0
        have hM : My D s l = mx (fM D k s l) 9 := by unfold My; rw [hk, oM]; rfl
        rw [hM]
        rcases mx_at (f := fM D k s l) 9 with e | ⟨g, g1, g2⟩
        · exact e.symm
        · cases hb : (fre D s l).testBit g with
          | false => rw [fM, hb, if_neg (by decide)] at g2; exact g2
          | true =>
            exfalso
            have hcd := cnt_diff (fre_bit hb).2 (by omega)
            have hno := fndR_no (P := pF D 1 s l) (k := 9) (t := 0) hn g (Nat.zero_le _) (by omega)
            rw [fM, hb, if_pos rfl, ← hM] at g2
            rw [pF, hb, Bool.true_and, ldb_1, My, show cnt (mdiff s (2 ^ g)) = k by omega, decide_eq_true g2] at hno
            cases hno
    | some g =>
      have hq := (fndR_lt (P := pF D 1 s l) (k := 9) (t := 0) hn).2
      rw [pF, Bool.and_eq_true, ldb_1, decide_eq_true_eq] at hq
      have hbt := fre_bit hq.1
      have hcd := cnt_diff hbt.2 (by omega)
      show (fstO D 1 r (mdiff s (2 ^ g)) (g + 1)).length + 1 = My D s l
      have hlt : mdiff s (2 ^ g) < 512 := Nat.lt_of_le_of_lt Nat.and_le_left hs
      rw [fst_long hV r _ _ hlt (by omega)]
      exact hq.2
section CALLS4
variable {J : Sh} {R : Rw} {I : Iw} {D : Dt} {T : Nat}
theorem frF_7 {I I' : Iw} (h : fr7 I I') : frF I I' := fun a j h1 _ _ => h a j h1
theorem z_ways (hR : Lay R) (h : Core I D T) (hT2 : T + 16 < 2 ^ 30) : ZZ I T (f_X11_ways (S0 ++ J) R I 0) (fun I1 => f_X12_ways (S0 ++ J) R I1 65) := by
  have ⟨hC, hM, hV, hT⟩ := h
  have hc := cnt_9 (insm_512 D)
  obtain ⟨I1, T1, e1, t1, s1, f1⟩ := p_study (J := J) hR hC hV hT (by omega)
  have hM1 : MR I1 66 D := MR_fr (fun j => f1 66 j (by omega)) hM
  obtain ⟨I2, w1, w2⟩ := m_ways (J := J) hR (cnt (insm D)) 12 (by omega) D I1 rfl hM1 hV
  exact ZZ_O h (r := nI (oW (fre D) (cnt (insm D)) (insm D) (lst D))) (by simp (disch := omega) only [f_X11_ways, so_0, ly_0_0 hR, ly_0_1 hR, ly_0_3 hR, ly_0_4 hR, ly_0_5 hR, ly_0_7 hR, ly_0_8 hR, ly_0_9 hR, ly_0_10 hR, so_44, ly_44_0 hR, ly_44_1 hR, ly_44_3 hR, ly_44_4 hR, ly_44_5 hR, ly_44_6 hR, ly_44_7 hR, ly_44_10 hR, e1, lit, gp1, rl1, rs1, bd1, lt1, n_add, n_sub, n_dec, n_le, n_lt, n_eq, n_in, nI_clamp, n_mul, m_or, m_and, m_pow, m_bit, m_dif, n_neg, yn_0, yn_1, yn_z, yn_d, one31, Nat.add_sub_cancel, Nat.not_lt_zero, if_true, if_false, ite_true, ite_false, Bool.true_eq_false, Bool.false_eq_true, Nat.add_zero, Nat.zero_add]; rfl) (by simp (disch := omega) only [f_X12_ways, so_65, ao_66, ly_65_0 hR, ly_65_1 hR, ly_65_2 hR, ly_65_4 hR, ly_65_11 hR, ly_65_13 hR, ly_65_14 hR, ly_65_15 hR, ly_65_16 hR, ly_65_17 hR, ly_65_18 hR, ly_65_19 hR, ly_65_20 hR, ly_65_22 hR, ly_65_24 hR, ly_65_25 hR, ly_65_26 hR, ly_65_27 hR, ly_65_28 hR, ly_65_29 hR, ly_65_30 hR, w1, lit, gp1, rl1, rs1, bd1, lt1, n_add, n_sub, n_dec, n_le, n_lt, n_eq, n_in, nI_clamp, n_mul, m_or, m_and, m_pow, m_bit, m_dif, n_neg, yn_0, yn_1, yn_z, yn_d, one31, Nat.add_sub_cancel, Nat.not_lt_zero, if_true, if_false, ite_true, ite_false, Bool.true_eq_false, Bool.false_eq_true, Nat.add_zero, Nat.zero_add]) (fun a j q => f1 a j (by omega)) (frF_7 w2) (ST_up (by omega) (ST_of s1.1))
theorem z_first (hR : Lay R) (h : Core I D T) (hT2 : T + 16 < 2 ^ 30) {w : Nat} (hw : w ≤ 2) (x : Int32) : ZZ I T (f_X11_inFirst (S0 ++ J) R I 0 (nI w) x) (fun I1 => f_X12_orderTold (S0 ++ J) R I1 65 (nI w) x) := by
  have ⟨hC, hM, hV, hT⟩ := h
  have hc := cnt_9 (insm_512 D)
  cases b1 : btw x (nI 0) (nI 8) with
  | false => exact ZZ_no h (r := -nI 1) (by simp (disch := omega) only [f_X11_inFirst, x_btw, b1, lit, gp1, rl1, rs1, bd1, lt1, n_add, n_sub, n_dec, n_le, n_lt, n_eq, n_in, nI_clamp, n_mul, m_or, m_and, m_pow, m_bit, m_dif, n_neg, yn_0, yn_1, yn_z, yn_d, one31, Nat.add_sub_cancel, Nat.not_lt_zero, if_true, if_false, ite_true, ite_false, Bool.true_eq_false, Bool.false_eq_true, Nat.add_zero, Nat.zero_add]) (by simp (disch := omega) only [f_X12_orderTold, m_btw, b1, lit, gp1, rl1, rs1, bd1, lt1, n_add, n_sub, n_dec, n_le, n_lt, n_eq, n_in, nI_clamp, n_mul, m_or, m_and, m_pow, m_bit, m_dif, n_neg, yn_0, yn_1, yn_z, yn_d, one31, Nat.add_sub_cancel, Nat.not_lt_zero, if_true, if_false, ite_true, ite_false, Bool.true_eq_false, Bool.false_eq_true, Nat.add_zero, Nat.zero_add])
  | true =>
    obtain ⟨i, -, i8, rfl⟩ := btw_e (by decide) (by decide) b1
    obtain ⟨I1, T1, e1, t1, s1, f1⟩ := p_study (J := J) hR hC hV hT (by omega)
    obtain ⟨I2, g1, g2, g3⟩ := p_first (J := J) hR hV hw s1
    have hM2 : MR I2 66 D := MR_fr (fun j => by rw [g2 66 j (by decide), f1 66 j (by omega)]) hM
    obtain ⟨I3, m1, m2, m3, m4⟩ := m_findFirst (J := J) hR hV hw hM2
    have hl := fst_len D w 9 (insm D) (lst D)
    have hST : ST I2 (T + 16) := ST_fr (fun a j q => g2 a j (by omega)) (ST_up (by omega) (ST_of s1.1))
    have hf : ∀ a j, (a < 44 ∨ 51 < a) → I2 a j = I a j := fun a j q => by rw [g2 a j (by omega), f1 a j (by omega)]
    by_cases hi : (fstO D w 9 (insm D) (lst D)).length ≤ i
    · refine ZZ_O h (r := -nI 3) (I1 := I2) (I2 := I3) ?_ ?_ hf m4 hST
      · simp (disch := omega) only [f_X11_inFirst, x_btw, b1, so_0, ly_0_0 hR, ly_0_1 hR, ly_0_3 hR, ly_0_4 hR, ly_0_5 hR, ly_0_7 hR, ly_0_8 hR, ly_0_9 hR, ly_0_10 hR, so_44, ao_45, ao_46, ao_47, ao_48, ao_49, ao_50, ao_51, ly_44_0 hR, ly_44_1 hR, ly_44_3 hR, ly_44_4 hR, ly_44_5 hR, ly_44_6 hR, ly_44_7 hR, ly_44_10 hR, e1, g1, lit, gp1, rl1, rs1, bd1, lt1, n_add, n_sub, n_dec, n_le, n_lt, n_eq, n_in, nI_clamp, n_mul, m_or, m_and, m_pow, m_bit, m_dif, n_neg, yn_0, yn_1, yn_z, yn_d, one31, Nat.add_sub_cancel, Nat.not_lt_zero, if_true, if_false, ite_true, ite_false, Bool.true_eq_false, Bool.false_eq_true, Nat.add_zero, Nat.zero_add]
        rw [if_pos hi]
      · simp (disch := omega) only [f_X12_orderTold, m_btw, b1, so_65, ao_66, ly_65_0 hR, ly_65_1 hR, ly_65_2 hR, ly_65_4 hR, ly_65_11 hR, ly_65_13 hR, ly_65_14 hR, ly_65_15 hR, ly_65_16 hR, ly_65_17 hR, ly_65_18 hR, ly_65_19 hR, ly_65_20 hR, ly_65_22 hR, ly_65_24 hR, ly_65_25 hR, ly_65_26 hR, ly_65_27 hR, ly_65_28 hR, ly_65_29 hR, ly_65_30 hR, m1, m2, lit, gp1, rl1, rs1, bd1, lt1, n_add, n_sub, n_dec, n_le, n_lt, n_eq, n_in, nI_clamp, n_mul, m_or, m_and, m_pow, m_bit, m_dif, n_neg, yn_0, yn_1, yn_z, yn_d, one31, Nat.add_sub_cancel, Nat.not_lt_zero, if_true, if_false, ite_true, ite_false, Bool.true_eq_false, Bool.false_eq_true, Nat.add_zero, Nat.zero_add]
        rw [if_pos hi]
        split <;> rfl
    · obtain ⟨g, hg⟩ : ∃ g, (fstO D w 9 (insm D) (lst D))[i]? = some g := ⟨_, List.getElem?_eq_getElem (by omega)⟩
      have hO : isO D w = true := by
        cases q : isO D w with
        | true => rfl
        | false => rw [fst_nil hV hw q 9] at hg; cases hg
      have c1 := g3 i g hg
      have c2 := m3 i g hg
      refine ZZ_O h (r := nI g) (I1 := I2) (I2 := I3) ?_ ?_ hf m4 hST
      · simp (disch := omega) only [f_X11_inFirst, x_btw, b1, so_0, ly_0_0 hR, ly_0_1 hR, ly_0_3 hR, ly_0_4 hR, ly_0_5 hR, ly_0_7 hR, ly_0_8 hR, ly_0_9 hR, ly_0_10 hR, so_44, ao_45, ao_46, ao_47, ao_48, ao_49, ao_50, ao_51, ly_44_0 hR, ly_44_1 hR, ly_44_3 hR, ly_44_4 hR, ly_44_5 hR, ly_44_6 hR, ly_44_7 hR, ly_44_10 hR, e1, g1, c1, lit, gp1, rl1, rs1, bd1, lt1, n_add, n_sub, n_dec, n_le, n_lt, n_eq, n_in, nI_clamp, n_mul, m_or, m_and, m_pow, m_bit, m_dif, n_neg, yn_0, yn_1, yn_z, yn_d, one31, Nat.add_sub_cancel, Nat.not_lt_zero, if_true, if_false, ite_true, ite_false, Bool.true_eq_false, Bool.false_eq_true, Nat.add_zero, Nat.zero_add]
        rw [if_neg hi]
      · simp (disch := omega) only [f_X12_orderTold, m_btw, b1, so_65, ao_66, ly_65_0 hR, ly_65_1 hR, ly_65_2 hR, ly_65_4 hR, ly_65_11 hR, ly_65_13 hR, ly_65_14 hR, ly_65_15 hR, ly_65_16 hR, ly_65_17 hR, ly_65_18 hR, ly_65_19 hR, ly_65_20 hR, ly_65_22 hR, ly_65_24 hR, ly_65_25 hR, ly_65_26 hR, ly_65_27 hR, ly_65_28 hR, ly_65_29 hR, ly_65_30 hR, ao_78, m1, m2, hO, c2, lit, gp1, rl1, rs1, bd1, lt1, n_add, n_sub, n_dec, n_le, n_lt, n_eq, n_in, nI_clamp, n_mul, m_or, m_and, m_pow, m_bit, m_dif, n_neg, yn_0, yn_1, yn_z, yn_d, one31, Nat.add_sub_cancel, Nat.not_lt_zero, if_true, if_false, ite_true, ite_false, Bool.true_eq_false, Bool.false_eq_true, Nat.add_zero, Nat.zero_add]
        rw [if_neg hi]
theorem z_way (hR : Lay R) (h : Core I D T) (hT2 : T + 16 < 2 ^ 30) (x : Int32) : ZZ I T (f_X11_way (S0 ++ J) R I 0 x) (fun I1 => f_X12_way (S0 ++ J) R I1 65 x) := by
  obtain ⟨I1, r, I2, D', e1, e2, e3⟩ := z_first (J := J) hR h hT2 (w := 0) (by decide) x
  exact ⟨I1, r, I2, D', by simp (disch := omega) only [f_X11_way, so_0, ly_0_0 hR, ly_0_1 hR, ly_0_3 hR, ly_0_4 hR, ly_0_5 hR, ly_0_7 hR, ly_0_8 hR, ly_0_9 hR, ly_0_10 hR, e1, lit, gp1, rl1, rs1, bd1, lt1, n_add, n_sub, n_dec, n_le, n_lt, n_eq, n_in, nI_clamp, n_mul, m_or, m_and, m_pow, m_bit, m_dif, n_neg, yn_0, yn_1, yn_z, yn_d, one31, Nat.add_sub_cancel, Nat.not_lt_zero, if_true, if_false, ite_true, ite_false, Bool.true_eq_false, Bool.false_eq_true, Nat.add_zero, Nat.zero_add], by simp (disch := omega) only [f_X12_way, so_65, ly_65_0 hR, ly_65_1 hR, ly_65_2 hR, ly_65_4 hR, ly_65_11 hR, ly_65_13 hR, ly_65_14 hR, ly_65_15 hR, ly_65_16 hR, ly_65_17 hR, ly_65_18 hR, ly_65_19 hR, ly_65_20 hR, ly_65_22 hR, ly_65_24 hR, ly_65_25 hR, ly_65_26 hR, ly_65_27 hR, ly_65_28 hR, ly_65_29 hR, ly_65_30 hR, e2, lit, gp1, rl1, rs1, bd1, lt1, n_add, n_sub, n_dec, n_le, n_lt, n_eq, n_in, nI_clamp, n_mul, m_or, m_and, m_pow, m_bit, m_dif, n_neg, yn_0, yn_1, yn_z, yn_d, one31, Nat.add_sub_cancel, Nat.not_lt_zero, if_true, if_false, ite_true, ite_false, Bool.true_eq_false, Bool.false_eq_true, Nat.add_zero, Nat.zero_add], e3⟩
theorem z_far (hR : Lay R) (h : Core I D T) (hT2 : T + 16 < 2 ^ 30) (x : Int32) : ZZ I T (f_X11_far (S0 ++ J) R I 0 x) (fun I1 => f_X12_far (S0 ++ J) R I1 65 x) := by
  obtain ⟨I1, r, I2, D', e1, e2, e3⟩ := z_first (J := J) hR h hT2 (w := 1) (by decide) x
  exact ⟨I1, r, I2, D', by simp (disch := omega) only [f_X11_far, so_0, ly_0_0 hR, ly_0_1 hR, ly_0_3 hR, ly_0_4 hR, ly_0_5 hR, ly_0_7 hR, ly_0_8 hR, ly_0_9 hR, ly_0_10 hR, e1, lit, gp1, rl1, rs1, bd1, lt1, n_add, n_sub, n_dec, n_le, n_lt, n_eq, n_in, nI_clamp, n_mul, m_or, m_and, m_pow, m_bit, m_dif, n_neg, yn_0, yn_1, yn_z, yn_d, one31, Nat.add_sub_cancel, Nat.not_lt_zero, if_true, if_false, ite_true, ite_false, Bool.true_eq_false, Bool.false_eq_true, Nat.add_zero, Nat.zero_add], by simp (disch := omega) only [f_X12_far, so_65, ly_65_0 hR, ly_65_1 hR, ly_65_2 hR, ly_65_4 hR, ly_65_11 hR, ly_65_13 hR, ly_65_14 hR, ly_65_15 hR, ly_65_16 hR, ly_65_17 hR, ly_65_18 hR, ly_65_19 hR, ly_65_20 hR, ly_65_22 hR, ly_65_24 hR, ly_65_25 hR, ly_65_26 hR, ly_65_27 hR, ly_65_28 hR, ly_65_29 hR, ly_65_30 hR, e2, lit, gp1, rl1, rs1, bd1, lt1, n_add, n_sub, n_dec, n_le, n_lt, n_eq, n_in, nI_clamp, n_mul, m_or, m_and, m_pow, m_bit, m_dif, n_neg, yn_0, yn_1, yn_z, yn_d, one31, Nat.add_sub_cancel, Nat.not_lt_zero, if_true, if_false, ite_true, ite_false, Bool.true_eq_false, Bool.false_eq_true, Nat.add_zero, Nat.zero_add], e3⟩
theorem z_cheap (hR : Lay R) (h : Core I D T) (hT2 : T + 16 < 2 ^ 30) (x : Int32) : ZZ I T (f_X11_cheap (S0 ++ J) R I 0 x) (fun I1 => f_X12_cheap (S0 ++ J) R I1 65 x) := by
  obtain ⟨I1, r, I2, D', e1, e2, e3⟩ := z_first (J := J) hR h hT2 (w := 2) (by decide) x
  exact ⟨I1, r, I2, D', by simp (disch := omega) only [f_X11_cheap, so_0, ly_0_0 hR, ly_0_1 hR, ly_0_3 hR, ly_0_4 hR, ly_0_5 hR, ly_0_7 hR, ly_0_8 hR, ly_0_9 hR, ly_0_10 hR, e1, lit, gp1, rl1, rs1, bd1, lt1, n_add, n_sub, n_dec, n_le, n_lt, n_eq, n_in, nI_clamp, n_mul, m_or, m_and, m_pow, m_bit, m_dif, n_neg, yn_0, yn_1, yn_z, yn_d, one31, Nat.add_sub_cancel, Nat.not_lt_zero, if_true, if_false, ite_true, ite_false, Bool.true_eq_false, Bool.false_eq_true, Nat.add_zero, Nat.zero_add], by simp (disch := omega) only [f_X12_cheap, so_65, ly_65_0 hR, ly_65_1 hR, ly_65_2 hR, ly_65_4 hR, ly_65_11 hR, ly_65_13 hR, ly_65_14 hR, ly_65_15 hR, ly_65_16 hR, ly_65_17 hR, ly_65_18 hR, ly_65_19 hR, ly_65_20 hR, ly_65_22 hR, ly_65_24 hR, ly_65_25 hR, ly_65_26 hR, ly_65_27 hR, ly_65_28 hR, ly_65_29 hR, ly_65_30 hR, e2, lit, gp1, rl1, rs1, bd1, lt1, n_add, n_sub, n_dec, n_le, n_lt, n_eq, n_in, nI_clamp, n_mul, m_or, m_and, m_pow, m_bit, m_dif, n_neg, yn_0, yn_1, yn_z, yn_d, one31, Nat.add_sub_cancel, Nat.not_lt_zero, if_true, if_false, ite_true, ite_false, Bool.true_eq_false, Bool.false_eq_true, Nat.add_zero, Nat.zero_add], e3⟩
theorem z_longest (hR : Lay R) (h : Core I D T) (hT2 : T + 16 < 2 ^ 30) : ZZ I T (f_X11_longest (S0 ++ J) R I 0) (fun I1 => f_X12_longest (S0 ++ J) R I1 65) := by
  have ⟨hC, hM, hV, hT⟩ := h
  have hc := cnt_9 (insm_512 D)
  obtain ⟨I1, T1, e1, t1, s1, f1⟩ := p_study (J := J) hR hC hV hT (by omega)
  obtain ⟨I2, g1, g2, g3⟩ := p_first (J := J) hR hV (w := 1) (by decide) s1
  have hM2 : MR I2 66 D := MR_fr (fun j => by rw [g2 66 j (by decide), f1 66 j (by omega)]) hM
  obtain ⟨I3, m1, m2⟩ := m_longest (J := J) hR (cnt (insm D)) 12 (by omega) D I2 rfl hM2 hV
  rw [fst_long hV 9 _ _ (insm_512 D) hc] at g1
  exact ZZ_O h (r := nI (oM (fre D) (cnt (insm D)) (insm D) (lst D))) (I1 := I2) (I2 := I3) (by simp (disch := omega) only [f_X11_longest, so_0, ly_0_0 hR, ly_0_1 hR, ly_0_3 hR, ly_0_4 hR, ly_0_5 hR, ly_0_7 hR, ly_0_8 hR, ly_0_9 hR, ly_0_10 hR, so_44, ly_44_0 hR, ly_44_1 hR, ly_44_3 hR, ly_44_4 hR, ly_44_5 hR, ly_44_6 hR, ly_44_7 hR, ly_44_10 hR, e1, g1, lit, gp1, rl1, rs1, bd1, lt1, n_add, n_sub, n_dec, n_le, n_lt, n_eq, n_in, nI_clamp, n_mul, m_or, m_and, m_pow, m_bit, m_dif, n_neg, yn_0, yn_1, yn_z, yn_d, one31, Nat.add_sub_cancel, Nat.not_lt_zero, if_true, if_false, ite_true, ite_false, Bool.true_eq_false, Bool.false_eq_true, Nat.add_zero, Nat.zero_add]; rfl) (by simp (disch := omega) only [f_X12_longest, so_65, ao_66, ly_65_0 hR, ly_65_1 hR, ly_65_2 hR, ly_65_4 hR, ly_65_11 hR, ly_65_13 hR, ly_65_14 hR, ly_65_15 hR, ly_65_16 hR, ly_65_17 hR, ly_65_18 hR, ly_65_19 hR, ly_65_20 hR, ly_65_22 hR, ly_65_24 hR, ly_65_25 hR, ly_65_26 hR, ly_65_27 hR, ly_65_28 hR, ly_65_29 hR, ly_65_30 hR, m1, lit, gp1, rl1, rs1, bd1, lt1, n_add, n_sub, n_dec, n_le, n_lt, n_eq, n_in, nI_clamp, n_mul, m_or, m_and, m_pow, m_bit, m_dif, n_neg, yn_0, yn_1, yn_z, yn_d, one31, Nat.add_sub_cancel, Nat.not_lt_zero, if_true, if_false, ite_true, ite_false, Bool.true_eq_false, Bool.false_eq_true, Nat.add_zero, Nat.zero_add]) (fun a j q => by rw [g2 a j (by omega), f1 a j (by omega)]) (frF_7 m2) (ST_fr (fun a j q => g2 a j (by omega)) (ST_up (by omega) (ST_of s1.1)))
theorem z_cheapest (hR : Lay R) (h : Core I D T) (hT2 : T + 16 < 2 ^ 30) : ZZ I T (f_X11_cheapest (S0 ++ J) R I 0) (fun I1 => f_X12_cheapest (S0 ++ J) R I1 65) := by
  have ⟨hC, hM, hV, hT⟩ := h
  have hc := cnt_9 (insm_512 D)
  obtain ⟨I1, T1, e1, t1, s1, f1⟩ := p_study (J := J) hR hC hV hT (by omega)
  have hM1 : MR I1 66 D := MR_fr (fun j => f1 66 j (by omega)) hM
  obtain ⟨a1, a2, a3, a4⟩ := mk_ent hV s1 (mk_root hV s1)
  obtain ⟨I2, w1, w2⟩ := m_cost (J := J) hR (af := afD D) (by unfold afD; omega) (cnt (insm D)) 12 (by omega) D I1 rfl (Nat.le_refl _) hM1 hV
  rw [show afD D - cnt (insm D) + 1 = 1 by unfold afD; omega] at w1
  have hWC := WC (fre D) (feD D) (afD D) (cnt (insm D)) (insm D) (lst D)
  have hW := oW_lt (fre D) (k := cnt (insm D)) (s := insm D) (l := lst D) hc
  have hC1 := s1.1.1
  have c6 : I1 1 6 = nI (insm D) := hC1.1.2.1
  have hl9 : lst D ≤ 9 := by have := lst_le hV; have := hV.1; omega
  have hix : ix (insm D) (lst D) < 5120 := by have := insm_512 D; unfold ix; omega
  have fin : ∀ r, f_X11_cheapest (S0 ++ J) R I 0 = some (I1, r) → f_X12_cheapest (S0 ++ J) R I1 65 = some (I2, r) → ZZ I T (f_X11_cheapest (S0 ++ J) R I 0) (fun I1 => f_X12_cheapest (S0 ++ J) R I1 65) := fun r r1 r2 => ZZ_O h r1 r2 (fun a j q => f1 a j (by omega)) (frF_7 w2) (ST_up (by omega) (ST_of s1.1))
  cases ho : oC (fre D) (feD D) (afD D) (cnt (insm D)) (insm D) (lst D) with
  | none =>
    rw [ho] at hWC w1
    have h0 : ¬ 0 < oW (fre D) (cnt (insm D)) (insm D) (lst D) := of_decide_eq_false hWC
    refine fin (-nI 3) ?_ ?_
    · simp (disch := omega) only [f_X11_cheapest, f_X2_leastCost, so_0, so_1, ly_0_0 hR, ly_0_1 hR, ly_0_3 hR, ly_0_4 hR, ly_0_5 hR, ly_0_7 hR, ly_0_8 hR, ly_0_9 hR, ly_0_10 hR, ly_1_0 hR, ly_1_1 hR, ly_1_2 hR, ly_1_3 hR, ly_1_4 hR, ly_1_7 hR, ly_1_11 hR, ly_1_12 hR, ly_1_13 hR, so_44, ao_45, ao_46, ao_47, ao_48, ly_44_0 hR, ly_44_1 hR, ly_44_3 hR, ly_44_4 hR, ly_44_5 hR, ly_44_6 hR, ly_44_7 hR, ly_44_10 hR, e1, q_last hR hC1 hV, c6, x_state (insm_512 D) hl9, a1, lit, gp1, rl1, rs1, bd1, lt1, n_add, n_sub, n_dec, n_le, n_lt, n_eq, n_in, nI_clamp, n_mul, m_or, m_and, m_pow, m_bit, m_dif, n_neg, yn_0, yn_1, yn_z, yn_d, one31, Nat.add_sub_cancel, Nat.not_lt_zero, if_true, if_false, ite_true, ite_false, Bool.true_eq_false, Bool.false_eq_true, Nat.add_zero, Nat.zero_add]
      rw [if_pos (by omega)]; rfl
    · have z : (nI 0 ≤ -nI 1) = False := by decide
      simp (disch := omega) only [f_X12_cheapest, so_65, ly_65_0 hR, ly_65_1 hR, ly_65_2 hR, ly_65_4 hR, ly_65_11 hR, ly_65_13 hR, ly_65_14 hR, ly_65_15 hR, ly_65_16 hR, ly_65_17 hR, ly_65_18 hR, ly_65_19 hR, ly_65_20 hR, ly_65_22 hR, ly_65_24 hR, ly_65_25 hR, ly_65_26 hR, ly_65_27 hR, ly_65_28 hR, ly_65_29 hR, ly_65_30 hR, w1, cR, z, lit, gp1, rl1, rs1, bd1, lt1, n_add, n_sub, n_dec, n_le, n_lt, n_eq, n_in, nI_clamp, n_mul, m_or, m_and, m_pow, m_bit, m_dif, n_neg, yn_0, yn_1, yn_z, yn_d, one31, Nat.add_sub_cancel, Nat.not_lt_zero, if_true, if_false, ite_true, ite_false, Bool.true_eq_false, Bool.false_eq_true, Nat.add_zero, Nat.zero_add]
  | some c =>
    rw [ho] at hWC w1 a3
    have h0 : 0 < oW (fre D) (cnt (insm D)) (insm D) (lst D) := of_decide_eq_true hWC
    have hb1 := oC_b hV (af := afD D) (by unfold afD; omega) hc ho
    rw [cI] at a3
    refine fin (nI c) ?_ ?_
    · simp (disch := omega) only [f_X11_cheapest, f_X2_leastCost, so_0, so_1, ly_0_0 hR, ly_0_1 hR, ly_0_3 hR, ly_0_4 hR, ly_0_5 hR, ly_0_7 hR, ly_0_8 hR, ly_0_9 hR, ly_0_10 hR, ly_1_0 hR, ly_1_1 hR, ly_1_2 hR, ly_1_3 hR, ly_1_4 hR, ly_1_7 hR, ly_1_11 hR, ly_1_12 hR, ly_1_13 hR, so_44, ao_45, ao_46, ao_47, ao_48, ly_44_0 hR, ly_44_1 hR, ly_44_3 hR, ly_44_4 hR, ly_44_5 hR, ly_44_6 hR, ly_44_7 hR, ly_44_10 hR, e1, q_last hR hC1 hV, c6, x_state (insm_512 D) hl9, a1, a3, lit, gp1, rl1, rs1, bd1, lt1, n_add, n_sub, n_dec, n_le, n_lt, n_eq, n_in, nI_clamp, n_mul, m_or, m_and, m_pow, m_bit, m_dif, n_neg, yn_0, yn_1, yn_z, yn_d, one31, Nat.add_sub_cancel, Nat.not_lt_zero, if_true, if_false, ite_true, ite_false, Bool.true_eq_false, Bool.false_eq_true, Nat.add_zero, Nat.zero_add]
      rw [if_neg (by omega)]; rfl
    · simp (disch := omega) only [f_X12_cheapest, so_65, ly_65_0 hR, ly_65_1 hR, ly_65_2 hR, ly_65_4 hR, ly_65_11 hR, ly_65_13 hR, ly_65_14 hR, ly_65_15 hR, ly_65_16 hR, ly_65_17 hR, ly_65_18 hR, ly_65_19 hR, ly_65_20 hR, ly_65_22 hR, ly_65_24 hR, ly_65_25 hR, ly_65_26 hR, ly_65_27 hR, ly_65_28 hR, ly_65_29 hR, ly_65_30 hR, w1, cR, Nat.zero_le, lit, gp1, rl1, rs1, bd1, lt1, n_add, n_sub, n_dec, n_le, n_lt, n_eq, n_in, nI_clamp, n_mul, m_or, m_and, m_pow, m_bit, m_dif, n_neg, yn_0, yn_1, yn_z, yn_d, one31, Nat.add_sub_cancel, Nat.not_lt_zero, if_true, if_false, ite_true, ite_false, Bool.true_eq_false, Bool.false_eq_true, Nat.add_zero, Nat.zero_add]
theorem m_never4 (hR : Lay R) (hV : VD D) (hM : MR I 66 D) : ∀ (r t f : Nat), t + r = d_n D → r < f →
    ∃ I', f_X12_never_4 (S0 ++ J) R f I 65 (nI (mk (isin D) t)) (nI t) = some (I', nI (insm D) &&& (nI (oG (fre D) (cnt (insm D)) (insm D) (lst D)) ^^^ -nI 1)) ∧ fr7 I I' := by
  have h9 := hV.1
  have hc := cnt_9 (insm_512 D)
  have c3 : I 66 3 = nI (d_n D) := hM.2.2.2.1
  obtain ⟨I2, w1, w2⟩ := m_gone (J := J) hR (cnt (insm D)) 12 (by omega) D I rfl hM hV
  intro r
  induction r with
  | zero =>
    intro t f ht hf
    obtain ⟨f, rfl⟩ := Nat.exists_eq_succ_of_ne_zero (n := f) (by omega)
    refine ⟨I2, ?_, w2⟩
    rw [f_X12_never_4]
    simp (disch := omega) only [so_65, ao_66, ly_65_0 hR, ly_65_1 hR, ly_65_2 hR, ly_65_4 hR, ly_65_11 hR, ly_65_13 hR, ly_65_14 hR, ly_65_15 hR, ly_65_16 hR, ly_65_17 hR, ly_65_18 hR, ly_65_19 hR, ly_65_20 hR, ly_65_22 hR, ly_65_24 hR, ly_65_25 hR, ly_65_26 hR, ly_65_27 hR, ly_65_28 hR, ly_65_29 hR, ly_65_30 hR, c3, w1, lit, gp1, rl1, rs1, bd1, lt1, n_add, n_sub, n_dec, n_le, n_lt, n_eq, n_in, nI_clamp, n_mul, m_or, m_and, m_pow, m_bit, m_dif, n_neg, yn_0, yn_1, yn_z, yn_d, one31, Nat.add_sub_cancel, Nat.not_lt_zero, if_true, if_false, ite_true, ite_false, Bool.true_eq_false, Bool.false_eq_true, Nat.add_zero, Nat.zero_add]
    rw [if_pos (by omega)]
    have : mk (isin D) t = insm D := by
      refine Nat.eq_of_testBit_eq fun i => ?_
      rw [mk_bit, insm_bit]
      cases hi : isin D i with
      | false => rw [Bool.and_false, Bool.and_false]
      | true =>
        have := (isin_iff.mp hi).1
        rw [decide_eq_true (by omega), decide_eq_true (by omega)]
    rw [this]
  | succ r ih =>
    intro t f ht hf
    obtain ⟨f, rfl⟩ := Nat.exists_eq_succ_of_ne_zero (n := f) (by omega)
    obtain ⟨I', q1, q2⟩ := ih (t + 1) f (by omega) (by omega)
    refine ⟨I', ?_, q2⟩
    rw [mk_s] at q1
    rw [f_X12_never_4]
    simp (disch := omega) only [f_X12_never_30, so_65, ao_66, ly_65_0 hR, ly_65_1 hR, ly_65_2 hR, ly_65_4 hR, ly_65_11 hR, ly_65_13 hR, ly_65_14 hR, ly_65_15 hR, ly_65_16 hR, ly_65_17 hR, ly_65_18 hR, ly_65_19 hR, ly_65_20 hR, ly_65_22 hR, ly_65_24 hR, ly_65_25 hR, ly_65_26 hR, ly_65_27 hR, ly_65_28 hR, ly_65_29 hR, ly_65_30 hR, c3, m_isIn hR hM hV (show t < d_n D by omega), lit, gp1, rl1, rs1, bd1, lt1, n_add, n_sub, n_dec, n_le, n_lt, n_eq, n_in, nI_clamp, n_mul, m_or, m_and, m_pow, m_bit, m_dif, n_neg, yn_0, yn_1, yn_z, yn_d, one31, Nat.add_sub_cancel, Nat.not_lt_zero, if_true, if_false, ite_true, ite_false, Bool.true_eq_false, Bool.false_eq_true, Nat.add_zero, Nat.zero_add]
    rw [if_neg (by omega)]
    cases hb : isin D t with
    | true => rw [hb, if_pos rfl] at q1; rw [if_neg (by decide)]; exact q1
    | false => rw [hb, if_neg (by decide), Nat.or_zero] at q1; rw [if_pos rfl, Nat.or_zero]; exact q1
theorem z_never (hR : Lay R) (h : Core I D T) (hT2 : T + 16 < 2 ^ 30) : ZZ I T (f_X11_never (S0 ++ J) R I 0) (fun I1 => f_X12_never (S0 ++ J) R I1 65) := by
  have ⟨hC, hM, hV, hT⟩ := h
  have h9 := hV.1
  obtain ⟨I1, T1, e1, t1, s1, f1⟩ := p_study (J := J) hR hC hV hT (by omega)
  have hM1 : MR I1 66 D := MR_fr (fun j => f1 66 j (by omega)) hM
  obtain ⟨go, hgo, hgb⟩ := s1.2.1
  have he : go = oG (fre D) (cnt (insm D)) (insm D) (lst D) := Nat.eq_of_testBit_eq fun i => by
    rw [Bool.eq_iff_iff]; exact hgb i
  have c9 : I1 44 9 = nI (oG (fre D) (cnt (insm D)) (insm D) (lst D)) := by rw [← he]; exact hgo.1
  have c6 : I1 1 6 = nI (insm D) := s1.1.1.1.2.1
  obtain ⟨I2, w1, w2⟩ := m_never4 (J := J) hR hV hM1 (d_n D) 0 512 (by omega) (by omega)
  refine ZZ_O h (r := nI (insm D) &&& (nI (oG (fre D) (cnt (insm D)) (insm D) (lst D)) ^^^ -nI 1)) ?_ w1 (fun a j q => f1 a j (by omega)) (frF_7 w2) (ST_up (by omega) (ST_of s1.1))
  rw [f_X11_never]
  simp only [so_0, so_1, ly_0_0 hR, ly_0_1 hR, ly_0_3 hR, ly_0_4 hR, ly_0_5 hR, ly_0_7 hR, ly_0_8 hR, ly_0_9 hR, ly_0_10 hR, ly_1_0 hR, ly_1_1 hR, ly_1_2 hR, ly_1_3 hR, ly_1_4 hR, ly_1_7 hR, ly_1_11 hR, ly_1_12 hR, ly_1_13 hR, so_44, ly_44_0 hR, ly_44_1 hR, ly_44_3 hR, ly_44_4 hR, ly_44_5 hR, ly_44_6 hR, ly_44_7 hR, ly_44_10 hR, gp1, rl1, bd1, e1, c6, c9]
  rfl
end CALLS4
