/-! THE REFERENCE: the least cost -/
theorem n_mone_lt {a : Nat} (ha : a < 2 ^ 31) : (-nI 1 < nI a) = True := n_neg (by decide) ha (by decide)
theorem cR_neg {o : Option Nat} (h : ∀ c, o = some c → c < 2 ^ 31) : (cR o < nI 0) = (o = none) := by
  cases o with
  | none => rw [cR, n_mone_lt (by decide)]; simp
  | some c =>
    have := h c rfl
    rw [cR, n_lt this (by decide)]; simp
section REFCOST
variable {J : Sh} {R : Rw}
def CostOK (J : Sh) (R : Rw) (af k n : Nat) : Prop := ∀ (D : Dt) (I : Iw), cnt (insm D) = k → k ≤ af → MR I 66 D → VD D → ∃ I', f_X12_costOn n (S0 ++ J) R I 65 (nI (af - k + 1)) = some (I', cR (oC (fre D) (feD D) af k (insm D) (lst D))) ∧ fr7 I I'
theorem oC_b {D : Dt} (hV : VD D) {af k s l c : Nat} (ha : af ≤ 10) (hk : k ≤ 9) (h : oC (fre D) (feD D) af k s l = some c) : c < 1000000 := by
  have := oC_le (fre D) (feD D) af (B := 5000 * 11) (fun g => Nat.mul_le_mul (Nat.le_of_lt (feD_lt hV g)) (by omega)) k s l c h
  have h2 : 5000 * 11 * k ≤ 5000 * 11 * 9 := Nat.mul_le_mul_left _ hk
  omega
theorem m_cost13 (hR : Lay R) {af k n : Nat} (haf : af ≤ 9) (hka : k + 1 ≤ af) (hv : CostOK J R af k n) {D : Dt} (hk : cnt (insm D) = k + 1) (hV : VD D) : ∀ (r t f : Nat) (I : Iw), MR I 66 D → t + r = d_n D → r < f →
    ∃ I', f_X12_costOn_13 (f_X12_costOn n) (S0 ++ J) R f I 65 (nI (af - k)) (cR (mn none (fCa D af k (insm D) (lst D)) t)) (nI t) = some (I', cR (mn none (fCa D af k (insm D) (lst D)) (d_n D))) ∧ fr7 I I' := by
  have h9 := hV.1
  intro r
  induction r with
  | zero =>
    intro t f I hM ht hf
    have c3 : I 66 3 = nI (d_n D) := hM.2.2.2.1
    obtain ⟨f, rfl⟩ := Nat.exists_eq_succ_of_ne_zero (n := f) (by omega)
    refine ⟨I, ?_, fun _ _ _ => rfl⟩
    rw [f_X12_costOn_13]
    simp (disch := omega) only [so_65, ao_66, ly_65_0 hR, ly_65_1 hR, ly_65_2 hR, ly_65_4 hR, ly_65_11 hR, ly_65_13 hR, ly_65_14 hR, ly_65_15 hR, ly_65_16 hR, ly_65_17 hR, ly_65_18 hR, ly_65_19 hR, ly_65_20 hR, ly_65_22 hR, ly_65_24 hR, ly_65_25 hR, ly_65_26 hR, ly_65_27 hR, ly_65_28 hR, ly_65_29 hR, ly_65_30 hR, c3, lit, gp1, rl1, rs1, bd1, lt1, n_add, n_sub, n_dec, n_le, n_lt, n_eq, n_in, nI_clamp, n_mul, m_or, m_and, m_pow, m_bit, m_dif, n_neg, yn_0, yn_1, yn_z, yn_d, one31, Nat.add_sub_cancel, Nat.not_lt_zero, if_true, if_false, ite_true, ite_false]
    rw [if_pos (by omega), show t = d_n D by omega]
  | succ r ih =>
    intro t f I hM ht hf
    have c3 : I 66 3 = nI (d_n D) := hM.2.2.2.1
    obtain ⟨f, rfl⟩ := Nat.exists_eq_succ_of_ne_zero (n := f) (by omega)
    have hb := mayb_fre (D := D) (s := insm D) (l := lst D) (show t < d_n D by omega)
    rw [f_X12_costOn_13]
    simp (disch := omega) only [so_65, ao_66, ly_65_0 hR, ly_65_1 hR, ly_65_2 hR, ly_65_4 hR, ly_65_11 hR, ly_65_13 hR, ly_65_14 hR, ly_65_15 hR, ly_65_16 hR, ly_65_17 hR, ly_65_18 hR, ly_65_19 hR, ly_65_20 hR, ly_65_22 hR, ly_65_24 hR, ly_65_25 hR, ly_65_26 hR, ly_65_27 hR, ly_65_28 hR, ly_65_29 hR, ly_65_30 hR, c3, m_mayGo hR hM hV (show t < d_n D by omega), f_X12_costOn_87, f_X12_costOn_86, f_X12_costOn_85, f_X12_costOn_77, hb, lit, gp1, rl1, rs1, bd1, lt1, n_add, n_sub, n_dec, n_le, n_lt, n_eq, n_in, nI_clamp, n_mul, m_or, m_and, m_pow, m_bit, m_dif, n_neg, yn_0, yn_1, yn_z, yn_d, one31, Nat.add_sub_cancel, Nat.not_lt_zero, if_true, if_false, ite_true, ite_false]
    rw [if_neg (by omega)]
    cases hbt : (fre D (insm D) (lst D)).testBit t with
    | false =>
      have := ih (t + 1) f I hM (by omega) (by omega)
      rw [mn, fCa, hbt, if_neg (by decide), omin_none] at this
      rw [if_pos rfl]
      exact this
    | true =>
      obtain ⟨hi, hlt, hV2, hin, hls, hc⟩ := fre_t hV hbt
      obtain ⟨If, f1, f2⟩ := m_fee (J := J) hR hM hV hlt
      have hMf : MR If 66 D := MR_fr (fun j => f2 66 j (by decide)) hM
      obtain ⟨I1, o1, o2, o3, o4⟩ := m_outback (J := J) hR hMf hV hi
      obtain ⟨I2, w1, w2⟩ := hv (Dout D t) I1 (by omega) (by omega) o2 hV2
      obtain ⟨I3, b1, b2⟩ := o4 I2 w2
      obtain ⟨I', q1, q2⟩ := ih (t + 1) f I3 (MR_fr (fun j => b2 66 j (by decide)) hMf) (by omega) (by omega)
      have k9 := cnt_9 (insm_512 D)
      have hfe : feD D t = fee D t := if_pos hlt
      have hpl : af - cnt (insm D) + 1 = af - k := by omega
      have hfl := fee_lt hV hlt
      have hm : (af - k) * fee D t ≤ 9 * 5000 := Nat.mul_le_mul (by omega) (by omega)
      have ba : ∀ a, mn none (fCa D af k (insm D) (lst D)) t = some a → a < 2000000 := fun a q => by
        have := mn_le (z := none) (f := fCa D af k (insm D) (lst D)) (M := 1999999) (fun _ q => by cases q) (fun g c q => by
          unfold fCa at q
          split at q
          · cases e : oC (fre D) (feD D) af k (mdiff (insm D) (2 ^ g)) (g + 1) with
            | none => rw [e] at q; cases q
            | some c2 =>
              have e2 := oC_b hV (by omega) (by omega) e
              rw [e] at q
              simp only [Option.map_some, Option.some.injEq] at q
              have h3 := feD_lt hV g
              have h4 : feD D g * (af - cnt (insm D) + 1) ≤ 5000 * 10 := Nat.mul_le_mul (by omega) (by omega)
              omega
          · cases q) t a q
        omega
      rw [mn, fCa, hbt, if_pos rfl, hpl, hfe, Nat.mul_comm (fee D t)] at q1
      rw [hls, hin] at w1
      have hF : fre (Dout D t) = fre D := rfl
      have hFe : feD (Dout D t) = feD D := rfl
      rw [hF, hFe] at w1
      have fin : ∀ a j, a ≠ 77 → I' a j = I a j := fun a j h => by rw [q2 a j h, b2 a j h, f2 a j h]
      refine ⟨I', ?_, fin⟩
      rw [if_neg (by decide), f1]
      simp only [bd1, o1, w1, b1, n_add, n_mul]
      cases ho : oC (fre D) (feD D) af k (mdiff (insm D) (2 ^ t)) (t + 1) with
      | none =>
        rw [ho, Option.map_none, omin_none] at q1
        rw [if_pos (by rw [cR_neg (fun c q => by cases q)])]
        exact q1
      | some c =>
        have hc6 := oC_b hV (by omega) (by omega) ho
        rw [ho, Option.map_some] at q1
        rw [if_neg (by rw [cR_neg (fun c q => by cases q; omega)]; exact fun q => by cases q)]
        cases ha : mn none (fCa D af k (insm D) (lst D)) t with
        | none =>
          rw [ha, omin] at q1
          rw [if_pos (by rw [cR_neg (fun c q => by cases q)])]
          simp only [cR, n_add]
          exact q1
        | some a =>
          have ha6 := ba a ha
          rw [ha, omin] at q1
          rw [if_neg (by rw [cR_neg (fun c q => by cases q; omega)]; exact fun q => by cases q)]
          simp only [cR, n_add]
          have hle : (nI a ≤ nI ((af - k) * fee D t + c)) = (a ≤ (af - k) * fee D t + c) := n_le (by omega) (by omega)
          by_cases h : a ≤ (af - k) * fee D t + c
          · rw [if_pos (by rw [hle]; exact h)]
            rw [Nat.min_eq_left h] at q1
            exact q1
          · rw [if_neg (by rw [hle]; exact h)]
            rw [Nat.min_eq_right (by omega)] at q1
            exact q1
theorem m_cost (hR : Lay R) {af : Nat} (haf : af ≤ 9) : ∀ k n, k < n → CostOK J R af k n := by
  intro k
  induction k with
  | zero =>
    intro n hn D I hk hka hM hV
    obtain ⟨n, rfl⟩ := Nat.exists_eq_succ_of_ne_zero (n := n) (by omega)
    have h0 := (cnt_0 (insm_lt D)).mp hk
    refine ⟨I, ?_, fun _ _ _ => rfl⟩
    rw [f_X12_costOn, f_X12_costOn_b]
    simp (disch := omega) only [so_65, ao_66, ly_65_0 hR, ly_65_1 hR, ly_65_2 hR, ly_65_4 hR, ly_65_11 hR, ly_65_13 hR, ly_65_14 hR, ly_65_15 hR, ly_65_16 hR, ly_65_17 hR, ly_65_18 hR, ly_65_19 hR, ly_65_20 hR, ly_65_22 hR, ly_65_24 hR, ly_65_25 hR, ly_65_26 hR, ly_65_27 hR, ly_65_28 hR, ly_65_29 hR, ly_65_30 hR, m_inMany hR hM hV, hk, lit, gp1, rl1, rs1, bd1, lt1, n_add, n_sub, n_dec, n_le, n_lt, n_eq, n_in, nI_clamp, n_mul, m_or, m_and, m_pow, m_bit, m_dif, n_neg, yn_0, yn_1, yn_z, yn_d, one31, Nat.add_sub_cancel, Nat.not_lt_zero, if_true, if_false, ite_true, ite_false]
    rw [oC, if_pos h0]; rfl
  | succ k ih =>
    intro n hn D I hk hka hM hV
    obtain ⟨n, rfl⟩ := Nat.exists_eq_succ_of_ne_zero (n := n) (by omega)
    have h9 := hV.1
    have hc := cnt_9 (insm_512 D)
    obtain ⟨I', e1, e2⟩ := m_cost13 (J := J) hR haf hka (ih n (by omega)) hk hV (d_n D) 0 512 I hM (by omega) (by omega)
    refine ⟨I', ?_, e2⟩
    rw [f_X12_costOn, f_X12_costOn_b]
    simp (disch := omega) only [so_65, ao_66, ly_65_0 hR, ly_65_1 hR, ly_65_2 hR, ly_65_4 hR, ly_65_11 hR, ly_65_13 hR, ly_65_14 hR, ly_65_15 hR, ly_65_16 hR, ly_65_17 hR, ly_65_18 hR, ly_65_19 hR, ly_65_20 hR, ly_65_22 hR, ly_65_24 hR, ly_65_25 hR, ly_65_26 hR, ly_65_27 hR, ly_65_28 hR, ly_65_29 hR, ly_65_30 hR, m_inMany hR hM hV, hk, lit, gp1, rl1, rs1, bd1, lt1, n_add, n_sub, n_dec, n_le, n_lt, n_eq, n_in, nI_clamp, n_mul, m_or, m_and, m_pow, m_bit, m_dif, n_neg, yn_0, yn_1, yn_z, yn_d, one31, Nat.add_sub_cancel, Nat.not_lt_zero, if_true, if_false, ite_true, ite_false]
    rw [if_neg (by omega), oC, if_neg (insm_ne hk), show af - (k + 1) + 1 = af - k by omega]
    refine e1.trans ?_
    rw [← mn_ext (f := fCa D af k (insm D) (lst D)) (n := d_n D) (fun i h => by rw [fCa, fre_hi h]; rfl) 9 (by omega)]
    rfl
end REFCOST
