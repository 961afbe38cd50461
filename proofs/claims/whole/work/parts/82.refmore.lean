/-! THE REFERENCE: a good goes out and comes home over any change of other cells; longest, goers, wins, cost -/
def fr7 (I I' : Iw) : Prop := ∀ a j, a ≠ 77 → I' a j = I a j
def fG (D : Dt) (k s l g : Nat) : Nat := if (fre D s l).testBit g then 2 ^ g ||| oG (fre D) k (mdiff s (2 ^ g)) (g + 1) else 0
def fCa (D : Dt) (af k s l g : Nat) : Option Nat := if (fre D s l).testBit g then (oC (fre D) (feD D) af k (mdiff s (2 ^ g)) (g + 1)).map (fun c => feD D g * (af - cnt s + 1) + c) else none
def cR : Option Nat → Int32
  | none => -nI 1
  | some c => nI c
theorem fre_t {D : Dt} (hV : VD D) {t : Nat} (h : (fre D (insm D) (lst D)).testBit t = true) : isin D t = true ∧ t < d_n D ∧ VD (Dout D t) ∧ insm (Dout D t) = mdiff (insm D) (2 ^ t) ∧ lst (Dout D t) = t + 1 ∧ cnt (insm (Dout D t)) + 1 = cnt (insm D) := by
  have h9 := hV.1
  have hb := fre_bit h
  have hi := fre_in h
  refine ⟨hi, hb.1, VD_out hV hi, insm_out (by omega), lst_out D t, ?_⟩
  rw [insm_out (by omega)]
  exact cnt_diff hb.2 (by omega)
theorem mayb_fre {D : Dt} {s l t : Nat} (h : t < d_n D) : mayb D s l t = (fre D s l).testBit t := by rw [fre, mk_bit, decide_eq_true h, Bool.true_and]
theorem mx_z {f : Nat → Nat} (h : ∀ i, f i = 0) : ∀ m, mx f m = 0
  | 0 => rfl
  | m + 1 => by rw [mx, mx_z h m, h m]; rfl
theorem mx_ext {f : Nat → Nat} {n : Nat} (h : ∀ i, n ≤ i → f i = 0) : ∀ m, n ≤ m → mx f m = mx f n := by
  intro m hm
  induction m with
  | zero => rw [Nat.le_zero.mp hm]
  | succ m ih =>
    by_cases e : n = m + 1
    · rw [e]
    · rw [mx, ih (by omega), h m (by omega), Nat.max_zero]
theorem orF_z {f : Nat → Nat} (h : ∀ i, f i = 0) : ∀ m, orF f m = 0
  | 0 => rfl
  | m + 1 => by rw [orF, orF_z h m, h m]; rfl
theorem orF_ext {f : Nat → Nat} {n : Nat} (h : ∀ i, n ≤ i → f i = 0) : ∀ m, n ≤ m → orF f m = orF f n := by
  intro m hm
  induction m with
  | zero => rw [Nat.le_zero.mp hm]
  | succ m ih =>
    by_cases e : n = m + 1
    · rw [e]
    · rw [orF, ih (by omega), h m (by omega), Nat.or_zero]
theorem anyB_z {f : Nat → Bool} (h : ∀ i, f i = false) : ∀ m, anyB f m = false
  | 0 => rfl
  | m + 1 => by rw [anyB, anyB_z h m, h m]; rfl
theorem anyB_ext {f : Nat → Bool} {n : Nat} (h : ∀ i, n ≤ i → f i = false) : ∀ m, n ≤ m → anyB f m = anyB f n := by
  intro m hm
  induction m with
  | zero => rw [Nat.le_zero.mp hm]
  | succ m ih =>
    by_cases e : n = m + 1
    · rw [e]
    · rw [anyB, ih (by omega), h m (by omega), Bool.or_false]
theorem anyB_up {f : Nat → Bool} {n : Nat} (h : anyB f n = true) : ∀ m, n ≤ m → anyB f m = true := by
  intro m hm
  induction m with
  | zero => rw [← Nat.le_zero.mp hm]; exact h
  | succ m ih =>
    by_cases e : n = m + 1
    · rw [← e]; exact h
    · rw [anyB, ih (by omega)]; rfl
theorem mn_ext {z : Option Nat} {f : Nat → Option Nat} {n : Nat} (h : ∀ i, n ≤ i → f i = none) : ∀ m, n ≤ m → mn z f m = mn z f n := by
  intro m hm
  induction m with
  | zero => rw [Nat.le_zero.mp hm]
  | succ m ih =>
    by_cases e : n = m + 1
    · rw [e]
    · rw [mn, ih (by omega), h m (by omega), omin_none]
theorem fre_none {D : Dt} {s l i : Nat} (h : cnt s = 0) (hs : s < 1024) : (fre D s l).testBit i = false := by
  cases q : (fre D s l).testBit i with
  | false => rfl
  | true =>
    have := (fre_bit q).2
    rw [(cnt_0 hs).mp h, Nat.zero_testBit] at this
    cases this
section REFMORE
variable {J : Sh} {R : Rw}
theorem m_ob (hR : Lay R) {I : Iw} {D : Dt} (hM : MR I 66 D) (hV : VD D) {g : Nat} (hi : isin D g = true) :
    ∃ I1, f_X12_out (S0 ++ J) R I 65 (nI g) = some I1 ∧ MR I1 66 (Dout D g) ∧ (∀ a j, a ≠ 66 → I1 a j = I a j) ∧
      ∀ I2 : Iw, (∀ j, I2 66 j = I1 66 j) → ∃ I3, f_X12_home (S0 ++ J) R I2 65 = some (I3, nI g) ∧ (∀ j, I3 66 j = I 66 j) ∧ ∀ a j, a ≠ 66 → I3 a j = I2 a j := by
  have h9 := hV.1
  have hg := (isin_iff.mp hi).1
  have ho : d_o D + 1 ≤ d_n D := (VD_out hV hi).2.1
  have c5 : I 66 5 = nI (d_o D) := hM.2.2.2.2.2.1
  obtain ⟨I1, o1, o2, o3, _⟩ := m_outback (J := J) hR hM hV hi
  have e1 : f_X12_out (S0 ++ J) R I 65 (nI g) = some (up2 (up2 (up2 I 66 (16 + 5 * g + 4) (nI (d_o D))) 66 (7 + d_o D) (nI g)) 66 5 (nI (d_o D + 1))) := by
    rw [f_X12_out]
    have q1 : ¬ (5 = 16 + 5 * g + 4) := by omega
    have q2 : ¬ (5 = 7 + d_o D) := by omega
    simp (disch := omega) only [f_X12_goodAt, so_65, ao_66, ly_65_0 hR, ly_65_1 hR, ly_65_2 hR, ly_65_4 hR, ly_65_11 hR, ly_65_13 hR, ly_65_14 hR, ly_65_15 hR, ly_65_16 hR, ly_65_17 hR, ly_65_18 hR, ly_65_19 hR, ly_65_20 hR, ly_65_22 hR, ly_65_24 hR, ly_65_25 hR, ly_65_26 hR, ly_65_27 hR, ly_65_28 hR, ly_65_29 hR, ly_65_30 hR, c5, u_eq, Nat.reduceEqDiff, false_and, and_false, true_and, and_true, and_self, not_false_eq_true, q1, q2, lit, gp1, rl1, rs1, bd1, lt1, n_add, n_sub, n_dec, n_le, n_lt, n_eq, n_in, nI_clamp, n_mul, m_or, m_and, m_pow, m_bit, m_dif, n_neg, yn_0, yn_1, yn_z, yn_d, one31, Nat.add_sub_cancel, Nat.not_lt_zero, if_true, if_false, ite_true, ite_false]
  have e2 := Option.some.inj (o1.symm.trans e1)
  refine ⟨I1, o1, o2, o3, fun I2 hI2 => ?_⟩
  have z : I 66 (7 + d_o D) = 0 := by
    have := hM.2.2.2.2.2.2.2.1 (d_o D) (by omega)
    rwa [if_neg (by omega)] at this
  have n9 : I 66 (16 + 5 * g + 4) = -nI 9 := by
    have := (hM.2.2.2.2.2.2.2.2.1 g hg).2.2.2.2 hi
    rw [show 16 + 5 * g + 4 = 20 + 5 * g by omega]; exact this
  have d5 : I2 66 5 = nI (d_o D + 1) := by rw [hI2, e2, u_eq, if_pos ⟨rfl, rfl⟩]
  have d7 : I2 66 (7 + d_o D) = nI g := by rw [hI2, e2, u_eq, if_neg (by omega), u_eq, if_pos ⟨rfl, rfl⟩]
  refine ⟨up2 (up2 (up2 I2 66 5 (nI (d_o D))) 66 (7 + d_o D) (nI 0)) 66 (16 + 5 * g + 4) (-nI 9), ?_, fun j => ?_, fun a j h => ?_⟩
  · rw [f_X12_home]
    simp (disch := omega) only [f_X12_goodAt, f_X12_comes, so_65, ao_66, ly_65_0 hR, ly_65_1 hR, ly_65_2 hR, ly_65_4 hR, ly_65_11 hR, ly_65_13 hR, ly_65_14 hR, ly_65_15 hR, ly_65_16 hR, ly_65_17 hR, ly_65_18 hR, ly_65_19 hR, ly_65_20 hR, ly_65_22 hR, ly_65_24 hR, ly_65_25 hR, ly_65_26 hR, ly_65_27 hR, ly_65_28 hR, ly_65_29 hR, ly_65_30 hR, d5, u_eq, Nat.reduceEqDiff, false_and, and_false, true_and, and_true, and_self, not_false_eq_true, lit, gp1, rl1, rs1, bd1, lt1, n_add, n_sub, n_dec, n_le, n_lt, n_eq, n_in, nI_clamp, n_mul, m_or, m_and, m_pow, m_bit, m_dif, n_neg, yn_0, yn_1, yn_z, yn_d, one31, Nat.add_sub_cancel, Nat.not_lt_zero, if_true, if_false, ite_true, ite_false]
    simp (disch := omega) only [show ¬ (7 + d_o D = 5) by omega, if_false, d7, n_mul, n_add, n_in, nI_clamp, gp1, lt1, bd1]
  · by_cases q1 : j = 16 + 5 * g + 4
    · rw [u_eq, if_pos ⟨rfl, q1⟩, q1, n9]
    · rw [u_eq, if_neg (by omega)]
      by_cases q2 : j = 7 + d_o D
      · rw [u_eq, if_pos ⟨rfl, q2⟩, q2, z]; rfl
      · rw [u_eq, if_neg (by omega)]
        by_cases q3 : j = 5
        · rw [u_eq, if_pos ⟨rfl, q3⟩, q3, c5]
        · rw [u_eq, if_neg (by omega), hI2, e2, u_eq, if_neg (by omega), u_eq, if_neg (by omega), u_eq, if_neg (by omega)]
  · rw [u_eq, if_neg (by omega), u_eq, if_neg (by omega), u_eq, if_neg (by omega)]
def LongOK (J : Sh) (R : Rw) (k n : Nat) : Prop := ∀ (D : Dt) (I : Iw), cnt (insm D) = k → MR I 66 D → VD D → ∃ I', f_X12_longestOn n (S0 ++ J) R I 65 = some (I', nI (oM (fre D) k (insm D) (lst D))) ∧ fr7 I I'
theorem m_long4 (hR : Lay R) {k n : Nat} {D : Dt} (hk : cnt (insm D) = 0 ∨ cnt (insm D) = k + 1) (hv : cnt (insm D) = k + 1 → LongOK J R k n) (hV : VD D) : ∀ (r t f : Nat) (I : Iw), MR I 66 D → t + r = d_n D → r < f →
    ∃ I', f_X12_longestOn_4 (f_X12_longestOn n) (S0 ++ J) R f I 65 (nI (mx (fM D k (insm D) (lst D)) t)) (nI t) = some (I', nI (mx (fM D k (insm D) (lst D)) (d_n D))) ∧ fr7 I I' := by
  have h9 := hV.1
  intro r
  induction r with
  | zero =>
    intro t f I hM ht hf
    have c3 : I 66 3 = nI (d_n D) := hM.2.2.2.1
    obtain ⟨f, rfl⟩ := Nat.exists_eq_succ_of_ne_zero (n := f) (by omega)
    refine ⟨I, ?_, fun _ _ _ => rfl⟩
    rw [f_X12_longestOn_4]
    simp (disch := omega) only [so_65, ao_66, ly_65_0 hR, ly_65_1 hR, ly_65_2 hR, ly_65_4 hR, ly_65_11 hR, ly_65_13 hR, ly_65_14 hR, ly_65_15 hR, ly_65_16 hR, ly_65_17 hR, ly_65_18 hR, ly_65_19 hR, ly_65_20 hR, ly_65_22 hR, ly_65_24 hR, ly_65_25 hR, ly_65_26 hR, ly_65_27 hR, ly_65_28 hR, ly_65_29 hR, ly_65_30 hR, c3, lit, gp1, rl1, rs1, bd1, lt1, n_add, n_sub, n_dec, n_le, n_lt, n_eq, n_in, nI_clamp, n_mul, m_or, m_and, m_pow, m_bit, m_dif, n_neg, yn_0, yn_1, yn_z, yn_d, one31, Nat.add_sub_cancel, Nat.not_lt_zero, if_true, if_false, ite_true, ite_false]
    rw [if_pos (by omega), show t = d_n D by omega]
  | succ r ih =>
    intro t f I hM ht hf
    have c3 : I 66 3 = nI (d_n D) := hM.2.2.2.1
    obtain ⟨f, rfl⟩ := Nat.exists_eq_succ_of_ne_zero (n := f) (by omega)
    have hb := mayb_fre (D := D) (s := insm D) (l := lst D) (show t < d_n D by omega)
    rw [f_X12_longestOn_4]
    simp (disch := omega) only [so_65, ao_66, ly_65_0 hR, ly_65_1 hR, ly_65_2 hR, ly_65_4 hR, ly_65_11 hR, ly_65_13 hR, ly_65_14 hR, ly_65_15 hR, ly_65_16 hR, ly_65_17 hR, ly_65_18 hR, ly_65_19 hR, ly_65_20 hR, ly_65_22 hR, ly_65_24 hR, ly_65_25 hR, ly_65_26 hR, ly_65_27 hR, ly_65_28 hR, ly_65_29 hR, ly_65_30 hR, c3, m_mayGo hR hM hV (show t < d_n D by omega), f_X12_longestOn_43, hb, lit, gp1, rl1, rs1, bd1, lt1, n_add, n_sub, n_dec, n_le, n_lt, n_eq, n_in, nI_clamp, n_mul, m_or, m_and, m_pow, m_bit, m_dif, n_neg, yn_0, yn_1, yn_z, yn_d, one31, Nat.add_sub_cancel, Nat.not_lt_zero, if_true, if_false, ite_true, ite_false]
    rw [if_neg (by omega)]
    cases hbt : (fre D (insm D) (lst D)).testBit t with
    | false =>
      have := ih (t + 1) f I hM (by omega) (by omega)
      rw [mx, fM, hbt, if_neg (by decide), Nat.max_zero] at this
      rw [if_pos rfl]
      exact this
    | true =>
      obtain ⟨hi, _, hV2, hin, hls, hc⟩ := fre_t hV hbt
      have hkk : cnt (insm D) = k + 1 := by omega
      obtain ⟨I1, o1, o2, o3, o4⟩ := m_outback (J := J) hR hM hV hi
      obtain ⟨I2, w1, w2⟩ := hv hkk (Dout D t) I1 (by omega) o2 hV2
      obtain ⟨I3, b1, b2⟩ := o4 I2 w2
      obtain ⟨I', q1, q2⟩ := ih (t + 1) f I3 (MR_fr (fun j => b2 66 j (by decide)) hM) (by omega) (by omega)
      have b1' := oM_le (fre D) k (mdiff (insm D) (2 ^ t)) (t + 1)
      have k9 := cnt_9 (insm_512 D)
      have b2' : mx (fM D k (insm D) (lst D)) t ≤ k + 1 := mx_le (fun g => by
        unfold fM; split
        · exact Nat.succ_le_succ (oM_le _ _ _ _)
        · exact Nat.zero_le _) t
      rw [mx, fM, hbt, if_pos rfl] at q1
      rw [hls, hin] at w1
      have hF : fre (Dout D t) = fre D := rfl
      rw [hF] at w1
      refine ⟨I', ?_, fun a j h => by rw [q2 a j h, b2 a j h]⟩
      rw [if_neg (by decide), o1]
      simp only [bd1, w1, b1, n_add]
      rw [jmax_n (by omega) (by omega), Nat.add_comm 1]
      exact q1
theorem m_longest (hR : Lay R) : ∀ k n, k < n → LongOK J R k n := by
  intro k
  induction k with
  | zero =>
    intro n hn D I hk hM hV
    obtain ⟨n, rfl⟩ := Nat.exists_eq_succ_of_ne_zero (n := n) (by omega)
    have h9 := hV.1
    obtain ⟨I', e1, e2⟩ := m_long4 (J := J) (k := 0) (n := n) hR (Or.inl hk) (fun q => by omega) hV (d_n D) 0 512 I hM (by omega) (by omega)
    refine ⟨I', ?_, e2⟩
    rw [mx_z (f := fM D 0 (insm D) (lst D)) (fun i => by rw [fM, fre_none hk (insm_lt D)]; rfl) (d_n D)] at e1
    rw [f_X12_longestOn, f_X12_longestOn_b, oM]
    exact e1
  | succ k ih =>
    intro n hn D I hk hM hV
    obtain ⟨n, rfl⟩ := Nat.exists_eq_succ_of_ne_zero (n := n) (by omega)
    have h9 := hV.1
    obtain ⟨I', e1, e2⟩ := m_long4 (J := J) (k := k) (n := n) hR (Or.inr hk) (fun _ => ih n (by omega)) hV (d_n D) 0 512 I hM (by omega) (by omega)
    refine ⟨I', ?_, e2⟩
    rw [f_X12_longestOn, f_X12_longestOn_b, oM]
    refine e1.trans ?_
    rw [← mx_ext (f := fM D k (insm D) (lst D)) (n := d_n D) (fun i h => by rw [fM, fre_hi h]; rfl) 9 (by omega)]
    rfl
def GoneOK (J : Sh) (R : Rw) (k n : Nat) : Prop := ∀ (D : Dt) (I : Iw), cnt (insm D) = k → MR I 66 D → VD D → ∃ I', f_X12_goneOn n (S0 ++ J) R I 65 = some (I', nI (oG (fre D) k (insm D) (lst D))) ∧ fr7 I I'
theorem m_gone4 (hR : Lay R) {k n : Nat} {D : Dt} (hk : cnt (insm D) = 0 ∨ cnt (insm D) = k + 1) (hv : cnt (insm D) = k + 1 → GoneOK J R k n) (hV : VD D) : ∀ (r t f : Nat) (I : Iw), MR I 66 D → t + r = d_n D → r < f →
    ∃ I', f_X12_goneOn_4 (f_X12_goneOn n) (S0 ++ J) R f I 65 (nI (orF (fG D k (insm D) (lst D)) t)) (nI t) = some (I', nI (orF (fG D k (insm D) (lst D)) (d_n D))) ∧ fr7 I I' := by
  have h9 := hV.1
  intro r
  induction r with
  | zero =>
    intro t f I hM ht hf
    have c3 : I 66 3 = nI (d_n D) := hM.2.2.2.1
    obtain ⟨f, rfl⟩ := Nat.exists_eq_succ_of_ne_zero (n := f) (by omega)
    refine ⟨I, ?_, fun _ _ _ => rfl⟩
    rw [f_X12_goneOn_4]
    simp (disch := omega) only [so_65, ao_66, ly_65_0 hR, ly_65_1 hR, ly_65_2 hR, ly_65_4 hR, ly_65_11 hR, ly_65_13 hR, ly_65_14 hR, ly_65_15 hR, ly_65_16 hR, ly_65_17 hR, ly_65_18 hR, ly_65_19 hR, ly_65_20 hR, ly_65_22 hR, ly_65_24 hR, ly_65_25 hR, ly_65_26 hR, ly_65_27 hR, ly_65_28 hR, ly_65_29 hR, ly_65_30 hR, c3, lit, gp1, rl1, rs1, bd1, lt1, n_add, n_sub, n_dec, n_le, n_lt, n_eq, n_in, nI_clamp, n_mul, m_or, m_and, m_pow, m_bit, m_dif, n_neg, yn_0, yn_1, yn_z, yn_d, one31, Nat.add_sub_cancel, Nat.not_lt_zero, if_true, if_false, ite_true, ite_false]
    rw [if_pos (by omega), show t = d_n D by omega]
  | succ r ih =>
    intro t f I hM ht hf
    have c3 : I 66 3 = nI (d_n D) := hM.2.2.2.1
    obtain ⟨f, rfl⟩ := Nat.exists_eq_succ_of_ne_zero (n := f) (by omega)
    have hb := mayb_fre (D := D) (s := insm D) (l := lst D) (show t < d_n D by omega)
    have hp : (1 : Int32) <<< (nI t &&& 31) = nI (2 ^ t) := m_one (by omega)
    rw [f_X12_goneOn_4]
    simp only [hp]
    simp (disch := omega) only [so_65, ao_66, ly_65_0 hR, ly_65_1 hR, ly_65_2 hR, ly_65_4 hR, ly_65_11 hR, ly_65_13 hR, ly_65_14 hR, ly_65_15 hR, ly_65_16 hR, ly_65_17 hR, ly_65_18 hR, ly_65_19 hR, ly_65_20 hR, ly_65_22 hR, ly_65_24 hR, ly_65_25 hR, ly_65_26 hR, ly_65_27 hR, ly_65_28 hR, ly_65_29 hR, ly_65_30 hR, c3, m_mayGo hR hM hV (show t < d_n D by omega), f_X12_goneOn_43, hb, lit, gp1, rl1, rs1, bd1, lt1, n_add, n_sub, n_dec, n_le, n_lt, n_eq, n_in, nI_clamp, n_mul, m_or, m_and, m_pow, m_bit, m_dif, n_neg, yn_0, yn_1, yn_z, yn_d, one31, Nat.add_sub_cancel, Nat.not_lt_zero, if_true, if_false, ite_true, ite_false]
    rw [if_neg (by omega)]
    cases hbt : (fre D (insm D) (lst D)).testBit t with
    | false =>
      have := ih (t + 1) f I hM (by omega) (by omega)
      rw [orF, fG, hbt, if_neg (by decide), Nat.or_zero] at this
      rw [if_pos rfl]
      exact this
    | true =>
      obtain ⟨hi, _, hV2, hin, hls, hc⟩ := fre_t hV hbt
      have hkk : cnt (insm D) = k + 1 := by omega
      obtain ⟨I1, o1, o2, o3, o4⟩ := m_outback (J := J) hR hM hV hi
      obtain ⟨I2, w1, w2⟩ := hv hkk (Dout D t) I1 (by omega) o2 hV2
      obtain ⟨I3, b1, b2⟩ := o4 I2 w2
      obtain ⟨I', q1, q2⟩ := ih (t + 1) f I3 (MR_fr (fun j => b2 66 j (by decide)) hM) (by omega) (by omega)
      rw [orF, fG, hbt, if_pos rfl] at q1
      rw [hls, hin] at w1
      have hF : fre (Dout D t) = fre D := rfl
      rw [hF] at w1
      refine ⟨I', ?_, fun a j h => by rw [q2 a j h, b2 a j h]⟩
      rw [if_neg (by decide), o1]
      simp only [bd1, w1, b1, n_add, m_or]
      exact q1
theorem m_gone (hR : Lay R) : ∀ k n, k < n → GoneOK J R k n := by
  intro k
  induction k with
  | zero =>
    intro n hn D I hk hM hV
    obtain ⟨n, rfl⟩ := Nat.exists_eq_succ_of_ne_zero (n := n) (by omega)
    have h9 := hV.1
    obtain ⟨I', e1, e2⟩ := m_gone4 (J := J) (k := 0) (n := n) hR (Or.inl hk) (fun q => by omega) hV (d_n D) 0 512 I hM (by omega) (by omega)
    refine ⟨I', ?_, e2⟩
    rw [orF_z (f := fG D 0 (insm D) (lst D)) (fun i => by rw [fG, fre_none hk (insm_lt D)]; rfl) (d_n D)] at e1
    rw [f_X12_goneOn, f_X12_goneOn_b, oG]
    exact e1
  | succ k ih =>
    intro n hn D I hk hM hV
    obtain ⟨n, rfl⟩ := Nat.exists_eq_succ_of_ne_zero (n := n) (by omega)
    have h9 := hV.1
    obtain ⟨I', e1, e2⟩ := m_gone4 (J := J) (k := k) (n := n) hR (Or.inr hk) (fun _ => ih n (by omega)) hV (d_n D) 0 512 I hM (by omega) (by omega)
    refine ⟨I', ?_, e2⟩
    rw [f_X12_goneOn, f_X12_goneOn_b, oG]
    refine e1.trans ?_
    rw [← orF_ext (f := fG D k (insm D) (lst D)) (n := d_n D) (fun i h => by rw [fG, fre_hi h]; rfl) 9 (by omega)]
    rfl
def WinsOK (J : Sh) (R : Rw) (k n : Nat) : Prop := ∀ (D : Dt) (I : Iw), cnt (insm D) = k → MR I 66 D → VD D → ∃ I', f_X12_winsOn n (S0 ++ J) R I 65 = some (I', yn (oX (fre D) k (insm D) (lst D))) ∧ fr7 I I'
theorem m_wins4 (hR : Lay R) {k n : Nat} {D : Dt} (hk : cnt (insm D) = 0 ∨ cnt (insm D) = k + 1) (hv : cnt (insm D) = k + 1 → WinsOK J R k n) (hV : VD D) : ∀ (r t f : Nat) (I : Iw), MR I 66 D → t + r = d_n D → r < f →
    ∃ I', f_X12_winsOn_4 (f_X12_winsOn n) (S0 ++ J) R f I 65 (yn (anyB (fX D k (insm D) (lst D)) t)) (nI t) = some (I', yn (anyB (fX D k (insm D) (lst D)) (d_n D))) ∧ fr7 I I' := by
  have h9 := hV.1
  intro r
  induction r with
  | zero =>
    intro t f I hM ht hf
    have c3 : I 66 3 = nI (d_n D) := hM.2.2.2.1
    obtain ⟨f, rfl⟩ := Nat.exists_eq_succ_of_ne_zero (n := f) (by omega)
    refine ⟨I, ?_, fun _ _ _ => rfl⟩
    rw [f_X12_winsOn_4]
    simp (disch := omega) only [so_65, ao_66, ly_65_0 hR, ly_65_1 hR, ly_65_2 hR, ly_65_4 hR, ly_65_11 hR, ly_65_13 hR, ly_65_14 hR, ly_65_15 hR, ly_65_16 hR, ly_65_17 hR, ly_65_18 hR, ly_65_19 hR, ly_65_20 hR, ly_65_22 hR, ly_65_24 hR, ly_65_25 hR, ly_65_26 hR, ly_65_27 hR, ly_65_28 hR, ly_65_29 hR, ly_65_30 hR, c3, lit, gp1, rl1, rs1, bd1, lt1, n_add, n_sub, n_dec, n_le, n_lt, n_eq, n_in, nI_clamp, n_mul, m_or, m_and, m_pow, m_bit, m_dif, n_neg, yn_0, yn_1, yn_z, yn_d, one31, Nat.add_sub_cancel, Nat.not_lt_zero, if_true, if_false, ite_true, ite_false]
    rw [if_pos (by omega), show t = d_n D by omega]
  | succ r ih =>
    intro t f I hM ht hf
    have c3 : I 66 3 = nI (d_n D) := hM.2.2.2.1
    obtain ⟨f, rfl⟩ := Nat.exists_eq_succ_of_ne_zero (n := f) (by omega)
    have hb := mayb_fre (D := D) (s := insm D) (l := lst D) (show t < d_n D by omega)
    rw [f_X12_winsOn_4]
    simp (disch := omega) only [so_65, ao_66, ly_65_0 hR, ly_65_1 hR, ly_65_2 hR, ly_65_4 hR, ly_65_11 hR, ly_65_13 hR, ly_65_14 hR, ly_65_15 hR, ly_65_16 hR, ly_65_17 hR, ly_65_18 hR, ly_65_19 hR, ly_65_20 hR, ly_65_22 hR, ly_65_24 hR, ly_65_25 hR, ly_65_26 hR, ly_65_27 hR, ly_65_28 hR, ly_65_29 hR, ly_65_30 hR, c3, m_mayGo hR hM hV (show t < d_n D by omega), f_X12_winsOn_43, f_X12_winsOn_49, hb, lit, gp1, rl1, rs1, bd1, lt1, n_add, n_sub, n_dec, n_le, n_lt, n_eq, n_in, nI_clamp, n_mul, m_or, m_and, m_pow, m_bit, m_dif, n_neg, yn_0, yn_1, yn_z, yn_d, one31, Nat.add_sub_cancel, Nat.not_lt_zero, if_true, if_false, ite_true, ite_false]
    rw [if_neg (by omega)]
    cases hany : anyB (fX D k (insm D) (lst D)) t with
    | true =>
      rw [if_neg (by decide), anyB_up hany (d_n D) (by omega)]
      exact ⟨I, rfl, fun _ _ _ => rfl⟩
    | false =>
      rw [if_pos rfl]
      cases hbt : (fre D (insm D) (lst D)).testBit t with
      | false =>
        have := ih (t + 1) f I hM (by omega) (by omega)
        rw [anyB, fX, hbt, Bool.false_and, Bool.or_false, hany] at this
        rw [if_pos rfl]
        exact this
      | true =>
        obtain ⟨hi, _, hV2, hin, hls, hc⟩ := fre_t hV hbt
        have hkk : cnt (insm D) = k + 1 := by omega
        obtain ⟨I1, o1, o2, o3, o4⟩ := m_outback (J := J) hR hM hV hi
        obtain ⟨I2, w1, w2⟩ := hv hkk (Dout D t) I1 (by omega) o2 hV2
        obtain ⟨I3, b1, b2⟩ := o4 I2 w2
        obtain ⟨I', q1, q2⟩ := ih (t + 1) f I3 (MR_fr (fun j => b2 66 j (by decide)) hM) (by omega) (by omega)
        rw [anyB, fX, hbt, Bool.true_and, hany, Bool.false_or] at q1
        rw [hls, hin] at w1
        have hF : fre (Dout D t) = fre D := rfl
        rw [hF] at w1
        refine ⟨I', ?_, fun a j h => by rw [q2 a j h, b2 a j h]⟩
        rw [if_neg (by decide), o1]
        simp only [bd1, w1, b1]
        cases hx : oX (fre D) k (mdiff (insm D) (2 ^ t)) (t + 1) with
        | false => rw [hx] at q1; exact q1
        | true => rw [hx] at q1; exact q1
theorem m_wins (hR : Lay R) : ∀ k n, k < n → WinsOK J R k n := by
  intro k
  induction k with
  | zero =>
    intro n hn D I hk hM hV
    obtain ⟨n, rfl⟩ := Nat.exists_eq_succ_of_ne_zero (n := n) (by omega)
    have h9 := hV.1
    obtain ⟨I', e1, e2⟩ := m_wins4 (J := J) (k := 0) (n := n) hR (Or.inl hk) (fun q => by omega) hV (d_n D) 0 512 I hM (by omega) (by omega)
    refine ⟨I', ?_, e2⟩
    rw [anyB_z (f := fX D 0 (insm D) (lst D)) (fun i => by rw [fX, fre_none hk (insm_lt D)]; rfl) (d_n D)] at e1
    rw [f_X12_winsOn, f_X12_winsOn_b, oX]
    exact e1
  | succ k ih =>
    intro n hn D I hk hM hV
    obtain ⟨n, rfl⟩ := Nat.exists_eq_succ_of_ne_zero (n := n) (by omega)
    have h9 := hV.1
    obtain ⟨I', e1, e2⟩ := m_wins4 (J := J) (k := k) (n := n) hR (Or.inr hk) (fun _ => ih n (by omega)) hV (d_n D) 0 512 I hM (by omega) (by omega)
    refine ⟨I', ?_, e2⟩
    rw [f_X12_winsOn, f_X12_winsOn_b, oX]
    refine e1.trans ?_
    rw [← anyB_ext (f := fX D k (insm D) (lst D)) (n := d_n D) (fun i h => by rw [fX, fre_hi h]; rfl) 9 (by omega)]
    rfl
end REFMORE
