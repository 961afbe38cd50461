/-! CALLS: which good should have been a goat, a gap with a way -/
theorem ZZ_G {I I1 I2 : Iw} {D' : Dt} {T : Nat} {c : Option (Iw × Int32)} {m : Iw → Option (Iw × Int32)} {r : Int32} (h1 : c = some (I1, r)) (h2 : m I1 = some (I2, r)) (f1 : ∀ a j, (a = 0 ∨ (16 < a ∧ a < 44) ∨ 51 < a) → I1 a j = I a j) (f2 : ∀ a j, a ≠ 66 → a ≠ 77 → I2 a j = I1 a j) (c1 : CR I1 1 D') (c2 : MR I2 66 D') (c3 : VD D') (hT : ST I1 (T + 16)) : ZZ I T c m :=
  ⟨I1, r, I2, D', h1, h2, ⟨CR_fr (fun k j q1 q2 => f2 k j (by omega) (by omega)) c1, c2, c3, ST_fr (fun a j q => f2 a j (by omega) (by omega)) hT⟩,
    frX_t (fun a j q => f1 a j (by unfold scr at q; omega)) (frX_66 f2)⟩
def gst (P : Nat → Bool) (W : Nat → Nat) (m : Nat) : Nat → Option Nat × Nat
  | 0 => (none, m)
  | t + 1 => if P t = true ∧ (gst P W m t).2 < W t then (some t, W t) else gst P W m t
theorem gst_lt {P : Nat → Bool} {W : Nat → Nat} {m B : Nat} (hm : m < B) (hW : ∀ g, W g < B) : ∀ t, (gst P W m t).2 < B
  | 0 => hm
  | t + 1 => by
    rw [gst]
    split
    · exact hW t
    · exact gst_lt hm hW t
theorem up1_back {f : Nat → Nat} {g k : Nat} : up1 (up1 f g k) g (f g) = f := by
  funext i
  rw [u1_eq, u1_eq]
  by_cases e : i = g
  · rw [if_pos e, e]
  · rw [if_neg e, if_neg e]
theorem Dkd_back (D : Dt) (g k : Nat) : Dkd (Dkd D g k) g (d_kd D g) = D := by
  have : d_kd (Dkd (Dkd D g k) g (d_kd D g)) = d_kd D := up1_back
  show (d_n D, up1 (up1 (d_kd D) g k) g (d_kd D g), d_by D, d_cl D, d_wo D, d_o D, d_ln D, d_ga D, d_da D, d_z D, d_nr D, d_rk D, d_rt D, d_rb D, d_rx D, d_np D, d_pg D, d_pc D) = D
  rw [up1_back]; rfl
section CALLS6
variable {J : Sh} {R : Rw} {D : Dt} {T : Nat}
def tW (D : Dt) (g : Nat) : Nat := Wy (Dkd D g 3) (insm D) (lst D)
theorem tW_lt (g : Nat) : tW D g < 2 ^ 30 := oW_lt _ (cnt_9 (insm_512 D))
theorem Wy_lt : Wy D (insm D) (lst D) < 2 ^ 30 := oW_lt _ (cnt_9 (insm_512 D))
def gS (D : Dt) : Nat → Option Nat × Nat := gst (isin D) (tW D) (Wy D (insm D) (lst D))
theorem gS_lt (t : Nat) : (gS D t).2 < 2 ^ 30 := gst_lt Wy_lt (tW_lt) t
theorem gS_s (t : Nat) : gS D (t + 1) = if isin D t = true ∧ (gS D t).2 < tW D t then (some t, tW D t) else gS D t := rfl
theorem q_goat13 (hR : Lay R) (hV : VD D) : ∀ (r t f : Nat) (I : Iw), CR I 1 D → ST I (T + t) → T + 9 < 2 ^ 30 → t + r = d_n D → r < f →
    ∃ I', f_X11_goat_13 (S0 ++ J) R f I 0 (noO (gS D t).1) (nI (gS D t).2) (nI t) = some (I', noO (gS D (d_n D)).1) ∧ CR I' 1 D ∧ ST I' (T + d_n D) ∧ ∀ a j, (a = 0 ∨ (16 < a ∧ a < 44) ∨ 51 < a) → I' a j = I a j := by
  have h9 := hV.1
  intro r
  induction r with
  | zero =>
    intro t f I hC hT hT2 ht hf
    have c5 : I 1 5 = nI (d_n D) := hC.1.1
    obtain ⟨f, rfl⟩ := Nat.exists_eq_succ_of_ne_zero (n := f) (by omega)
    refine ⟨I, ?_, hC, ST_up (by omega) hT, fun _ _ _ => rfl⟩
    rw [f_X11_goat_13]
    simp (disch := omega) only [so_0, so_1, ly_0_0 hR, ly_0_1 hR, ly_0_3 hR, ly_0_4 hR, ly_0_5 hR, ly_0_7 hR, ly_0_8 hR, ly_0_9 hR, ly_0_10 hR, ly_1_0 hR, ly_1_1 hR, ly_1_2 hR, ly_1_3 hR, ly_1_4 hR, ly_1_7 hR, ly_1_11 hR, ly_1_12 hR, ly_1_13 hR, c5, lit, gp1, rl1, rs1, bd1, lt1, n_add, n_sub, n_dec, n_le, n_lt, n_eq, n_in, nI_clamp, n_mul, m_or, m_and, m_pow, m_bit, m_dif, n_neg, yn_0, yn_1, yn_z, yn_d, one31, Nat.add_sub_cancel, Nat.not_lt_zero, if_true, if_false, ite_true, ite_false, Bool.true_eq_false, Bool.false_eq_true, Nat.add_zero, Nat.zero_add]
    rw [if_pos (by omega), show t = d_n D by omega]
  | succ r ih =>
    intro t f I hC hT hT2 ht hf
    have c5 : I 1 5 = nI (d_n D) := hC.1.1
    have c6 : I 1 6 = nI (insm D) := hC.1.2.1
    obtain ⟨f, rfl⟩ := Nat.exists_eq_succ_of_ne_zero (n := f) (by omega)
    have hlt : t < d_n D := by omega
    have ht10 : t < 10 := by omega
    have hi := insm_lt D
    have t3 : (insm D).testBit t = isin D t := by rw [insm_bit, decide_eq_true (by omega), Bool.true_and]
    rw [f_X11_goat_13]
    simp (disch := omega) only [so_0, so_1, ao_2, ao_3, ao_4, ao_5, ao_6, ao_7, so_8, ao_9, ao_10, ao_11, ao_12, ao_13, ao_14, ao_15, ao_16, ly_0_0 hR, ly_0_1 hR, ly_0_3 hR, ly_0_4 hR, ly_0_5 hR, ly_0_7 hR, ly_0_8 hR, ly_0_9 hR, ly_0_10 hR, ly_1_0 hR, ly_1_1 hR, ly_1_2 hR, ly_1_3 hR, ly_1_4 hR, ly_1_7 hR, ly_1_11 hR, ly_1_12 hR, ly_1_13 hR, ly_8_1 hR, ly_8_2 hR, ly_8_3 hR, ly_8_5 hR, ly_8_6 hR, ly_8_7 hR, so_44, ly_44_0 hR, ly_44_1 hR, ly_44_3 hR, ly_44_4 hR, ly_44_5 hR, ly_44_6 hR, ly_44_7 hR, ly_44_10 hR, c5, c6, x_holds hi ht10, t3, f_X11_goat_88, lit, gp1, rl1, rs1, bd1, lt1, n_add, n_sub, n_dec, n_le, n_lt, n_eq, n_in, nI_clamp, n_mul, m_or, m_and, m_pow, m_bit, m_dif, n_neg, yn_0, yn_1, yn_z, yn_d, one31, Nat.add_sub_cancel, Nat.not_lt_zero, if_true, if_false, ite_true, ite_false, Bool.true_eq_false, Bool.false_eq_true, Nat.add_zero, Nat.zero_add]
    rw [if_neg (by omega)]
    cases hin : isin D t with
    | false =>
      rw [if_pos rfl]
      have := ih (t + 1) f I hC (ST_up (by omega) hT) hT2 (by omega) (by omega)
      rw [gS_s, if_neg (by rw [hin]; exact fun q => by cases q.1)] at this
      exact this
    | true =>
      have vk := hV.2.2.2.2.1 t hlt
      have k1 : I 2 t = nI (d_kd D t) := (hC.1.2.2.2.2.2.2.2.1 t hlt).1
      obtain ⟨I1, e1, f1, g1⟩ := p_kind (J := J) hR hC hV hlt (k := 3) (by decide)
      have hV1 : VD (Dkd D t 3) := VD_kd hV (by decide)
      obtain ⟨I2, T2, e2, t2, s2, f2⟩ := p_study (J := J) hR g1 hV1 (ST_fr (fun a j q => f1 a j (by omega)) hT) (by omega)
      obtain ⟨I3, e3, f3, g3⟩ := p_kind (J := J) (g := t) (k := d_kd D t) hR s2.1.1 hV1 hlt ⟨vk.1, vk.2.1⟩
      rw [Dkd_back] at g3
      have hT3 : ST I3 (T + (t + 1)) := ST_fr (fun a j q => f3 a j (by omega)) (ST_up (by omega) (ST_of s2.1))
      obtain ⟨I', q1, q2, q3, q4⟩ := ih (t + 1) f I3 g3 hT3 hT2 (by omega) (by omega)
      have hw : Wy (Dkd D t 3) (insm (Dkd D t 3)) (lst (Dkd D t 3)) = tW D t := rfl
      rw [hw] at e2
      have b1 := tW_lt (D := D) t
      have b2 := gS_lt (D := D) t
      refine ⟨I', ?_, q2, q3, fun a j h => by rw [q4 a j h, f3 a j (by omega), f2 a j (by omega), f1 a j (by omega)]⟩
      rw [if_neg (by decide)]
      simp (disch := omega) only [k1, e1, e2, e3, lit, gp1, rl1, rs1, bd1, lt1, n_add, n_sub, n_dec, n_le, n_lt, n_eq, n_in, nI_clamp, n_mul, m_or, m_and, m_pow, m_bit, m_dif, n_neg, yn_0, yn_1, yn_z, yn_d, one31, Nat.add_sub_cancel, Nat.not_lt_zero, if_true, if_false, ite_true, ite_false, Bool.true_eq_false, Bool.false_eq_true, Nat.add_zero, Nat.zero_add]
      rw [gS_s] at q1
      by_cases hk : tW D t ≤ (gS D t).2
      · rw [if_pos hk]
        rw [if_neg (by omega)] at q1
        exact q1
      · rw [if_neg hk]
        rw [if_pos ⟨hin, by omega⟩] at q1
        exact q1
theorem m_goat10 (hR : Lay R) (hV : VD D) : ∀ (r t f : Nat) (I : Iw), MR I 66 D → t + r = d_n D → r < f →
    ∃ I', f_X12_goat_10 (S0 ++ J) R f I 65 (noO (gS D t).1) (nI (gS D t).2) (nI t) = some (I', noO (gS D (d_n D)).1) ∧ MR I' 66 D ∧ ∀ a j, a ≠ 66 → a ≠ 77 → I' a j = I a j := by
  have h9 := hV.1
  intro r
  induction r with
  | zero =>
    intro t f I hM ht hf
    have c3 : I 66 3 = nI (d_n D) := hM.2.2.2.1
    obtain ⟨f, rfl⟩ := Nat.exists_eq_succ_of_ne_zero (n := f) (by omega)
    refine ⟨I, ?_, hM, fun _ _ _ _ => rfl⟩
    rw [f_X12_goat_10]
    simp (disch := omega) only [so_65, ao_66, ly_65_0 hR, ly_65_1 hR, ly_65_2 hR, ly_65_4 hR, ly_65_11 hR, ly_65_13 hR, ly_65_14 hR, ly_65_15 hR, ly_65_16 hR, ly_65_17 hR, ly_65_18 hR, ly_65_19 hR, ly_65_20 hR, ly_65_22 hR, ly_65_24 hR, ly_65_25 hR, ly_65_26 hR, ly_65_27 hR, ly_65_28 hR, ly_65_29 hR, ly_65_30 hR, c3, lit, gp1, rl1, rs1, bd1, lt1, n_add, n_sub, n_dec, n_le, n_lt, n_eq, n_in, nI_clamp, n_mul, m_or, m_and, m_pow, m_bit, m_dif, n_neg, yn_0, yn_1, yn_z, yn_d, one31, Nat.add_sub_cancel, Nat.not_lt_zero, if_true, if_false, ite_true, ite_false, Bool.true_eq_false, Bool.false_eq_true, Nat.add_zero, Nat.zero_add]
    rw [if_pos (by omega), show t = d_n D by omega]
  | succ r ih =>
    intro t f I hM ht hf
    have c3 : I 66 3 = nI (d_n D) := hM.2.2.2.1
    obtain ⟨f, rfl⟩ := Nat.exists_eq_succ_of_ne_zero (n := f) (by omega)
    have hlt : t < d_n D := by omega
    have hcc : 16 + 5 * t < 306 := by omega
    rw [f_X12_goat_10]
    simp (disch := omega) only [so_65, ao_66, ly_65_0 hR, ly_65_1 hR, ly_65_2 hR, ly_65_4 hR, ly_65_11 hR, ly_65_13 hR, ly_65_14 hR, ly_65_15 hR, ly_65_16 hR, ly_65_17 hR, ly_65_18 hR, ly_65_19 hR, ly_65_20 hR, ly_65_22 hR, ly_65_24 hR, ly_65_25 hR, ly_65_26 hR, ly_65_27 hR, ly_65_28 hR, ly_65_29 hR, ly_65_30 hR, c3, m_isIn hR hM hV hlt, f_X12_goat_77, f_X12_goat_69, lit, gp1, rl1, rs1, bd1, lt1, n_add, n_sub, n_dec, n_le, n_lt, n_eq, n_in, nI_clamp, n_mul, m_or, m_and, m_pow, m_bit, m_dif, n_neg, yn_0, yn_1, yn_z, yn_d, one31, Nat.add_sub_cancel, Nat.not_lt_zero, if_true, if_false, ite_true, ite_false, Bool.true_eq_false, Bool.false_eq_true, Nat.add_zero, Nat.zero_add]
    rw [if_neg (by omega)]
    cases hin : isin D t with
    | false =>
      rw [if_pos rfl]
      have := ih (t + 1) f I hM (by omega) (by omega)
      rw [gS_s, if_neg (by rw [hin]; exact fun q => by cases q.1)] at this
      exact this
    | true =>
      have vk := hV.2.2.2.2.1 t hlt
      have k1 : I 66 (16 + 5 * t) = nI (d_kd D t) := (hM.2.2.2.2.2.2.2.2.1 t hlt).1
      have hc9 := cnt_9 (insm_512 D)
      have hM1 : MR (up2 I 66 (16 + 5 * t) (nI 3)) 66 (Dkd D t 3) := M_kd hM hV hlt
      have hV1 : VD (Dkd D t 3) := VD_kd hV (by decide)
      obtain ⟨I2, w1, w2⟩ := m_ways (J := J) hR (cnt (insm (Dkd D t 3))) 12 (by show cnt (insm D) < 12; omega) (Dkd D t 3) (up2 I 66 (16 + 5 * t) (nI 3)) rfl hM1 hV1
      have hM2 : MR I2 66 (Dkd D t 3) := MR_fr (fun j => w2 66 j (by decide)) hM1
      have hM3 : MR (up2 I2 66 (16 + 5 * t) (nI (d_kd D t))) 66 D := by
        have := M_kd (k := d_kd D t) hM2 hV1 (g := t) hlt
        rwa [Dkd_back] at this
      obtain ⟨I', q1, q2, q3⟩ := ih (t + 1) f (up2 I2 66 (16 + 5 * t) (nI (d_kd D t))) hM3 (by omega) (by omega)
      have hw : nI (oW (fre (Dkd D t 3)) (cnt (insm (Dkd D t 3))) (insm (Dkd D t 3)) (lst (Dkd D t 3))) = nI (tW D t) := rfl
      rw [hw] at w1
      have b1 := tW_lt (D := D) t
      have b2 := gS_lt (D := D) t
      refine ⟨I', ?_, q2, fun a j h h7 => by rw [q3 a j h h7, u_eq, if_neg (by omega), w2 a j h7, u_eq, if_neg (by omega)]⟩
      rw [if_neg (by decide)]
      simp (disch := omega) only [f_X12_goodAt, m_comes hR hcc, k1, w1, lit, gp1, rl1, rs1, bd1, lt1, n_add, n_sub, n_dec, n_le, n_lt, n_eq, n_in, nI_clamp, n_mul, m_or, m_and, m_pow, m_bit, m_dif, n_neg, yn_0, yn_1, yn_z, yn_d, one31, Nat.add_sub_cancel, Nat.not_lt_zero, if_true, if_false, ite_true, ite_false, Bool.true_eq_false, Bool.false_eq_true, Nat.add_zero, Nat.zero_add]
      rw [gS_s] at q1
      by_cases hk : tW D t ≤ (gS D t).2
      · rw [if_pos hk, jmax_n (by omega) (by omega), Nat.max_eq_left hk]
        rw [if_neg (by omega)] at q1
        exact q1
      · rw [if_neg hk, jmax_n (by omega) (by omega), Nat.max_eq_right (by omega)]
        rw [if_pos ⟨hin, by omega⟩] at q1
        exact q1
theorem z_goat {I : Iw} (hR : Lay R) (h : Core I D T) (hT2 : T + 16 < 2 ^ 30) : ZZ I T (f_X11_goat (S0 ++ J) R I 0) (fun I1 => f_X12_goat (S0 ++ J) R I1 65) := by
  have ⟨hC, hM, hV, hT⟩ := h
  have h9 := hV.1
  have hc := cnt_9 (insm_512 D)
  obtain ⟨I1, T1, e1, t1, s1, f1⟩ := p_study (J := J) hR hC hV hT (by omega)
  obtain ⟨I2, g1, g2, g3, g4⟩ := q_goat13 (J := J) (T := T + 1) hR hV (d_n D) 0 512 I1 s1.1.1 (ST_up (by omega) (ST_of s1.1)) (by omega) (by omega) (by omega)
  have hf : ∀ a j, (a = 0 ∨ (16 < a ∧ a < 44) ∨ 51 < a) → I2 a j = I a j := fun a j q => by rw [g4 a j q, f1 a j (by omega)]
  have hM2 : MR I2 66 D := MR_fr (fun j => hf 66 j (by omega)) hM
  obtain ⟨I3, w1, w2⟩ := m_ways (J := J) hR (cnt (insm D)) 12 (by omega) D I2 rfl hM2 hV
  obtain ⟨I4, m1, m2, m3⟩ := m_goat10 (J := J) hR hV (d_n D) 0 512 I3 (MR_fr (fun j => w2 66 j (by decide)) hM2) (by omega) (by omega)
  refine ZZ_G (r := noO (gS D (d_n D)).1) (I1 := I2) (I2 := I4) ?_ ?_ hf (fun a j a1 a2 => by rw [m3 a j a1 a2, w2 a j a2]) g2 m2 hV (ST_up (by omega) g3)
  · simp (disch := omega) only [f_X11_goat, so_0, ly_0_0 hR, ly_0_1 hR, ly_0_3 hR, ly_0_4 hR, ly_0_5 hR, ly_0_7 hR, ly_0_8 hR, ly_0_9 hR, ly_0_10 hR, so_44, ly_44_0 hR, ly_44_1 hR, ly_44_3 hR, ly_44_4 hR, ly_44_5 hR, ly_44_6 hR, ly_44_7 hR, ly_44_10 hR, e1, lit, gp1, rl1, rs1, bd1, lt1, n_add, n_sub, n_dec, n_le, n_lt, n_eq, n_in, nI_clamp, n_mul, m_or, m_and, m_pow, m_bit, m_dif, n_neg, yn_0, yn_1, yn_z, yn_d, one31, Nat.add_sub_cancel, Nat.not_lt_zero, if_true, if_false, ite_true, ite_false, Bool.true_eq_false, Bool.false_eq_true, Nat.add_zero, Nat.zero_add]
    exact g1
  · simp (disch := omega) only [f_X12_goat, so_65, ly_65_0 hR, ly_65_1 hR, ly_65_2 hR, ly_65_4 hR, ly_65_11 hR, ly_65_13 hR, ly_65_14 hR, ly_65_15 hR, ly_65_16 hR, ly_65_17 hR, ly_65_18 hR, ly_65_19 hR, ly_65_20 hR, ly_65_22 hR, ly_65_24 hR, ly_65_25 hR, ly_65_26 hR, ly_65_27 hR, ly_65_28 hR, ly_65_29 hR, ly_65_30 hR, w1, lit, gp1, rl1, rs1, bd1, lt1, n_add, n_sub, n_dec, n_le, n_lt, n_eq, n_in, nI_clamp, n_mul, m_or, m_and, m_pow, m_bit, m_dif, n_neg, yn_0, yn_1, yn_z, yn_d, one31, Nat.add_sub_cancel, Nat.not_lt_zero, if_true, if_false, ite_true, ite_false, Bool.true_eq_false, Bool.false_eq_true, Nat.add_zero, Nat.zero_add]
    exact m1
def gF (D : Dt) : Nat → Option Nat
  | 0 => none
  | v + 1 => if 0 < Wy (Dga D (v + 1)) (insm D) (lst D) then some (v + 1) else gF D v
theorem Dga_id (D : Dt) : Dga D (d_ga D) = D := rfl
theorem q_gap50 (hR : Lay R) (hV : VD D) {I : Iw} {u : Nat} (hu : 1 ≤ u ∧ u ≤ 3) (hC : CR I 1 (Dga D u)) (x : Int32) : ∃ I', f_X11_gapFor_50 (S0 ++ J) R I 0 (nI (d_ga D)) x = some (I', x) ∧ CR I' 1 D ∧ frS I I' := by
  obtain ⟨I', e1, e2, e3⟩ := p_gap (J := J) (v := d_ga D) hR hC (VD_ga hV hu) ⟨hV.2.2.2.2.2.1.1, hV.2.2.2.2.2.1.2.1⟩
  exact ⟨I', by simp (disch := omega) only [f_X11_gapFor_50, so_0, so_1, ly_0_0 hR, ly_0_1 hR, ly_0_3 hR, ly_0_4 hR, ly_0_5 hR, ly_0_7 hR, ly_0_8 hR, ly_0_9 hR, ly_0_10 hR, ly_1_0 hR, ly_1_1 hR, ly_1_2 hR, ly_1_3 hR, ly_1_4 hR, ly_1_7 hR, ly_1_11 hR, ly_1_12 hR, ly_1_13 hR, e1, lit, gp1, rl1, rs1, bd1, lt1, n_add, n_sub, n_dec, n_le, n_lt, n_eq, n_in, nI_clamp, n_mul, m_or, m_and, m_pow, m_bit, m_dif, n_neg, yn_0, yn_1, yn_z, yn_d, one31, Nat.add_sub_cancel, Nat.not_lt_zero, if_true, if_false, ite_true, ite_false, Bool.true_eq_false, Bool.false_eq_true, Nat.add_zero, Nat.zero_add], e3, e2⟩
theorem q_gap13 (hR : Lay R) (hV : VD D) : ∀ (v f u : Nat) (I : Iw), 1 ≤ u ∧ u ≤ 3 → CR I 1 (Dga D u) → ST I (T + (3 - v)) → T + 9 < 2 ^ 30 → v ≤ 3 → v + 1 < f →
    ∃ I', f_X11_gapFor_13 (S0 ++ J) R f I 0 (nI (d_ga D)) (-nI 3) (nI v) = some (I', noO (gF D v)) ∧ CR I' 1 D ∧ ST I' (T + 3) ∧ ∀ a j, (a = 0 ∨ (16 < a ∧ a < 44) ∨ 51 < a) → I' a j = I a j := by
  intro v
  induction v with
  | zero =>
    intro f u I hu hC hT hT2 hv hf
    obtain ⟨f, rfl⟩ := Nat.exists_eq_succ_of_ne_zero (n := f) (by omega)
    obtain ⟨I', e1, e2, e3⟩ := q_gap50 (J := J) hR hV hu hC (-nI 3)
    refine ⟨I', ?_, e2, ST_fr (fun a j q => e3 a j (by omega)) (ST_up (by omega) hT), fun a j q => e3 a j (by omega)⟩
    rw [f_X11_gapFor_13, if_pos (by decide)]
    exact e1
  | succ v ih =>
    intro f u I hu hC hT hT2 hv hf
    obtain ⟨f, rfl⟩ := Nat.exists_eq_succ_of_ne_zero (n := f) (by omega)
    obtain ⟨I1, e1, e2, e3⟩ := p_gap (J := J) (v := v + 1) hR hC (VD_ga hV hu) ⟨by omega, hv⟩
    have e3 : CR I1 1 (Dga D (v + 1)) := e3
    have hV1 : VD (Dga D (v + 1)) := VD_ga hV ⟨by omega, hv⟩
    obtain ⟨I2, T2, s1, s2, s3, s4⟩ := p_study (J := J) hR e3 hV1 (ST_fr (fun a j q => e2 a j (by omega)) hT) (by omega)
    have hw : Wy (Dga D (v + 1)) (insm (Dga D (v + 1))) (lst (Dga D (v + 1))) = Wy (Dga D (v + 1)) (insm D) (lst D) := rfl
    rw [hw] at s1
    have b1 : Wy (Dga D (v + 1)) (insm D) (lst D) < 2 ^ 30 := oW_lt _ (cnt_9 (insm_512 D))
    have hT3 : ST I2 (T + (3 - v)) := ST_up (by omega) (ST_of s3.1)
    have hfr : ∀ a j, (a = 0 ∨ (16 < a ∧ a < 44) ∨ 51 < a) → I2 a j = I a j := fun a j q => by rw [s4 a j (by omega), e2 a j (by omega)]
    rw [gF]
    by_cases hk : 0 < Wy (Dga D (v + 1)) (insm D) (lst D)
    · obtain ⟨f', hf'⟩ := Nat.exists_eq_succ_of_ne_zero (n := f) (by omega)
      obtain ⟨I', g1, g2, g3⟩ := q_gap50 (J := J) hR hV (u := v + 1) ⟨by omega, hv⟩ s3.1.1 (nI (v + 1))
      have z : (nI (v + 1) = -nI 3) = False := n_nn (by omega) (by decide) (by decide)
      have last : f_X11_gapFor_13 (S0 ++ J) R f I2 0 (nI (d_ga D)) (nI (v + 1)) (nI v) = some (I', nI (v + 1)) := by
        rw [hf', f_X11_gapFor_13]
        simp (disch := omega) only [z, g1, lit, gp1, rl1, rs1, bd1, lt1, n_add, n_sub, n_dec, n_le, n_lt, n_eq, n_in, nI_clamp, n_mul, m_or, m_and, m_pow, m_bit, m_dif, n_neg, yn_0, yn_1, yn_z, yn_d, one31, Nat.add_sub_cancel, Nat.not_lt_zero, if_true, if_false, ite_true, ite_false, Bool.true_eq_false, Bool.false_eq_true, Nat.add_zero, Nat.zero_add]
        split <;> rfl
      refine ⟨I', ?_, g2, ST_fr (fun a j q => g3 a j (by omega)) (ST_up (by omega) (ST_of s3.1)), fun a j q => by rw [g3 a j (by omega), hfr a j q]⟩
      rw [if_pos hk, f_X11_gapFor_13]
      simp (disch := omega) only [so_0, so_1, ly_0_0 hR, ly_0_1 hR, ly_0_3 hR, ly_0_4 hR, ly_0_5 hR, ly_0_7 hR, ly_0_8 hR, ly_0_9 hR, ly_0_10 hR, ly_1_0 hR, ly_1_1 hR, ly_1_2 hR, ly_1_3 hR, ly_1_4 hR, ly_1_7 hR, ly_1_11 hR, ly_1_12 hR, ly_1_13 hR, so_44, ly_44_0 hR, ly_44_1 hR, ly_44_3 hR, ly_44_4 hR, ly_44_5 hR, ly_44_6 hR, ly_44_7 hR, ly_44_10 hR, e1, s1, f_X11_gapFor_44, lit, gp1, rl1, rs1, bd1, lt1, n_add, n_sub, n_dec, n_le, n_lt, n_eq, n_in, nI_clamp, n_mul, m_or, m_and, m_pow, m_bit, m_dif, n_neg, yn_0, yn_1, yn_z, yn_d, one31, Nat.add_sub_cancel, Nat.not_lt_zero, if_true, if_false, ite_true, ite_false, Bool.true_eq_false, Bool.false_eq_true, Nat.add_zero, Nat.zero_add]
      rw [if_neg (by omega), if_neg (by omega)]
      exact last
    · obtain ⟨I', q1, q2, q3, q4⟩ := ih f (v + 1) I2 ⟨by omega, hv⟩ s3.1.1 hT3 hT2 (by omega) (by omega)
      refine ⟨I', ?_, q2, q3, fun a j q => by rw [q4 a j q, hfr a j q]⟩
      rw [if_neg hk, f_X11_gapFor_13]
      simp (disch := omega) only [so_0, so_1, ly_0_0 hR, ly_0_1 hR, ly_0_3 hR, ly_0_4 hR, ly_0_5 hR, ly_0_7 hR, ly_0_8 hR, ly_0_9 hR, ly_0_10 hR, ly_1_0 hR, ly_1_1 hR, ly_1_2 hR, ly_1_3 hR, ly_1_4 hR, ly_1_7 hR, ly_1_11 hR, ly_1_12 hR, ly_1_13 hR, so_44, ly_44_0 hR, ly_44_1 hR, ly_44_3 hR, ly_44_4 hR, ly_44_5 hR, ly_44_6 hR, ly_44_7 hR, ly_44_10 hR, e1, s1, f_X11_gapFor_44, lit, gp1, rl1, rs1, bd1, lt1, n_add, n_sub, n_dec, n_le, n_lt, n_eq, n_in, nI_clamp, n_mul, m_or, m_and, m_pow, m_bit, m_dif, n_neg, yn_0, yn_1, yn_z, yn_d, one31, Nat.add_sub_cancel, Nat.not_lt_zero, if_true, if_false, ite_true, ite_false, Bool.true_eq_false, Bool.false_eq_true, Nat.add_zero, Nat.zero_add]
      rw [if_neg (by omega), if_pos (by omega)]
      exact q1
theorem m_gap38 (hR : Lay R) (hV : VD D) {I : Iw} {u v w : Nat} (hu : 1 ≤ u ∧ u ≤ 3) (hM : MR I 66 (Dga D u)) (hw : w < 2 ^ 30) :
    ∃ I', f_X12_gapFor_38 (S0 ++ J) R I 65 (nI (d_ga D)) (nI v) (nI w) = some (I', if 0 < w then nI v else -nI 3) ∧ MR I' 66 D ∧ ∀ a j, a ≠ 66 → a ≠ 77 → I' a j = I a j := by
  refine ⟨up2 I 66 0 (nI (d_ga D)), ?_, M_ga (v := d_ga D) hM (VD_ga hV hu), fun a j a1 _ => by rw [u_eq, if_neg (by omega)]⟩
  rw [f_X12_gapFor_38]
  simp (disch := omega) only [so_65, ao_66, ly_65_0 hR, ly_65_1 hR, ly_65_2 hR, ly_65_4 hR, ly_65_11 hR, ly_65_13 hR, ly_65_14 hR, ly_65_15 hR, ly_65_16 hR, ly_65_17 hR, ly_65_18 hR, ly_65_19 hR, ly_65_20 hR, ly_65_22 hR, ly_65_24 hR, ly_65_25 hR, ly_65_26 hR, ly_65_27 hR, ly_65_28 hR, ly_65_29 hR, ly_65_30 hR, lit, gp1, rl1, rs1, bd1, lt1, n_add, n_sub, n_dec, n_le, n_lt, n_eq, n_in, nI_clamp, n_mul, m_or, m_and, m_pow, m_bit, m_dif, n_neg, yn_0, yn_1, yn_z, yn_d, one31, Nat.add_sub_cancel, Nat.not_lt_zero, if_true, if_false, ite_true, ite_false, Bool.true_eq_false, Bool.false_eq_true, Nat.add_zero, Nat.zero_add]
  by_cases h : 0 < w
  · rw [if_neg (by omega), if_pos h]
  · rw [if_pos (by omega), if_neg h]
theorem m_gap11 (hR : Lay R) (hV : VD D) : ∀ (v f u : Nat) (I : Iw), 1 ≤ u ∧ u ≤ 3 → MR I 66 (Dga D u) → v ≤ 3 → v + 1 < f →
    ∃ I', f_X12_gapFor_11 (S0 ++ J) R f I 65 (nI (d_ga D)) (nI (v + 1)) (nI 0) = some (I', noO (gF D v)) ∧ MR I' 66 D ∧ ∀ a j, a ≠ 66 → a ≠ 77 → I' a j = I a j := by
  intro v
  induction v with
  | zero =>
    intro f u I hu hM hv hf
    obtain ⟨f, rfl⟩ := Nat.exists_eq_succ_of_ne_zero (n := f) (by omega)
    obtain ⟨I', e1, e2, e3⟩ := m_gap38 (J := J) (v := 1) (w := 0) hR hV hu hM (by decide)
    exact ⟨I', by rw [f_X12_gapFor_11, if_pos (by decide)]; exact e1, e2, e3⟩
  | succ v ih =>
    intro f u I hu hM hv hf
    obtain ⟨f, rfl⟩ := Nat.exists_eq_succ_of_ne_zero (n := f) (by omega)
    have hc9 := cnt_9 (insm_512 D)
    have hM1 : MR (up2 I 66 0 (nI (v + 1))) 66 (Dga D (v + 1)) := M_ga (v := v + 1) hM (VD_ga hV hu)
    have hV1 : VD (Dga D (v + 1)) := VD_ga hV ⟨by omega, hv⟩
    obtain ⟨I2, w1, w2⟩ := m_ways (J := J) hR (cnt (insm (Dga D (v + 1)))) 12 (by show cnt (insm D) < 12; omega) (Dga D (v + 1)) (up2 I 66 0 (nI (v + 1))) rfl hM1 hV1
    have hM2 : MR I2 66 (Dga D (v + 1)) := MR_fr (fun j => w2 66 j (by decide)) hM1
    have hw : nI (oW (fre (Dga D (v + 1))) (cnt (insm (Dga D (v + 1)))) (insm (Dga D (v + 1))) (lst (Dga D (v + 1)))) = nI (Wy (Dga D (v + 1)) (insm D) (lst D)) := rfl
    rw [hw] at w1
    have b1 : Wy (Dga D (v + 1)) (insm D) (lst D) < 2 ^ 30 := oW_lt _ (cnt_9 (insm_512 D))
    have hfr : ∀ a j, a ≠ 66 → a ≠ 77 → I2 a j = I a j := fun a j a1 a2 => by rw [w2 a j a2, u_eq, if_neg (by omega)]
    have hd : nI (v + 1 + 1) + -nI 1 = nI (v + 1) := n_dec (by omega)
    have hgo : f_X12_gapFor_11 (S0 ++ J) R (f + 1) I 65 (nI (d_ga D)) (nI (v + 1 + 1)) (nI 0) = f_X12_gapFor_11 (S0 ++ J) R f I2 65 (nI (d_ga D)) (nI (v + 1)) (nI (Wy (Dga D (v + 1)) (insm D) (lst D))) := by
      rw [f_X12_gapFor_11]
      simp (disch := omega) only [hd, lit, gp1, rl1, rs1, bd1, lt1, n_add, n_sub, n_dec, n_le, n_lt, n_eq, n_in, nI_clamp, n_mul, m_or, m_and, m_pow, m_bit, m_dif, n_neg, yn_0, yn_1, yn_z, yn_d, one31, Nat.add_sub_cancel, Nat.not_lt_zero, if_true, if_false, ite_true, ite_false, Bool.true_eq_false, Bool.false_eq_true, Nat.add_zero, Nat.zero_add]
      simp (disch := omega) only [so_65, ao_66, ly_65_0 hR, ly_65_1 hR, ly_65_2 hR, ly_65_4 hR, ly_65_11 hR, ly_65_13 hR, ly_65_14 hR, ly_65_15 hR, ly_65_16 hR, ly_65_17 hR, ly_65_18 hR, ly_65_19 hR, ly_65_20 hR, ly_65_22 hR, ly_65_24 hR, ly_65_25 hR, ly_65_26 hR, ly_65_27 hR, ly_65_28 hR, ly_65_29 hR, ly_65_30 hR, w1, lit, gp1, rl1, rs1, bd1, lt1, n_add, n_sub, n_dec, n_le, n_lt, n_eq, n_in, nI_clamp, n_mul, m_or, m_and, m_pow, m_bit, m_dif, n_neg, yn_0, yn_1, yn_z, yn_d, one31, Nat.add_sub_cancel, Nat.not_lt_zero, if_true, if_false, ite_true, ite_false, Bool.true_eq_false, Bool.false_eq_true, Nat.add_zero, Nat.zero_add]
      rw [if_neg (by omega)]
    rw [hgo, gF]
    by_cases hk : 0 < Wy (Dga D (v + 1)) (insm D) (lst D)
    · obtain ⟨f', hf'⟩ := Nat.exists_eq_succ_of_ne_zero (n := f) (by omega)
      obtain ⟨I', g1, g2, g3⟩ := m_gap38 (J := J) (v := v + 1) (w := Wy (Dga D (v + 1)) (insm D) (lst D)) hR hV ⟨by omega, hv⟩ hM2 b1
      rw [if_pos hk] at g1
      have z : ¬ (Wy (Dga D (v + 1)) (insm D) (lst D) = 0) := by omega
      refine ⟨I', ?_, g2, fun a j a1 a2 => by rw [g3 a j a1 a2, hfr a j a1 a2]⟩
      rw [if_pos hk, hf', f_X12_gapFor_11]
      simp (disch := omega) only [z, g1, lit, gp1, rl1, rs1, bd1, lt1, n_add, n_sub, n_dec, n_le, n_lt, n_eq, n_in, nI_clamp, n_mul, m_or, m_and, m_pow, m_bit, m_dif, n_neg, yn_0, yn_1, yn_z, yn_d, one31, Nat.add_sub_cancel, Nat.not_lt_zero, if_true, if_false, ite_true, ite_false, Bool.true_eq_false, Bool.false_eq_true, Nat.add_zero, Nat.zero_add]
      split <;> rfl
    · have z : Wy (Dga D (v + 1)) (insm D) (lst D) = 0 := by omega
      obtain ⟨I', q1, q2, q3⟩ := ih f (v + 1) I2 ⟨by omega, hv⟩ hM2 (by omega) (by omega)
      refine ⟨I', ?_, q2, fun a j a1 a2 => by rw [q3 a j a1 a2, hfr a j a1 a2]⟩
      rw [if_neg hk, z]
      exact q1
theorem z_gapFor {I : Iw} (hR : Lay R) (h : Core I D T) (hT2 : T + 16 < 2 ^ 30) : ZZ I T (f_X11_gapFor (S0 ++ J) R I 0) (fun I1 => f_X12_gapFor (S0 ++ J) R I1 65) := by
  have ⟨hC, hM, hV, hT⟩ := h
  have vg := hV.2.2.2.2.2.1
  have c9 : I 1 9 = nI (d_ga D) := hC.1.2.2.2.1
  obtain ⟨I1, e1, e2, e3, e4⟩ := q_gap13 (J := J) (T := T) hR hV 3 512 (d_ga D) I ⟨vg.1, vg.2.1⟩ hC (ST_up (by omega) hT) (by omega) (by decide) (by decide)
  have hM1 : MR I1 66 D := MR_fr (fun j => e4 66 j (by omega)) hM
  obtain ⟨I2, m1, m2, m3⟩ := m_gap11 (J := J) hR hV 3 512 (d_ga D) I1 ⟨vg.1, vg.2.1⟩ hM1 (by decide) (by decide)
  have c0 : I1 66 0 = nI (d_ga D) := hM1.1
  refine ZZ_G (r := noO (gF D 3)) (I1 := I1) (I2 := I2) ?_ ?_ e4 m3 e2 m2 hV (ST_up (by omega) e3)
  · simp (disch := omega) only [f_X11_gapFor, so_0, so_1, ly_0_0 hR, ly_0_1 hR, ly_0_3 hR, ly_0_4 hR, ly_0_5 hR, ly_0_7 hR, ly_0_8 hR, ly_0_9 hR, ly_0_10 hR, ly_1_0 hR, ly_1_1 hR, ly_1_2 hR, ly_1_3 hR, ly_1_4 hR, ly_1_7 hR, ly_1_11 hR, ly_1_12 hR, ly_1_13 hR, c9, lit, gp1, rl1, rs1, bd1, lt1, n_add, n_sub, n_dec, n_le, n_lt, n_eq, n_in, nI_clamp, n_mul, m_or, m_and, m_pow, m_bit, m_dif, n_neg, yn_0, yn_1, yn_z, yn_d, one31, Nat.add_sub_cancel, Nat.not_lt_zero, if_true, if_false, ite_true, ite_false, Bool.true_eq_false, Bool.false_eq_true, Nat.add_zero, Nat.zero_add]
    exact e1
  · simp (disch := omega) only [f_X12_gapFor, so_65, ao_66, ly_65_0 hR, ly_65_1 hR, ly_65_2 hR, ly_65_4 hR, ly_65_11 hR, ly_65_13 hR, ly_65_14 hR, ly_65_15 hR, ly_65_16 hR, ly_65_17 hR, ly_65_18 hR, ly_65_19 hR, ly_65_20 hR, ly_65_22 hR, ly_65_24 hR, ly_65_25 hR, ly_65_26 hR, ly_65_27 hR, ly_65_28 hR, ly_65_29 hR, ly_65_30 hR, c0, lit, gp1, rl1, rs1, bd1, lt1, n_add, n_sub, n_dec, n_le, n_lt, n_eq, n_in, nI_clamp, n_mul, m_or, m_and, m_pow, m_bit, m_dif, n_neg, yn_0, yn_1, yn_z, yn_d, one31, Nat.add_sub_cancel, Nat.not_lt_zero, if_true, if_false, ite_true, ite_false, Bool.true_eq_false, Bool.false_eq_true, Nat.add_zero, Nat.zero_add]
    exact m1
end CALLS6
