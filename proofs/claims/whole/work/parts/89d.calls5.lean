/-! CALLS: the best good, a goat, a gap, the game -/
def bst (P : Nat → Bool) (W : Nat → Nat) : Nat → Option (Nat × Nat)
  | 0 => none
  | t + 1 => if P t then (match bst P W t with | none => some (t, W t) | some q => if W t ≤ q.2 then some q else some (t, W t)) else bst P W t
def bG : Option (Nat × Nat) → Int32
  | none => -nI 3
  | some q => nI q.1
def bM : Option (Nat × Nat) → Int32
  | none => -nI 1
  | some q => nI q.2
theorem bst_lt {P : Nat → Bool} {W : Nat → Nat} {B : Nat} (hW : ∀ g, W g < B) : ∀ {t : Nat} {q : Nat × Nat}, bst P W t = some q → q.2 < B
  | 0, _, h => by cases h
  | t + 1, q, h => by
    rw [bst] at h
    split at h
    · cases e : bst P W t with
      | none => rw [e] at h; cases h; exact hW t
      | some p =>
        rw [e] at h
        simp only at h
        split at h
        · cases h; exact bst_lt hW e
        · cases h; exact hW t
    · exact bst_lt hW h
theorem bst_ext {P : Nat → Bool} {W : Nat → Nat} {n : Nat} (h : ∀ i, n ≤ i → P i = false) : ∀ m, n ≤ m → bst P W m = bst P W n := by
  intro m hm
  induction m with
  | zero => rw [Nat.le_zero.mp hm]
  | succ m ih =>
    by_cases e : n = m + 1
    · rw [e]
    · rw [bst, h m (by omega), if_neg (by decide), ih (by omega)]
theorem bM_le {o : Option (Nat × Nat)} {w : Nat} (hw : w < 2 ^ 30) (ho : ∀ q, o = some q → q.2 < 2 ^ 30) : (nI w ≤ bM o) = (∃ q, o = some q ∧ w ≤ q.2) := by
  cases o with
  | none =>
    rw [bM]
    refine propext ⟨fun h => ?_, fun ⟨q, h, _⟩ => by cases h⟩
    have h1 : -nI 1 < nI w := by rw [n_mone_lt (by omega)]; trivial
    exact absurd (Int32.lt_of_lt_of_le h1 h) (Int32.lt_irrefl)
  | some q =>
    have := ho q rfl
    rw [bM, n_le (by omega) (by omega)]
    exact propext ⟨fun h => ⟨q, rfl, h⟩, fun ⟨p, h, h2⟩ => by cases h; exact h2⟩
theorem bst_none {P : Nat → Bool} {W : Nat → Nat} {t : Nat} (hP : P t = false) : bst P W (t + 1) = bst P W t := by rw [bst, if_neg (by rw [hP]; decide)]
theorem bst_keep {P : Nat → Bool} {W : Nat → Nat} {t : Nat} {q : Nat × Nat} (hP : P t = true) (h : bst P W t = some q) (hw : W t ≤ q.2) : bst P W (t + 1) = bst P W t := by
  rw [bst, if_pos hP, h]; simp only [hw, if_true]
theorem bst_new {P : Nat → Bool} {W : Nat → Nat} {t : Nat} (hP : P t = true) (h : ¬ ∃ q, bst P W t = some q ∧ W t ≤ q.2) : bst P W (t + 1) = some (t, W t) := by
  rw [bst, if_pos hP]
  cases e : bst P W t with
  | none => rfl
  | some q =>
    have : ¬ W t ≤ q.2 := fun z => h ⟨q, e, z⟩
    simp only [this, if_false]
section CALLS5
variable {J : Sh} {R : Rw} {I : Iw} {D : Dt} {T : Nat}
def bW (D : Dt) (g : Nat) : Nat := Wy D (mdiff (insm D) (2 ^ g)) (g + 1)
def bP (D : Dt) (g : Nat) : Bool := (fre D (insm D) (lst D)).testBit g
theorem bW_lt (g : Nat) : bW D g < 2 ^ 30 := oW_lt _ (cnt_9 (Nat.lt_of_le_of_lt Nat.and_le_left (insm_512 D)))
theorem q_best21 (hR : Lay R) (hV : VD D) (s1 : SD I D T) : ∀ (r t f : Nat), t + r = 9 → r < f →
    f_X11_best_21 (S0 ++ J) R f I 0 (nI (fre D (insm D) (lst D))) (bG (bst (bP D) (bW D) t)) (bM (bst (bP D) (bW D) t)) (nI t) = some (I, bG (bst (bP D) (bW D) 9)) := by
  have h9 := hV.1
  have hi := insm_512 D
  have hf := fre_lt hV (insm D) (lst D)
  have c6 : I 1 6 = nI (insm D) := s1.1.1.1.2.1
  intro r
  induction r with
  | zero =>
    intro t f ht hf
    obtain ⟨f, rfl⟩ := Nat.exists_eq_succ_of_ne_zero (n := f) (by omega)
    have : t = 9 := by omega
    subst this
    rw [f_X11_best_21, if_pos (by decide)]
  | succ r ih =>
    intro t f ht hfu
    obtain ⟨f, rfl⟩ := Nat.exists_eq_succ_of_ne_zero (n := f) (by omega)
    have := ih (t + 1) f (by omega) (by omega)
    have ht10 : t < 10 := by omega
    have hi10 : insm D < 1024 := by omega
    rw [f_X11_best_21]
    simp (disch := omega) only [x_holds hf ht10, f_X11_best_72, lit, gp1, rl1, rs1, bd1, lt1, n_add, n_sub, n_dec, n_le, n_lt, n_eq, n_in, nI_clamp, n_mul, m_or, m_and, m_pow, m_bit, m_dif, n_neg, yn_0, yn_1, yn_z, yn_d, one31, Nat.add_sub_cancel, Nat.not_lt_zero, if_true, if_false, ite_true, ite_false, Bool.true_eq_false, Bool.false_eq_true, Nat.add_zero, Nat.zero_add]
    rw [if_neg (by omega)]
    cases hb : (fre D (insm D) (lst D)).testBit t with
    | false =>
      rw [if_pos rfl]
      rw [bst_none (P := bP D) hb] at this
      exact this
    | true =>
      have m2 := mk_next hV s1 (mk_root hV s1) hb
      obtain ⟨a1, -⟩ := mk_ent hV s1 m2
      have ht9 : t < 9 := by omega
      have hix : ix (mdiff (insm D) (2 ^ t)) (t + 1) < 5120 := by have := m2.1; unfold ix; omega
      have hms := m2.1
      rw [if_neg (by decide)]
      simp (disch := omega) only [so_0, so_1, ly_0_0 hR, ly_0_1 hR, ly_0_3 hR, ly_0_4 hR, ly_0_5 hR, ly_0_7 hR, ly_0_8 hR, ly_0_9 hR, ly_0_10 hR, ly_1_0 hR, ly_1_1 hR, ly_1_2 hR, ly_1_3 hR, ly_1_4 hR, ly_1_7 hR, ly_1_11 hR, ly_1_12 hR, ly_1_13 hR, so_44, ao_45, ao_46, ao_47, ao_48, ly_44_0 hR, ly_44_1 hR, ly_44_3 hR, ly_44_4 hR, ly_44_5 hR, ly_44_6 hR, ly_44_7 hR, ly_44_10 hR, c6, x_without hi10 ht10, f_X2_waysBehind, x_stateg hms ht9, a1, lit, gp1, rl1, rs1, bd1, lt1, n_add, n_sub, n_dec, n_le, n_lt, n_eq, n_in, nI_clamp, n_mul, m_or, m_and, m_pow, m_bit, m_dif, n_neg, yn_0, yn_1, yn_z, yn_d, one31, Nat.add_sub_cancel, Nat.not_lt_zero, if_true, if_false, ite_true, ite_false, Bool.true_eq_false, Bool.false_eq_true, Nat.add_zero, Nat.zero_add]
      have key := bM_le (o := bst (bP D) (bW D) t) (bW_lt (D := D) t) (fun q h => bst_lt (bW_lt (D := D)) h)
      by_cases hk : ∃ q, bst (bP D) (bW D) t = some q ∧ bW D t ≤ q.2
      · rw [if_pos (by rw [← key] at hk; exact hk)]
        obtain ⟨q, h1, h2⟩ := hk
        rw [bst_keep (P := bP D) hb h1 h2] at this
        exact this
      · rw [if_neg (by rw [← key] at hk; exact hk)]
        rw [bst_new (P := bP D) hb hk] at this
        exact this
theorem m_best7 (hR : Lay R) (hV : VD D) : ∀ (r t f : Nat) (I : Iw), MR I 66 D → t + r = d_n D → r < f →
    ∃ I', f_X12_best_7 (S0 ++ J) R f I 65 (bG (bst (bP D) (bW D) t)) (bM (bst (bP D) (bW D) t)) (nI t) = some (I', bG (bst (bP D) (bW D) (d_n D))) ∧ fr7 I I' := by
  have h9 := hV.1
  intro r
  induction r with
  | zero =>
    intro t f I hM ht hf
    have c3 : I 66 3 = nI (d_n D) := hM.2.2.2.1
    obtain ⟨f, rfl⟩ := Nat.exists_eq_succ_of_ne_zero (n := f) (by omega)
    refine ⟨I, ?_, fr7_r I⟩
    rw [f_X12_best_7]
    simp (disch := omega) only [so_65, ao_66, ly_65_0 hR, ly_65_1 hR, ly_65_2 hR, ly_65_4 hR, ly_65_11 hR, ly_65_13 hR, ly_65_14 hR, ly_65_15 hR, ly_65_16 hR, ly_65_17 hR, ly_65_18 hR, ly_65_19 hR, ly_65_20 hR, ly_65_22 hR, ly_65_24 hR, ly_65_25 hR, ly_65_26 hR, ly_65_27 hR, ly_65_28 hR, ly_65_29 hR, ly_65_30 hR, c3, lit, gp1, rl1, rs1, bd1, lt1, n_add, n_sub, n_dec, n_le, n_lt, n_eq, n_in, nI_clamp, n_mul, m_or, m_and, m_pow, m_bit, m_dif, n_neg, yn_0, yn_1, yn_z, yn_d, one31, Nat.add_sub_cancel, Nat.not_lt_zero, if_true, if_false, ite_true, ite_false, Bool.true_eq_false, Bool.false_eq_true, Nat.add_zero, Nat.zero_add]
    rw [if_pos (by omega), show t = d_n D by omega]
  | succ r ih =>
    intro t f I hM ht hf
    have c3 : I 66 3 = nI (d_n D) := hM.2.2.2.1
    obtain ⟨f, rfl⟩ := Nat.exists_eq_succ_of_ne_zero (n := f) (by omega)
    have hb := mayb_fre (D := D) (s := insm D) (l := lst D) (show t < d_n D by omega)
    rw [f_X12_best_7]
    simp (disch := omega) only [so_65, ao_66, ly_65_0 hR, ly_65_1 hR, ly_65_2 hR, ly_65_4 hR, ly_65_11 hR, ly_65_13 hR, ly_65_14 hR, ly_65_15 hR, ly_65_16 hR, ly_65_17 hR, ly_65_18 hR, ly_65_19 hR, ly_65_20 hR, ly_65_22 hR, ly_65_24 hR, ly_65_25 hR, ly_65_26 hR, ly_65_27 hR, ly_65_28 hR, ly_65_29 hR, ly_65_30 hR, c3, m_mayGo hR hM hV (show t < d_n D by omega), f_X12_best_60, f_X12_best_52, hb, lit, gp1, rl1, rs1, bd1, lt1, n_add, n_sub, n_dec, n_le, n_lt, n_eq, n_in, nI_clamp, n_mul, m_or, m_and, m_pow, m_bit, m_dif, n_neg, yn_0, yn_1, yn_z, yn_d, one31, Nat.add_sub_cancel, Nat.not_lt_zero, if_true, if_false, ite_true, ite_false, Bool.true_eq_false, Bool.false_eq_true, Nat.add_zero, Nat.zero_add]
    rw [if_neg (by omega)]
    cases hbt : (fre D (insm D) (lst D)).testBit t with
    | false =>
      have := ih (t + 1) f I hM (by omega) (by omega)
      rw [bst_none (P := bP D) hbt] at this
      rw [if_pos rfl]
      exact this
    | true =>
      obtain ⟨hi, _, hV2, hin, hls, hc⟩ := fre_t hV hbt
      have hc9 := cnt_9 (insm_512 D)
      obtain ⟨I1, o1, o2, o3, o4⟩ := m_outback (J := J) hR hM hV hi
      obtain ⟨I2, w1, w2⟩ := m_ways (J := J) hR (cnt (insm (Dout D t))) 12 (by omega) (Dout D t) I1 rfl o2 hV2
      obtain ⟨I3, b1, b2⟩ := o4 I2 w2
      obtain ⟨I', q1, q2⟩ := ih (t + 1) f I3 (MR_fr (fun j => b2 66 j (by decide)) hM) (by omega) (by omega)
      have hw : nI (oW (fre (Dout D t)) (cnt (insm (Dout D t))) (insm (Dout D t)) (lst (Dout D t))) = nI (bW D t) := by
        rw [hin, hls]; rfl
      rw [hw] at w1
      refine ⟨I', ?_, fun a j h => by rw [q2 a j h, b2 a j h]⟩
      rw [if_neg (by decide), o1]
      simp only [bd1, w1, b1]
      have key := bM_le (o := bst (bP D) (bW D) t) (bW_lt (D := D) t) (fun q h => bst_lt (bW_lt (D := D)) h)
      have bwt := bW_lt (D := D) t
      by_cases hk : ∃ q, bst (bP D) (bW D) t = some q ∧ bW D t ≤ q.2
      · rw [if_pos (by rw [← key] at hk; exact hk)]
        obtain ⟨q, h1, h2⟩ := hk
        have hq := bst_lt (bW_lt (D := D)) h1
        rw [bst_keep (P := bP D) hbt h1 h2, h1] at q1
        rw [h1, bM, jmax_n (by omega) (by omega), Nat.max_eq_left h2]
        exact q1
      · rw [if_neg (by rw [← key] at hk; exact hk)]
        rw [bst_new (P := bP D) hbt hk] at q1
        have hj : jmax (bM (bst (bP D) (bW D) t)) (nI (bW D t)) = nI (bW D t) := by
          cases e : bst (bP D) (bW D) t with
          | none => rw [bM, jmax, if_pos (by rw [n_mone_lt (by omega)]; trivial)]
          | some q =>
            have hq := bst_lt (bW_lt (D := D)) e
            have : ¬ bW D t ≤ q.2 := fun z => hk ⟨q, e, z⟩
            rw [bM, jmax_n (by omega) (by omega), Nat.max_eq_right (by omega)]
        rw [hj]
        exact q1
theorem z_best (hR : Lay R) (h : Core I D T) (hT2 : T + 16 < 2 ^ 30) : ZZ I T (f_X11_best (S0 ++ J) R I 0) (fun I1 => f_X12_best (S0 ++ J) R I1 65) := by
  have ⟨hC, hM, hV, hT⟩ := h
  have h9 := hV.1
  obtain ⟨I1, T1, e1, t1, s1, f1⟩ := p_study (J := J) hR hC hV hT (by omega)
  have hM1 : MR I1 66 D := MR_fr (fun j => f1 66 j (by omega)) hM
  obtain ⟨I2, w1, w2⟩ := m_best7 (J := J) hR hV (d_n D) 0 512 I1 hM1 (by omega) (by omega)
  have hq := q_best21 (J := J) hR hV s1 9 0 512 rfl (by decide)
  have hx : bst (bP D) (bW D) 9 = bst (bP D) (bW D) (d_n D) := bst_ext (fun i hi => fre_hi hi) 9 h9
  rw [hx] at hq
  refine ZZ_O h (r := bG (bst (bP D) (bW D) (d_n D))) ?_ w1 (fun a j q => f1 a j (by omega)) (frF_7 w2) (ST_up (by omega) (ST_of s1.1))
  simp (disch := omega) only [f_X11_best, so_0, ly_0_0 hR, ly_0_1 hR, ly_0_3 hR, ly_0_4 hR, ly_0_5 hR, ly_0_7 hR, ly_0_8 hR, ly_0_9 hR, ly_0_10 hR, so_44, ly_44_0 hR, ly_44_1 hR, ly_44_3 hR, ly_44_4 hR, ly_44_5 hR, ly_44_6 hR, ly_44_7 hR, ly_44_10 hR, e1, q_may hR s1.1.1 hV, lit, gp1, rl1, rs1, bd1, lt1, n_add, n_sub, n_dec, n_le, n_lt, n_eq, n_in, nI_clamp, n_mul, m_or, m_and, m_pow, m_bit, m_dif, n_neg, yn_0, yn_1, yn_z, yn_d, one31, Nat.add_sub_cancel, Nat.not_lt_zero, if_true, if_false, ite_true, ite_false, Bool.true_eq_false, Bool.false_eq_true, Nat.add_zero, Nat.zero_add]
  exact hq
theorem p_wins (hR : Lay R) (hV : VD D) (s1 : SD I D T) {s l : Nat} (m : MkD I D T s l) : f_X2_wins (S0 ++ J) R I 44 (nI s) (nI l - nI 1) = some (yn (Xy D s l)) := by
  have h9 := hV.1
  obtain ⟨a1, a2, a3, a4⟩ := mk_ent hV s1 m
  have hl9 : l ≤ 9 := by have := m.2.1; omega
  have hix : ix s l < 5120 := by have := m.1; unfold ix; omega
  have hms := m.1
  simp (disch := omega) only [f_X2_wins, so_44, ao_45, ao_46, ao_47, ao_48, ao_49, ly_44_0 hR, ly_44_1 hR, ly_44_3 hR, ly_44_4 hR, ly_44_5 hR, ly_44_6 hR, ly_44_7 hR, ly_44_10 hR, x_state hms hl9, a4, lit, gp1, rl1, rs1, bd1, lt1, n_add, n_sub, n_dec, n_le, n_lt, n_eq, n_in, nI_clamp, n_mul, m_or, m_and, m_pow, m_bit, m_dif, n_neg, yn_0, yn_1, yn_z, yn_d, one31, Nat.add_sub_cancel, Nat.not_lt_zero, if_true, if_false, ite_true, ite_false, Bool.true_eq_false, Bool.false_eq_true, Nat.add_zero, Nat.zero_add]
  rfl
theorem z_game (hR : Lay R) (h : Core I D T) (hT2 : T + 16 < 2 ^ 30) : ZZ I T (f_X11_game (S0 ++ J) R I 0) (fun I1 => f_X12_game (S0 ++ J) R I1 65) := by
  have ⟨hC, hM, hV, hT⟩ := h
  have h9 := hV.1
  have hc := cnt_9 (insm_512 D)
  obtain ⟨I1, T1, e1, t1, s1, f1⟩ := p_study (J := J) hR hC hV hT (by omega)
  have hM1 : MR I1 66 D := MR_fr (fun j => f1 66 j (by omega)) hM
  obtain ⟨I2, w1, w2⟩ := m_wins (J := J) hR (cnt (insm D)) 12 (by omega) D I1 rfl hM1 hV
  have c6 : I1 1 6 = nI (insm D) := s1.1.1.1.2.1
  have hX : oX (fre D) (cnt (insm D)) (insm D) (lst D) = Xy D (insm D) (lst D) := rfl
  refine ZZ_O h (r := yn (Xy D (insm D) (lst D))) ?_ ?_ (fun a j q => f1 a j (by omega)) (frF_7 w2) (ST_up (by omega) (ST_of s1.1))
  · simp (disch := omega) only [f_X11_game, so_0, so_1, ly_0_0 hR, ly_0_1 hR, ly_0_3 hR, ly_0_4 hR, ly_0_5 hR, ly_0_7 hR, ly_0_8 hR, ly_0_9 hR, ly_0_10 hR, ly_1_0 hR, ly_1_1 hR, ly_1_2 hR, ly_1_3 hR, ly_1_4 hR, ly_1_7 hR, ly_1_11 hR, ly_1_12 hR, ly_1_13 hR, so_44, ly_44_0 hR, ly_44_1 hR, ly_44_3 hR, ly_44_4 hR, ly_44_5 hR, ly_44_6 hR, ly_44_7 hR, ly_44_10 hR, e1, q_last hR s1.1.1 hV, c6, p_wins hR hV s1 (mk_root hV s1), lit, gp1, rl1, rs1, bd1, lt1, n_add, n_sub, n_dec, n_le, n_lt, n_eq, n_in, nI_clamp, n_mul, m_or, m_and, m_pow, m_bit, m_dif, n_neg, yn_0, yn_1, yn_z, yn_d, one31, Nat.add_sub_cancel, Nat.not_lt_zero, if_true, if_false, ite_true, ite_false, Bool.true_eq_false, Bool.false_eq_true, Nat.add_zero, Nat.zero_add]
    cases Xy D (insm D) (lst D) <;> rfl
  · simp (disch := omega) only [f_X12_game, so_65, ly_65_0 hR, ly_65_1 hR, ly_65_2 hR, ly_65_4 hR, ly_65_11 hR, ly_65_13 hR, ly_65_14 hR, ly_65_15 hR, ly_65_16 hR, ly_65_17 hR, ly_65_18 hR, ly_65_19 hR, ly_65_20 hR, ly_65_22 hR, ly_65_24 hR, ly_65_25 hR, ly_65_26 hR, ly_65_27 hR, ly_65_28 hR, ly_65_29 hR, ly_65_30 hR, w1, hX, lit, gp1, rl1, rs1, bd1, lt1, n_add, n_sub, n_dec, n_le, n_lt, n_eq, n_in, nI_clamp, n_mul, m_or, m_and, m_pow, m_bit, m_dif, n_neg, yn_0, yn_1, yn_z, yn_d, one31, Nat.add_sub_cancel, Nat.not_lt_zero, if_true, if_false, ite_true, ite_false, Bool.true_eq_false, Bool.false_eq_true, Nat.add_zero, Nat.zero_add]
    cases Xy D (insm D) (lst D) <;> rfl
def plP (D : Dt) (g : Nat) : Bool := (fre D (insm D) (lst D)).testBit g && !Xy D (mdiff (insm D) (2 ^ g)) (g + 1)
theorem q_play15 (hR : Lay R) (hV : VD D) (s1 : SD I D T) : ∀ (r t f : Nat), t + r = 9 → r < f →
    f_X11_play_15 (S0 ++ J) R f I 0 (nI (fre D (insm D) (lst D))) (nI t) = some (I, noO (fndR (plP D) t r)) := by
  have h9 := hV.1
  have hi := insm_512 D
  have hf := fre_lt hV (insm D) (lst D)
  have c6 : I 1 6 = nI (insm D) := s1.1.1.1.2.1
  intro r
  induction r with
  | zero =>
    intro t f ht hf
    obtain ⟨f, rfl⟩ := Nat.exists_eq_succ_of_ne_zero (n := f) (by omega)
    have : t = 9 := by omega
    subst this
    rw [f_X11_play_15, if_pos (by decide)]; rfl
  | succ r ih =>
    intro t f ht hfu
    obtain ⟨f, rfl⟩ := Nat.exists_eq_succ_of_ne_zero (n := f) (by omega)
    have := ih (t + 1) f (by omega) (by omega)
    have ht10 : t < 10 := by omega
    have hi10 : insm D < 1024 := by omega
    rw [f_X11_play_15]
    simp (disch := omega) only [x_holds hf ht10, f_X11_play_53, this, lit, gp1, rl1, rs1, bd1, lt1, n_add, n_sub, n_dec, n_le, n_lt, n_eq, n_in, nI_clamp, n_mul, m_or, m_and, m_pow, m_bit, m_dif, n_neg, yn_0, yn_1, yn_z, yn_d, one31, Nat.add_sub_cancel, Nat.not_lt_zero, if_true, if_false, ite_true, ite_false, Bool.true_eq_false, Bool.false_eq_true, Nat.add_zero, Nat.zero_add]
    rw [if_neg (by omega), fndR, plP]
    cases hb : (fre D (insm D) (lst D)).testBit t with
    | false => rfl
    | true =>
      have m2 := mk_next hV s1 (mk_root hV s1) hb
      have hw := p_wins (J := J) hR hV s1 m2
      rw [n_pred] at hw
      rw [if_neg (by decide)]
      simp (disch := omega) only [so_0, so_1, ly_0_0 hR, ly_0_1 hR, ly_0_3 hR, ly_0_4 hR, ly_0_5 hR, ly_0_7 hR, ly_0_8 hR, ly_0_9 hR, ly_0_10 hR, ly_1_0 hR, ly_1_1 hR, ly_1_2 hR, ly_1_3 hR, ly_1_4 hR, ly_1_7 hR, ly_1_11 hR, ly_1_12 hR, ly_1_13 hR, so_44, ly_44_0 hR, ly_44_1 hR, ly_44_3 hR, ly_44_4 hR, ly_44_5 hR, ly_44_6 hR, ly_44_7 hR, ly_44_10 hR, c6, x_without hi10 ht10, hw, lit, gp1, rl1, rs1, bd1, lt1, n_add, n_sub, n_dec, n_le, n_lt, n_eq, n_in, nI_clamp, n_mul, m_or, m_and, m_pow, m_bit, m_dif, n_neg, yn_0, yn_1, yn_z, yn_d, one31, Nat.add_sub_cancel, Nat.not_lt_zero, if_true, if_false, ite_true, ite_false, Bool.true_eq_false, Bool.false_eq_true, Nat.add_zero, Nat.zero_add]
      cases Xy D (mdiff (insm D) (2 ^ t)) (t + 1) <;> rfl
theorem m_play5 (hR : Lay R) (hV : VD D) : ∀ (r t f : Nat) (I : Iw), MR I 66 D → t + r = d_n D → r + 1 < f →
    ∃ I', f_X12_play_5 (S0 ++ J) R f I 65 (-nI 3) (nI t) = some (I', noO (fndR (plP D) t r)) ∧ fr7 I I' := by
  have h9 := hV.1
  intro r
  induction r with
  | zero =>
    intro t f I hM ht hf
    have c3 : I 66 3 = nI (d_n D) := hM.2.2.2.1
    obtain ⟨f, rfl⟩ := Nat.exists_eq_succ_of_ne_zero (n := f) (by omega)
    refine ⟨I, ?_, fr7_r I⟩
    rw [f_X12_play_5]
    simp (disch := omega) only [so_65, ao_66, ly_65_0 hR, ly_65_1 hR, ly_65_2 hR, ly_65_4 hR, ly_65_11 hR, ly_65_13 hR, ly_65_14 hR, ly_65_15 hR, ly_65_16 hR, ly_65_17 hR, ly_65_18 hR, ly_65_19 hR, ly_65_20 hR, ly_65_22 hR, ly_65_24 hR, ly_65_25 hR, ly_65_26 hR, ly_65_27 hR, ly_65_28 hR, ly_65_29 hR, ly_65_30 hR, c3, lit, gp1, rl1, rs1, bd1, lt1, n_add, n_sub, n_dec, n_le, n_lt, n_eq, n_in, nI_clamp, n_mul, m_or, m_and, m_pow, m_bit, m_dif, n_neg, yn_0, yn_1, yn_z, yn_d, one31, Nat.add_sub_cancel, Nat.not_lt_zero, if_true, if_false, ite_true, ite_false, Bool.true_eq_false, Bool.false_eq_true, Nat.add_zero, Nat.zero_add]
    rw [if_pos (by omega)]; rfl
  | succ r ih =>
    intro t f I hM ht hf
    have c3 : I 66 3 = nI (d_n D) := hM.2.2.2.1
    obtain ⟨f, rfl⟩ := Nat.exists_eq_succ_of_ne_zero (n := f) (by omega)
    have hb := mayb_fre (D := D) (s := insm D) (l := lst D) (show t < d_n D by omega)
    rw [f_X12_play_5]
    simp (disch := omega) only [so_65, ao_66, ly_65_0 hR, ly_65_1 hR, ly_65_2 hR, ly_65_4 hR, ly_65_11 hR, ly_65_13 hR, ly_65_14 hR, ly_65_15 hR, ly_65_16 hR, ly_65_17 hR, ly_65_18 hR, ly_65_19 hR, ly_65_20 hR, ly_65_22 hR, ly_65_24 hR, ly_65_25 hR, ly_65_26 hR, ly_65_27 hR, ly_65_28 hR, ly_65_29 hR, ly_65_30 hR, c3, m_mayGo hR hM hV (show t < d_n D by omega), f_X12_play_53, f_X12_play_47, hb, lit, gp1, rl1, rs1, bd1, lt1, n_add, n_sub, n_dec, n_le, n_lt, n_eq, n_in, nI_clamp, n_mul, m_or, m_and, m_pow, m_bit, m_dif, n_neg, yn_0, yn_1, yn_z, yn_d, one31, Nat.add_sub_cancel, Nat.not_lt_zero, if_true, if_false, ite_true, ite_false, Bool.true_eq_false, Bool.false_eq_true, Nat.add_zero, Nat.zero_add]
    rw [if_neg (by omega), fndR, plP]
    cases hbt : (fre D (insm D) (lst D)).testBit t with
    | false =>
      have := ih (t + 1) f I hM (by omega) (by omega)
      exact this
    | true =>
      obtain ⟨hi, _, hV2, hin, hls, hc⟩ := fre_t hV hbt
      have hc9 := cnt_9 (insm_512 D)
      obtain ⟨I1, o1, o2, o3, o4⟩ := m_outback (J := J) hR hM hV hi
      obtain ⟨I2, w1, w2⟩ := m_wins (J := J) hR (cnt (insm (Dout D t))) 12 (by omega) (Dout D t) I1 rfl o2 hV2
      obtain ⟨I3, b1, b2⟩ := o4 I2 w2
      have hM3 : MR I3 66 D := MR_fr (fun j => b2 66 j (by decide)) hM
      obtain ⟨I', q1, q2⟩ := ih (t + 1) f I3 hM3 (by omega) (by omega)
      have hw : oX (fre (Dout D t)) (cnt (insm (Dout D t))) (insm (Dout D t)) (lst (Dout D t)) = Xy D (mdiff (insm D) (2 ^ t)) (t + 1) := by
        rw [hin, hls]; rfl
      rw [hw] at w1
      rw [Bool.true_and, if_neg (by decide), o1]
      simp only [bd1, w1, b1]
      cases hx : Xy D (mdiff (insm D) (2 ^ t)) (t + 1) with
      | true =>
        rw [if_neg (by decide)]
        exact ⟨I', q1, fun a j h => by rw [q2 a j h, b2 a j h]⟩
      | false =>
        rw [if_pos (by rfl), if_pos (by rfl)]
        obtain ⟨f', hf'⟩ := Nat.exists_eq_succ_of_ne_zero (n := f) (by omega)
        have c3' : I3 66 3 = nI (d_n D) := hM3.2.2.2.1
        have z : (nI t = -nI 3) = False := n_nn (by omega) (by decide) (by decide)
        refine ⟨I3, ?_, b2⟩
        rw [hf', f_X12_play_5]
        simp (disch := omega) only [so_65, ao_66, ly_65_0 hR, ly_65_1 hR, ly_65_2 hR, ly_65_4 hR, ly_65_11 hR, ly_65_13 hR, ly_65_14 hR, ly_65_15 hR, ly_65_16 hR, ly_65_17 hR, ly_65_18 hR, ly_65_19 hR, ly_65_20 hR, ly_65_22 hR, ly_65_24 hR, ly_65_25 hR, ly_65_26 hR, ly_65_27 hR, ly_65_28 hR, ly_65_29 hR, ly_65_30 hR, c3', z, lit, gp1, rl1, rs1, bd1, lt1, n_add, n_sub, n_dec, n_le, n_lt, n_eq, n_in, nI_clamp, n_mul, m_or, m_and, m_pow, m_bit, m_dif, n_neg, yn_0, yn_1, yn_z, yn_d, one31, Nat.add_sub_cancel, Nat.not_lt_zero, if_true, if_false, ite_true, ite_false, Bool.true_eq_false, Bool.false_eq_true, Nat.add_zero, Nat.zero_add]
        split <;> rfl
theorem z_play (hR : Lay R) (h : Core I D T) (hT2 : T + 16 < 2 ^ 30) : ZZ I T (f_X11_play (S0 ++ J) R I 0) (fun I1 => f_X12_play (S0 ++ J) R I1 65) := by
  have ⟨hC, hM, hV, hT⟩ := h
  have h9 := hV.1
  obtain ⟨I1, T1, e1, t1, s1, f1⟩ := p_study (J := J) hR hC hV hT (by omega)
  have hM1 : MR I1 66 D := MR_fr (fun j => f1 66 j (by omega)) hM
  obtain ⟨I2, w1, w2⟩ := m_play5 (J := J) hR hV (d_n D) 0 512 I1 hM1 (by omega) (by omega)
  have hq := q_play15 (J := J) hR hV s1 9 0 512 rfl (by decide)
  have hx : fndR (plP D) 0 9 = fndR (plP D) 0 (d_n D) := by
    have := fndR_ext (P := plP D) (m := 9 - d_n D) (k := d_n D) (t := 0) (fun i hi => by rw [plP, fre_hi (by omega), Bool.false_and])
    rw [show d_n D + (9 - d_n D) = 9 by omega] at this
    exact this
  rw [hx] at hq
  refine ZZ_O h (r := noO (fndR (plP D) 0 (d_n D))) ?_ w1 (fun a j q => f1 a j (by omega)) (frF_7 w2) (ST_up (by omega) (ST_of s1.1))
  simp (disch := omega) only [f_X11_play, so_0, ly_0_0 hR, ly_0_1 hR, ly_0_3 hR, ly_0_4 hR, ly_0_5 hR, ly_0_7 hR, ly_0_8 hR, ly_0_9 hR, ly_0_10 hR, so_44, ly_44_0 hR, ly_44_1 hR, ly_44_3 hR, ly_44_4 hR, ly_44_5 hR, ly_44_6 hR, ly_44_7 hR, ly_44_10 hR, e1, q_may hR s1.1.1 hV, lit, gp1, rl1, rs1, bd1, lt1, n_add, n_sub, n_dec, n_le, n_lt, n_eq, n_in, nI_clamp, n_mul, m_or, m_and, m_pow, m_bit, m_dif, n_neg, yn_0, yn_1, yn_z, yn_d, one31, Nat.add_sub_cancel, Nat.not_lt_zero, if_true, if_false, ite_true, ite_false, Bool.true_eq_false, Bool.false_eq_true, Nat.add_zero, Nat.zero_add]
  exact hq
end CALLS5
