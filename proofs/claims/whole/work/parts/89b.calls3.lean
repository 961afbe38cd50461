/-! CALLS: where the crate came -/
theorem q_bit {m t : Nat} (ht : t < 31) (hm : m < 1024) : ((nI m >>> (nI t &&& 31)) &&& 1) = yn (m.testBit t) := by rw [m_in ht hm, yn_i]
def loB (m : Nat) : Nat → Option Nat
  | 0 => none
  | t + 1 => match loB m t with | some k => some k | none => if m.testBit t then some t else none
def hiB (m : Nat) : Nat → Option Nat
  | 0 => none
  | t + 1 => if m.testBit t then some t else hiB m t
theorem loB_lt {m : Nat} : ∀ {t k : Nat}, loB m t = some k → k < t
  | 0, _, h => by cases h
  | t + 1, k, h => by
    rw [loB] at h
    cases e : loB m t with
    | some j => rw [e] at h; cases h; have := loB_lt e; omega
    | none =>
      rw [e] at h
      simp only at h
      split at h
      · cases h; omega
      · cases h
theorem noO_n {o : Option Nat} (h : ∀ k, o = some k → k < 2 ^ 31) : (noO o = -nI 3) = (o = none) := by
  cases o with
  | none => simp [noO]
  | some k => rw [noO, n_nn (h k rfl) (by decide) (by decide)]; simp
section CALLS3
variable {J : Sh} {R : Rw} {I : Iw} {D : Dt} {T : Nat}
theorem m_could (hR : Lay R) (hM : MR I 66 D) (hV : VD D) {g p : Nat} (hg : g < d_n D) (hp : p < 20) : f_X12_could (S0 ++ J) R I 65 (nI g) (nI p) = some (yn (couldb D g p)) := by
  have h9 := hV.1
  have v := hV.2.2.2.2.1 g hg
  have v6 := hV.2.2.2.2.2.1
  have c0 : I 66 0 = nI (d_ga D) := hM.1
  simp (disch := omega) only [so_65, ao_66, ly_65_0 hR, ly_65_1 hR, ly_65_2 hR, ly_65_4 hR, ly_65_11 hR, ly_65_13 hR, ly_65_14 hR, ly_65_15 hR, ly_65_16 hR, ly_65_17 hR, ly_65_18 hR, ly_65_19 hR, ly_65_20 hR, ly_65_22 hR, ly_65_24 hR, ly_65_25 hR, ly_65_26 hR, ly_65_27 hR, ly_65_28 hR, ly_65_29 hR, ly_65_30 hR, f_X12_could, f_X12_could_34, m_kd hR hM hV hg, c0, n_lts, lit, gp1, rl1, rs1, bd1, lt1, n_add, n_sub, n_dec, n_le, n_lt, n_eq, n_in, nI_clamp, n_mul, m_or, m_and, m_pow, m_bit, m_dif, n_neg, yn_0, yn_1, yn_z, yn_d, one31, Nat.add_sub_cancel, Nat.not_lt_zero, if_true, if_false, ite_true, ite_false, Bool.true_eq_false, Bool.false_eq_true, Nat.add_zero, Nat.zero_add]
  unfold couldb
  by_cases e : d_kd D g = 3
  · rw [if_pos e, e]; rfl
  · rw [if_neg e, show (d_kd D g == 3) = false by simpa using e]
    by_cases e1 : g + d_ga D < p
    · rw [if_pos e1]; simp [e1, yn]
    · rw [if_neg e1]
      by_cases e2 : g < p + d_ga D
      · rw [if_pos e2]
        have : ¬ p + d_ga D ≤ g := by omega
        simp [e1, this, yn]
      · rw [if_neg e2]
        have : p + d_ga D ≤ g := by omega
        simp [this, yn]
theorem m_fits5 (hR : Lay R) (hM : MR I 66 D) (hV : VD D) {p : Nat} (hp : p < 20) (x : Int32) : ∀ (k t f : Nat) (b : Bool), t + k = d_np D → k < f →
    f_X12_fits_5 (S0 ++ J) R I f 65 (nI p) x (yn b) (nI t) = some (yn (b && allF (fitP D p x) t k)) := by
  have h6 := hV.2.2.2.2.2.2.2.1
  have h9 := hV.1
  have c6 : I 66 6 = nI (d_np D) := hM.2.2.2.2.2.2.1
  intro k
  induction k with
  | zero =>
    intro t f b ht hf
    obtain ⟨f, rfl⟩ := Nat.exists_eq_succ_of_ne_zero (n := f) (by omega)
    rw [f_X12_fits_5]
    simp (disch := omega) only [so_65, ao_66, ly_65_0 hR, ly_65_1 hR, ly_65_2 hR, ly_65_4 hR, ly_65_11 hR, ly_65_13 hR, ly_65_14 hR, ly_65_15 hR, ly_65_16 hR, ly_65_17 hR, ly_65_18 hR, ly_65_19 hR, ly_65_20 hR, ly_65_22 hR, ly_65_24 hR, ly_65_25 hR, ly_65_26 hR, ly_65_27 hR, ly_65_28 hR, ly_65_29 hR, ly_65_30 hR, c6, lit, gp1, rl1, rs1, bd1, lt1, n_add, n_sub, n_dec, n_le, n_lt, n_eq, n_in, nI_clamp, n_mul, m_or, m_and, m_pow, m_bit, m_dif, n_neg, yn_0, yn_1, yn_z, yn_d, one31, Nat.add_sub_cancel, Nat.not_lt_zero, if_true, if_false, ite_true, ite_false, Bool.true_eq_false, Bool.false_eq_true, Nat.add_zero, Nat.zero_add]
    rw [if_pos (by omega), allF, Bool.and_true]
  | succ k ih =>
    intro t f b ht hf
    obtain ⟨f, rfl⟩ := Nat.exists_eq_succ_of_ne_zero (n := f) (by omega)
    have vt := hV.2.2.2.2.2.2.2.2 t (by omega)
    have cp := hM.2.2.2.2.2.2.2.2.2.2.1 t (by omega)
    have cp1 := cp.1
    have cp2 : I 66 (61 + 2 * t + 1) = nI (d_pc D t) := by rw [show 61 + 2 * t + 1 = 62 + 2 * t by omega]; exact cp.2
    have i1 := ih (t + 1) f true (by omega) (by omega)
    have i0 := ih (t + 1) f false (by omega) (by omega)
    rw [f_X12_fits_5]
    simp (disch := omega) only [so_65, ao_66, ly_65_0 hR, ly_65_1 hR, ly_65_2 hR, ly_65_4 hR, ly_65_11 hR, ly_65_13 hR, ly_65_14 hR, ly_65_15 hR, ly_65_16 hR, ly_65_17 hR, ly_65_18 hR, ly_65_19 hR, ly_65_20 hR, ly_65_22 hR, ly_65_24 hR, ly_65_25 hR, ly_65_26 hR, ly_65_27 hR, ly_65_28 hR, ly_65_29 hR, ly_65_30 hR, c6, cp1, cp2, m_could hR hM hV vt.1 hp, f_X12_fits_78, f_X12_fits_74, f_X12_fits_71, f_X12_fits_79, lit, gp1, rl1, rs1, bd1, lt1, n_add, n_sub, n_dec, n_le, n_lt, n_eq, n_in, nI_clamp, n_mul, m_or, m_and, m_pow, m_bit, m_dif, n_neg, yn_0, yn_1, yn_z, yn_d, one31, Nat.add_sub_cancel, Nat.not_lt_zero, if_true, if_false, ite_true, ite_false, Bool.true_eq_false, Bool.false_eq_true, Nat.add_zero, Nat.zero_add]
    rw [if_neg (by omega), allF, fitP]
    rw [show nI 0 = yn false from rfl, show nI 1 = yn true from rfl, i0, i1]
    cases b with
    | false => rfl
    | true =>
      rw [if_neg (by decide), Bool.true_and, Bool.true_and, Bool.false_and]
      by_cases e : nI t = x
      · rw [if_pos e, decide_eq_true e, Bool.true_or, Bool.true_and]
      · rw [if_neg e, decide_eq_false e]
        have h01 : d_pc D t = 0 ∨ d_pc D t = 1 := by omega
        rcases h01 with q | q <;> rw [q] <;> cases couldb D (d_pg D t) p <;> cases allF (fitP D p x) (t + 1) k <;> rfl
theorem m_fits (hR : Lay R) (hM : MR I 66 D) (hV : VD D) {p : Nat} (hp : p < 20) (x : Int32) : f_X12_fits (S0 ++ J) R I 65 (nI p) x = some (yn (fitb D p x)) := by
  have h6 := hV.2.2.2.2.2.2.2.1
  exact m_fits5 hR hM hV hp x (d_np D) 0 512 true (by omega) (by omega)
def plM (D : Dt) (x : Int32) : Nat := mk (fun p => fitb D p x) (d_n D + 1)
theorem plM_lt (hV : VD D) (x : Int32) : plM D x < 1024 := mk_lt _ _ (by have := hV.1; omega)
theorem m_fitting4 (hR : Lay R) (hM : MR I 66 D) (hV : VD D) (x : Int32) : ∀ (k t f : Nat), t + k = d_n D + 1 → k < f →
    f_X12_fitting_4 (S0 ++ J) R I f 65 x (nI (mk (fun p => fitb D p x) t)) (nI t) = some (nI (plM D x)) := by
  have h9 := hV.1
  have c3 : I 66 3 = nI (d_n D) := hM.2.2.2.1
  intro k
  induction k with
  | zero =>
    intro t f ht hf
    obtain ⟨f, rfl⟩ := Nat.exists_eq_succ_of_ne_zero (n := f) (by omega)
    rw [f_X12_fitting_4]
    simp (disch := omega) only [so_65, ao_66, ly_65_0 hR, ly_65_1 hR, ly_65_2 hR, ly_65_4 hR, ly_65_11 hR, ly_65_13 hR, ly_65_14 hR, ly_65_15 hR, ly_65_16 hR, ly_65_17 hR, ly_65_18 hR, ly_65_19 hR, ly_65_20 hR, ly_65_22 hR, ly_65_24 hR, ly_65_25 hR, ly_65_26 hR, ly_65_27 hR, ly_65_28 hR, ly_65_29 hR, ly_65_30 hR, c3, lit, gp1, rl1, rs1, bd1, lt1, n_add, n_sub, n_dec, n_le, n_lt, n_eq, n_in, nI_clamp, n_mul, m_or, m_and, m_pow, m_bit, m_dif, n_neg, yn_0, yn_1, yn_z, yn_d, one31, Nat.add_sub_cancel, Nat.not_lt_zero, if_true, if_false, ite_true, ite_false, Bool.true_eq_false, Bool.false_eq_true, Nat.add_zero, Nat.zero_add]
    rw [if_pos (by omega), show t = d_n D + 1 by omega]; rfl
  | succ k ih =>
    intro t f ht hf
    obtain ⟨f, rfl⟩ := Nat.exists_eq_succ_of_ne_zero (n := f) (by omega)
    have := ih (t + 1) f (by omega) (by omega)
    rw [mk_s] at this
    rw [f_X12_fitting_4]
    simp (disch := omega) only [so_65, ao_66, ly_65_0 hR, ly_65_1 hR, ly_65_2 hR, ly_65_4 hR, ly_65_11 hR, ly_65_13 hR, ly_65_14 hR, ly_65_15 hR, ly_65_16 hR, ly_65_17 hR, ly_65_18 hR, ly_65_19 hR, ly_65_20 hR, ly_65_22 hR, ly_65_24 hR, ly_65_25 hR, ly_65_26 hR, ly_65_27 hR, ly_65_28 hR, ly_65_29 hR, ly_65_30 hR, c3, f_X12_fitting_31, m_fits hR hM hV (show t < 20 by omega), lit, gp1, rl1, rs1, bd1, lt1, n_add, n_sub, n_dec, n_le, n_lt, n_eq, n_in, nI_clamp, n_mul, m_or, m_and, m_pow, m_bit, m_dif, n_neg, yn_0, yn_1, yn_z, yn_d, one31, Nat.add_sub_cancel, Nat.not_lt_zero, if_true, if_false, ite_true, ite_false, Bool.true_eq_false, Bool.false_eq_true, Nat.add_zero, Nat.zero_add]
    rw [if_neg (by omega)]
    cases hb : fitb D t x with
    | true => rw [hb, if_pos rfl] at this; rw [if_neg (by decide)]; exact this
    | false => rw [hb, if_neg (by decide), Nat.or_zero] at this; rw [if_pos rfl, Nat.or_zero]; exact this
theorem m_fitting (hR : Lay R) (hM : MR I 66 D) (hV : VD D) (x : Int32) : f_X12_fitting (S0 ++ J) R I 65 x = some (nI (plM D x)) := by
  have h9 := hV.1
  exact m_fitting4 hR hM hV x (d_n D + 1) 0 512 (by omega) (by omega)
theorem q_places (hR : Lay R) (hC : CR I 1 D) (hV : VD D) (x : Int32) : f_X7_placesBut (S0 ++ J) R I 1 x = some (nI (plM D x)) := p_places hR hC.1 hV x
theorem q_span35 {S : Sh} {m w : Nat} (hm : m < 1024) (hw : w = 1 ∨ w = 2) : ∀ (k t f : Nat), t + k = 10 → k < f →
    f_X11_span_35 S R I f (nI w) (nI m) (noO (if w = 2 then hiB m t else loB m t)) (nI t) = some (noO (if w = 2 then hiB m 10 else loB m 10)) := by
  intro k
  induction k with
  | zero =>
    intro t f ht hf
    obtain ⟨f, rfl⟩ := Nat.exists_eq_succ_of_ne_zero (n := f) (by omega)
    have : t = 10 := by omega
    subst this
    rw [f_X11_span_35, if_pos (by decide)]
  | succ k ih =>
    intro t f ht hf
    obtain ⟨f, rfl⟩ := Nat.exists_eq_succ_of_ne_zero (n := f) (by omega)
    have := ih (t + 1) f (by omega) (by omega)
    have ht10 : t < 10 := by omega
    rw [f_X11_span_35]
    simp (disch := omega) only [x_holds hm ht10, f_X11_span_65, f_X11_span_62, lit, gp1, rl1, rs1, bd1, lt1, n_add, n_sub, n_dec, n_le, n_lt, n_eq, n_in, nI_clamp, n_mul, m_or, m_and, m_pow, m_bit, m_dif, n_neg, yn_0, yn_1, yn_z, yn_d, one31, Nat.add_sub_cancel, Nat.not_lt_zero, if_true, if_false, ite_true, ite_false, Bool.true_eq_false, Bool.false_eq_true, Nat.add_zero, Nat.zero_add]
    rw [if_neg (by omega)]
    cases hb : m.testBit t with
    | false =>
      rw [if_pos rfl]
      rcases hw with e | e <;> subst e
      · rw [if_neg (by decide)] at this ⊢
        rw [loB, hb] at this
        cases hl : loB m t with
        | none => rw [hl] at this; exact this
        | some j => rw [hl] at this; exact this
      · rw [if_pos rfl] at this ⊢
        rw [hiB, hb, if_neg (by decide)] at this
        exact this
    | true =>
      rw [if_neg (by decide)]
      rcases hw with e | e <;> subst e
      · simp only [show ¬ ((1 : Nat) = 2) by decide, if_false] at this ⊢
        rw [loB, hb] at this
        cases hl : loB m t with
        | none =>
          rw [hl] at this
          rw [if_pos (by rw [noO])]
          exact this
        | some j =>
          rw [hl] at this
          have hj := loB_lt hl
          rw [if_neg (by rw [noO, n_nn (by omega) (by decide) (by decide)]; exact id)]
          exact this
      · rw [if_pos rfl]
        rw [if_pos rfl, hiB, hb, if_pos rfl] at this
        exact this
theorem m_span30 {S : Sh} {m w : Nat} (hm : m < 1024) (hw : w ≤ 2) : ∀ (k t f : Nat), t + k = 10 → k < f →
    f_X12_span_30 S R I f (nI w) (nI m) (nI (cn m t)) (noO (loB m t)) (noO (hiB m t)) (nI t) = some (if w = 0 then nI (cn m 10) else noO (if w = 2 then hiB m 10 else loB m 10)) := by
  intro k
  induction k with
  | zero =>
    intro t f ht hf
    obtain ⟨f, rfl⟩ := Nat.exists_eq_succ_of_ne_zero (n := f) (by omega)
    have : t = 10 := by omega
    subst this
    rw [f_X12_span_30, if_pos (by decide)]
    simp (disch := omega) only [iteS, lit, gp1, rl1, rs1, bd1, lt1, n_add, n_sub, n_dec, n_le, n_lt, n_eq, n_in, nI_clamp, n_mul, m_or, m_and, m_pow, m_bit, m_dif, n_neg, yn_0, yn_1, yn_z, yn_d, one31, Nat.add_sub_cancel, Nat.not_lt_zero, if_true, if_false, ite_true, ite_false, Bool.true_eq_false, Bool.false_eq_true, Nat.add_zero, Nat.zero_add]
    rcases (by omega : w = 0 ∨ w = 1 ∨ w = 2) with e | e | e <;> subst e <;> rfl
  | succ k ih =>
    intro t f ht hf
    obtain ⟨f, rfl⟩ := Nat.exists_eq_succ_of_ne_zero (n := f) (by omega)
    have := ih (t + 1) f (by omega) (by omega)
    have ht10 : t < 31 := by omega
    have hcn : cn m t ≤ t := cn_le t
    rw [f_X12_span_30]
    simp only [q_bit ht10 hm]
    simp (disch := omega) only [f_X12_span_64, f_X12_span_70, lit, gp1, rl1, rs1, bd1, lt1, n_add, n_sub, n_dec, n_le, n_lt, n_eq, n_in, nI_clamp, n_mul, m_or, m_and, m_pow, m_bit, m_dif, n_neg, yn_0, yn_1, yn_z, yn_d, one31, Nat.add_sub_cancel, Nat.not_lt_zero, if_true, if_false, ite_true, ite_false, Bool.true_eq_false, Bool.false_eq_true, Nat.add_zero, Nat.zero_add]
    rw [if_neg (by omega)]
    rw [cn, loB, hiB] at this
    cases hb : m.testBit t with
    | false =>
      rw [hb] at this
      rw [if_neg (by decide)]
      simp only [Bool.false_eq_true, if_false, Nat.add_zero] at this
      cases hl : loB m t with
      | none => rw [hl] at this; exact this
      | some j => rw [hl] at this; exact this
    | true =>
      rw [hb] at this
      rw [if_pos rfl]
      simp only [if_true] at this
      cases hl : loB m t with
      | none =>
        rw [hl] at this
        rw [if_pos (by rw [noO])]
        exact this
      | some j =>
        rw [hl] at this
        have hj := loB_lt hl
        rw [if_neg (by rw [noO, n_nn (by omega) (by decide) (by decide)]; exact id)]
        exact this
theorem z_span (hR : Lay R) (h : Core I D T) (x1 : Int32) : ZQ (f_X11_span (S0 ++ J) R I 0 x1) (f_X12_span (S0 ++ J) R I 65 x1) := by
  have ⟨hC, hM, hV, hT⟩ := h
  have h9 := hV.1
  cases b1 : btw x1 (nI 0) (nI 2) with
  | false => exact ⟨-nI 1, by simp (disch := omega) only [f_X11_span, x_btw, b1, lit, gp1, rl1, rs1, bd1, lt1, n_add, n_sub, n_dec, n_le, n_lt, n_eq, n_in, nI_clamp, n_mul, m_or, m_and, m_pow, m_bit, m_dif, n_neg, yn_0, yn_1, yn_z, yn_d, one31, Nat.add_sub_cancel, Nat.not_lt_zero, if_true, if_false, ite_true, ite_false, Bool.true_eq_false, Bool.false_eq_true, Nat.add_zero, Nat.zero_add], by simp (disch := omega) only [f_X12_span, m_btw, b1, lit, gp1, rl1, rs1, bd1, lt1, n_add, n_sub, n_dec, n_le, n_lt, n_eq, n_in, nI_clamp, n_mul, m_or, m_and, m_pow, m_bit, m_dif, n_neg, yn_0, yn_1, yn_z, yn_d, one31, Nat.add_sub_cancel, Nat.not_lt_zero, if_true, if_false, ite_true, ite_false, Bool.true_eq_false, Bool.false_eq_true, Nat.add_zero, Nat.zero_add]⟩
  | true =>
    obtain ⟨w, -, w2, rfl⟩ := btw_e (by decide) (by decide) b1
    have hm := plM_lt hV (-nI 1)
    refine ⟨if w = 0 then nI (cn (plM D (-nI 1)) 10) else noO (if w = 2 then hiB (plM D (-nI 1)) 10 else loB (plM D (-nI 1)) 10), ?_, ?_⟩
    · simp (disch := omega) only [f_X11_span, x_btw, b1, so_0, so_1, ly_0_0 hR, ly_0_1 hR, ly_0_3 hR, ly_0_4 hR, ly_0_5 hR, ly_0_7 hR, ly_0_8 hR, ly_0_9 hR, ly_0_10 hR, ly_1_0 hR, ly_1_1 hR, ly_1_2 hR, ly_1_3 hR, ly_1_4 hR, ly_1_7 hR, ly_1_11 hR, ly_1_12 hR, ly_1_13 hR, q_places hR hC hV (-nI 1), bitc hm, lit, gp1, rl1, rs1, bd1, lt1, n_add, n_sub, n_dec, n_le, n_lt, n_eq, n_in, nI_clamp, n_mul, m_or, m_and, m_pow, m_bit, m_dif, n_neg, yn_0, yn_1, yn_z, yn_d, one31, Nat.add_sub_cancel, Nat.not_lt_zero, if_true, if_false, ite_true, ite_false, Bool.true_eq_false, Bool.false_eq_true, Nat.add_zero, Nat.zero_add]
      by_cases e : w = 0
      · rw [if_pos e, if_pos e]; rfl
      · rw [if_neg e, if_neg e]
        have := q_span35 (S := S0 ++ J) (R := R) (I := I) hm (show w = 1 ∨ w = 2 by omega) 10 0 512 rfl (by decide)
        refine Eq.trans ?_ this
        congr 1
        by_cases e2 : w = 2
        · rw [if_pos e2]; rfl
        · rw [if_neg e2]; rfl
    · simp (disch := omega) only [f_X12_span, m_btw, b1, so_65, ao_66, ly_65_0 hR, ly_65_1 hR, ly_65_2 hR, ly_65_4 hR, ly_65_11 hR, ly_65_13 hR, ly_65_14 hR, ly_65_15 hR, ly_65_16 hR, ly_65_17 hR, ly_65_18 hR, ly_65_19 hR, ly_65_20 hR, ly_65_22 hR, ly_65_24 hR, ly_65_25 hR, ly_65_26 hR, ly_65_27 hR, ly_65_28 hR, ly_65_29 hR, ly_65_30 hR, m_fitting hR hM hV (-nI 1), lit, gp1, rl1, rs1, bd1, lt1, n_add, n_sub, n_dec, n_le, n_lt, n_eq, n_in, nI_clamp, n_mul, m_or, m_and, m_pow, m_bit, m_dif, n_neg, yn_0, yn_1, yn_z, yn_d, one31, Nat.add_sub_cancel, Nat.not_lt_zero, if_true, if_false, ite_true, ite_false, Bool.true_eq_false, Bool.false_eq_true, Nat.add_zero, Nat.zero_add]
      exact m_span30 hm w2 10 0 512 rfl (by decide)
def liP (D : Dt) (r : Nat) : Bool := plM D (nI r) != 0
theorem liP_0 (hV : VD D) (r : Nat) : (nI (plM D (nI r)) = nI 0) = (liP D r = false) := by
  have := plM_lt hV (nI r)
  rw [n_eq (by omega) (by decide), liP]
  by_cases e : plM D (nI r) = 0
  · simp [e]
  · simp [e]
theorem q_liar16 (hR : Lay R) (hC : CR I 1 D) (hV : VD D) : ∀ (k t f : Nat), t + k = d_np D → k < f →
    f_X11_liar_16 (S0 ++ J) R I f 0 (nI t) = some (noO (fndR (liP D) t k)) := by
  have h6 := hV.2.2.2.2.2.2.2.1
  have c14 : I 1 14 = nI (d_np D) := hC.1.2.2.2.2.2.1
  intro k
  induction k with
  | zero =>
    intro t f ht hf
    obtain ⟨f, rfl⟩ := Nat.exists_eq_succ_of_ne_zero (n := f) (by omega)
    rw [f_X11_liar_16]
    simp (disch := omega) only [so_0, so_1, ly_0_0 hR, ly_0_1 hR, ly_0_3 hR, ly_0_4 hR, ly_0_5 hR, ly_0_7 hR, ly_0_8 hR, ly_0_9 hR, ly_0_10 hR, ly_1_0 hR, ly_1_1 hR, ly_1_2 hR, ly_1_3 hR, ly_1_4 hR, ly_1_7 hR, ly_1_11 hR, ly_1_12 hR, ly_1_13 hR, c14, lit, gp1, rl1, rs1, bd1, lt1, n_add, n_sub, n_dec, n_le, n_lt, n_eq, n_in, nI_clamp, n_mul, m_or, m_and, m_pow, m_bit, m_dif, n_neg, yn_0, yn_1, yn_z, yn_d, one31, Nat.add_sub_cancel, Nat.not_lt_zero, if_true, if_false, ite_true, ite_false, Bool.true_eq_false, Bool.false_eq_true, Nat.add_zero, Nat.zero_add]
    rw [if_pos (by omega)]; rfl
  | succ k ih =>
    intro t f ht hf
    obtain ⟨f, rfl⟩ := Nat.exists_eq_succ_of_ne_zero (n := f) (by omega)
    rw [f_X11_liar_16]
    simp (disch := omega) only [so_0, so_1, ly_0_0 hR, ly_0_1 hR, ly_0_3 hR, ly_0_4 hR, ly_0_5 hR, ly_0_7 hR, ly_0_8 hR, ly_0_9 hR, ly_0_10 hR, ly_1_0 hR, ly_1_1 hR, ly_1_2 hR, ly_1_3 hR, ly_1_4 hR, ly_1_7 hR, ly_1_11 hR, ly_1_12 hR, ly_1_13 hR, c14, q_places hR hC hV (nI t), liP_0 hV, ih (t + 1) f (show t + 1 + k = d_np D by omega) (show k < f by omega), lit, gp1, rl1, rs1, bd1, lt1, n_add, n_sub, n_dec, n_le, n_lt, n_eq, n_in, nI_clamp, n_mul, m_or, m_and, m_pow, m_bit, m_dif, n_neg, yn_0, yn_1, yn_z, yn_d, one31, Nat.add_sub_cancel, Nat.not_lt_zero, if_true, if_false, ite_true, ite_false, Bool.true_eq_false, Bool.false_eq_true, Nat.add_zero, Nat.zero_add]
    rw [if_neg (by omega), fndR]
    cases liP D t <;> rfl
theorem m_liar19 (hR : Lay R) (hM : MR I 66 D) (hV : VD D) : ∀ (k t f : Nat), t + k = d_np D → k + 1 < f →
    f_X12_liar_19 (S0 ++ J) R I f 65 (-nI 3) (nI 1) (nI t) = some (noO (fndR (liP D) t k)) := by
  have h6 := hV.2.2.2.2.2.2.2.1
  have c6 : I 66 6 = nI (d_np D) := hM.2.2.2.2.2.2.1
  intro k
  induction k with
  | zero =>
    intro t f ht hf
    obtain ⟨f, rfl⟩ := Nat.exists_eq_succ_of_ne_zero (n := f) (by omega)
    rw [f_X12_liar_19]
    simp (disch := omega) only [so_65, ao_66, ly_65_0 hR, ly_65_1 hR, ly_65_2 hR, ly_65_4 hR, ly_65_11 hR, ly_65_13 hR, ly_65_14 hR, ly_65_15 hR, ly_65_16 hR, ly_65_17 hR, ly_65_18 hR, ly_65_19 hR, ly_65_20 hR, ly_65_22 hR, ly_65_24 hR, ly_65_25 hR, ly_65_26 hR, ly_65_27 hR, ly_65_28 hR, ly_65_29 hR, ly_65_30 hR, c6, lit, gp1, rl1, rs1, bd1, lt1, n_add, n_sub, n_dec, n_le, n_lt, n_eq, n_in, nI_clamp, n_mul, m_or, m_and, m_pow, m_bit, m_dif, n_neg, yn_0, yn_1, yn_z, yn_d, one31, Nat.add_sub_cancel, Nat.not_lt_zero, if_true, if_false, ite_true, ite_false, Bool.true_eq_false, Bool.false_eq_true, Nat.add_zero, Nat.zero_add]
    rw [if_pos (by omega)]; rfl
  | succ k ih =>
    intro t f ht hf
    obtain ⟨f, rfl⟩ := Nat.exists_eq_succ_of_ne_zero (n := f) (by omega)
    obtain ⟨f', hf'⟩ := Nat.exists_eq_succ_of_ne_zero (n := f) (by omega)
    have last : f_X12_liar_19 (S0 ++ J) R I f 65 (nI t) (nI 1) (nI (t + 1)) = some (nI t) := by
      have z : (nI t = -nI 3) = False := n_nn (by omega) (by decide) (by decide)
      rw [hf', f_X12_liar_19]
      simp (disch := omega) only [so_65, ao_66, ly_65_0 hR, ly_65_1 hR, ly_65_2 hR, ly_65_4 hR, ly_65_11 hR, ly_65_13 hR, ly_65_14 hR, ly_65_15 hR, ly_65_16 hR, ly_65_17 hR, ly_65_18 hR, ly_65_19 hR, ly_65_20 hR, ly_65_22 hR, ly_65_24 hR, ly_65_25 hR, ly_65_26 hR, ly_65_27 hR, ly_65_28 hR, ly_65_29 hR, ly_65_30 hR, c6, z, Nat.reduceEqDiff, lit, gp1, rl1, rs1, bd1, lt1, n_add, n_sub, n_dec, n_le, n_lt, n_eq, n_in, nI_clamp, n_mul, m_or, m_and, m_pow, m_bit, m_dif, n_neg, yn_0, yn_1, yn_z, yn_d, one31, Nat.add_sub_cancel, Nat.not_lt_zero, if_true, if_false, ite_true, ite_false, Bool.true_eq_false, Bool.false_eq_true, Nat.add_zero, Nat.zero_add]
      split <;> rfl
    rw [f_X12_liar_19]
    simp (disch := omega) only [so_65, ao_66, ly_65_0 hR, ly_65_1 hR, ly_65_2 hR, ly_65_4 hR, ly_65_11 hR, ly_65_13 hR, ly_65_14 hR, ly_65_15 hR, ly_65_16 hR, ly_65_17 hR, ly_65_18 hR, ly_65_19 hR, ly_65_20 hR, ly_65_22 hR, ly_65_24 hR, ly_65_25 hR, ly_65_26 hR, ly_65_27 hR, ly_65_28 hR, ly_65_29 hR, ly_65_30 hR, c6, m_fitting hR hM hV (nI t), liP_0 hV, f_X12_liar_54, Nat.reduceEqDiff, last, ih (t + 1) f (show t + 1 + k = d_np D by omega) (show k + 1 < f by omega), lit, gp1, rl1, rs1, bd1, lt1, n_add, n_sub, n_dec, n_le, n_lt, n_eq, n_in, nI_clamp, n_mul, m_or, m_and, m_pow, m_bit, m_dif, n_neg, yn_0, yn_1, yn_z, yn_d, one31, Nat.add_sub_cancel, Nat.not_lt_zero, if_true, if_false, ite_true, ite_false, Bool.true_eq_false, Bool.false_eq_true, Nat.add_zero, Nat.zero_add]
    rw [if_neg (by omega), fndR]
    cases liP D t <;> rfl
theorem z_liar (hR : Lay R) (h : Core I D T) : ZQ (f_X11_liar (S0 ++ J) R I 0) (f_X12_liar (S0 ++ J) R I 65) := by
  have ⟨hC, hM, hV, hT⟩ := h
  have h6 := hV.2.2.2.2.2.2.2.1
  have hm := plM_lt hV (-nI 1)
  have c6 : I 66 6 = nI (d_np D) := hM.2.2.2.2.2.2.1
  by_cases e : plM D (-nI 1) = 0
  · refine ⟨noO (fndR (liP D) 0 (d_np D)), ?_, ?_⟩
    · simp (disch := omega) only [f_X11_liar, so_0, so_1, ly_0_0 hR, ly_0_1 hR, ly_0_3 hR, ly_0_4 hR, ly_0_5 hR, ly_0_7 hR, ly_0_8 hR, ly_0_9 hR, ly_0_10 hR, ly_1_0 hR, ly_1_1 hR, ly_1_2 hR, ly_1_3 hR, ly_1_4 hR, ly_1_7 hR, ly_1_11 hR, ly_1_12 hR, ly_1_13 hR, q_places hR hC hV (-nI 1), e, lit, gp1, rl1, rs1, bd1, lt1, n_add, n_sub, n_dec, n_le, n_lt, n_eq, n_in, nI_clamp, n_mul, m_or, m_and, m_pow, m_bit, m_dif, n_neg, yn_0, yn_1, yn_z, yn_d, one31, Nat.add_sub_cancel, Nat.not_lt_zero, if_true, if_false, ite_true, ite_false, Bool.true_eq_false, Bool.false_eq_true, Nat.add_zero, Nat.zero_add]
      exact q_liar16 hR hC hV (d_np D) 0 512 (by omega) (by omega)
    · simp (disch := omega) only [f_X12_liar, f_X12_liar_16, so_65, ao_66, ly_65_0 hR, ly_65_1 hR, ly_65_2 hR, ly_65_4 hR, ly_65_11 hR, ly_65_13 hR, ly_65_14 hR, ly_65_15 hR, ly_65_16 hR, ly_65_17 hR, ly_65_18 hR, ly_65_19 hR, ly_65_20 hR, ly_65_22 hR, ly_65_24 hR, ly_65_25 hR, ly_65_26 hR, ly_65_27 hR, ly_65_28 hR, ly_65_29 hR, ly_65_30 hR, m_fitting hR hM hV (-nI 1), e, lit, gp1, rl1, rs1, bd1, lt1, n_add, n_sub, n_dec, n_le, n_lt, n_eq, n_in, nI_clamp, n_mul, m_or, m_and, m_pow, m_bit, m_dif, n_neg, yn_0, yn_1, yn_z, yn_d, one31, Nat.add_sub_cancel, Nat.not_lt_zero, if_true, if_false, ite_true, ite_false, Bool.true_eq_false, Bool.false_eq_true, Nat.add_zero, Nat.zero_add]
      exact m_liar19 hR hM hV (d_np D) 0 512 (by omega) (by omega)
  · refine ⟨-nI 3, ?_, ?_⟩
    · simp (disch := omega) only [f_X11_liar, so_0, so_1, ly_0_0 hR, ly_0_1 hR, ly_0_3 hR, ly_0_4 hR, ly_0_5 hR, ly_0_7 hR, ly_0_8 hR, ly_0_9 hR, ly_0_10 hR, ly_1_0 hR, ly_1_1 hR, ly_1_2 hR, ly_1_3 hR, ly_1_4 hR, ly_1_7 hR, ly_1_11 hR, ly_1_12 hR, ly_1_13 hR, q_places hR hC hV (-nI 1), e, lit, gp1, rl1, rs1, bd1, lt1, n_add, n_sub, n_dec, n_le, n_lt, n_eq, n_in, nI_clamp, n_mul, m_or, m_and, m_pow, m_bit, m_dif, n_neg, yn_0, yn_1, yn_z, yn_d, one31, Nat.add_sub_cancel, Nat.not_lt_zero, if_true, if_false, ite_true, ite_false, Bool.true_eq_false, Bool.false_eq_true, Nat.add_zero, Nat.zero_add]
    · simp (disch := omega) only [f_X12_liar, f_X12_liar_16, so_65, ao_66, ly_65_0 hR, ly_65_1 hR, ly_65_2 hR, ly_65_4 hR, ly_65_11 hR, ly_65_13 hR, ly_65_14 hR, ly_65_15 hR, ly_65_16 hR, ly_65_17 hR, ly_65_18 hR, ly_65_19 hR, ly_65_20 hR, ly_65_22 hR, ly_65_24 hR, ly_65_25 hR, ly_65_26 hR, ly_65_27 hR, ly_65_28 hR, ly_65_29 hR, ly_65_30 hR, m_fitting hR hM hV (-nI 1), e, lit, gp1, rl1, rs1, bd1, lt1, n_add, n_sub, n_dec, n_le, n_lt, n_eq, n_in, nI_clamp, n_mul, m_or, m_and, m_pow, m_bit, m_dif, n_neg, yn_0, yn_1, yn_z, yn_d, one31, Nat.add_sub_cancel, Nat.not_lt_zero, if_true, if_false, ite_true, ite_false, Bool.true_eq_false, Bool.false_eq_true, Nat.add_zero, Nat.zero_add]
      rw [f_X12_liar_19]
      simp (disch := omega) only [so_65, ao_66, ly_65_0 hR, ly_65_1 hR, ly_65_2 hR, ly_65_4 hR, ly_65_11 hR, ly_65_13 hR, ly_65_14 hR, ly_65_15 hR, ly_65_16 hR, ly_65_17 hR, ly_65_18 hR, ly_65_19 hR, ly_65_20 hR, ly_65_22 hR, ly_65_24 hR, ly_65_25 hR, ly_65_26 hR, ly_65_27 hR, ly_65_28 hR, ly_65_29 hR, ly_65_30 hR, c6, lit, gp1, rl1, rs1, bd1, lt1, n_add, n_sub, n_dec, n_le, n_lt, n_eq, n_in, nI_clamp, n_mul, m_or, m_and, m_pow, m_bit, m_dif, n_neg, yn_0, yn_1, yn_z, yn_d, one31, Nat.add_sub_cancel, Nat.not_lt_zero, if_true, if_false, ite_true, ite_false, Bool.true_eq_false, Bool.false_eq_true, Nat.add_zero, Nat.zero_add]
      split <;> rfl
end CALLS3
