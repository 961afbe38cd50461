/-! THE REFERENCE (cell 65, its row at 66): its questions over plain data -/
theorem MR_fr {I I' : Iw} {a : Nat} {D : Dt} (h : ∀ j, I' a j = I a j) (hM : MR I a D) : MR I' a D := by
  have e : I' a = I a := funext h
  unfold MR at hM ⊢
  rw [e]
  exact hM
theorem nin_ex {D : Dt} {g : Nat} (hg : g < d_n D) (h : isin D g = false) : ∃ k, k < d_o D ∧ d_ln D k = g := by
  apply Decidable.byContradiction
  intro q
  have : isin D g = true := isin_iff.mpr ⟨hg, fun k hk e => q ⟨k, hk, e⟩⟩
  rw [this] at h; cases h
section REFS
variable {J : Sh} {R : Rw} {I : Iw} {D : Dt}
theorem m_goodIs (hR : Lay R) {g f : Nat} (hg : g < 9) (hf : f < 5) : f_X12_goodIs (S0 ++ J) R I 65 (nI g) (nI f) = some (I 66 (16 + 5 * g + f)) := by
  simp (disch := omega) only [f_X12_goodIs, f_X12_goodAt, so_65, ao_66, ly_65_0 hR, ly_65_1 hR, ly_65_2 hR, ly_65_4 hR, ly_65_11 hR, ly_65_13 hR, ly_65_14 hR, ly_65_15 hR, ly_65_16 hR, ly_65_17 hR, ly_65_18 hR, ly_65_19 hR, ly_65_20 hR, ly_65_22 hR, ly_65_24 hR, ly_65_25 hR, ly_65_26 hR, ly_65_27 hR, ly_65_28 hR, ly_65_29 hR, ly_65_30 hR, lit, gp1, rl1, rs1, bd1, lt1, n_add, n_sub, n_dec, n_le, n_lt, n_eq, n_in, nI_clamp, n_mul, m_or, m_and, m_pow, m_bit, m_dif, n_neg, yn_0, yn_1, yn_z, yn_d, one31, Nat.add_sub_cancel, Nat.not_lt_zero, if_true, if_false, ite_true, ite_false]
theorem m_kd (hR : Lay R) (hM : MR I 66 D) (hV : VD D) {g : Nat} (hg : g < d_n D) : f_X12_goodIs (S0 ++ J) R I 65 (nI g) (nI 0) = some (nI (d_kd D g)) := by
  have h9 := hV.1
  rw [m_goodIs hR (by omega) (by decide), ← (hM.2.2.2.2.2.2.2.2.1 g hg).1]; rfl
theorem m_by (hR : Lay R) (hM : MR I 66 D) (hV : VD D) {g : Nat} (hg : g < d_n D) : f_X12_goodIs (S0 ++ J) R I 65 (nI g) (nI 1) = some (nI (d_by D g)) := by
  have h9 := hV.1
  rw [m_goodIs hR (by omega) (by decide), ← (hM.2.2.2.2.2.2.2.2.1 g hg).2.1, show 16 + 5 * g + 1 = 17 + 5 * g by omega]
theorem m_cl (hR : Lay R) (hM : MR I 66 D) (hV : VD D) {g : Nat} (hg : g < d_n D) : f_X12_goodIs (S0 ++ J) R I 65 (nI g) (nI 2) = some (nI (d_cl D g)) := by
  have h9 := hV.1
  rw [m_goodIs hR (by omega) (by decide), ← (hM.2.2.2.2.2.2.2.2.1 g hg).2.2.1, show 16 + 5 * g + 2 = 18 + 5 * g by omega]
theorem m_wo (hR : Lay R) (hM : MR I 66 D) (hV : VD D) {g : Nat} (hg : g < d_n D) : f_X12_goodIs (S0 ++ J) R I 65 (nI g) (nI 3) = some (nI (d_wo D g)) := by
  have h9 := hV.1
  rw [m_goodIs hR (by omega) (by decide), ← (hM.2.2.2.2.2.2.2.2.1 g hg).2.2.2.1, show 16 + 5 * g + 3 = 19 + 5 * g by omega]
/-- a good's place in the line, -9 where it is in -/
theorem out_ln (hM : MR I 66 D) (hV : VD D) {k : Nat} (hk : k < d_o D) : I 66 (20 + 5 * d_ln D k) = nI k := hM.2.2.2.2.2.2.2.2.2.1 k hk
theorem m_out9 (hM : MR I 66 D) (hV : VD D) {g : Nat} (hg : g < d_n D) : (I 66 (16 + 5 * g + 4) = -nI 9) = (isin D g = true) := by
  have h9 := hV.1
  have h2 := hV.2.1
  rw [show 16 + 5 * g + 4 = 20 + 5 * g by omega]
  cases hi : isin D g with
  | true =>
    rw [(hM.2.2.2.2.2.2.2.2.1 g hg).2.2.2.2 hi]
    exact propext ⟨fun _ => rfl, fun _ => rfl⟩
  | false =>
    obtain ⟨k, hk, e⟩ := nin_ex hg hi
    have ho := out_ln hM hV hk
    rw [e] at ho
    rw [ho, n_nn (by omega) (by decide) (by decide)]
    exact propext ⟨fun q => q.elim, fun q => by cases q⟩
theorem m_isIn (hR : Lay R) (hM : MR I 66 D) (hV : VD D) {g : Nat} (hg : g < d_n D) : f_X12_isIn (S0 ++ J) R I 65 (nI g) = some (yn (isin D g)) := by
  have h9 := hV.1
  simp (disch := omega) only [f_X12_isIn, so_65, ao_66, ly_65_0 hR, ly_65_1 hR, ly_65_2 hR, ly_65_4 hR, ly_65_11 hR, ly_65_13 hR, ly_65_14 hR, ly_65_15 hR, ly_65_16 hR, ly_65_17 hR, ly_65_18 hR, ly_65_19 hR, ly_65_20 hR, ly_65_22 hR, ly_65_24 hR, ly_65_25 hR, ly_65_26 hR, ly_65_27 hR, ly_65_28 hR, ly_65_29 hR, ly_65_30 hR, m_goodIs hR (show g < 9 by omega) (show 4 < 5 by decide), m_out9 hM hV hg, lit, gp1, rl1, rs1, bd1, lt1, n_add, n_sub, n_dec, n_le, n_lt, n_eq, n_in, nI_clamp, n_mul, m_or, m_and, m_pow, m_bit, m_dif, n_neg, yn_0, yn_1, yn_z, yn_d, one31, Nat.add_sub_cancel, Nat.not_lt_zero, if_true, if_false, ite_true, ite_false]
  cases isin D g <;> rfl
theorem m_near (hR : Lay R) (hM : MR I 66 D) (hV : VD D) {g h : Nat} (hg : g < 10) (hh : h < 10) : f_X12_isNear (S0 ++ J) R I 65 (nI g) (nI h) = some (yn (nearb D g h)) := by
  have h2 := hV.2.2.2.2.2.1
  have c0 : I 66 0 = nI (d_ga D) := hM.1
  simp (disch := omega) only [f_X12_isNear, so_65, ao_66, ly_65_0 hR, ly_65_1 hR, ly_65_2 hR, ly_65_4 hR, ly_65_11 hR, ly_65_13 hR, ly_65_14 hR, ly_65_15 hR, ly_65_16 hR, ly_65_17 hR, ly_65_18 hR, ly_65_19 hR, ly_65_20 hR, ly_65_22 hR, ly_65_24 hR, ly_65_25 hR, ly_65_26 hR, ly_65_27 hR, ly_65_28 hR, ly_65_29 hR, ly_65_30 hR, c0, jabs_n (show g < 2 ^ 30 by omega) (show h < 2 ^ 30 by omega), lit, gp1, rl1, rs1, bd1, lt1, n_add, n_sub, n_dec, n_le, n_lt, n_eq, n_in, nI_clamp, n_mul, m_or, m_and, m_pow, m_bit, m_dif, n_neg, yn_0, yn_1, yn_z, yn_d, one31, Nat.add_sub_cancel, Nat.not_lt_zero, if_true, if_false, ite_true, ite_false]
  unfold nearb
  by_cases q : g - h + (h - g) ≤ d_ga D
  · rw [if_neg (by omega), decide_eq_true q]; rfl
  · rw [if_pos (by omega), decide_eq_false q]; rfl
def tpP (D : Dt) (g h : Nat) : Bool := !(isin D h && d_by D h == d_by D g)
theorem m_top10 (hR : Lay R) (hM : MR I 66 D) (hV : VD D) {g : Nat} (hg : g < d_n D) : ∀ (k t f : Nat) (b : Bool), t + k = d_n D → k < f → f_X12_isTop_10 (S0 ++ J) R I f 65 (nI g) (yn b) (nI t) = some (yn (b && allF (tpP D g) t k)) := by
  have h9 := hV.1
  have c3 : I 66 3 = nI (d_n D) := hM.2.2.2.1
  intro k
  induction k with
  | zero =>
    intro t f b ht hf
    obtain ⟨f, rfl⟩ := Nat.exists_eq_succ_of_ne_zero (n := f) (by omega)
    rw [f_X12_isTop_10]
    simp (disch := omega) only [so_65, ao_66, ly_65_0 hR, ly_65_1 hR, ly_65_2 hR, ly_65_4 hR, ly_65_11 hR, ly_65_13 hR, ly_65_14 hR, ly_65_15 hR, ly_65_16 hR, ly_65_17 hR, ly_65_18 hR, ly_65_19 hR, ly_65_20 hR, ly_65_22 hR, ly_65_24 hR, ly_65_25 hR, ly_65_26 hR, ly_65_27 hR, ly_65_28 hR, ly_65_29 hR, ly_65_30 hR, c3, lit, gp1, rl1, rs1, bd1, lt1, n_add, n_sub, n_dec, n_le, n_lt, n_eq, n_in, nI_clamp, n_mul, m_or, m_and, m_pow, m_bit, m_dif, n_neg, yn_0, yn_1, yn_z, yn_d, one31, Nat.add_sub_cancel, Nat.not_lt_zero, if_true, if_false, ite_true, ite_false]
    rw [if_pos (by omega)]; cases b <;> rfl
  | succ k ih =>
    intro t f b ht hf
    obtain ⟨f, rfl⟩ := Nat.exists_eq_succ_of_ne_zero (n := f) (by omega)
    have vt := (hV.2.2.2.2.1 t (by omega)).2.2.1
    have vg := (hV.2.2.2.2.1 g hg).2.2.1
    rw [f_X12_isTop_10]
    simp (disch := omega) only [so_65, ao_66, ly_65_0 hR, ly_65_1 hR, ly_65_2 hR, ly_65_4 hR, ly_65_11 hR, ly_65_13 hR, ly_65_14 hR, ly_65_15 hR, ly_65_16 hR, ly_65_17 hR, ly_65_18 hR, ly_65_19 hR, ly_65_20 hR, ly_65_22 hR, ly_65_24 hR, ly_65_25 hR, ly_65_26 hR, ly_65_27 hR, ly_65_28 hR, ly_65_29 hR, ly_65_30 hR, c3, f_X12_isTop_51, f_X12_isTop_47, f_X12_isTop_52, m_isIn hR hM hV (show t < d_n D by omega), m_by hR hM hV hg, m_by hR hM hV (show t < d_n D by omega), lit, gp1, rl1, rs1, bd1, lt1, n_add, n_sub, n_dec, n_le, n_lt, n_eq, n_in, nI_clamp, n_mul, m_or, m_and, m_pow, m_bit, m_dif, n_neg, yn_0, yn_1, yn_z, yn_d, one31, Nat.add_sub_cancel, Nat.not_lt_zero, if_true, if_false, ite_true, ite_false]
    simp only [yn_f, yn_t, ih (t + 1) f _ (show t + 1 + k = d_n D by omega) (show k < f by omega)]
    rw [if_neg (by omega), allF, tpP]
    cases b
    · rfl
    · cases isin D t
      · rfl
      · by_cases e : d_by D t = d_by D g
        · rw [if_pos e, e]; simp
        · rw [if_neg e, show (d_by D t == d_by D g) = false by simpa using e]; rfl
theorem top_eq (hV : VD D) {g : Nat} (hg : g < d_n D) : topb D (insm D) g = (isin D g && allF (tpP D g) (g + 1) (d_n D - (g + 1))) := by
  have h9 := hV.1
  rw [topb, insm_bit, decide_eq_true (by omega), Bool.true_and, all_range, Bool.eq_iff_iff, Bool.and_eq_true, Bool.and_eq_true, allF_iff, allF_iff]
  refine and_congr_right fun _ => ⟨fun q i h1 h2 => ?_, fun q i _ h2 => ?_⟩
  · have := q i (Nat.zero_le _) (by omega)
    rw [decide_eq_true (show g < i by omega), insm_bit, decide_eq_true (show i < 9 by omega), Bool.true_and, Bool.true_and] at this
    exact this
  · by_cases h : g < i
    · have := q i (by omega) (by omega)
      rw [decide_eq_true h, insm_bit, decide_eq_true (show i < 9 by omega), Bool.true_and, Bool.true_and]
      exact this
    · rw [decide_eq_false h]; rfl
theorem m_top (hR : Lay R) (hM : MR I 66 D) (hV : VD D) {g : Nat} (hg : g < d_n D) : f_X12_isTop (S0 ++ J) R I 65 (nI g) = some (yn (topb D (insm D) g)) := by
  have h9 := hV.1
  rw [f_X12_isTop]
  simp (disch := omega) only [so_65, ao_66, ly_65_0 hR, ly_65_1 hR, ly_65_2 hR, ly_65_4 hR, ly_65_11 hR, ly_65_13 hR, ly_65_14 hR, ly_65_15 hR, ly_65_16 hR, ly_65_17 hR, ly_65_18 hR, ly_65_19 hR, ly_65_20 hR, ly_65_22 hR, ly_65_24 hR, ly_65_25 hR, ly_65_26 hR, ly_65_27 hR, ly_65_28 hR, ly_65_29 hR, ly_65_30 hR, m_isIn hR hM hV hg, lit, gp1, rl1, rs1, bd1, lt1, n_add, n_sub, n_dec, n_le, n_lt, n_eq, n_in, nI_clamp, n_mul, m_or, m_and, m_pow, m_bit, m_dif, n_neg, yn_0, yn_1, yn_z, yn_d, one31, Nat.add_sub_cancel, Nat.not_lt_zero, if_true, if_false, ite_true, ite_false]
  rw [m_top10 hR hM hV hg (d_n D - (g + 1)) (g + 1) 512 _ (by omega) (by omega), ← top_eq hV hg]
theorem m_stands5 (hR : Lay R) (hM : MR I 66 D) (hV : VD D) {g h : Nat} (hg : g < d_n D) (hh : h < d_n D) : ∀ (k t f : Nat) (b : Bool), t + k = d_n D → k < f → f_X12_standsFor_5 (S0 ++ J) R I f 65 (nI g) (nI h) (yn b) (nI t) = some (yn ((b || anyF (stP D g h) t k) && decide (d_kd D g = 1))) := by
  have h9 := hV.1
  have c3 : I 66 3 = nI (d_n D) := hM.2.2.2.1
  have vg := hV.2.2.2.2.1 g hg
  intro k
  induction k with
  | zero =>
    intro t f b ht hf
    obtain ⟨f, rfl⟩ := Nat.exists_eq_succ_of_ne_zero (n := f) (by omega)
    rw [f_X12_standsFor_5]
    simp (disch := omega) only [so_65, ao_66, ly_65_0 hR, ly_65_1 hR, ly_65_2 hR, ly_65_4 hR, ly_65_11 hR, ly_65_13 hR, ly_65_14 hR, ly_65_15 hR, ly_65_16 hR, ly_65_17 hR, ly_65_18 hR, ly_65_19 hR, ly_65_20 hR, ly_65_22 hR, ly_65_24 hR, ly_65_25 hR, ly_65_26 hR, ly_65_27 hR, ly_65_28 hR, ly_65_29 hR, ly_65_30 hR, c3, m_kd hR hM hV hg, lit, gp1, rl1, rs1, bd1, lt1, n_add, n_sub, n_dec, n_le, n_lt, n_eq, n_in, nI_clamp, n_mul, m_or, m_and, m_pow, m_bit, m_dif, n_neg, yn_0, yn_1, yn_z, yn_d, one31, Nat.add_sub_cancel, Nat.not_lt_zero, if_true, if_false, ite_true, ite_false]
    rw [if_pos (by omega), anyF]
    cases b
    · rfl
    · by_cases e : d_kd D g = 1
      · rw [if_pos e, e]; rfl
      · rw [if_neg e, decide_eq_false e]; rfl
  | succ k ih =>
    intro t f b ht hf
    obtain ⟨f, rfl⟩ := Nat.exists_eq_succ_of_ne_zero (n := f) (by omega)
    have vt := hV.2.2.2.2.1 t (by omega)
    rw [f_X12_standsFor_5]
    simp (disch := omega) only [so_65, ao_66, ly_65_0 hR, ly_65_1 hR, ly_65_2 hR, ly_65_4 hR, ly_65_11 hR, ly_65_13 hR, ly_65_14 hR, ly_65_15 hR, ly_65_16 hR, ly_65_17 hR, ly_65_18 hR, ly_65_19 hR, ly_65_20 hR, ly_65_22 hR, ly_65_24 hR, ly_65_25 hR, ly_65_26 hR, ly_65_27 hR, ly_65_28 hR, ly_65_29 hR, ly_65_30 hR, c3, f_X12_standsFor_58, f_X12_standsFor_62, f_X12_standsFor_63, m_cl hR hM hV hg, m_cl hR hM hV (show t < d_n D by omega), m_near hR hM hV (show t < 10 by omega) (show h < 10 by omega), lit, gp1, rl1, rs1, bd1, lt1, n_add, n_sub, n_dec, n_le, n_lt, n_eq, n_in, nI_clamp, n_mul, m_or, m_and, m_pow, m_bit, m_dif, n_neg, yn_0, yn_1, yn_z, yn_d, one31, Nat.add_sub_cancel, Nat.not_lt_zero, if_true, if_false, ite_true, ite_false]
    simp only [yn_f, yn_t, ih (t + 1) f _ (show t + 1 + k = d_n D by omega) (show k < f by omega)]
    rw [if_neg (by omega), anyF, stP]
    cases b
    · by_cases e1 : t = g
      · rw [if_pos e1, e1]; simp
      · rw [if_neg e1, show (t != g) = true by simpa using e1]
        by_cases e2 : t = h
        · rw [if_pos e2, e2]; simp
        · rw [if_neg e2, show (t != h) = true by simpa using e2]
          by_cases e3 : d_cl D t = d_cl D g
          · rw [if_pos e3, e3]
            cases nearb D t h <;> simp
          · rw [if_neg e3, show (d_cl D t == d_cl D g) = false by simpa using e3]; simp
    · simp
theorem m_stands (hR : Lay R) (hM : MR I 66 D) (hV : VD D) {g h : Nat} (hg : g < d_n D) (hh : h < d_n D) : f_X12_standsFor (S0 ++ J) R I 65 (nI g) (nI h) = some (yn (stnd D g h)) := by
  have h9 := hV.1
  rw [f_X12_standsFor]
  simp only [lit, yn_f]
  rw [show (yn false : Int32) = nI 0 from rfl, show f_X12_standsFor_5 (S0 ++ J) R I 512 65 (nI g) (nI h) (nI 0) (nI 0) = _ from m_stands5 hR hM hV hg hh (d_n D) 0 512 false (by omega) (by omega), stnd, any_range, Bool.false_or, Bool.and_comm]
  rfl
theorem m_came (hR : Lay R) (hM : MR I 66 D) (hV : VD D) {g h : Nat} (hg : g < d_n D) (hh : h < d_n D) : f_X12_cameBeside (S0 ++ J) R I 65 (nI g) (nI h) = some (yn (bes D g h)) := by
  have h9 := hV.1
  have vg := hV.2.2.2.2.1 g hg
  have vh := hV.2.2.2.2.1 h hh
  simp (disch := omega) only [f_X12_cameBeside, f_X12_cameBeside_20, f_X12_cameBeside_25, f_X12_cameBeside_57, so_65, ao_66, ly_65_0 hR, ly_65_1 hR, ly_65_2 hR, ly_65_4 hR, ly_65_11 hR, ly_65_13 hR, ly_65_14 hR, ly_65_15 hR, ly_65_16 hR, ly_65_17 hR, ly_65_18 hR, ly_65_19 hR, ly_65_20 hR, ly_65_22 hR, ly_65_24 hR, ly_65_25 hR, ly_65_26 hR, ly_65_27 hR, ly_65_28 hR, ly_65_29 hR, ly_65_30 hR, m_kd hR hM hV hg, m_kd hR hM hV hh, m_near hR hM hV (show g < 10 by omega) (show h < 10 by omega), m_stands hR hM hV hg hh, m_stands hR hM hV hh hg, lit, gp1, rl1, rs1, bd1, lt1, n_add, n_sub, n_dec, n_le, n_lt, n_eq, n_in, nI_clamp, n_mul, m_or, m_and, m_pow, m_bit, m_dif, n_neg, yn_0, yn_1, yn_z, yn_d, one31, Nat.add_sub_cancel, Nat.not_lt_zero, if_true, if_false, ite_true, ite_false]
  unfold bes
  by_cases e3 : d_kd D g = 3
  · rw [if_pos e3, e3]; rfl
  · rw [if_neg e3, show (d_kd D g != 3) = true by simpa using e3]
    by_cases e4 : d_kd D h = 3
    · rw [if_pos e4, e4]; rfl
    · rw [if_neg e4, show (d_kd D h != 3) = true by simpa using e4]
      cases nearb D g h <;> cases stnd D g h <;> cases stnd D h g <;> rfl
theorem m_mayGo (hR : Lay R) (hM : MR I 66 D) (hV : VD D) {g : Nat} (hg : g < d_n D) : f_X12_mayGo (S0 ++ J) R I 65 (nI g) = some (yn (mayb D (insm D) (lst D) g)) := by
  have h9 := hV.1
  have h2 := hV.2.1
  have c5 : I 66 5 = nI (d_o D) := hM.2.2.2.2.2.1
  have hl := hM.2.2.2.2.2.2.2.1
  rw [f_X12_mayGo]
  unfold mayb lst
  by_cases h0 : d_o D = 0
  · simp (disch := omega) only [f_X12_mayGo_41, so_65, ao_66, ly_65_0 hR, ly_65_1 hR, ly_65_2 hR, ly_65_4 hR, ly_65_11 hR, ly_65_13 hR, ly_65_14 hR, ly_65_15 hR, ly_65_16 hR, ly_65_17 hR, ly_65_18 hR, ly_65_19 hR, ly_65_20 hR, ly_65_22 hR, ly_65_24 hR, ly_65_25 hR, ly_65_26 hR, ly_65_27 hR, ly_65_28 hR, ly_65_29 hR, ly_65_30 hR, m_top hR hM hV hg, c5, lit, gp1, rl1, rs1, bd1, lt1, n_add, n_sub, n_dec, n_le, n_lt, n_eq, n_in, nI_clamp, n_mul, m_or, m_and, m_pow, m_bit, m_dif, n_neg, yn_0, yn_1, yn_z, yn_d, one31, Nat.add_sub_cancel, Nat.not_lt_zero, if_true, if_false, ite_true, ite_false]
    rw [if_pos h0, if_pos h0]
    cases topb D (insm D) g <;> rfl
  · have h3 := hV.2.2.1 (d_o D - 1) (by omega)
    have hk := hl (d_o D - 1) (by omega)
    rw [if_pos (by omega)] at hk
    have hk2 : I 66 (7 + d_o D - 1) = nI (d_ln D (d_o D - 1)) := by rw [← hk, show 7 + d_o D - 1 = 7 + (d_o D - 1) by omega]
    simp (disch := omega) only [f_X12_mayGo_41, so_65, ao_66, ly_65_0 hR, ly_65_1 hR, ly_65_2 hR, ly_65_4 hR, ly_65_11 hR, ly_65_13 hR, ly_65_14 hR, ly_65_15 hR, ly_65_16 hR, ly_65_17 hR, ly_65_18 hR, ly_65_19 hR, ly_65_20 hR, ly_65_22 hR, ly_65_24 hR, ly_65_25 hR, ly_65_26 hR, ly_65_27 hR, ly_65_28 hR, ly_65_29 hR, ly_65_30 hR, m_top hR hM hV hg, c5, hk2, m_came hR hM hV h3 hg, lit, gp1, rl1, rs1, bd1, lt1, n_add, n_sub, n_dec, n_le, n_lt, n_eq, n_in, nI_clamp, n_mul, m_or, m_and, m_pow, m_bit, m_dif, n_neg, yn_0, yn_1, yn_z, yn_d, one31, Nat.add_sub_cancel, Nat.not_lt_zero, if_true, if_false, ite_true, ite_false]
    rw [if_neg h0, if_neg h0]
    cases ht : topb D (insm D) g
    · rfl
    · have hin : isin D g = true := by
        rw [top_eq hV hg, Bool.and_eq_true] at ht
        exact ht.1
      have hne : (d_ln D (d_o D - 1) != g) = true := by simpa using (isin_iff.mp hin).2 (d_o D - 1) (by omega)
      rw [Nat.add_sub_cancel, hne]
      cases bes D (d_ln D (d_o D - 1)) g <;> rfl
end REFS
