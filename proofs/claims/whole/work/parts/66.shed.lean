/-! THE CLASS' SHED (cell 1): its questions over plain data -/
/-- some of k numbers from t on -/
def anyF (P : Nat → Bool) (t : Nat) : Nat → Bool
  | 0 => false
  | k + 1 => P t || anyF P (t + 1) k
def allF (P : Nat → Bool) (t : Nat) : Nat → Bool
  | 0 => true
  | k + 1 => P t && allF P (t + 1) k
theorem anyF_iff {P : Nat → Bool} : ∀ {k t : Nat}, anyF P t k = true ↔ ∃ i, t ≤ i ∧ i < t + k ∧ P i = true
  | 0, t => by simp [anyF]; omega
  | k + 1, t => by
    rw [anyF, Bool.or_eq_true, anyF_iff]
    constructor
    · rintro (h | ⟨i, h1, h2, h3⟩)
      · exact ⟨t, Nat.le_refl _, by omega, h⟩
      · exact ⟨i, by omega, by omega, h3⟩
    · rintro ⟨i, h1, h2, h3⟩
      by_cases e : i = t
      · subst e; exact Or.inl h3
      · exact Or.inr ⟨i, by omega, by omega, h3⟩
theorem allF_iff {P : Nat → Bool} : ∀ {k t : Nat}, allF P t k = true ↔ ∀ i, t ≤ i → i < t + k → P i = true
  | 0, t => by simp [allF]; omega
  | k + 1, t => by
    rw [allF, Bool.and_eq_true, allF_iff]
    constructor
    · rintro ⟨h, h2⟩ i h3 h4
      by_cases e : i = t
      · subst e; exact h
      · exact h2 i (by omega) (by omega)
    · intro h
      exact ⟨h t (Nat.le_refl _) (by omega), fun i h1 h2 => h i (by omega) (by omega)⟩
theorem any_range (P : Nat → Bool) (n : Nat) : (List.range n).any P = anyF P 0 n := by
  rw [Bool.eq_iff_iff, List.any_eq_true, anyF_iff]
  simp
theorem all_range (P : Nat → Bool) (n : Nat) : (List.range n).all P = allF P 0 n := by
  rw [Bool.eq_iff_iff, List.all_eq_true, allF_iff]
  simp
/-- a good's number -/
def hs (D : Dt) (x : Int32) : Bool := decide (¬ x < 0 ∧ x < nI (d_n D))
theorem hs_e {D : Dt} (hV : VD D) {x : Int32} (h : hs D x = true) : ∃ g, g < d_n D ∧ x = nI g := by
  have h2 : ¬ x < 0 ∧ x < nI (d_n D) := of_decide_eq_true h
  have hn := hV.1
  rcases pk_ix x (n := d_n D) (by omega) with q | q | q
  · exact absurd q h2.1
  · exact absurd h2.2 (Int32.not_lt.mpr q)
  · exact q
theorem hs_t {D : Dt} (hV : VD D) {g : Nat} (h : g < d_n D) : hs D (nI g) = true := by
  have hn := hV.1
  exact decide_eq_true ⟨nI_pos (by omega), nI_lt h (by omega)⟩
theorem hs_n {D : Dt} (hV : VD D) {g : Nat} (hg : g < 2 ^ 31) : hs D (nI g) = decide (g < d_n D) := by
  have hn := hV.1
  by_cases h : g < d_n D
  · rw [hs_t hV h]; simp [h]
  · have h2 : ¬ (¬ nI g < 0 ∧ nI g < nI (d_n D)) := fun q => nI_nlt (by omega) hg q.2
    rw [hs, decide_eq_false h2, decide_eq_false h]
section SHED
variable {J : Sh} {R : Rw} {I : Iw} {D : Dt}
theorem p_has (hC : CR0 I 1 D) (x : Int32) : f_X7_has (S0 ++ J) R I 1 x = some (if hs D x then 1 else 0) := by
  simp only [f_X7_has, so_1, gp1, hC.1, hs]
  by_cases h1 : x < 0
  · simp [h1]
  · by_cases h2 : nI (d_n D) ≤ x
    · simp [h1, h2, Int32.not_lt.mpr h2]
    · simp [h1, h2, Int32.not_le.mp h2]
theorem p_last (hR : Lay R) (hC : CR0 I 1 D) (hV : VD D) : f_X7_last (S0 ++ J) R I 1 = some (nI (lst D) - 1) := by
  have h1 : I 1 8 = nI (d_o D) := hC.2.2.1
  have h0 := hV.1; have h02 := hV.2.1
  simp only [f_X7_last, so_1, ao_2, ao_3, ao_4, ao_5, ao_6, ao_7, ly_1_0 hR, ly_1_1 hR, ly_1_2 hR, ly_1_3 hR, ly_1_4 hR, ly_1_7 hR, ly_1_11 hR, ly_1_12 hR, ly_1_13 hR, gp1, rl1, rs1, bd1, lt1, h1, lst]
  by_cases h : d_o D = 0
  · rw [if_pos (by rw [h]; decide), if_pos h]; rfl
  · have h2 : ¬ nI (d_o D) ≤ 0 := nI_nle (by omega) (by omega)
    have h3 : nI (d_o D) - 1 = nI (d_o D - 1) := pk_sub (a := d_o D) (b := 1) (by omega)
    rw [if_neg h2, if_neg h, h3, inb_t (by omega) (by decide), gp1, nI_clamp (by omega), hC.2.2.2.2.2.2.2.2.1 _ (by omega)]
    rw [show (1 : Int32) = nI 1 from rfl, pk_sub (by omega)]
    rfl
theorem p_near (hC : CR0 I 1 D) (hV : VD D) {g h : Nat} (hg : g < 10) (hh : h < 10) : f_X7_isNear (S0 ++ J) R I 1 (nI g) (nI h) = some (if nearb D g h then 1 else 0) := by
  have h1 : I 1 9 = nI (d_ga D) := hC.2.2.2.1
  have h2 := hV.2.2.2.2.2.1
  simp only [f_X7_isNear, so_1, gp1, h1, jabs_n (show g < 2 ^ 30 by omega) (show h < 2 ^ 30 by omega), nearb]
  by_cases q : g - h + (h - g) ≤ d_ga D
  · rw [if_neg (nI_nlt q (by omega))]; simp [q]
  · rw [if_pos (nI_lt (by omega) (by omega))]; simp [q]
def stP (D : Dt) (g h t : Nat) : Bool := t != g && (t != h && (d_cl D t == d_cl D g && nearb D t h))
theorem p_stands14 (hR : Lay R) (hC : CR0 I 1 D) (hV : VD D) {g h : Nat} (hg : g < d_n D) (hh : h < d_n D) : ∀ (k t f : Nat), t + k = d_n D → k < f → f_X7_standsNear_14 (S0 ++ J) R I f 1 (nI g) (nI h) (nI t) = some (if anyF (stP D g h) t k then 1 else 0) := by
  have h9 := hV.1
  have hn : I 1 5 = nI (d_n D) := hC.1
  intro k
  induction k with
  | zero =>
    intro t f ht hf
    obtain ⟨f, rfl⟩ := Nat.exists_eq_succ_of_ne_zero (Nat.ne_of_gt hf)
    rw [f_X7_standsNear_14]
    simp only [so_1, gp1, hn]
    rw [if_pos (nI_le (by omega) (by omega))]
    simp [anyF]
  | succ k ih =>
    intro t f ht hf
    obtain ⟨f, rfl⟩ := Nat.exists_eq_succ_of_ne_zero (n := f) (by omega)
    have step : f_X7_standsNear_58 (S0 ++ J) R I (f_X7_standsNear_14 (S0 ++ J) R I f) 1 (nI g) (nI h) (nI t) = some (if anyF (stP D g h) (t + 1) k then 1 else 0) := by
      rw [f_X7_standsNear_58, nI_1, ih (t + 1) f (by omega) (by omega)]
    have ct := (hC.2.2.2.2.2.2.2.1 t (by omega)).2.2.1
    have cg := (hC.2.2.2.2.2.2.2.1 g hg).2.2.1
    have v1 := (hV.2.2.2.2.1 t (by omega)).2.2.2.1
    have v2 := (hV.2.2.2.2.1 g hg).2.2.2.1
    rw [f_X7_standsNear_14]
    simp only [so_1, ao_2, ao_3, ao_4, ao_5, ao_6, ao_7, ly_1_0 hR, ly_1_1 hR, ly_1_2 hR, ly_1_3 hR, ly_1_4 hR, ly_1_7 hR, ly_1_11 hR, ly_1_12 hR, ly_1_13 hR, gp1, rl1, rs1, bd1, lt1, hn, step]
    rw [if_neg (nI_ge (by omega) (by omega)), anyF]
    by_cases e1 : t = g
    · subst e1; simp [stP]
    · rw [if_neg (by rw [nI_eq (by omega) (by omega)]; exact e1)]
      by_cases e2 : t = h
      · subst e2; simp [stP]
      · rw [if_neg (by rw [nI_eq (by omega) (by omega)]; exact e2), inb_t (by omega) (by decide), inb_t (by omega) (by decide)]
        simp only [gp1, nI_clamp (show t < 2 ^ 31 by omega), nI_clamp (show g < 2 ^ 31 by omega)]
        rw [show I 4 t = nI (d_cl D t) from ct, show I 4 g = nI (d_cl D g) from cg]
        by_cases e3 : d_cl D t = d_cl D g
        · rw [if_pos (by rw [e3]), p_near hC hV (by omega) (by omega), bd1, ite01]
          by_cases e4 : nearb D t h = true
          · simp [stP, e1, e2, e3, e4]
          · simp [stP, e1, e2, e3, e4]
        · rw [if_neg (by rw [nI_eq (by omega) (by omega)]; exact e3)]
          simp [stP, e1, e2, e3]
theorem p_stands (hR : Lay R) (hC : CR0 I 1 D) (hV : VD D) {g h : Nat} (hg : g < d_n D) (hh : h < d_n D) : f_X7_standsNear (S0 ++ J) R I 1 (nI g) (nI h) = some (if stnd D g h then 1 else 0) := by
  have h9 := hV.1
  have kg := (hC.2.2.2.2.2.2.2.1 g hg).1
  have vg := hV.2.2.2.2.1 g hg
  simp only [f_X7_standsNear, so_1, ao_2, ao_3, ao_4, ao_5, ao_6, ao_7, ly_1_0 hR, ly_1_1 hR, ly_1_2 hR, ly_1_3 hR, ly_1_4 hR, ly_1_7 hR, ly_1_11 hR, ly_1_12 hR, ly_1_13 hR, gp1, rl1, rs1, bd1, lt1]
  rw [inb_t (by omega) (by decide), gp1, nI_clamp (by omega), show I 2 g = nI (d_kd D g) from kg, show (1 : Int32) = nI 1 from rfl, show (0 : Int32) = nI 0 from rfl]
  unfold stnd
  by_cases e : d_kd D g = 1
  · rw [if_pos (by rw [e]), p_stands14 hR hC hV hg hh (d_n D) 0 512 (by omega) (by omega), any_range]
    simp only [e, decide_true, Bool.true_and]
    rfl
  · rw [if_neg (by rw [nI_eq (by omega) (by decide)]; exact e)]
    simp [e]
theorem p_came (hR : Lay R) (hC : CR0 I 1 D) (hV : VD D) {g h : Nat} (hg : g < d_n D) (hh : h < d_n D) : f_X7_cameBeside (S0 ++ J) R I 1 (nI g) (nI h) = some (if (g != h && bes D g h) then 1 else 0) := by
  have h9 := hV.1
  have kg := (hC.2.2.2.2.2.2.2.1 g hg).1
  have kh := (hC.2.2.2.2.2.2.2.1 h hh).1
  have vg := hV.2.2.2.2.1 g hg
  have vh := hV.2.2.2.2.1 h hh
  simp only [f_X7_cameBeside, f_X7_cameBeside_54, so_1, ao_2, ao_3, ao_4, ao_5, ao_6, ao_7, ly_1_0 hR, ly_1_1 hR, ly_1_2 hR, ly_1_3 hR, ly_1_4 hR, ly_1_7 hR, ly_1_11 hR, ly_1_12 hR, ly_1_13 hR, gp1, rl1, rs1, bd1, lt1]
  by_cases e : g = h
  · subst e; simp
  · rw [if_neg (by rw [nI_eq (by omega) (by omega)]; exact e), inb_t (by omega) (by decide), inb_t (by omega) (by decide)]
    simp only [gp1, nI_clamp (show g < 2 ^ 31 by omega), nI_clamp (show h < 2 ^ 31 by omega)]
    rw [show I 2 g = nI (d_kd D g) from kg, show I 2 h = nI (d_kd D h) from kh, p_near hC hV (by omega) (by omega), p_stands hR hC hV hg hh, p_stands hR hC hV hh hg]
    simp only [gp1, rl1, rs1, bd1, lt1, ite01, show (3 : Int32) = nI 3 from rfl]
    unfold bes
    by_cases e3 : d_kd D g = 3
    · rw [if_pos (by rw [e3])]; simp [e3]
    · rw [if_neg (by rw [nI_eq (by omega) (by decide)]; exact e3)]
      by_cases e4 : d_kd D h = 3
      · rw [if_pos (by rw [e4])]; simp [e4]
      · rw [if_neg (by rw [nI_eq (by omega) (by decide)]; exact e4)]
        cases nearb D g h <;> cases stnd D g h <;> cases stnd D h g <;> simp [e, e3, e4]
theorem x_holds {S : Sh} {R : Rw} {I : Iw} {m g : Nat} (hm : m < 1024) (hg : g < 10) : f_X11_holds S R I (nI m) (nI g) = some (yn (m.testBit g)) := by
  simp (disch := omega) only [f_X11_holds, lit, gp1, rl1, rs1, bd1, lt1, n_add, n_sub, n_dec, n_le, n_lt, n_eq, n_in, nI_clamp, n_mul, m_or, m_and, m_pow, m_bit, m_dif, n_neg, yn_0, yn_1, yn_z, yn_d, one31, Nat.add_sub_cancel, Nat.not_lt_zero, if_true, if_false, ite_true, ite_false]
  rw [if_neg (by omega)]
  cases m.testBit g <;> rfl
theorem p_tops12 (hR : Lay R) (hC : CR0 I 1 D) (hV : VD D) {s : Nat} (hs : s < 1024) : ∀ (k f tp by_ : Nat), k ≤ d_n D → k < f → tp < 1024 → by_ < 1024 → (∀ b, by_.testBit b = true ↔ ∃ h, k ≤ h ∧ h < d_n D ∧ s.testBit h = true ∧ d_by D h = b) →
    f_X7_topsOf_12 (S0 ++ J) R I f 1 (nI s) (nI tp) (nI by_) (nI k + -nI 1) = some (nI (tp ||| mk (topb D s) k)) := by
  have h9 := hV.1
  intro k
  induction k with
  | zero =>
    intro f tp by_ hk hf ht hb hB
    obtain ⟨f, rfl⟩ := Nat.exists_eq_succ_of_ne_zero (n := f) (by omega)
    rw [f_X7_topsOf_12, if_pos (by decide)]
    simp [mk]
  | succ k ih =>
    intro f tp by_ hk hf ht hb hB
    obtain ⟨f, rfl⟩ := Nat.exists_eq_succ_of_ne_zero (n := f) (by omega)
    have cb := (hC.2.2.2.2.2.2.2.1 k (by omega)).2.1
    have vb := (hV.2.2.2.2.1 k (by omega)).2.2.1
    have hI : I 3 k = nI (d_by D k) := cb
    have hT : topb D s k = (s.testBit k && !by_.testBit (d_by D k)) := by
      rw [topb, all_range, Bool.eq_iff_iff, Bool.and_eq_true, Bool.and_eq_true, allF_iff, Bool.not_eq_true', Bool.eq_false_iff, Ne, hB]
      refine and_congr_right fun hsk => ⟨fun q => ?_, fun q i _ h2 => ?_⟩
      · rintro ⟨h, h1, h2, h3, h4⟩
        have := q h (by omega) (by omega)
        simp [h3, h4] at this
        omega
      · by_cases e : k < i ∧ s.testBit i = true ∧ d_by D i = d_by D k
        · exact absurd ⟨i, by omega, by omega, e.2.1, e.2.2⟩ q
        · simp only [Bool.not_eq_true', Bool.and_eq_false_iff, decide_eq_false_iff_not, beq_eq_false_iff_ne]
          by_cases e1 : k < i
          · by_cases e2 : s.testBit i = true
            · exact Or.inr (Or.inr fun e3 => e ⟨e1, e2, e3⟩)
            · exact Or.inr (Or.inl (by simpa using e2))
          · exact Or.inl e1
    rw [f_X7_topsOf_12]
    simp (disch := omega) only [so_1, ao_2, ao_3, ao_4, ao_5, ao_6, ao_7, ly_1_0 hR, ly_1_1 hR, ly_1_2 hR, ly_1_3 hR, ly_1_4 hR, ly_1_7 hR, ly_1_11 hR, ly_1_12 hR, ly_1_13 hR, x_holds, f_X7_topsOf_59, hI, lit, gp1, rl1, rs1, bd1, lt1, n_add, n_sub, n_dec, n_le, n_lt, n_eq, n_in, nI_clamp, n_mul, m_or, m_and, m_pow, m_bit, m_dif, n_neg, yn_0, yn_1, yn_z, yn_d, one31, Nat.add_sub_cancel, Nat.not_lt_zero, if_true, if_false, ite_true, ite_false]
    by_cases h1 : s.testBit k = true
    · rw [if_neg (by simp [h1])]
      by_cases h2 : by_.testBit (d_by D k) = true
      · rw [if_neg (by simp [h2]), ih f tp by_ (by omega) (by omega) ht hb]
        · rw [mk, hT]; simp [h1, h2]
        · intro b; rw [hB]
          exact ⟨fun ⟨h, q⟩ => ⟨h, by omega, q.2⟩, fun ⟨h, q⟩ => by
            by_cases e : h = k
            · subst e; rw [← q.2.2.2]; exact (hB _).mp h2
            · exact ⟨h, by omega, q.2⟩⟩
      · rw [if_pos (by simpa using h2), ih f _ _ (by omega) (by omega) (or_lt ht (pow_lt (by omega))) (or_lt hb (pow_lt (by omega)))]
        · rw [mk, hT]; simp [h1, h2, Nat.or_assoc, Nat.or_comm]
        · intro b; rw [bit_or, Bool.or_eq_true, hB, decide_eq_true_eq]
          constructor
          · rintro (⟨h, q⟩ | q)
            · exact ⟨h, by omega, q.2⟩
            · exact ⟨k, by omega, by omega, h1, q⟩
          · rintro ⟨h, q⟩
            by_cases e : h = k
            · subst e; exact Or.inr q.2.2.2
            · exact Or.inl ⟨h, by omega, q.2⟩
    · rw [if_pos (by simpa using h1), ih f tp by_ (by omega) (by omega) ht hb]
      · rw [mk, hT]; simp [h1]
      · intro b; rw [hB]
        exact ⟨fun ⟨h, q⟩ => ⟨h, by omega, q.2⟩, fun ⟨h, q⟩ => ⟨h, by
          have : h ≠ k := fun e => h1 (e ▸ q.2.2.1)
          omega, q.2⟩⟩
theorem p_tops (hR : Lay R) (hC : CR0 I 1 D) (hV : VD D) {s : Nat} (hs : s < 1024) : f_X7_topsOf (S0 ++ J) R I 1 (nI s) = some (nI (mk (topb D s) (d_n D))) := by
  have h9 := hV.1
  rw [f_X7_topsOf, so_1, gp1, show I 1 5 = nI (d_n D) from hC.1, Int32.sub_eq_add_neg]
  simp only [lit]
  rw [p_tops12 hR hC hV hs (d_n D) 512 0 0 (Nat.le_refl _) (by omega) (by decide) (by decide)]
  · rw [Nat.zero_or]
  · intro b; simp; omega
end SHED
