/-! THE CLASS' SHED: mates anew, who may go, in and out -/
theorem u_eq {α : Type} (I : Nat → Nat → α) (a j : Nat) (x : α) (k i : Nat) : up2 I a j x k i = if k = a ∧ i = j then x else I k i := by
  unfold up2
  by_cases h : k = a
  · by_cases h2 : i = j
    · simp [h, h2, up1]
    · simp [h, h2, up1]
  · simp [h]
theorem u1_eq {α : Type} (f : Nat → α) (j : Nat) (x : α) (i : Nat) : up1 f j x i = if i = j then x else f i := by
  unfold up1; rfl
def Dadd (D : Dt) (k b c w : Nat) : Dt := (d_n D + 1, up1 (d_kd D) (d_n D) k, up1 (d_by D) (d_n D) b, up1 (d_cl D) (d_n D) c, up1 (d_wo D) (d_n D) w, d_o D, d_ln D, d_ga D, d_da D, d_z D, d_nr D, d_rk D, d_rt D, d_rb D, d_rx D, d_np D, d_pg D, d_pc D)
def Dout (D : Dt) (g : Nat) : Dt := (d_n D, d_kd D, d_by D, d_cl D, d_wo D, d_o D + 1, up1 (d_ln D) (d_o D) g, d_ga D, d_da D, d_z D, d_nr D, d_rk D, d_rt D, d_rb D, d_rx D, d_np D, d_pg D, d_pc D)
def Dback (D : Dt) : Dt := (d_n D, d_kd D, d_by D, d_cl D, d_wo D, d_o D - 1, d_ln D, d_ga D, d_da D, d_z D, d_nr D, d_rk D, d_rt D, d_rb D, d_rx D, d_np D, d_pg D, d_pc D)
def Dkd (D : Dt) (g k : Nat) : Dt := (d_n D, up1 (d_kd D) g k, d_by D, d_cl D, d_wo D, d_o D, d_ln D, d_ga D, d_da D, d_z D, d_nr D, d_rk D, d_rt D, d_rb D, d_rx D, d_np D, d_pg D, d_pc D)
def Dcl (D : Dt) (g k : Nat) : Dt := (d_n D, d_kd D, d_by D, up1 (d_cl D) g k, d_wo D, d_o D, d_ln D, d_ga D, d_da D, d_z D, d_nr D, d_rk D, d_rt D, d_rb D, d_rx D, d_np D, d_pg D, d_pc D)
def Dwo (D : Dt) (g k : Nat) : Dt := (d_n D, d_kd D, d_by D, d_cl D, up1 (d_wo D) g k, d_o D, d_ln D, d_ga D, d_da D, d_z D, d_nr D, d_rk D, d_rt D, d_rb D, d_rx D, d_np D, d_pg D, d_pc D)
def Dga (D : Dt) (v : Nat) : Dt := (d_n D, d_kd D, d_by D, d_cl D, d_wo D, d_o D, d_ln D, v, d_da D, d_z D, d_nr D, d_rk D, d_rt D, d_rb D, d_rx D, d_np D, d_pg D, d_pc D)
def Dda (D : Dt) (v : Nat) : Dt := (d_n D, d_kd D, d_by D, d_cl D, d_wo D, d_o D, d_ln D, d_ga D, v, d_z D, d_nr D, d_rk D, d_rt D, d_rb D, d_rx D, d_np D, d_pg D, d_pc D)
def Dz (D : Dt) (v : Int32) : Dt := (d_n D, d_kd D, d_by D, d_cl D, d_wo D, d_o D, d_ln D, d_ga D, d_da D, v, d_nr D, d_rk D, d_rt D, d_rb D, d_rx D, d_np D, d_pg D, d_pc D)
def Drp (D : Dt) (g c : Nat) : Dt := (d_n D, d_kd D, d_by D, d_cl D, d_wo D, d_o D, d_ln D, d_ga D, d_da D, d_z D, d_nr D, d_rk D, d_rt D, d_rb D, d_rx D, d_np D + 1, up1 (d_pg D) (d_np D) g, up1 (d_pc D) (d_np D) c)
def Dr0 (D : Dt) : Dt := (d_n D, d_kd D, d_by D, d_cl D, d_wo D, d_o D, d_ln D, d_ga D, d_da D, d_z D, d_nr D, d_rk D, d_rt D, d_rb D, d_rx D, 0, d_pg D, d_pc D)
def Dru (D : Dt) (nr : Nat) (rk rt rb : Nat → Nat) (rc : Nat → List (Nat × Nat × Nat) × List (Nat × Nat × Nat)) : Dt := (d_n D, d_kd D, d_by D, d_cl D, d_wo D, d_o D, d_ln D, d_ga D, d_da D, d_z D, nr, rk, rt, rb, rc, d_np D, d_pg D, d_pc D)
theorem CR0_fr {I I' : Iw} {b : Nat} {D : Dt} (h : ∀ k j, b ≤ k → k ≤ b + 15 → k ≠ b + 5 → I' k j = I k j) (hC : CR0 I b D) : CR0 I' b D := by
  obtain ⟨h1, h2, h3, h4, h5, h6, h7, h8, h9, h10, h11⟩ := hC
  have e : ∀ d j, d ≤ 15 → d ≠ 5 → I' (b + d) j = I (b + d) j := fun d j q1 q2 => h (b + d) j (by omega) (by omega) (by omega)
  have e0 : ∀ j, I' b j = I b j := fun j => h b j (by omega) (by omega) (by omega)
  refine ⟨by rw [e0]; exact h1, by rw [e0]; exact h2, by rw [e0]; exact h3, by rw [e0]; exact h4, by rw [e0]; exact h5, by rw [e0]; exact h6, by rw [e0]; exact h7, ?_, ?_, ?_, ?_⟩
  · intro g hg
    rw [e 1 _ (by omega) (by omega), e 2 _ (by omega) (by omega), e 3 _ (by omega) (by omega), e 4 _ (by omega) (by omega)]
    exact h8 g hg
  · intro k hk
    rw [e 6 _ (by omega) (by omega)]
    exact h9 k hk
  · rw [e 7 _ (by omega) (by omega), e 7 _ (by omega) (by omega)]
    refine ⟨h10.1, h10.2.1, fun r hr => ?_⟩
    rw [e 8 _ (by omega) (by omega), e 9 _ (by omega) (by omega), e 10 _ (by omega) (by omega)]
    refine ⟨(h10.2.2 r hr).1, (h10.2.2 r hr).2.1, (h10.2.2 r hr).2.2.1, fun i c hc => ?_⟩
    rw [e 11 _ (by omega) (by omega), e 12 _ (by omega) (by omega), e 13 _ (by omega) (by omega)]
    exact (h10.2.2 r hr).2.2.2 i c hc
  · intro k hk
    rw [e 14 _ (by omega) (by omega), e 15 _ (by omega) (by omega)]
    exact h11 k hk
theorem CR_fr {I I' : Iw} {b : Nat} {D : Dt} (h : ∀ k j, b ≤ k → k ≤ b + 15 → I' k j = I k j) (hC : CR I b D) : CR I' b D :=
  ⟨CR0_fr (fun k j h1 h2 _ => h k j h1 h2) hC.1, fun g hg => by rw [h _ _ (by omega) (by omega)]; exact hC.2 g hg⟩
def plO : Option Nat → Int32
  | none => -nI 9
  | some i => nI i
section MOVES
variable {J : Sh} {R : Rw} {I : Iw} {D : Dt}
theorem p_renew14 (hR : Lay R) (hV : VD D) {g : Nat} (hg : g < d_n D) (ko : Iw → Nat → Int32 → Option Iw) : ∀ (k t f : Nat) (I : Iw), CR0 I 1 D → t + k = d_n D → k < f →
    f_X7_renewMates_14 (S0 ++ J) R ko f I 1 (nI g) (nI (mk (fun h => h != g && bes D g h) t)) (nI t) = ko (up2 I 6 g (nI (mates D g))) 1 (nI (g + 1)) := by
  have h9 := hV.1
  intro k
  induction k with
  | zero =>
    intro t f I hC ht hf
    have c5 : I 1 5 = nI (d_n D) := hC.1
    obtain ⟨f, rfl⟩ := Nat.exists_eq_succ_of_ne_zero (n := f) (by omega)
    rw [f_X7_renewMates_14]
    simp (disch := omega) only [so_1, ao_2, ao_3, ao_4, ao_5, ao_6, ao_7, so_8, ao_9, ao_10, ao_11, ao_12, ao_13, ao_14, ao_15, ao_16, ly_1_0 hR, ly_1_1 hR, ly_1_2 hR, ly_1_3 hR, ly_1_4 hR, ly_1_7 hR, ly_1_11 hR, ly_1_12 hR, ly_1_13 hR, ly_8_1 hR, ly_8_2 hR, ly_8_3 hR, ly_8_5 hR, ly_8_6 hR, ly_8_7 hR, c5, lit, gp1, rl1, rs1, bd1, lt1, n_add, n_sub, n_dec, n_le, n_lt, n_eq, n_in, nI_clamp, n_mul, m_or, m_and, m_pow, m_bit, m_dif, n_neg, yn_0, yn_1, yn_z, yn_d, one31, Nat.add_sub_cancel, Nat.not_lt_zero, if_true, if_false, ite_true, ite_false]
    rw [if_pos (by omega), show t = d_n D by omega]; rfl
  | succ k ih =>
    intro t f I hC ht hf
    have c5 : I 1 5 = nI (d_n D) := hC.1
    obtain ⟨f, rfl⟩ := Nat.exists_eq_succ_of_ne_zero (n := f) (by omega)
    rw [f_X7_renewMates_14]
    simp (disch := omega) only [so_1, ao_2, ao_3, ao_4, ao_5, ao_6, ao_7, so_8, ao_9, ao_10, ao_11, ao_12, ao_13, ao_14, ao_15, ao_16, ly_1_0 hR, ly_1_1 hR, ly_1_2 hR, ly_1_3 hR, ly_1_4 hR, ly_1_7 hR, ly_1_11 hR, ly_1_12 hR, ly_1_13 hR, ly_8_1 hR, ly_8_2 hR, ly_8_3 hR, ly_8_5 hR, ly_8_6 hR, ly_8_7 hR, c5, p_came hR hC hV hg (show t < d_n D by omega), f_X7_renewMates_37, yn_i, lit, gp1, rl1, rs1, bd1, lt1, n_add, n_sub, n_dec, n_le, n_lt, n_eq, n_in, nI_clamp, n_mul, m_or, m_and, m_pow, m_bit, m_dif, n_neg, yn_0, yn_1, yn_z, yn_d, one31, Nat.add_sub_cancel, Nat.not_lt_zero, if_true, if_false, ite_true, ite_false]
    rw [if_neg (by omega)]
    have hx := ih (t + 1) f I hC (by omega) (by omega)
    rw [mk] at hx
    by_cases q : (g != t && bes D g t) = true
    · have q2 : (t != g && bes D g t) = true := by
        rw [Bool.and_eq_true, bne_iff_ne] at q ⊢
        exact ⟨fun e => q.1 e.symm, q.2⟩
      rw [if_neg (by rw [q]; decide)]
      rw [if_pos q2] at hx
      exact hx
    · have q2 : ¬ (t != g && bes D g t) = true := by
        rw [Bool.and_eq_true, bne_iff_ne] at q ⊢
        exact fun e => q ⟨fun e2 => e.1 e2.symm, e.2⟩
      rw [if_pos (by rw [show (g != t && bes D g t) = false from Bool.eq_false_iff.mpr q]; rfl)]
      rw [if_neg q2, Nat.or_zero] at hx
      exact hx
theorem p_renew2 (hR : Lay R) (hV : VD D) : ∀ (k g f : Nat) (I : Iw), CR0 I 1 D → (∀ i, i < g → I 6 i = nI (mates D i)) → g + k = d_n D → k < f →
    ∃ I', f_X7_renewMates_2 (S0 ++ J) R f I 1 (nI g) = some I' ∧ (∀ a j, a ≠ 6 → I' a j = I a j) ∧ CRm I' 1 D := by
  have h9 := hV.1
  intro k
  induction k with
  | zero =>
    intro g f I hC hm hg hf
    have c5 : I 1 5 = nI (d_n D) := hC.1
    obtain ⟨f, rfl⟩ := Nat.exists_eq_succ_of_ne_zero (n := f) (by omega)
    rw [f_X7_renewMates_2]
    simp (disch := omega) only [so_1, ao_2, ao_3, ao_4, ao_5, ao_6, ao_7, so_8, ao_9, ao_10, ao_11, ao_12, ao_13, ao_14, ao_15, ao_16, ly_1_0 hR, ly_1_1 hR, ly_1_2 hR, ly_1_3 hR, ly_1_4 hR, ly_1_7 hR, ly_1_11 hR, ly_1_12 hR, ly_1_13 hR, ly_8_1 hR, ly_8_2 hR, ly_8_3 hR, ly_8_5 hR, ly_8_6 hR, ly_8_7 hR, c5, lit, gp1, rl1, rs1, bd1, lt1, n_add, n_sub, n_dec, n_le, n_lt, n_eq, n_in, nI_clamp, n_mul, m_or, m_and, m_pow, m_bit, m_dif, n_neg, yn_0, yn_1, yn_z, yn_d, one31, Nat.add_sub_cancel, Nat.not_lt_zero, if_true, if_false, ite_true, ite_false]
    rw [if_pos (by omega)]
    exact ⟨I, rfl, fun _ _ _ => rfl, fun i hi => hm i (by omega)⟩
  | succ k ih =>
    intro g f I hC hm hg hf
    have c5 : I 1 5 = nI (d_n D) := hC.1
    obtain ⟨f, rfl⟩ := Nat.exists_eq_succ_of_ne_zero (n := f) (by omega)
    rw [f_X7_renewMates_2]
    simp (disch := omega) only [so_1, ao_2, ao_3, ao_4, ao_5, ao_6, ao_7, so_8, ao_9, ao_10, ao_11, ao_12, ao_13, ao_14, ao_15, ao_16, ly_1_0 hR, ly_1_1 hR, ly_1_2 hR, ly_1_3 hR, ly_1_4 hR, ly_1_7 hR, ly_1_11 hR, ly_1_12 hR, ly_1_13 hR, ly_8_1 hR, ly_8_2 hR, ly_8_3 hR, ly_8_5 hR, ly_8_6 hR, ly_8_7 hR, c5, lit, gp1, rl1, rs1, bd1, lt1, n_add, n_sub, n_dec, n_le, n_lt, n_eq, n_in, nI_clamp, n_mul, m_or, m_and, m_pow, m_bit, m_dif, n_neg, yn_0, yn_1, yn_z, yn_d, one31, Nat.add_sub_cancel, Nat.not_lt_zero, if_true, if_false, ite_true, ite_false]
    rw [if_neg (by omega), show nI 0 = nI (mk (fun h => h != g && bes D g h) 0) from rfl, show f_X7_renewMates_14 (S0 ++ J) R (f_X7_renewMates_2 (S0 ++ J) R f) 512 I 1 (nI g) (nI (mk (fun h => h != g && bes D g h) 0)) (nI (mk (fun h => h != g && bes D g h) 0)) = _ from p_renew14 hR hV (show g < d_n D by omega) _ (d_n D) 0 512 I hC (by omega) (by omega)]
    have hC2 : CR0 (up2 I 6 g (nI (mates D g))) 1 D := CR0_fr (fun a j _ _ h6 => by rw [u_eq, if_neg (by omega)]) hC
    obtain ⟨I', e, fr, m⟩ := ih (g + 1) f (up2 I 6 g (nI (mates D g))) hC2 (fun i hi => by
      rw [u_eq]
      by_cases q : i = g
      · rw [if_pos ⟨rfl, q⟩, q]
      · rw [if_neg (by omega)]; exact hm i (by omega)) (by omega) (by omega)
    exact ⟨I', e, fun a j h6 => by rw [fr a j h6, u_eq, if_neg (by omega)], m⟩
theorem p_renew (hR : Lay R) (hC : CR0 I 1 D) (hV : VD D) : ∃ I', f_X7_renewMates (S0 ++ J) R I 1 = some I' ∧ (∀ a j, a ≠ 6 → I' a j = I a j) ∧ CR I' 1 D := by
  have h9 := hV.1
  obtain ⟨I', e, fr, m⟩ := p_renew2 (J := J) hR hV (d_n D) 0 512 I hC (fun i hi => absurd hi (Nat.not_lt_zero i)) (by omega) (by omega)
  exact ⟨I', e, fr, CR0_fr (fun a j _ _ h => fr a j (by omega)) hC, m⟩
theorem mates_lt (hV : VD D) (g : Nat) : mates D g < 1024 := mk_lt _ _ (by have := hV.1; omega)
theorem p_mayGo (hR : Lay R) (hC : CR I 1 D) (hV : VD D) {s l : Nat} (hs : s < 1024) (hl : l ≤ d_n D) : f_X7_mayGo (S0 ++ J) R I 1 (nI s) (nI l - nI 1) = some (nI (mk (mayb D s l) (d_n D))) := by
  have h9 := hV.1
  have ht := mk_lt (topb D s) (d_n D) (by omega)
  by_cases h0 : l = 0
  · subst h0
    have hh : f_X7_has (S0 ++ J) R I 1 (nI 0 - nI 1) = some (yn false) := by
      rw [p_has hC.1]; rfl
    rw [f_X7_mayGo]
    simp only [lit, so_1, gp1, p_tops hR hC.1 hV hs, bd1, hh, yn_0, if_true]
    have : (fun g => mayb D s 0 g) = topb D s := by funext g; simp [mayb]
    rw [show mayb D s 0 = topb D s from this]
  · have hh : f_X7_has (S0 ++ J) R I 1 (nI (l - 1)) = some (yn true) := by
      rw [p_has hC.1, hs_t hV (by omega)]; rfl
    have c6 : I 6 (l - 1) = nI (mates D (l - 1)) := hC.2 (l - 1) (by omega)
    rw [f_X7_mayGo]
    simp (disch := omega) only [so_1, ao_2, ao_3, ao_4, ao_5, ao_6, ao_7, so_8, ao_9, ao_10, ao_11, ao_12, ao_13, ao_14, ao_15, ao_16, ly_1_0 hR, ly_1_1 hR, ly_1_2 hR, ly_1_3 hR, ly_1_4 hR, ly_1_7 hR, ly_1_11 hR, ly_1_12 hR, ly_1_13 hR, ly_8_1 hR, ly_8_2 hR, ly_8_3 hR, ly_8_5 hR, ly_8_6 hR, ly_8_7 hR, p_tops hR hC.1 hV hs, hh, c6, m_dif ht (mates_lt hV _), lit, gp1, rl1, rs1, bd1, lt1, n_add, n_sub, n_dec, n_le, n_lt, n_eq, n_in, nI_clamp, n_mul, m_or, m_and, m_pow, m_bit, m_dif, n_neg, yn_0, yn_1, yn_z, yn_d, one31, Nat.add_sub_cancel, Nat.not_lt_zero, if_true, if_false, ite_true, ite_false]
    rw [if_neg (by decide)]
    congr 2
    refine mk_of fun i => ?_
    rw [mdiff_bit, mk_bit, mates, mk_bit, mayb]
    by_cases hi : i < d_n D
    · have h2 : i < 10 := by omega
      simp only [hi, h2, decide_true, Bool.true_and, Bool.and_true]
      by_cases e : i = l - 1
      · subst e; simp [h0]
      · have e2 : ¬ l - 1 = i := fun q => e q.symm
        rw [show (i != l - 1) = true by simpa using e, show (l - 1 != i) = true by simpa using e2, show (l == 0) = false by simpa using h0]
        simp
    · simp [hi]
theorem x_without {S : Sh} {R : Rw} {I : Iw} {m g : Nat} (hm : m < 1024) (hg : g < 10) : f_X11_without S R I (nI m) (nI g) = some (nI (mdiff m (2 ^ g))) := by
  simp (disch := omega) only [f_X11_without, m_dif hm (pow_lt hg), lit, gp1, rl1, rs1, bd1, lt1, n_add, n_sub, n_dec, n_le, n_lt, n_eq, n_in, nI_clamp, n_mul, m_or, m_and, m_pow, m_bit, m_dif, n_neg, yn_0, yn_1, yn_z, yn_d, one31, Nat.add_sub_cancel, Nat.not_lt_zero, if_true, if_false, ite_true, ite_false]
  rw [if_neg (by omega)]
theorem insm_bit (D : Dt) (g : Nat) : (insm D).testBit g = (decide (g < 9) && isin D g) := by rw [insm, mk_bit]
theorem insm_lt (D : Dt) : insm D < 1024 := mk_lt _ _ (by decide)
theorem p_place2 (hR : Lay R) (hC : CR0 I 1 D) (hV : VD D) {g : Nat} (hg : g < d_n D) : ∀ (k t f : Nat), t + k = d_o D → k < f →
    f_X7_placeInLine_2 (S0 ++ J) R I f 1 (nI g) (nI t) = some (plO (fndR (fun i => d_ln D i == g) t k)) := by
  have h9 := hV.1
  have h2 := hV.2.1
  have c8 : I 1 8 = nI (d_o D) := hC.2.2.1
  intro k
  induction k with
  | zero =>
    intro t f ht hf
    obtain ⟨f, rfl⟩ := Nat.exists_eq_succ_of_ne_zero (n := f) (by omega)
    rw [f_X7_placeInLine_2]
    simp (disch := omega) only [so_1, ao_2, ao_3, ao_4, ao_5, ao_6, ao_7, so_8, ao_9, ao_10, ao_11, ao_12, ao_13, ao_14, ao_15, ao_16, ly_1_0 hR, ly_1_1 hR, ly_1_2 hR, ly_1_3 hR, ly_1_4 hR, ly_1_7 hR, ly_1_11 hR, ly_1_12 hR, ly_1_13 hR, ly_8_1 hR, ly_8_2 hR, ly_8_3 hR, ly_8_5 hR, ly_8_6 hR, ly_8_7 hR, c8, lit, gp1, rl1, rs1, bd1, lt1, n_add, n_sub, n_dec, n_le, n_lt, n_eq, n_in, nI_clamp, n_mul, m_or, m_and, m_pow, m_bit, m_dif, n_neg, yn_0, yn_1, yn_z, yn_d, one31, Nat.add_sub_cancel, Nat.not_lt_zero, if_true, if_false, ite_true, ite_false]
    rw [if_pos (by omega)]; rfl
  | succ k ih =>
    intro t f ht hf
    obtain ⟨f, rfl⟩ := Nat.exists_eq_succ_of_ne_zero (n := f) (by omega)
    have c7 : I 7 t = nI (d_ln D t) := hC.2.2.2.2.2.2.2.2.1 t (by omega)
    have v3 := hV.2.2.1 t (by omega)
    rw [f_X7_placeInLine_2]
    have ih := ih (t + 1) f (by omega) (by omega)
    simp (disch := omega) only [so_1, ao_2, ao_3, ao_4, ao_5, ao_6, ao_7, so_8, ao_9, ao_10, ao_11, ao_12, ao_13, ao_14, ao_15, ao_16, ly_1_0 hR, ly_1_1 hR, ly_1_2 hR, ly_1_3 hR, ly_1_4 hR, ly_1_7 hR, ly_1_11 hR, ly_1_12 hR, ly_1_13 hR, ly_8_1 hR, ly_8_2 hR, ly_8_3 hR, ly_8_5 hR, ly_8_6 hR, ly_8_7 hR, c8, c7, ih, fndR, lit, gp1, rl1, rs1, bd1, lt1, n_add, n_sub, n_dec, n_le, n_lt, n_eq, n_in, nI_clamp, n_mul, m_or, m_and, m_pow, m_bit, m_dif, n_neg, yn_0, yn_1, yn_z, yn_d, one31, Nat.add_sub_cancel, Nat.not_lt_zero, if_true, if_false, ite_true, ite_false]
    rw [if_neg (by omega)]
    by_cases e : d_ln D t = g
    · rw [if_pos e, if_pos (by simpa using e)]; rfl
    · rw [if_neg e, if_neg (by simpa using e)]
theorem p_place (hR : Lay R) (hC : CR0 I 1 D) (hV : VD D) {g : Nat} (hg : g < d_n D) : f_X7_placeInLine (S0 ++ J) R I 1 (nI g) = some (plO (fndR (fun i => d_ln D i == g) 0 (d_o D))) := by
  have h9 := hV.1
  have h2 := hV.2.1
  exact p_place2 hR hC hV hg (d_o D) 0 512 (by omega) (by omega)
end MOVES
