/-! CALLS: the rows of the first way -/
theorem sm_pos {f : Nat → Nat} : ∀ {n : Nat}, 0 < sm f n → ∃ g, g < n ∧ 0 < f g
  | 0, h => absurd h (Nat.lt_irrefl 0)
  | n + 1, h => by
    rw [sm] at h
    by_cases e : 0 < f n
    · exact ⟨n, by omega, e⟩
    · obtain ⟨g, g1, g2⟩ := sm_pos (f := f) (n := n) (by omega)
      exact ⟨g, by omega, g2⟩
theorem ldb_0 {D : Dt} {s l g : Nat} : ldb D 0 s l g = decide (0 < Wy D (mdiff s (2 ^ g)) (g + 1)) := by
  unfold ldb
  rw [if_pos rfl]
theorem fst_way {D : Dt} (hV : VD D) : ∀ r s l, s < 512 → cnt s ≤ r → 0 < Wy D s l → (fstO D 0 r s l).length = cnt s
  | 0, s, l, hs, hc, _ => by
    have : cnt s = 0 := by omega
    rw [this]; rfl
  | r + 1, s, l, hs, hc, hw => by
    have h9 := hV.1
    rw [fstO]
    cases hn : nxtO D 0 s l with
    | none =>
      show 0 = cnt s
      by_cases h0 : cnt s = 0
      · exact h0.symm
      · exfalso
        obtain ⟨k, hk⟩ := Nat.exists_eq_succ_of_ne_zero h0
        have hs0 : s ≠ 0 := fun q => h0 ((cnt_0 (by omega)).mpr q)
        unfold Wy at hw
        rw [hk, oW, if_neg hs0] at hw
        obtain ⟨g, g1, g2⟩ := sm_pos hw
        have hb : (fre D s l).testBit g = true := by
          cases q : (fre D s l).testBit g with
          | true => rfl
          | false => rw [q, if_neg (by decide)] at g2; omega
        rw [hb, if_pos rfl] at g2
        have hcd := cnt_diff (fre_bit hb).2 (by omega)
        have hno := fndR_no (P := pF D 0 s l) (k := 9) (t := 0) hn g (Nat.zero_le _) (by omega)
        have hck : cnt (mdiff s (2 ^ g)) = k := by omega
        rw [pF, hb, Bool.true_and, ldb_0, Wy, hck, decide_eq_true g2] at hno
        cases hno
    | some g =>
      have hq := (fndR_lt (P := pF D 0 s l) (k := 9) (t := 0) hn).2
      rw [pF, Bool.and_eq_true, ldb_0, decide_eq_true_eq] at hq
      have hbt := fre_bit hq.1
      have hcd := cnt_diff hbt.2 (by omega)
      have hlt : mdiff s (2 ^ g) < 512 := Nat.lt_of_le_of_lt Nat.and_le_left hs
      show (fstO D 0 r (mdiff s (2 ^ g)) (g + 1)).length + 1 = cnt s
      rw [fst_way hV r _ _ hlt (by omega) hq.2]
      exact hcd
theorem list_gs (L : List Nat) : ∃ gs : Nat → Nat, ∀ i, i < L.length → L[i]? = some (gs i) := ⟨fun i => L.getD i 0, fun i hi => by
  show L[i]? = some (L.getD i 0)
  rw [List.getD_eq_getElem?_getD, List.getElem?_eq_getElem hi]; rfl⟩
theorem fst_mem {D : Dt} {w : Nat} : ∀ {r s l i g : Nat}, (fstO D w r s l)[i]? = some g → g < d_n D
  | 0, s, l, i, g, h => by cases h
  | r + 1, s, l, i, g, h => by
    rw [fstO] at h
    cases hn : nxtO D w s l with
    | none => rw [hn] at h; cases h
    | some g0 =>
      rw [hn] at h
      have hq := (fndR_lt (P := pF D w s l) (k := 9) (t := 0) hn).2
      rw [pF, Bool.and_eq_true] at hq
      cases i with
      | zero =>
        have h : some g0 = some g := h
        cases h
        exact (fre_bit hq.1).1
      | succ i => exact fst_mem (r := r) h
section PROVE
variable {J : Sh} {R : Rw} {D : Dt}
/-- the row's numbers -/
def rwF (D : Dt) (gs : Nat → Nat) (c j : Nat) : Int32 := if j % 3 = 0 then nI (gs (j / 3)) else if j % 3 = 1 then nI (c - j / 3 - 1) else nI (fee D (gs (j / 3)))
theorem q_prove38 (hR : Lay R) (hV : VD D) {n : Nat} {gs : Nat → Nat} {o : Nat → Int32} (n9 : n ≤ 9) (hg : ∀ i, i < n → gs i < d_n D) : ∀ (r t f : Nat) (I : Iw), t + r = n → r < f → CR I 1 D → I 0 6 = nI n → (∀ i, i < n → I 51 i = nI (gs i)) → (∀ j, I 52 j = if j < 3 * t then rwF D gs n j else o j) →
    ∃ I', f_X11_prove_38 (S0 ++ J) R f I 0 (nI n) (nI t) = some (I', nI n) ∧ (∀ j, I' 52 j = if j < 3 * n then rwF D gs n j else o j) ∧ ∀ a j, a ≠ 52 → I' a j = I a j := by
  intro r
  induction r with
  | zero =>
    intro t f I ht hf hC h6 h51 h52
    obtain ⟨f, rfl⟩ := Nat.exists_eq_succ_of_ne_zero (n := f) (by omega)
    have : t = n := by omega
    subst this
    refine ⟨I, ?_, h52, fun _ _ _ => rfl⟩
    rw [f_X11_prove_38]
    simp (disch := omega) only [so_0, ly_0_0 hR, ly_0_1 hR, ly_0_3 hR, ly_0_4 hR, ly_0_5 hR, ly_0_7 hR, ly_0_8 hR, ly_0_9 hR, ly_0_10 hR, h6, lit, gp1, rl1, rs1, bd1, lt1, n_add, n_sub, n_dec, n_le, n_lt, n_eq, n_in, nI_clamp, n_mul, m_or, m_and, m_pow, m_bit, m_dif, n_neg, yn_0, yn_1, yn_z, yn_d, one31, Nat.add_sub_cancel, Nat.not_lt_zero, if_true, if_false, ite_true, ite_false, Bool.true_eq_false, Bool.false_eq_true, Nat.add_zero, Nat.zero_add]
    rw [if_pos (by omega)]
  | succ r ih =>
    intro t f I ht hf hC h6 h51 h52
    obtain ⟨f, rfl⟩ := Nat.exists_eq_succ_of_ne_zero (n := f) (by omega)
    have hgt := h51 t (by omega)
    have ht3 : t * 3 = 3 * t := Nat.mul_comm t 3
    have fr : ∀ a j, a ≠ 52 → up2 (up2 (up2 I 52 (3 * t) (nI (gs t))) 52 (3 * t + 1) (nI (n - t - 1))) 52 (3 * t + 2) (nI (fee D (gs t))) a j = I a j := fun a j h => by rw [u_eq, if_neg (by omega), u_eq, if_neg (by omega), u_eq, if_neg (by omega)]
    have fr2 : ∀ a j, a ≠ 52 → up2 (up2 I 52 (3 * t) (nI (gs t))) 52 (3 * t + 1) (nI (n - t - 1)) a j = I a j := fun a j h => by rw [u_eq, if_neg (by omega), u_eq, if_neg (by omega)]
    obtain ⟨I', e1, e2, e3⟩ := ih (t + 1) f (up2 (up2 (up2 I 52 (3 * t) (nI (gs t))) 52 (3 * t + 1) (nI (n - t - 1))) 52 (3 * t + 2) (nI (fee D (gs t)))) (by omega) (by omega) (CR_fr (fun a j q1 q2 => fr a j (by omega)) hC) ((fr 0 6 (by decide)).trans h6) (fun i hi => (fr 51 i (by decide)).trans (h51 i hi)) (fun j => by
      rw [u_eq, u_eq, u_eq, h52]
      by_cases q0 : j = 3 * t
      · rw [if_neg (by omega), if_neg (by omega), if_pos ⟨rfl, q0⟩, if_pos (by omega), rwF, if_pos (by omega), show j / 3 = t by omega]
      · by_cases q1 : j = 3 * t + 1
        · rw [if_neg (by omega), if_pos ⟨rfl, q1⟩, if_pos (by omega), rwF, if_neg (by omega), if_pos (by omega), show j / 3 = t by omega]
        · by_cases q2 : j = 3 * t + 2
          · rw [if_pos ⟨rfl, q2⟩, if_pos (by omega), rwF, if_neg (by omega), if_neg (by omega), show j / 3 = t by omega]
          · rw [if_neg (by omega), if_neg (by omega), if_neg (by omega)]
            by_cases q3 : j < 3 * t
            · rw [if_pos q3, if_pos (by omega)]
            · rw [if_neg q3, if_neg (by omega)])
    have hfe : f_X7_fee (S0 ++ J) R (up2 (up2 I 52 (3 * t) (nI (gs t))) 52 (3 * t + 1) (nI (n - t - 1))) 1 (nI (gs t)) = some (nI (fee D (gs t))) := p_fee hR (CR_fr (fun a j q1 q2 => fr2 a j (by omega)) hC).1 hV (hg t (by omega))
    refine ⟨I', ?_, e2, fun a j h => by rw [e3 a j h, fr a j h]⟩
    rw [f_X11_prove_38]
    simp (disch := omega) only [so_0, so_1, ly_0_0 hR, ly_0_1 hR, ly_0_3 hR, ly_0_4 hR, ly_0_5 hR, ly_0_7 hR, ly_0_8 hR, ly_0_9 hR, ly_0_10 hR, ly_1_0 hR, ly_1_1 hR, ly_1_2 hR, ly_1_3 hR, ly_1_4 hR, ly_1_7 hR, ly_1_11 hR, ly_1_12 hR, ly_1_13 hR, so_44, ao_45, ao_46, ao_47, ao_48, ao_49, ao_50, ao_51, ao_52, ly_44_0 hR, ly_44_1 hR, ly_44_3 hR, ly_44_4 hR, ly_44_5 hR, ly_44_6 hR, ly_44_7 hR, ly_44_10 hR, h6, ht3, hgt, hfe, lit, gp1, rl1, rs1, bd1, lt1, n_add, n_sub, n_dec, n_le, n_lt, n_eq, n_in, nI_clamp, n_mul, m_or, m_and, m_pow, m_bit, m_dif, n_neg, yn_0, yn_1, yn_z, yn_d, one31, Nat.add_sub_cancel, Nat.not_lt_zero, if_true, if_false, ite_true, ite_false, Bool.true_eq_false, Bool.false_eq_true, Nat.add_zero, Nat.zero_add]
    rw [if_neg (by omega)]
    exact e1
theorem m_prove21 (hR : Lay R) (hV : VD D) {n : Nat} {gs : Nat → Nat} {o : Nat → Int32} (n9 : n ≤ 9) (hg : ∀ i, i < n → gs i < d_n D) : ∀ (r t f : Nat) (I : Iw), t + r = n → r < f → MR I 66 D → I 65 21 = nI n → I 65 23 = nI n → (∀ i, i < n → I 78 i = nI (gs i)) → (∀ j, I 79 j = if j < 3 * t then rwF D gs n j else o j) →
    ∃ I', f_X12_prove_21 (S0 ++ J) R f I 65 (nI t) = some (I', nI n) ∧ (∀ j, I' 79 j = if j < 3 * n then rwF D gs n j else o j) ∧ ∀ a j, a ≠ 79 → a ≠ 77 → I' a j = I a j := by
  intro r
  induction r with
  | zero =>
    intro t f I ht hf hM h21 h23 h51 h52
    obtain ⟨f, rfl⟩ := Nat.exists_eq_succ_of_ne_zero (n := f) (by omega)
    have : t = n := by omega
    subst this
    refine ⟨I, ?_, h52, fun _ _ _ _ => rfl⟩
    rw [f_X12_prove_21]
    simp (disch := omega) only [so_65, ly_65_0 hR, ly_65_1 hR, ly_65_2 hR, ly_65_4 hR, ly_65_11 hR, ly_65_13 hR, ly_65_14 hR, ly_65_15 hR, ly_65_16 hR, ly_65_17 hR, ly_65_18 hR, ly_65_19 hR, ly_65_20 hR, ly_65_22 hR, ly_65_24 hR, ly_65_25 hR, ly_65_26 hR, ly_65_27 hR, ly_65_28 hR, ly_65_29 hR, ly_65_30 hR, h21, h23, lit, gp1, rl1, rs1, bd1, lt1, n_add, n_sub, n_dec, n_le, n_lt, n_eq, n_in, nI_clamp, n_mul, m_or, m_and, m_pow, m_bit, m_dif, n_neg, yn_0, yn_1, yn_z, yn_d, one31, Nat.add_sub_cancel, Nat.not_lt_zero, if_true, if_false, ite_true, ite_false, Bool.true_eq_false, Bool.false_eq_true, Nat.add_zero, Nat.zero_add]
    rw [if_pos (by omega)]
  | succ r ih =>
    intro t f I ht hf hM h21 h23 h51 h52
    obtain ⟨f, rfl⟩ := Nat.exists_eq_succ_of_ne_zero (n := f) (by omega)
    have hgt := h51 t (by omega)
    have fr2 : ∀ a j, a ≠ 79 → up2 (up2 I 79 (3 * t) (nI (gs t))) 79 (3 * t + 1) (nI (n - t - 1)) a j = I a j := fun a j h => by rw [u_eq, if_neg (by omega), u_eq, if_neg (by omega)]
    obtain ⟨If, f1, f2⟩ := m_fee (J := J) hR (I := up2 (up2 I 79 (3 * t) (nI (gs t))) 79 (3 * t + 1) (nI (n - t - 1))) (MR_fr (fun j => fr2 66 j (by decide)) hM) hV (hg t (by omega))
    have fr : ∀ a j, a ≠ 79 → a ≠ 77 → up2 If 79 (3 * t + 2) (nI (fee D (gs t))) a j = I a j := fun a j h h7 => by rw [u_eq, if_neg (by omega), f2 a j h7, fr2 a j h]
    obtain ⟨I', e1, e2, e3⟩ := ih (t + 1) f (up2 If 79 (3 * t + 2) (nI (fee D (gs t)))) (by omega) (by omega) (MR_fr (fun j => fr 66 j (by decide) (by decide)) hM) ((fr 65 21 (by decide) (by decide)).trans h21) ((fr 65 23 (by decide) (by decide)).trans h23) (fun i hi => (fr 78 i (by decide) (by decide)).trans (h51 i hi)) (fun j => by
      rw [u_eq, f2 79 j (by decide), u_eq, u_eq, h52]
      by_cases q0 : j = 3 * t
      · rw [if_neg (by omega), if_neg (by omega), if_pos ⟨rfl, q0⟩, if_pos (by omega), rwF, if_pos (by omega), show j / 3 = t by omega]
      · by_cases q1 : j = 3 * t + 1
        · rw [if_neg (by omega), if_pos ⟨rfl, q1⟩, if_pos (by omega), rwF, if_neg (by omega), if_pos (by omega), show j / 3 = t by omega]
        · by_cases q2 : j = 3 * t + 2
          · rw [if_pos ⟨rfl, q2⟩, if_pos (by omega), rwF, if_neg (by omega), if_neg (by omega), show j / 3 = t by omega]
          · rw [if_neg (by omega), if_neg (by omega), if_neg (by omega)]
            by_cases q3 : j < 3 * t
            · rw [if_pos q3, if_pos (by omega)]
            · rw [if_neg q3, if_neg (by omega)])
    have hgt2 : up2 (up2 I 79 (3 * t) (nI (gs t))) 79 (3 * t + 1) (nI (n - t - 1)) 78 t = nI (gs t) := (fr2 78 t (by decide)).trans hgt
    have h21' : up2 I 79 (3 * t) (nI (gs t)) 65 21 = nI n := by rw [u_eq, if_neg (by omega)]; exact h21
    have hnt : n - 1 - t = n - t - 1 := by omega
    refine ⟨I', ?_, e2, fun a j h h7 => by rw [e3 a j h h7, fr a j h h7]⟩
    rw [f_X12_prove_21]
    simp (disch := omega) only [so_65, ly_65_0 hR, ly_65_1 hR, ly_65_2 hR, ly_65_4 hR, ly_65_11 hR, ly_65_13 hR, ly_65_14 hR, ly_65_15 hR, ly_65_16 hR, ly_65_17 hR, ly_65_18 hR, ly_65_19 hR, ly_65_20 hR, ly_65_22 hR, ly_65_24 hR, ly_65_25 hR, ly_65_26 hR, ly_65_27 hR, ly_65_28 hR, ly_65_29 hR, ly_65_30 hR, ao_78, ao_79, h21, h23, hgt, h21', hnt, hgt2, f1, lit, gp1, rl1, rs1, bd1, lt1, n_add, n_sub, n_dec, n_le, n_lt, n_eq, n_in, nI_clamp, n_mul, m_or, m_and, m_pow, m_bit, m_dif, n_neg, yn_0, yn_1, yn_z, yn_d, one31, Nat.add_sub_cancel, Nat.not_lt_zero, if_true, if_false, ite_true, ite_false, Bool.true_eq_false, Bool.false_eq_true, Nat.add_zero, Nat.zero_add]
    rw [if_neg (by omega)]
    exact e1
theorem so44q {J : Sh} : sok (S0 ++ J) 44 2 11 = true := id rfl
theorem z_prove0 {I I1 : Iw} {T : Nat} (hR : Lay R) (h : Core I D T) (e1 : f_X2_study (S0 ++ J) R I 44 = some (I1, nI 0)) (f1 : frT I I1) (hT : ST I1 (T + 16)) (hO : isO D 0 = false) : ZZ I T (f_X11_prove (S0 ++ J) R I 0) (fun I1 => f_X12_prove (S0 ++ J) R I1 65) := by
  have ⟨hC, hM, hV, _⟩ := h
  have hM1 : MR I1 66 D := MR_fr (fun j => f1 66 j (by omega)) hM
  obtain ⟨I3, m1, m2, m3, m4⟩ := m_findFirst (J := J) hR hV (w := 0) (by decide) hM1
  refine ZZ_O h (r := -nI 3) (I1 := I1) (I2 := I3) ?_ ?_ (fun a j q => f1 a j (by omega)) m4 hT
  · rw [f_X11_prove, so0q, gp1q, ly_0_4 hR, rl1q, so44q, gp1q, e1, bd1q]
    exact if_pos rfl
  · rw [hO] at m1
    show f_X12_prove (S0 ++ J) R I1 65 = _
    rw [f_X12_prove, so65q, gp1q]
    show bd (f_X12_findFirst (S0 ++ J) R I1 65 (nI 0)) _ = _
    rw [m1, bd1q]
    exact if_pos rfl
theorem z_prove {I : Iw} {n0 : Nat} (hR : Lay R) (h : Core I D (16 * n0)) (hK : Rest (S0 ++ J) R I) (hT2 : 16 * n0 + 16 < 2 ^ 30) : ZR n0 (S0 ++ J) R (f_X11_prove (S0 ++ J) R I 0) (fun I1 => f_X12_prove (S0 ++ J) R I1 65) := by
  have ⟨hC, hM, hV, hT⟩ := h
  have hc := cnt_9 (insm_512 D)
  obtain ⟨nr, nr9, w1, w2, w3⟩ := hK.2.2.1
  obtain ⟨I1, T1, e1, t1, s1, f1⟩ := p_study (J := J) hR hC hV hT (by omega)
  have hWl : Wy D (insm D) (lst D) < 2 ^ 30 := oW_lt _ hc
  by_cases hW : Wy D (insm D) (lst D) = 0
  · rw [hW] at e1
    exact ZR_ZZ hR hK (z_prove0 hR h e1 (f1) (ST_up (by omega) (ST_of s1.1)) (by unfold isO; rw [if_pos rfl, hW]; rfl))
  · obtain ⟨I2, g1, g2, g3⟩ := p_first (J := J) hR hV (w := 0) (by decide) s1
    rw [fst_way hV 9 _ _ (insm_512 D) hc (by omega)] at g1
    have hlen := fst_way hV 9 _ _ (insm_512 D) hc (show 0 < Wy D (insm D) (lst D) by omega)
    obtain ⟨gs, hent⟩ := list_gs (fstO D 0 9 (insm D) (lst D))
    rw [hlen] at hent
    have hgs : ∀ i, i < cnt (insm D) → gs i < d_n D := fun i hi => fst_mem (hent i hi)
    -- the class
    have fA : ∀ a j, ¬ (a = 0 ∧ j = 6) → up2 I2 0 6 (nI (cnt (insm D))) a j = I2 a j := fun a j q => by rw [u_eq, if_neg q]
    have hC2 : CR (up2 I2 0 6 (nI (cnt (insm D)))) 1 D := CR_fr (fun a j q1 q2 => by rw [fA a j (by omega), g2 a j (by omega)]) s1.1.1
    obtain ⟨I3, p1, p2, p3⟩ := q_prove38 (J := J) (o := I 52) (gs := gs) hR hV hc hgs (cnt (insm D)) 0 512 (up2 I2 0 6 (nI (cnt (insm D)))) (by omega) (by omega) hC2 (by rw [u_eq, if_pos ⟨rfl, rfl⟩]) (fun i hi => by rw [fA 51 i (by omega)]; exact g3 i _ (hent i hi)) (fun j => by rw [fA 52 j (by omega), g2 52 j (by decide), f1 52 j (by omega), if_neg (by omega)])
    have c6 : up2 I2 0 6 (nI (cnt (insm D))) 1 6 = nI (insm D) := hC2.1.2.1
    have hfr3 : ∀ a j, (a < 44 ∨ 52 < a) → ¬ (a = 0 ∧ j = 6) → I3 a j = I a j := fun a j q q2 => by rw [p3 a j (by omega), fA a j q2, g2 a j (by omega), f1 a j (by omega)]
    -- the reference
    have hM3 : MR I3 66 D := MR_fr (fun j => hfr3 66 j (by omega) (by omega)) hM
    obtain ⟨I4, m1, m2, m3, m4⟩ := m_findFirst (J := J) hR hV (w := 0) (by decide) hM3
    rw [hlen] at m2
    have hO : isO D 0 = true := by unfold isO; rw [if_pos rfl, decide_eq_true (by omega)]
    have fB : ∀ a j, ¬ (a = 65 ∧ j = 23) → up2 I4 65 23 (nI (cnt (insm D))) a j = I4 a j := fun a j q => by rw [u_eq, if_neg q]
    obtain ⟨I5, r1, r2, r3⟩ := m_prove21 (J := J) (o := I 79) (gs := gs) hR hV hc hgs (cnt (insm D)) 0 512 (up2 I4 65 23 (nI (cnt (insm D)))) (by omega) (by omega) (MR_fr (fun j => by rw [fB 66 j (by omega), m4 66 j (by decide) (by decide) (by omega)]) hM3) (by rw [fB 65 21 (by omega)]; exact m2) (by rw [u_eq, if_pos ⟨rfl, rfl⟩]) (fun i hi => by rw [fB 78 i (by omega)]; exact m3 i _ (hent i hi)) (fun j => by rw [fB 79 j (by omega), m4 79 j (by decide) (by decide) (by omega), hfr3 79 j (by omega) (by omega), if_neg (by omega)])
    have hfr5 : ∀ a j, a ≠ 77 → a ≠ 78 → a ≠ 79 → ¬ (a = 65 ∧ (j = 21 ∨ j = 23)) → I5 a j = I3 a j := fun a j a1 a2 a3 a4 => by rw [r3 a j a3 a1, fB a j (by omega), m4 a j a1 a2 (by omega)]
    have hfr : ∀ a j, (a < 44 ∨ 52 < a) → ¬ (a = 0 ∧ j = 6) → a ≠ 77 → a ≠ 78 → a ≠ 79 → ¬ (a = 65 ∧ (j = 21 ∨ j = 23)) → I5 a j = I a j := fun a j q1 q2 a1 a2 a3 a4 => by rw [hfr5 a j a1 a2 a3 a4, hfr3 a j q1 q2]
    refine ⟨I3, nI (cnt (insm D)), I5, ?_, ?_, J, D, rfl, hR, Core_to ⟨CR_fr (fun a j q1 q2 => hfr a j (by omega) (by omega) (by omega) (by omega) (by omega) (by omega)) hC, MR_fr (fun j => hfr 66 j (by omega) (by omega) (by omega) (by omega) (by omega) (by omega)) hM, hV, ?_⟩, ?_⟩
    · simp (disch := omega) only [f_X11_prove, so0q, so1q, so44q, ly_0_0 hR, ly_0_4 hR, e1, hW, g1, c6, bitc (insm_lt D), litq, gp1q, rl1q, rs1q, bd1q, lt1q, n_add, n_sub, n_dec, n_le, n_lt, n_eq, n_in, nI_clamp, n_mul, m_or, m_and, m_pow, m_bit, m_dif, n_neg, yn_0, yn_1, yn_z, yn_d, one31, Nat.add_sub_cancel, Nat.not_lt_zero, if_true, if_false, ite_true, ite_false, Bool.true_eq_false, Bool.false_eq_true, Nat.add_zero, Nat.zero_add]
      exact p1
    · simp (disch := omega) only [f_X12_prove, so65q, m1, hO, m2, litq, gp1q, rl1q, rs1q, bd1q, lt1q, n_add, n_sub, n_dec, n_le, n_lt, n_eq, n_in, nI_clamp, n_mul, m_or, m_and, m_pow, m_bit, m_dif, n_neg, yn_0, yn_1, yn_z, yn_d, one31, Nat.add_sub_cancel, Nat.not_lt_zero, if_true, if_false, ite_true, ite_false, Bool.true_eq_false, Bool.false_eq_true, Nat.add_zero, Nat.zero_add]
      exact r1
    · refine ST_fr (I := I2) (fun a j q => ?_) (ST_fr (I := I1) (fun a j q => g2 a j (by omega)) (ST_up (by omega) (ST_of s1.1)))
      rw [hfr5 a j (by omega) (by omega) (by omega) (by omega), p3 a j (by omega), fA a j (by omega)]
    · refine ⟨KP_s (fun a j q => hfr a j (by omega) (by omega) (by omega) (by omega) (by omega) (by omega)) hK.1, TP_s (fun a j q => hfr a j (by omega) (by omega) (by omega) (by omega) (by omega) (by omega)) hK.2.1, ⟨cnt (insm D), hc, ?_, ?_, fun j hj => ?_⟩, SH_s (fun a j q => hfr a j (by omega) (by omega) (by omega) (by omega) (by omega) (by omega)) hK.2.2.2.1, SV_s (fun a j q => hfr a j (by omega) (by omega) (by omega) (by omega) (by omega) (by omega)) hK.2.2.2.2.1, TH_s (fun a j q => hfr a j (by omega) (by omega) (by omega) (by omega) (by omega) (by omega)) hK.2.2.2.2.2⟩
      · rw [hfr5 0 6 (by decide) (by decide) (by decide) (by omega), p3 0 6 (by decide), u_eq, if_pos ⟨rfl, rfl⟩]
      · rw [r3 65 23 (by decide) (by decide), u_eq, if_pos ⟨rfl, rfl⟩]
      · rw [hfr5 52 j (by decide) (by decide) (by decide) (by omega), p2 j, r2 j, w3 j hj]
end PROVE
