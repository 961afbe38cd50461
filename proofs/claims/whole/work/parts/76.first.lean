/-! THE CLASS' ORDERS: the first order of a sort -/
def MkD (I : Iw) (D : Dt) (T s l : Nat) : Prop := s < 512 ∧ l ≤ d_n D ∧ cnt s ≤ afD D ∧ I 45 (ix s l) = nI T
def ldb (D : Dt) (w s l g : Nat) : Bool := if w = 0 then decide (0 < Wy D (mdiff s (2 ^ g)) (g + 1)) else if w = 1 then decide (My D (mdiff s (2 ^ g)) (g + 1) + 1 = My D s l)
  else match Cy D (mdiff s (2 ^ g)) (g + 1) with | none => false | some c => decide (Cy D s l = some (feD D g * (afD D - cnt s + 1) + c))
def nxtO (D : Dt) (w s l : Nat) : Option Nat := fndR (fun g => (fre D s l).testBit g && ldb D w s l g) 0 9
def fstO (D : Dt) (w : Nat) : Nat → Nat → Nat → List Nat
  | 0, _, _ => []
  | k + 1, s, l => match nxtO D w s l with | none => [] | some g => g :: fstO D w k (mdiff s (2 ^ g)) (g + 1)
section FIRST
variable {J : Sh} {R : Rw} {D : Dt} {T : Nat} {I : Iw}
theorem mk_root (hV : VD D) (h : SD I D T) : MkD I D T (insm D) (lst D) := ⟨insm_512 D, lst_le hV, Nat.le_refl _, h.2.2⟩
theorem mk_ent (hV : VD D) (h : SD I D T) {s l : Nat} (m : MkD I D T s l) : ent I D s l := by
  obtain ⟨go, hg, _⟩ := h.2.1
  have h9 := hV.1
  exact (hg.2.2 s l m.1 (by have := m.2.1; omega) m.2.2.1 m.2.2.2).1
theorem mk_next (hV : VD D) (h : SD I D T) {s l g : Nat} (m : MkD I D T s l) (hb : (fre D s l).testBit g = true) : MkD I D T (mdiff s (2 ^ g)) (g + 1) := by
  obtain ⟨go, hg, _⟩ := h.2.1
  have h9 := hV.1
  have hbt := fre_bit hb
  have hcd := cnt_diff hbt.2 (by omega)
  exact ⟨Nat.lt_of_le_of_lt Nat.and_le_left m.1, hbt.1, by have := m.2.2.1; omega, (hg.2.2 s l m.1 (by have := m.2.1; omega) m.2.2.1 m.2.2.2).2.2 g hb⟩
theorem p_leads (hR : Lay R) (hV : VD D) (h : SD I D T) {s l g w : Nat} (m : MkD I D T s l) (hb : (fre D s l).testBit g = true) (hw : w ≤ 2) : f_X2_leadsOn (S0 ++ J) R I 44 (nI s) (nI l - nI 1) (nI g) (nI w) = some (yn (ldb D w s l g)) := by
  have h9 := hV.1
  have hbt := fre_bit hb
  have m2 := mk_next hV h m hb
  obtain ⟨a1, a2, a3, a4⟩ := mk_ent hV h m
  obtain ⟨b1, b2, b3, b4⟩ := mk_ent hV h m2
  have i1 : ix s l < 5120 := by have := m.1; have := m.2.1; unfold ix; omega
  have i2 : ix (mdiff s (2 ^ g)) (g + 1) < 5120 := by have := m2.1; have := m2.2.1; unfold ix; omega
  have hc1 := cnt_9 m.1
  have hc2 := cnt_9 m2.1
  have hW := oW_lt (fre D) (k := cnt (mdiff s (2 ^ g))) (s := mdiff s (2 ^ g)) (l := g + 1) hc2
  have hM := oM_le (fre D) (cnt (mdiff s (2 ^ g))) (mdiff s (2 ^ g)) (g + 1)
  have hM2 := oM_le (fre D) (cnt s) s l
  have hms := m.1
  have hmr := m2.1
  rw [f_X2_leadsOn]
  simp only [lit, x_state m.1 (show l ≤ 9 by have := m.2.1; omega), bd1, x_without (show s < 1024 by omega) (show g < 10 by omega), x_stateg m2.1 (show g < 9 by omega)]
  have hw3 : w = 0 ∨ w = 1 ∨ w = 2 := by omega
  have hmul : feD D g * (afD D - cnt s + 1) ≤ 5000 * 11 := Nat.mul_le_mul (Nat.le_of_lt (feD_lt hV g)) (by have : afD D ≤ 10 := cn_le (s := insm D) 10; omega)
  simp (disch := omega) only [so_44, ao_45, ao_46, ao_47, ao_48, ao_49, ao_50, ao_51, ly_44_0 hR, ly_44_1 hR, ly_44_3 hR, ly_44_4 hR, ly_44_5 hR, ly_44_6 hR, ly_44_7 hR, ly_44_10 hR, so_1, ao_2, ao_3, ao_4, ao_5, ao_6, ao_7, so_8, ao_9, ao_10, ao_11, ao_12, ao_13, ao_14, ao_15, ao_16, ly_1_0 hR, ly_1_1 hR, ly_1_2 hR, ly_1_3 hR, ly_1_4 hR, ly_1_7 hR, ly_1_11 hR, ly_1_12 hR, ly_1_13 hR, ly_8_1 hR, ly_8_2 hR, ly_8_3 hR, ly_8_5 hR, ly_8_6 hR, ly_8_7 hR, a1, a2, a3, b1, b2, b3, p_costOf hR h.1 m.1 (show g < 9 by omega) m.2.2.1, lit, gp1, rl1, rs1, bd1, lt1, n_add, n_sub, n_dec, n_le, n_lt, n_eq, n_in, nI_clamp, n_mul, m_or, m_and, m_pow, m_bit, m_dif, n_neg, yn_0, yn_1, yn_z, yn_d, one31, Nat.add_sub_cancel, Nat.not_lt_zero, if_true, if_false, ite_true, ite_false]
  unfold ldb
  have z10 : ¬ ((1 : Nat) = 0) := by decide
  have z20 : ¬ ((2 : Nat) = 0) := by decide
  have z21 : ¬ ((2 : Nat) = 1) := by decide
  rcases hw3 with e | e | e <;> subst e
  · simp only [if_true]
    by_cases q : 0 < Wy D (mdiff s (2 ^ g)) (g + 1)
    · rw [if_neg (by have q : 0 < oW (fre D) (cnt (mdiff s (2 ^ g))) (mdiff s (2 ^ g)) (g + 1) := q; omega), decide_eq_true q]; rfl
    · rw [if_pos (by have q : ¬ 0 < oW (fre D) (cnt (mdiff s (2 ^ g))) (mdiff s (2 ^ g)) (g + 1) := q; omega), decide_eq_false q]; rfl
  · simp only [z10, if_false, if_true]
    unfold My
    by_cases q : oM (fre D) (cnt (mdiff s (2 ^ g))) (mdiff s (2 ^ g)) (g + 1) + 1 = oM (fre D) (cnt s) s l
    · rw [if_pos q, decide_eq_true q]; rfl
    · rw [if_neg q, decide_eq_false q]; rfl
  · simp only [z20, z21, if_false]
    have hWC := WC (fre D) (feD D) (afD D) (cnt (mdiff s (2 ^ g))) (mdiff s (2 ^ g)) (g + 1)
    unfold Cy
    cases hc : oC (fre D) (feD D) (afD D) (cnt (mdiff s (2 ^ g))) (mdiff s (2 ^ g)) (g + 1) with
    | none =>
      rw [hc] at hWC
      have q : ¬ 0 < oW (fre D) (cnt (mdiff s (2 ^ g))) (mdiff s (2 ^ g)) (g + 1) := of_decide_eq_false hWC
      rw [if_pos (by omega)]; rfl
    | some c =>
      rw [hc] at hWC
      have q : 0 < oW (fre D) (cnt (mdiff s (2 ^ g))) (mdiff s (2 ^ g)) (g + 1) := of_decide_eq_true hWC
      rw [if_neg (by omega)]
      have hcl := oC_lt hV hc2 hc
      show (if nI (feD D g * (afD D - cnt s + 1)) + nI c = cI (oC (fre D) (feD D) (afD D) (cnt s) s l) then some (nI 1) else some (nI 0)) = some (yn (decide (oC (fre D) (feD D) (afD D) (cnt s) s l = some (feD D g * (afD D - cnt s + 1) + c))))
      rw [n_add]
      cases hs : oC (fre D) (feD D) (afD D) (cnt s) s l with
      | none =>
        rw [if_neg]
        · rfl
        · show ¬ nI (feD D g * (afD D - cnt s + 1) + c) = nI 2147483647
          rw [n_eq (by omega) (by decide)]; omega
      | some c2 =>
        have hcl2 := oC_lt hV hc1 hs
        show (if nI (feD D g * (afD D - cnt s + 1) + c) = nI c2 then some (nI 1) else some (nI 0)) = _
        simp only [n_eq (show feD D g * (afD D - cnt s + 1) + c < 2 ^ 31 by omega) (show c2 < 2 ^ 31 by omega), Option.some.injEq]
        by_cases q2 : feD D g * (afD D - cnt s + 1) + c = c2
        · rw [if_pos q2, decide_eq_true q2.symm]; rfl
        · rw [if_neg q2, decide_eq_false (fun x => q2 x.symm)]; rfl
def noO : Option Nat → Int32
  | none => -nI 3
  | some g => nI g
theorem p_next14 (hR : Lay R) (hV : VD D) (h : SD I D T) {s l w : Nat} (m : MkD I D T s l) (hw : w ≤ 2) : ∀ (r t f : Nat), t + r = 9 → r < f →
    f_X2_leastNext_14 (S0 ++ J) R I f 44 (nI s) (nI l - nI 1) (nI w) (nI (fre D s l)) (nI t) = some (noO (fndR (fun g => (fre D s l).testBit g && ldb D w s l g) t r)) := by
  have hF := fre_lt hV s l
  intro r
  induction r with
  | zero =>
    intro t f ht hf
    have : t = 9 := by omega
    subst this
    obtain ⟨f, rfl⟩ := Nat.exists_eq_succ_of_ne_zero (n := f) (by omega)
    rw [f_X2_leastNext_14, if_pos (by decide)]; rfl
  | succ r ih =>
    intro t f ht hf
    obtain ⟨f, rfl⟩ := Nat.exists_eq_succ_of_ne_zero (n := f) (by omega)
    rw [f_X2_leastNext_14]
    simp (disch := omega) only [so_44, ao_45, ao_46, ao_47, ao_48, ao_49, ao_50, ao_51, ly_44_0 hR, ly_44_1 hR, ly_44_3 hR, ly_44_4 hR, ly_44_5 hR, ly_44_6 hR, ly_44_7 hR, ly_44_10 hR, x_holds, f_X2_leastNext_46, lit, gp1, rl1, rs1, bd1, lt1, n_add, n_sub, n_dec, n_le, n_lt, n_eq, n_in, nI_clamp, n_mul, m_or, m_and, m_pow, m_bit, m_dif, n_neg, yn_0, yn_1, yn_z, yn_d, one31, Nat.add_sub_cancel, Nat.not_lt_zero, if_true, if_false, ite_true, ite_false]
    rw [if_neg (by omega), ih (t + 1) f (by omega) (by omega), fndR]
    by_cases hb : (fre D s l).testBit t = true
    · rw [if_neg (by simpa using hb), p_leads hR hV h m hb hw, bd1, hb, Bool.true_and]
      simp only [yn_0]
      cases ldb D w s l t <;> rfl
    · rw [if_pos (by simpa using hb), show (fre D s l).testBit t = false by simpa using hb]; rfl
theorem p_next (hR : Lay R) (hV : VD D) (h : SD I D T) {s l w : Nat} (m : MkD I D T s l) (hw : w ≤ 2) : f_X2_leastNext (S0 ++ J) R I 44 (nI s) (nI l - nI 1) (nI w) = some (noO (nxtO D w s l)) := by
  have hms := m.1
  have hm2 := m.2.1
  have hg : f_X7_mayGo (S0 ++ J) R I 1 (nI s) (nI l - nI 1) = some (nI (fre D s l)) := p_mayGo hR h.1.1 hV (by omega) hm2
  simp (disch := omega) only [so_44, ao_45, ao_46, ao_47, ao_48, ao_49, ao_50, ao_51, ly_44_0 hR, ly_44_1 hR, ly_44_3 hR, ly_44_4 hR, ly_44_5 hR, ly_44_6 hR, ly_44_7 hR, ly_44_10 hR, so_1, ao_2, ao_3, ao_4, ao_5, ao_6, ao_7, so_8, ao_9, ao_10, ao_11, ao_12, ao_13, ao_14, ao_15, ao_16, ly_1_0 hR, ly_1_1 hR, ly_1_2 hR, ly_1_3 hR, ly_1_4 hR, ly_1_7 hR, ly_1_11 hR, ly_1_12 hR, ly_1_13 hR, ly_8_1 hR, ly_8_2 hR, ly_8_3 hR, ly_8_5 hR, ly_8_6 hR, ly_8_7 hR, f_X2_leastNext, hg, lit, gp1, rl1, rs1, bd1, lt1, n_add, n_sub, n_dec, n_le, n_lt, n_eq, n_in, nI_clamp, n_mul, m_or, m_and, m_pow, m_bit, m_dif, n_neg, yn_0, yn_1, yn_z, yn_d, one31, Nat.add_sub_cancel, Nat.not_lt_zero, if_true, if_false, ite_true, ite_false]
  exact p_next14 hR hV h m hw 9 0 512 rfl (by decide)
theorem n_nn {a b : Nat} (ha : a < 2 ^ 31) (hb : b < 2 ^ 30) (h0 : 0 < b) : (nI a = -nI b) = False := by
  refine eq_false fun h => ?_
  have q := of_eq_true (n_neg hb ha h0)
  rw [← h] at q
  exact Int32.lt_irrefl q
theorem frO_SD {I I' : Iw} (h : ∀ a j, a ≤ 50 → I' a j = I a j) (hS : SD I D T) : SD I' D T := by
  obtain ⟨hO, ⟨go, hI, hg⟩, hm⟩ := hS
  refine ⟨⟨CR_fr (fun k j h1 h2 => h k j (by omega)) hO.1, by rw [h 44 2 (by decide)]; exact hO.2.1, by rw [h 44 8 (by decide)]; exact hO.2.2.1, fun g hg => by rw [h 50 g (by decide)]; exact hO.2.2.2.1 g hg, fun i hi => by rw [h 45 i (by decide)]; exact hO.2.2.2.2 i hi⟩, ⟨go, ⟨by rw [h 44 9 (by decide)]; exact hI.1, hI.2.1, fun s l h1 h2 h3 h4 => ?_⟩, hg⟩, by rw [h 45 _ (by decide)]; exact hm⟩
  · rw [h 45 _ (by decide)] at h4
    obtain ⟨e, e2, e3⟩ := hI.2.2 s l h1 h2 h3 h4
    exact ⟨⟨by rw [h 46 _ (by decide)]; exact e.1, by rw [h 47 _ (by decide)]; exact e.2.1, by rw [h 48 _ (by decide)]; exact e.2.2.1, by rw [h 49 _ (by decide)]; exact e.2.2.2⟩, e2, fun g hg => by rw [h 45 _ (by decide)]; exact e3 g hg⟩
theorem p_first22 (hR : Lay R) (hV : VD D) {w : Nat} (hw : w ≤ 2) : ∀ (r t f s l : Nat) (I : Iw), t + r = 9 → r < f → SD I D T → MkD I D T s l →
    ∃ I', f_X2_findFirst_22 (S0 ++ J) R f I 44 (nI w) (nI t) (nI s) (nI l - nI 1) (nI t) = some (I', nI (t + (fstO D w r s l).length)) ∧ (∀ a j, ¬ (a = 51 ∧ t ≤ j) → I' a j = I a j) ∧ ∀ i g, (fstO D w r s l)[i]? = some g → I' 51 (t + i) = nI g := by
  have h9 := hV.1
  intro r
  induction r with
  | zero =>
    intro t f s l I ht hf hS hM
    have : t = 9 := by omega
    subst this
    obtain ⟨f, rfl⟩ := Nat.exists_eq_succ_of_ne_zero (n := f) (by omega)
    exact ⟨I, by rw [f_X2_findFirst_22, if_pos (by decide)]; rfl, fun _ _ _ => rfl, fun i g h => by cases h⟩
  | succ r ih =>
    intro t f s l I ht hf hS hM
    obtain ⟨f, rfl⟩ := Nat.exists_eq_succ_of_ne_zero (n := f) (by omega)
    have hms := hM.1
    rw [f_X2_findFirst_22]
    simp (disch := omega) only [so_44, ao_45, ao_46, ao_47, ao_48, ao_49, ao_50, ao_51, ly_44_0 hR, ly_44_1 hR, ly_44_3 hR, ly_44_4 hR, ly_44_5 hR, ly_44_6 hR, ly_44_7 hR, ly_44_10 hR, p_next hR hV hS hM hw, lit, gp1, rl1, rs1, bd1, lt1, n_add, n_sub, n_dec, n_le, n_lt, n_eq, n_in, nI_clamp, n_mul, m_or, m_and, m_pow, m_bit, m_dif, n_neg, yn_0, yn_1, yn_z, yn_d, one31, Nat.add_sub_cancel, Nat.not_lt_zero, if_true, if_false, ite_true, ite_false]
    rw [if_neg (by omega)]
    cases hn : nxtO D w s l with
    | none =>
      refine ⟨I, ?_, fun _ _ _ => rfl, fun i g h => ?_⟩
      · rw [if_pos (show noO none = -nI 3 from rfl), fstO, hn]; rfl
      · rw [fstO, hn] at h; cases h
    | some g =>
      have hp := (fndR_lt hn).2
      rw [Bool.and_eq_true] at hp
      have hbt := fre_bit hp.1
      have hg : g < 9 := by omega
      have e1 : noO (some g) = nI g := rfl
      rw [e1]
      have hno : ¬ nI g = -nI 3 := by rw [n_nn (by omega) (by decide) (by decide)]; exact id
      rw [if_neg hno]
      have hS2 : SD (up2 I 51 t (nI g)) D T := frO_SD (fun a j h => by rw [u_eq, if_neg (by omega)]) hS
      have hM2 : MkD (up2 I 51 t (nI g)) D T (mdiff s (2 ^ g)) (g + 1) := by
        have := mk_next hV hS hM hp.1
        exact ⟨this.1, this.2.1, this.2.2.1, by rw [u_eq, if_neg (by omega)]; exact this.2.2.2⟩
      obtain ⟨I', v1, v2, v3⟩ := ih (t + 1) f (mdiff s (2 ^ g)) (g + 1) (up2 I 51 t (nI g)) (by omega) (by omega) hS2 hM2
      rw [n_pred] at v1
      have hf2 : fstO D w (r + 1) s l = g :: fstO D w r (mdiff s (2 ^ g)) (g + 1) := by rw [fstO, hn]
      refine ⟨I', ?_, fun a j h => ?_, fun i x h => ?_⟩
      · simp (disch := omega) only [x_without (show s < 1024 by omega) (show g < 10 by omega), lit, gp1, rl1, rs1, bd1, lt1, n_add, n_sub, n_dec, n_le, n_lt, n_eq, n_in, nI_clamp, n_mul, m_or, m_and, m_pow, m_bit, m_dif, n_neg, yn_0, yn_1, yn_z, yn_d, one31, Nat.add_sub_cancel, Nat.not_lt_zero, if_true, if_false, ite_true, ite_false]
        rw [v1, hf2, List.length_cons, show t + 1 + (fstO D w r (mdiff s (2 ^ g)) (g + 1)).length = t + ((fstO D w r (mdiff s (2 ^ g)) (g + 1)).length + 1) by omega]
      · rw [v2 a j (by omega), u_eq, if_neg (by omega)]
      · rw [hf2] at h
        cases i with
        | zero =>
          rw [List.getElem?_cons_zero] at h
          cases h
          rw [v2 51 (t + 0) (by omega), u_eq, if_pos ⟨rfl, rfl⟩]
        | succ i =>
          rw [List.getElem?_cons_succ] at h
          rw [show t + (i + 1) = t + 1 + i by omega]
          exact v3 i x h
theorem p_first (hR : Lay R) (hV : VD D) {w : Nat} (hw : w ≤ 2) (hS : SD I D T) :
    ∃ I', f_X2_findFirst (S0 ++ J) R I 44 (nI w) = some (I', nI (fstO D w 9 (insm D) (lst D)).length) ∧ (∀ a j, a ≠ 51 → I' a j = I a j) ∧ ∀ i g, (fstO D w 9 (insm D) (lst D))[i]? = some g → I' 51 i = nI g := by
  have h9 := hV.1
  obtain ⟨I', v1, v2, v3⟩ := p_first22 (J := J) hR hV hw 9 0 512 (insm D) (lst D) I rfl (by decide) hS (mk_root hV hS)
  have c6 : I 1 6 = nI (insm D) := hS.1.1.1.2.1
  have L := p_last (J := J) hR hS.1.1.1 hV
  rw [show (1 : Int32) = nI 1 from rfl] at L
  refine ⟨I', ?_, fun a j h => v2 a j (by omega), fun i g h => ?_⟩
  · rw [f_X2_findFirst]
    simp (disch := omega) only [so_44, ao_45, ao_46, ao_47, ao_48, ao_49, ao_50, ao_51, ly_44_0 hR, ly_44_1 hR, ly_44_3 hR, ly_44_4 hR, ly_44_5 hR, ly_44_6 hR, ly_44_7 hR, ly_44_10 hR, so_1, ao_2, ao_3, ao_4, ao_5, ao_6, ao_7, so_8, ao_9, ao_10, ao_11, ao_12, ao_13, ao_14, ao_15, ao_16, ly_1_0 hR, ly_1_1 hR, ly_1_2 hR, ly_1_3 hR, ly_1_4 hR, ly_1_7 hR, ly_1_11 hR, ly_1_12 hR, ly_1_13 hR, ly_8_1 hR, ly_8_2 hR, ly_8_3 hR, ly_8_5 hR, ly_8_6 hR, ly_8_7 hR, L, c6, lit, gp1, rl1, rs1, bd1, lt1, n_add, n_sub, n_dec, n_le, n_lt, n_eq, n_in, nI_clamp, n_mul, m_or, m_and, m_pow, m_bit, m_dif, n_neg, yn_0, yn_1, yn_z, yn_d, one31, Nat.add_sub_cancel, Nat.not_lt_zero, if_true, if_false, ite_true, ite_false]
    rw [v1, Nat.zero_add]
  · have := v3 i g h
    rwa [Nat.zero_add] at this
end FIRST
