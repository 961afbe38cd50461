/-! THE REFERENCE READS A RULE -/
section RRU
variable {J : Sh} {R : Rw} {I : Iw} {b : Nat → Nat} {n : Nat}
def frH (nr : Nat) (I I' : Iw) : Prop := ∀ a j, ¬ (a = 65 ∧ 6 ≤ j ∧ j ≤ 12) → ¬ ((a = 75 ∨ a = 76) ∧ j = nr) → I' a j = I a j
theorem frH_R {nr : Nat} {I I' : Iw} (h : frR I I') (h7 : ∀ j, I' 70 j = I 70 j) : frH nr I I' := fun a j q1 _ => by
  by_cases q : a = 70
  · rw [q]; exact h7 j
  · exact h a j q1 q
theorem frH_t {nr : Nat} {I I' I'' : Iw} (h : frH nr I I') (h2 : frH nr I' I'') : frH nr I I'' := fun a j q1 q2 => (h2 a j q1 q2).trans (h a j q1 q2)
theorem up_R {e m a k : Nat} {d v : Int32} (ha : a = 73 ∨ a = 74 ∨ a = 75 ∨ a = 76) (h : RSt I b n e d m) : RSt (up2 I a k v) b n e d m := by
  obtain ⟨hT, he, hS, h9, h10, h12⟩ := h
  exact ⟨TMb_fr hT fun a j z => by rw [u_eq, if_neg (by omega)], he, RS_fr (fun j h1 h2 => by rw [u_eq, if_neg (by omega)]) hS, by rw [u_eq, if_neg (by omega)]; exact h9, by rw [u_eq, if_neg (by omega)]; exact h10, by rw [u_eq, if_neg (by omega)]; exact h12⟩
theorem up_F {e a k : Nat} {v : Int32} (ha : a = 73 ∨ a = 74 ∨ a = 75 ∨ a = 76) (h : FSt I b n e) : FSt (up2 I a k v) b n e := by
  obtain ⟨hT, he, hS, h9⟩ := h
  exact ⟨TMb_fr hT fun a j z => by rw [u_eq, if_neg (by omega)], he, RS_fr (fun j h1 h2 => by rw [u_eq, if_neg (by omega)]) hS, by rw [u_eq, if_neg (by omega)]; exact h9⟩
theorem up_f {nr a : Nat} (v : Int32) (ha : a = 75 ∨ a = 76) : frH nr I (up2 I a nr v) := fun a' j q1 q2 => by rw [u_eq, if_neg (by omega)]
theorem jm8 {nr : Nat} (h : nr ≤ 8) : jmin (nI nr) 8 = nI nr := by
  unfold jmin
  rw [if_neg (by show ¬ nI 8 < nI nr; rw [n_lt (by omega) (by omega)]; omega)]
def Hre (b : Nat → Nat) (n nr : Nat) (d : Int32) (m : Nat) (I : Iw) (o : Option Iw) (res : RRs) : Prop := ∃ I', o = some I' ∧ frH nr I I' ∧ match res with
  | .inl f => FSt I' b n f
  | .inr p => RSt I' b n p.1 d m ∧ I' 75 nr = nI p.2.2.1 ∧ (p.2.2.1 ≠ 2 → I' 76 nr = nI p.2.2.2.1)
theorem m_295F (hR : Lay R) {nr e : Nat} (h : FSt I b n e) : ∃ I', f_X12_readRule_295 (S0 ++ J) R I 65 = some I' ∧ frH nr I I' ∧ FSt I' b n e := by
  obtain ⟨I1, e1, e2, e3, e4⟩ := m_mustF (J := J) (R := R) (x := yn (decide (tk b n e = 20059))) h
  exact ⟨I1, by rw [f_X12_readRule_295, so_65, gp1, s_59 hR h.1 h.2.2.1, bd1, e1, bd1], frH_R e3 e4, e2⟩
theorem m_295 (hR : Lay R) {nr e m : Nat} {d : Int32} {x : Rl5} (h : RSt I b n e d m) (h75 : I 75 nr = nI x.2.1) (h76 : x.2.1 ≠ 2 → I 76 nr = nI x.2.2.1) : Hre b n nr d m I (f_X12_readRule_295 (S0 ++ J) R I 65) (pSc b n x e) := by
  rw [f_X12_readRule_295, so_65, gp1, s_59 hR h.1 h.2.2.1, bd1, pSc]
  by_cases q : tk b n e = 20059
  · obtain ⟨I1, e1, e2, e3, e4⟩ := m_must1 (J := J) hR h
    rw [decide_eq_true q, if_pos q]
    refine ⟨I1, by rw [show f_X12_must (S0 ++ J) R I 65 (yn true) = some I1 from e1, bd1], frH_R e3 e4, e2, (e3 75 nr (by omega) (by omega)).trans h75, fun z => (e3 76 nr (by omega) (by omega)).trans (h76 z)⟩
  · obtain ⟨I1, e1, e2, e3, e4⟩ := m_must0 (J := J) (R := R) h
    rw [decide_eq_false q, if_neg q]
    exact ⟨I1, by rw [show f_X12_must (S0 ++ J) R I 65 (yn false) = some I1 from e1, bd1], frH_R e3 e4, e2⟩
theorem Hre_f {nr m : Nat} {d : Int32} {I I0 : Iw} {o : Option Iw} {res : RRs} (f : frH nr I0 I) (h : Hre b n nr d m I o res) : Hre b n nr d m I0 o res := by
  obtain ⟨I', h1, h2, h3⟩ := h
  exact ⟨I', h1, frH_t f h2, h3⟩
/-- 185 on: how the rule changes, and its end -/
theorem m_185F (hR : Lay R) {nr e : Nat} {x3 x4 s0 : Int32} (hnr : nr ≤ 8) (hx : x3 = 0 ∨ x3 = 1) (h : ∃ I1, f_X12_must (S0 ++ J) R I 65 s0 = some I1 ∧ FSt I1 b n e ∧ frR I I1 ∧ ∀ j, I1 70 j = I 70 j) : ∃ I', f_X12_readRule_185 (S0 ++ J) R I 65 (nI nr) x3 x4 s0 65 = some I' ∧ frH nr I I' ∧ FSt I' b n e := by
  obtain ⟨I1, e1, e2, e3, e4⟩ := h
  have go : ∀ v, ∃ I', f_X12_readRule_216 (S0 ++ J) R I1 65 (nI nr) x3 v (jmin (nI nr) 8) 75 = some I' ∧ frH nr I I' ∧ FSt I' b n e := by
    intro v
    have F1 := up_F (a := 75) (k := nr) (v := v) (by omega) e2
    obtain ⟨I2, g1, g2, g3⟩ := m_295F (J := J) (nr := nr) hR F1
    refine ⟨I2, ?_, frH_t (frH_R e3 e4) (frH_t (up_f v (Or.inl rfl)) g2), g3⟩
    rw [f_X12_readRule_216, jm8 hnr]
    simp (disch := omega) only [so_65, ly_65_0 hR, ly_65_1 hR, ly_65_2 hR, ly_65_4 hR, ly_65_11 hR, ly_65_13 hR, ly_65_14 hR, ly_65_15 hR, ly_65_16 hR, ly_65_17 hR, ly_65_18 hR, ly_65_19 hR, ly_65_20 hR, ly_65_22 hR, ly_65_24 hR, ly_65_25 hR, ly_65_26 hR, ly_65_27 hR, ly_65_28 hR, ly_65_29 hR, ly_65_30 hR, ao_75, lit, gp1, rl1, rs1, bd1, lt1, n_add, n_sub, n_dec, n_le, n_lt, n_eq, n_in, nI_clamp, n_mul, m_or, m_and, m_pow, m_bit, m_dif, n_neg, yn_0, yn_1, yn_z, yn_d, one31, Nat.add_sub_cancel, Nat.not_lt_zero, if_true, if_false, ite_true, ite_false, Bool.true_eq_false, Bool.false_eq_true, Nat.add_zero, Nat.zero_add]
    rw [F1.2.2.2]
    split
    · rw [if_neg (by decide), g1]
    · exact g1
  rw [f_X12_readRule_185, so_65, gp1, e1, bd1, gp1, ly_65_17 hR, rl1]
  rcases hx with hx | hx
  · rw [if_pos hx]
    split
    · exact go 1
    · exact go 0
  · rw [if_neg (by rw [hx]; decide)]
    exact go 2
theorem m_185 (hR : Lay R) {nr e m k : Nat} {d : Int32} {c w : List Sp3} (hnr : nr < 8) (h : RSt I b n e d m) (hf : tk b n e = 10010 ∨ tk b n e = 10011 ∨ tk b n e = 10012) :
    Hre b n nr d m I (f_X12_readRule_185 (S0 ++ J) R I 65 (nI nr) (yn (decide (tk b n e = 10012))) (yn (decide (tk b n e = 10010))) 1 65) (pHo b n k c w e) := by
  have hn := h.1.1
  have he := h.2.1
  have hx := nx_le (b := b) he
  have ht2 := tk_le (b := b) (n := n) (nx b n e)
  obtain ⟨I1, e1, e2, e3, e4⟩ := m_must1 (J := J) hR h
  rw [f_X12_readRule_185, so_65, gp1, e1, bd1, gp1, ly_65_17 hR, rl1, pHo]
  by_cases q : tk b n e = 10012
  · have R1 := up_R (a := 75) (k := nr) (v := nI 2) (by omega) e2
    rw [decide_eq_true q, if_neg (by decide), if_pos q]
    refine Hre_f (frH_t (frH_R e3 e4) (up_f (nI 2) (Or.inl rfl))) ?_
    have := m_295 (J := J) (nr := nr) (x := (k, 2, 0, c, w)) hR R1 (by rw [u_eq, if_pos ⟨rfl, rfl⟩]) (fun z => absurd rfl z)
    rw [f_X12_readRule_216, jm8 (by omega)]
    simp (disch := omega) only [so_65, ly_65_0 hR, ly_65_1 hR, ly_65_2 hR, ly_65_4 hR, ly_65_11 hR, ly_65_13 hR, ly_65_14 hR, ly_65_15 hR, ly_65_16 hR, ly_65_17 hR, ly_65_18 hR, ly_65_19 hR, ly_65_20 hR, ly_65_22 hR, ly_65_24 hR, ly_65_25 hR, ly_65_26 hR, ly_65_27 hR, ly_65_28 hR, ly_65_29 hR, ly_65_30 hR, ao_75, lit, gp1, rl1, rs1, bd1, lt1, n_add, n_sub, n_dec, n_le, n_lt, n_eq, n_in, nI_clamp, n_mul, m_or, m_and, m_pow, m_bit, m_dif, n_neg, yn_0, yn_1, yn_z, yn_d, one31, Nat.add_sub_cancel, Nat.not_lt_zero, if_true, if_false, ite_true, ite_false, Bool.true_eq_false, Bool.false_eq_true, Nat.add_zero, Nat.zero_add]
    exact this
  · rw [decide_eq_false q, if_pos (by decide), if_neg q, if_pos (show tk b n e = 10010 ∨ tk b n e = 10011 by omega)]
    have go : ∀ t, tk b n e - 10010 = t → t ≤ 1 → Hre b n nr d m I (f_X12_readRule_216 (S0 ++ J) R I1 65 (nI nr) (yn false) (nI t) (jmin (nI nr) 8) 75) (if tk b n (nx b n e) ≤ 999 then pSc b n (k, tk b n e - 10010, tk b n (nx b n e), c, w) (nx b n (nx b n e)) else .inl (nx b n e)) := by
      intro t ht ht1
      have R1 := up_R (a := 75) (k := nr) (v := nI t) (by omega) e2
      have f1 : frH nr I (up2 I1 75 nr (nI t)) := frH_t (frH_R e3 e4) (up_f (nI t) (Or.inl rfl))
      have h254 : ∀ v, (tk b n (nx b n e) < 10000 → v = nI (tk b n (nx b n e))) → Hre b n nr d m I (f_X12_readRule_254 (S0 ++ J) R (up2 I1 75 nr (nI t)) 65 v (jmin (nI nr) 8) 76) (if tk b n (nx b n e) ≤ 999 then pSc b n (k, tk b n e - 10010, tk b n (nx b n e), c, w) (nx b n (nx b n e)) else .inl (nx b n e)) := by
        intro v hv
        have R2 := up_R (a := 76) (k := nr) (v := v) (by omega) R1
        have f2 : frH nr I (up2 (up2 I1 75 nr (nI t)) 76 nr v) := frH_t f1 (up_f v (Or.inr rfl))
        have bad : tk b n (nx b n e) > 999 → Hre b n nr d m I (f_X12_readRule_291 (S0 ++ J) R (up2 (up2 I1 75 nr (nI t)) 76 nr v) 65 65) (if tk b n (nx b n e) ≤ 999 then pSc b n (k, tk b n e - 10010, tk b n (nx b n e), c, w) (nx b n (nx b n e)) else .inl (nx b n e)) := by
          intro hb
          obtain ⟨I3, g1, g2, g3, g4⟩ := m_must0 (J := J) (R := R) R2
          obtain ⟨I4, u1, u2, u3⟩ := m_295F (J := J) (nr := nr) hR g2
          rw [if_neg (by omega)]
          refine ⟨I4, ?_, frH_t f2 (frH_t (frH_R g3 g4) u2), u3⟩
          rw [f_X12_readRule_291, f_X12_readRule_292, so_65, gp1, g1, bd1, u1]
        have hS := R2.2.2.1
        have hsk := skp_le (b := b) R2.2.1
        have hnx := nx_le (b := b) R2.2.1
        have h3 := so_3 b n (nx b n e)
        rw [f_X12_readRule_254, jm8 (by omega), ao_76, n_in (by omega) (by omega), gp1, nI_clamp (by omega), lt1, so_65, gp1, hS.2.2]
        by_cases s2 : so b n (nx b n e) = 2
        · have hx1 := hnx.2.2 (by rw [Ne, tk_end, s2]; decide)
          rw [s2, if_pos (show nI 2 = 2 from rfl), hS.1, hS.2.1, n_sub (by omega)]
          by_cases l4 : nx b n (nx b n e) - skp b n (nx b n e) ≤ 4
          · have htn := tk_number.mpr ⟨s2, l4⟩
            rw [if_neg (show ¬ 4 < nI (nx b n (nx b n e) - skp b n (nx b n e)) by show ¬ nI 4 < nI _; rw [n_lt (by omega) (by omega)]; omega), m_num hR R2.1 R2.2.1 hS htn, bd1]
            by_cases l9 : tk b n (nx b n e) ≤ 999
            · rw [if_neg (show ¬ 999 < nI (tk b n (nx b n e)) by show ¬ nI 999 < nI _; rw [n_lt (by omega) (by omega)]; omega), if_pos l9]
              obtain ⟨I3, g1, g2, g3, g4⟩ := m_must1 (J := J) hR R2
              rw [f_X12_readRule_292, so_65, gp1]
              rw [g1, bd1]
              refine Hre_f (frH_t f2 (frH_R g3 g4)) (m_295 hR g2 ?_ (fun _ => ?_))
              · rw [g3 75 nr (by omega) (by omega), u_eq, if_neg (by omega), u_eq, if_pos ⟨rfl, rfl⟩, ← ht]
              · rw [g3 76 nr (by omega) (by omega), u_eq, if_pos ⟨rfl, rfl⟩, hv htn]
            · rw [if_pos (show 999 < nI (tk b n (nx b n e)) by show nI 999 < nI _; rw [n_lt (by omega) (by omega)]; omega)]
              exact bad (by omega)
          · rw [if_pos (show 4 < nI (nx b n (nx b n e) - skp b n (nx b n e)) by show nI 4 < nI _; rw [n_lt (by omega) (by omega)]; omega)]
            exact bad (by have : ¬ tk b n (nx b n e) < 10000 := fun z => l4 (tk_number.mp z).2; omega)
        · rw [if_neg (show ¬ nI (so b n (nx b n e)) = 2 by show ¬ nI (so b n (nx b n e)) = nI 2; rw [n_eq (by omega) (by omega)]; exact s2)]
          exact bad (by have : ¬ tk b n (nx b n e) < 10000 := fun z => s2 (tk_number.mp z).1; omega)
      have hS := R1.2.2.1
      have h3 := so_3 b n (nx b n e)
      rw [f_X12_readRule_216, jm8 (by omega), ao_75, n_in (by omega) (by omega), gp1, nI_clamp (by omega), lt1, if_pos (show yn false = 0 by decide), so_65, gp1, R1.2.2.2.1, if_pos rfl, ly_65_18 hR, rl1, hS.2.2, ← jm8 (show nr ≤ 8 by omega)]
      by_cases s2 : so b n (nx b n e) = 2
      · rw [s2, if_pos (show nI 2 = 2 from rfl)]
        by_cases htn : tk b n (nx b n e) < 10000
        · rw [m_num hR (up_R (a := 75) (k := nr) (v := nI t) (by omega) e2).1 R1.2.1 hS htn, bd1]
          exact h254 _ (fun _ => rfl)
        · rw [m_numX R1.1 R1.2.1 hS s2 htn, bd1]
          exact h254 _ (fun z => absurd z htn)
      · rw [if_neg (show ¬ nI (so b n (nx b n e)) = 2 by show ¬ nI (so b n (nx b n e)) = nI 2; rw [n_eq (by omega) (by omega)]; exact s2)]
        exact h254 _ (fun z => absurd (tk_number.mp z).1 s2)
    by_cases q0 : tk b n e = 10010
    · rw [decide_eq_true q0, if_neg (by decide)]
      exact go 0 (by omega) (by omega)
    · rw [decide_eq_false q0, if_pos (by decide)]
      exact go 1 (by omega) (by omega)
theorem m_109F (hR : Lay R) {nr e : Nat} (hnr : nr ≤ 8) (h : FSt I b n e) : ∃ I', f_X12_readRule_109 (S0 ++ J) R I 65 (nI nr) = some I' ∧ frH nr I I' ∧ FSt I' b n e := by
  obtain ⟨I', g1, g2⟩ := m_185F (J := J) (x3 := 0) (x4 := 0) (s0 := 0) hR hnr (Or.inl rfl) (m_mustF h)
  refine ⟨I', ?_, g2⟩
  have n9 : ¬ I 65 9 = 0 := by rw [h.2.2.2]; decide
  rw [f_X12_readRule_109, so_65, gp1, if_neg n9, f_X12_readRule_129, f_X12_readRule_130, so_65, gp1, if_neg n9, f_X12_readRule_151, f_X12_readRule_152, if_pos rfl, if_pos rfl, so_65, gp1, if_neg n9, f_X12_readRule_184, g1]
theorem m_109h (hR : Lay R) {nr e m : Nat} {d : Int32} (h : RSt I b n e d m) : f_X12_readRule_109 (S0 ++ J) R I 65 (nI nr) = f_X12_readRule_185 (S0 ++ J) R I 65 (nI nr) (yn (decide (tk b n e = 10012))) (yn (decide (tk b n e = 10010))) (yn (decide (tk b n e = 10010 ∨ tk b n e = 10011 ∨ tk b n e = 10012))) 65 := by
  have w16 := m_word (J := J) (a := 16) hR h.1 h.2.1 h.2.2.1 (by decide) (by decide)
  have w17 := m_word (J := J) (a := 17) hR h.1 h.2.1 h.2.2.1 (by decide) (by decide)
  have w18 := m_word (J := J) (a := 18) hR h.1 h.2.1 h.2.2.1 (by decide) (by decide)
  have p9 : I 65 9 = 0 := h.2.2.2.1
  have h130 : f_X12_readRule_109 (S0 ++ J) R I 65 (nI nr) = f_X12_readRule_130 (S0 ++ J) R I 65 (nI nr) (yn (decide (tk b n e = 10012))) := by
    rw [f_X12_readRule_109, so_65, gp1, if_pos p9, w16, bd1, show 10000 + wn 16 = 10012 from rfl]
    by_cases q : tk b n e = 10012
    · rw [decide_eq_true q, if_neg (by decide)]; rfl
    · rw [decide_eq_false q, if_pos (by decide)]; rfl
  have h152 : ∀ x, f_X12_readRule_130 (S0 ++ J) R I 65 (nI nr) x = f_X12_readRule_152 (S0 ++ J) R I 65 (nI nr) x (yn (decide (tk b n e = 10010))) := by
    intro x
    rw [f_X12_readRule_130, so_65, gp1, if_pos p9, w17, bd1, show 10000 + wn 17 = 10010 from rfl]
    by_cases q : tk b n e = 10010
    · rw [decide_eq_true q, if_neg (by decide)]; rfl
    · rw [decide_eq_false q, if_pos (by decide)]; rfl
  rw [h130, h152, f_X12_readRule_152]
  by_cases q : tk b n e = 10012
  · rw [decide_eq_true q, if_neg (by decide), decide_eq_true (show tk b n e = 10010 ∨ tk b n e = 10011 ∨ tk b n e = 10012 by omega)]; rfl
  · rw [decide_eq_false q, if_pos (by decide)]
    by_cases q0 : tk b n e = 10010
    · rw [decide_eq_true q0, if_neg (by decide), decide_eq_true (show tk b n e = 10010 ∨ tk b n e = 10011 ∨ tk b n e = 10012 by omega)]; rfl
    · rw [decide_eq_false q0, if_pos (by decide), so_65, gp1, if_pos p9, w18, bd1, show 10000 + wn 18 = 10011 from rfl]
      by_cases q1 : tk b n e = 10011
      · rw [decide_eq_true q1, if_neg (by decide), decide_eq_true (show tk b n e = 10010 ∨ tk b n e = 10011 ∨ tk b n e = 10012 by omega)]; rfl
      · rw [decide_eq_false q1, if_pos (by decide), decide_eq_false (show ¬ (tk b n e = 10010 ∨ tk b n e = 10011 ∨ tk b n e = 10012) by omega)]; rfl
theorem yn_01 (v : Bool) : yn v = 0 ∨ yn v = 1 := by cases v; exact Or.inl rfl; exact Or.inr rfl
theorem m_109 (hR : Lay R) {nr e m k : Nat} {d : Int32} {c w : List Sp3} (hnr : nr < 8) (h : RSt I b n e d m) : Hre b n nr d m I (f_X12_readRule_109 (S0 ++ J) R I 65 (nI nr)) (pHo b n k c w e) := by
  rw [m_109h hR h]
  by_cases q : tk b n e = 10010 ∨ tk b n e = 10011 ∨ tk b n e = 10012
  · rw [decide_eq_true q]
    exact m_185 hR hnr h q
  · rw [decide_eq_false q, pHo, if_neg (by omega), if_neg (by omega)]
    obtain ⟨I', g1, g2, g3⟩ := m_185F (J := J) (x3 := yn (decide (tk b n e = 10012))) (x4 := yn (decide (tk b n e = 10010))) (s0 := yn false) hR (show nr ≤ 8 by omega) (yn_01 _) (m_must0 h)
    exact ⟨I', g1, g2, g3⟩
end RRU
