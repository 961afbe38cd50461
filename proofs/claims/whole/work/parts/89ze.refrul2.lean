/-! THE REFERENCE READS A RULE: the whole -/
section RR2
variable {J : Sh} {R : Rw} {I : Iw} {b : Nat → Nat} {n : Nat}
def frG (I I' : Iw) : Prop := ∀ a j, ¬ (a = 65 ∧ 6 ≤ j ∧ j ≤ 12) → a ≠ 70 → (a < 73 ∨ 76 < a) → I' a j = I a j
def sm73 (I I' : Iw) (nr : Nat) : Prop := ∀ j, j < nr → I' 73 j = I 73 j ∧ I' 74 j = I 74 j ∧ I' 75 j = I 75 j ∧ I' 76 j = I 76 j
def Mre (b : Nat → Nat) (n nr m : Nat) (I : Iw) (o : Option Iw) (res : RRs) : Prop := ∃ I', o = some I' ∧ frG I I' ∧ match res with
  | .inl f => FSt I' b n f
  | .inr p => RSt I' b n p.1 0 (m + (tks p.2.2.2.2.2).length) ∧ Tkc I' m (tks p.2.2.2.2.2) ∧ sm70 I I' m ∧ I' 73 nr = nI m ∧ I' 74 nr = nI p.2.1 ∧ I' 75 nr = nI p.2.2.1 ∧ (p.2.2.1 ≠ 2 → I' 76 nr = nI p.2.2.2.1) ∧ sm73 I I' nr
theorem r72 (hR : Lay R) {i : Nat} (hi : i < 6) : R 72 i = some (.inr (i + 6)) := by
  rw [hR 72 (by decide) i (by omega) (by omega)]
  exact (by decide : ∀ i, i < 6 → R0 72 i = some (.inr (i + 6))) i hi
theorem m_rule4 (hR : Lay R) (hT : TMb I b n) {e nr : Nat} (he : e ≤ n) (hS : RS I b n e) : ∀ (r i f : Nat) (c : Int32), i + r = 6 → r < f →
    ∃ f', 0 < f' ∧ f_X12_readRule_4 (S0 ++ J) R f I 65 (nI nr) c (nI i) = f_X12_readRule_4 (S0 ++ J) R f' I 65 (nI nr) (if 10000 + i ≤ tk b n e ∧ tk b n e ≤ 10005 then nI (tk b n e - 10000) else c) (nI 6)
  | 0, i, f, c, hi, hf => by
    have : i = 6 := hi
    subst this
    exact ⟨f, by omega, by rw [if_neg (by omega)]⟩
  | r + 1, i, f, c, hi, hf => by
    obtain ⟨f, rfl⟩ := Nat.exists_eq_succ_of_ne_zero (n := f) (by omega)
    have hw := m_word (J := J) (a := i + 6) hR hT he hS (by omega) (by omega)
    have hwn : wn (i + 6) = i := (by decide : ∀ i, i < 6 → wn (i + 6) = i) i (by omega)
    rw [hwn] at hw
    obtain ⟨f', g1, g2⟩ := m_rule4 hR hT he hS (nr := nr) r (i + 1) f (if tk b n e = 10000 + i then nI i else c) (by omega) (by omega)
    refine ⟨f', g1, ?_⟩
    rw [f_X12_readRule_4, so_65, gp1, ly_65_14 hR, rl1, al_72, bd1, if_neg (by rw [n_le (by omega) (by omega)]; omega)]
    simp (disch := omega) only [so_65, ly_65_0 hR, ly_65_1 hR, ly_65_2 hR, ly_65_4 hR, ly_65_11 hR, ly_65_13 hR, ly_65_14 hR, ly_65_15 hR, ly_65_16 hR, ly_65_17 hR, ly_65_18 hR, ly_65_19 hR, ly_65_20 hR, ly_65_22 hR, ly_65_24 hR, ly_65_25 hR, ly_65_26 hR, ly_65_27 hR, ly_65_28 hR, ly_65_29 hR, ly_65_30 hR, ao_72, al_72, ly_72_0 hR, ly_72_1 hR, ly_72_2 hR, ly_72_3 hR, ly_72_4 hR, ly_72_5 hR, r72 hR (show i < 6 by omega), hw, rs1, lit, gp1, rl1, rs1, bd1, lt1, n_add, n_sub, n_dec, n_le, n_lt, n_eq, n_in, nI_clamp, n_mul, m_or, m_and, m_pow, m_bit, m_dif, n_neg, yn_0, yn_1, yn_z, yn_d, one31, Nat.add_sub_cancel, Nat.not_lt_zero, if_true, if_false, ite_true, ite_false, Bool.true_eq_false, Bool.false_eq_true, Nat.add_zero, Nat.zero_add]
    by_cases q : tk b n e = 10000 + i
    · rw [decide_eq_true q, if_neg (by decide), f_X12_readRule_31, show (1 : Int32) = nI 1 from rfl, n_add]
      rw [if_pos q] at g2
      rw [g2, if_neg (by omega), if_pos (by omega), show tk b n e - 10000 = i by omega]
    · rw [decide_eq_false q, if_pos (by decide), f_X12_readRule_31, show (1 : Int32) = nI 1 from rfl, n_add]
      rw [if_neg q] at g2
      rw [g2]
      by_cases q2 : 10000 + (i + 1) ≤ tk b n e ∧ tk b n e ≤ 10005
      · rw [if_pos q2, if_pos (by omega)]
      · rw [if_neg q2, if_neg (by omega)]
theorem frG_R {I I' : Iw} (h : frR I I') : frG I I' := fun a j q1 q2 q3 => h a j q1 q2
theorem frG_H {nr : Nat} {I I' : Iw} (h : frH nr I I') : frG I I' := fun a j q1 q2 q3 => h a j q1 (by omega)
theorem frG_t {I I' I'' : Iw} (h : frG I I') (h2 : frG I' I'') : frG I I'' := fun a j q1 q2 q3 => (h2 a j q1 q2 q3).trans (h a j q1 q2 q3)
def kdW (I : Iw) (nr : Nat) (x m : Int32) : Iw := up2 (up2 I 74 nr x) 73 nr m
theorem kdW_f (nr : Nat) (x m : Int32) : frG I (kdW I nr x m) := fun a j q1 q2 q3 => by rw [kdW, u_eq, if_neg (by omega), u_eq, if_neg (by omega)]
theorem m_54h (hR : Lay R) {nr : Nat} {x s0 : Int32} {I1 : Iw} (hnr : nr ≤ 8) (h : f_X12_must (S0 ++ J) R I 65 s0 = some I1) : f_X12_readRule_54 (S0 ++ J) R I 65 (nI nr) x s0 65 = (if (kdW I1 nr x (I1 65 12)) 65 9 = 0 then bd (f_X12_isWord (S0 ++ J) R (kdW I1 nr x (I1 65 12)) 65 12) (fun r56 => (if r56 = 0 then f_X12_readRule_109 (S0 ++ J) R (kdW I1 nr x (I1 65 12)) 65 (nI nr) else bd (f_X12_must (S0 ++ J) R (kdW I1 nr x (I1 65 12)) 65 (1)) (fun r58 => bd (f_X12_condition (f_X12_one 70) (S0 ++ J) R r58 65) (fun r59 => f_X12_readRule_109 (S0 ++ J) R r59 65 (nI nr))))) else f_X12_readRule_109 (S0 ++ J) R (kdW I1 nr x (I1 65 12)) 65 (nI nr)) := by
  rw [f_X12_readRule_54, so_65, gp1, h, bd1, gp1, ly_65_16 hR, rl1, jm8 hnr, ao_74, n_in (by omega) (by omega), gp1, nI_clamp (by omega), lt1, ly_65_15 hR, rl1, ao_73, n_in (by omega) (by omega), gp1, lt1]
  rfl
theorem m_rule (hR : Lay R) {e m nr : Nat} (h : RSt I b n e 0 m) (hnr : nr ≤ 8) (hm : m ≤ e) : Mre b n nr m I (f_X12_readRule (S0 ++ J) R I 65 (nI nr)) (pRl b n nr e) := by
  have hn := h.1.1
  have he := h.2.1
  have hx := nx_le (b := b) he
  have hs1 := skp_le (b := b) he
  obtain ⟨f', g1, g2⟩ := m_rule4 (J := J) (nr := nr) hR h.1 he h.2.2.1 6 0 512 (-1) (by omega) (by omega)
  have g2 : f_X12_readRule_4 (S0 ++ J) R 512 I 65 (nI nr) (-1) 0 = _ := g2
  obtain ⟨f0, rfl⟩ := Nat.exists_eq_succ_of_ne_zero (n := f') (by omega)
  have bad : ∀ x, Mre b n nr m I (f_X12_readRule_53 (S0 ++ J) R I 65 (nI nr) x 65) (.inl e) := by
    intro x
    obtain ⟨I1, e1, e2, e3, e4⟩ := m_must0 (J := J) (R := R) h
    have F1 : FSt (kdW I1 nr x (I1 65 12)) b n e := up_F (by omega) (up_F (by omega) e2)
    obtain ⟨I2, u1, u2, u3⟩ := m_109F (J := J) (nr := nr) hR hnr F1
    refine ⟨I2, ?_, frG_t (frG_R e3) (frG_t (kdW_f nr x _) (frG_H u2)), u3⟩
    rw [f_X12_readRule_53, m_54h hR hnr e1, F1.2.2.2, if_neg (by decide), u1]
  rw [f_X12_readRule, g2, f_X12_readRule_4, so_65, gp1, ly_65_14 hR, rl1, al_72, bd1, if_pos (by decide), pRl]
  by_cases q8 : 8 ≤ nr
  · rw [if_pos (by show nI 8 ≤ nI nr; rw [n_le (by omega) (by omega)]; exact q8), if_pos (Or.inl q8)]
    exact bad _
  · rw [if_neg (by show ¬ nI 8 ≤ nI nr; rw [n_le (by omega) (by omega)]; exact q8)]
    by_cases qk : 10000 ≤ tk b n e ∧ tk b n e ≤ 10005
    · rw [if_pos (show 10000 + 0 ≤ tk b n e ∧ tk b n e ≤ 10005 from qk), if_neg (nI_pos (by omega)), if_neg (show ¬ (8 ≤ nr ∨ tk b n e < 10000 ∨ 10005 < tk b n e) by omega)]
      obtain ⟨I1, e1, e2, e3, e4⟩ := m_must1 (J := J) hR h
      have i1 : I1 65 12 = nI m := e2.2.2.2.2.2
      have R1 : RSt (kdW I1 nr (nI (tk b n e - 10000)) (nI m)) b n (nx b n e) 0 m := up_R (by omega) (up_R (by omega) e2)
      have fr1 : frG I (kdW I1 nr (nI (tk b n e - 10000)) (nI m)) := frG_t (frG_R e3) (kdW_f nr _ _)
      have l0 := tk_len (b := b) (i := tk b n e - 10000) he (by omega) (by omega)
      have l1 : 4 ≤ (wl.getD (tk b n e - 10000) []).length := (by decide : ∀ i, i < 6 → 4 ≤ (wl.getD i []).length) _ (by omega)
      have k73 : kdW I1 nr (nI (tk b n e - 10000)) (nI m) 73 nr = nI m := by rw [kdW, u_eq, if_pos ⟨rfl, rfl⟩]
      have k74 : kdW I1 nr (nI (tk b n e - 10000)) (nI m) 74 nr = nI (tk b n e - 10000) := by rw [kdW, u_eq, if_neg (by omega), u_eq, if_pos ⟨rfl, rfl⟩]
      have kj : ∀ a j, (a = 73 ∨ a = 74 ∨ a = 75 ∨ a = 76) → j < nr → kdW I1 nr (nI (tk b n e - 10000)) (nI m) a j = I a j := fun a j q1 q2 => by
        rw [kdW, u_eq, if_neg (by omega), u_eq, if_neg (by omega)]; exact e3 a j (by omega) (by omega)
      have k70 : ∀ j, kdW I1 nr (nI (tk b n e - 10000)) (nI m) 70 j = I 70 j := fun j => by
        rw [kdW, u_eq, if_neg (by omega), u_eq, if_neg (by omega)]; exact e4 j
      -- from the condition's end on
      have fin : ∀ (I4 : Iw) (c w : List Sp3) (e2 : Nat), RSt I4 b n e2 0 (m + (tks w).length) → Tkc I4 m (tks w) → (∀ j, j < m → I4 70 j = I 70 j) → frR (kdW I1 nr (nI (tk b n e - 10000)) (nI m)) I4 → Mre b n nr m I (f_X12_readRule_109 (S0 ++ J) R I4 65 (nI nr)) (pHo b n (tk b n e - 10000) c w e2) := by
        intro I4 c w e2 a1 a2 a3 a4
        obtain ⟨I5, u1, u2, u3⟩ := m_109 (J := J) (k := tk b n e - 10000) (c := c) (w := w) hR (show nr < 8 by omega) a1
        refine ⟨I5, u1, frG_t fr1 (frG_t (frG_R a4) (frG_H u2)), ?_⟩
        have H := pHo_ok (b := b) (k := tk b n e - 10000) (c := c) (w := w) a1.2.1
        have f70 : ∀ j, I5 70 j = I4 70 j := fun j => u2 70 j (by omega) (by omega)
        have f7 : ∀ a j, (a = 73 ∨ a = 74 ∨ ((a = 75 ∨ a = 76) ∧ j < nr)) → I5 a j = kdW I1 nr (nI (tk b n e - 10000)) (nI m) a j := fun a j q => by
          rw [u2 a j (by omega) (by omega), a4 a j (by omega) (by omega)]
        cases hge : pHo b n (tk b n e - 10000) c w e2 with
        | inl f => rw [hge] at u3; exact u3
        | inr p =>
          rw [hge] at u3
          obtain ⟨b1, b2, b3⟩ := u3
          obtain ⟨c1, c2, c3, c4, c5, c6, c7⟩ := H.2 p hge
          show RSt I5 b n p.1 0 (m + (tks p.2.2.2.2.2).length) ∧ Tkc I5 m (tks p.2.2.2.2.2) ∧ sm70 I I5 m ∧ I5 73 nr = nI m ∧ I5 74 nr = nI p.2.1 ∧ I5 75 nr = nI p.2.2.1 ∧ (p.2.2.1 ≠ 2 → I5 76 nr = nI p.2.2.2.1) ∧ sm73 I I5 nr
          rw [c7, c3]
          exact ⟨b1, Tkc_fr _ m (fun j _ => f70 j) a2, fun j hj => (f70 j).trans (a3 j hj), (f7 73 nr (by omega)).trans k73, (f7 74 nr (by omega)).trans k74, b2, b3, fun j hj => ⟨(f7 73 j (by omega)).trans (kj 73 j (by omega) hj), (f7 74 j (by omega)).trans (kj 74 j (by omega) hj), (f7 75 j (by omega)).trans (kj 75 j (by omega) hj), (f7 76 j (by omega)).trans (kj 76 j (by omega) hj)⟩⟩
      rw [m_54h hR hnr e1, i1, R1.2.2.2.1, if_pos rfl, m_word hR R1.1 R1.2.1 R1.2.2.1 (a := 12) (by decide) (by decide), bd1, show 10000 + wn 12 = 10006 from rfl]
      by_cases qi : tk b n (nx b n e) = 10006
      · have hx2 := nx_le (b := b) hx.2.1
        have hs2 := skp_le (b := b) hx.2.1
        have l2 := tk_len (b := b) (i := 6) hx.2.1 (by decide) qi
        have l3 : (wl.getD 6 []).length = 2 := rfl
        obtain ⟨I3, d1, d2, d3, d4⟩ := m_must1 (J := J) hR R1
        obtain ⟨I4, v1, v2, v3⟩ := m_condition (J := J) hR I3 _ m d2 (by omega) (by omega)
        have v1 : f_X12_condition (f_X12_one 70) (S0 ++ J) R I3 65 = some I4 := v1
        rw [decide_eq_true qi, if_neg (by decide), if_pos qi, d1, bd1, v1, bd1]
        cases hge : pCond b n (pOne b n 3) (nx b n (nx b n e)) with
        | inl f =>
          rw [hge] at v3
          have v3 : FSt I4 b n f := v3
          obtain ⟨I5, u1, u2, u3⟩ := m_109F (J := J) (nr := nr) hR hnr v3
          exact ⟨I5, u1, frG_t fr1 (frG_t (frG_R d3) (frG_t (frG_R v2) (frG_H u2))), u3⟩
        | inr p =>
          rw [hge] at v3
          obtain ⟨w1, w2, w3⟩ := v3
          exact fin I4 p.2.1 p.2.2 p.1 w1 w2 (fun j hj => by rw [w3 j hj, d4 j, k70 j]) (frR_t d3 v2)
      · rw [decide_eq_false qi, if_pos (by decide), if_neg qi]
        exact fin _ [] [] (nx b n e) R1 trivial (fun j _ => k70 j) (frR_r _)
    · rw [if_neg (show ¬ (10000 + 0 ≤ tk b n e ∧ tk b n e ≤ 10005) by omega), if_pos (by decide), if_pos (show 8 ≤ nr ∨ tk b n e < 10000 ∨ 10005 < tk b n e by omega)]
      exact bad _
end RR2
