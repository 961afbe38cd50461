/-! THE REFERENCE READS A CONDITION: the whole -/
section RO2
variable {J : Sh} {R : Rw} {I : Iw} {b : Nat → Nat} {n : Nat}
def pA (b : Nat → Nat) (n : Nat) : Nat → Nat → PRs
  | 0 => pAt b n none
  | L + 1 => pAt b n (some (pCond b n (pOne b n L)))
theorem pOne_A (L : Nat) : pOne b n L = pOn b n (pA b n L) := by cases L <;> rfl
theorem pNt_st : ∀ (r e : Nat), e ≤ n → n ≤ e + r → pNt b n (r + 1) e = pNt b n r e
  | 0, e, he, h => by
    have hs := skp_le (b := b) he
    have ht : tk b n e = 30000 := by rw [tk, tkP, if_pos (by omega)]
    show (if tk b n e = 10009 then _ else (0, e)) = (0, e)
    rw [if_neg (by omega)]
  | r + 1, e, he, h => by
    rw [pNt]
    by_cases q : tk b n e = 10009
    · have hx := nx_le (b := b) he
      have hs := skp_le (b := b) he
      have := hx.2.2 (by omega)
      rw [if_pos q, pNt_st r (nx b n e) hx.2.1 (by omega)]
      rw [pNt, if_pos q]
    · rw [if_neg q]
      rw [pNt, if_neg q]
theorem pOne_not {L e : Nat} (hn : n ≤ 200) (he : e ≤ n) (q : tk b n e = 10009) :
    (∀ f, pOne b n L (nx b n e) = .inl f → pOne b n L e = .inl f) ∧ ∀ p, pOne b n L (nx b n e) = .inr p → ∃ c, pOne b n L e = .inr (p.1, c, p.2.2 ++ [oT 20005]) := by
  have hx := nx_le (b := b) he
  have hs := skp_le (b := b) he
  have hx1 := hx.2.2 (by omega)
  have h1 : pNt b n 200 e = ((pNt b n 200 (nx b n e)).1 + 1, (pNt b n 200 (nx b n e)).2) := by
    rw [pNt_st 199 (nx b n e) hx.2.1 (by omega), show pNt b n 200 e = _ from (if_pos q : pNt b n (199 + 1) e = _)]
  rw [pOne_A]
  unfold pOn
  rw [h1]
  unfold pNo
  simp only
  cases hge : pA b n L (pNt b n 200 (nx b n e)).2 with
  | inl ef => exact ⟨fun f hf => hf, fun p hp => (by cases hp)⟩
  | inr p =>
    refine ⟨fun f hf => (by cases hf), fun p' hp => ?_⟩
    cases hp
    refine ⟨p.2.1 ++ nts ((pNt b n 200 (nx b n e)).1 + 1), ?_⟩
    simp only
    rw [List.append_assoc, List.replicate_succ']
theorem pOne_at {L e : Nat} (q : tk b n e ≠ 10009) :
    (∀ f, pA b n L e = .inl f → pOne b n L e = .inl f) ∧ ∀ p, pA b n L e = .inr p → ∃ c, pOne b n L e = .inr (p.1, c, p.2.2) := by
  have h1 : pNt b n 200 e = (0, e) := (if_neg q : pNt b n (199 + 1) e = _)
  rw [pOne_A]
  unfold pOn
  rw [h1]
  unfold pNo
  simp only
  cases hge : pA b n L e with
  | inl ef => exact ⟨fun f hf => hf, fun p hp => (by cases hp)⟩
  | inr p =>
    refine ⟨fun f hf => (by cases hf), fun p' hp => ?_⟩
    cases hp
    refine ⟨p.2.1 ++ nts 0, ?_⟩
    simp only
    rw [List.replicate_zero, List.append_nil]
theorem up10_R {e m : Nat} {d d' : Int32} (h : RSt I b n e d m) : RSt (up2 I 65 10 d') b n e d' m := by
  obtain ⟨hT, he, hS, h9, h10, h12⟩ := h
  exact ⟨TMb_fr hT fun a j z => by rw [u_eq, if_neg (by omega)], he, RS_fr (fun j h1 h2 => by rw [u_eq, if_neg (by omega)]) hS, by rw [u_eq, if_neg (by omega)]; exact h9, by rw [u_eq, if_pos ⟨rfl, rfl⟩], by rw [u_eq, if_neg (by omega)]; exact h12⟩
theorem up10_F {e : Nat} {d' : Int32} (h : FSt I b n e) : FSt (up2 I 65 10 d') b n e := by
  obtain ⟨hT, he, hS, h9⟩ := h
  exact ⟨TMb_fr hT fun a j z => by rw [u_eq, if_neg (by omega)], he, RS_fr (fun j h1 h2 => by rw [u_eq, if_neg (by omega)]) hS, by rw [u_eq, if_neg (by omega)]; exact h9⟩
theorem up10_f (I : Iw) (d' : Int32) : frR I (up2 I 65 10 d') := fun a j q1 q2 => by rw [u_eq, if_neg (by omega)]
theorem up10_7 (I : Iw) (d' : Int32) (j : Nat) : up2 I 65 10 d' 70 j = I 70 j := by rw [u_eq, if_neg (by omega)]
/-- behind a bracket that may not open -/
theorem m_59F (hR : Lay R) {g : Sh → Rw → Iw → Nat → Option Iw} {e m : Nat} {d : Int32} (hG : Rdf b n (fun I => g (S0 ++ J) R I 65)) (h : RSt I b n e d m) : ∃ I', f_X12_one_59 g (S0 ++ J) R I 65 0 65 = some I' ∧ frR I I' ∧ FSt I' b n e := by
  obtain ⟨I1, e1, e2, e3, e4⟩ := m_must0 (J := J) (R := R) h
  have F1 := up10_F (d' := I1 65 10 + 1) e2
  have c1 : f_X12_condition g (S0 ++ J) R (up2 I1 65 10 (I1 65 10 + 1)) 65 = some _ := m_condF hG _ _ F1
  have F2 := up10_F (d' := up2 I1 65 10 (I1 65 10 + 1) 65 10 - 1) F1
  obtain ⟨I3, k1, k2, k3, k4⟩ := m_mustF (J := J) (R := R) (x := yn (decide (tk b n e = 20041))) F2
  refine ⟨I3, ?_, frR_t e3 (frR_t (up10_f _ _) (frR_t (up10_f _ _) k3)), k2⟩
  rw [f_X12_one_59, so_65, gp1, e1, bd1, gp1, lt1, c1, bd1, lt1, s_41 hR F2.1 F2.2.2.1, bd1, k1, bd1]
theorem m_59 (hR : Lay R) {g : Sh → Rw → Iw → Nat → Option Iw} {G : Nat → PRs} {e m h F D : Nat} (hok : OkR b n h G) (hG : Rdm b n (nI (D + 1)) F (fun I => f_X12_condition g (S0 ++ J) R I 65) G) (H : RSt I b n e (nI D) m) (hm : m + 1 ≤ e) (hF : n ≤ e + 3 * F) (q : tk b n e = 20040) :
    Rre b n (nI D) m I (f_X12_one_59 g (S0 ++ J) R I 65 1 65) (match G (nx b n e) with
      | .inl f => .inl f
      | .inr p => if tk b n p.1 = 20041 then .inr (nx b n p.1, p.2.1, p.2.2) else .inl p.1) := by
  have hn := H.1.1
  have he := H.2.1
  have hx := nx_le (b := b) he
  have hs1 := skp_le (b := b) he
  have hx1 := hx.2.2 (by omega)
  obtain ⟨I1, e1, e2, e3, e4⟩ := m_must1 (J := J) hR H
  have d1 : I1 65 10 + 1 = nI (D + 1) := by rw [e2.2.2.2.2.1, show (1 : Int32) = nI 1 from rfl, n_add]
  have R1 := up10_R (d' := nI (D + 1)) e2
  obtain ⟨I2, c1, c2, c3⟩ := hG _ _ _ R1 (by omega) (by omega)
  have c1 : f_X12_condition g (S0 ++ J) R (up2 I1 65 10 (nI (D + 1))) 65 = some I2 := c1
  have fr2 := frR_t e3 (frR_t (up10_f I1 (nI (D + 1))) c2)
  rw [f_X12_one_59, so_65, gp1, e1, bd1, gp1, lt1, d1, c1, bd1, lt1]
  cases hge : G (nx b n e) with
  | inl ef =>
    rw [hge] at c3
    have c3 : FSt I2 b n ef := c3
    have F2 := up10_F (d' := I2 65 10 - 1) c3
    obtain ⟨I3, k1, k2, k3, k4⟩ := m_mustF (J := J) (R := R) (x := yn (decide (tk b n ef = 20041))) F2
    refine ⟨I3, ?_, frR_t fr2 (frR_t (up10_f _ _) k3), k2⟩
    rw [s_41 hR F2.1 F2.2.2.1, bd1, k1, bd1]
  | inr p =>
    rw [hge] at c3
    obtain ⟨k1, k2, k3⟩ := c3
    have d2 : I2 65 10 - 1 = nI D := by rw [k1.2.2.2.2.1, show (1 : Int32) = nI 1 from rfl, n_sub (by omega), Nat.add_sub_cancel]
    have R2 := up10_R (d' := nI D) k1
    rw [d2, s_41 hR R2.1 R2.2.2.1, bd1]
    simp only
    by_cases q2 : tk b n p.1 = 20041
    · obtain ⟨I3, u1, u2, u3, u4⟩ := m_must1 (J := J) hR R2
      rw [decide_eq_true q2, if_pos q2]
      refine ⟨I3, ?_, frR_t fr2 (frR_t (up10_f _ _) u3), u2, Tkc_fr _ _ (fun j _ => (u4 j).trans (up10_7 _ _ j)) k2, fun j hj => by rw [u4 j, up10_7, k3 j hj, up10_7, e4 j]⟩
      rw [show f_X12_must (S0 ++ J) R (up2 I2 65 10 (nI D)) 65 (yn true) = some I3 from u1, bd1]
    · obtain ⟨I3, u1, u2, u3, u4⟩ := m_must0 (J := J) (R := R) R2
      rw [decide_eq_false q2, if_neg q2]
      refine ⟨I3, ?_, frR_t fr2 (frR_t (up10_f _ _) u3), u2⟩
      rw [show f_X12_must (S0 ++ J) R (up2 I2 65 10 (nI D)) 65 (yn false) = some I3 from u1, bd1]
theorem Rre_c {d : Int32} {m : Nat} {o : Option Iw} {r : PRs} {res : PRs} (h : Rre b n d m I o r) (h1 : ∀ f, r = .inl f → res = .inl f) (h2 : ∀ p, r = .inr p → ∃ c, res = .inr (p.1, c, p.2.2)) : Rre b n d m I o res := by
  obtain ⟨I', g1, g2, g3⟩ := h
  cases r with
  | inl f => rw [h1 f rfl]; exact ⟨I', g1, g2, g3⟩
  | inr p =>
    obtain ⟨c, hc⟩ := h2 p rfl
    rw [hc]; exact ⟨I', g1, g2, g3⟩
theorem m_on1 (hR : Lay R) : ∀ (f L F : Nat), L ≤ 3 → L + 2 + F ≤ f → Rdm b n (nI (3 - L)) F (fun I => f_X12_one f (S0 ++ J) R I 65) (pOne b n L)
  | 0, L, F, hL, hf => absurd hf (by omega)
  | f + 1, L, F, hL, hf => by
    intro I e m h hm hF
    have hn := h.1.1
    have he := h.2.1
    have hx := nx_le (b := b) he
    have hs1 := skp_le (b := b) he
    have ht := tk_le (b := b) (n := n) e
    show Rre b n (nI (3 - L)) m I (f_X12_one (f + 1) (S0 ++ J) R I 65) _
    rw [f_X12_one, f_X12_one_b, so_65, gp1, h.2.2.2.1, if_pos rfl, m_word hR h.1 he h.2.2.1 (a := 13) (by decide) (by decide), bd1, show wn 13 = 9 from rfl]
    by_cases q : tk b n e = 10000 + 9
    · have hx1 := hx.2.2 (by omega)
      have l3 := tk_len (b := b) (i := 9) he (by decide) q
      have l4 : (wl.getD 9 []).length = 3 := rfl
      rw [decide_eq_true q, if_neg (by decide)]
      obtain ⟨I1, e1, e2, e3, e4⟩ := m_must1 (J := J) hR h
      rw [e1, bd1]
      have hN := pOne_not (b := b) (L := L) hn he q
      obtain ⟨I2, g1, g2, g3⟩ := m_on1 hR f L (F - 1) hL (by omega) I1 _ _ e2 (by omega) (by omega)
      have g1 : f_X12_one f (S0 ++ J) R I1 65 = some I2 := g1
      have hok := pOne_ok (b := b) (n := n) L (nx b n e) hx.2.1
      rw [g1, bd1]
      cases hge : pOne b n L (nx b n e) with
      | inl ef =>
        rw [hge] at g3
        have g3 : FSt I2 b n ef := g3
        rw [hN.1 ef hge]
        exact ⟨I2, by rw [m_tellsF g3, bd1], frR_t e3 g2, g3⟩
      | inr p =>
        rw [hge] at g3
        obtain ⟨k1, k2, k3⟩ := g3
        have H := hok.2 p hge
        have H2 := H.2.2.2.1
        obtain ⟨c, hc⟩ := hN.2 p hge
        obtain ⟨t1, t2, t3, t4, t5⟩ := m_tells (J := J) (x := nI 20005) hR k1 (by omega)
        rw [hc]
        have hlen : tks (p.2.2 ++ [oT 20005]) = tks p.2.2 ++ [20005] := by rw [tks_app]; rfl
        refine ⟨_, by rw [show (20005 : Int32) = nI 20005 from rfl, t1, bd1], frR_t e3 (frR_t g2 t3), ?_, ?_, fun j hj => by rw [t4 j (by omega), k3 j hj, e4 j]⟩
        · show RSt _ b n p.1 _ (m + (tks (p.2.2 ++ [oT 20005])).length)
          rw [hlen, List.length_append, ← Nat.add_assoc]; exact t2
        · show Tkc _ m (tks (p.2.2 ++ [oT 20005]))
          rw [hlen]
          exact Tkc_app _ _ _ (Tkc_fr _ m (fun j hj => t4 j hj) k2) ⟨t5, trivial⟩
    · have hA := pOne_at (b := b) (n := n) (L := L) (e := e) q
      rw [decide_eq_false q, if_pos (by decide), s_40 hR h.1 h.2.2.1, bd1]
      refine Rre_c (r := pA b n L e) ?_ hA.1 hA.2
      by_cases q2 : tk b n e = 20040
      · rw [decide_eq_true q2, if_neg (by decide), h.2.2.2.2.1]
        cases L with
        | zero =>
          rw [if_pos (by decide)]
          have : pA b n 0 e = .inl e := by
            show pAt b n none e = _
            unfold pAt
            rw [if_pos q2]
          rw [this]
          obtain ⟨g, rfl⟩ := Nat.exists_eq_succ_of_ne_zero (n := f) (by omega)
          obtain ⟨I', k1, k2, k3⟩ := m_59F (J := J) hR (m_oneF (b := b) (n := n) (J := J) (R := R) g) h
          exact ⟨I', k1, k2, k3⟩
        | succ L =>
          rw [if_neg (by show ¬ nI 3 ≤ nI (3 - (L + 1)); rw [n_le (by omega) (by omega)]; omega)]
          have : pA b n (L + 1) e = (match pCond b n (pOne b n L) (nx b n e) with
      | .inl f => .inl f
      | .inr p => if tk b n p.1 = 20041 then .inr (nx b n p.1, p.2.1, p.2.2) else .inl p.1) := by
            show pAt b n (some (pCond b n (pOne b n L))) e = _
            unfold pAt
            rw [if_pos q2]
            rfl
          rw [this]
          refine m_59 (D := 3 - (L + 1)) (h := 2 * L + 3) (F := F) hR (pCond_ok L) ?_ h hm hF q2
          rw [show 3 - (L + 1) + 1 = 3 - L by omega]
          exact m_cond hR (pOne_ok L) (m_on1 hR f L F (by omega) (by omega))
      · have : pA b n L e = pCmp b n e := by
          cases L with
          | zero => show pAt b n none e = _; unfold pAt; rw [if_neg q2]
          | succ L => show pAt b n (some _) e = _; unfold pAt; rw [if_neg q2]
        rw [decide_eq_false q2, if_pos (by decide), this]
        exact m_tail hR h hm
theorem m_condition (hR : Lay R) : Rdm b n (nI 0) 65 (fun I => f_X12_condition (f_X12_one 70) (S0 ++ J) R I 65) (pCond b n (pOne b n 3)) :=
  m_cond hR (pOne_ok 3) (m_on1 hR 70 3 65 (by omega) (by omega))
end RO2
