/-! THE CLASS READS A CONDITION -/
section CPR
variable {J : Sh} {R : Rw} {I : Iw} {b : Nat → Nat} {n : Nat}
def frC (I I' : Iw) : Prop := ∀ a j, ¬ (a = 33 ∧ j = 5) → ¬ (a = 37 ∧ j = 4) → a ≠ 41 → a ≠ 42 → a ≠ 43 → I' a j = I a j
theorem frC_r (I : Iw) : frC I I := fun _ _ _ _ _ _ _ => rfl
theorem frC_t {I I' I'' : Iw} (h : frC I I') (h2 : frC I' I'') : frC I I'' := fun a j q1 q2 q3 q4 q5 => (h2 a j q1 q2 q3 q4 q5).trans (h a j q1 q2 q3 q4 q5)
def Sps (I : Iw) : Nat → List Sp3 → Prop
  | _, [] => True
  | s, t :: l => (I 41 s = nI (cSgn t.1) ∧ (isCmp t.1 = true → I 42 s = nI (cTok t.2.1) ∧ I 43 s = nI (cTok t.2.2))) ∧ Sps I (s + 1) l
theorem Sps_app {I : Iw} : ∀ (c d : List Sp3) (s : Nat), Sps I s c → Sps I (s + c.length) d → Sps I s (c ++ d)
  | [], d, s, _, h => h
  | t :: c, d, s, h1, h2 => ⟨h1.1, Sps_app c d (s + 1) h1.2 (by rw [List.length_cons] at h2; rw [show s + 1 + c.length = s + (c.length + 1) by omega]; exact h2)⟩
theorem Sps_fr {I I' : Iw} : ∀ (c : List Sp3) (s : Nat), (∀ j, j < s + c.length → I' 41 j = I 41 j ∧ I' 42 j = I 42 j ∧ I' 43 j = I 43 j) → Sps I s c → Sps I' s c
  | [], _, _, _ => trivial
  | t :: c, s, f, h => by
    rw [List.length_cons] at f
    have g := f s (by omega)
    exact ⟨⟨g.1.trans h.1.1, fun q => ⟨g.2.1.trans (h.1.2 q).1, g.2.2.trans (h.1.2 q).2⟩⟩, Sps_fr c (s + 1) (fun j hj => f j (by omega)) h.2⟩
def Sld (I I' : Iw) (s : Nat) : Prop := ∀ j, j < s → I' 41 j = I 41 j ∧ I' 42 j = I 42 j ∧ I' 43 j = I 43 j
theorem Sld_r (I : Iw) (s : Nat) : Sld I I s := fun _ _ => ⟨rfl, rfl, rfl⟩
theorem Sld_t {I I' I'' : Iw} {s s' : Nat} (h : Sld I I' s) (h2 : Sld I' I'' s') (hs : s ≤ s') : Sld I I'' s := fun j hj => by
  have a := h j hj
  have d := h2 j (by omega)
  exact ⟨d.1.trans a.1, d.2.1.trans a.2.1, d.2.2.trans a.2.2⟩
def CSt (I : Iw) (b : Nat → Nat) (n k e s : Nat) : Prop := At I b n k e ∧ I 37 4 = nI s ∧ s ≤ 128
def Cre (b : Nat → Nat) (n s : Nat) (I : Iw) (o : Option (Iw × Int32)) (res : PRs) : Prop := ∃ I' r, o = some (I', r) ∧ frC I I' ∧ match res with
  | .inl f => r = 0 ∧ ∃ k s', CSt I' b n k f s'
  | .inr p => r = 1 ∧ (∃ k, CSt I' b n k p.1 (s + p.2.1.length)) ∧ Sps I' s p.2.1 ∧ Sld I I' s
def adv (I : Iw) (k : Nat) : Iw := up2 I 33 5 (nI (k + 1))
theorem adv_C {k e s : Nat} (h : CSt I b n k e s) (hne : tk b n e ≠ 30000) : CSt (adv I k) b n (k + 1) (nx b n e) s :=
  ⟨At_nx h.1 hne, by rw [adv, u_eq, if_neg (by omega)]; exact h.2.1, h.2.2⟩
theorem adv_f (k : Nat) : frC I (adv I k) := fun a j q1 q2 q3 q4 q5 => by rw [adv, u_eq, if_neg q1]
theorem adv_S (k s : Nat) : Sld I (adv I k) s := fun j _ => by
  refine ⟨?_, ?_, ?_⟩ <;> rw [adv, u_eq, if_neg (by omega)]
theorem q_adv {k e s : Nat} (h : CSt I b n k e s) : up2 I 33 5 (I 33 5 + 1) = adv I k := by
  rw [h.1.2.2.2.1, show (1 : Int32) = nI 1 from rfl, n_add]; rfl
theorem tk_le (e : Nat) : tk b n e ≤ 30001 := by
  have h3 := so_3 b n e
  rcases (by omega : so b n e = 0 ∨ so b n e = 1 ∨ so b n e = 2 ∨ so b n e = 3) with h | h | h | h
  · rw [tk_so0 h]; omega
  · rw [(tk_so1 h).1]
    rcases nmW_or (seg b (skp b n e) (nx b n e)) with q | q <;> omega
  · by_cases h4 : nx b n e - skp b n e ≤ 4
    · have := num_lt h h4
      rw [(tk_so2 h).1, if_pos h4]; omega
    · rw [(tk_so2 h).1, if_neg h4]; omega
  · rw [(tk_so3 h).1]
    rcases bTk_or (b (skp b n e)) with q | q <;> omega
theorem q_isVal {S : Sh} {t : Nat} (ht : t ≤ 30001) : f_X3_isValue S R I (nI t) = some (yn (isVal t)) := by
  rw [f_X3_isValue, f_X3_isValue_21, show (10000 : Int32) = nI 10000 from rfl, show (10013 : Int32) = nI 10013 from rfl, show (10017 : Int32) = nI 10017 from rfl]
  unfold isVal
  by_cases h1 : t < 10000
  · rw [if_pos (by rw [n_lt (by omega) (by omega)]; exact h1), decide_eq_true h1]; rfl
  · rw [if_neg (by rw [n_lt (by omega) (by omega)]; exact h1), decide_eq_false h1]
    by_cases h2 : t < 10013
    · rw [if_pos (by rw [n_lt (by omega) (by omega)]; exact h2), decide_eq_false (show ¬ 10013 ≤ t by omega)]; rfl
    · rw [if_neg (by rw [n_lt (by omega) (by omega)]; exact h2), decide_eq_true (show 10013 ≤ t by omega)]
      by_cases h3 : 10017 < t
      · rw [if_pos (by rw [n_lt (by omega) (by omega)]; exact h3), decide_eq_false (show ¬ t ≤ 10017 by omega)]; rfl
      · rw [if_neg (by rw [n_lt (by omega) (by omega)]; exact h3), decide_eq_true (show t ≤ 10017 by omega)]; rfl
def adS (I : Iw) (s : Nat) (x y z : Int32) : Iw := up2 (up2 (up2 (up2 I 41 s x) 42 s y) 43 s z) 37 4 (nI (s + 1))
theorem q_addS (hR : Lay R) {s : Nat} {x y z : Int32} (hs : s < 128) (h : I 37 4 = nI s) : f_X5_addStep (S0 ++ J) R I 37 x y z = some (adS I s x y z) := by
  rw [f_X5_addStep, so_37, gp1, h, if_neg (by show ¬ nI 128 ≤ nI s; rw [n_le (by omega) (by omega)]; omega)]
  simp (disch := omega) only [so_37, ao_38, ao_39, ao_40, ao_41, ao_42, ao_43, ly_37_1 hR, ly_37_2 hR, ly_37_3 hR, ly_37_5 hR, ly_37_6 hR, ly_37_7 hR, h, u_eq, Nat.reduceEqDiff, false_and, and_false, true_and, and_true, and_self, not_false_eq_true, adS, lit, gp1, rl1, rs1, bd1, lt1, n_add, n_sub, n_dec, n_le, n_lt, n_eq, n_in, nI_clamp, n_mul, m_or, m_and, m_pow, m_bit, m_dif, n_neg, yn_0, yn_1, yn_z, yn_d, one31, Nat.add_sub_cancel, Nat.not_lt_zero, if_true, if_false, ite_true, ite_false, Bool.true_eq_false, Bool.false_eq_true, Nat.add_zero, Nat.zero_add]
theorem q_addF (hR : Lay R) {k e s : Nat} {x y z : Int32} (h : CSt I b n k e s) : ∃ I' s', f_X5_addStep (S0 ++ J) R I 37 x y z = some I' ∧ CSt I' b n k e s' ∧ frC I I' := by
  by_cases hs : s < 128
  · refine ⟨_, s + 1, q_addS hR hs h.2.1, ⟨At_fr (fun a j q => by rw [adS, u_eq, if_neg (by omega), u_eq, if_neg (by omega), u_eq, if_neg (by omega), u_eq, if_neg (by omega)]) h.1, by rw [adS, u_eq, if_pos ⟨rfl, rfl⟩], hs⟩, fun a j q1 q2 q3 q4 q5 => ?_⟩
    rw [adS, u_eq, if_neg q2, u_eq, if_neg (by omega), u_eq, if_neg (by omega), u_eq, if_neg (by omega)]
  · refine ⟨I, s, ?_, h, frC_r I⟩
    rw [f_X5_addStep, so_37, gp1, h.2.1, if_pos (by show nI 128 ≤ nI s; rw [n_le (by omega) (by have := h.2.2; omega)]; omega)]
/-- a step more -/
theorem adS_C {k e s : Nat} {x y z : Int32} (h : CSt I b n k e s) (hs : s < 128) : CSt (adS I s x y z) b n k e (s + 1) ∧ frC I (adS I s x y z) ∧ Sld I (adS I s x y z) s ∧ adS I s x y z 41 s = x ∧ adS I s x y z 42 s = y ∧ adS I s x y z 43 s = z := by
  refine ⟨⟨At_fr (fun a j q => by rw [adS, u_eq, if_neg (by omega), u_eq, if_neg (by omega), u_eq, if_neg (by omega), u_eq, if_neg (by omega)]) h.1, by rw [adS, u_eq, if_pos ⟨rfl, rfl⟩], hs⟩, fun a j q1 q2 q3 q4 q5 => ?_, fun j hj => ⟨?_, ?_, ?_⟩, ?_, ?_, ?_⟩
  · rw [adS, u_eq, if_neg q2, u_eq, if_neg (by omega), u_eq, if_neg (by omega), u_eq, if_neg (by omega)]
  · rw [adS, u_eq, if_neg (by omega), u_eq, if_neg (by omega), u_eq, if_neg (by omega), u_eq, if_neg (by omega)]
  · rw [adS, u_eq, if_neg (by omega), u_eq, if_neg (by omega), u_eq, if_neg (by omega), u_eq, if_neg (by omega)]
  · rw [adS, u_eq, if_neg (by omega), u_eq, if_neg (by omega), u_eq, if_neg (by omega), u_eq, if_neg (by omega)]
  · rw [adS, u_eq, if_neg (by omega), u_eq, if_neg (by omega), u_eq, if_neg (by omega), u_eq, if_pos ⟨rfl, rfl⟩]
  · rw [adS, u_eq, if_neg (by omega), u_eq, if_neg (by omega), u_eq, if_pos ⟨rfl, rfl⟩]
  · rw [adS, u_eq, if_neg (by omega), u_eq, if_pos ⟨rfl, rfl⟩]
theorem q_cmp52 (hR : Lay R) {k e s op x : Nat} (h : CSt I b n k e s) (hs : s < 128) (hop : tk b n e = op + 58) (ho : op = 20002 ∨ op = 20003 ∨ op = 20004) (hx : cTok (vTok x) = x) :
    Cre b n s I (f_X3_readComparison_52 (S0 ++ J) R I 33 (nI x) (nI (op + 58))) (if isVal (tk b n (nx b n e)) = true then .inr (nx b n (nx b n e), [(op, vTok x, vTok (tk b n (nx b n e)))], [(op, vTok x, vTok (tk b n (nx b n e)))]) else .inl (nx b n e)) := by
  have C1 := adv_C h (by omega)
  rw [f_X3_readComparison_52, so_33, gp1, q_adv h, lt1, q_peek hR C1.1, bd1, q_isVal (tk_le _), bd1]
  by_cases v : isVal (tk b n (nx b n e)) = true
  · have tv := vTok_lt v
    have C2 := adv_C C1 (by omega)
    have C3 := adS_C (x := nI (op + 58)) (y := nI x) (z := nI (tk b n (nx b n e))) C2 hs
    rw [if_pos v, v, if_neg (by decide), q_adv C1, lt1]
    refine ⟨_, 1, ?_, frC_t (adv_f k) (frC_t (adv_f (k + 1)) C3.2.1), rfl, ⟨k + 1 + 1, C3.1⟩, ⟨⟨?_, fun _ => ⟨?_, ?_⟩⟩, trivial⟩, Sld_t (adv_S k s) (Sld_t (adv_S (k + 1) s) C3.2.2.1 (Nat.le_refl s)) (Nat.le_refl s)⟩
    · simp (disch := omega) only [so_33, ao_34, ao_35, ao_36, so_37, ly_33_1 hR, ly_33_2 hR, ly_33_3 hR, ly_33_6 hR, ly_37_1 hR, ly_37_2 hR, ly_37_3 hR, ly_37_5 hR, ly_37_6 hR, ly_37_7 hR, q_addS hR hs C2.2.1, lit, gp1, rl1, rs1, bd1, lt1, n_add, n_sub, n_dec, n_le, n_lt, n_eq, n_in, nI_clamp, n_mul, m_or, m_and, m_pow, m_bit, m_dif, n_neg, yn_0, yn_1, yn_z, yn_d, one31, Nat.add_sub_cancel, Nat.not_lt_zero, if_true, if_false, ite_true, ite_false, Bool.true_eq_false, Bool.false_eq_true, Nat.add_zero, Nat.zero_add]
    · rw [C3.2.2.2.1]
      rcases ho with e | e | e <;> rw [e] <;> rfl
    · rw [C3.2.2.2.2.1]; exact congrArg nI hx.symm
    · rw [C3.2.2.2.2.2]; exact congrArg nI tv.2.1.symm
  · rw [if_neg v, Bool.eq_false_iff.mpr v, if_pos (by decide)]
    exact ⟨_, 0, rfl, adv_f k, rfl, k + 1, s, C1⟩
theorem Cre_f {s : Nat} {I I0 : Iw} {o : Option (Iw × Int32)} {res : PRs} (f : frC I0 I) (g : Sld I0 I s) (h : Cre b n s I o res) : Cre b n s I0 o res := by
  obtain ⟨I', r, h1, h2, h3⟩ := h
  refine ⟨I', r, h1, frC_t f h2, ?_⟩
  cases res with
  | inl q => exact h3
  | inr p => exact ⟨h3.1, h3.2.1, h3.2.2.1, Sld_t g h3.2.2.2 (Nat.le_refl s)⟩
theorem q_cmp (hR : Lay R) {k e s : Nat} (h : CSt I b n k e s) (hs : s < 128) : Cre b n s I (f_X3_readComparison (S0 ++ J) R I 33) (pCmp b n e) := by
  rw [f_X3_readComparison, so_33, gp1, q_peek hR h.1, bd1, q_isVal (tk_le _), bd1, pCmp]
  by_cases v : isVal (tk b n e) = true
  · have tv := vTok_lt v
    have C1 := adv_C h (by omega)
    have t2 := tk_le (b := b) (n := n) (nx b n e)
    rw [if_pos v, v, if_neg (by decide), q_adv h, lt1, q_peek hR C1.1, bd1, show (20060 : Int32) = nI 20060 from rfl, show (20061 : Int32) = nI 20061 from rfl, show (20062 : Int32) = nI 20062 from rfl]
    have go : ∀ op, op = 20002 ∨ op = 20003 ∨ op = 20004 → tk b n (nx b n e) = op + 58 → _ := fun op h1 h2 => Cre_f (adv_f k) (adv_S k s) (q_cmp52 (J := J) (x := tk b n e) hR C1 hs h2 h1 tv.2.1)
    by_cases o1 : tk b n (nx b n e) = 20060
    · rw [if_pos (Or.inl o1), if_pos (by rw [o1])]
      have := go 20002 (by omega) o1
      rw [o1]; exact this
    · rw [if_neg (by rw [n_eq (by omega) (by omega)]; exact o1)]
      by_cases o2 : tk b n (nx b n e) = 20061
      · rw [if_pos (Or.inr (Or.inl o2)), if_pos (by rw [o2])]
        have := go 20003 (by omega) o2
        rw [o2]; exact this
      · rw [if_neg (by rw [n_eq (by omega) (by omega)]; exact o2)]
        by_cases o3 : tk b n (nx b n e) = 20062
        · rw [if_pos (Or.inr (Or.inr o3)), if_pos (by rw [o3])]
          have := go 20004 (by omega) o3
          rw [o3]; exact this
        · rw [if_neg (by rw [n_eq (by omega) (by omega)]; exact o3), if_neg (by omega)]
          exact ⟨_, 0, rfl, adv_f k, rfl, k + 1, s, C1⟩
  · rw [if_neg v, Bool.eq_false_iff.mpr v, if_pos (by decide)]
    exact ⟨I, 0, rfl, frC_r I, rfl, k, s, h⟩
end CPR
