/-! CALLS: an act of a thing -/
theorem sA_eq {α : Type} (f : Nat → α) (k : Nat) (x : α) (b : Nat) : setA f k x b = if b = k then x else f b := rfl
def nwI (I : Iw) (q : Nat) (N A : Int32) : Iw := up2 (up2 (setA (setA I q (fun _ => 0)) (q + 1) (fun _ => 0)) q 0 N) q 1 A
def nwR (R : Rw) (q : Nat) : Rw := up2 (setA (setA R q (fun _ => none)) (q + 1) (fun _ => none)) q 2 (some (.inl (q + 1)))
theorem nwI_o {I : Iw} {q : Nat} {N A : Int32} {a j : Nat} (h : a ≠ q) (h2 : a ≠ q + 1) : nwI I q N A a j = I a j := by
  unfold nwI
  rw [u_eq, if_neg (by omega), u_eq, if_neg (by omega), sA_eq, if_neg h2, sA_eq, if_neg h]
theorem nwR_o {R : Rw} {q a j : Nat} (h : a ≠ q) (h2 : a ≠ q + 1) : nwR R q a j = R a j := by
  unfold nwR
  rw [u_eq, if_neg (by omega), sA_eq, if_neg h2, sA_eq, if_neg h]
theorem x_init {S : Sh} {R : Rw} {I : Iw} {q c : Nat} {N A : Int32} (hq : S.length = q) (hc : thc c = true) :
    f_X9_init (S ++ [(c, 5)]) (setA R q (fun _ => none)) (setA I q (fun _ => 0)) q N A = some (S ++ [(c, 5)] ++ [(20, 30)], nwR R q, nwI I q N A) := by
  have hl : (S ++ [(c, 5)]).length = q + 1 := by rw [List.length_append, hq]; rfl
  have hg : thg (S ++ [(c, 5)] ++ [(20, 30)]) q = true := thg_t (ci := c) (by
    rw [List.getElem?_append_left (by omega), List.getElem?_append_right (by omega), hq, Nat.sub_self]; rfl) hc
  rw [f_X9_init, lt1, lt1, lt1, lt1, hl, hg, gp1, lt1, lt1, lt1]; rfl
section ACT
variable {J : Sh} {R : Rw} {I : Iw} {D : Dt}
theorem q_thing (hR : Lay R) (hC : CR I 1 D) (hV : VD D) {s n : Nat} (hs : s < 4) (hn : n < d_n D) (h54 : I 54 s = nI 0) (h55 : I 55 s = nI n) :
    f_X11_thingOn (S0 ++ J) R I 0 (nI s) = some ((S0 ++ J ++ [(kC (d_kd D n), 5)] ++ [(20, 30)], nwR R (S0 ++ J).length, nwI I (S0 ++ J).length (nI n) (nI (d_cl D n))), some (.inl (S0 ++ J).length)) := by
  have h9 := hV.1
  have vk := hV.2.2.2.2.1 n hn
  have ⟨k1, k2, k3, k4⟩ := hC.1.2.2.2.2.2.2.2.1 n hn
  have b1 : btw (nI s) (nI 0) (nI 3) = true := by rw [btw_n (by decide) (by decide) (by omega), decide_eq_true (by omega)]
  have b2 : ltb (d_n D) (nI n) = true := by rw [ltb_n (by omega) (by omega), decide_eq_true hn]
  generalize hq : (S0 ++ J).length = q
  rcases (by omega : d_kd D n = 1 ∨ d_kd D n = 2 ∨ d_kd D n = 3 ∨ d_kd D n = 4 ∨ d_kd D n = 5) with e | e | e | e | e
  · rw [e] at k1
    have hi := x_init (R := R) (I := I) (N := nI n) (A := nI (d_cl D n)) (c := 10) hq rfl
    rw [f_X11_thingOn]
    simp (disch := omega) only [x_btw, b1, so_0, so_1, ao_2, ao_3, ao_4, ao_5, ao_6, ao_7, so_8, ao_9, ao_10, ao_11, ao_12, ao_13, ao_14, ao_15, ao_16, ly_0_0 hR, ly_0_1 hR, ly_0_3 hR, ly_0_4 hR, ly_0_5 hR, ly_0_7 hR, ly_0_8 hR, ly_0_9 hR, ly_0_10 hR, ly_1_0 hR, ly_1_1 hR, ly_1_2 hR, ly_1_3 hR, ly_1_4 hR, ly_1_7 hR, ly_1_11 hR, ly_1_12 hR, ly_1_13 hR, ly_8_1 hR, ly_8_2 hR, ly_8_3 hR, ly_8_5 hR, ly_8_6 hR, ly_8_7 hR, ao_54, ao_55, h54, h55, q_has hC.1, b2, k1, k3, Nat.reduceEqDiff, hq, lit, gp1, rl1, rs1, bd1, lt1, n_add, n_sub, n_dec, n_le, n_lt, n_eq, n_in, nI_clamp, n_mul, m_or, m_and, m_pow, m_bit, m_dif, n_neg, yn_0, yn_1, yn_z, yn_d, one31, Nat.add_sub_cancel, Nat.not_lt_zero, if_true, if_false, ite_true, ite_false, Bool.true_eq_false, Bool.false_eq_true, Nat.add_zero, Nat.zero_add]
    rw [f_X10_init]
    rw [show setA I q (fun _ => nI 0) = setA I q (fun _ => 0) from rfl, hi, e]; rfl
  · rw [e] at k1
    have hi := x_init (R := R) (I := I) (N := nI n) (A := nI (d_cl D n)) (c := 1) hq rfl
    rw [f_X11_thingOn]
    simp (disch := omega) only [x_btw, b1, so_0, so_1, ao_2, ao_3, ao_4, ao_5, ao_6, ao_7, so_8, ao_9, ao_10, ao_11, ao_12, ao_13, ao_14, ao_15, ao_16, ly_0_0 hR, ly_0_1 hR, ly_0_3 hR, ly_0_4 hR, ly_0_5 hR, ly_0_7 hR, ly_0_8 hR, ly_0_9 hR, ly_0_10 hR, ly_1_0 hR, ly_1_1 hR, ly_1_2 hR, ly_1_3 hR, ly_1_4 hR, ly_1_7 hR, ly_1_11 hR, ly_1_12 hR, ly_1_13 hR, ly_8_1 hR, ly_8_2 hR, ly_8_3 hR, ly_8_5 hR, ly_8_6 hR, ly_8_7 hR, ao_54, ao_55, h54, h55, q_has hC.1, b2, k1, k3, Nat.reduceEqDiff, hq, lit, gp1, rl1, rs1, bd1, lt1, n_add, n_sub, n_dec, n_le, n_lt, n_eq, n_in, nI_clamp, n_mul, m_or, m_and, m_pow, m_bit, m_dif, n_neg, yn_0, yn_1, yn_z, yn_d, one31, Nat.add_sub_cancel, Nat.not_lt_zero, if_true, if_false, ite_true, ite_false, Bool.true_eq_false, Bool.false_eq_true, Nat.add_zero, Nat.zero_add]
    rw [f_X1_init]
    rw [show setA I q (fun _ => nI 0) = setA I q (fun _ => 0) from rfl, hi, e]; rfl
  · rw [e] at k1
    have hi := x_init (R := R) (I := I) (N := nI n) (A := nI (d_cl D n)) (c := 0) hq rfl
    rw [f_X11_thingOn]
    simp (disch := omega) only [x_btw, b1, so_0, so_1, ao_2, ao_3, ao_4, ao_5, ao_6, ao_7, so_8, ao_9, ao_10, ao_11, ao_12, ao_13, ao_14, ao_15, ao_16, ly_0_0 hR, ly_0_1 hR, ly_0_3 hR, ly_0_4 hR, ly_0_5 hR, ly_0_7 hR, ly_0_8 hR, ly_0_9 hR, ly_0_10 hR, ly_1_0 hR, ly_1_1 hR, ly_1_2 hR, ly_1_3 hR, ly_1_4 hR, ly_1_7 hR, ly_1_11 hR, ly_1_12 hR, ly_1_13 hR, ly_8_1 hR, ly_8_2 hR, ly_8_3 hR, ly_8_5 hR, ly_8_6 hR, ly_8_7 hR, ao_54, ao_55, h54, h55, q_has hC.1, b2, k1, k3, Nat.reduceEqDiff, hq, lit, gp1, rl1, rs1, bd1, lt1, n_add, n_sub, n_dec, n_le, n_lt, n_eq, n_in, nI_clamp, n_mul, m_or, m_and, m_pow, m_bit, m_dif, n_neg, yn_0, yn_1, yn_z, yn_d, one31, Nat.add_sub_cancel, Nat.not_lt_zero, if_true, if_false, ite_true, ite_false, Bool.true_eq_false, Bool.false_eq_true, Nat.add_zero, Nat.zero_add]
    rw [f_X0_init, f_X1_init]
    rw [show setA I q (fun _ => nI 0) = setA I q (fun _ => 0) from rfl, hi, e]; rfl
  · rw [e] at k1
    have hi := x_init (R := R) (I := I) (N := nI n) (A := nI (d_cl D n)) (c := 6) hq rfl
    rw [f_X11_thingOn]
    simp (disch := omega) only [x_btw, b1, so_0, so_1, ao_2, ao_3, ao_4, ao_5, ao_6, ao_7, so_8, ao_9, ao_10, ao_11, ao_12, ao_13, ao_14, ao_15, ao_16, ly_0_0 hR, ly_0_1 hR, ly_0_3 hR, ly_0_4 hR, ly_0_5 hR, ly_0_7 hR, ly_0_8 hR, ly_0_9 hR, ly_0_10 hR, ly_1_0 hR, ly_1_1 hR, ly_1_2 hR, ly_1_3 hR, ly_1_4 hR, ly_1_7 hR, ly_1_11 hR, ly_1_12 hR, ly_1_13 hR, ly_8_1 hR, ly_8_2 hR, ly_8_3 hR, ly_8_5 hR, ly_8_6 hR, ly_8_7 hR, ao_54, ao_55, h54, h55, q_has hC.1, b2, k1, k3, Nat.reduceEqDiff, hq, lit, gp1, rl1, rs1, bd1, lt1, n_add, n_sub, n_dec, n_le, n_lt, n_eq, n_in, nI_clamp, n_mul, m_or, m_and, m_pow, m_bit, m_dif, n_neg, yn_0, yn_1, yn_z, yn_d, one31, Nat.add_sub_cancel, Nat.not_lt_zero, if_true, if_false, ite_true, ite_false, Bool.true_eq_false, Bool.false_eq_true, Nat.add_zero, Nat.zero_add]
    rw [f_X6_init]
    rw [show setA I q (fun _ => nI 0) = setA I q (fun _ => 0) from rfl, hi, e]; rfl
  · rw [e] at k1
    have hi := x_init (R := R) (I := I) (N := nI n) (A := nI (d_cl D n)) (c := 4) hq rfl
    rw [f_X11_thingOn]
    simp (disch := omega) only [x_btw, b1, so_0, so_1, ao_2, ao_3, ao_4, ao_5, ao_6, ao_7, so_8, ao_9, ao_10, ao_11, ao_12, ao_13, ao_14, ao_15, ao_16, ly_0_0 hR, ly_0_1 hR, ly_0_3 hR, ly_0_4 hR, ly_0_5 hR, ly_0_7 hR, ly_0_8 hR, ly_0_9 hR, ly_0_10 hR, ly_1_0 hR, ly_1_1 hR, ly_1_2 hR, ly_1_3 hR, ly_1_4 hR, ly_1_7 hR, ly_1_11 hR, ly_1_12 hR, ly_1_13 hR, ly_8_1 hR, ly_8_2 hR, ly_8_3 hR, ly_8_5 hR, ly_8_6 hR, ly_8_7 hR, ao_54, ao_55, h54, h55, q_has hC.1, b2, k1, k3, Nat.reduceEqDiff, hq, lit, gp1, rl1, rs1, bd1, lt1, n_add, n_sub, n_dec, n_le, n_lt, n_eq, n_in, nI_clamp, n_mul, m_or, m_and, m_pow, m_bit, m_dif, n_neg, yn_0, yn_1, yn_z, yn_d, one31, Nat.add_sub_cancel, Nat.not_lt_zero, if_true, if_false, ite_true, ite_false, Bool.true_eq_false, Bool.false_eq_true, Nat.add_zero, Nat.zero_add]
    rw [f_X4_init, f_X6_init]
    rw [show setA I q (fun _ => nI 0) = setA I q (fun _ => 0) from rfl, hi, e]; rfl
/-- what act has to do -/
def ZA (n0 : Nat) (S : Sh) (R : Rw) (I : Iw) (x1 x2 x3 : Int32) : Prop := ∃ J' R' I1 r I2, f_X11_act S R I 0 x1 x2 x3 = some ((S0 ++ J', R', I1), r) ∧ f_X12_act (S0 ++ J') R' I1 65 x1 x2 x3 = some (I2, r) ∧ Rel (n0 + 1) (S0 ++ J') R' I2
theorem s0_len : S0.length = 87 := by decide
theorem Lay_up {R : Rw} (hR : Lay R) (v : Rf) : Lay (up2 R 0 11 v) := fun k hk j hj h => by rw [u_eq, if_neg h]; exact hR k hk j hj h
theorem Lay_nw {R : Rw} (hR : Lay R) {q : Nat} (hq : 87 ≤ q) : Lay (nwR R q) := fun k hk j hj h => by rw [nwR_o (by omega) (by omega)]; exact hR k hk j hj h
theorem z_none {n0 : Nat} (hR : Lay R) (h : Core I D (16 * n0)) (hK : Rest (S0 ++ J) R I) (x1 x2 x3 : Int32)
    (e1 : f_X11_act (S0 ++ J) R I 0 x1 x2 x3 = f_X11_act_19 (S0 ++ J) R I 0 x2 x3 none 0)
    (e2 : ∀ R', Lay R' → f_X12_act (S0 ++ J) R' I 65 x1 x2 x3 = some (up2 I 65 31 (nI 0), nI 0)) : ZA n0 (S0 ++ J) R I x1 x2 x3 := by
  have ⟨hC, hM, hV, hT⟩ := h
  have fr : ∀ a j, ¬ (a = 65 ∧ j = 31) → up2 I 65 31 (nI 0) a j = I a j := fun a j q => by rw [u_eq, if_neg q]
  refine ⟨J, up2 R 0 11 none, I, nI 0, up2 I 65 31 (nI 0), ?_, e2 _ (Lay_up hR none), J, D, rfl, Lay_up hR none, Core_to ⟨CR_fr (fun a j q1 q2 => fr a j (by omega)) hC, MR_fr (fun j => fr 66 j (by omega)) hM, hV, ST_up (by omega) (ST_fr (fun a j q => fr a j (by omega)) hT)⟩, KP_s (fun a j q => fr a j (by omega)) hK.1, TP_s (fun a j q => fr a j (by omega)) hK.2.1, RW_s (fun a j q => fr a j (by omega)) hK.2.2.1, SH_s (fun a j q => fr a j (by omega)) hK.2.2.2.1, SV_s (fun a j q => fr a j (by omega)) hK.2.2.2.2.1, Or.inl ⟨?_, ?_⟩⟩
  · rw [e1, f_X11_act_19, so_0, gp1, lt1, gp1, u_eq, if_pos ⟨rfl, rfl⟩, onln]; rfl
  · rw [u_eq, if_pos ⟨rfl, rfl⟩]
  · rw [u_eq, if_pos ⟨rfl, rfl⟩]
theorem qt_bad {x1 : Int32} (b1 : btw x1 (nI 0) (nI 3) = false) : f_X11_thingOn (S0 ++ J) R I 0 x1 = some ((S0 ++ J, R, I), none) := by
  have b1 : btw x1 0 3 = false := b1
  rw [f_X11_thingOn, x_btw, bd1, b1, if_pos (by rfl)]
theorem qt_no (hR : Lay R) {s : Nat} (hs : s < 4) (h : ¬ I 54 s = nI 0) : f_X11_thingOn (S0 ++ J) R I 0 (nI s) = some ((S0 ++ J, R, I), none) := by
  have b1 : btw (nI s) 0 3 = true := by
    show btw (nI s) (nI 0) (nI 3) = true
    rw [btw_n (by decide) (by decide) (by omega), decide_eq_true (by omega)]
  rw [f_X11_thingOn, x_btw, bd1, b1, if_neg (by decide), so_0, gp1, ly_0_8 hR, rl1, ao_54, n_in hs (by decide), gp1, nI_clamp (by omega), if_neg (show ¬ I 54 s = 0 from h)]
theorem qt_gone (hR : Lay R) (hC : CR I 1 D) {s n : Nat} (hs : s < 4) (h : I 54 s = nI 0) (h3 : I 55 s = nI n) (hb : ltb (d_n D) (nI n) = false) : f_X11_thingOn (S0 ++ J) R I 0 (nI s) = some ((S0 ++ J, R, I), none) := by
  have b1 : btw (nI s) 0 3 = true := by
    show btw (nI s) (nI 0) (nI 3) = true
    rw [btw_n (by decide) (by decide) (by omega), decide_eq_true (by omega)]
  rw [f_X11_thingOn, x_btw, bd1, b1, if_neg (by decide), so_0, gp1, ly_0_8 hR, rl1, ao_54, n_in hs (by decide), gp1, nI_clamp (by omega), if_pos (show I 54 s = 0 from h), ly_0_0 hR, rl1, ly_0_9 hR, rl1, ao_55, n_in hs (by decide), gp1, so_1, gp1, h3, q_has hC.1, bd1, hb, if_pos (by rfl)]
theorem qa_none {x1 x2 x3 : Int32} (b2 : btw x2 (nI 0) (nI 3) = true) (h : f_X11_thingOn (S0 ++ J) R I 0 x1 = some ((S0 ++ J, R, I), none)) : f_X11_act (S0 ++ J) R I 0 x1 x2 x3 = f_X11_act_19 (S0 ++ J) R I 0 x2 x3 none 0 := by
  have b2 : btw x2 0 3 = true := b2
  rw [f_X11_act, x_btw, bd1, b2, if_neg (by decide), so_0, gp1, h, bd1]
theorem z_act {n0 : Nat} (hR : Lay R) (h : Core I D (16 * n0)) (hK : Rest (S0 ++ J) R I) (x1 x2 x3 : Int32) : ZA n0 (S0 ++ J) R I x1 x2 x3 := by
  have ⟨hC, hM, hV, hT⟩ := h
  have h9 := hV.1
  cases b2 : btw x2 (nI 0) (nI 3) with
  | false =>
    refine z_none hR h hK x1 x2 x3 (by simp (disch := omega) only [f_X11_act, x_btw, b2, lit, gp1, rl1, rs1, bd1, lt1, n_add, n_sub, n_dec, n_le, n_lt, n_eq, n_in, nI_clamp, n_mul, m_or, m_and, m_pow, m_bit, m_dif, n_neg, yn_0, yn_1, yn_z, yn_d, one31, Nat.add_sub_cancel, Nat.not_lt_zero, if_true, if_false, ite_true, ite_false, Bool.true_eq_false, Bool.false_eq_true, Nat.add_zero, Nat.zero_add]) (fun R' hR => ?_)
    cases b1 : btw x1 (nI 0) (nI 3) with
    | false => simp (disch := omega) only [f_X12_act, so_65, ly_65_0 hR, ly_65_1 hR, ly_65_2 hR, ly_65_4 hR, ly_65_11 hR, ly_65_13 hR, ly_65_14 hR, ly_65_15 hR, ly_65_16 hR, ly_65_17 hR, ly_65_18 hR, ly_65_19 hR, ly_65_20 hR, ly_65_22 hR, ly_65_24 hR, ly_65_25 hR, ly_65_26 hR, ly_65_27 hR, ly_65_28 hR, ly_65_29 hR, ly_65_30 hR, m_btw, b1, lit, gp1, rl1, rs1, bd1, lt1, n_add, n_sub, n_dec, n_le, n_lt, n_eq, n_in, nI_clamp, n_mul, m_or, m_and, m_pow, m_bit, m_dif, n_neg, yn_0, yn_1, yn_z, yn_d, one31, Nat.add_sub_cancel, Nat.not_lt_zero, if_true, if_false, ite_true, ite_false, Bool.true_eq_false, Bool.false_eq_true, Nat.add_zero, Nat.zero_add]
    | true => simp (disch := omega) only [f_X12_act, so_65, ly_65_0 hR, ly_65_1 hR, ly_65_2 hR, ly_65_4 hR, ly_65_11 hR, ly_65_13 hR, ly_65_14 hR, ly_65_15 hR, ly_65_16 hR, ly_65_17 hR, ly_65_18 hR, ly_65_19 hR, ly_65_20 hR, ly_65_22 hR, ly_65_24 hR, ly_65_25 hR, ly_65_26 hR, ly_65_27 hR, ly_65_28 hR, ly_65_29 hR, ly_65_30 hR, m_btw, b1, b2, lit, gp1, rl1, rs1, bd1, lt1, n_add, n_sub, n_dec, n_le, n_lt, n_eq, n_in, nI_clamp, n_mul, m_or, m_and, m_pow, m_bit, m_dif, n_neg, yn_0, yn_1, yn_z, yn_d, one31, Nat.add_sub_cancel, Nat.not_lt_zero, if_true, if_false, ite_true, ite_false, Bool.true_eq_false, Bool.false_eq_true, Nat.add_zero, Nat.zero_add]
  | true =>
    cases b1 : btw x1 (nI 0) (nI 3) with
    | false =>
      exact z_none hR h hK x1 x2 x3 (qa_none b2 (qt_bad b1)) (fun R' hR => by simp (disch := omega) only [f_X12_act, so_65, ly_65_0 hR, ly_65_1 hR, ly_65_2 hR, ly_65_4 hR, ly_65_11 hR, ly_65_13 hR, ly_65_14 hR, ly_65_15 hR, ly_65_16 hR, ly_65_17 hR, ly_65_18 hR, ly_65_19 hR, ly_65_20 hR, ly_65_22 hR, ly_65_24 hR, ly_65_25 hR, ly_65_26 hR, ly_65_27 hR, ly_65_28 hR, ly_65_29 hR, ly_65_30 hR, m_btw, b1, lit, gp1, rl1, rs1, bd1, lt1, n_add, n_sub, n_dec, n_le, n_lt, n_eq, n_in, nI_clamp, n_mul, m_or, m_and, m_pow, m_bit, m_dif, n_neg, yn_0, yn_1, yn_z, yn_d, one31, Nat.add_sub_cancel, Nat.not_lt_zero, if_true, if_false, ite_true, ite_false, Bool.true_eq_false, Bool.false_eq_true, Nat.add_zero, Nat.zero_add])
    | true =>
      obtain ⟨s, -, s3, rfl⟩ := btw_e (by decide) (by decide) b1
      have hs : s < 4 := by omega
      have sh := hK.2.2.2.2.1 s hs
      have no83 : ∀ (v : Int32), I 83 s = v → ¬ v = nI 1 → ∀ R', Lay R' → f_X12_act (S0 ++ J) R' I 65 (nI s) x2 x3 = some (up2 I 65 31 (nI 0), nI 0) := by
        intro v hv hv1 R' hR
        have c83 : up2 I 65 31 (nI 0) 83 s = v := by rw [u_eq, if_neg (by omega)]; exact hv
        have ho : f_X12_onShelf (S0 ++ J) R' (up2 I 65 31 (nI 0)) 65 (nI s) = some v := by
          simp (disch := omega) only [f_X12_onShelf, f_X12_onShelf_28, so_65, ly_65_0 hR, ly_65_1 hR, ly_65_2 hR, ly_65_4 hR, ly_65_11 hR, ly_65_13 hR, ly_65_14 hR, ly_65_15 hR, ly_65_16 hR, ly_65_17 hR, ly_65_18 hR, ly_65_19 hR, ly_65_20 hR, ly_65_22 hR, ly_65_24 hR, ly_65_25 hR, ly_65_26 hR, ly_65_27 hR, ly_65_28 hR, ly_65_29 hR, ly_65_30 hR, ao_83, ao_84, ao_85, c83, hv1, lit, gp1, rl1, rs1, bd1, lt1, n_add, n_sub, n_dec, n_le, n_lt, n_eq, n_in, nI_clamp, n_mul, m_or, m_and, m_pow, m_bit, m_dif, n_neg, yn_0, yn_1, yn_z, yn_d, one31, Nat.add_sub_cancel, Nat.not_lt_zero, if_true, if_false, ite_true, ite_false, Bool.true_eq_false, Bool.false_eq_true, Nat.add_zero, Nat.zero_add]
        simp (disch := omega) only [f_X12_act, so_65, ly_65_0 hR, ly_65_1 hR, ly_65_2 hR, ly_65_4 hR, ly_65_11 hR, ly_65_13 hR, ly_65_14 hR, ly_65_15 hR, ly_65_16 hR, ly_65_17 hR, ly_65_18 hR, ly_65_19 hR, ly_65_20 hR, ly_65_22 hR, ly_65_24 hR, ly_65_25 hR, ly_65_26 hR, ly_65_27 hR, ly_65_28 hR, ly_65_29 hR, ly_65_30 hR, m_btw, b1, b2, ho, hv1, lit, gp1, rl1, rs1, bd1, lt1, n_add, n_sub, n_dec, n_le, n_lt, n_eq, n_in, nI_clamp, n_mul, m_or, m_and, m_pow, m_bit, m_dif, n_neg, yn_0, yn_1, yn_z, yn_d, one31, Nat.add_sub_cancel, Nat.not_lt_zero, if_true, if_false, ite_true, ite_false, Bool.true_eq_false, Bool.false_eq_true, Nat.add_zero, Nat.zero_add]
      rcases sh with ⟨h1, h2⟩ | ⟨n, n9, h1, h2, h3, h4⟩ | ⟨k, n, hk, n40, h1, h2, h3, h4, h5, h6⟩
      · exact z_none hR h hK _ x2 x3 (qa_none b2 (qt_no hR hs (by rw [h1]; decide))) (no83 _ h2 (by decide))
      · have hb : ltb (d_n D) (nI n) = decide (n < d_n D) := ltb_n (by omega) (by omega)
        by_cases hn : n < d_n D
        · rw [decide_eq_true hn] at hb
          -- the thing is made
          have hth := q_thing (J := J) hR hC hV hs hn h1 h3
          obtain ⟨q, hq⟩ : ∃ q, (S0 ++ J).length = q := ⟨_, rfl⟩
          have q87 : 87 ≤ q := by rw [← hq, List.length_append, s0_len]; omega
          have vk := hV.2.2.2.2.1 n hn
          rw [hq] at hth
          obtain ⟨J', hJ'⟩ : ∃ J', J' = J ++ [(kC (d_kd D n), 5)] ++ [(20, 30)] := ⟨_, rfl⟩
          have hS : S0 ++ J ++ [(kC (d_kd D n), 5)] ++ [(20, 30)] = S0 ++ J' := by rw [hJ', List.append_assoc, List.append_assoc, List.append_assoc]
          have g1 : (S0 ++ J')[q]? = some (kC (d_kd D n), 5) := by
            rw [← hS, List.getElem?_append_left (by rw [List.length_append, hq]; exact Nat.lt_succ_self q), List.getElem?_append_right (by omega), hq, Nat.sub_self]; rfl
          have g2 : (S0 ++ J')[q + 1]? = some (20, 30) := by
            rw [← hS, List.getElem?_append_right (by rw [List.length_append, hq]; exact Nat.le_refl _), List.length_append, hq]
            show ([(20, 30)] : Sh)[q + 1 - (q + 1)]? = _
            rw [Nat.sub_self]; rfl
          rw [hS] at hth
          have hT5 : ThS (S0 ++ J') (up2 (nwR R q) 0 11 (some (.inl q))) q (d_kd D n) := ⟨g1, g2, by rw [u_eq, if_neg (by omega)]; unfold nwR; rw [u_eq, if_pos ⟨rfl, rfl⟩], vk.1, vk.2.1⟩
          have hTC : TC (nwI I q (nI n) (nI (d_cl D n))) q (nI n) (nI (d_cl D n)) [] false := by
            refine ⟨?_, ?_, ?_, ?_, fun i b hb => by cases hb⟩
            · unfold nwI; rw [u_eq, if_neg (by omega), u_eq, if_pos ⟨rfl, rfl⟩]
            · unfold nwI; rw [u_eq, if_pos ⟨rfl, rfl⟩]
            · unfold nwI; rw [u_eq, if_neg (by omega), u_eq, if_neg (by omega), sA_eq, if_neg (by omega), sA_eq, if_pos rfl]; rfl
            · unfold nwI; rw [u_eq, if_neg (by omega), u_eq, if_neg (by omega), sA_eq, if_neg (by omega), sA_eq, if_pos rfl]; rfl
          have hthg := th_g hT5
          have hR' : Lay (up2 (nwR R q) 0 11 (some (.inl q))) := Lay_up (Lay_nw hR q87) _
          -- behind the bodies of both sides
          have fin : ∀ (t : List Nat) (p : Bool) (v : Int32) (act : Nat), act ≤ 3 → x2 = nI act → t.length ≤ 20 →
              (∃ I1, (if act = 0 then v_weighs (S0 ++ J') (up2 (nwR R q) 0 11 (some (.inl q))) (nwI I q (nI n) (nI (d_cl D n))) q x3 else if act = 1 then v_turns (S0 ++ J') (up2 (nwR R q) 0 11 (some (.inl q))) (nwI I q (nI n) (nI (d_cl D n))) q x3 else if act = 2 then v_splits (S0 ++ J') (up2 (nwR R q) 0 11 (some (.inl q))) (nwI I q (nI n) (nI (d_cl D n))) q x3 else v_tells (S0 ++ J') (up2 (nwR R q) 0 11 (some (.inl q))) (nwI I q (nI n) (nI (d_cl D n))) q x3) = some (I1, v) ∧ TC I1 q (nI n) (nI (d_cl D n)) t p ∧ frq q (nwI I q (nI n) (nI (d_cl D n))) I1) →
              (∀ I3, TM I3 D n [] false → OM (f_X12_body 14 (S0 ++ J') (up2 (nwR R q) 0 11 (some (.inl q))) I3 65 (nI (own (d_kd D n) act)) (nI act) x3) I3 D n t p v) →
              ZA n0 (S0 ++ J) R I (nI s) x2 x3 := by
            rintro t p v act hact rfl ht ⟨I1, c1, c2, c3⟩ hm
            have fr1 : ∀ a j, a ≠ q → a ≠ q + 1 → I1 a j = I a j := fun a j a1 a2 => by rw [c3 a j a1 a2, nwI_o a1 a2]
            have c83 : up2 I1 65 31 (nI 0) 83 s = nI 1 := by rw [u_eq, if_neg (by omega), fr1 _ _ (by omega) (by omega)]; exact h2
            have c84 : up2 I1 65 31 (nI 0) 84 s = nI n := by rw [u_eq, if_neg (by omega), fr1 _ _ (by omega) (by omega)]; exact h4
            have hM1 : MR (up2 I1 65 31 (nI 0)) 66 D := MR_fr (fun j => by rw [u_eq, if_neg (by omega), fr1 _ _ (by omega) (by omega)]) hM
            have ho : f_X12_onShelf (S0 ++ J') (up2 (nwR R q) 0 11 (some (.inl q))) (up2 I1 65 31 (nI 0)) 65 (nI s) = some (nI 1) := by
              have := m_isN (J := J') hR' hM1 hV (nI n)
              have hR := hR'
              simp (disch := omega) only [f_X12_onShelf, f_X12_onShelf_28, so_65, ly_65_0 hR, ly_65_1 hR, ly_65_2 hR, ly_65_4 hR, ly_65_11 hR, ly_65_13 hR, ly_65_14 hR, ly_65_15 hR, ly_65_16 hR, ly_65_17 hR, ly_65_18 hR, ly_65_19 hR, ly_65_20 hR, ly_65_22 hR, ly_65_24 hR, ly_65_25 hR, ly_65_26 hR, ly_65_27 hR, ly_65_28 hR, ly_65_29 hR, ly_65_30 hR, ao_83, ao_84, ao_85, c83, c84, this, hb, lit, gp1, rl1, rs1, bd1, lt1, n_add, n_sub, n_dec, n_le, n_lt, n_eq, n_in, nI_clamp, n_mul, m_or, m_and, m_pow, m_bit, m_dif, n_neg, yn_0, yn_1, yn_z, yn_d, one31, Nat.add_sub_cancel, Nat.not_lt_zero, if_true, if_false, ite_true, ite_false, Bool.true_eq_false, Bool.false_eq_true, Nat.add_zero, Nat.zero_add]
            obtain ⟨I3, hI3⟩ : ∃ I3, I3 = up2 (up2 (up2 I1 65 31 (nI 0)) 65 32 (nI n)) 65 33 (nI 0) := ⟨_, rfl⟩
            have hTM : TM I3 D n [] false := by
              subst hI3
              refine ⟨MR_fr (fun j => by rw [u_eq, if_neg (by omega), u_eq, if_neg (by omega)]) hM1, ?_, ?_, ?_, fun i b hb => by cases hb⟩
              · rw [u_eq, if_neg (by omega), u_eq, if_pos ⟨rfl, rfl⟩]
              · rw [u_eq, if_neg (by omega), u_eq, if_neg (by omega), u_eq, if_pos ⟨rfl, rfl⟩]; rfl
              · rw [u_eq, if_pos ⟨rfl, rfl⟩]; rfl
            obtain ⟨I4, d1, d2, d3⟩ := hm I3 hTM
            have hvo := r_vo (J := J') hR' hV hn (f_X12_body 14) hTM hact x3
            rw [if_neg (by decide), d1, bd1] at hvo
            have fr3 : ∀ a j, a ≠ 86 → ¬ (a = 65 ∧ 31 ≤ j) → I4 a j = I1 a j := fun a j a1 a2 => by
              rw [d3 a j a1 (by omega), hI3, u_eq, if_neg (by omega), u_eq, if_neg (by omega), u_eq, if_neg (by omega)]
            have fr4 : ∀ a j, a ≠ q → a ≠ q + 1 → a ≠ 86 → ¬ (a = 65 ∧ 31 ≤ j) → I4 a j = I a j := fun a j a1 a2 a3 a4 => by rw [fr3 a j a3 a4, fr1 a j a1 a2]
            obtain ⟨y, hy⟩ : ∃ y : Int32, y = if p then -15 else v := ⟨_, rfl⟩
            refine ⟨J', up2 (nwR R q) 0 11 (some (.inl q)), I1, y, I4, ?_, ?_, J', D, rfl, hR', Core_to ⟨CR_fr (fun a j q1 q2 => fr4 a j (by omega) (by omega) (by omega) (by omega)) hC, d2.1, hV, ST_up (by omega) (ST_fr (fun a j q => fr4 a j (by omega) (by omega) (by omega) (by omega)) hT)⟩, KP_s (fun a j q => fr4 a j (by omega) (by omega) (by omega) (by omega)) hK.1, TP_s (fun a j q => fr4 a j (by omega) (by omega) (by omega) (by omega)) hK.2.1, RW_s (fun a j q => fr4 a j (by omega) (by omega) (by omega) (by omega)) hK.2.2.1, SH_s (fun a j q => fr4 a j (by omega) (by omega) (by omega) (by omega)) hK.2.2.2.1, SV_s (fun a j q => fr4 a j (by omega) (by omega) (by omega) (by omega)) hK.2.2.2.2.1, Or.inr ⟨q, t.length, q87, hthg, ?_, hT5.2.2.1, g2, by omega, ?_, d2.2.2.1, fun i hi => ?_⟩⟩
            · have end9 : f_X11_act_109 (S0 ++ J') (up2 (nwR R q) 0 11 (some (.inl q))) I1 0 v = some ((S0 ++ J', up2 (nwR R q) 0 11 (some (.inl q)), I1), y) := by
                rw [hy, f_X11_act_109, so_0, gp1, u_eq, if_pos ⟨rfl, rfl⟩, rl1, hthg, gp1, c2.2.2.2.1]
                cases p <;> rfl
              have up11 : up2 (nwR R q) 0 11 (some (.inl q)) 0 11 = some (.inl q) := by rw [u_eq, if_pos ⟨rfl, rfl⟩]
              have b2' : btw (nI act) 0 3 = true := b2
              rw [f_X11_act, x_btw, bd1, b2', if_neg (by decide), so_0, gp1, hth, bd1]
              show f_X11_act_19 (S0 ++ J') (nwR R q) (nwI I q (nI n) (nI (d_cl D n))) 0 (nI act) x3 (some (.inl q)) 0 = _
              rw [f_X11_act_19, so_0, gp1, lt1, gp1, up11, onls]
              simp only [rl1, hthg, gp1]
              rcases (by omega : act = 0 ∨ act = 1 ∨ act = 2 ∨ act = 3) with e | e | e | e <;> subst e
              · rw [if_pos rfl] at c1
                rw [if_pos (by decide), c1, bd1]; exact end9
              · rw [if_neg (by decide), if_pos rfl] at c1
                rw [if_neg (by decide), if_pos (by decide), c1, bd1]; exact end9
              · rw [if_neg (by decide), if_neg (by decide), if_pos rfl] at c1
                rw [if_neg (by decide), if_neg (by decide), if_pos (by decide), c1, bd1]; exact end9
              · rw [if_neg (by decide), if_neg (by decide), if_neg (by decide)] at c1
                rw [if_neg (by decide), if_neg (by decide), if_neg (by decide), c1, bd1]; exact end9
            · have hR := hR'
              rw [f_X12_act]
              simp (disch := omega) only [so65q, ly_65_28 hR, m_btw, b1, b2, ho, litq, gp1q, rl1q, rs1q, bd1q, lt1q, n_add, n_sub, n_dec, n_le, n_lt, n_eq, n_in, nI_clamp, n_mul, m_or, m_and, m_pow, m_bit, m_dif, n_neg, yn_0, yn_1, yn_z, yn_d, one31, Nat.add_sub_cancel, Nat.not_lt_zero, if_true, if_false, ite_true, ite_false, Bool.true_eq_false, Bool.false_eq_true, Nat.add_zero, Nat.zero_add]
              simp (disch := omega) only [ao_84, c84, lit, gp1, rl1, rs1, bd1, lt1, n_add, n_sub, n_dec, n_le, n_lt, n_eq, n_in, nI_clamp, n_mul, m_or, m_and, m_pow, m_bit, m_dif, n_neg, yn_0, yn_1, yn_z, yn_d, one31, Nat.add_sub_cancel, Nat.not_lt_zero, if_true, if_false, ite_true, ite_false, Bool.true_eq_false, Bool.false_eq_true, Nat.add_zero, Nat.zero_add]
              rw [← hI3, hvo, bd1]
              show (if I4 65 33 = nI 0 then some (I4, v) else some (I4, -nI 15)) = _
              rw [d2.2.2.2.1, hy]
              cases p <;> rfl
            · rw [u_eq, if_pos ⟨rfl, rfl⟩]
            · rw [fr3 q 3 (by omega) (by omega)]; exact c2.2.2.1
            · have hg : t[i]? = some t[i] := List.getElem?_eq_getElem hi
              rw [fr3 (q + 1) i (by omega) (by omega), c2.2.2.2.2 i _ hg, d2.2.2.2.2 i _ hg]
          obtain ⟨act, -, ha3, ea⟩ := btw_e (by decide) (by decide) b2
          have l1 := sWt_len (d_kd D n)
          have l2 := sTt_len (d_kd D n)
          have l3 : (sSt (d_kd D n) (nI n) (nI (d_cl D n))).length ≤ 4 := by
            unfold sSt; split
            · decide
            · split
              · split <;> decide
              · decide
          have l4 : (sLt (d_kd D n)).length ≤ 8 := by
            unfold sLt; split
            · simp; omega
            · simp; omega
          rcases (by omega : act = 0 ∨ act = 1 ∨ act = 2 ∨ act = 3) with e | e | e | e <;> subst e
          · exact fin (sWt (d_kd D n)) false (sWv (d_kd D n) (nI n) (nI (d_cl D n)) x3) 0 (by decide) ea (by omega) (c_vw hT5 hTC (by decide) x3) (fun I3 h3 => r_w (J := J') hR' hV hn 12 vk.2.1 h3 (by decide) x3)
          · exact fin (sTt (d_kd D n)) false (sTv (d_kd D n) (nI n) (nI (d_cl D n)) x3) 1 (by decide) ea (by omega) (c_vt hT5 hTC (by decide) x3) (fun I3 h3 => r_t (J := J') hR' hV hn 10 h3 (by decide) x3)
          · exact fin (sSt (d_kd D n) (nI n) (nI (d_cl D n))) (s9p (nI n) (nI (d_cl D n))) (sSv (d_kd D n) (nI n) (nI (d_cl D n)) x3) 2 (by decide) ea (by omega) (c_vs hT5 hTC (by decide) x3) (fun I3 h3 => r_s (J := J') hR' hV hn 10 h3 (by decide) x3)
          · exact fin (sLt (d_kd D n)) (sLp (d_kd D n) (nI n) (nI (d_cl D n))) (sLv (d_kd D n) (nI n) (nI (d_cl D n)) x3) 3 (by decide) ea (by omega) (c_vl hT5 hTC (by decide) x3) (fun I3 h3 => r_l (J := J') hR' hV hn 8 h3 (by decide) x3)
        · rw [decide_eq_false hn] at hb
          refine z_none hR h hK _ x2 x3 (qa_none b2 (qt_gone hR hC hs h1 h3 hb)) (fun R' hR => ?_)
          · have c83 : up2 I 65 31 (nI 0) 83 s = nI 1 := by rw [u_eq, if_neg (by omega)]; exact h2
            have c84 : up2 I 65 31 (nI 0) 84 s = nI n := by rw [u_eq, if_neg (by omega)]; exact h4
            have := m_isN (J := J) (R := R') hR (MR_fr (I' := up2 I 65 31 (nI 0)) (fun j => by rw [u_eq, if_neg (by omega)]) hM) hV (nI n)
            have ho : f_X12_onShelf (S0 ++ J) R' (up2 I 65 31 (nI 0)) 65 (nI s) = some (nI 0) := by
              simp (disch := omega) only [f_X12_onShelf, f_X12_onShelf_28, so_65, ly_65_0 hR, ly_65_1 hR, ly_65_2 hR, ly_65_4 hR, ly_65_11 hR, ly_65_13 hR, ly_65_14 hR, ly_65_15 hR, ly_65_16 hR, ly_65_17 hR, ly_65_18 hR, ly_65_19 hR, ly_65_20 hR, ly_65_22 hR, ly_65_24 hR, ly_65_25 hR, ly_65_26 hR, ly_65_27 hR, ly_65_28 hR, ly_65_29 hR, ly_65_30 hR, ao_83, ao_84, ao_85, c83, c84, this, hb, lit, gp1, rl1, rs1, bd1, lt1, n_add, n_sub, n_dec, n_le, n_lt, n_eq, n_in, nI_clamp, n_mul, m_or, m_and, m_pow, m_bit, m_dif, n_neg, yn_0, yn_1, yn_z, yn_d, one31, Nat.add_sub_cancel, Nat.not_lt_zero, if_true, if_false, ite_true, ite_false, Bool.true_eq_false, Bool.false_eq_true, Nat.add_zero, Nat.zero_add]
            simp (disch := omega) only [f_X12_act, so_65, ly_65_0 hR, ly_65_1 hR, ly_65_2 hR, ly_65_4 hR, ly_65_11 hR, ly_65_13 hR, ly_65_14 hR, ly_65_15 hR, ly_65_16 hR, ly_65_17 hR, ly_65_18 hR, ly_65_19 hR, ly_65_20 hR, ly_65_22 hR, ly_65_24 hR, ly_65_25 hR, ly_65_26 hR, ly_65_27 hR, ly_65_28 hR, ly_65_29 hR, ly_65_30 hR, m_btw, b1, b2, ho, Nat.reduceEqDiff, lit, gp1, rl1, rs1, bd1, lt1, n_add, n_sub, n_dec, n_le, n_lt, n_eq, n_in, nI_clamp, n_mul, m_or, m_and, m_pow, m_bit, m_dif, n_neg, yn_0, yn_1, yn_z, yn_d, one31, Nat.add_sub_cancel, Nat.not_lt_zero, if_true, if_false, ite_true, ite_false, Bool.true_eq_false, Bool.false_eq_true, Nat.add_zero, Nat.zero_add]
      · exact z_none hR h hK _ x2 x3 (qa_none b2 (qt_no hR hs (by rw [h1]; decide))) (no83 _ h2 (by decide))
end ACT
