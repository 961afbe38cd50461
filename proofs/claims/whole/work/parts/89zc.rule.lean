/-! A RULE, READ FROM THE TAPE; the class reads it -/
abbrev Rl5 := Nat × Nat × Nat × List Sp3 × List Sp3
abbrev RRs := Nat ⊕ (Nat × Rl5)
def pSc (b : Nat → Nat) (n : Nat) (x : Rl5) (e : Nat) : RRs := if tk b n e = 20059 then .inr (nx b n e, x) else .inl e
def pHo (b : Nat → Nat) (n k : Nat) (c w : List Sp3) (e : Nat) : RRs :=
  if tk b n e = 10012 then pSc b n (k, 2, 0, c, w) (nx b n e)
  else if tk b n e = 10010 ∨ tk b n e = 10011 then
    (if tk b n (nx b n e) ≤ 999 then pSc b n (k, tk b n e - 10010, tk b n (nx b n e), c, w) (nx b n (nx b n e)) else .inl (nx b n e))
  else .inl e
def pRl (b : Nat → Nat) (n nr e : Nat) : RRs :=
  if 8 ≤ nr ∨ tk b n e < 10000 ∨ 10005 < tk b n e then .inl e
  else if tk b n (nx b n e) = 10006 then (match pCond b n (pOne b n 3) (nx b n (nx b n e)) with
    | .inl f => .inl f
    | .inr p => pHo b n (tk b n e - 10000) p.2.1 p.2.2 p.1)
  else pHo b n (tk b n e - 10000) [] [] (nx b n e)
def GdR (x : Rl5) : Prop := x.1 ≤ 5 ∧ x.2.1 ≤ 2 ∧ x.2.2.1 ≤ 999 ∧ wfs x.2.2.2.1 ∧ wfs x.2.2.2.2 ∧ ∀ (E : Dt) (g : Nat), cond E g x.2.2.2.2 = cond E g x.2.2.2.1
section RUL
variable {J : Sh} {R : Rw} {I : Iw} {b : Nat → Nat} {n : Nat}
theorem pSc_ok {x : Rl5} {e : Nat} (he : e ≤ n) : (∀ f, pSc b n x e = .inl f → f ≤ n) ∧ ∀ p, pSc b n x e = .inr p → e < p.1 ∧ p.1 ≤ n ∧ p.2 = x := by
  have hx := nx_le (b := b) he
  have hs := skp_le (b := b) he
  unfold pSc
  split
  · rename_i h
    have := hx.2.2 (by omega)
    exact ⟨fun f hf => (by cases hf), fun p hp => by cases hp; exact ⟨by show e < nx b n e; omega, hx.2.1, rfl⟩⟩
  · exact ⟨fun f hf => by cases hf; exact he, fun p hp => by cases hp⟩
theorem pHo_ok {k : Nat} {c w : List Sp3} {e : Nat} (he : e ≤ n) : (∀ f, pHo b n k c w e = .inl f → f ≤ n) ∧ ∀ p, pHo b n k c w e = .inr p → e < p.1 ∧ p.1 ≤ n ∧ p.2.1 = k ∧ p.2.2.1 ≤ 2 ∧ p.2.2.2.1 ≤ 999 ∧ p.2.2.2.2.1 = c ∧ p.2.2.2.2.2 = w := by
  have hx := nx_le (b := b) he
  have hs := skp_le (b := b) he
  have hx2 := nx_le (b := b) hx.2.1
  unfold pHo
  split
  · have := pSc_ok (b := b) (x := (k, 2, 0, c, w)) hx.2.1
    exact ⟨this.1, fun p hp => by obtain ⟨a1, a2, a3⟩ := this.2 p hp; rw [a3]; exact ⟨by omega, a2, rfl, Nat.le_refl 2, Nat.zero_le _, rfl, rfl⟩⟩
  · split
    · split
      · have := pSc_ok (b := b) (x := (k, tk b n e - 10010, tk b n (nx b n e), c, w)) hx2.2.1
        exact ⟨this.1, fun p hp => by obtain ⟨a1, a2, a3⟩ := this.2 p hp; rw [a3]; exact ⟨by omega, a2, rfl, by show tk b n e - 10010 ≤ 2; omega, by assumption, rfl, rfl⟩⟩
      · exact ⟨fun f hf => by cases hf; exact hx.2.1, fun p hp => by cases hp⟩
    · exact ⟨fun f hf => by cases hf; exact he, fun p hp => by cases hp⟩
theorem Gd_wfs {h dl : Nat} {c d : List Sp3} (hh : h ≤ 20) (H : Gd h dl c d) : wfs c ∧ wfs d ∧ ∀ (E : Dt) (g : Nat), cond E g d = cond E g c := by
  refine ⟨Or.inr (H.2.2.1 0 (by omega)).1, Or.inr (H.2.2.1 0 (by omega)).2, fun E g => ?_⟩
  obtain ⟨v, hv⟩ := H.2.2.2 E g
  unfold cond
  rw [(hv []).1, (hv []).2]
theorem pRl_ok {nr e : Nat} (he : e ≤ n) : (∀ f, pRl b n nr e = .inl f → f ≤ n) ∧ ∀ p, pRl b n nr e = .inr p → e < p.1 ∧ p.1 ≤ n ∧ GdR p.2 ∧ 5 * p.2.2.2.2.1.length ≤ 2 * (p.1 - e) ∧ (tks p.2.2.2.2.2).length ≤ p.1 - e := by
  have hx := nx_le (b := b) he
  have hs := skp_le (b := b) he
  have hx2 := nx_le (b := b) hx.2.1
  unfold pRl
  split
  · exact ⟨fun f hf => by cases hf; exact he, fun p hp => by cases hp⟩
  · split
    · have C := pCond_ok (b := b) (n := n) 3 (nx b n (nx b n e)) hx2.2.1
      split
      · rename_i f hf
        exact ⟨fun f' hf' => by cases hf'; exact (C.1 f hf).2, fun p hp => by cases hp⟩
      · rename_i p hp
        have C2 := C.2 p hp
        have C3 := Gd_wfs (by omega) C2.2.2
        have H := pHo_ok (b := b) (k := tk b n e - 10000) (c := p.2.1) (w := p.2.2) C2.2.1
        refine ⟨H.1, fun q hq => ?_⟩
        obtain ⟨a1, a2, a3, a4, a5, a6, a7⟩ := H.2 q hq
        refine ⟨by omega, a2, ⟨by omega, a4, a5, by rw [a6]; exact C3.1, by rw [a7]; exact C3.2.1, fun E g => by rw [a6, a7]; exact C3.2.2 E g⟩, ?_, ?_⟩
        · rw [a6]; have := C2.2.2.1; omega
        · rw [a7]; have := C2.2.2.2.1; omega
    · have H := pHo_ok (b := b) (k := tk b n e - 10000) (c := []) (w := []) hx.2.1
      refine ⟨H.1, fun q hq => ?_⟩
      obtain ⟨a1, a2, a3, a4, a5, a6, a7⟩ := H.2 q hq
      refine ⟨by omega, a2, ⟨by omega, a4, a5, by rw [a6]; exact Or.inl rfl, by rw [a7]; exact Or.inl rfl, fun E g => by rw [a6, a7]⟩, ?_, ?_⟩
      · rw [a6]; exact Nat.zero_le _
      · rw [a7]; exact Nat.zero_le _
def chN (rt rb : Nat) : Int32 := if rt = 2 then -999 else if rt = 0 then nI rb else -nI rb
def frQ (I I' : Iw) : Prop := ∀ a j, ¬ (a = 33 ∧ j = 5) → (a < 37 ∨ 43 < a) → I' a j = I a j
theorem frQ_C {I I' : Iw} (h : frC I I') : frQ I I' := fun a j q1 q2 => h a j q1 (by omega) (by omega) (by omega) (by omega)
theorem frQ_t {I I' I'' : Iw} (h : frQ I I') (h2 : frQ I' I'') : frQ I I'' := fun a j q1 q2 => (h2 a j q1 q2).trans (h a j q1 q2)
def sm38 (I I' : Iw) (nr : Nat) : Prop := ∀ j, j < nr → I' 38 j = I 38 j ∧ I' 39 j = I 39 j ∧ I' 40 j = I 40 j
def Qre (b : Nat → Nat) (n nr s : Nat) (I : Iw) (o : Option (Iw × Int32)) (res : RRs) : Prop := ∃ I' r, o = some (I', r) ∧ frQ I I' ∧ match res with
  | .inl f => r = 0 ∧ ∃ k s', CSt I' b n k f s'
  | .inr p => r = 1 ∧ (∃ k, CSt I' b n k p.1 (s + p.2.2.2.2.1.length)) ∧ I' 37 0 = nI (nr + 1) ∧ I' 38 nr = nI p.2.1 ∧ I' 39 nr = chN p.2.2.1 p.2.2.2.1 ∧ I' 40 nr = nI (s + p.2.2.2.2.1.length) ∧ Sps I' s p.2.2.2.2.1 ∧ Sld I I' s ∧ sm38 I I' nr
theorem Qre_f {s nr : Nat} {I I0 : Iw} {o : Option (Iw × Int32)} {res : RRs} (f : frC I0 I) (g : Sld I0 I s) (h : Qre b n nr s I o res) : Qre b n nr s I0 o res := by
  obtain ⟨I', r, h1, h2, h3⟩ := h
  refine ⟨I', r, h1, frQ_t (frQ_C f) h2, ?_⟩
  cases res with
  | inl q => exact h3
  | inr p =>
    obtain ⟨a1, a2, a3, a4, a5, a6, a7, a8, a9⟩ := h3
    refine ⟨a1, a2, a3, a4, a5, a6, a7, Sld_t g a8 (Nat.le_refl s), fun j hj => ?_⟩
    have := a9 j hj
    rw [this.1, this.2.1, this.2.2]
    exact ⟨f 38 j (by omega) (by omega) (by omega) (by omega) (by omega), f 39 j (by omega) (by omega) (by omega) (by omega) (by omega), f 40 j (by omega) (by omega) (by omega) (by omega) (by omega)⟩
def adR (I : Iw) (r : Nat) (x y z : Int32) : Iw := up2 (up2 (up2 (up2 I 38 r x) 39 r y) 40 r z) 37 0 (nI (r + 1))
theorem q_addR (hR : Lay R) {r : Nat} {x y z : Int32} (hr : r < 8) (h : I 37 0 = nI r) (h4 : I 37 4 = z) : f_X5_addRule (S0 ++ J) R I 37 x y = some (adR I r x y z) := by
  rw [f_X5_addRule, so_37, gp1, h, if_neg (by show ¬ nI 8 ≤ nI r; rw [n_le (by omega) (by omega)]; omega)]
  simp (disch := omega) only [so_37, ao_38, ao_39, ao_40, ao_41, ao_42, ao_43, ly_37_1 hR, ly_37_2 hR, ly_37_3 hR, ly_37_5 hR, ly_37_6 hR, ly_37_7 hR, h, h4, u_eq, Nat.reduceEqDiff, false_and, and_false, true_and, and_true, and_self, not_false_eq_true, adR, lit, gp1, rl1, rs1, bd1, lt1, n_add, n_sub, n_dec, n_le, n_lt, n_eq, n_in, nI_clamp, n_mul, m_or, m_and, m_pow, m_bit, m_dif, n_neg, yn_0, yn_1, yn_z, yn_d, one31, Nat.add_sub_cancel, Nat.not_lt_zero, if_true, if_false, ite_true, ite_false, Bool.true_eq_false, Bool.false_eq_true, Nat.add_zero, Nat.zero_add]
theorem q_sc (hR : Lay R) {k e s nr kd rt rb : Nat} {c w : List Sp3} (hC : CSt I b n k e (s + c.length)) (h0 : I 37 0 = nI nr) (hnr : nr < 8) (hS : Sps I s c) : Qre b n nr s I (f_X3_readRule_163 (S0 ++ J) R I 33 (nI kd) (chN rt rb)) (pSc b n (kd, rt, rb, c, w) e) := by
  have ht := tk_le (b := b) (n := n) e
  rw [f_X3_readRule_163, so_33, gp1, q_peek hR hC.1, bd1, pSc]
  by_cases q : tk b n e = 20059
  · have C1 := adv_C hC (by omega)
    have h01 : adv I k 37 0 = nI nr := by rw [adv, u_eq, if_neg (by omega)]; exact h0
    rw [if_pos (by rw [q]; rfl), if_pos q, q_adv hC, lt1, ly_33_6 hR, rl1, so_37, gp1, q_addR hR hnr h01 C1.2.1, bd1]
    have g : ∀ a j, ¬ (a = 33 ∧ j = 5) → ¬ (a = 37 ∧ j = 0) → a ≠ 38 → a ≠ 39 → a ≠ 40 → adR (adv I k) nr (nI kd) (chN rt rb) (nI (s + c.length)) a j = I a j := fun a j q1 q2 q3 q4 q5 => by
      rw [adR, u_eq, if_neg q2, u_eq, if_neg (by omega), u_eq, if_neg (by omega), u_eq, if_neg (by omega), adv, u_eq, if_neg q1]
    refine ⟨_, 1, rfl, fun a j q1 q2 => g a j q1 (by omega) (by omega) (by omega) (by omega), rfl, ⟨k + 1, At_fr (fun a j q => by rw [adR, u_eq, if_neg (by omega), u_eq, if_neg (by omega), u_eq, if_neg (by omega), u_eq, if_neg (by omega)]) C1.1, (g 37 4 (by omega) (by omega) (by omega) (by omega) (by omega)).trans hC.2.1, hC.2.2⟩, ?_, ?_, ?_, ?_, Sps_fr c s (fun j hj => ⟨g 41 j (by omega) (by omega) (by omega) (by omega) (by omega), g 42 j (by omega) (by omega) (by omega) (by omega) (by omega), g 43 j (by omega) (by omega) (by omega) (by omega) (by omega)⟩) hS, fun j hj => ⟨g 41 j (by omega) (by omega) (by omega) (by omega) (by omega), g 42 j (by omega) (by omega) (by omega) (by omega) (by omega), g 43 j (by omega) (by omega) (by omega) (by omega) (by omega)⟩, fun j hj => ⟨?_, ?_, ?_⟩⟩
    · rw [adR, u_eq, if_pos ⟨rfl, rfl⟩]
    · rw [adR, u_eq, if_neg (by omega), u_eq, if_neg (by omega), u_eq, if_neg (by omega), u_eq, if_pos ⟨rfl, rfl⟩]
    · rw [adR, u_eq, if_neg (by omega), u_eq, if_neg (by omega), u_eq, if_pos ⟨rfl, rfl⟩]
    · rw [adR, u_eq, if_neg (by omega), u_eq, if_pos ⟨rfl, rfl⟩]
    · rw [adR, u_eq, if_neg (by omega), u_eq, if_neg (by omega), u_eq, if_neg (by omega), u_eq, if_neg (by omega), adv, u_eq, if_neg (by omega)]
    · rw [adR, u_eq, if_neg (by omega), u_eq, if_neg (by omega), u_eq, if_neg (by omega), u_eq, if_neg (by omega), adv, u_eq, if_neg (by omega)]
    · rw [adR, u_eq, if_neg (by omega), u_eq, if_neg (by omega), u_eq, if_neg (by omega), u_eq, if_neg (by omega), adv, u_eq, if_neg (by omega)]
  · rw [if_neg (by show ¬ nI (tk b n e) = nI 20059; rw [n_eq (by omega) (by omega)]; exact q), if_neg q]
    exact ⟨I, 0, rfl, fun _ _ _ _ => rfl, rfl, k, _, hC⟩
theorem adv_0 (k nr : Nat) (h : I 37 0 = nI nr) : adv I k 37 0 = nI nr := by rw [adv, u_eq, if_neg (by omega)]; exact h
theorem adv_Sp {c : List Sp3} {s : Nat} (k : Nat) (h : Sps I s c) : Sps (adv I k) s c := Sps_fr c s (fun j _ => adv_S k (j + 1) j (by omega)) h
theorem q_ho (hR : Lay R) {k e s nr kd : Nat} {c w : List Sp3} (hC : CSt I b n k e (s + c.length)) (h0 : I 37 0 = nI nr) (hnr : nr < 8) (hS : Sps I s c) : Qre b n nr s I (f_X3_readRule_72 (S0 ++ J) R I 33 (nI kd)) (pHo b n kd c w e) := by
  have ht := tk_le (b := b) (n := n) e
  have ht2 := tk_le (b := b) (n := n) (nx b n e)
  have h100 : tk b n e = 10010 ∨ tk b n e = 10011 ∨ tk b n e = 10012 → Qre b n nr s I (f_X3_readRule_100 (S0 ++ J) R I 33 (nI kd) (nI (tk b n e))) (pHo b n kd c w e) := by
    intro hh
    have C1 := adv_C hC (by omega)
    rw [f_X3_readRule_100, so_33, gp1, q_adv hC, lt1, pHo]
    by_cases q : tk b n e = 10012
    · rw [if_pos (by rw [q]; rfl), if_pos q]
      exact Qre_f (adv_f k) (adv_S k s) (q_sc (rt := 2) (rb := 0) hR C1 (adv_0 k nr h0) hnr (adv_Sp k hS))
    · rw [if_neg (by show ¬ nI (tk b n e) = nI 10012; rw [n_eq (by omega) (by omega)]; exact q), if_neg q, if_pos (by omega), q_peek hR C1.1, bd1]
      by_cases l : tk b n (nx b n e) ≤ 999
      · have C2 := adv_C C1 (by omega)
        rw [if_pos (by show nI (tk b n (nx b n e)) ≤ nI 999; rw [n_le (by omega) (by omega)]; exact l), if_pos l, q_adv C1, lt1]
        refine Qre_f (adv_f k) (adv_S k s) (Qre_f (adv_f (k + 1)) (adv_S (k + 1) s) ?_)
        have go := fun rt => q_sc (J := J) (kd := kd) (w := w) (rt := rt) (rb := tk b n (nx b n e)) hR C2 (adv_0 (k + 1) nr (adv_0 k nr h0)) hnr (adv_Sp (k + 1) (adv_Sp k hS))
        by_cases q0 : tk b n e = 10010
        · rw [if_pos (by rw [q0]; rfl), f_X3_readRule_162, q0]
          exact go 0
        · have q1 : tk b n e = 10011 := by omega
          rw [if_neg (by show ¬ nI (tk b n e) = nI 10010; rw [n_eq (by omega) (by omega)]; exact q0), f_X3_readRule_162, q1]
          exact go 1
      · rw [if_neg (by show ¬ nI (tk b n (nx b n e)) ≤ nI 999; rw [n_le (by omega) (by omega)]; exact l), if_neg l]
        exact ⟨_, 0, rfl, frQ_C (adv_f k), rfl, k + 1, _, C1⟩
  rw [f_X3_readRule_72, so_33, gp1, q_peek hR hC.1, bd1]
  by_cases q0 : tk b n e = 10010
  · rw [if_pos (by rw [q0]; rfl)]; exact h100 (by omega)
  · rw [if_neg (by show ¬ nI (tk b n e) = nI 10010; rw [n_eq (by omega) (by omega)]; exact q0)]
    by_cases q1 : tk b n e = 10011
    · rw [if_pos (by rw [q1]; rfl)]; exact h100 (by omega)
    · rw [if_neg (by show ¬ nI (tk b n e) = nI 10011; rw [n_eq (by omega) (by omega)]; exact q1)]
      by_cases q2 : tk b n e = 10012
      · rw [if_pos (by rw [q2]; rfl)]; exact h100 (by omega)
      · rw [if_neg (by show ¬ nI (tk b n e) = nI 10012; rw [n_eq (by omega) (by omega)]; exact q2), pHo, if_neg q2, if_neg (by omega)]
        exact ⟨I, 0, rfl, fun _ _ _ _ => rfl, rfl, k, _, hC⟩
theorem btw_kd {t : Nat} (ht : t ≤ 30001) : btw (nI t - nI 10000) (nI 0) (nI 5) = decide (10000 ≤ t ∧ t ≤ 10005) := by
  by_cases h : 10000 ≤ t
  · rw [n_sub h, btw_n (by omega) (by omega) (by omega)]
    exact decide_eq_decide.mpr (by omega)
  · rw [decide_eq_false (by omega)]
    unfold btw
    exact decide_eq_false fun z => z.1 (pk_sneg (by omega) (by omega))
theorem q_rule (hR : Lay R) {k e s nr : Nat} (hC : CSt I b n k e s) (h0 : I 37 0 = nI nr) (hnr : nr ≤ 8) (h5 : 5 * s ≤ 2 * e) : Qre b n nr s I (f_X3_readRule (S0 ++ J) R I 33) (pRl b n nr e) := by
  have he := hC.1.2.1
  have ht := tk_le (b := b) (n := n) e
  have ht2 := tk_le (b := b) (n := n) (nx b n e)
  rw [f_X3_readRule, so_33, gp1, q_peek hR hC.1, bd1, ly_33_6 hR, rl1, so_37, gp1, h0, pRl]
  by_cases q8 : 8 ≤ nr
  · rw [if_pos (by show nI 8 ≤ nI nr; rw [n_le (by omega) (by omega)]; exact q8), if_pos (Or.inl q8)]
    exact ⟨I, 0, rfl, fun _ _ _ _ => rfl, rfl, k, s, hC⟩
  · rw [if_neg (by show ¬ nI 8 ≤ nI nr; rw [n_le (by omega) (by omega)]; exact q8), show (10000 : Int32) = nI 10000 from rfl, show (0 : Int32) = nI 0 from rfl, show (5 : Int32) = nI 5 from rfl, x_btw, btw_kd ht, bd1]
    by_cases qk : 10000 ≤ tk b n e ∧ tk b n e ≤ 10005
    · have hx := nx_le (b := b) he
      have hx2 := nx_le (b := b) hx.2.1
      have C1 := adv_C hC (by omega)
      rw [decide_eq_true qk, if_neg (by decide), if_neg (by omega), n_sub qk.1, q_adv hC, lt1, q_peek hR C1.1, bd1]
      by_cases qi : tk b n (nx b n e) = 10006
      · have C2 := adv_C C1 (by omega)
        rw [if_pos (by rw [qi]; rfl), if_pos qi, q_adv C1, lt1]
        obtain ⟨I2, r2, e2, f2, m2⟩ := q_condition (J := J) hR (adv (adv I k) (k + 1)) _ _ s C2 (by omega)
        have e2 : f_X3_readCondition (f_X3_readOne 8) (S0 ++ J) R (adv (adv I k) (k + 1)) 33 (nI 0) = some (I2, r2) := e2
        rw [e2, bd1]
        have G := pCond_ok (b := b) (n := n) 3 (nx b n (nx b n e)) hx2.2.1
        simp only
        cases hge : pCond b n (pOne b n 3) (nx b n (nx b n e)) with
        | inl ef =>
          rw [hge] at m2
          obtain ⟨m3, k', s', m4⟩ := m2
          rw [m3, if_pos (by decide)]
          exact ⟨I2, 0, rfl, frQ_C (frC_t (adv_f k) (frC_t (adv_f (k + 1)) f2)), rfl, k', s', m4⟩
        | inr p =>
          rw [hge] at m2
          obtain ⟨m3, ⟨k', m4⟩, m5, m6⟩ := m2
          rw [m3, if_neg (by decide)]
          refine Qre_f (frC_t (adv_f k) (frC_t (adv_f (k + 1)) f2)) (Sld_t (adv_S k s) (Sld_t (adv_S (k + 1) s) m6 (Nat.le_refl s)) (Nat.le_refl s)) (q_ho hR m4 ?_ (by omega) m5)
          rw [f2 37 0 (by omega) (by omega) (by omega) (by omega) (by omega)]
          exact adv_0 (k + 1) nr (adv_0 k nr h0)
      · rw [if_neg (by show ¬ nI (tk b n (nx b n e)) = nI 10006; rw [n_eq (by omega) (by omega)]; exact qi), if_neg qi]
        exact Qre_f (adv_f k) (adv_S k s) (q_ho (c := []) hR C1 (adv_0 k nr h0) (by omega) trivial)
    · rw [decide_eq_false qk, if_pos (by decide), if_pos (by omega)]
      exact ⟨I, 0, rfl, fun _ _ _ _ => rfl, rfl, k, s, hC⟩
end RUL
