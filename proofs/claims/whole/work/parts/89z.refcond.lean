/-! THE REFERENCE READS A CONDITION: its steps -/
section RPC
variable {J : Sh} {R : Rw} {I : Iw} {b : Nat → Nat} {n : Nat}
def frR (I I' : Iw) : Prop := ∀ a j, ¬ (a = 65 ∧ 6 ≤ j ∧ j ≤ 12) → a ≠ 70 → I' a j = I a j
theorem frR_r (I : Iw) : frR I I := fun _ _ _ _ => rfl
theorem frR_t {I I' I'' : Iw} (h : frR I I') (h2 : frR I' I'') : frR I I'' := fun a j q1 q2 => (h2 a j q1 q2).trans (h a j q1 q2)
def sm70 (I I' : Iw) (m : Nat) : Prop := ∀ j, j < m → I' 70 j = I 70 j
def RSt (I : Iw) (b : Nat → Nat) (n e : Nat) (d : Int32) (m : Nat) : Prop := TMb I b n ∧ e ≤ n ∧ RS I b n e ∧ I 65 9 = 0 ∧ I 65 10 = d ∧ I 65 12 = nI m
def FSt (I : Iw) (b : Nat → Nat) (n e : Nat) : Prop := TMb I b n ∧ e ≤ n ∧ RS I b n e ∧ I 65 9 = 1
def Tkc (I : Iw) : Nat → List Nat → Prop
  | _, [] => True
  | m, t :: l => I 70 m = nI t ∧ Tkc I (m + 1) l
theorem Tkc_app {I : Iw} : ∀ (c d : List Nat) (s : Nat), Tkc I s c → Tkc I (s + c.length) d → Tkc I s (c ++ d)
  | [], d, s, _, h => h
  | t :: c, d, s, h1, h2 => ⟨h1.1, Tkc_app c d (s + 1) h1.2 (by rw [List.length_cons] at h2; rw [show s + 1 + c.length = s + (c.length + 1) by omega]; exact h2)⟩
theorem Tkc_fr {I I' : Iw} : ∀ (c : List Nat) (s : Nat), (∀ j, j < s + c.length → I' 70 j = I 70 j) → Tkc I s c → Tkc I' s c
  | [], _, _, _ => trivial
  | t :: c, s, f, h => by
    rw [List.length_cons] at f
    exact ⟨(f s (by omega)).trans h.1, Tkc_fr c (s + 1) (fun j hj => f j (by omega)) h.2⟩
def Rre (b : Nat → Nat) (n : Nat) (d : Int32) (m : Nat) (I : Iw) (o : Option Iw) (res : PRs) : Prop := ∃ I', o = some I' ∧ frR I I' ∧ match res with
  | .inl f => FSt I' b n f
  | .inr p => RSt I' b n p.1 d (m + (tks p.2.2).length) ∧ Tkc I' m (tks p.2.2) ∧ sm70 I I' m
theorem Rre_f {d : Int32} {m : Nat} {I I0 : Iw} {o : Option Iw} {res : PRs} (f : frR I0 I) (g : sm70 I0 I m) (h : Rre b n d m I o res) : Rre b n d m I0 o res := by
  obtain ⟨I', h1, h2, h3⟩ := h
  refine ⟨I', h1, frR_t f h2, ?_⟩
  cases res with
  | inl q => exact h3
  | inr p => exact ⟨h3.1, h3.2.1, fun j hj => (h3.2.2 j hj).trans (g j hj)⟩
theorem RS_fr {I I' : Iw} {e : Nat} (f : ∀ j, 6 ≤ j → j ≤ 8 → I' 65 j = I 65 j) (h : RS I b n e) : RS I' b n e := ⟨(f 6 (by omega) (by omega)).trans h.1, (f 7 (by omega) (by omega)).trans h.2.1, (f 8 (by omega) (by omega)).trans h.2.2⟩
theorem m_must1 (hR : Lay R) {e m : Nat} {d : Int32} (h : RSt I b n e d m) : ∃ I', f_X12_must (S0 ++ J) R I 65 1 = some I' ∧ RSt I' b n (nx b n e) d m ∧ frR I I' ∧ ∀ j, I' 70 j = I 70 j := by
  obtain ⟨hT, he, hS, h9, h10, h12⟩ := h
  have hx := nx_le (b := b) he
  obtain ⟨I', e1, e2, e3⟩ := m_next (J := J) (I := up2 I 65 9 0) (b := b) (n := n) hR (TMb_fr hT fun a j z => by rw [u_eq, if_neg (by omega)]) hx.2.1 (by rw [u_eq, if_neg (by decide)]; exact hS.2.1)
  have g : ∀ a j, ¬ (a = 65 ∧ 6 ≤ j ∧ j ≤ 9) → I' a j = I a j := fun a j z => by rw [e3 a j (by omega), u_eq, if_neg (by omega)]
  refine ⟨I', ?_, ⟨TMb_fr hT fun a j z => g a j (by omega), hx.2.1, e2, ?_, (g 65 10 (by omega)).trans h10, (g 65 12 (by omega)).trans h12⟩, fun a j q1 q2 => g a j (by omega), fun j => g 70 j (by omega)⟩
  · rw [f_X12_must, so_65, gp1, h9, if_pos rfl, if_neg (by decide), f_X12_must_17, so_65, gp1, show zok 0 = true from rfl, gp1, lt1, gp1, show up2 I 65 9 0 65 9 = 0 from (u_eq ..).trans (if_pos ⟨rfl, rfl⟩), if_pos rfl, e1, bd1]
  · rw [e3 65 9 (by decide), u_eq, if_pos ⟨rfl, rfl⟩]
theorem m_must12 (h : TMb I b n) {e : Nat} (he : e ≤ n) (hS : RS I b n e) : f_X12_must_12 (S0 ++ J) R I 65 65 = some (up2 I 65 9 1) ∧ FSt (up2 I 65 9 1) b n e ∧ frR I (up2 I 65 9 1) ∧ ∀ j, up2 I 65 9 1 70 j = I 70 j := by
  refine ⟨?_, ⟨TMb_fr h fun a j z => by rw [u_eq, if_neg (by omega)], he, RS_fr (fun j h1 h2 => by rw [u_eq, if_neg (by omega)]) hS, by rw [u_eq, if_pos ⟨rfl, rfl⟩]⟩, fun a j q1 q2 => by rw [u_eq, if_neg (by omega)], fun j => by rw [u_eq, if_neg (by omega)]⟩
  rw [f_X12_must_12, f_X12_must_17, so_65, gp1, show zok 1 = true from rfl, gp1, lt1, gp1, show up2 I 65 9 1 65 9 = 1 from (u_eq ..).trans (if_pos ⟨rfl, rfl⟩), if_neg (by decide)]
theorem m_must0 {e m : Nat} {d : Int32} (h : RSt I b n e d m) : ∃ I', f_X12_must (S0 ++ J) R I 65 0 = some I' ∧ FSt I' b n e ∧ frR I I' ∧ ∀ j, I' 70 j = I 70 j := by
  obtain ⟨hT, he, hS, h9, h10, h12⟩ := h
  refine ⟨_, ?_, (m_must12 (J := J) (R := R) hT he hS).2⟩
  rw [f_X12_must, so_65, gp1, h9, if_pos rfl, if_pos rfl]
  exact (m_must12 hT he hS).1
theorem m_mustF {e : Nat} {x : Int32} (h : FSt I b n e) : ∃ I', f_X12_must (S0 ++ J) R I 65 x = some I' ∧ FSt I' b n e ∧ frR I I' ∧ ∀ j, I' 70 j = I 70 j := by
  obtain ⟨hT, he, hS, h9⟩ := h
  refine ⟨_, ?_, (m_must12 (J := J) (R := R) hT he hS).2⟩
  rw [f_X12_must, so_65, gp1, h9, if_neg (by decide)]
  exact (m_must12 hT he hS).1
def adK (I : Iw) (m : Nat) (x : Int32) : Iw := up2 (up2 I 70 m x) 65 12 (nI (m + 1))
theorem m_tells (hR : Lay R) {e m : Nat} {d x : Int32} (h : RSt I b n e d m) (hm : m < 200) : f_X12_tells (S0 ++ J) R I 65 x = some (adK I m x) ∧ RSt (adK I m x) b n e d (m + 1) ∧ frR I (adK I m x) ∧ sm70 I (adK I m x) m ∧ adK I m x 70 m = x := by
  obtain ⟨hT, he, hS, h9, h10, h12⟩ := h
  refine ⟨?_, ⟨TMb_fr hT fun a j z => by rw [adK, u_eq, if_neg (by omega), u_eq, if_neg (by omega)], he, RS_fr (fun j h1 h2 => by rw [adK, u_eq, if_neg (by omega), u_eq, if_neg (by omega)]) hS, ?_, ?_, ?_⟩, fun a j q1 q2 => by rw [adK, u_eq, if_neg (by omega), u_eq, if_neg (by omega)], fun j hj => by rw [adK, u_eq, if_neg (by omega), u_eq, if_neg (by omega)], by rw [adK, u_eq, if_neg (by omega), u_eq, if_pos ⟨rfl, rfl⟩]⟩
  · rw [f_X12_tells, so_65, gp1, h9, if_pos rfl]
    simp (disch := omega) only [so_65, ao_66, ao_67, ao_68, ao_69, ao_70, ly_65_0 hR, ly_65_1 hR, ly_65_2 hR, ly_65_4 hR, ly_65_11 hR, ly_65_13 hR, ly_65_14 hR, ly_65_15 hR, ly_65_16 hR, ly_65_17 hR, ly_65_18 hR, ly_65_19 hR, ly_65_20 hR, ly_65_22 hR, ly_65_24 hR, ly_65_25 hR, ly_65_26 hR, ly_65_27 hR, ly_65_28 hR, ly_65_29 hR, ly_65_30 hR, h12, u_eq, Nat.reduceEqDiff, false_and, and_false, true_and, and_true, and_self, not_false_eq_true, adK, lit, gp1, rl1, rs1, bd1, lt1, n_add, n_sub, n_dec, n_le, n_lt, n_eq, n_in, nI_clamp, n_mul, m_or, m_and, m_pow, m_bit, m_dif, n_neg, yn_0, yn_1, yn_z, yn_d, one31, Nat.add_sub_cancel, Nat.not_lt_zero, if_true, if_false, ite_true, ite_false, Bool.true_eq_false, Bool.false_eq_true, Nat.add_zero, Nat.zero_add]
  · rw [adK, u_eq, if_neg (by omega), u_eq, if_neg (by omega)]; exact h9
  · rw [adK, u_eq, if_neg (by omega), u_eq, if_neg (by omega)]; exact h10
  · rw [adK, u_eq, if_pos ⟨rfl, rfl⟩]
theorem m_tellsF {e : Nat} {x : Int32} (h : FSt I b n e) : f_X12_tells (S0 ++ J) R I 65 x = some I := by
  rw [f_X12_tells, so_65, gp1, h.2.2.2, if_neg (by decide)]
/-- a value: one code more, or none -/
def Vre (b : Nat → Nat) (n e : Nat) (d : Int32) (m : Nat) (I : Iw) (o : Option Iw) : Prop := ∃ I', o = some I' ∧ frR I I' ∧
  (isVal (tk b n e) = true → RSt I' b n (nx b n e) d (m + 1) ∧ I' 70 m = nI (vTok (tk b n e)) ∧ sm70 I I' m) ∧ (isVal (tk b n e) = false → FSt I' b n e)
theorem m_val36 (hR : Lay R) {e m p q : Nat} {d : Int32} (h : RSt I b n e d m) (hm : m < 200) (h6 : I 65 6 = nI p) (h7 : I 65 7 = nI q) (hq : q ≤ n) (hs : ∀ j, p ≤ j → j < q → srt (b j) = 1) : ∀ (r k a f : Nat), k + r = q → r < f → p ≤ k →
    ∃ I', f_X12_value_36 (S0 ++ J) R f I 65 (nI a) (nI k) = some I' ∧ RSt I' b n (nx b n e) d (m + 1) ∧ I' 70 m = nI (nvF b r k a) ∧ sm70 I I' m ∧ frR I I'
  | 0, k, a, f, hk, hf, _ => by
    have hn := h.1.1
    obtain ⟨f, rfl⟩ := Nat.exists_eq_succ_of_ne_zero (n := f) (by omega)
    obtain ⟨t1, t2, t3, t4, t5⟩ := m_tells (J := J) (x := nI a) hR h hm
    obtain ⟨I', u1, u2, u3, u4⟩ := m_must1 (J := J) hR t2
    refine ⟨I', ?_, u2, (u4 m).trans t5, fun j hj => (u4 j).trans (t4 j hj), frR_t t3 u3⟩
    rw [f_X12_value_36, so_65, gp1, h7, if_pos (by rw [n_le (by omega) (by omega)]; omega), t1, bd1, u1, bd1]
  | r + 1, k, a, f, hk, hf, hpk => by
    have hn := h.1.1
    obtain ⟨f, rfl⟩ := Nat.exists_eq_succ_of_ne_zero (n := f) (by omega)
    have hd := sb_dig (hs k (by omega) (by omega))
    obtain ⟨I', u1, u2⟩ := m_val36 hR h hm h6 h7 hq hs r (k + 1) (a * 10 + (b k - 48)) f (by omega) (by omega) (by omega)
    refine ⟨I', ?_, by rw [nvF]; exact u2⟩
    rw [f_X12_value_36, so_65, gp1, h7, if_neg (by rw [n_le (by omega) (by omega)]; omega)]
    simp (disch := omega) only [so_65, ao_66, ao_67, ao_68, ao_69, ly_65_0 hR, ly_65_1 hR, ly_65_2 hR, ly_65_4 hR, ly_65_11 hR, ly_65_13 hR, ly_65_14 hR, ly_65_15 hR, ly_65_16 hR, ly_65_17 hR, ly_65_18 hR, ly_65_19 hR, ly_65_20 hR, ly_65_22 hR, ly_65_24 hR, ly_65_25 hR, ly_65_26 hR, ly_65_27 hR, ly_65_28 hR, ly_65_29 hR, ly_65_30 hR, (h.1.2.2 k (by omega)).2, lit, gp1, rl1, rs1, bd1, lt1, n_add, n_sub, n_dec, n_le, n_lt, n_eq, n_in, nI_clamp, n_mul, m_or, m_and, m_pow, m_bit, m_dif, n_neg, yn_0, yn_1, yn_z, yn_d, one31, Nat.add_sub_cancel, Nat.not_lt_zero, if_true, if_false, ite_true, ite_false, Bool.true_eq_false, Bool.false_eq_true, Nat.add_zero, Nat.zero_add]
    rw [show 10 * a + b k - 48 = a * 10 + (b k - 48) by omega]
    exact u1
theorem r71 (hR : Lay R) {i : Nat} (hi : i < 5) : R 71 i = some (.inr (i + 1)) := by
  rw [hR 71 (by decide) i (by omega) (by omega)]
  exact (by decide : ∀ i, i < 5 → R0 71 i = some (.inr (i + 1))) i hi
theorem m_val80 (hR : Lay R) (hT : TMb I b n) {e : Nat} (he : e ≤ n) (hS : RS I b n e) : ∀ (r i f : Nat) (c : Int32), i + r = 5 → r < f →
    ∃ f', 0 < f' ∧ f_X12_value_80 (S0 ++ J) R f I 65 c (nI i) = f_X12_value_80 (S0 ++ J) R f' I 65 (if 10013 + i ≤ tk b n e ∧ tk b n e ≤ 10017 then nI (tk b n e - 10013) else c) (nI 5)
  | 0, i, f, c, hi, hf => by
    have : i = 5 := hi
    subst this
    exact ⟨f, by omega, by rw [if_neg (by omega)]⟩
  | r + 1, i, f, c, hi, hf => by
    obtain ⟨f, rfl⟩ := Nat.exists_eq_succ_of_ne_zero (n := f) (by omega)
    have hw := m_word (J := J) (a := i + 1) hR hT he hS (by omega) (by omega)
    have hwn : wn (i + 1) = 13 + i := (by decide : ∀ i, i < 5 → wn (i + 1) = 13 + i) i (by omega)
    rw [hwn] at hw
    obtain ⟨f', g1, g2⟩ := m_val80 hR hT he hS r (i + 1) f (if tk b n e = 10000 + (13 + i) then nI i else c) (by omega) (by omega)
    refine ⟨f', g1, ?_⟩
    rw [f_X12_value_80, so_65, gp1, ly_65_13 hR, rl1, al_71, bd1, if_neg (by rw [n_le (by omega) (by omega)]; omega)]
    simp (disch := omega) only [so_65, ly_65_0 hR, ly_65_1 hR, ly_65_2 hR, ly_65_4 hR, ly_65_11 hR, ly_65_13 hR, ly_65_14 hR, ly_65_15 hR, ly_65_16 hR, ly_65_17 hR, ly_65_18 hR, ly_65_19 hR, ly_65_20 hR, ly_65_22 hR, ly_65_24 hR, ly_65_25 hR, ly_65_26 hR, ly_65_27 hR, ly_65_28 hR, ly_65_29 hR, ly_65_30 hR, ao_71, al_71, ly_71_0 hR, ly_71_1 hR, ly_71_2 hR, ly_71_3 hR, ly_71_4 hR, r71 hR (show i < 5 by omega), hw, rs1, lit, gp1, rl1, rs1, bd1, lt1, n_add, n_sub, n_dec, n_le, n_lt, n_eq, n_in, nI_clamp, n_mul, m_or, m_and, m_pow, m_bit, m_dif, n_neg, yn_0, yn_1, yn_z, yn_d, one31, Nat.add_sub_cancel, Nat.not_lt_zero, if_true, if_false, ite_true, ite_false, Bool.true_eq_false, Bool.false_eq_true, Nat.add_zero, Nat.zero_add]
    by_cases q : tk b n e = 10000 + (13 + i)
    · rw [decide_eq_true q, if_neg (by decide), f_X12_value_107, show (1 : Int32) = nI 1 from rfl, n_add]
      rw [if_pos q] at g2
      rw [g2, if_neg (by omega), if_pos (by omega), show tk b n e - 10013 = i by omega]
    · rw [decide_eq_false q, if_pos (by decide), f_X12_value_107, show (1 : Int32) = nI 1 from rfl, n_add]
      rw [if_neg q] at g2
      rw [g2]
      by_cases q2 : 10013 + (i + 1) ≤ tk b n e ∧ tk b n e ≤ 10017
      · rw [if_pos q2, if_pos (by omega)]
      · rw [if_neg q2, if_neg (by omega)]
theorem m_val76 (hR : Lay R) {e m : Nat} {d : Int32} (h : RSt I b n e d m) (hm : m < 200) (hnum : ¬ tk b n e < 10000) : Vre b n e d m I (f_X12_value_76 (S0 ++ J) R I 65) := by
  obtain ⟨f', g1, g2⟩ := m_val80 (J := J) hR h.1 h.2.1 h.2.2.1 5 0 512 (-1) (by omega) (by omega)
  have hv : isVal (tk b n e) = decide (10013 + 0 ≤ tk b n e ∧ tk b n e ≤ 10017) := by
    rw [isVal, decide_eq_false hnum, Bool.decide_and]; rfl
  unfold Vre
  rw [f_X12_value_76, hv]
  have g2 : f_X12_value_80 (S0 ++ J) R 512 I 65 (-1) 0 = _ := g2
  rw [g2]
  obtain ⟨g0, rfl⟩ := Nat.exists_eq_succ_of_ne_zero (n := f') (by omega)
  rw [f_X12_value_80, so_65, gp1, ly_65_13 hR, rl1, al_71, bd1, if_pos (by decide)]
  by_cases q : 10013 + 0 ≤ tk b n e ∧ tk b n e ≤ 10017
  · rw [if_pos q]
    have hj : (10000 : Int32) + jmax 0 (nI (tk b n e - 10013)) = nI (vTok (tk b n e)) := by
      have : ∀ t, t < 5 → (10000 : Int32) + jmax 0 (nI t) = nI (10000 + t) := by decide
      rw [this _ (by omega), vTok, if_neg hnum, show 10000 + (tk b n e - 10013) = tk b n e - 13 by omega]
    obtain ⟨t1, t2, t3, t4, t5⟩ := m_tells (J := J) (x := nI (vTok (tk b n e))) hR h hm
    obtain ⟨I', u1, u2, u3, u4⟩ := m_must1 (J := J) hR t2
    refine ⟨I', ?_, frR_t t3 u3, fun _ => ⟨u2, (u4 m).trans t5, fun j hj => (u4 j).trans (t4 j hj)⟩, fun z => (by rw [decide_eq_true q] at z; cases z)⟩
    rw [hj, t1, bd1, if_neg (nI_pos (by omega)), f_X12_value_137, so_65, gp1, u1, bd1]
  · rw [if_neg q]
    obtain ⟨t1, t2, t3, t4, t5⟩ := m_tells (J := J) (x := 10000 + jmax 0 (-1)) hR h hm
    obtain ⟨I', u1, u2, u3, u4⟩ := m_must0 (J := J) (R := R) t2
    refine ⟨I', ?_, frR_t t3 u3, fun z => (by rw [decide_eq_false q] at z; cases z), fun _ => u2⟩
    rw [t1, bd1, if_pos (by decide), f_X12_value_137, so_65, gp1, u1, bd1]
theorem m_value (hR : Lay R) {e m : Nat} {d : Int32} (h : RSt I b n e d m) (hm : m < 200) : Vre b n e d m I (f_X12_value (S0 ++ J) R I 65) := by
  have hn := h.1.1
  have he := h.2.1
  have hS := h.2.2.1
  have h3 := so_3 b n e
  have hsk := skp_le (b := b) he
  have hnx := nx_le (b := b) he
  rw [f_X12_value, so_65, gp1, h.2.2.2.1, if_pos rfl, hS.2.2]
  by_cases s2 : so b n e = 2
  · have hx := hnx.2.2 (by rw [Ne, tk_end, s2]; decide)
    rw [if_pos (by rw [s2]; rfl), hS.1, hS.2.1, n_sub (by omega)]
    by_cases l4 : nx b n e - skp b n e ≤ 4
    · have ht := tk_number.mpr ⟨s2, l4⟩
      rw [if_neg (by show ¬ nI 4 < nI _; rw [n_lt (by omega) (by omega)]; omega)]
      obtain ⟨I', u1, u2, u3, u4, u5⟩ := m_val36 (J := J) hR h hm hS.1 hS.2.1 hnx.2.1 (tk_so2 s2).2.2 (nx b n e - skp b n e) (skp b n e) 0 512 (by omega) (by omega) (by omega)
      refine ⟨I', u1, u5, fun _ => ⟨u2, ?_, u4⟩, fun z => ?_⟩
      · rw [u3, vTok, if_pos ht, ← tk_num_e ht]
      · rw [isVal, decide_eq_true ht] at z; cases z
    · rw [if_pos (by show nI 4 < nI _; rw [n_lt (by omega) (by omega)]; omega)]
      exact m_val76 hR h hm (fun z => l4 (tk_number.mp z).2)
  · rw [if_neg (by show ¬ nI (so b n e) = nI 2; rw [n_eq (by omega) (by omega)]; exact s2)]
    exact m_val76 hR h hm (fun z => s2 (tk_number.mp z).1)
theorem m_valueF {e : Nat} (h : FSt I b n e) : f_X12_value (S0 ++ J) R I 65 = some I := by
  rw [f_X12_value, so_65, gp1, h.2.2.2, if_neg (by decide)]
theorem s_40 (hR : Lay R) (hT : TMb I b n) {e : Nat} (hS : RS I b n e) : f_X12_isSign (S0 ++ J) R I 65 40 = some (yn (decide (tk b n e = 20040))) := m_sign (c := 40) hR hT hS rfl (by decide)
theorem s_41 (hR : Lay R) (hT : TMb I b n) {e : Nat} (hS : RS I b n e) : f_X12_isSign (S0 ++ J) R I 65 41 = some (yn (decide (tk b n e = 20041))) := m_sign (c := 41) hR hT hS rfl (by decide)
theorem s_59 (hR : Lay R) (hT : TMb I b n) {e : Nat} (hS : RS I b n e) : f_X12_isSign (S0 ++ J) R I 65 59 = some (yn (decide (tk b n e = 20059))) := m_sign (c := 59) hR hT hS rfl (by decide)
theorem s_60 (hR : Lay R) (hT : TMb I b n) {e : Nat} (hS : RS I b n e) : f_X12_isSign (S0 ++ J) R I 65 60 = some (yn (decide (tk b n e = 20060))) := m_sign (c := 60) hR hT hS rfl (by decide)
theorem s_61 (hR : Lay R) (hT : TMb I b n) {e : Nat} (hS : RS I b n e) : f_X12_isSign (S0 ++ J) R I 65 61 = some (yn (decide (tk b n e = 20061))) := m_sign (c := 61) hR hT hS rfl (by decide)
theorem s_62 (hR : Lay R) (hT : TMb I b n) {e : Nat} (hS : RS I b n e) : f_X12_isSign (S0 ++ J) R I 65 62 = some (yn (decide (tk b n e = 20062))) := m_sign (c := 62) hR hT hS rfl (by decide)
end RPC
