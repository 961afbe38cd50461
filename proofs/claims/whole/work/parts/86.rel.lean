/-! WHAT HOLDS BETWEEN TWO CALLS; ranges; what a call must do -/
def btw (x a b : Int32) : Bool := decide (¬ x < a ∧ ¬ b < x)
theorem x_btw {S : Sh} {R : Rw} {I : Iw} {x a b : Int32} : f_X11_isBetween S R I x a b = some (yn (btw x a b)) := by
  rw [f_X11_isBetween, btw]
  by_cases h1 : x < a
  · rw [if_pos h1, decide_eq_false (fun q => q.1 h1)]; rfl
  · rw [if_neg h1]
    by_cases h2 : b < x
    · rw [if_pos h2, decide_eq_false (fun q => q.2 h2)]; rfl
    · rw [if_neg h2, decide_eq_true ⟨h1, h2⟩]; rfl
theorem m_btw {S : Sh} {R : Rw} {I : Iw} {x a b : Int32} : f_X12_in S R I x a b = some (yn (btw x a b)) := by
  rw [f_X12_in, btw]
  by_cases h1 : x < a
  · rw [if_pos h1, decide_eq_false (fun q => q.1 h1)]; rfl
  · rw [if_neg h1]
    by_cases h2 : b < x
    · rw [if_pos h2, decide_eq_false (fun q => q.2 h2)]; rfl
    · rw [if_neg h2, decide_eq_true ⟨h1, h2⟩]; rfl
theorem x_sheet {S : Sh} {R : Rw} {I : Iw} {x : Int32} : f_X11_isSheet S R I x = some (yn (btw x (nI 0) (nI 3))) := by
  rw [f_X11_isSheet]
  simp only [x_btw, bd1, yn_z, gp1, lit]
theorem btw_e {x : Int32} {a b : Nat} (ha : a < 2 ^ 30) (hb : b < 2 ^ 30) (h : btw x (nI a) (nI b) = true) : ∃ k, a ≤ k ∧ k ≤ b ∧ x = nI k := by
  have h2 : ¬ x < nI a ∧ ¬ nI b < x := of_decide_eq_true h
  rcases pk_ix x (n := b + 1) (by omega) with q | q | ⟨k, hk, e⟩
  · exact absurd (Int32.lt_of_lt_of_le q (nI_le (a := 0) (Nat.zero_le _) (by omega))) h2.1
  · exact absurd (Int32.lt_of_lt_of_le (nI_lt (by omega) (by omega)) q) h2.2
  · refine ⟨k, ?_, by omega, e⟩
    apply Decidable.byContradiction
    intro hka
    rw [e] at h2
    exact h2.1 (nI_lt (by omega) (by omega))
/-- a number below n -/
def ltb (n : Nat) (x : Int32) : Bool := decide (¬ x < 0 ∧ x < nI n)
theorem ltb_e {n : Nat} (hn : n < 2 ^ 30) {x : Int32} (h : ltb n x = true) : ∃ k, k < n ∧ x = nI k := by
  have h2 : ¬ x < 0 ∧ x < nI n := of_decide_eq_true h
  rcases pk_ix x (n := n) (by omega) with q | q | ⟨k, hk, e⟩
  · exact absurd q h2.1
  · exact absurd h2.2 (Int32.not_lt.mpr q)
  · exact ⟨k, hk, e⟩
theorem ltb_n {n k : Nat} (hn : n < 2 ^ 30) (hk : k < 2 ^ 31) : ltb n (nI k) = decide (k < n) := by
  unfold ltb
  by_cases h : k < n
  · rw [decide_eq_true h, decide_eq_true ⟨nI_pos hk, nI_lt h (by omega)⟩]
  · rw [decide_eq_false h, decide_eq_false (fun q => nI_nlt (by omega) hk q.2)]
theorem btw_lt {n : Nat} (hn : n < 2 ^ 30) {x : Int32} : btw x (nI 0) (nI n - nI 1) = ltb n x := by
  unfold btw ltb
  rcases pk_ix x (n := n) (by omega) with q | q | ⟨k, hk, e⟩
  · rw [decide_eq_false (fun z => z.1 q), decide_eq_false (fun z => z.1 q)]
  · have hx : nI n - nI 1 < x := by
      by_cases h0 : n = 0
      · subst h0
        have : nI 0 - nI 1 < nI 0 := by decide
        exact Int32.lt_of_lt_of_le this q
      · rw [n_sub (by omega)]
        exact Int32.lt_of_lt_of_le (nI_lt (by omega) (by omega)) q
    rw [decide_eq_false (fun z => z.2 hx), decide_eq_false (fun z => Int32.not_lt.mpr q z.2)]
  · rw [e, n_sub (by omega), decide_eq_true ⟨nI_pos (by omega), nI_nlt (by omega) (by omega)⟩, decide_eq_true ⟨nI_pos (by omega), nI_lt hk (by omega)⟩]
theorem btw_c {n : Nat} (hn : n < 2 ^ 29) {x : Int32} : btw x (nI 0) (nI n) = ltb (n + 1) x := by
  rw [← btw_lt (n := n + 1) (by omega), n_sub (a := n + 1) (b := 1) (by omega), Nat.add_sub_cancel]
theorem hs_ltb (D : Dt) (x : Int32) : hs D x = ltb (d_n D) x := rfl
theorem fndR_no {P : Nat → Bool} : ∀ {k t : Nat}, fndR P t k = none → ∀ i, t ≤ i → i < t + k → P i = false
  | 0, t, _, i, h1, h2 => absurd h2 (by omega)
  | k + 1, t, h, i, h1, h2 => by
    rw [fndR] at h
    by_cases e : P t = true
    · rw [if_pos e] at h; cases h
    · rw [if_neg e] at h
      by_cases q : i = t
      · rw [q]; simpa using e
      · exact fndR_no h i (by omega) (by omega)
theorem fr7_r (I : Iw) : fr7 I I := fun _ _ _ => rfl
/-- cells that a call may use as it likes, and those of the shed -/
def scr (a j : Nat) : Prop := (1 ≤ a ∧ a ≤ 16) ∨ (35 ≤ a ∧ a ≤ 51) ∨ (a = 33 ∧ j ≠ 0) ∨ a = 66 ∨ a = 68 ∨ a = 70 ∨ (73 ≤ a ∧ a ≤ 78) ∨ (a = 65 ∧ (j = 21 ∨ (6 ≤ j ∧ j ≤ 12) ∨ 32 ≤ j))
def frX (I I' : Iw) : Prop := ∀ a j, ¬ scr a j → I' a j = I a j
theorem frX_r (I : Iw) : frX I I := fun _ _ _ => rfl
theorem frX_t {I I' I'' : Iw} (h : frX I I') (h2 : frX I' I'') : frX I I'' := fun a j q => (h2 a j q).trans (h a j q)
theorem frX_S {I I' : Iw} (h : frS I I') : frX I I' := fun a j q => h a j (by unfold scr at q; omega)
theorem frX_F {I I' : Iw} (h : frF I I') : frX I I' := fun a j q => h a j (by unfold scr at q; omega) (by unfold scr at q; omega) (by unfold scr at q; omega)
theorem frX_7 {I I' : Iw} (h : fr7 I I') : frX I I' := fun a j q => h a j (by unfold scr at q; omega)
theorem frX_T {I I' : Iw} (h : frT I I') : frX I I' := fun a j q => h a j (by unfold scr at q; omega)
theorem frX_51 {I I' : Iw} (h : ∀ a j, a ≠ 51 → I' a j = I a j) : frX I I' := fun a j q => h a j (by unfold scr at q; omega)
theorem frX_66 {I I' : Iw} (h : ∀ a j, a ≠ 66 → a ≠ 77 → I' a j = I a j) : frX I I' := fun a j q => h a j (by unfold scr at q; omega) (by unfold scr at q; omega)
theorem frX_u {I : Iw} {a j : Nat} {v : Int32} (h : scr a j) : frX I (up2 I a j v) := fun b k q => by
  rw [u_eq, if_neg]
  rintro ⟨rfl, rfl⟩
  exact q h
/-- a byte of the tape as the class has it -/
def sb (b : Nat) : Int32 := if b < 128 then nI b else nI b - nI 256
def KPp (I : Iw) : Prop := ∃ b : Bool, I 0 2 = yn b ∧ I 65 3 = yn b ∧ (b = true → ∃ K, CR I 17 K ∧ MR I 67 K ∧ VD K)
def TPp (I : Iw) : Prop := ∃ n, n ≤ 200 ∧ I 33 0 = nI n ∧ I 65 5 = nI n ∧ ∀ k, k < n → ∃ b, b < 256 ∧ I 69 k = nI b ∧ I 34 k = sb b
def RWp (I : Iw) : Prop := ∃ n, n ≤ 9 ∧ I 0 6 = nI n ∧ I 65 23 = nI n ∧ ∀ j, j < 27 → I 52 j = I 79 j
def SHp (I : Iw) : Prop := ∀ s, s < 4 → ∃ n, n ≤ 40 ∧ I (57 + 2 * s) 0 = I 81 s ∧ I (57 + 2 * s) 1 = nI n ∧ I 82 s = nI n ∧ (I 81 s = -nI 1 ∨ ∃ k, k ≤ 4 ∧ I 81 s = nI k) ∧ ∀ j, j < 40 → I (58 + 2 * s) j = I 80 (40 * s + j)
def SVp (I : Iw) : Prop := ∀ s, s < 4 → (I 54 s = nI 2 ∧ I 83 s = nI 0) ∨ (∃ n, n < 9 ∧ I 54 s = nI 0 ∧ I 83 s = nI 1 ∧ I 55 s = nI n ∧ I 84 s = nI n) ∨ (∃ k n, k ≤ 4 ∧ n ≤ 40 ∧ I 54 s = nI 1 ∧ I 83 s = nI 2 ∧ I 55 s = nI k ∧ I 84 s = nI k ∧ I 56 s = nI n ∧ I 85 s = nI n)
def THp (S : Sh) (R : Rw) (I : Iw) : Prop := (R 0 11 = none ∧ I 65 31 = nI 0) ∨ ∃ a n, 87 ≤ a ∧ thg S a = true ∧ R 0 11 = some (.inl a) ∧ R a 2 = some (.inl (a + 1)) ∧ S[a + 1]? = some (20, 30) ∧ n ≤ 30 ∧ I a 3 = nI n ∧ I 65 31 = nI n ∧ ∀ k, k < n → I (a + 1) k = I 86 k
theorem KP_fr {I I' : Iw} (h : frX I I') (hK : KPp I) : KPp I' := by
  obtain ⟨b, h1, h2, h3⟩ := hK
  refine ⟨b, (h 0 2 (by unfold scr; omega)).trans h1, (h 65 3 (by unfold scr; omega)).trans h2, fun hb => ?_⟩
  obtain ⟨K, k1, k2, k3⟩ := h3 hb
  exact ⟨K, CR_fr (fun k j q1 q2 => h k j (by unfold scr; omega)) k1, MR_fr (fun j => h 67 j (by unfold scr; omega)) k2, k3⟩
theorem TP_fr {I I' : Iw} (h : frX I I') (hK : TPp I) : TPp I' := by
  obtain ⟨n, h0, h1, h2, h3⟩ := hK
  refine ⟨n, h0, (h 33 0 (by unfold scr; omega)).trans h1, (h 65 5 (by unfold scr; omega)).trans h2, fun k hk => ?_⟩
  obtain ⟨b, b1, b2, b3⟩ := h3 k hk
  exact ⟨b, b1, (h 69 k (by unfold scr; omega)).trans b2, (h 34 k (by unfold scr; omega)).trans b3⟩
theorem RW_fr {I I' : Iw} (h : frX I I') (hK : RWp I) : RWp I' := by
  obtain ⟨n, h0, h1, h2, h3⟩ := hK
  exact ⟨n, h0, (h 0 6 (by unfold scr; omega)).trans h1, (h 65 23 (by unfold scr; omega)).trans h2, fun j hj => by rw [h 52 j (by unfold scr; omega), h 79 j (by unfold scr; omega)]; exact h3 j hj⟩
theorem SH_fr {I I' : Iw} (h : frX I I') (hK : SHp I) : SHp I' := by
  intro s hs
  obtain ⟨n, h0, h1, h2, h3, h4, h5⟩ := hK s hs
  refine ⟨n, h0, ?_, (h _ 1 (by unfold scr; omega)).trans h2, (h 82 s (by unfold scr; omega)).trans h3, ?_, fun j hj => ?_⟩
  · rw [h _ 0 (by unfold scr; omega), h 81 s (by unfold scr; omega)]; exact h1
  · rw [h 81 s (by unfold scr; omega)]; exact h4
  · rw [h _ j (by unfold scr; omega), h 80 _ (by unfold scr; omega)]; exact h5 j hj
theorem SV_fr {I I' : Iw} (h : frX I I') (hK : SVp I) : SVp I' := by
  intro s hs
  rw [h 54 s (by unfold scr; omega), h 55 s (by unfold scr; omega), h 56 s (by unfold scr; omega), h 83 s (by unfold scr; omega), h 84 s (by unfold scr; omega), h 85 s (by unfold scr; omega)]
  exact hK s hs
theorem TH_fr {S : Sh} {R : Rw} {I I' : Iw} (h : frX I I') (hK : THp S R I) : THp S R I' := by
  rcases hK with ⟨h1, h2⟩ | ⟨a, n, h1, h2, h3, h4, h5, h6, h7, h8, h9⟩
  · exact Or.inl ⟨h1, (h 65 31 (by unfold scr; omega)).trans h2⟩
  · refine Or.inr ⟨a, n, h1, h2, h3, h4, h5, h6, (h a 3 (by unfold scr; omega)).trans h7, (h 65 31 (by unfold scr; omega)).trans h8, fun k hk => ?_⟩
    rw [h (a + 1) k (by unfold scr; omega), h 86 k (by unfold scr; omega)]
    exact h9 k hk
def Rest (S : Sh) (R : Rw) (I : Iw) : Prop := KPp I ∧ TPp I ∧ RWp I ∧ SHp I ∧ SVp I ∧ THp S R I
theorem Rest_fr {S : Sh} {R : Rw} {I I' : Iw} (h : frX I I') (hK : Rest S R I) : Rest S R I' :=
  ⟨KP_fr h hK.1, TP_fr h hK.2.1, RW_fr h hK.2.2.1, SH_fr h hK.2.2.2.1, SV_fr h hK.2.2.2.2.1, TH_fr h hK.2.2.2.2.2⟩
def Core (I : Iw) (D : Dt) (T : Nat) : Prop := CR I 1 D ∧ MR I 66 D ∧ VD D ∧ ST I T
def Rel (n : Nat) (S : Sh) (R : Rw) (I : Iw) : Prop := ∃ J D, S = S0 ++ J ∧ Lay R ∧ Core I D (16 * n) ∧ Rest S R I
theorem ST_up {I : Iw} {T T' : Nat} (h : T ≤ T') (hT : ST I T) : ST I T' := by
  obtain ⟨T0, h0, h1⟩ := hT
  exact ⟨T0, Nat.le_trans h0 h, h1⟩
theorem ST_fr {I I' : Iw} {T : Nat} (h : ∀ a j, (a = 44 ∧ j = 2) ∨ a = 45 → I' a j = I a j) (hT : ST I T) : ST I' T := by
  obtain ⟨T0, h0, h1, h2⟩ := hT
  exact ⟨T0, h0, (h 44 2 (Or.inl ⟨rfl, rfl⟩)).trans h1, fun i hi => by rw [h 45 i (Or.inr rfl)]; exact h2 i hi⟩
/-- a call of both sides: the same answer, a shed that both hold, the rest as it was -/
def ZZ (I : Iw) (T : Nat) (c : Option (Iw × Int32)) (m : Iw → Option (Iw × Int32)) : Prop := ∃ I1 r I2 D', c = some (I1, r) ∧ m I1 = some (I2, r) ∧ Core I2 D' (T + 16) ∧ frX I I2
def ZP (I : Iw) (T : Nat) (c : Option Int32) (m : Option (Iw × Int32)) : Prop := ∃ r I2 D', c = some r ∧ m = some (I2, r) ∧ Core I2 D' (T + 16) ∧ frX I I2
def ZQ (c m : Option Int32) : Prop := ∃ r, c = some r ∧ m = some r
theorem Core_up {I : Iw} {D : Dt} {T : Nat} (h : Core I D T) : Core I D (T + 16) := ⟨h.1, h.2.1, h.2.2.1, ST_up (by omega) h.2.2.2⟩
theorem ZZ_no {I : Iw} {D : Dt} {T : Nat} (h : Core I D T) {c : Option (Iw × Int32)} {m : Iw → Option (Iw × Int32)} {r : Int32} (h1 : c = some (I, r)) (h2 : m I = some (I, r)) : ZZ I T c m :=
  ⟨I, r, I, D, h1, h2, Core_up h, frX_r I⟩
theorem ZP_7 {I : Iw} {D : Dt} {T : Nat} (h : Core I D T) {c : Option Int32} {m : Option (Iw × Int32)} {I' : Iw} {r : Int32} (h1 : c = some r) (h2 : m = some (I', r)) (hf : fr7 I I') : ZP I T c m :=
  ⟨r, I', D, h1, h2, ⟨CR_fr (fun k j q1 q2 => hf k j (by omega)) h.1, MR_fr (fun j => hf 66 j (by decide)) h.2.1, h.2.2.1, ST_up (by omega) (ST_fr (fun a j q => hf a j (by omega)) h.2.2.2)⟩, frX_7 hf⟩
theorem ZZ_D {I I1 I2 : Iw} {D D' : Dt} {T : Nat} (h : Core I D T) {c : Option (Iw × Int32)} {m : Iw → Option (Iw × Int32)} {r : Int32} (h1 : c = some (I1, r)) (h2 : m I1 = some (I2, r)) (f1 : frS I I1) (f2 : ∀ a j, a ≠ 66 → a ≠ 77 → I2 a j = I1 a j) (c1 : CR I1 1 D') (c2 : MR I2 66 D') (c3 : VD D') : ZZ I T c m :=
  ⟨I1, r, I2, D', h1, h2, ⟨CR_fr (fun k j q1 q2 => f2 k j (by omega) (by omega)) c1, c2, c3, ST_up (by omega) (ST_fr (fun a j q => by rw [f2 a j (by omega) (by omega), f1 a j (by omega)]) h.2.2.2)⟩, frX_t (frX_S f1) (frX_66 f2)⟩
/-- orders: the class used its cells 44 to 51, the reference its 77, 78 -/
theorem ZZ_O {I I1 I2 : Iw} {D : Dt} {T : Nat} (h : Core I D T) {c : Option (Iw × Int32)} {m : Iw → Option (Iw × Int32)} {r : Int32} (h1 : c = some (I1, r)) (h2 : m I1 = some (I2, r)) (f1 : ∀ a j, (a < 44 ∨ 51 < a) → I1 a j = I a j) (f2 : frF I1 I2) (hT : ST I1 (T + 16)) : ZZ I T c m :=
  ⟨I1, r, I2, D, h1, h2, ⟨CR_fr (fun k j q1 q2 => by rw [f2 k j (by omega) (by omega) (by omega), f1 k j (by omega)]) h.1, MR_fr (fun j => by rw [f2 66 j (by decide) (by decide) (by omega), f1 66 j (by decide)]) h.2.1, h.2.2.1, ST_fr (fun a j q => f2 a j (by omega) (by omega) (by omega)) hT⟩,
    frX_t (fun a j q => f1 a j (by unfold scr at q; omega)) (frX_F f2)⟩
section REL
variable {J : Sh} {R : Rw} {I : Iw} {D : Dt}
theorem q_has (hC : CR0 I 1 D) (x : Int32) : f_X7_has (S0 ++ J) R I 1 x = some (yn (ltb (d_n D) x)) := by
  rw [p_has hC, yn_i]; rfl
theorem m_is (hR : Lay R) {c n : Nat} (hc : c < 306) (hn : n < 2 ^ 30) (h : I 66 c = nI n) (x : Int32) : f_X12_is (S0 ++ J) R I 65 x (nI c) = some (yn (ltb n x)) := by
  rw [f_X12_is]
  simp (disch := omega) only [so_65, ao_66, ly_65_0 hR, ly_65_1 hR, ly_65_2 hR, ly_65_4 hR, ly_65_11 hR, ly_65_13 hR, ly_65_14 hR, ly_65_15 hR, ly_65_16 hR, ly_65_17 hR, ly_65_18 hR, ly_65_19 hR, ly_65_20 hR, ly_65_22 hR, ly_65_24 hR, ly_65_25 hR, ly_65_26 hR, ly_65_27 hR, ly_65_28 hR, ly_65_29 hR, ly_65_30 hR, h, m_btw, btw_lt, lit, gp1, rl1, rs1, bd1, lt1, n_add, n_sub, n_dec, n_le, n_lt, n_eq, n_in, nI_clamp, n_mul, m_or, m_and, m_pow, m_bit, m_dif, n_neg, yn_0, yn_1, yn_z, yn_d, one31, Nat.add_sub_cancel, Nat.not_lt_zero, if_true, if_false, ite_true, ite_false]
theorem m_isN (hR : Lay R) (hM : MR I 66 D) (hV : VD D) (x : Int32) : f_X12_is (S0 ++ J) R I 65 x (nI 3) = some (yn (ltb (d_n D) x)) :=
  m_is hR (by decide) (by have := hV.1; omega) hM.2.2.2.1 x
theorem m_comes (hR : Lay R) {c : Nat} (hc : c < 306) (v : Int32) : f_X12_comes (S0 ++ J) R I 65 (nI c) v = some (up2 I 66 c v, I 66 c) := by
  rw [f_X12_comes]
  simp (disch := omega) only [so_65, ao_66, ly_65_0 hR, ly_65_1 hR, ly_65_2 hR, ly_65_4 hR, ly_65_11 hR, ly_65_13 hR, ly_65_14 hR, ly_65_15 hR, ly_65_16 hR, ly_65_17 hR, ly_65_18 hR, ly_65_19 hR, ly_65_20 hR, ly_65_22 hR, ly_65_24 hR, ly_65_25 hR, ly_65_26 hR, ly_65_27 hR, ly_65_28 hR, ly_65_29 hR, ly_65_30 hR, lit, gp1, rl1, rs1, bd1, lt1, n_add, n_sub, n_dec, n_le, n_lt, n_eq, n_in, nI_clamp, n_mul, m_or, m_and, m_pow, m_bit, m_dif, n_neg, yn_0, yn_1, yn_z, yn_d, one31, Nat.add_sub_cancel, Nat.not_lt_zero, if_true, if_false, ite_true, ite_false]
end REL
