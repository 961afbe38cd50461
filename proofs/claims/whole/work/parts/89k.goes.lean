/-! CALLS: goods of a sheet that go, or shall -/
theorem at_cs (x : Int32) {k n : Nat} (hk : k ≤ 20) (hn : n ≤ 40) :
    (∃ j, j < n ∧ x + nI k = nI j ∧ ¬ (lg_cmp (x.toInt64 + (nI k).toInt64) 0 < nI 0) ∧ lg_cmp (x.toInt64 + (nI k).toInt64) (nI n).toInt64 < nI 0) ∨ (ltb n (x + nI k) = false ∧ (lg_cmp (x.toInt64 + (nI k).toInt64) 0 < nI 0 ∨ ¬ lg_cmp (x.toInt64 + (nI k).toInt64) (nI n).toInt64 < nI 0)) := by
  have b1 := x.toInt_lt
  have b2 := x.le_toInt
  have tk : (nI k).toInt = k := Int32.toInt_ofNat_of_lt (by omega)
  have tn : (nI n).toInt = n := Int32.toInt_ofNat_of_lt (by omega)
  have s : (x.toInt64 + (nI k).toInt64).toInt = x.toInt + k := by
    rw [Int64.toInt_add, Int32.toInt_toInt64, Int32.toInt_toInt64, tk]
    exact Int.bmod_eq_of_le (by omega) (by omega)
  have c1 : lg_cmp (x.toInt64 + (nI k).toInt64) 0 < nI 0 ↔ x.toInt + k < 0 := by
    refine (lg_cmp_lt _ _).trans ?_
    rw [Int64.lt_iff_toInt_lt, s]
    exact Iff.rfl
  have c2 : lg_cmp (x.toInt64 + (nI k).toInt64) (nI n).toInt64 < nI 0 ↔ x.toInt + k < n := by
    refine (lg_cmp_lt _ _).trans ?_
    rw [Int64.lt_iff_toInt_lt, s, Int32.toInt_toInt64, tn]
  have w : (x + nI k).toInt = (x.toInt + k).bmod (2 ^ 32) := by rw [Int32.toInt_add, tk]
  by_cases h : 0 ≤ x.toInt + k ∧ x.toInt + k < n
  · left
    refine ⟨(x.toInt + k).toNat, by omega, Int32.toInt_inj.mp ?_, fun q => by have := c1.mp q; omega, c2.mpr h.2⟩
    rw [w, show nI (x.toInt + k).toNat = Int32.ofNat (x.toInt + k).toNat from rfl, Int32.toInt_ofNat_of_lt (by omega), Int.bmod_eq_of_le (by omega) (by omega)]
    omega
  · right
    constructor
    · refine decide_eq_false fun q => ?_
      have q1 : ¬ (x + nI k).toInt < 0 := fun z => q.1 (Int32.lt_iff_toInt_lt.mpr z)
      have q2 : (x + nI k).toInt < n := by
        have := Int32.lt_iff_toInt_lt.mp q.2
        rwa [tn] at this
      rw [w, Int.bmod_def] at q1 q2
      simp only [show ((2 ^ 32 : Nat) : Int) = 4294967296 from rfl] at q1 q2
      split at q1 <;> rename_i z <;> simp only [z, if_true, if_false] at q2 <;> omega
    · by_cases z : x.toInt + k < 0
      · exact Or.inl (c1.mpr z)
      · exact Or.inr (fun q => by have := c2.mp q; omega)
theorem x_holdsA {S : Sh} {R : Rw} {I : Iw} {m : Nat} (hm : m < 1024) (x : Int32) : f_X11_holds S R I (nI m) x = some (yn (ltb 10 x && m.testBit x.toNatClampNeg)) := by
  cases b : ltb 10 x with
  | true =>
    obtain ⟨g, hg, rfl⟩ := ltb_e (by decide) b
    rw [x_holds hm hg, nI_clamp (by omega), Bool.true_and]
  | false =>
    rw [f_X11_holds]
    rcases ltb_f (by decide) b with q | ⟨q1, q2⟩
    · rw [if_pos q]; rfl
    · rw [if_neg q1, if_pos (Int32.lt_of_lt_of_le (show (9 : Int32) < nI 10 by decide) q2)]; rfl
def gB (D : Dt) (v : Int32) : Bool := ltb (d_n D) v && mayb D (insm D) (lst D) v.toNatClampNeg
def tB (D : Dt) (v : Int32) : Bool := ltb (d_n D) v && topb D (insm D) v.toNatClampNeg
theorem set_B {D : Dt} (hV : VD D) (P : Nat → Bool) (v : Int32) : (ltb 10 v && (mk P (d_n D)).testBit v.toNatClampNeg) = (ltb (d_n D) v && P v.toNatClampNeg) := by
  have h9 := hV.1
  cases b : ltb 10 v with
  | true =>
    obtain ⟨g, hg, rfl⟩ := ltb_e (by decide) b
    rw [nI_clamp (by omega), mk_bit, ltb_n (by omega) (by omega), Bool.true_and]
  | false =>
    have : ltb (d_n D) v = false := by
      cases b2 : ltb (d_n D) v with
      | false => rfl
      | true =>
        obtain ⟨g, hg, rfl⟩ := ltb_e (by omega) b2
        rw [ltb_n (by decide) (by omega), decide_eq_true (by omega)] at b
        cases b
    rw [this, Bool.false_and, Bool.false_and]
theorem gB_e {D : Dt} (hV : VD D) {v : Int32} (h : gB D v = true) : ∃ g, g < d_n D ∧ v = nI g ∧ v.toNatClampNeg = g ∧ mayb D (insm D) (lst D) g = true ∧ isin D g = true := by
  have h9 := hV.1
  have ⟨h1, h2⟩ := Bool.and_eq_true _ _ ▸ h
  obtain ⟨g, hg, rfl⟩ := ltb_e (by omega) h1
  rw [nI_clamp (by omega)] at h2
  exact ⟨g, hg, rfl, nI_clamp (by omega), h2, may_in h2⟩
/-- goods of a row that go -/
def gsp (it : Nat → Int32) (x : Int32) (n : Nat) : Nat → Nat → Dt → Nat → Dt × Int32
  | 0, _, D, w => (D, nI w)
  | r + 1, k, D, w => if ltb n (x + nI k) then (if gB D (it (x + nI k).toNatClampNeg) then gsp it x n r (k + 1) (Dout D (it (x + nI k).toNatClampNeg).toNatClampNeg) (w + 1) else gsp it x n r (k + 1) D w) else (D, -nI 12)
def gts (it : Nat → Int32) (x : Int32) (n : Nat) : Nat → Nat → Dt → Nat → Int32
  | 0, _, _, c => nI c
  | r + 1, k, D, c => if ltb n (x + nI k) then (if tB D (it (x + nI k).toNatClampNeg) then gts it x n r (k + 1) (Dout D (it (x + nI k).toNatClampNeg).toNatClampNeg) (if mayb D (insm D) (lst D) (it (x + nI k).toNatClampNeg).toNatClampNeg then c else c + 1) else -nI 4) else -nI 12
section GOES
variable {J : Sh} {R : Rw} {T : Nat}
theorem q_goes49 (hR : Lay R) {s n m : Nat} {x : Int32} {it : Nat → Int32} (hs : s < 4) (hn : n ≤ 40) (hm : m ≤ 20) : ∀ (r k f : Nat) (D : Dt) (I : Iw) (w : Nat), k + r = m → r < f → CR I 1 D → VD D → I (57 + 2 * s) 1 = nI n → (∀ j, j < 40 → I (58 + 2 * s) j = it j) →
    ∃ I', f_X11_goes_49 (S0 ++ J) R f I 0 x (nI m) (57 + 2 * s) (nI w) (nI k) = some (I', (gsp it x n r k D w).2) ∧ CR I' 1 (gsp it x n r k D w).1 ∧ VD (gsp it x n r k D w).1 ∧ frS I I' := by
  obtain ⟨f1, f2, f3, f4⟩ := sh_f (J := J) hR hs
  intro r
  induction r with
  | zero =>
    intro k f D I w hk hf hC hV h1 hit
    obtain ⟨f, rfl⟩ := Nat.exists_eq_succ_of_ne_zero (n := f) (by omega)
    refine ⟨I, ?_, hC, hV, fun _ _ _ => rfl⟩
    rw [f_X11_goes_49, if_pos (by rw [n_le (by omega) (by omega)]; omega)]; rfl
  | succ r ih =>
    intro k f D I w hk hf hC hV h1 hit
    obtain ⟨f, rfl⟩ := Nat.exists_eq_succ_of_ne_zero (n := f) (by omega)
    have hh := q_has8 (J := J) hR hs hn h1 (x + nI k)
    have hfl := fre_lt hV (insm D) (lst D)
    rw [f_X11_goes_49, if_neg (by rw [n_le (by omega) (by omega)]; omega), f3, gp1, hh, bd1, gsp]
    cases b : ltb n (x + nI k) with
    | false =>
      refine ⟨I, ?_, hC, hV, fun _ _ _ => rfl⟩
      rw [if_pos (show yn false = 0 from rfl)]; rfl
    | true =>
      obtain ⟨j, hj, ej⟩ := ltb_e (by omega) b
      have hset := set_B hV (mayb D (insm D) (lst D)) (it j)
      have hset : (ltb 10 (it j) && (fre D (insm D) (lst D)).testBit (it j).toNatClampNeg) = gB D (it j) := hset
      have hij := hit j (by omega)
      rw [ej, if_neg (by decide), nI_clamp (by omega), f2, rl1, f4]
      simp (disch := omega) only [so_0, ly_0_0 hR, ly_0_1 hR, ly_0_3 hR, ly_0_4 hR, ly_0_5 hR, ly_0_7 hR, ly_0_8 hR, ly_0_9 hR, ly_0_10 hR, q_may hR hC hV, hij, x_holdsA hfl, hset, f_X11_goes_106, lit, gp1, rl1, rs1, bd1, lt1, n_add, n_sub, n_dec, n_le, n_lt, n_eq, n_in, nI_clamp, n_mul, m_or, m_and, m_pow, m_bit, m_dif, n_neg, yn_0, yn_1, yn_z, yn_d, one31, Nat.add_sub_cancel, Nat.not_lt_zero, if_true, if_false, ite_true, ite_false, Bool.true_eq_false, Bool.false_eq_true, Nat.add_zero, Nat.zero_add]
      cases hb : gB D (it j) with
      | false =>
        obtain ⟨I', e1, e2, e3, e4⟩ := ih (k + 1) f D I w (by omega) (by omega) hC hV h1 hit
        exact ⟨I', by rw [if_pos rfl, if_neg (by decide)]; exact e1, by rw [if_neg (by decide)]; exact e2, by rw [if_neg (by decide)]; exact e3, e4⟩
      | true =>
        obtain ⟨g, hg, eg, ec, hmb, hi⟩ := gB_e hV hb
        obtain ⟨I1, g1, g2, g3⟩ := p_putOut (J := J) hR hC hV hi
        obtain ⟨I', e1, e2, e3, e4⟩ := ih (k + 1) f (Dout D g) I1 (w + 1) (by omega) (by omega) g3 (VD_out hV hi) (by rw [g2 _ _ (by omega)]; exact h1) (fun i q => by rw [g2 _ _ (by omega)]; exact hit i q)
        rw [ec]
        refine ⟨I', ?_, by rw [if_pos rfl]; exact e2, by rw [if_pos rfl]; exact e3, fun a j q => by rw [e4 a j q, g2 a j q]⟩
        rw [if_neg (by decide), if_pos rfl, eg]
        simp (disch := omega) only [so_0, so_1, ly_0_0 hR, ly_0_1 hR, ly_0_3 hR, ly_0_4 hR, ly_0_5 hR, ly_0_7 hR, ly_0_8 hR, ly_0_9 hR, ly_0_10 hR, ly_1_0 hR, ly_1_1 hR, ly_1_2 hR, ly_1_3 hR, ly_1_4 hR, ly_1_7 hR, ly_1_11 hR, ly_1_12 hR, ly_1_13 hR, g1, lit, gp1, rl1, rs1, bd1, lt1, n_add, n_sub, n_dec, n_le, n_lt, n_eq, n_in, nI_clamp, n_mul, m_or, m_and, m_pow, m_bit, m_dif, n_neg, yn_0, yn_1, yn_z, yn_d, one31, Nat.add_sub_cancel, Nat.not_lt_zero, if_true, if_false, ite_true, ite_false, Bool.true_eq_false, Bool.false_eq_true, Nat.add_zero, Nat.zero_add]
        exact e1
theorem m_go_v (hR : Lay R) {D : Dt} {I : Iw} (hM : MR I 66 D) (hV : VD D) (v : Int32) : ∃ I' y, f_X12_go (S0 ++ J) R I 65 v = some (I', y) ∧ (nI 0 ≤ y ↔ gB D v = true) ∧ MR I' 66 (if gB D v then Dout D v.toNatClampNeg else D) ∧ ∀ a j, a ≠ 66 → a ≠ 77 → I' a j = I a j := by
  have h9 := hV.1
  have his := m_isN (J := J) hR hM hV v
  cases b1 : ltb (d_n D) v with
  | false =>
    have hb : gB D v = false := by rw [gB, b1]; rfl
    exact ⟨I, -nI 1, by simp (disch := omega) only [f_X12_go, so_65, ly_65_0 hR, ly_65_1 hR, ly_65_2 hR, ly_65_4 hR, ly_65_11 hR, ly_65_13 hR, ly_65_14 hR, ly_65_15 hR, ly_65_16 hR, ly_65_17 hR, ly_65_18 hR, ly_65_19 hR, ly_65_20 hR, ly_65_22 hR, ly_65_24 hR, ly_65_25 hR, ly_65_26 hR, ly_65_27 hR, ly_65_28 hR, ly_65_29 hR, ly_65_30 hR, his, b1, lit, gp1, rl1, rs1, bd1, lt1, n_add, n_sub, n_dec, n_le, n_lt, n_eq, n_in, nI_clamp, n_mul, m_or, m_and, m_pow, m_bit, m_dif, n_neg, yn_0, yn_1, yn_z, yn_d, one31, Nat.add_sub_cancel, Nat.not_lt_zero, if_true, if_false, ite_true, ite_false, Bool.true_eq_false, Bool.false_eq_true, Nat.add_zero, Nat.zero_add], by rw [hb, m1_ge0]; simp, by rw [hb]; exact hM, fun _ _ _ _ => rfl⟩
  | true =>
    obtain ⟨g, hg, rfl⟩ := ltb_e (by omega) b1
    have hgc : (nI g).toNatClampNeg = g := nI_clamp (by omega)
    have hb : gB D (nI g) = mayb D (insm D) (lst D) g := by rw [gB, b1, hgc]; rfl
    rw [hb, hgc]
    cases hm : mayb D (insm D) (lst D) g with
    | false => exact ⟨I, -nI 4, by simp (disch := omega) only [f_X12_go, so_65, ly_65_0 hR, ly_65_1 hR, ly_65_2 hR, ly_65_4 hR, ly_65_11 hR, ly_65_13 hR, ly_65_14 hR, ly_65_15 hR, ly_65_16 hR, ly_65_17 hR, ly_65_18 hR, ly_65_19 hR, ly_65_20 hR, ly_65_22 hR, ly_65_24 hR, ly_65_25 hR, ly_65_26 hR, ly_65_27 hR, ly_65_28 hR, ly_65_29 hR, ly_65_30 hR, his, b1, m_mayGo hR hM hV hg, hm, lit, gp1, rl1, rs1, bd1, lt1, n_add, n_sub, n_dec, n_le, n_lt, n_eq, n_in, nI_clamp, n_mul, m_or, m_and, m_pow, m_bit, m_dif, n_neg, yn_0, yn_1, yn_z, yn_d, one31, Nat.add_sub_cancel, Nat.not_lt_zero, if_true, if_false, ite_true, ite_false, Bool.true_eq_false, Bool.false_eq_true, Nat.add_zero, Nat.zero_add], by rw [show (nI 0 ≤ -nI 4) = False from by decide]; simp, hM, fun _ _ _ _ => rfl⟩
    | true =>
      have hi := may_in hm
      obtain ⟨I2, e1, e2, e3⟩ := m_went (J := J) hR hM hV hi
      have hfl := fee_lt hV hg
      refine ⟨I2, nI (fee D g), by simp (disch := omega) only [f_X12_go, so_65, ly_65_0 hR, ly_65_1 hR, ly_65_2 hR, ly_65_4 hR, ly_65_11 hR, ly_65_13 hR, ly_65_14 hR, ly_65_15 hR, ly_65_16 hR, ly_65_17 hR, ly_65_18 hR, ly_65_19 hR, ly_65_20 hR, ly_65_22 hR, ly_65_24 hR, ly_65_25 hR, ly_65_26 hR, ly_65_27 hR, ly_65_28 hR, ly_65_29 hR, ly_65_30 hR, his, b1, m_mayGo hR hM hV hg, hm, e1, lit, gp1, rl1, rs1, bd1, lt1, n_add, n_sub, n_dec, n_le, n_lt, n_eq, n_in, nI_clamp, n_mul, m_or, m_and, m_pow, m_bit, m_dif, n_neg, yn_0, yn_1, yn_z, yn_d, one31, Nat.add_sub_cancel, Nat.not_lt_zero, if_true, if_false, ite_true, ite_false, Bool.true_eq_false, Bool.false_eq_true, Nat.add_zero, Nat.zero_add], ?_, e2, e3⟩
      rw [n_le (by decide) (by omega)]; simp
theorem m_goes33 (hR : Lay R) {s n m : Nat} {x : Int32} {it : Nat → Int32} (hs : s < 4) (hn : n ≤ 40) (hm : m ≤ 20) : ∀ (r k f : Nat) (D : Dt) (I : Iw) (w : Nat), k + r = m → r + 1 < f → MR I 66 D → VD D → I 82 s = nI n → (∀ j, j < 40 → I 80 (40 * s + j) = it j) →
    ∃ I', f_X12_goes_33 (S0 ++ J) R f I 65 (nI s) x (nI m) (nI 0) (nI w) (nI k) = some (I', (gsp it x n r k D w).2) ∧ MR I' 66 (gsp it x n r k D w).1 ∧ ∀ a j, a ≠ 66 → a ≠ 77 → I' a j = I a j := by
  intro r
  induction r with
  | zero =>
    intro k f D I w hk hf hM hV h1 hit
    obtain ⟨f, rfl⟩ := Nat.exists_eq_succ_of_ne_zero (n := f) (by omega)
    refine ⟨I, ?_, hM, fun _ _ _ _ => rfl⟩
    rw [f_X12_goes_33, if_pos (by rw [n_le (by omega) (by omega)]; omega), f_X12_goes_122, if_pos (show nI 0 = 0 from rfl)]; rfl
  | succ r ih =>
    intro k f D I w hk hf hM hV h1 hit
    obtain ⟨f, rfl⟩ := Nat.exists_eq_succ_of_ne_zero (n := f) (by omega)
    have bad : f_X12_goes_33 (S0 ++ J) R f I 65 (nI s) x (nI m) (-nI 12) (nI w) (nI (k + 1)) = some (I, -nI 12) := by
      obtain ⟨f', hf'⟩ := Nat.exists_eq_succ_of_ne_zero (n := f) (by omega)
      have z : ¬ (-nI 12 = 0) := by decide
      rw [hf', f_X12_goes_33, f_X12_goes_122, if_neg z]
      split <;> rfl
    rw [f_X12_goes_33]
    simp (disch := omega) only [so_65, ly_65_0 hR, ly_65_1 hR, ly_65_2 hR, ly_65_4 hR, ly_65_11 hR, ly_65_13 hR, ly_65_14 hR, ly_65_15 hR, ly_65_16 hR, ly_65_17 hR, ly_65_18 hR, ly_65_19 hR, ly_65_20 hR, ly_65_22 hR, ly_65_24 hR, ly_65_25 hR, ly_65_26 hR, ly_65_27 hR, ly_65_28 hR, ly_65_29 hR, ly_65_30 hR, ao_82, h1, f_X12_goes_72, f_X12_goes_78, f_X12_goes_116, lit, gp1, rl1, rs1, bd1, lt1, n_add, n_sub, n_dec, n_le, n_lt, n_eq, n_in, nI_clamp, n_mul, m_or, m_and, m_pow, m_bit, m_dif, n_neg, yn_0, yn_1, yn_z, yn_d, one31, Nat.add_sub_cancel, Nat.not_lt_zero, if_true, if_false, ite_true, ite_false, Bool.true_eq_false, Bool.false_eq_true, Nat.add_zero, Nat.zero_add]
    rw [if_neg (show ¬ m ≤ k by omega), gsp]
    have z12 : (-nI 12 = nI 0) = False := by decide
    rcases at_cs x (k := k) (n := n) (by omega) hn with ⟨j, hj, ej, c1, c2⟩ | ⟨hb, hc⟩
    · rw [if_neg c1, if_pos c2, ej, ltb_n (by omega) (by omega), decide_eq_true hj, if_pos rfl, nI_clamp (by omega)]
      have hidx : nI (40 * s) + x + nI k = nI (40 * s + j) := by rw [Int32.add_assoc, ej, n_add]
      have hij := hit j (by omega)
      obtain ⟨I1, y, g1, g2, g3, g4⟩ := m_go_v (J := J) hR hM hV (it j)
      simp (disch := omega) only [hidx, so_65, ly_65_0 hR, ly_65_1 hR, ly_65_2 hR, ly_65_4 hR, ly_65_11 hR, ly_65_13 hR, ly_65_14 hR, ly_65_15 hR, ly_65_16 hR, ly_65_17 hR, ly_65_18 hR, ly_65_19 hR, ly_65_20 hR, ly_65_22 hR, ly_65_24 hR, ly_65_25 hR, ly_65_26 hR, ly_65_27 hR, ly_65_28 hR, ly_65_29 hR, ly_65_30 hR, ao_80, hij, g1, f_X12_goes_113, f_X12_goes_116, lit, gp1, rl1, rs1, bd1, lt1, n_add, n_sub, n_dec, n_le, n_lt, n_eq, n_in, nI_clamp, n_mul, m_or, m_and, m_pow, m_bit, m_dif, n_neg, yn_0, yn_1, yn_z, yn_d, one31, Nat.add_sub_cancel, Nat.not_lt_zero, if_true, if_false, ite_true, ite_false, Bool.true_eq_false, Bool.false_eq_true, Nat.add_zero, Nat.zero_add]
      cases hb : gB D (it j) with
      | false =>
        rw [hb] at g2 g3
        have hy : ¬ nI 0 ≤ y := fun q => by have := g2.mp q; cases this
        obtain ⟨I', e1, e2, e3⟩ := ih (k + 1) f D I1 w (by omega) (by omega) g3 hV (by rw [g4 _ _ (by decide) (by decide)]; exact h1) (fun i q => by rw [g4 _ _ (by decide) (by decide)]; exact hit i q)
        refine ⟨I', ?_, by rw [if_neg (by decide)]; exact e2, fun a j a1 a2 => by rw [e3 a j a1 a2, g4 a j a1 a2]⟩
        rw [if_neg hy, if_neg (by decide)]
        exact e1
      | true =>
        rw [hb] at g2 g3
        have hy : nI 0 ≤ y := g2.mpr rfl
        obtain ⟨g, hg, eg, ec, hmb, hi⟩ := gB_e hV hb
        rw [if_pos rfl, ec] at g3
        obtain ⟨I', e1, e2, e3⟩ := ih (k + 1) f (Dout D g) I1 (w + 1) (by omega) (by omega) g3 (VD_out hV hi) (by rw [g4 _ _ (by decide) (by decide)]; exact h1) (fun i q => by rw [g4 _ _ (by decide) (by decide)]; exact hit i q)
        rw [ec]
        refine ⟨I', ?_, by rw [if_pos rfl]; exact e2, fun a j a1 a2 => by rw [e3 a j a1 a2, g4 a j a1 a2]⟩
        rw [if_pos hy, if_pos rfl]
        exact e1
    · rw [hb, if_neg (show ¬ (false = true) by decide)]
      refine ⟨I, ?_, hM, fun _ _ _ _ => rfl⟩
      simp only [z12, if_false]
      rcases hc with c | c
      · rw [if_pos c]; exact bad
      · rw [if_neg c]
        by_cases c' : lg_cmp (x.toInt64 + (nI k).toInt64) 0 < nI 0
        · rw [if_pos c']; exact bad
        · rw [if_neg c']; exact bad
theorem z_goes {I : Iw} {D : Dt} (hR : Lay R) (h : Core I D T) (hK : SHp I) (x1 x2 x3 : Int32) : ZZ I T (f_X11_goes (S0 ++ J) R I 0 x1 x2 x3) (fun I1 => f_X12_goes (S0 ++ J) R I1 65 x1 x2 x3) := by
  have ⟨hC, hM, hV, hT⟩ := h
  cases b1 : btw x1 (nI 0) (nI 3) with
  | false => exact ZZ_no h (r := -nI 1) (by simp (disch := omega) only [f_X11_goes, x_sheet, b1, lit, gp1, rl1, rs1, bd1, lt1, n_add, n_sub, n_dec, n_le, n_lt, n_eq, n_in, nI_clamp, n_mul, m_or, m_and, m_pow, m_bit, m_dif, n_neg, yn_0, yn_1, yn_z, yn_d, one31, Nat.add_sub_cancel, Nat.not_lt_zero, if_true, if_false, ite_true, ite_false, Bool.true_eq_false, Bool.false_eq_true, Nat.add_zero, Nat.zero_add]) (by simp (disch := omega) only [f_X12_goes, m_isSheet, b1, lit, gp1, rl1, rs1, bd1, lt1, n_add, n_sub, n_dec, n_le, n_lt, n_eq, n_in, nI_clamp, n_mul, m_or, m_and, m_pow, m_bit, m_dif, n_neg, yn_0, yn_1, yn_z, yn_d, one31, Nat.add_sub_cancel, Nat.not_lt_zero, if_true, if_false, ite_true, ite_false, Bool.true_eq_false, Bool.false_eq_true, Nat.add_zero, Nat.zero_add])
  | true =>
    obtain ⟨s, -, s3, rfl⟩ := btw_e (by decide) (by decide) b1
    cases b2 : btw x3 (nI 0) (nI 20) with
    | false => exact ZZ_no h (r := -nI 1) (by simp (disch := omega) only [f_X11_goes, x_sheet, b1, x_btw, b2, lit, gp1, rl1, rs1, bd1, lt1, n_add, n_sub, n_dec, n_le, n_lt, n_eq, n_in, nI_clamp, n_mul, m_or, m_and, m_pow, m_bit, m_dif, n_neg, yn_0, yn_1, yn_z, yn_d, one31, Nat.add_sub_cancel, Nat.not_lt_zero, if_true, if_false, ite_true, ite_false, Bool.true_eq_false, Bool.false_eq_true, Nat.add_zero, Nat.zero_add]) (by simp (disch := omega) only [f_X12_goes, m_isSheet, b1, m_btw, b2, lit, gp1, rl1, rs1, bd1, lt1, n_add, n_sub, n_dec, n_le, n_lt, n_eq, n_in, nI_clamp, n_mul, m_or, m_and, m_pow, m_bit, m_dif, n_neg, yn_0, yn_1, yn_z, yn_d, one31, Nat.add_sub_cancel, Nat.not_lt_zero, if_true, if_false, ite_true, ite_false, Bool.true_eq_false, Bool.false_eq_true, Nat.add_zero, Nat.zero_add])
    | true =>
      obtain ⟨m, -, m20, rfl⟩ := btw_e (by decide) (by decide) b2
      have hs : s < 4 := by omega
      obtain ⟨n, n40, e0, e1, e2, e3, e4⟩ := hK s hs
      obtain ⟨f1, f2, f3, f4⟩ := sh_f (J := J) hR hs
      have hq := q_refusal (J := J) hR hs e0 0
      have hm := m_refuses (J := J) hR hs e3 0
      by_cases h0 : rfS (I 81 s) 0 = nI 0
      · obtain ⟨I1, g1, g2, g3, g4⟩ := q_goes49 (J := J) (x := x2) (it := fun j => I 80 (40 * s + j)) hR hs n40 m20 m 0 512 D I 0 (by omega) (by omega) hC hV e1 e4
        have hm1 : f_X12_refuses (S0 ++ J) R I1 65 (nI s) (nI 0) = some (nI 0) := by
          have := m_refuses (J := J) (I := I1) hR hs (by rw [g4 81 s (by omega)]; exact e3) 0
          rw [this, g4 81 s (by omega), h0]
        obtain ⟨I2, k1, k2, k3⟩ := m_goes33 (J := J) (x := x2) (it := fun j => I 80 (40 * s + j)) hR hs n40 m20 m 0 512 D I1 0 (by omega) (by omega) (MR_fr (fun j => g4 66 j (by omega)) hM) hV (by rw [g4 82 s (by omega)]; exact e2) (fun j _ => g4 80 _ (by omega))
        refine ZZ_D h (r := (gsp (fun j => I 80 (40 * s + j)) x2 n m 0 D 0).2) (I1 := I1) (I2 := I2) ?_ ?_ g4 k3 g2 k2 g3
        · simp (disch := omega) only [f_X11_goes, x_sheet, b1, x_btw, b2, so_0, ly_0_0 hR, ly_0_1 hR, ly_0_3 hR, ly_0_4 hR, ly_0_5 hR, ly_0_7 hR, ly_0_8 hR, ly_0_9 hR, ly_0_10 hR, ao_53, al_53, ly_53_0 hR, ly_53_1 hR, ly_53_2 hR, ly_53_3 hR, f1, f3, hq, h0, lit, gp1, rl1, rs1, bd1, lt1, n_add, n_sub, n_dec, n_le, n_lt, n_eq, n_in, nI_clamp, n_mul, m_or, m_and, m_pow, m_bit, m_dif, n_neg, yn_0, yn_1, yn_z, yn_d, one31, Nat.add_sub_cancel, Nat.not_lt_zero, if_true, if_false, ite_true, ite_false, Bool.true_eq_false, Bool.false_eq_true, Nat.add_zero, Nat.zero_add]
          exact g1
        · simp (disch := omega) only [f_X12_goes, m_isSheet, b1, m_btw, b2, so_65, ly_65_0 hR, ly_65_1 hR, ly_65_2 hR, ly_65_4 hR, ly_65_11 hR, ly_65_13 hR, ly_65_14 hR, ly_65_15 hR, ly_65_16 hR, ly_65_17 hR, ly_65_18 hR, ly_65_19 hR, ly_65_20 hR, ly_65_22 hR, ly_65_24 hR, ly_65_25 hR, ly_65_26 hR, ly_65_27 hR, ly_65_28 hR, ly_65_29 hR, ly_65_30 hR, hm1, lit, gp1, rl1, rs1, bd1, lt1, n_add, n_sub, n_dec, n_le, n_lt, n_eq, n_in, nI_clamp, n_mul, m_or, m_and, m_pow, m_bit, m_dif, n_neg, yn_0, yn_1, yn_z, yn_d, one31, Nat.add_sub_cancel, Nat.not_lt_zero, if_true, if_false, ite_true, ite_false, Bool.true_eq_false, Bool.false_eq_true, Nat.add_zero, Nat.zero_add]
          exact k1
      · refine ZZ_no h (r := rfS (I 81 s) 0) (by simp (disch := omega) only [f_X11_goes, x_sheet, b1, x_btw, b2, so_0, ly_0_0 hR, ly_0_1 hR, ly_0_3 hR, ly_0_4 hR, ly_0_5 hR, ly_0_7 hR, ly_0_8 hR, ly_0_9 hR, ly_0_10 hR, ao_53, al_53, ly_53_0 hR, ly_53_1 hR, ly_53_2 hR, ly_53_3 hR, f1, f3, hq, h0, lit, gp1, rl1, rs1, bd1, lt1, n_add, n_sub, n_dec, n_le, n_lt, n_eq, n_in, nI_clamp, n_mul, m_or, m_and, m_pow, m_bit, m_dif, n_neg, yn_0, yn_1, yn_z, yn_d, one31, Nat.add_sub_cancel, Nat.not_lt_zero, if_true, if_false, ite_true, ite_false, Bool.true_eq_false, Bool.false_eq_true, Nat.add_zero, Nat.zero_add]) ?_
        simp (disch := omega) only [f_X12_goes, m_isSheet, b1, m_btw, b2, so_65, ly_65_0 hR, ly_65_1 hR, ly_65_2 hR, ly_65_4 hR, ly_65_11 hR, ly_65_13 hR, ly_65_14 hR, ly_65_15 hR, ly_65_16 hR, ly_65_17 hR, ly_65_18 hR, ly_65_19 hR, ly_65_20 hR, ly_65_22 hR, ly_65_24 hR, ly_65_25 hR, ly_65_26 hR, ly_65_27 hR, ly_65_28 hR, ly_65_29 hR, ly_65_30 hR, hm, lit, gp1, rl1, rs1, bd1, lt1, n_add, n_sub, n_dec, n_le, n_lt, n_eq, n_in, nI_clamp, n_mul, m_or, m_and, m_pow, m_bit, m_dif, n_neg, yn_0, yn_1, yn_z, yn_d, one31, Nat.add_sub_cancel, Nat.not_lt_zero, if_true, if_false, ite_true, ite_false, Bool.true_eq_false, Bool.false_eq_true, Nat.add_zero, Nat.zero_add]
        rw [f_X12_goes_33, f_X12_goes_122]
        simp (disch := omega) only [h0, lit, gp1, rl1, rs1, bd1, lt1, n_add, n_sub, n_dec, n_le, n_lt, n_eq, n_in, nI_clamp, n_mul, m_or, m_and, m_pow, m_bit, m_dif, n_neg, yn_0, yn_1, yn_z, yn_d, one31, Nat.add_sub_cancel, Nat.not_lt_zero, if_true, if_false, ite_true, ite_false, Bool.true_eq_false, Bool.false_eq_true, Nat.add_zero, Nat.zero_add]
        split <;> rfl
end GOES
