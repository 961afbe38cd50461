/-! CALLS: a good drawn by lot -/
theorem litq (n : Nat) : (OfNat.ofNat n : Int32) = nI (OfNat.ofNat n) := id rfl
theorem rs1q {α : Type} (b : Nat) (k : Nat → Option α) : rs (some (.inr b)) k = k b := id rfl
theorem so0q {J : Sh} : sok (S0 ++ J) 0 11 12 = true := id rfl
theorem so1q {J : Sh} : sok (S0 ++ J) 1 7 16 = true := id rfl
def lotN (z : Int32) : Int32 := z * 1103515245 + 12345
theorem lot_e (z : Int32) : z * 1103515245 + 12345 = lotN z := id rfl
def drw (m : Nat) : Nat → Nat → Nat → Option Nat
  | 0, _, _ => none
  | r + 1, t, k => if m.testBit t then (if k = 0 then some t else drw m r (t + 1) (k - 1)) else drw m r (t + 1) k
def shr (z : Int32) : Nat := (z.toUInt32 >>> ((16 : Int32).toUInt32 &&& Int32.toUInt32 31)).toNat
theorem shr_lt (z : Int32) : shr z < 65536 := by
  unfold shr
  rw [UInt32.toNat_shiftRight, show ((16 : Int32).toUInt32 &&& Int32.toUInt32 31).toNat % 32 = 16 by decide, Nat.shiftRight_eq_div_pow]
  have := z.toUInt32.toNat_lt
  omega
theorem u32_n (x : UInt32) : x.toInt32 = nI x.toNat := by
  apply Int32.toBitVec_inj.mp
  show x.toBitVec = BitVec.ofNat 32 x.toBitVec.toNat
  rw [BitVec.ofNat_toNat, BitVec.setWidth_eq]
theorem shr_e (z : Int32) : (z.toUInt32 >>> ((16 : Int32).toUInt32 &&& Int32.toUInt32 31)).toInt32 = nI (shr z) := u32_n _
theorem n_divn {a c : Nat} (ha : a < 2 ^ 31) (hc : c < 2 ^ 31) : nI a / nI c = nI (a / c) := by
  apply Int32.toInt_inj.mp
  have hd : a / c ≤ a := Nat.div_le_self a c
  rw [Int32.toInt_div, nI, nI, nI, Int32.toInt_ofNat_of_lt ha, Int32.toInt_ofNat_of_lt hc, Int32.toInt_ofNat_of_lt (by omega)]
  have : ((a : Int).tdiv (c : Nat)) = ((a / c : Nat) : Int) := by
    rw [Int.ofNat_tdiv]
  obtain ⟨d, hd2⟩ : ∃ d, d = a / c := ⟨_, rfl⟩
  rw [this, ← hd2]
  rw [← hd2] at hd
  exact Int.bmod_eq_of_le (by omega) (by omega)
theorem n_mod {a c : Nat} (ha : a < 2 ^ 31) (hc : c < 2 ^ 31) : nI a - nI a / nI c * nI c = nI (a % c) := by
  have h := Nat.div_mul_le_self a c
  rw [n_divn ha hc, n_mul, n_sub h]
  congr 1
  have := Nat.div_add_mod a c
  rw [Nat.mul_comm] at this
  omega
theorem drw_lt {m : Nat} : ∀ {r t k g : Nat}, drw m r t k = some g → g < t + r ∧ m.testBit g = true
  | 0, _, _, _, h => by cases h
  | r + 1, t, k, g, h => by
    rw [drw] at h
    split at h
    · rename_i hb
      split at h
      · cases h; exact ⟨by omega, hb⟩
      · have := drw_lt h; exact ⟨by omega, this.2⟩
    · have := drw_lt h; exact ⟨by omega, this.2⟩
theorem drw_ok {m : Nat} : ∀ {r t k : Nat}, cn m t + k < cn m (t + r) → ∃ g, drw m r t k = some g
  | 0, t, k, h => absurd h (by rw [Nat.add_zero]; omega)
  | r + 1, t, k, h => by
    rw [drw]
    have h2 : cn m (t + 1) = cn m t + (if m.testBit t then 1 else 0) := rfl
    rw [show t + (r + 1) = t + 1 + r by omega] at h
    by_cases hb : m.testBit t = true
    · rw [if_pos hb]
      rw [if_pos hb] at h2
      by_cases hk : k = 0
      · rw [if_pos hk]; exact ⟨t, rfl⟩
      · rw [if_neg hk]; exact drw_ok (by omega)
    · rw [if_neg hb]
      rw [if_neg hb] at h2
      exact drw_ok (by omega)
theorem cn_hi {m n : Nat} (h : ∀ i, n ≤ i → m.testBit i = false) : ∀ k, n ≤ k → cn m k = cn m n := by
  intro k hk
  induction k with
  | zero => rw [Nat.le_zero.mp hk]
  | succ k ih =>
    by_cases e : n = k + 1
    · rw [e]
    · rw [cn, h k (by omega), if_neg (by decide), ih (by omega)]; rfl
theorem isin_z (D : Dt) (v : Int32) (g : Nat) : isin (Dz D v) g = isin D g := rfl
theorem fre_z (D : Dt) (v : Int32) : fre (Dz D v) = fre D := rfl
theorem insm_z (D : Dt) (v : Int32) : insm (Dz D v) = insm D := rfl
theorem lst_z (D : Dt) (v : Int32) : lst (Dz D v) = lst D := rfl
theorem isin_zt {D : Dt} {g : Nat} (h : isin D g = true) (v : Int32) : isin (Dz D v) g = true := by rw [isin_z]; exact h
/-- which good is drawn, with z -/
def drwG (D : Dt) (z : Int32) : Option Nat := if fre D (insm D) (lst D) = 0 then none else drw (fre D (insm D) (lst D)) 9 0 (shr (lotN z) % cnt (fre D (insm D) (lst D)))
theorem fre_9 {D : Dt} (hV : VD D) (s l : Nat) : cnt (fre D s l) = cn (fre D s l) 9 := by
  show cn (fre D s l) 9 + (if (fre D s l).testBit 9 then 1 else 0) = _
  rw [fre_hi (by have := hV.1; omega), if_neg (by decide)]; rfl
theorem drwG_some {D : Dt} (hV : VD D) (h : fre D (insm D) (lst D) ≠ 0) (z : Int32) : ∃ g, drwG D z = some g ∧ g < d_n D ∧ isin D g = true := by
  have hc : cnt (fre D (insm D) (lst D)) ≠ 0 := fun q => h ((cnt_0 (fre_lt hV _ _)).mp q)
  obtain ⟨g, hg⟩ := drw_ok (m := fre D (insm D) (lst D)) (r := 9) (t := 0) (k := shr (lotN z) % cnt (fre D (insm D) (lst D))) (by
    have := Nat.mod_lt (shr (lotN z)) (show 0 < cnt (fre D (insm D) (lst D)) by omega)
    rw [Nat.zero_add, ← fre_9 hV]
    show 0 + _ < _
    omega)
  have hb := (drw_lt hg).2
  exact ⟨g, by rw [drwG, if_neg h]; exact hg, (fre_bit hb).1, fre_in hb⟩
section CALLS7
variable {J : Sh} {R : Rw} {I : Iw} {D : Dt} {T : Nat}
theorem q_drawn23 {S : Sh} {m : Nat} (hm : m < 1024) : ∀ (r t f k : Nat), t + r = 9 → r < f → k < 2 ^ 30 →
    f_X11_drawnOf_23 S R I f (nI m) (nI k) (nI t) = some (noO (drw m r t k)) := by
  intro r
  induction r with
  | zero =>
    intro t f k ht hf hk
    obtain ⟨f, rfl⟩ := Nat.exists_eq_succ_of_ne_zero (n := f) (by omega)
    have : t = 9 := by omega
    subst this
    rw [f_X11_drawnOf_23, if_pos (by decide)]; rfl
  | succ r ih =>
    intro t f k ht hf hk
    obtain ⟨f, rfl⟩ := Nat.exists_eq_succ_of_ne_zero (n := f) (by omega)
    have ht10 : t < 10 := by omega
    rw [f_X11_drawnOf_23]
    simp (disch := omega) only [x_holds hm ht10, f_X11_drawnOf_49, lit, gp1, rl1, rs1, bd1, lt1, n_add, n_sub, n_dec, n_le, n_lt, n_eq, n_in, nI_clamp, n_mul, m_or, m_and, m_pow, m_bit, m_dif, n_neg, yn_0, yn_1, yn_z, yn_d, one31, Nat.add_sub_cancel, Nat.not_lt_zero, if_true, if_false, ite_true, ite_false, Bool.true_eq_false, Bool.false_eq_true, Nat.add_zero, Nat.zero_add]
    rw [if_neg (by omega), drw]
    cases hb : m.testBit t with
    | false =>
      rw [if_pos rfl, if_neg (by decide)]
      exact ih (t + 1) f k (by omega) (by omega) hk
    | true =>
      rw [if_neg (by decide), if_pos rfl]
      by_cases e : k = 0
      · rw [if_pos e, if_pos e]; rfl
      · rw [if_neg e, if_neg e]
        exact ih (t + 1) f (k - 1) (by omega) (by omega) (by omega)
theorem q_drawnOf {S : Sh} (hV : VD D) (h : fre D (insm D) (lst D) ≠ 0) (z : Int32) : f_X11_drawnOf S R I (nI (fre D (insm D) (lst D))) (lotN z) = some (noO (drwG D z)) := by
  have hm := fre_lt hV (insm D) (lst D)
  have hc : cnt (fre D (insm D) (lst D)) ≠ 0 := fun q => h ((cnt_0 hm).mp q)
  have hc10 : cnt (fre D (insm D) (lst D)) ≤ 10 := cn_le (s := fre D (insm D) (lst D)) 10
  have hs := shr_lt (lotN z)
  have hz : nz (nI (cnt (fre D (insm D) (lst D)))) = true := by
    unfold nz
    refine decide_eq_true fun q => hc ?_
    have : nI (cnt (fre D (insm D) (lst D))) = nI 0 := q
    rwa [n_eq (by omega) (by decide)] at this
  have hmod := Nat.mod_lt (shr (lotN z)) (show 0 < cnt (fre D (insm D) (lst D)) by omega)
  rw [f_X11_drawnOf]
  simp only [bitc hm, bd1]
  rw [if_neg (by show ¬ (nI (cnt (fre D (insm D) (lst D))) = nI 0); rw [n_eq (by omega) (by decide)]; exact hc), hz, gp1, f_X11_drawnOf_19]
  rw [shr_e, n_mod (by omega) (by omega)]
  rw [drwG, if_neg h]
  exact q_drawn23 hm 9 0 512 _ rfl (by decide) (by omega)
theorem m_drawn75 (hR : Lay R) {m : Nat} (hm : m < 1024) : ∀ (r t f k g : Nat), t + r = 9 → r < f → k < 2 ^ 30 → drw m r t k = some g →
    f_X12_drawn_75 (S0 ++ J) R f I 65 (nI m) (nI k) (nI t) = bd (f_X12_out (S0 ++ J) R I 65 (nI g)) (fun r20 => some (r20, nI g)) := by
  intro r
  induction r with
  | zero => intro t f k g ht hf hk h; cases h
  | succ r ih =>
    intro t f k g ht hf hk h
    obtain ⟨f, rfl⟩ := Nat.exists_eq_succ_of_ne_zero (n := f) (by omega)
    have ht31 : t < 31 := by omega
    have hb01 : (if m.testBit t = true then 1 else 0) ≤ 1 := by split <;> omega
    rw [f_X12_drawn_75]
    simp only [q_bit ht31 hm]
    rw [drw] at h
    cases hb : m.testBit t with
    | false =>
      rw [hb, if_neg (by decide)] at h
      have := ih (t + 1) f k g (by omega) (by omega) hk h
      have hx : nI k - yn false = nI k := by show nI k - nI 0 = nI k; rw [n_sub (by omega)]; rfl
      have hp : f_X12_drawn_88 (S0 ++ J) R (f_X12_drawn_75 (S0 ++ J) R f) I 65 (nI m) (nI k) (nI t) = f_X12_drawn_75 (S0 ++ J) R f I 65 (nI m) (nI k) (nI (t + 1)) := by
        rw [f_X12_drawn_88, q_bit ht31 hm, hb, hx]
        simp (disch := omega) only [n_add, lit, gp1, rl1, rs1, bd1, lt1, n_add, n_sub, n_dec, n_le, n_lt, n_eq, n_in, nI_clamp, n_mul, m_or, m_and, m_pow, m_bit, m_dif, n_neg, yn_0, yn_1, yn_z, yn_d, one31, Nat.add_sub_cancel, Nat.not_lt_zero, if_true, if_false, ite_true, ite_false, Bool.true_eq_false, Bool.false_eq_true, Nat.add_zero, Nat.zero_add]
      by_cases hk0 : (0 : Int32) < nI k
      · rw [if_pos hk0, hp]; exact this
      · rw [if_neg hk0, if_pos (by rfl), hp]; exact this
    | true =>
      rw [hb, if_pos rfl] at h
      by_cases e : k = 0
      · subst e
        rw [if_pos rfl] at h
        cases h
        rw [if_neg (by decide), if_neg (by decide)]
        simp (disch := omega) only [so_65, ly_65_0 hR, ly_65_1 hR, ly_65_2 hR, ly_65_4 hR, ly_65_11 hR, ly_65_13 hR, ly_65_14 hR, ly_65_15 hR, ly_65_16 hR, ly_65_17 hR, ly_65_18 hR, ly_65_19 hR, ly_65_20 hR, ly_65_22 hR, ly_65_24 hR, ly_65_25 hR, ly_65_26 hR, ly_65_27 hR, ly_65_28 hR, ly_65_29 hR, ly_65_30 hR, lit, gp1, rl1, rs1, bd1, lt1, n_add, n_sub, n_dec, n_le, n_lt, n_eq, n_in, nI_clamp, n_mul, m_or, m_and, m_pow, m_bit, m_dif, n_neg, yn_0, yn_1, yn_z, yn_d, one31, Nat.add_sub_cancel, Nat.not_lt_zero, if_true, if_false, ite_true, ite_false, Bool.true_eq_false, Bool.false_eq_true, Nat.add_zero, Nat.zero_add]
      · rw [if_neg e] at h
        have := ih (t + 1) f (k - 1) g (by omega) (by omega) (by omega) h
        have hx : nI k - yn true = nI (k - 1) := by show nI k - nI 1 = _; rw [n_sub (by omega)]
        rw [if_pos (by show nI 0 < nI k; rw [n_lt (by decide) (by omega)]; omega), f_X12_drawn_88, q_bit ht31 hm, hb, hx]
        simp (disch := omega) only [n_add, lit, gp1, rl1, rs1, bd1, lt1, n_add, n_sub, n_dec, n_le, n_lt, n_eq, n_in, nI_clamp, n_mul, m_or, m_and, m_pow, m_bit, m_dif, n_neg, yn_0, yn_1, yn_z, yn_d, one31, Nat.add_sub_cancel, Nat.not_lt_zero, if_true, if_false, ite_true, ite_false, Bool.true_eq_false, Bool.false_eq_true, Nat.add_zero, Nat.zero_add]
        exact this
theorem m_drawn9 (hR : Lay R) (hM : MR I 66 D) (hV : VD D) : ∀ (r t f : Nat), t + r = d_n D → r < f →
    f_X12_drawn_9 (S0 ++ J) R f I 65 (nI (fre D (insm D) (lst D))) (nI (cn (fre D (insm D) (lst D)) t)) (nI t) = f_X12_drawn_9 (S0 ++ J) R 1 I 65 (nI (fre D (insm D) (lst D))) (nI (cnt (fre D (insm D) (lst D)))) (nI (d_n D)) := by
  have h9 := hV.1
  have c3 : I 66 3 = nI (d_n D) := hM.2.2.2.1
  have hm := fre_lt hV (insm D) (lst D)
  intro r
  induction r with
  | zero =>
    intro t f ht hf
    obtain ⟨f, rfl⟩ := Nat.exists_eq_succ_of_ne_zero (n := f) (by omega)
    have : t = d_n D := by omega
    subst this
    have hcn : cn (fre D (insm D) (lst D)) (d_n D) = cnt (fre D (insm D) (lst D)) := (cn_hi (n := d_n D) (fun i hi => fre_hi hi) 10 (by omega)).symm
    rw [hcn, f_X12_drawn_9, f_X12_drawn_9]
    simp only [lot_e, shr_e]
    simp (disch := omega) only [so65q, ao66q, ly_65_0 hR, c3, Nat.le_refl, litq, gp1q, rl1q, rs1q, bd1q, lt1q, n_add, n_sub, n_dec, n_le, n_lt, n_eq, n_in, nI_clamp, n_mul, m_or, m_and, m_pow, m_bit, m_dif, n_neg, yn_0, yn_1, yn_z, yn_d, one31, Nat.add_sub_cancel, Nat.not_lt_zero, if_true, if_false, ite_true, ite_false, Bool.true_eq_false, Bool.false_eq_true, Nat.add_zero, Nat.zero_add]
  | succ r ih =>
    intro t f ht hf
    obtain ⟨f, rfl⟩ := Nat.exists_eq_succ_of_ne_zero (n := f) (by omega)
    have := ih (t + 1) f (by omega) (by omega)
    have ht31 : t < 31 := by omega
    rw [← this, f_X12_drawn_9]
    simp only [q_bit ht31 hm, lot_e, shr_e]
    rw [cn]
    simp (disch := omega) only [so65q, ao66q, ly_65_0 hR, c3, litq, gp1q, rl1q, rs1q, bd1q, lt1q, n_add, n_sub, n_dec, n_le, n_lt, n_eq, n_in, nI_clamp, n_mul, m_or, m_and, m_pow, m_bit, m_dif, n_neg, yn_0, yn_1, yn_z, yn_d, one31, Nat.add_sub_cancel, Nat.not_lt_zero, if_true, if_false, ite_true, ite_false, Bool.true_eq_false, Bool.false_eq_true, Nat.add_zero, Nat.zero_add]
    rw [if_neg (by omega), yn, n_add]
theorem m_drawn (hR : Lay R) (hM : MR I 66 D) (hV : VD D) : (fre D (insm D) (lst D) = 0 → f_X12_drawn (S0 ++ J) R I 65 = some (I, -nI 3)) ∧
    (∀ g, drwG D (d_z D) = some g → ∃ I', f_X12_drawn (S0 ++ J) R I 65 = some (I', nI g) ∧ MR I' 66 (Dout (Dz D (lotN (d_z D))) g) ∧ ∀ a j, a ≠ 66 → I' a j = I a j) := by
  have h9 := hV.1
  have c3 : I 66 3 = nI (d_n D) := hM.2.2.2.1
  have hm := fre_lt hV (insm D) (lst D)
  have e9 := m_drawn9 (J := J) hR hM hV (d_n D) 0 512 (by omega) (by omega)
  have c10 : cnt (fre D (insm D) (lst D)) ≤ 10 := cn_le (s := fre D (insm D) (lst D)) 10
  refine ⟨fun h0 => ?_, fun g hg => ?_⟩
  · have hc0 : cnt (fre D (insm D) (lst D)) = 0 := (cnt_0 hm).mpr h0
    rw [f_X12_drawn]
    simp only [so_65, gp1, m_may hR hM hV, bd1]
    refine e9.trans ?_
    rw [f_X12_drawn_9, hc0]
    simp only [lot_e, shr_e]
    simp (disch := omega) only [so65q, ao66q, ly_65_0 hR, c3, Nat.le_refl, litq, gp1q, rl1q, rs1q, bd1q, lt1q, n_add, n_sub, n_dec, n_le, n_lt, n_eq, n_in, nI_clamp, n_mul, m_or, m_and, m_pow, m_bit, m_dif, n_neg, yn_0, yn_1, yn_z, yn_d, one31, Nat.add_sub_cancel, Nat.not_lt_zero, if_true, if_false, ite_true, ite_false, Bool.true_eq_false, Bool.false_eq_true, Nat.add_zero, Nat.zero_add]
  · have h0 : fre D (insm D) (lst D) ≠ 0 := fun q => by rw [drwG, if_pos q] at hg; cases hg
    have hc : cnt (fre D (insm D) (lst D)) ≠ 0 := fun q => h0 ((cnt_0 hm).mp q)
    obtain ⟨g', hg', hlt, hi⟩ := drwG_some hV h0 (d_z D)
    rw [hg] at hg'
    cases hg'
    have hM1 : MR (up2 I 66 2 (lotN (d_z D))) 66 (Dz D (lotN (d_z D))) := M_z hM hV
    obtain ⟨I1, o1, o2, o3, _⟩ := m_outback (J := J) hR hM1 (VD_z hV _) (isin_zt hi _)
    have hz : nz (nI (cnt (fre D (insm D) (lst D)))) = true := by
      unfold nz
      refine decide_eq_true fun q => hc ?_
      have : nI (cnt (fre D (insm D) (lst D))) = nI 0 := q
      rwa [n_eq (by omega) (by decide)] at this
    have hs := shr_lt (lotN (d_z D))
    have hmod := Nat.mod_lt (shr (lotN (d_z D))) (show 0 < cnt (fre D (insm D) (lst D)) by omega)
    rw [drwG, if_neg h0] at hg
    have h75 := m_drawn75 (J := J) (I := up2 I 66 2 (lotN (d_z D))) hR hm 9 0 512 _ g rfl (by decide) (by omega) hg
    refine ⟨I1, ?_, o2, fun a j h => by rw [o3 a j h, u_eq, if_neg (by omega)]⟩
    rw [f_X12_drawn]
    simp only [so_65, gp1, m_may hR hM hV, bd1]
    refine e9.trans ?_
    have c2 : I 66 2 = d_z D := hM.2.2.1
    rw [f_X12_drawn_9]
    simp only [lot_e, shr_e]
    simp (disch := omega) only [so65q, ao66q, ly_65_0 hR, c3, Nat.le_refl, hc, c2, u_eq, Nat.reduceEqDiff, false_and, and_false, true_and, and_true, and_self, not_false_eq_true, hz, n_mod, litq, gp1q, rl1q, rs1q, bd1q, lt1q, n_add, n_sub, n_dec, n_le, n_lt, n_eq, n_in, nI_clamp, n_mul, m_or, m_and, m_pow, m_bit, m_dif, n_neg, yn_0, yn_1, yn_z, yn_d, one31, Nat.add_sub_cancel, Nat.not_lt_zero, if_true, if_false, ite_true, ite_false, Bool.true_eq_false, Bool.false_eq_true, Nat.add_zero, Nat.zero_add]
    rw [h75, o1]; rfl
theorem z_draw (hR : Lay R) (h : Core I D T) : ZZ I T (f_X11_draw (S0 ++ J) R I 0) (fun I1 => f_X12_draw (S0 ++ J) R I1 65) := by
  have ⟨hC, hM, hV, hT⟩ := h
  have h9 := hV.1
  have hm := fre_lt hV (insm D) (lst D)
  by_cases h0 : fre D (insm D) (lst D) = 0
  · have e2 := (m_drawn (J := J) hR hM hV).1 h0
    exact ZZ_no h (r := -nI 3) (by simp (disch := omega) only [f_X11_draw, so_0, so_1, ly_0_0 hR, ly_0_1 hR, ly_0_3 hR, ly_0_4 hR, ly_0_5 hR, ly_0_7 hR, ly_0_8 hR, ly_0_9 hR, ly_0_10 hR, ly_1_0 hR, ly_1_1 hR, ly_1_2 hR, ly_1_3 hR, ly_1_4 hR, ly_1_7 hR, ly_1_11 hR, ly_1_12 hR, ly_1_13 hR, q_may hR hC hV, h0, lit, gp1, rl1, rs1, bd1, lt1, n_add, n_sub, n_dec, n_le, n_lt, n_eq, n_in, nI_clamp, n_mul, m_or, m_and, m_pow, m_bit, m_dif, n_neg, yn_0, yn_1, yn_z, yn_d, one31, Nat.add_sub_cancel, Nat.not_lt_zero, if_true, if_false, ite_true, ite_false, Bool.true_eq_false, Bool.false_eq_true, Nat.add_zero, Nat.zero_add]) (by simp (disch := omega) only [f_X12_draw, so_65, ly_65_0 hR, ly_65_1 hR, ly_65_2 hR, ly_65_4 hR, ly_65_11 hR, ly_65_13 hR, ly_65_14 hR, ly_65_15 hR, ly_65_16 hR, ly_65_17 hR, ly_65_18 hR, ly_65_19 hR, ly_65_20 hR, ly_65_22 hR, ly_65_24 hR, ly_65_25 hR, ly_65_26 hR, ly_65_27 hR, ly_65_28 hR, ly_65_29 hR, ly_65_30 hR, e2, lit, gp1, rl1, rs1, bd1, lt1, n_add, n_sub, n_dec, n_le, n_lt, n_eq, n_in, nI_clamp, n_mul, m_or, m_and, m_pow, m_bit, m_dif, n_neg, yn_0, yn_1, yn_z, yn_d, one31, Nat.add_sub_cancel, Nat.not_lt_zero, if_true, if_false, ite_true, ite_false, Bool.true_eq_false, Bool.false_eq_true, Nat.add_zero, Nat.zero_add])
  · obtain ⟨g, hg, hlt, hi⟩ := drwG_some hV h0 (d_z D)
    have c15 : I 1 15 = d_z D := hC.1.2.2.2.2.2.2.1
    have hC1 : CR (up2 I 1 15 (lotN (d_z D))) 1 (Dz D (lotN (d_z D))) := p_lot hC
    obtain ⟨I1, e1, f1, g1⟩ := p_putOut (J := J) hR hC1 (VD_z hV _) (isin_zt hi _)
    have hfr : frS I I1 := fun a j q => by rw [f1 a j q, u_eq, if_neg (by omega)]
    have hM1 : MR I1 66 D := MR_fr (fun j => hfr 66 j (by omega)) hM
    obtain ⟨I2, w1, w2, w3⟩ := (m_drawn (J := J) hR hM1 hV).2 g hg
    have hd := q_drawnOf (S := S0 ++ J) (R := R) (I := up2 I 1 15 (lotN (d_z D))) hV h0 (d_z D)
    rw [hg] at hd
    have hd : f_X11_drawnOf (S0 ++ J) R (up2 I 1 15 (lotN (d_z D))) (nI (fre D (insm D) (lst D))) (lotN (d_z D)) = some (nI g) := hd
    have z0 : ¬ (fre D (insm D) (lst D) = 0) := h0
    refine ZZ_D h (r := nI g) (I1 := I1) (I2 := I2) ?_ (by simp (disch := omega) only [f_X12_draw, so_65, ly_65_0 hR, ly_65_1 hR, ly_65_2 hR, ly_65_4 hR, ly_65_11 hR, ly_65_13 hR, ly_65_14 hR, ly_65_15 hR, ly_65_16 hR, ly_65_17 hR, ly_65_18 hR, ly_65_19 hR, ly_65_20 hR, ly_65_22 hR, ly_65_24 hR, ly_65_25 hR, ly_65_26 hR, ly_65_27 hR, ly_65_28 hR, ly_65_29 hR, ly_65_30 hR, w1, lit, gp1, rl1, rs1, bd1, lt1, n_add, n_sub, n_dec, n_le, n_lt, n_eq, n_in, nI_clamp, n_mul, m_or, m_and, m_pow, m_bit, m_dif, n_neg, yn_0, yn_1, yn_z, yn_d, one31, Nat.add_sub_cancel, Nat.not_lt_zero, if_true, if_false, ite_true, ite_false, Bool.true_eq_false, Bool.false_eq_true, Nat.add_zero, Nat.zero_add]) hfr (fun a j a1 _ => w3 a j a1) g1 w2 (VD_out (VD_z hV _) (isin_zt hi _))
    rw [f_X11_draw]
    simp only [f_X11_lotBehind, lot_e]
    simp (disch := omega) only [so0q, so1q, ly_0_0 hR, q_may hR hC hV, z0, c15, u_eq, Nat.reduceEqDiff, false_and, and_false, true_and, and_true, and_self, not_false_eq_true, hd, e1, litq, gp1q, rl1q, rs1q, bd1q, lt1q, n_add, n_sub, n_dec, n_le, n_lt, n_eq, n_in, nI_clamp, n_mul, m_or, m_and, m_pow, m_bit, m_dif, n_neg, yn_0, yn_1, yn_z, yn_d, one31, Nat.add_sub_cancel, Nat.not_lt_zero, if_true, if_false, ite_true, ite_false, Bool.true_eq_false, Bool.false_eq_true, Nat.add_zero, Nat.zero_add]
end CALLS7
