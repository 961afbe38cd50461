/-! CALLS: how many goats between; shelves -/
theorem tB_e {D : Dt} (hV : VD D) {v : Int32} (h : tB D v = true) : ∃ g, g < d_n D ∧ v = nI g ∧ v.toNatClampNeg = g ∧ topb D (insm D) g = true ∧ isin D g = true := by
  have h9 := hV.1
  have ⟨h1, h2⟩ := Bool.and_eq_true _ _ ▸ h
  obtain ⟨g, hg, rfl⟩ := ltb_e (by omega) h1
  rw [nI_clamp (by omega)] at h2
  refine ⟨g, hg, rfl, nI_clamp (by omega), h2, ?_⟩
  rw [topb, Bool.and_eq_true, insm_bit, Bool.and_eq_true] at h2
  exact h2.1.2
section GOATS
variable {J : Sh} {R : Rw} {T : Nat}
theorem q_goats67 (hR : Lay R) {I : Iw} {D0 : Dt} (hC : CR I 1 D0) (hV0 : VD D0) {s n m : Nat} {x : Int32} {it : Nat → Int32} (hs : s < 4) (hn : n ≤ 40) (hm : m ≤ 20) (h1 : I (57 + 2 * s) 1 = nI n) (hit : ∀ j, j < 40 → I (58 + 2 * s) j = it j) : ∀ (r k f : Nat) (D : Dt) (c : Nat), k + r = m → r < f → VD D → fre D = fre D0 → d_n D = d_n D0 → topb D = topb D0 →
    f_X11_goats_67 (S0 ++ J) R I f 0 x (nI m) (57 + 2 * s) (nI c) (nI (insm D)) (nI (lst D) - nI 1) (nI k) = some (gts it x n r k D c) := by
  obtain ⟨f1, f2, f3, f4⟩ := sh_f (J := J) hR hs
  intro r
  induction r with
  | zero =>
    intro k f D c hk hf hV e1 e2 e3
    obtain ⟨f, rfl⟩ := Nat.exists_eq_succ_of_ne_zero (n := f) (by omega)
    rw [f_X11_goats_67, if_pos (by rw [n_le (by omega) (by omega)]; omega)]; rfl
  | succ r ih =>
    intro k f D c hk hf hV e1 e2 e3
    obtain ⟨f, rfl⟩ := Nat.exists_eq_succ_of_ne_zero (n := f) (by omega)
    have h9 := hV.1
    have hh := q_has8 (J := J) hR hs hn h1 (x + nI k)
    have hml := insm_lt D
    have hmg : f_X7_mayGo (S0 ++ J) R I 1 (nI (insm D)) (nI (lst D) - nI 1) = some (nI (fre D (insm D) (lst D))) := by rw [e1]; exact p_mayGo (J := J) hR hC hV0 hml (by rw [← e2]; exact lst_le hV)
    have htp : f_X7_topsOf (S0 ++ J) R I 1 (nI (insm D)) = some (nI (mk (topb D (insm D)) (d_n D))) := by rw [e3, e2]; exact p_tops (J := J) hR hC.1 hV0 hml
    have hfl := fre_lt hV (insm D) (lst D)
    have htl : mk (topb D (insm D)) (d_n D) < 1024 := mk_lt _ _ (by omega)
    rw [f_X11_goats_67, if_neg (by rw [n_le (by omega) (by omega)]; omega), f3, gp1, hh, bd1, gts]
    cases b : ltb n (x + nI k) with
    | false => rw [if_pos (show yn false = 0 from rfl)]; rfl
    | true =>
      obtain ⟨j, hj, ej⟩ := ltb_e (by omega) b
      have hset : (ltb 10 (it j) && (mk (topb D (insm D)) (d_n D)).testBit (it j).toNatClampNeg) = tB D (it j) := set_B hV (topb D (insm D)) (it j)
      have hset2 : (ltb 10 (it j) && (fre D (insm D) (lst D)).testBit (it j).toNatClampNeg) = gB D (it j) := set_B hV (mayb D (insm D) (lst D)) (it j)
      have hij := hit j (by omega)
      rw [ej, if_neg (by decide), nI_clamp (by omega), f2, rl1, f4]
      simp (disch := omega) only [so_0, so_1, ly_0_0 hR, ly_0_1 hR, ly_0_3 hR, ly_0_4 hR, ly_0_5 hR, ly_0_7 hR, ly_0_8 hR, ly_0_9 hR, ly_0_10 hR, ly_1_0 hR, ly_1_1 hR, ly_1_2 hR, ly_1_3 hR, ly_1_4 hR, ly_1_7 hR, ly_1_11 hR, ly_1_12 hR, ly_1_13 hR, htp, hmg, hij, x_holdsA hfl, x_holdsA htl, hset, hset2, f_X11_goats_142, lit, gp1, rl1, rs1, bd1, lt1, n_add, n_sub, n_dec, n_le, n_lt, n_eq, n_in, nI_clamp, n_mul, m_or, m_and, m_pow, m_bit, m_dif, n_neg, yn_0, yn_1, yn_z, yn_d, one31, Nat.add_sub_cancel, Nat.not_lt_zero, if_true, if_false, ite_true, ite_false, Bool.true_eq_false, Bool.false_eq_true, Nat.add_zero, Nat.zero_add]
      cases hb : tB D (it j) with
      | false => rw [if_pos rfl, if_neg (by decide)]
      | true =>
        obtain ⟨g, hg, eg, ec, htb, hi⟩ := tB_e hV hb
        have hg10 : g < 10 := by omega
        have hgB : gB D (it j) = mayb D (insm D) (lst D) g := by
          rw [gB, ec]
          have : ltb (d_n D) (it j) = true := (Bool.and_eq_true _ _ ▸ hb).1
          rw [this, Bool.true_and]
        have hw : f_X11_without (S0 ++ J) R I (nI (insm D)) (nI g) = some (nI (mdiff (insm D) (2 ^ g))) := x_without hml hg10
        rw [if_neg (by decide), if_pos rfl, ec, hgB, eg, hw]
        simp only [bd1]
        have hin : insm (Dout D g) = mdiff (insm D) (2 ^ g) := insm_out (by omega)
        have hih := fun c => ih (k + 1) f (Dout D g) c (by omega) (by omega) (VD_out hV hi) e1 e2 e3
        rw [hin, lst_out, n_pred] at hih
        cases hmb : mayb D (insm D) (lst D) g with
        | true => rw [if_neg (by decide), if_pos rfl]; exact hih c
        | false => rw [if_pos rfl, if_neg (by decide)]; exact hih (c + 1)
theorem m_goats44 (hR : Lay R) {I0 : Iw} {D0 : Dt} (hM0 : MR I0 66 D0) (hV0 : VD D0) {s n m : Nat} {x : Int32} {it : Nat → Int32} (hs : s < 4) (hn : n ≤ 40) (hm : m ≤ 20) : ∀ (r k f : Nat) (D : Dt) (I : Iw) (c : Nat), k + r = m → r + 1 < f → MR I 66 D → VD D → (∀ j, j < 306 → I 68 j = I0 66 j) → I 82 s = nI n → (∀ j, j < 40 → I 80 (40 * s + j) = it j) →
    ∃ I', f_X12_goats_44 (S0 ++ J) R f I 65 (nI s) x (nI m) (nI 0) (nI c) (nI k) = some (I', gts it x n r k D c) ∧ MR I' 66 D0 ∧ ∀ a j, a ≠ 66 → I' a j = I a j := by
  have fin : ∀ (I : Iw) (x4 x5 : Int32), (∀ j, j < 306 → I 68 j = I0 66 j) → ∃ I', f_X12_goats_185 (S0 ++ J) R I 65 x4 x5 = some (I', if x4 = nI 0 then x5 else x4) ∧ MR I' 66 D0 ∧ ∀ a j, a ≠ 66 → I' a j = I a j := by
    intro I x4 x5 h68
    obtain ⟨I', e1, e2, e3⟩ := m_back (J := J) hR hM0 hV0 h68 (if x4 = nI 0 then x5 else x4)
    refine ⟨I', ?_, e2, e3⟩
    rw [f_X12_goats_185]
    by_cases q : x4 = nI 0
    · rw [if_pos q] at e1 ⊢
      rw [if_pos (show x4 = 0 from q), f_X12_goats_198, so_65, gp1, e1]; rfl
    · rw [if_neg q] at e1 ⊢
      rw [if_neg (show ¬ x4 = 0 from q), f_X12_goats_198, so_65, gp1, e1]; rfl
  intro r
  induction r with
  | zero =>
    intro k f D I c hk hf hM hV h68 h1 hit
    obtain ⟨f, rfl⟩ := Nat.exists_eq_succ_of_ne_zero (n := f) (by omega)
    obtain ⟨I', e1, e2, e3⟩ := fin I (nI 0) (nI c) h68
    refine ⟨I', ?_, e2, e3⟩
    rw [f_X12_goats_44, if_pos (by rw [n_le (by omega) (by omega)]; omega), e1, if_pos rfl]; rfl
  | succ r ih =>
    intro k f D I c hk hf hM hV h68 h1 hit
    obtain ⟨f, rfl⟩ := Nat.exists_eq_succ_of_ne_zero (n := f) (by omega)
    have h9 := hV.1
    have bad : ∀ (y : Int32), y ≠ nI 0 → ∃ I', f_X12_goats_44 (S0 ++ J) R f I 65 (nI s) x (nI m) y (nI c) (nI (k + 1)) = some (I', y) ∧ MR I' 66 D0 ∧ ∀ a j, a ≠ 66 → I' a j = I a j := by
      intro y hy
      obtain ⟨f', hf'⟩ := Nat.exists_eq_succ_of_ne_zero (n := f) (by omega)
      obtain ⟨I', e1, e2, e3⟩ := fin I y (nI c) h68
      rw [if_neg hy] at e1
      refine ⟨I', ?_, e2, e3⟩
      rw [hf', f_X12_goats_44, if_neg (show ¬ y = 0 from hy), e1]
      split <;> rfl
    obtain ⟨Ia, a1, a2, a3⟩ := bad (-nI 12) (by decide)
    obtain ⟨Ib, b1, b2, b3⟩ := bad (-nI 4) (by decide)
    have z12 : (-nI 12 = nI 0) = False := by decide
    have z4 : (-nI 4 = nI 0) = False := by decide
    rw [f_X12_goats_44]
    simp (disch := omega) only [so_65, ly_65_0 hR, ly_65_1 hR, ly_65_2 hR, ly_65_4 hR, ly_65_11 hR, ly_65_13 hR, ly_65_14 hR, ly_65_15 hR, ly_65_16 hR, ly_65_17 hR, ly_65_18 hR, ly_65_19 hR, ly_65_20 hR, ly_65_22 hR, ly_65_24 hR, ly_65_25 hR, ly_65_26 hR, ly_65_27 hR, ly_65_28 hR, ly_65_29 hR, ly_65_30 hR, ao_82, h1, f_X12_goats_83, f_X12_goats_89, z12, lit, gp1, rl1, rs1, bd1, lt1, n_add, n_sub, n_dec, n_le, n_lt, n_eq, n_in, nI_clamp, n_mul, m_or, m_and, m_pow, m_bit, m_dif, n_neg, yn_0, yn_1, yn_z, yn_d, one31, Nat.add_sub_cancel, Nat.not_lt_zero, if_true, if_false, ite_true, ite_false, Bool.true_eq_false, Bool.false_eq_true, Nat.add_zero, Nat.zero_add]
    rw [if_neg (show ¬ m ≤ k by omega), gts]
    rcases at_cs x (k := k) (n := n) (by omega) hn with ⟨j, hj, ej, c1, c2⟩ | ⟨hb, hc⟩
    · rw [if_neg c1, if_pos c2, ej, ltb_n (by omega) (by omega), decide_eq_true hj, if_pos rfl, nI_clamp (by omega)]
      have hidx : nI (40 * s) + x + nI k = nI (40 * s + j) := by rw [Int32.add_assoc, ej, n_add]
      have hij := hit j (by omega)
      have his := m_isN (J := J) hR hM hV (it j)
      simp (disch := omega) only [hidx, so_65, ly_65_0 hR, ly_65_1 hR, ly_65_2 hR, ly_65_4 hR, ly_65_11 hR, ly_65_13 hR, ly_65_14 hR, ly_65_15 hR, ly_65_16 hR, ly_65_17 hR, ly_65_18 hR, ly_65_19 hR, ly_65_20 hR, ly_65_22 hR, ly_65_24 hR, ly_65_25 hR, ly_65_26 hR, ly_65_27 hR, ly_65_28 hR, ly_65_29 hR, ly_65_30 hR, ao_80, hij, f_X12_goats_114, f_X12_goats_140, f_X12_goats_145, f_X12_goats_147, his, z4, f_X12_goats_179, f_X12_goats_170, lit, gp1, rl1, rs1, bd1, lt1, n_add, n_sub, n_dec, n_le, n_lt, n_eq, n_in, nI_clamp, n_mul, m_or, m_and, m_pow, m_bit, m_dif, n_neg, yn_0, yn_1, yn_z, yn_d, one31, Nat.add_sub_cancel, Nat.not_lt_zero, if_true, if_false, ite_true, ite_false, Bool.true_eq_false, Bool.false_eq_true, Nat.add_zero, Nat.zero_add]
      cases hl : ltb (d_n D) (it j) with
      | false =>
        have : tB D (it j) = false := by rw [tB, hl]; rfl
        refine ⟨Ib, ?_, b2, b3⟩
        rw [this, if_pos rfl, if_neg (by decide)]; exact b1
      | true =>
        obtain ⟨g, hg, eg⟩ := ltb_e (by omega) hl
        have ec : (it j).toNatClampNeg = g := by rw [eg]; exact nI_clamp (by omega)
        have htb : tB D (it j) = topb D (insm D) g := by rw [tB, hl, ec]; rfl
        rw [htb, ec, eg]
        simp (disch := omega) only [m_top hR hM hV hg, m_mayGo hR hM hV hg, lit, gp1, rl1, rs1, bd1, lt1, n_add, n_sub, n_dec, n_le, n_lt, n_eq, n_in, nI_clamp, n_mul, m_or, m_and, m_pow, m_bit, m_dif, n_neg, yn_0, yn_1, yn_z, yn_d, one31, Nat.add_sub_cancel, Nat.not_lt_zero, if_true, if_false, ite_true, ite_false, Bool.true_eq_false, Bool.false_eq_true, Nat.add_zero, Nat.zero_add]
        cases ht : topb D (insm D) g with
        | false =>
          refine ⟨Ib, ?_, b2, b3⟩
          rw [if_pos rfl, if_neg (by decide)]; exact b1
        | true =>
          have hi : isin D g = true := by
            rw [topb, Bool.and_eq_true, insm_bit, Bool.and_eq_true] at ht
            exact ht.1.2
          obtain ⟨I1, o1, o2, o3, _⟩ := m_outback (J := J) hR hM hV hi
          rw [if_neg (by decide), if_pos rfl, o1]
          simp (disch := omega) only [bd1, lit, gp1, rl1, rs1, bd1, lt1, n_add, n_sub, n_dec, n_le, n_lt, n_eq, n_in, nI_clamp, n_mul, m_or, m_and, m_pow, m_bit, m_dif, n_neg, yn_0, yn_1, yn_z, yn_d, one31, Nat.add_sub_cancel, Nat.not_lt_zero, if_true, if_false, ite_true, ite_false, Bool.true_eq_false, Bool.false_eq_true, Nat.add_zero, Nat.zero_add]
          have hih := fun c => ih (k + 1) f (Dout D g) I1 c (by omega) (by omega) o2 (VD_out hV hi) (fun j hj => by rw [o3 68 j (by decide)]; exact h68 j hj) (by rw [o3 82 s (by decide)]; exact h1) (fun i q => by rw [o3 80 _ (by decide)]; exact hit i q)
          cases hmb : mayb D (insm D) (lst D) g with
          | true =>
            obtain ⟨I', e1, e2, e3⟩ := hih c
            refine ⟨I', ?_, e2, fun a j h => by rw [e3 a j h, o3 a j h]⟩
            rw [if_neg (by decide), if_pos rfl]; exact e1
          | false =>
            obtain ⟨I', e1, e2, e3⟩ := hih (c + 1)
            refine ⟨I', ?_, e2, fun a j h => by rw [e3 a j h, o3 a j h]⟩
            rw [if_pos rfl, if_neg (by decide)]; exact e1
    · rw [hb, if_neg (show ¬ (false = true) by decide)]
      refine ⟨Ia, ?_, a2, a3⟩
      simp (disch := omega) only [f_X12_goats_114, f_X12_goats_145, f_X12_goats_147, f_X12_goats_179, z12, lit, gp1, rl1, rs1, bd1, lt1, n_add, n_sub, n_dec, n_le, n_lt, n_eq, n_in, nI_clamp, n_mul, m_or, m_and, m_pow, m_bit, m_dif, n_neg, yn_0, yn_1, yn_z, yn_d, one31, Nat.add_sub_cancel, Nat.not_lt_zero, if_true, if_false, ite_true, ite_false, Bool.true_eq_false, Bool.false_eq_true, Nat.add_zero, Nat.zero_add]
      rcases hc with c | c
      · rw [if_pos c]; exact a1
      · rw [if_neg c]
        by_cases c' : lg_cmp (x.toInt64 + (nI k).toInt64) 0 < nI 0
        · rw [if_pos c']; exact a1
        · rw [if_neg c']; exact a1
theorem z_goats {I : Iw} {D : Dt} (hR : Lay R) (h : Core I D T) (hK : SHp I) (x1 x2 x3 : Int32) : ZP I T (f_X11_goats (S0 ++ J) R I 0 x1 x2 x3) (f_X12_goats (S0 ++ J) R I 65 x1 x2 x3) := by
  have ⟨hC, hM, hV, hT⟩ := h
  have hr := fr7_r I
  cases b1 : btw x1 (nI 0) (nI 3) with
  | false => exact ZP_7 h (r := -nI 1) (by simp (disch := omega) only [f_X11_goats, x_sheet, b1, lit, gp1, rl1, rs1, bd1, lt1, n_add, n_sub, n_dec, n_le, n_lt, n_eq, n_in, nI_clamp, n_mul, m_or, m_and, m_pow, m_bit, m_dif, n_neg, yn_0, yn_1, yn_z, yn_d, one31, Nat.add_sub_cancel, Nat.not_lt_zero, if_true, if_false, ite_true, ite_false, Bool.true_eq_false, Bool.false_eq_true, Nat.add_zero, Nat.zero_add]) (by simp (disch := omega) only [f_X12_goats, m_isSheet, b1, lit, gp1, rl1, rs1, bd1, lt1, n_add, n_sub, n_dec, n_le, n_lt, n_eq, n_in, nI_clamp, n_mul, m_or, m_and, m_pow, m_bit, m_dif, n_neg, yn_0, yn_1, yn_z, yn_d, one31, Nat.add_sub_cancel, Nat.not_lt_zero, if_true, if_false, ite_true, ite_false, Bool.true_eq_false, Bool.false_eq_true, Nat.add_zero, Nat.zero_add]) hr
  | true =>
    obtain ⟨s, -, s3, rfl⟩ := btw_e (by decide) (by decide) b1
    cases b2 : btw x3 (nI 0) (nI 9) with
    | false => exact ZP_7 h (r := -nI 1) (by simp (disch := omega) only [f_X11_goats, x_sheet, b1, x_btw, b2, lit, gp1, rl1, rs1, bd1, lt1, n_add, n_sub, n_dec, n_le, n_lt, n_eq, n_in, nI_clamp, n_mul, m_or, m_and, m_pow, m_bit, m_dif, n_neg, yn_0, yn_1, yn_z, yn_d, one31, Nat.add_sub_cancel, Nat.not_lt_zero, if_true, if_false, ite_true, ite_false, Bool.true_eq_false, Bool.false_eq_true, Nat.add_zero, Nat.zero_add]) (by simp (disch := omega) only [f_X12_goats, m_isSheet, b1, m_btw, b2, lit, gp1, rl1, rs1, bd1, lt1, n_add, n_sub, n_dec, n_le, n_lt, n_eq, n_in, nI_clamp, n_mul, m_or, m_and, m_pow, m_bit, m_dif, n_neg, yn_0, yn_1, yn_z, yn_d, one31, Nat.add_sub_cancel, Nat.not_lt_zero, if_true, if_false, ite_true, ite_false, Bool.true_eq_false, Bool.false_eq_true, Nat.add_zero, Nat.zero_add]) hr
    | true =>
      obtain ⟨m, -, m9, rfl⟩ := btw_e (by decide) (by decide) b2
      have hs : s < 4 := by omega
      obtain ⟨n, n40, e0, e1, e2, e3, e4⟩ := hK s hs
      obtain ⟨f1, f2, f3, f4⟩ := sh_f (J := J) hR hs
      have hq := q_refusal (J := J) hR hs e0 0
      have hm := m_refuses (J := J) hR hs e3 0
      have c6 : I 1 6 = nI (insm D) := hC.1.2.1
      obtain ⟨I1, k1, k2, k3⟩ := m_copy (S := S0 ++ J) (R := R) (a := 66) (b := 68) (by decide) (fun _ => rfl) (fun _ => rfl) I
      have fin : ∀ (I2 : Iw) (y : Int32), f_X11_goats (S0 ++ J) R I 0 (nI s) x2 (nI m) = some y → f_X12_goats_44 (S0 ++ J) R 512 I1 65 (nI s) x2 (nI m) (rfS (I 81 s) 0) (nI 0) (nI 0) = some (I2, y) → MR I2 66 D → (∀ a j, a ≠ 66 → I2 a j = I1 a j) → ZP I T (f_X11_goats (S0 ++ J) R I 0 (nI s) x2 (nI m)) (f_X12_goats (S0 ++ J) R I 65 (nI s) x2 (nI m)) := by
        intro I2 y y1 y2 y3 y4
        have hfr : ∀ a j, a ≠ 66 → a ≠ 68 → I2 a j = I a j := fun a j a1 a2 => by rw [y4 a j a1, k3 a j a2]
        refine ⟨y, I2, D, y1, ?_, ⟨CR_fr (fun k j q1 q2 => hfr k j (by omega) (by omega)) hC, y3, hV, ST_up (by omega) (ST_fr (fun a j q => hfr a j (by omega) (by omega)) hT)⟩, fun a j q => hfr a j (by unfold scr at q; omega) (by unfold scr at q; omega)⟩
        simp (disch := omega) only [f_X12_goats, m_isSheet, b1, m_btw, b2, so65q, ly_65_0 hR, ly_65_2 hR, hm, k1, litq, gp1q, rl1q, rs1q, bd1q, lt1q, n_add, n_sub, n_dec, n_le, n_lt, n_eq, n_in, nI_clamp, n_mul, m_or, m_and, m_pow, m_bit, m_dif, n_neg, yn_0, yn_1, yn_z, yn_d, one31, Nat.add_sub_cancel, Nat.not_lt_zero, if_true, if_false, ite_true, ite_false, Bool.true_eq_false, Bool.false_eq_true, Nat.add_zero, Nat.zero_add]
        exact y2
      by_cases h0 : rfS (I 81 s) 0 = nI 0
      · have hc := q_goats67 (J := J) (x := x2) (it := fun j => I 80 (40 * s + j)) hR hC hV hs n40 (show m ≤ 20 by omega) e1 e4 m 0 512 D 0 (by omega) (by omega) hV rfl rfl rfl
        obtain ⟨I2, g1, g2, g3⟩ := m_goats44 (J := J) (x := x2) (it := fun j => I 80 (40 * s + j)) hR hM hV hs n40 (show m ≤ 20 by omega) m 0 512 D I1 0 (by omega) (by omega) (MR_fr (fun j => k3 66 j (by decide)) hM) hV k2 (by rw [k3 82 s (by decide)]; exact e2) (fun j _ => k3 80 _ (by decide))
        refine fin I2 _ ?_ (by rw [h0]; exact g1) g2 g3
        simp (disch := omega) only [f_X11_goats, x_sheet, b1, x_btw, b2, so_0, so_1, ly_0_0 hR, ly_0_1 hR, ly_0_3 hR, ly_0_4 hR, ly_0_5 hR, ly_0_7 hR, ly_0_8 hR, ly_0_9 hR, ly_0_10 hR, ly_1_0 hR, ly_1_1 hR, ly_1_2 hR, ly_1_3 hR, ly_1_4 hR, ly_1_7 hR, ly_1_11 hR, ly_1_12 hR, ly_1_13 hR, ao_53, al_53, ly_53_0 hR, ly_53_1 hR, ly_53_2 hR, ly_53_3 hR, f1, f3, hq, h0, q_last hR hC hV, c6, lit, gp1, rl1, rs1, bd1, lt1, n_add, n_sub, n_dec, n_le, n_lt, n_eq, n_in, nI_clamp, n_mul, m_or, m_and, m_pow, m_bit, m_dif, n_neg, yn_0, yn_1, yn_z, yn_d, one31, Nat.add_sub_cancel, Nat.not_lt_zero, if_true, if_false, ite_true, ite_false, Bool.true_eq_false, Bool.false_eq_true, Nat.add_zero, Nat.zero_add]
        exact hc
      · obtain ⟨I2, g1, g2, g3⟩ := m_back (J := J) (I := I1) hR hM hV k2 (rfS (I 81 s) 0)
        refine fin I2 (rfS (I 81 s) 0) (by simp (disch := omega) only [f_X11_goats, x_sheet, b1, x_btw, b2, so_0, ly_0_0 hR, ly_0_1 hR, ly_0_3 hR, ly_0_4 hR, ly_0_5 hR, ly_0_7 hR, ly_0_8 hR, ly_0_9 hR, ly_0_10 hR, ao_53, al_53, ly_53_0 hR, ly_53_1 hR, ly_53_2 hR, ly_53_3 hR, f1, f3, hq, h0, lit, gp1, rl1, rs1, bd1, lt1, n_add, n_sub, n_dec, n_le, n_lt, n_eq, n_in, nI_clamp, n_mul, m_or, m_and, m_pow, m_bit, m_dif, n_neg, yn_0, yn_1, yn_z, yn_d, one31, Nat.add_sub_cancel, Nat.not_lt_zero, if_true, if_false, ite_true, ite_false, Bool.true_eq_false, Bool.false_eq_true, Nat.add_zero, Nat.zero_add]) ?_ g2 g3
        rw [f_X12_goats_44, f_X12_goats_185, if_neg (show ¬ rfS (I 81 s) 0 = 0 from h0), if_neg (show ¬ rfS (I 81 s) 0 = 0 from h0), f_X12_goats_198, so_65, gp1, g1]
        split <;> rfl
end GOATS
