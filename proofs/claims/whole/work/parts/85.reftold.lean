/-! THE REFERENCE: the first order told -/
theorem fst_len (D : Dt) (w : Nat) : ∀ r s l, (fstO D w r s l).length ≤ r
  | 0, _, _ => Nat.le_refl _
  | r + 1, s, l => by
    rw [fstO]
    cases nxtO D w s l with
    | none => exact Nat.zero_le _
    | some g => exact Nat.succ_le_succ (fst_len D w r _ _)
/-- whether there is an order of the sort -/
def isO (D : Dt) (w : Nat) : Bool := if w = 0 then decide (0 < Wy D (insm D) (lst D)) else if w = 1 then true else (Cy D (insm D) (lst D)).isSome
theorem W_behind {D : Dt} {s l g : Nat} (hs : s < 512) (hb : (fre D s l).testBit g = true) (hg : g < 9) : Wy D (mdiff s (2 ^ g)) (g + 1) ≤ Wy D s l := by
  have hc := cnt_diff (fre_bit hb).2 (by omega)
  unfold Wy
  rw [show cnt s = cnt (mdiff s (2 ^ g)) + 1 by omega, oW]
  have h0 : s ≠ 0 := fun q => by
    have := (fre_bit hb).2
    rw [q, Nat.zero_testBit] at this; cases this
  rw [if_neg h0]
  have := sm_ge (f := fun g' => if (fre D s l).testBit g' then oW (fre D) (cnt (mdiff s (2 ^ g))) (mdiff s (2 ^ g')) (g' + 1) else 0) (g := g) (n := 9) hg
  simp only [hb, if_true] at this
  exact this
theorem fst_nil {D : Dt} (hV : VD D) {w : Nat} (hw : w ≤ 2) (h : isO D w = false) : ∀ r, fstO D w r (insm D) (lst D) = []
  | 0 => rfl
  | r + 1 => by
    have h9 := hV.1
    rw [fstO]
    have : nxtO D w (insm D) (lst D) = none := by
      cases q : nxtO D w (insm D) (lst D) with
      | none => rfl
      | some g =>
        have hq := fndR_lt q
        have hb : (fre D (insm D) (lst D)).testBit g = true ∧ ldb D w (insm D) (lst D) g = true := by rw [← Bool.and_eq_true]; exact hq.2
        have hl := hb.2
        unfold isO at h
        unfold ldb at hl
        have hw3 : w = 0 ∨ w = 1 ∨ w = 2 := by omega
        rcases hw3 with e | e | e <;> subst e
        · rw [if_pos rfl] at h hl
          have h1 := of_decide_eq_false h
          have h2 := of_decide_eq_true hl
          have h3 := W_behind (insm_512 D) hb.1 (by omega)
          omega
        · cases h
        · rw [if_neg (by decide), if_neg (by decide)] at h hl
          cases hc : Cy D (insm D) (lst D) with
          | some c => rw [hc] at h; cases h
          | none =>
            rw [hc] at hl
            cases hc2 : Cy D (mdiff (insm D) (2 ^ g)) (g + 1) with
            | none => rw [hc2] at hl; cases hl
            | some c => rw [hc2] at hl; exact absurd (of_decide_eq_true hl) (fun q => (by cases q))
    rw [this]
def frF (I I' : Iw) : Prop := ∀ a j, a ≠ 77 → a ≠ 78 → ¬ (a = 65 ∧ j = 21) → I' a j = I a j
section REFTOLD
variable {J : Sh} {R : Rw} {D : Dt}
theorem m_ff66 (hR : Lay R) (hV : VD D) {w : Nat} (hw : w ≤ 2) {I0 I : Iw} (h0 : ∀ a j, a ≠ 77 → ¬ (a = 65 ∧ j = 21) → I a j = I0 a j) (hM : MR I0 66 D) (h21 : I 65 21 = nI 0) {due : Int32} (hd : isO D w = true → dueOK w D (insm D) (lst D) due) :
    ∃ I', f_X12_findFirst_66 (S0 ++ J) R I 65 (nI w) (nI (d_o D)) due (yn (isO D w)) = some (I', yn (isO D w)) ∧ I' 65 21 = nI (fstO D w 9 (insm D) (lst D)).length ∧
      (∀ i g, (fstO D w 9 (insm D) (lst D))[i]? = some g → I' 78 i = nI g) ∧ frF I0 I' := by
  have h9 := hV.1
  have ho := hV.2.1
  have hM' : MR I 66 D := MR_fr (fun j => h0 66 j (by decide) (by omega)) hM
  rw [f_X12_findFirst_66]
  cases hi : isO D w with
  | false =>
    have c5 : I 66 5 = nI (d_o D) := hM'.2.2.2.2.2.1
    refine ⟨I, ?_, ?_, ?_, fun a j a1 a2 a3 => h0 a j a1 a3⟩
    · rw [f_X12_findFirst_72, if_pos (by rfl), f_X12_findFirst_211]
      simp (disch := omega) only [so_65, ao_66, ly_65_0 hR, ly_65_1 hR, ly_65_2 hR, ly_65_4 hR, ly_65_11 hR, ly_65_13 hR, ly_65_14 hR, ly_65_15 hR, ly_65_16 hR, ly_65_17 hR, ly_65_18 hR, ly_65_19 hR, ly_65_20 hR, ly_65_22 hR, ly_65_24 hR, ly_65_25 hR, ly_65_26 hR, ly_65_27 hR, ly_65_28 hR, ly_65_29 hR, ly_65_30 hR, c5, lit, gp1, rl1, rs1, bd1, lt1, n_add, n_sub, n_dec, n_le, n_lt, n_eq, n_in, nI_clamp, n_mul, m_or, m_and, m_pow, m_bit, m_dif, n_neg, yn_0, yn_1, yn_z, yn_d, one31, Nat.add_sub_cancel, Nat.not_lt_zero, if_true, if_false, ite_true, ite_false]
      rw [if_pos (by omega)]
    · rw [fst_nil hV hw hi 9, h21]; rfl
    · rw [fst_nil hV hw hi 9]; intro i g q; cases q
  | true =>
    have hc := cnt_9 (insm_512 D)
    have hl9 := fst_len D w 9 (insm D) (lst D)
    obtain ⟨Im, e1, e2, e3, e4, e5⟩ := m_ff72 (J := J) (D0 := D) (o0 := d_o D) hR hV hw 9 512 D I 0 due hc (by decide) hM' hV rfl rfl rfl (Nat.le_refl _) (by unfold afD; omega) (Nat.le_refl _) (hd hi) h21
    obtain ⟨I3, s1, s2, s3⟩ := e5 Im (512 - (fstO D w 9 (insm D) (lst D)).length) (fun _ => rfl)
    rw [show 512 - (fstO D w 9 (insm D) (lst D)).length + (fstO D w 9 (insm D) (lst D)).length = 512 by omega] at s1
    refine ⟨I3, ?_, ?_, fun i g h => ?_, fun a j a1 a2 a3 => ?_⟩
    · rw [show yn true = nI 1 from rfl]
      refine e1.trans (s1.trans ?_)
      obtain ⟨f, hf⟩ := Nat.exists_eq_succ_of_ne_zero (n := 512 - (fstO D w 9 (insm D) (lst D)).length) (by omega)
      have c5 : I3 66 5 = nI (d_o D) := by rw [s2]; exact hM'.2.2.2.2.2.1
      rw [hf, f_X12_findFirst_211]
      simp (disch := omega) only [so_65, ao_66, ly_65_0 hR, ly_65_1 hR, ly_65_2 hR, ly_65_4 hR, ly_65_11 hR, ly_65_13 hR, ly_65_14 hR, ly_65_15 hR, ly_65_16 hR, ly_65_17 hR, ly_65_18 hR, ly_65_19 hR, ly_65_20 hR, ly_65_22 hR, ly_65_24 hR, ly_65_25 hR, ly_65_26 hR, ly_65_27 hR, ly_65_28 hR, ly_65_29 hR, ly_65_30 hR, c5, lit, gp1, rl1, rs1, bd1, lt1, n_add, n_sub, n_dec, n_le, n_lt, n_eq, n_in, nI_clamp, n_mul, m_or, m_and, m_pow, m_bit, m_dif, n_neg, yn_0, yn_1, yn_z, yn_d, one31, Nat.add_sub_cancel, Nat.not_lt_zero, if_true, if_false, ite_true, ite_false]
      rw [if_pos (by omega)]; rfl
    · rw [s3 65 21 (by decide), e2]; congr 1; omega
    · rw [s3 78 i (by decide)]
      have := e3 i g h
      rwa [Nat.zero_add] at this
    · by_cases q : a = 66
      · rw [q, s2, h0 66 j (by decide) (by omega)]
      · rw [s3 a j q, e4 a j q a1 a3 (by omega), h0 a j a1 a3]
theorem m_findFirst (hR : Lay R) (hV : VD D) {w : Nat} (hw : w ≤ 2) {I : Iw} (hM : MR I 66 D) :
    ∃ I', f_X12_findFirst (S0 ++ J) R I 65 (nI w) = some (I', yn (isO D w)) ∧ I' 65 21 = nI (fstO D w 9 (insm D) (lst D)).length ∧
      (∀ i g, (fstO D w 9 (insm D) (lst D))[i]? = some g → I' 78 i = nI g) ∧ frF I I' := by
  have h9 := hV.1
  have ho := hV.2.1
  have hc := cnt_9 (insm_512 D)
  have c5 : I 66 5 = nI (d_o D) := hM.2.2.2.2.2.1
  have hM4 : MR (up2 I 65 21 (nI 0)) 66 D := MR_fr (fun j => by rw [u_eq, if_neg (by omega)]) hM
  have h4 : ∀ (I5 : Iw), fr7 (up2 I 65 21 (nI 0)) I5 → (∀ a j, a ≠ 77 → ¬ (a = 65 ∧ j = 21) → I5 a j = I a j) ∧ I5 65 21 = nI 0 := fun I5 h5 => ⟨fun a j a1 a2 => by rw [h5 a j a1, u_eq, if_neg a2], by rw [h5 65 21 (by decide), u_eq, if_pos ⟨rfl, rfl⟩]⟩
  have z10 : ¬ ((1 : Nat) = 0) := by decide
  have z20 : ¬ ((2 : Nat) = 0) := by decide
  have z21 : ¬ ((2 : Nat) = 1) := by decide
  rw [f_X12_findFirst]
  have hw3 : w = 0 ∨ w = 1 ∨ w = 2 := by omega
  rcases hw3 with e | e | e <;> subst e
  · obtain ⟨I5, e1, e2⟩ := m_ways (J := J) hR (cnt (insm D)) 12 (by omega) D _ rfl hM4 hV
    obtain ⟨q1, q2⟩ := h4 I5 e2
    obtain ⟨I', r1, r2⟩ := m_ff66 (J := J) hR hV (w := 0) (by decide) q1 hM q2 (due := nI (oW (fre D) (cnt (insm D)) (insm D) (lst D))) (fun _ => ⟨fun q => (by cases q), fun q => (by cases q)⟩)
    refine ⟨I', ?_, r2⟩
    rw [← r1]
    have hW := oW_lt (fre D) (k := cnt (insm D)) (s := insm D) (l := lst D) (by omega)
    simp (disch := omega) only [so_65, ao_66, ly_65_0 hR, ly_65_1 hR, ly_65_2 hR, ly_65_4 hR, ly_65_11 hR, ly_65_13 hR, ly_65_14 hR, ly_65_15 hR, ly_65_16 hR, ly_65_17 hR, ly_65_18 hR, ly_65_19 hR, ly_65_20 hR, ly_65_22 hR, ly_65_24 hR, ly_65_25 hR, ly_65_26 hR, ly_65_27 hR, ly_65_28 hR, ly_65_29 hR, ly_65_30 hR, c5, e1, f_X12_findFirst_40, lit, gp1, rl1, rs1, bd1, lt1, n_add, n_sub, n_dec, n_le, n_lt, n_eq, n_in, nI_clamp, n_mul, m_or, m_and, m_pow, m_bit, m_dif, n_neg, yn_0, yn_1, yn_z, yn_d, one31, Nat.add_sub_cancel, Nat.not_lt_zero, if_true, if_false, ite_true, ite_false]
    unfold isO Wy
    rw [if_pos rfl]
    by_cases q : 0 < oW (fre D) (cnt (insm D)) (insm D) (lst D)
    · rw [if_neg (by omega), decide_eq_true q]; rfl
    · rw [if_pos (by omega), decide_eq_false q]; rfl
  · obtain ⟨I5, e1, e2⟩ := m_longest (J := J) hR (cnt (insm D)) 12 (by omega) D _ rfl hM4 hV
    obtain ⟨q1, q2⟩ := h4 I5 e2
    obtain ⟨I', r1, r2⟩ := m_ff66 (J := J) hR hV (w := 1) (by decide) q1 hM q2 (due := nI (oM (fre D) (cnt (insm D)) (insm D) (lst D))) (fun _ => ⟨fun _ => rfl, fun q => (by cases q)⟩)
    refine ⟨I', ?_, r2⟩
    rw [← r1]
    have hW := oM_le (fre D) (cnt (insm D)) (insm D) (lst D)
    simp (disch := omega) only [so_65, ao_66, ly_65_0 hR, ly_65_1 hR, ly_65_2 hR, ly_65_4 hR, ly_65_11 hR, ly_65_13 hR, ly_65_14 hR, ly_65_15 hR, ly_65_16 hR, ly_65_17 hR, ly_65_18 hR, ly_65_19 hR, ly_65_20 hR, ly_65_22 hR, ly_65_24 hR, ly_65_25 hR, ly_65_26 hR, ly_65_27 hR, ly_65_28 hR, ly_65_29 hR, ly_65_30 hR, c5, e1, f_X12_findFirst_40, z10, Nat.not_lt_zero, lit, gp1, rl1, rs1, bd1, lt1, n_add, n_sub, n_dec, n_le, n_lt, n_eq, n_in, nI_clamp, n_mul, m_or, m_and, m_pow, m_bit, m_dif, n_neg, yn_0, yn_1, yn_z, yn_d, one31, Nat.add_sub_cancel, Nat.not_lt_zero, if_true, if_false, ite_true, ite_false]
    rfl
  · obtain ⟨I5, e1, e2⟩ := m_cost (J := J) hR (af := afD D) (by unfold afD; omega) (cnt (insm D)) 12 (by omega) D _ rfl (Nat.le_refl _) hM4 hV
    obtain ⟨q1, q2⟩ := h4 I5 e2
    obtain ⟨I', r1, r2⟩ := m_ff66 (J := J) hR hV (w := 2) (by decide) q1 hM q2 (due := cR (oC (fre D) (feD D) (afD D) (cnt (insm D)) (insm D) (lst D))) (fun h => ⟨fun q => (by cases q), fun _ => by
      unfold isO at h
      rw [if_neg (by decide), if_neg (by decide)] at h
      obtain ⟨c, hc⟩ := Option.isSome_iff_exists.mp h
      refine ⟨c, hc, ?_⟩
      unfold Cy at hc
      rw [hc]; rfl⟩)
    refine ⟨I', ?_, r2⟩
    rw [← r1]
    rw [show afD D - cnt (insm D) + 1 = 1 by unfold afD; omega] at e1
    simp (disch := omega) only [so_65, ao_66, ly_65_0 hR, ly_65_1 hR, ly_65_2 hR, ly_65_4 hR, ly_65_11 hR, ly_65_13 hR, ly_65_14 hR, ly_65_15 hR, ly_65_16 hR, ly_65_17 hR, ly_65_18 hR, ly_65_19 hR, ly_65_20 hR, ly_65_22 hR, ly_65_24 hR, ly_65_25 hR, ly_65_26 hR, ly_65_27 hR, ly_65_28 hR, ly_65_29 hR, ly_65_30 hR, c5, e1, f_X12_findFirst_40, z20, z21, lit, gp1, rl1, rs1, bd1, lt1, n_add, n_sub, n_dec, n_le, n_lt, n_eq, n_in, nI_clamp, n_mul, m_or, m_and, m_pow, m_bit, m_dif, n_neg, yn_0, yn_1, yn_z, yn_d, one31, Nat.add_sub_cancel, Nat.not_lt_zero, if_true, if_false, ite_true, ite_false]
    unfold isO Cy
    simp only [z20, z21, if_false]
    cases ho : oC (fre D) (feD D) (afD D) (cnt (insm D)) (insm D) (lst D) with
    | none => rw [if_pos (by rw [cR_neg (fun c q => (by cases q))])]; rfl
    | some c =>
      have hb1 := oC_b hV (af := afD D) (by unfold afD; omega) hc ho
      rw [if_neg (by rw [cR_neg (fun c q => by cases q; omega)]; exact fun q => (by cases q))]; rfl
end REFTOLD
