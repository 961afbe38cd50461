/-! THE REFERENCE: the first order of a sort, and all home again -/
theorem fndR_ge {P : Nat → Bool} : ∀ {m t r : Nat}, fndR P t m = some r → t ≤ r
  | 0, _, _, h => by cases h
  | m + 1, t, r, h => by
    rw [fndR] at h
    split at h
    · cases h; exact Nat.le_refl _
    · have := fndR_ge h; omega
theorem fndR_ext {P : Nat → Bool} {m : Nat} : ∀ {k t : Nat}, (∀ i, t + k ≤ i → P i = false) → fndR P t (k + m) = fndR P t k
  | 0, t, h => by
    rw [Nat.zero_add]
    cases e : fndR P t m with
    | none => rfl
    | some r =>
      have h2 := (fndR_lt e).2
      rw [h r (by have := fndR_ge e; omega)] at h2
      cases h2
  | k + 1, t, h => by
    rw [show k + 1 + m = (k + m) + 1 by omega, fndR, fndR]
    split
    · rfl
    · exact fndR_ext (fun i hi => h i (by omega))
theorem sm_ge {f : Nat → Nat} {g : Nat} : ∀ {n : Nat}, g < n → f g ≤ sm f n
  | n + 1, h => by
    rw [sm]
    by_cases e : g = n
    · subst e; omega
    · have := sm_ge (f := f) (g := g) (n := n) (by omega); omega
/-- what is left of a first order's due -/
def dueOK (w : Nat) (D : Dt) (s l : Nat) (due : Int32) : Prop := (w = 1 → due = nI (My D s l)) ∧ (w = 2 → ∃ c, Cy D s l = some c ∧ due = nI c)
section REFFIRST
variable {J : Sh} {R : Rw} {D0 : Dt}
theorem m_goesOn (hR : Lay R) {D : Dt} {I : Iw} {w s l g p : Nat} {due : Int32} (hw : w ≤ 2) (hM : MR I 66 D) (hV : VD D) (hf : fre D = fre D0) (hfe : feD D = feD D0) (hV0 : VD D0) (hs : insm D = mdiff s (2 ^ g)) (hl : lst D = g + 1) (hp : p = afD D0 - cnt s) (hcs : cnt (mdiff s (2 ^ g)) + 1 = cnt s) (hca : cnt s ≤ afD D0) (hd : dueOK w D0 s l due) (hs5 : s < 512) :
    ∃ I', f_X12_goesOn (S0 ++ J) R I 65 (nI w) (nI (p + 1)) due (nI (feD D0 g)) = some (I', yn (ldb D0 w s l g)) ∧ fr7 I I' := by
  have ha9 : afD D0 ≤ 9 := cnt_9 (insm_512 D0)
  have h9 := cnt_9 hs5
  have hcD : cnt (insm D) = cnt (mdiff s (2 ^ g)) := by rw [hs]
  have hlt : cnt (mdiff s (2 ^ g)) < 12 := by omega
  have z10 : ¬ ((1 : Nat) = 0) := by decide
  have z20 : ¬ ((2 : Nat) = 0) := by decide
  have z21 : ¬ ((2 : Nat) = 1) := by decide
  rw [f_X12_goesOn]
  unfold ldb
  have hw3 : w = 0 ∨ w = 1 ∨ w = 2 := by omega
  rcases hw3 with e | e | e <;> subst e
  · obtain ⟨I', e1, e2⟩ := m_ways (J := J) hR (cnt (mdiff s (2 ^ g))) 12 hlt D I hcD hM hV
    refine ⟨I', ?_, e2⟩
    rw [hf, hs, hl] at e1
    have hW := oW_lt (fre D0) (k := cnt (mdiff s (2 ^ g))) (s := mdiff s (2 ^ g)) (l := g + 1) (by omega)
    simp (disch := omega) only [so_65, ao_66, ly_65_0 hR, ly_65_1 hR, ly_65_2 hR, ly_65_4 hR, ly_65_11 hR, ly_65_13 hR, ly_65_14 hR, ly_65_15 hR, ly_65_16 hR, ly_65_17 hR, ly_65_18 hR, ly_65_19 hR, ly_65_20 hR, ly_65_22 hR, ly_65_24 hR, ly_65_25 hR, ly_65_26 hR, ly_65_27 hR, ly_65_28 hR, ly_65_29 hR, ly_65_30 hR, e1, lit, gp1, rl1, rs1, bd1, lt1, n_add, n_sub, n_dec, n_le, n_lt, n_eq, n_in, nI_clamp, n_mul, m_or, m_and, m_pow, m_bit, m_dif, n_neg, yn_0, yn_1, yn_z, yn_d, one31, Nat.add_sub_cancel, Nat.not_lt_zero, if_true, if_false, ite_true, ite_false]
    unfold Wy
    by_cases q : 0 < oW (fre D0) (cnt (mdiff s (2 ^ g))) (mdiff s (2 ^ g)) (g + 1)
    · rw [if_neg (by omega), decide_eq_true q]; rfl
    · rw [if_pos (by omega), decide_eq_false q]; rfl
  · obtain ⟨I', e1, e2⟩ := m_longest (J := J) hR (cnt (mdiff s (2 ^ g))) 12 hlt D I hcD hM hV
    refine ⟨I', ?_, e2⟩
    rw [hf, hs, hl] at e1
    have hM1 := oM_le (fre D0) (cnt (mdiff s (2 ^ g))) (mdiff s (2 ^ g)) (g + 1)
    have hM2 := oM_le (fre D0) (cnt s) s l
    have hd1 := hd.1 rfl
    unfold My at hd1
    rw [hd1]
    simp (disch := omega) only [so_65, ao_66, ly_65_0 hR, ly_65_1 hR, ly_65_2 hR, ly_65_4 hR, ly_65_11 hR, ly_65_13 hR, ly_65_14 hR, ly_65_15 hR, ly_65_16 hR, ly_65_17 hR, ly_65_18 hR, ly_65_19 hR, ly_65_20 hR, ly_65_22 hR, ly_65_24 hR, ly_65_25 hR, ly_65_26 hR, ly_65_27 hR, ly_65_28 hR, ly_65_29 hR, ly_65_30 hR, e1, z10, lit, gp1, rl1, rs1, bd1, lt1, n_add, n_sub, n_dec, n_le, n_lt, n_eq, n_in, nI_clamp, n_mul, m_or, m_and, m_pow, m_bit, m_dif, n_neg, yn_0, yn_1, yn_z, yn_d, one31, Nat.add_sub_cancel, Nat.not_lt_zero, if_true, if_false, ite_true, ite_false]
    unfold My
    by_cases q : oM (fre D0) (cnt (mdiff s (2 ^ g))) (mdiff s (2 ^ g)) (g + 1) + 1 = oM (fre D0) (cnt s) s l
    · rw [if_pos (by omega), decide_eq_true q]; rfl
    · rw [if_neg (by omega), decide_eq_false q]; rfl
  · obtain ⟨I', e1, e2⟩ := m_cost (J := J) hR ha9 (cnt (mdiff s (2 ^ g))) 12 hlt D I hcD (by omega) hM hV
    refine ⟨I', ?_, e2⟩
    rw [hf, hfe, hs, hl, show afD D0 - cnt (mdiff s (2 ^ g)) + 1 = p + 1 + 1 by omega] at e1
    obtain ⟨c0, hc0, hd2⟩ := hd.2 rfl
    have hb0 := oC_b hV0 (by omega) h9 hc0
    have hfl := feD_lt hV0 g
    have hmul : (p + 1) * feD D0 g ≤ 10 * 5000 := Nat.mul_le_mul (by omega) (by omega)
    have hpe : feD D0 g * (afD D0 - cnt s + 1) = (p + 1) * feD D0 g := by rw [Nat.mul_comm, hp]
    rw [hd2]
    simp (disch := omega) only [so_65, ao_66, ly_65_0 hR, ly_65_1 hR, ly_65_2 hR, ly_65_4 hR, ly_65_11 hR, ly_65_13 hR, ly_65_14 hR, ly_65_15 hR, ly_65_16 hR, ly_65_17 hR, ly_65_18 hR, ly_65_19 hR, ly_65_20 hR, ly_65_22 hR, ly_65_24 hR, ly_65_25 hR, ly_65_26 hR, ly_65_27 hR, ly_65_28 hR, ly_65_29 hR, ly_65_30 hR, e1, z20, z21, lit, gp1, rl1, rs1, bd1, lt1, n_add, n_sub, n_dec, n_le, n_lt, n_eq, n_in, nI_clamp, n_mul, m_or, m_and, m_pow, m_bit, m_dif, n_neg, yn_0, yn_1, yn_z, yn_d, one31, Nat.add_sub_cancel, Nat.not_lt_zero, if_true, if_false, ite_true, ite_false]
    unfold Cy at hc0 ⊢
    rw [hc0, hpe]
    cases ho : oC (fre D0) (feD D0) (afD D0) (cnt (mdiff s (2 ^ g))) (mdiff s (2 ^ g)) (g + 1) with
    | none =>
      rw [if_pos (by rw [cR_neg (fun c q => (by cases q))])]; rfl
    | some c =>
      have hb1 := oC_b hV0 (by omega) (by omega) ho
      rw [if_neg (by rw [cR_neg (fun c q => by cases q; omega)]; exact fun q => (by cases q))]
      simp only [cR, n_add]
      have hq : (nI ((p + 1) * feD D0 g + c) = nI c0) = ((p + 1) * feD D0 g + c = c0) := n_eq (by omega) (by omega)
      by_cases q : (p + 1) * feD D0 g + c = c0
      · rw [if_pos (by rw [hq]; exact q), decide_eq_true (by rw [q])]; rfl
      · rw [if_neg (by rw [hq]; exact q), decide_eq_false (fun z => q (Option.some.inj z).symm)]; rfl
def pF (D0 : Dt) (w s l g : Nat) : Bool := (fre D0 s l).testBit g && ldb D0 w s l g
theorem due_next {w s l g p : Nat} {due : Int32} (hw : w ≤ 2) (hd : dueOK w D0 s l due) (hp : p = afD D0 - cnt s) (hb : ldb D0 w s l g = true) :
    dueOK w D0 (mdiff s (2 ^ g)) (g + 1) (if w = 1 then due - nI 1 else if w = 2 then due - nI (p + 1) * nI (feD D0 g) else due) := by
  unfold ldb at hb
  have hw3 : w = 0 ∨ w = 1 ∨ w = 2 := by omega
  rcases hw3 with e | e | e <;> subst e
  · exact ⟨fun q => (by cases q), fun q => (by cases q)⟩
  · refine ⟨fun _ => ?_, fun q => (by cases q)⟩
    rw [if_neg (by decide), if_pos rfl, decide_eq_true_eq] at hb
    rw [if_pos rfl, hd.1 rfl, ← hb, n_sub (by omega)]; rfl
  · refine ⟨fun q => (by cases q), fun _ => ?_⟩
    rw [if_neg (by decide), if_neg (by decide)] at hb
    obtain ⟨c0, h0, h1⟩ := hd.2 rfl
    cases hc : Cy D0 (mdiff s (2 ^ g)) (g + 1) with
    | none => rw [hc] at hb; cases hb
    | some c =>
      rw [hc] at hb
      have hb := of_decide_eq_true hb
      rw [h0, Nat.mul_comm] at hb
      have hb := Option.some.inj hb
      refine ⟨c, rfl, ?_⟩
      rw [if_neg (by decide), if_pos rfl, h1, n_mul, hp, hb, n_sub (by omega)]
      congr 1; omega
theorem m_ff83 (hR : Lay R) (hV0 : VD D0) {D : Dt} {w p o0 : Nat} {due : Int32} (hw : w ≤ 2) (hV : VD D) (hf : fre D = fre D0) (hfe : feD D = feD D0) (hp : p = afD D0 - cnt (insm D)) (hca : cnt (insm D) ≤ afD D0) (hd : dueOK w D0 (insm D) (lst D) due)
    (ko : Iw → Nat → Int32 → Int32 → Int32 → Int32 → Int32 → Option (Iw × Int32)) :
    ∀ (r t f : Nat) (I : Iw), MR I 66 D → I 65 21 = nI p → t + r = d_n D → r + 1 < f →
    match fndR (pF D0 w (insm D) (lst D)) t r with
    | none => ∃ I', f_X12_findFirst_83 (S0 ++ J) R ko f I 65 (nI w) (nI o0) due (nI 1) (nI 0) (nI t) = ko I' 65 (nI w) (nI o0) due (nI 1) (nI 0) ∧ fr7 I I'
    | some g => ∃ I' due', f_X12_findFirst_83 (S0 ++ J) R ko f I 65 (nI w) (nI o0) due (nI 1) (nI 0) (nI t) = ko I' 65 (nI w) (nI o0) due' (nI 1) (nI 1) ∧ MR I' 66 (Dout D g) ∧ VD (Dout D g) ∧ I' 65 21 = nI (p + 1) ∧ I' 78 p = nI g ∧
        (∀ a j, a ≠ 66 → a ≠ 77 → ¬ (a = 65 ∧ j = 21) → ¬ (a = 78 ∧ j = p) → I' a j = I a j) ∧ dueOK w D0 (mdiff (insm D) (2 ^ g)) (g + 1) due' ∧ insm (Dout D g) = mdiff (insm D) (2 ^ g) ∧ lst (Dout D g) = g + 1 ∧ cnt (insm (Dout D g)) + 1 = cnt (insm D) ∧
        ∀ I2 : Iw, (∀ j, I2 66 j = I' 66 j) → ∃ I3, f_X12_home (S0 ++ J) R I2 65 = some (I3, nI g) ∧ (∀ j, I3 66 j = I 66 j) ∧ ∀ a j, a ≠ 66 → I3 a j = I2 a j := by
  have h9 := hV.1
  intro r
  induction r with
  | zero =>
    intro t f I hM hI ht hfu
    have c3 : I 66 3 = nI (d_n D) := hM.2.2.2.1
    obtain ⟨f, rfl⟩ := Nat.exists_eq_succ_of_ne_zero (n := f) (by omega)
    refine ⟨I, ?_, fun _ _ _ => rfl⟩
    rw [f_X12_findFirst_83]
    simp (disch := omega) only [so_65, ao_66, ly_65_0 hR, ly_65_1 hR, ly_65_2 hR, ly_65_4 hR, ly_65_11 hR, ly_65_13 hR, ly_65_14 hR, ly_65_15 hR, ly_65_16 hR, ly_65_17 hR, ly_65_18 hR, ly_65_19 hR, ly_65_20 hR, ly_65_22 hR, ly_65_24 hR, ly_65_25 hR, ly_65_26 hR, ly_65_27 hR, ly_65_28 hR, ly_65_29 hR, ly_65_30 hR, c3, f_X12_findFirst_208, lit, gp1, rl1, rs1, bd1, lt1, n_add, n_sub, n_dec, n_le, n_lt, n_eq, n_in, nI_clamp, n_mul, m_or, m_and, m_pow, m_bit, m_dif, n_neg, yn_0, yn_1, yn_z, yn_d, one31, Nat.add_sub_cancel, Nat.not_lt_zero, if_true, if_false, ite_true, ite_false]
    rw [if_pos (by omega)]
  | succ r ih =>
    intro t f I hM hI ht hfu
    have c3 : I 66 3 = nI (d_n D) := hM.2.2.2.1
    obtain ⟨f, rfl⟩ := Nat.exists_eq_succ_of_ne_zero (n := f) (by omega)
    have hlt : t < d_n D := by omega
    have hb := mayb_fre (D := D) (s := insm D) (l := lst D) hlt
    rw [hf] at hb
    have h5 := insm_512 D
    rw [f_X12_findFirst_83]
    simp (disch := omega) only [so_65, ao_66, ly_65_0 hR, ly_65_1 hR, ly_65_2 hR, ly_65_4 hR, ly_65_11 hR, ly_65_13 hR, ly_65_14 hR, ly_65_15 hR, ly_65_16 hR, ly_65_17 hR, ly_65_18 hR, ly_65_19 hR, ly_65_20 hR, ly_65_22 hR, ly_65_24 hR, ly_65_25 hR, ly_65_26 hR, ly_65_27 hR, ly_65_28 hR, ly_65_29 hR, ly_65_30 hR, ao_78, c3, m_mayGo hR hM hV hlt, f_X12_findFirst_202, f_X12_findFirst_193, f_X12_findFirst_208, hb, lit, gp1, rl1, rs1, bd1, lt1, n_add, n_sub, n_dec, n_le, n_lt, n_eq, n_in, nI_clamp, n_mul, m_or, m_and, m_pow, m_bit, m_dif, n_neg, yn_0, yn_1, yn_z, yn_d, one31, Nat.add_sub_cancel, Nat.not_lt_zero, if_true, if_false, ite_true, ite_false]
    rw [if_neg (by omega)]
    rw [fndR, pF]
    cases hbt : (fre D0 (insm D) (lst D)).testBit t with
    | false =>
      have := ih (t + 1) f I hM hI (by omega) (by omega)
      rw [Bool.false_and, if_neg (by decide)]
      simp only [if_true]
      exact this
    | true =>
      obtain ⟨hi, _, hV2, hin, hls, hc⟩ := fre_t hV (by rw [hf]; exact hbt)
      obtain ⟨If, f1, f2⟩ := m_fee (J := J) hR hM hV hlt
      have hMf : MR If 66 D := MR_fr (fun j => f2 66 j (by decide)) hM
      obtain ⟨I1, o1, o2, o3, o4⟩ := m_ob (J := J) hR hMf hV hi
      have e21 : I1 65 21 = nI p := by rw [o3 65 21 (by decide), f2 65 21 (by decide), hI]
      have hcs : cnt (mdiff (insm D) (2 ^ t)) + 1 = cnt (insm D) := by rw [← hin]; exact hc
      obtain ⟨I2, w1, w2⟩ := m_goesOn (J := J) (D0 := D0) (D := Dout D t) (s := insm D) (l := lst D) (g := t) (p := p) (due := due) hR hw o2 hV2 hf hfe hV0 hin hls hp hcs hca hd h5
      have hfee : fee D t = feD D0 t := by rw [← hfe]; exact (if_pos hlt).symm
      rw [Bool.true_and, f1, hfee]
      simp only [Bool.true_eq_false, if_false, bd1, o1, e21, n_add, w1, yn_0]
      cases hld : ldb D0 w (insm D) (lst D) t with
      | false =>
        obtain ⟨I3, b1, b2, b3⟩ := o4 I2 (fun j => w2 66 j (by decide))
        have g1 : ∀ a j, a ≠ 77 → I3 a j = I a j := fun a j h => by
          by_cases q : a = 66
          · rw [q, b2, f2 66 j (by decide)]
          · rw [b3 a j q, w2 a j h, o3 a j q, f2 a j h]
        have := ih (t + 1) f I3 (MR_fr (fun j => g1 66 j (by decide)) hM) (by rw [g1 65 21 (by decide), hI]) (by omega) (by omega)
        simp only [Bool.false_eq_true, if_false, if_true, b1, bd1]
        rw [show yn false = nI 0 from rfl]
        cases hfn : fndR (pF D0 w (insm D) (lst D)) (t + 1) r with
        | none =>
          rw [hfn] at this
          obtain ⟨I', q1, q2⟩ := this
          exact ⟨I', q1, fun a j h => by rw [q2 a j h, g1 a j h]⟩
        | some g =>
          rw [hfn] at this
          obtain ⟨I', due', q1, q2, q3, q4, q5, q6, q7, q8, q9, q10, q11⟩ := this
          refine ⟨I', due', q1, q2, q3, q4, q5, fun a j a1 a2 a3 a4 => by rw [q6 a j a1 a2 a3 a4, g1 a j a2], q7, q8, q9, q10, fun I4 h4 => ?_⟩
          obtain ⟨I5, r1, r2, r3⟩ := q11 I4 h4
          exact ⟨I5, r1, fun j => by rw [r2 j, g1 66 j (by decide)], r3⟩
      | true =>
        have e21' : I2 65 21 = nI p := by rw [w2 65 21 (by decide), e21]
        have hp9 : p < 9 := by
          have : afD D0 ≤ 9 := cnt_9 (insm_512 D0)
          omega
        have hd2 := due_next (D0 := D0) (g := t) (p := p) hw hd hp hld
        obtain ⟨f', rfl⟩ := Nat.exists_eq_succ_of_ne_zero (n := f) (by omega)
        have hM6 : ∀ v : Iw, (∀ j, v 66 j = I2 66 j) → MR v 66 (Dout D t) := fun v hv => MR_fr (fun j => by rw [hv j, w2 66 j (by decide)]) o2
        have v3 : ∀ v : Iw, (∀ j, v 66 j = I2 66 j) → v 66 3 = nI (d_n D) := fun v hv => (hM6 v hv).2.2.2.1
        have V6 : ∀ j, up2 (up2 I2 78 p (nI t)) 65 21 (nI (p + 1)) 66 j = I2 66 j := fun j => by rw [u_eq, if_neg (by omega), u_eq, if_neg (by omega)]
        have V21 : up2 I2 78 p (nI t) 65 21 = nI p := by rw [u_eq, if_neg (by omega)]; exact e21'
        have V22 : up2 (up2 I2 78 p (nI t)) 65 21 (nI (p + 1)) 65 21 = nI (p + 1) := by rw [u_eq, if_pos ⟨rfl, rfl⟩]
        have last : ∀ du : Int32, f_X12_findFirst_83 (S0 ++ J) R ko (f' + 1) (up2 (up2 I2 78 p (nI t)) 65 21 (nI (p + 1))) 65 (nI w) (nI o0) du (nI 1) (nI 1) (nI (t + 1)) = ko (up2 (up2 I2 78 p (nI t)) 65 21 (nI (p + 1))) 65 (nI w) (nI o0) du (nI 1) (nI 1) := fun du => by
          rw [f_X12_findFirst_83]
          simp (disch := omega) only [so_65, ao_66, ly_65_0 hR, ly_65_1 hR, ly_65_2 hR, ly_65_4 hR, ly_65_11 hR, ly_65_13 hR, ly_65_14 hR, ly_65_15 hR, ly_65_16 hR, ly_65_17 hR, ly_65_18 hR, ly_65_19 hR, ly_65_20 hR, ly_65_22 hR, ly_65_24 hR, ly_65_25 hR, ly_65_26 hR, ly_65_27 hR, ly_65_28 hR, ly_65_29 hR, ly_65_30 hR, v3 _ V6, f_X12_findFirst_208, lit, gp1, rl1, rs1, bd1, lt1, n_add, n_sub, n_dec, n_le, n_lt, n_eq, n_in, nI_clamp, n_mul, m_or, m_and, m_pow, m_bit, m_dif, n_neg, yn_0, yn_1, yn_z, yn_d, one31, Nat.add_sub_cancel, Nat.not_lt_zero, if_true, if_false, ite_true, ite_false]
          split <;> rfl
        simp only [Bool.true_eq_false, if_false, if_true]
        refine ⟨up2 (up2 I2 78 p (nI t)) 65 21 (nI (p + 1)), (if w = 1 then due - nI 1 else if w = 2 then due - nI (p + 1) * nI (feD D0 t) else due), ?_, hM6 _ V6, hV2, V22, ?_, fun a j a1 a2 a3 a4 => ?_, hd2, hin, hls, hc, fun I4 h4 => ?_⟩
        · simp (disch := omega) only [so_65, ao_66, ly_65_0 hR, ly_65_1 hR, ly_65_2 hR, ly_65_4 hR, ly_65_11 hR, ly_65_13 hR, ly_65_14 hR, ly_65_15 hR, ly_65_16 hR, ly_65_17 hR, ly_65_18 hR, ly_65_19 hR, ly_65_20 hR, ly_65_22 hR, ly_65_24 hR, ly_65_25 hR, ly_65_26 hR, ly_65_27 hR, ly_65_28 hR, ly_65_29 hR, ly_65_30 hR, ao_78, e21', V21, V22, lit, gp1, rl1, rs1, bd1, lt1, n_add, n_sub, n_dec, n_le, n_lt, n_eq, n_in, nI_clamp, n_mul, m_or, m_and, m_pow, m_bit, m_dif, n_neg, yn_0, yn_1, yn_z, yn_d, one31, Nat.add_sub_cancel, Nat.not_lt_zero, if_true, if_false, ite_true, ite_false]
          rw [show yn true = nI 1 from rfl]
          have z3 : (nI w = nI 1) = (w = 1) := n_eq (by omega) (by decide)
          have z4 : (nI w = nI 2) = (w = 2) := n_eq (by omega) (by decide)
          by_cases e1 : w = 1
          · rw [if_pos e1, if_pos e1]; exact last _
          · rw [if_neg e1, if_neg e1]
            by_cases e2 : w = 2
            · rw [if_pos e2, if_pos e2]; exact last _
            · rw [if_neg e2, if_neg e2]; exact last _
        · rw [u_eq, if_neg (by omega), u_eq, if_pos ⟨rfl, rfl⟩]
        · rw [u_eq, if_neg (by omega), u_eq, if_neg (by omega), w2 a j a2, o3 a j a1, f2 a j a2]
        · obtain ⟨I5, r1, r2, r3⟩ := o4 I4 (fun j => by rw [h4 j, V6 j, w2 66 j (by decide)])
          exact ⟨I5, r1, fun j => by rw [r2 j, f2 66 j (by decide)], r3⟩
theorem nxt_eq {w s l : Nat} (hV0 : VD D0) : nxtO D0 w s l = fndR (pF D0 w s l) 0 (d_n D0) := by
  have h9 := hV0.1
  have := fndR_ext (P := pF D0 w s l) (m := 9 - d_n D0) (k := d_n D0) (t := 0) (fun i hi => by rw [pF, fre_hi (by omega), Bool.false_and])
  rw [show d_n D0 + (9 - d_n D0) = 9 by omega] at this
  exact this
theorem m_ff72 (hR : Lay R) (hV0 : VD D0) {w o0 : Nat} (hw : w ≤ 2) : ∀ (r f : Nat) (D : Dt) (I : Iw) (p : Nat) (due : Int32), cnt (insm D) ≤ r → r + 1 < f → MR I 66 D → VD D → fre D = fre D0 → feD D = feD D0 → d_n D = d_n D0 → o0 ≤ d_o D → p = afD D0 - cnt (insm D) → cnt (insm D) ≤ afD D0 → dueOK w D0 (insm D) (lst D) due → I 65 21 = nI p →
    ∃ Im, f_X12_findFirst_72 (S0 ++ J) R f I 65 (nI w) (nI o0) due (nI 1) (nI 1) = f_X12_findFirst_211 (S0 ++ J) R 512 Im 65 (nI o0) (nI 1) ∧ Im 65 21 = nI (p + (fstO D0 w r (insm D) (lst D)).length) ∧
      (∀ i g, (fstO D0 w r (insm D) (lst D))[i]? = some g → Im 78 (p + i) = nI g) ∧ (∀ a j, a ≠ 66 → a ≠ 77 → ¬ (a = 65 ∧ j = 21) → ¬ (a = 78 ∧ p ≤ j) → Im a j = I a j) ∧
      ∀ (I2 : Iw) (f2 : Nat), (∀ j, I2 66 j = Im 66 j) → ∃ I3, f_X12_findFirst_211 (S0 ++ J) R (f2 + (fstO D0 w r (insm D) (lst D)).length) I2 65 (nI o0) (nI 1) = f_X12_findFirst_211 (S0 ++ J) R f2 I3 65 (nI o0) (nI 1) ∧ (∀ j, I3 66 j = I 66 j) ∧ ∀ a j, a ≠ 66 → I3 a j = I2 a j := by
  intro r
  induction r with
  | zero =>
    intro f D I p due hcr hf hM hV e1 e2 e3 ho hp hca hd hI
    obtain ⟨f, rfl⟩ := Nat.exists_eq_succ_of_ne_zero (n := f) (by omega)
    have h9 := hV.1
    have := m_ff83 (J := J) (o0 := o0) hR hV0 hw hV e1 e2 hp hca hd (f_X12_findFirst_72 (S0 ++ J) R f) (d_n D) 0 512 I hM hI (by omega) (by omega)
    have hn : fndR (pF D0 w (insm D) (lst D)) 0 (d_n D) = none := by
      cases q : fndR (pF D0 w (insm D) (lst D)) 0 (d_n D) with
      | none => rfl
      | some g =>
        have h2 := (fndR_lt q).2
        rw [pF, ← e1, fre_none (by omega) (insm_lt D), Bool.false_and] at h2
        cases h2
    rw [hn] at this
    obtain ⟨I', q1, q2⟩ := this
    obtain ⟨f, rfl⟩ := Nat.exists_eq_succ_of_ne_zero (n := f) (by omega)
    refine ⟨I', ?_, by rw [q2 65 21 (by decide), hI]; rfl, fun i g h => (by cases h), fun a j a1 a2 a3 a4 => q2 a j a2, fun I2 f2 h => ⟨I2, rfl, fun j => by rw [h j, q2 66 j (by decide)], fun a j _ => rfl⟩⟩
    rw [f_X12_findFirst_72, if_neg (by decide)]
    refine q1.trans ?_
    rw [f_X12_findFirst_72, if_pos (by rfl)]
  | succ r ih =>
    intro f D I p due hcr hf hM hV e1 e2 e3 ho hp hca hd hI
    obtain ⟨f, rfl⟩ := Nat.exists_eq_succ_of_ne_zero (n := f) (by omega)
    have h9 := hV.1
    have := m_ff83 (J := J) (o0 := o0) hR hV0 hw hV e1 e2 hp hca hd (f_X12_findFirst_72 (S0 ++ J) R f) (d_n D) 0 512 I hM hI (by omega) (by omega)
    have hnx : nxtO D0 w (insm D) (lst D) = fndR (pF D0 w (insm D) (lst D)) 0 (d_n D) := by rw [e3]; exact nxt_eq hV0
    rw [fstO, hnx]
    cases hn : fndR (pF D0 w (insm D) (lst D)) 0 (d_n D) with
    | none =>
      rw [hn] at this
      obtain ⟨I', q1, q2⟩ := this
      obtain ⟨f, rfl⟩ := Nat.exists_eq_succ_of_ne_zero (n := f) (by omega)
      refine ⟨I', ?_, by rw [q2 65 21 (by decide), hI]; rfl, fun i g h => (by cases h), fun a j a1 a2 a3 a4 => q2 a j a2, fun I2 f2 h => ⟨I2, rfl, fun j => by rw [h j, q2 66 j (by decide)], fun a j _ => rfl⟩⟩
      rw [f_X12_findFirst_72, if_neg (by decide)]
      refine q1.trans ?_
      rw [f_X12_findFirst_72, if_pos (by rfl)]
    | some g =>
      rw [hn] at this
      obtain ⟨I1, due', q1, q2, q3, q4, q5, q6, q7, q8, q9, q10, q11⟩ := this
      have hpc : p + 1 = afD D0 - cnt (insm (Dout D g)) := by omega
      obtain ⟨Im, r1, r2, r3, r4, r5⟩ := ih f (Dout D g) I1 (p + 1) due' (by omega) (by omega) q2 q3 e1 e2 e3 (show o0 ≤ d_o D + 1 by omega) hpc (by omega) (by rw [q8, q9]; exact q7) q4
      rw [q8, q9] at r2 r3 r5
      refine ⟨Im, ?_, ?_, fun i x h => ?_, fun a j a1 a2 a3 a4 => ?_, fun I2 f2 h => ?_⟩
      · rw [f_X12_findFirst_72, if_neg (by decide)]
        exact q1.trans r1
      · rw [r2, List.length_cons]; congr 1; omega
      · cases i with
        | zero =>
          rw [List.getElem?_cons_zero] at h
          cases h
          rw [Nat.add_zero, r4 78 p (by decide) (by decide) (by omega) (by omega), q5]
        | succ i =>
          rw [List.getElem?_cons_succ] at h
          rw [show p + (i + 1) = p + 1 + i by omega]
          exact r3 i x h
      · rw [r4 a j a1 a2 a3 (by omega), q6 a j a1 a2 a3 (by omega)]
      · obtain ⟨I3, s1, s2, s3⟩ := r5 I2 (f2 + 1) h
        obtain ⟨I4, u1, u2, u3⟩ := q11 I3 s2
        refine ⟨I4, ?_, u2, fun a j hh => by rw [u3 a j hh, s3 a j hh]⟩
        rw [List.length_cons, show f2 + ((fstO D0 w r (mdiff (insm D) (2 ^ g)) (g + 1)).length + 1) = f2 + 1 + (fstO D0 w r (mdiff (insm D) (2 ^ g)) (g + 1)).length by omega]
        refine s1.trans ?_
        have c5 : I3 66 5 = nI (d_o D + 1) := by rw [s2]; exact q2.2.2.2.2.2.1
        have hod := q3.2.1
        have hod2 : d_o D + 1 ≤ d_n D := hod
        rw [f_X12_findFirst_211]
        simp (disch := omega) only [so_65, ao_66, ly_65_0 hR, ly_65_1 hR, ly_65_2 hR, ly_65_4 hR, ly_65_11 hR, ly_65_13 hR, ly_65_14 hR, ly_65_15 hR, ly_65_16 hR, ly_65_17 hR, ly_65_18 hR, ly_65_19 hR, ly_65_20 hR, ly_65_22 hR, ly_65_24 hR, ly_65_25 hR, ly_65_26 hR, ly_65_27 hR, ly_65_28 hR, ly_65_29 hR, ly_65_30 hR, c5, u1, lit, gp1, rl1, rs1, bd1, lt1, n_add, n_sub, n_dec, n_le, n_lt, n_eq, n_in, nI_clamp, n_mul, m_or, m_and, m_pow, m_bit, m_dif, n_neg, yn_0, yn_1, yn_z, yn_d, one31, Nat.add_sub_cancel, Nat.not_lt_zero, if_true, if_false, ite_true, ite_false]
        rw [if_neg (by omega)]
end REFFIRST
