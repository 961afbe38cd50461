/-! CALLS: runs by lot; copies of the reference's row -/
theorem MR_cp {I I' : Iw} {a b : Nat} {D : Dt} (h : ∀ j, j < 306 → I' a j = I b j) (hM : MR I b D) (hV : VD D) : MR I' a D := by
  obtain ⟨h0, h1, h2, h3, h4, h5, h6, h7, h8, hl, hp, hr, hk⟩ := hM
  have n9 := hV.1
  have on := hV.2.1
  have np6 := hV.2.2.2.2.2.2.2.1
  have nr8 := hV.2.2.2.2.2.2.1.1
  have tk := hV.2.2.2.2.2.2.1.2.2.1
  refine ⟨(h _ (by omega)).trans h0, (h _ (by omega)).trans h1, (h _ (by omega)).trans h2, (h _ (by omega)).trans h3, (h _ (by omega)).trans h4, (h _ (by omega)).trans h5, (h _ (by omega)).trans h6, fun k q => (h _ (by omega)).trans (h7 k q), fun g q => ?_, fun k q => ?_, fun k q => ?_, fun r q => ?_, fun r q => (h _ (by omega)).trans (hk r q)⟩
  · have w := h8 g q
    exact ⟨(h _ (by omega)).trans w.1, (h _ (by omega)).trans w.2.1, (h _ (by omega)).trans w.2.2.1, (h _ (by omega)).trans w.2.2.2.1, fun e => (h _ (by omega)).trans (w.2.2.2.2 e)⟩
  · have := hV.2.2.1 k q
    exact (h _ (by omega)).trans (hl k q)
  · exact ⟨(h _ (by omega)).trans (hp k q).1, (h _ (by omega)).trans (hp k q).2⟩
  · have w := hr r q
    refine ⟨(h _ (by omega)).trans w.1, (h _ (by omega)).trans w.2.1, fun e => (h _ (by omega)).trans (w.2.2.1 e), fun i t ht => ?_⟩
    have hi : i < (tks (d_rr D r)).length := by
      rcases Nat.lt_or_ge i (tks (d_rr D r)).length with z | z
      · exact z
      · rw [List.getElem?_eq_none z] at ht; cases ht
    have hm := tk_mono D (r + 1) (d_nr D) (by omega)
    have hs : tkA D (r + 1) = tkA D r + (tks (d_rr D r)).length := rfl
    exact (h _ (by omega)).trans (w.2.2.2 i t ht)
theorem m_copy2 {S : Sh} {R : Rw} {a b : Nat} (hab : a ≠ b) (ha : ∀ i, aok S 20 a i = inb 306 i) (hb : ∀ i, aok S 20 b i = inb 306 i) : ∀ (r t f : Nat) (I : Iw), t + r = 306 → r < f → (∀ j, j < t → I b j = I a j) →
    ∃ I', f_X12_copy_2 S R f I a b (nI t) = some I' ∧ (∀ j, j < 306 → I' b j = I a j) ∧ ∀ c j, c ≠ b → I' c j = I c j := by
  intro r
  induction r with
  | zero =>
    intro t f I ht hf hI
    obtain ⟨f, rfl⟩ := Nat.exists_eq_succ_of_ne_zero (n := f) (by omega)
    have : t = 306 := by omega
    subst this
    exact ⟨I, by rw [f_X12_copy_2, if_pos (by decide)], hI, fun _ _ _ => rfl⟩
  | succ r ih =>
    intro t f I ht hf hI
    obtain ⟨f, rfl⟩ := Nat.exists_eq_succ_of_ne_zero (n := f) (by omega)
    obtain ⟨I', e1, e2, e3⟩ := ih (t + 1) f (up2 I b t (I a t)) (by omega) (by omega) (fun j hj => by
      rw [u_eq, u_eq, if_neg (show ¬ (a = b ∧ j = t) from fun q => hab q.1)]
      by_cases q : j = t
      · rw [if_pos ⟨rfl, q⟩, q]
      · rw [if_neg (fun z => q z.2)]; exact hI j (by omega))
    refine ⟨I', ?_, fun j hj => by rw [e2 j hj, u_eq, if_neg (fun q => hab q.1)], fun c j hc => by rw [e3 c j hc, u_eq, if_neg (fun q => hc q.1)]⟩
    rw [f_X12_copy_2]
    simp (disch := omega) only [ha, hb, lit, gp1, rl1, rs1, bd1, lt1, n_add, n_sub, n_dec, n_le, n_lt, n_eq, n_in, nI_clamp, n_mul, m_or, m_and, m_pow, m_bit, m_dif, n_neg, yn_0, yn_1, yn_z, yn_d, one31, Nat.add_sub_cancel, Nat.not_lt_zero, if_true, if_false, ite_true, ite_false, Bool.true_eq_false, Bool.false_eq_true, Nat.add_zero, Nat.zero_add]
    rw [if_neg (by omega)]
    exact e1
theorem m_copy {S : Sh} {R : Rw} {a b : Nat} (hab : a ≠ b) (ha : ∀ i, aok S 20 a i = inb 306 i) (hb : ∀ i, aok S 20 b i = inb 306 i) (I : Iw) :
    ∃ I', f_X12_copy S R I a b = some I' ∧ (∀ j, j < 306 → I' b j = I a j) ∧ ∀ c j, c ≠ b → I' c j = I c j := by
  rw [f_X12_copy]
  exact m_copy2 hab ha hb 306 0 512 I rfl (by decide) (fun j q => absurd q (Nat.not_lt_zero j))
def nxZ (D : Dt) (v : Int32) (g : Nat) : Dt := Dout (Dz D v) g
def nxD (D : Dt) (g : Nat) : Dt := nxZ D (lotN (d_z D)) g
theorem nx_z (D : Dt) (v : Int32) (g : Nat) : d_z (nxZ D v g) = v := rfl
theorem nx_fre (D : Dt) (v : Int32) (g : Nat) : fre (nxZ D v g) = fre D := rfl
theorem nx_n (D : Dt) (v : Int32) (g : Nat) : d_n (nxZ D v g) = d_n D := rfl
theorem nx_lst (D : Dt) (v : Int32) (g : Nat) : lst (nxZ D v g) = g + 1 := lst_out _ _
theorem nx_ins {D : Dt} (v : Int32) {g : Nat} (hg : g < 9) : insm (nxZ D v g) = mdiff (insm D) (2 ^ g) := (insm_out hg).trans (by rw [insm_z])
theorem nx_VD {D : Dt} (hV : VD D) (v : Int32) {g : Nat} (h : isin D g = true) : VD (nxZ D v g) := VD_out (VD_z hV v) (isin_zt h v)
theorem zz_z (D : Dt) (v : Int32) : d_z (Dz D v) = v := rfl
def runD : Nat → Dt → Dt
  | 0, D => D
  | r + 1, D => match drwG D (d_z D) with | none => D | some g => runD r (nxD D g)
theorem run_none {D : Dt} (h : fre D (insm D) (lst D) = 0) : ∀ r, runD r D = D
  | 0 => rfl
  | r + 1 => by rw [runD, drwG, if_pos h]
theorem run_some {D : Dt} {g : Nat} (h : drwG D (d_z D) = some g) (r : Nat) : runD (r + 1) D = runD r (nxD D g) := by rw [runD, h]
theorem fre_c0 {D : Dt} (hV : VD D) (h : cnt (insm D) = 0) : fre D (insm D) (lst D) = 0 := Nat.eq_of_testBit_eq fun i => by
  rw [fre_none h (insm_lt D), Nat.zero_testBit]
theorem nx_cnt {D : Dt} (hV : VD D) (v : Int32) {g : Nat} (h : isin D g = true) : cnt (insm (nxZ D v g)) + 1 = cnt (insm D) := by
  have h9 := hV.1
  have hg := (isin_iff.mp h).1
  rw [nx_ins v (by omega)]
  exact cnt_diff (by rw [insm_bit, decide_eq_true (by omega), Bool.true_and]; exact h) (by omega)
/-- z and how many let all go, after k runs -/
def oS (D : Dt) : Nat → Int32 × Nat
  | 0 => (d_z D, 0)
  | k + 1 => (d_z (runD 9 (Dz D (oS D k).1)), (oS D k).2 + if insm (runD 9 (Dz D (oS D k).1)) = 0 then 1 else 0)
theorem oS_le (D : Dt) : ∀ k, (oS D k).2 ≤ k
  | 0 => Nat.le_refl _
  | k + 1 => by
    have := oS_le D k
    show (oS D k).2 + (if insm (runD 9 (Dz D (oS D k).1)) = 0 then 1 else 0) ≤ k + 1
    split <;> omega
section CALLS8
variable {J : Sh} {R : Rw} {I : Iw} {D0 : Dt} {T : Nat}
theorem q_often65 (hR : Lay R) (hC : CR I 1 D0) (hV0 : VD D0) (ko : Nat → Int32 → Int32 → Int32 → Int32 → Option Int32) (x1 x2 x4 : Int32) : ∀ (r k f : Nat) (D : Dt), k + r = 9 → r < f → VD D → fre D = fre D0 → d_n D = d_n D0 → cnt (insm D) ≤ r →
    f_X11_often_65 (S0 ++ J) R I ko f 0 x1 x2 (d_z D) x4 (nI (insm D)) (nI (fre D (insm D) (lst D))) (nI k) = f_X11_often_118 (S0 ++ J) R I ko 0 x1 x2 (d_z (runD r D)) x4 (nI (insm (runD r D))) := by
  intro r
  induction r with
  | zero =>
    intro k f D hk hf hV e1 e2 hc
    obtain ⟨f, rfl⟩ := Nat.exists_eq_succ_of_ne_zero (n := f) (by omega)
    have : k = 9 := by omega
    subst this
    rw [f_X11_often_65, if_pos (by decide)]; rfl
  | succ r ih =>
    intro k f D hk hf hV e1 e2 hc
    obtain ⟨f, rfl⟩ := Nat.exists_eq_succ_of_ne_zero (n := f) (by omega)
    have h9 := hV.1
    have hm := fre_lt hV (insm D) (lst D)
    rw [f_X11_often_65]
    rw [if_neg (by rw [litq, n_le (by decide) (by omega)]; omega)]
    by_cases h0 : fre D (insm D) (lst D) = 0
    · rw [h0, if_pos (show nI 0 = 0 from rfl), run_none h0]
    · obtain ⟨g, hg, hlt, hi⟩ := drwG_some hV h0 (d_z D)
      have hd := q_drawnOf (S := S0 ++ J) (R := R) (I := I) hV h0 (d_z D)
      rw [hg] at hd
      have hd : f_X11_drawnOf (S0 ++ J) R I (nI (fre D (insm D) (lst D))) (lotN (d_z D)) = some (nI g) := hd
      have hg10 : g < 10 := by omega
      have hml : mdiff (insm D) (2 ^ g) < 1024 := mdiff_lt (insm_lt D)
      have hmg := p_mayGo (J := J) hR hC hV0 hml (show g + 1 ≤ d_n D0 by omega)
      rw [n_pred] at hmg
      have hih := ih (k + 1) f (nxZ D (lotN (d_z D)) g) (by omega) (by omega) (nx_VD hV _ hi) ((nx_fre _ _ _).trans e1) ((nx_n _ _ _).trans e2) (by have := nx_cnt hV (lotN (d_z D)) hi; omega)
      rw [nx_z, nx_fre, nx_lst, nx_ins _ (by omega)] at hih
      rw [run_some hg]
      unfold nxD
      rw [← hih]
      rw [if_neg (by show ¬ (nI (fre D (insm D) (lst D)) = nI 0); rw [n_eq (by omega) (by decide)]; exact h0)]
      simp only [f_X11_lotBehind, lot_e]
      have hmg : f_X7_mayGo (S0 ++ J) R I 1 (nI (mdiff (insm D) (2 ^ g))) (nI g) = some (nI (fre D (mdiff (insm D) (2 ^ g)) (g + 1))) := by rw [e1]; exact hmg
      simp (disch := omega) only [so0q, so1q, ly_0_0 hR, hd, x_without (insm_lt D) hg10, hmg, litq, gp1q, rl1q, rs1q, bd1q, lt1q, n_add, n_sub, n_dec, n_le, n_lt, n_eq, n_in, nI_clamp, n_mul, m_or, m_and, m_pow, m_bit, m_dif, n_neg, yn_0, yn_1, yn_z, yn_d, one31, Nat.add_sub_cancel, Nat.not_lt_zero, if_true, if_false, ite_true, ite_false, Bool.true_eq_false, Bool.false_eq_true, Nat.add_zero, Nat.zero_add]
theorem q_often25 (hR : Lay R) (hC : CR I 1 D0) (hV : VD D0) {n : Nat} (hn : n ≤ 60) : ∀ (r k f : Nat), k + r = n → r < f →
    f_X11_often_25 (S0 ++ J) R I f 0 (nI n) (nI (oS D0 k).2) (oS D0 k).1 (nI k) = some (nI (oS D0 n).2) := by
  have c6 : I 1 6 = nI (insm D0) := hC.1.2.1
  intro r
  induction r with
  | zero =>
    intro k f hk hf
    obtain ⟨f, rfl⟩ := Nat.exists_eq_succ_of_ne_zero (n := f) (by omega)
    have : k = n := by omega
    subst this
    rw [f_X11_often_25, if_pos (by rw [n_le (by omega) (by omega)]; omega)]
  | succ r ih =>
    intro k f hk hf
    obtain ⟨f, rfl⟩ := Nat.exists_eq_succ_of_ne_zero (n := f) (by omega)
    have hih := ih (k + 1) f (by omega) (by omega)
    have h65 := q_often65 (J := J) hR hC hV (f_X11_often_25 (S0 ++ J) R I f) (nI n) (nI (oS D0 k).2) (nI k) 9 0 512 (Dz D0 (oS D0 k).1) rfl (by decide) (VD_z hV _) (fre_z _ _) rfl (cnt_9 (insm_512 D0))
    rw [zz_z, insm_z, fre_z, lst_z] at h65
    have hins : insm (runD 9 (Dz D0 (oS D0 k).1)) < 1024 := insm_lt _
    rw [f_X11_often_25]
    simp (disch := omega) only [so0q, so1q, ly_0_0 hR, c6, q_last hR hC hV, q_mayGo hR hC hV, litq, gp1q, rl1q, rs1q, bd1q, lt1q, n_add, n_sub, n_dec, n_le, n_lt, n_eq, n_in, nI_clamp, n_mul, m_or, m_and, m_pow, m_bit, m_dif, n_neg, yn_0, yn_1, yn_z, yn_d, one31, Nat.add_sub_cancel, Nat.not_lt_zero, if_true, if_false, ite_true, ite_false, Bool.true_eq_false, Bool.false_eq_true, Nat.add_zero, Nat.zero_add]
    rw [if_neg (by omega), h65, f_X11_often_118]
    have ho : (oS D0 (k + 1)) = (d_z (runD 9 (Dz D0 (oS D0 k).1)), (oS D0 k).2 + if insm (runD 9 (Dz D0 (oS D0 k).1)) = 0 then 1 else 0) := rfl
    rw [ho] at hih
    simp only at hih
    by_cases h0 : insm (runD 9 (Dz D0 (oS D0 k).1)) = 0
    · rw [if_pos h0] at hih
      rw [if_pos (by rw [h0]; rfl), f_X11_often_126]
      simp only [litq, n_add]
      exact hih
    · rw [if_neg h0, Nat.add_zero] at hih
      rw [if_neg (by show ¬ (nI (insm (runD 9 (Dz D0 (oS D0 k).1))) = nI 0); rw [n_eq (by omega) (by decide)]; exact h0), f_X11_often_126]
      simp only [litq, n_add]
      exact hih
theorem m_often75 (hR : Lay R) (ko : Iw → Nat → Int32 → Int32 → Int32 → Option (Iw × Int32)) (x1 x2 x3 : Int32) : ∀ (r f : Nat) (D : Dt) (I : Iw) (x5 : Int32), MR I 66 D → VD D → cnt (insm D) ≤ r → r + 1 < f → ¬ x5 = -nI 3 →
    ∃ I', f_X12_often_75 (S0 ++ J) R ko f I 65 x1 x2 x3 x5 = f_X12_often_75 (S0 ++ J) R ko 1 I' 65 x1 x2 x3 (-nI 3) ∧ MR I' 66 (runD r D) ∧ VD (runD r D) ∧ ∀ a j, a ≠ 66 → I' a j = I a j := by
  have stop : ∀ (f : Nat) (D : Dt) (I : Iw) (x5 : Int32), MR I 66 D → VD D → 1 < f → ¬ x5 = -nI 3 → fre D (insm D) (lst D) = 0 → f_X12_often_75 (S0 ++ J) R ko f I 65 x1 x2 x3 x5 = f_X12_often_75 (S0 ++ J) R ko 1 I 65 x1 x2 x3 (-nI 3) := by
    intro f D I x5 hM hV hf h5 h0
    obtain ⟨f, rfl⟩ := Nat.exists_eq_succ_of_ne_zero (n := f) (by omega)
    obtain ⟨f, rfl⟩ := Nat.exists_eq_succ_of_ne_zero (n := f) (by omega)
    have e1 := (m_drawn (J := J) hR hM hV).1 h0
    rw [f_X12_often_75, if_neg (show ¬ x5 = -3 from h5), so65q, gp1q, e1, bd1q]
    rw [f_X12_often_75, f_X12_often_75, if_pos (show -nI 3 = -3 from rfl), if_pos (show -nI 3 = -3 from rfl)]
  intro r
  induction r with
  | zero =>
    intro f D I x5 hM hV hc hf h5
    exact ⟨I, stop f D I x5 hM hV (by omega) h5 (fre_c0 hV (by omega)), hM, hV, fun _ _ _ => rfl⟩
  | succ r ih =>
    intro f D I x5 hM hV hc hf h5
    by_cases h0 : fre D (insm D) (lst D) = 0
    · refine ⟨I, stop f D I x5 hM hV (by omega) h5 h0, ?_, ?_, fun _ _ _ => rfl⟩
      · rw [run_none h0]; exact hM
      · rw [run_none h0]; exact hV
    · obtain ⟨f, rfl⟩ := Nat.exists_eq_succ_of_ne_zero (n := f) (by omega)
      have h9 := hV.1
      obtain ⟨g, hg, hlt, hi⟩ := drwG_some hV h0 (d_z D)
      obtain ⟨I1, e1, e2, e3⟩ := (m_drawn (J := J) hR hM hV).2 g hg
      have z : ¬ (nI g = -nI 3) := by rw [n_nn (by omega) (by decide) (by decide)]; exact id
      obtain ⟨I', q1, q2, q3, q4⟩ := ih f (nxZ D (lotN (d_z D)) g) I1 (nI g) e2 (nx_VD hV _ hi) (by have := nx_cnt hV (lotN (d_z D)) hi; omega) (by omega) z
      refine ⟨I', ?_, ?_, ?_, fun a j h => by rw [q4 a j h, e3 a j h]⟩
      · rw [f_X12_often_75, if_neg (show ¬ x5 = -3 from h5), so65q, gp1q, e1, bd1q]
        exact q1
      · rw [run_some hg]; exact q2
      · rw [run_some hg]; exact q3
theorem m_often27 (hR : Lay R) {I0 : Iw} (hM0 : MR I0 66 D0) (hV : VD D0) {n : Nat} (hn : n ≤ 60) : ∀ (r k f : Nat) (I : Iw), k + r = n → r < f → (∀ j, j < 306 → I 68 j = I0 66 j) → (k ≠ 0 → I 66 2 = (oS D0 k).1) →
    ∃ I', f_X12_often_27 (S0 ++ J) R f I 65 (nI n) (nI (oS D0 k).2) (nI k) = some (I', nI (oS D0 n).2) ∧ MR I' 66 D0 ∧ ∀ a j, a ≠ 66 → I' a j = I a j := by
  intro r
  induction r with
  | zero =>
    intro k f I hk hf h68 h2
    obtain ⟨f, rfl⟩ := Nat.exists_eq_succ_of_ne_zero (n := f) (by omega)
    have : k = n := by omega
    subst this
    obtain ⟨I1, e1, e2, e3⟩ := m_copy (S := S0 ++ J) (R := R) (a := 68) (b := 66) (by decide) (fun _ => rfl) (fun _ => rfl) I
    refine ⟨I1, ?_, MR_cp (fun j hj => by rw [e2 j hj, h68 j hj]) hM0 hV, fun a j h => e3 a j h⟩
    rw [f_X12_often_27, if_pos (by rw [n_le (by omega) (by omega)]; omega), f_X12_back]
    simp (disch := omega) only [so65q, ly_65_0 hR, ly_65_2 hR, e1, litq, gp1q, rl1q, rs1q, bd1q, lt1q, n_add, n_sub, n_dec, n_le, n_lt, n_eq, n_in, nI_clamp, n_mul, m_or, m_and, m_pow, m_bit, m_dif, n_neg, yn_0, yn_1, yn_z, yn_d, one31, Nat.add_sub_cancel, Nat.not_lt_zero, if_true, if_false, ite_true, ite_false, Bool.true_eq_false, Bool.false_eq_true, Nat.add_zero, Nat.zero_add]
  | succ r ih =>
    intro k f I hk hf h68 h2
    obtain ⟨f, rfl⟩ := Nat.exists_eq_succ_of_ne_zero (n := f) (by omega)
    obtain ⟨I1, e1, e2, e3⟩ := m_copy (S := S0 ++ J) (R := R) (a := 68) (b := 66) (by decide) (fun _ => rfl) (fun _ => rfl) I
    have hM1 : MR I1 66 D0 := MR_cp (fun j hj => by rw [e2 j hj, h68 j hj]) hM0 hV
    have hM2 : MR (up2 I1 66 2 (oS D0 k).1) 66 (Dz D0 (oS D0 k).1) := M_z hM1 hV
    obtain ⟨I3, s1, s2, s3, s4⟩ := m_often75 (J := J) hR (f_X12_often_27 (S0 ++ J) R f) (nI n) (nI (oS D0 k).2) (nI k) 9 512 (Dz D0 (oS D0 k).1) (up2 I1 66 2 (oS D0 k).1) 0 hM2 (VD_z hV _) (cnt_9 (insm_512 D0)) (by decide) (by decide)
    have hins : insm (runD 9 (Dz D0 (oS D0 k).1)) < 1024 := insm_lt _
    have hcn : cnt (insm (runD 9 (Dz D0 (oS D0 k).1))) ≤ 10 := cn_le (s := insm (runD 9 (Dz D0 (oS D0 k).1))) 10
    have fr : ∀ a j, a ≠ 66 → I3 a j = I a j := fun a j h => by rw [s4 a j h, u_eq, if_neg (by omega), e3 a j h]
    obtain ⟨I', q1, q2, q3⟩ := ih (k + 1) f I3 (by omega) (by omega) (fun j hj => by rw [fr 68 j (by decide)]; exact h68 j hj) (fun _ => s2.2.2.1)
    have ho : (oS D0 (k + 1)) = (d_z (runD 9 (Dz D0 (oS D0 k).1)), (oS D0 k).2 + if insm (runD 9 (Dz D0 (oS D0 k).1)) = 0 then 1 else 0) := rfl
    have hz : I1 66 2 = d_z D0 := hM1.2.2.1
    have h71 : f_X12_often_71 (S0 ++ J) R (f_X12_often_27 (S0 ++ J) R f) I1 65 (nI n) (nI (oS D0 k).2) (nI k) (oS D0 k).1 (nI 2) 66 = some (I', nI (oS D0 n).2) := by
      rw [f_X12_often_71]
      simp (disch := omega) only [ao66q, litq, gp1q, rl1q, rs1q, bd1q, lt1q, n_add, n_sub, n_dec, n_le, n_lt, n_eq, n_in, nI_clamp, n_mul, m_or, m_and, m_pow, m_bit, m_dif, n_neg, yn_0, yn_1, yn_z, yn_d, one31, Nat.add_sub_cancel, Nat.not_lt_zero, if_true, if_false, ite_true, ite_false, Bool.true_eq_false, Bool.false_eq_true, Nat.add_zero, Nat.zero_add]
      refine s1.trans ?_
      rw [f_X12_often_75, if_pos (show -nI 3 = -3 from rfl), so65q, gp1q, m_inMany hR s2 s3, bd1q, f_X12_often_104, f_X12_often_104]
      rw [ho] at q1
      simp only at q1
      by_cases h0 : insm (runD 9 (Dz D0 (oS D0 k).1)) = 0
      · rw [if_pos h0] at q1
        rw [if_pos (by rw [h0]; rfl)]
        simp only [litq, n_add]
        exact q1
      · rw [if_neg h0] at q1
        rw [if_neg (by show ¬ (nI (cnt (insm (runD 9 (Dz D0 (oS D0 k).1)))) = nI 0); rw [n_eq (by omega) (by decide)]; exact fun q => h0 ((cnt_0 hins).mp q))]
        simp only [litq, n_add]
        exact q1
    refine ⟨I', ?_, q2, fun a j h => by rw [q3 a j h, fr a j h]⟩
    rw [f_X12_often_27]
    simp (disch := omega) only [so65q, ao66q, ly_65_0 hR, ly_65_2 hR, e1, hz, litq, gp1q, rl1q, rs1q, bd1q, lt1q, n_add, n_sub, n_dec, n_le, n_lt, n_eq, n_in, nI_clamp, n_mul, m_or, m_and, m_pow, m_bit, m_dif, n_neg, yn_0, yn_1, yn_z, yn_d, one31, Nat.add_sub_cancel, Nat.not_lt_zero, if_true, if_false, ite_true, ite_false, Bool.true_eq_false, Bool.false_eq_true, Nat.add_zero, Nat.zero_add]
    rw [if_neg (by omega)]
    by_cases hk0 : k = 0
    · rw [if_pos hk0]
      rw [← h71, hk0]; rfl
    · rw [if_neg hk0, h2 hk0]
      exact h71
theorem z_often (hR : Lay R) (h : Core I D0 T) (x1 : Int32) : ZP I T (f_X11_often (S0 ++ J) R I 0 x1) (f_X12_often (S0 ++ J) R I 65 x1) := by
  have ⟨hC, hM, hV, hT⟩ := h
  cases b1 : btw x1 (nI 1) (nI 60) with
  | false => exact ZP_7 h (r := -nI 1) (by simp (disch := omega) only [f_X11_often, x_btw, b1, lit, gp1, rl1, rs1, bd1, lt1, n_add, n_sub, n_dec, n_le, n_lt, n_eq, n_in, nI_clamp, n_mul, m_or, m_and, m_pow, m_bit, m_dif, n_neg, yn_0, yn_1, yn_z, yn_d, one31, Nat.add_sub_cancel, Nat.not_lt_zero, if_true, if_false, ite_true, ite_false, Bool.true_eq_false, Bool.false_eq_true, Nat.add_zero, Nat.zero_add]) (by simp (disch := omega) only [f_X12_often, m_btw, b1, lit, gp1, rl1, rs1, bd1, lt1, n_add, n_sub, n_dec, n_le, n_lt, n_eq, n_in, nI_clamp, n_mul, m_or, m_and, m_pow, m_bit, m_dif, n_neg, yn_0, yn_1, yn_z, yn_d, one31, Nat.add_sub_cancel, Nat.not_lt_zero, if_true, if_false, ite_true, ite_false, Bool.true_eq_false, Bool.false_eq_true, Nat.add_zero, Nat.zero_add]) (fr7_r I)
  | true =>
    obtain ⟨n, n1, n2, rfl⟩ := btw_e (by decide) (by decide) b1
    have c15 : I 1 15 = d_z D0 := hC.1.2.2.2.2.2.2.1
    obtain ⟨I1, e1, e2, e3⟩ := m_copy (S := S0 ++ J) (R := R) (a := 66) (b := 68) (by decide) (fun _ => rfl) (fun _ => rfl) I
    obtain ⟨I2, m1, m2, m3⟩ := m_often27 (J := J) hR hM hV n2 n 0 512 I1 (by omega) (by omega) e2 (fun q => absurd rfl q)
    have hq := q_often25 (J := J) hR hC hV n2 n 0 512 (by omega) (by omega)
    have hfr : ∀ a j, a ≠ 66 → a ≠ 68 → I2 a j = I a j := fun a j a1 a2 => by rw [m3 a j a1, e3 a j a2]
    refine ⟨nI (oS D0 n).2, I2, D0, ?_, ?_, ⟨CR_fr (fun k j q1 q2 => hfr k j (by omega) (by omega)) hC, m2, hV, ST_up (by omega) (ST_fr (fun a j q => hfr a j (by omega) (by omega)) hT)⟩, fun a j q => hfr a j (by unfold scr at q; omega) (by unfold scr at q; omega)⟩
    · simp (disch := omega) only [f_X11_often, x_btw, b1, so0q, so1q, ly_0_0 hR, c15, litq, gp1q, rl1q, rs1q, bd1q, lt1q, n_add, n_sub, n_dec, n_le, n_lt, n_eq, n_in, nI_clamp, n_mul, m_or, m_and, m_pow, m_bit, m_dif, n_neg, yn_0, yn_1, yn_z, yn_d, one31, Nat.add_sub_cancel, Nat.not_lt_zero, if_true, if_false, ite_true, ite_false, Bool.true_eq_false, Bool.false_eq_true, Nat.add_zero, Nat.zero_add]
      exact hq
    · simp (disch := omega) only [f_X12_often, m_btw, b1, so65q, ly_65_0 hR, ly_65_2 hR, e1, litq, gp1q, rl1q, rs1q, bd1q, lt1q, n_add, n_sub, n_dec, n_le, n_lt, n_eq, n_in, nI_clamp, n_mul, m_or, m_and, m_pow, m_bit, m_dif, n_neg, yn_0, yn_1, yn_z, yn_d, one31, Nat.add_sub_cancel, Nat.not_lt_zero, if_true, if_false, ite_true, ite_false, Bool.true_eq_false, Bool.false_eq_true, Nat.add_zero, Nat.zero_add]
      exact m1
end CALLS8
