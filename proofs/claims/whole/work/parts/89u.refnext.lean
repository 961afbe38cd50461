/-! THE REFERENCE'S TOKENS -/
section RNX
variable {J : Sh} {R : Rw} {I : Iw} {b : Nat → Nat} {n : Nat}
def TMb (I : Iw) (b : Nat → Nat) (n : Nat) : Prop := n ≤ 200 ∧ I 65 5 = nI n ∧ ∀ k, k < n → b k < 256 ∧ I 69 k = nI (b k)
theorem TMb_fr {I I' : Iw} (h : TMb I b n) (f : ∀ a j, (a = 65 ∧ j = 5) ∨ a = 69 → I' a j = I a j) : TMb I' b n :=
  ⟨h.1, (f 65 5 (Or.inl ⟨rfl, rfl⟩)).trans h.2.1, fun k hk => ⟨(h.2.2 k hk).1, (f 69 k (Or.inr rfl)).trans (h.2.2 k hk).2⟩⟩
def so (b : Nat → Nat) (n e : Nat) : Nat := if n ≤ skp b n e then 0 else srt (b (skp b n e)) + 1
def RS (I : Iw) (b : Nat → Nat) (n e : Nat) : Prop := I 65 6 = nI (skp b n e) ∧ I 65 7 = nI (nx b n e) ∧ I 65 8 = nI (so b n e)
def frN (I I' : Iw) : Prop := ∀ a j, ¬ (a = 65 ∧ 6 ≤ j ∧ j ≤ 8) → I' a j = I a j
theorem srt_L (c : Nat) : isL c = decide (srt c = 0) := by
  unfold srt
  cases h : isL c with
  | true => rfl
  | false =>
    rw [if_neg (by decide)]
    split <;> rfl
theorem srt_G (c : Nat) : isG c = decide (srt c = 1) := by
  unfold srt
  cases h : isL c with
  | true =>
    rw [if_pos (by decide)]
    unfold isL at h
    unfold isG
    simp at h ⊢
    omega
  | false =>
    rw [if_neg (by decide)]
    cases h : isG c with
    | true => rfl
    | false => rfl
theorem btw_g {c lo hi : Nat} (hc : c < 2 ^ 30) (h1 : lo < 2 ^ 30) (h2 : hi < 2 ^ 30) : btw (nI c) (nI lo) (nI hi) = (decide (lo ≤ c) && decide (c ≤ hi)) := by
  rw [btw_n (by omega) (by omega) (by omega), Bool.decide_and]
theorem m_let {S : Sh} {c : Nat} (hc : c < 256) : f_X12_isLetter S R I (nI c) = some (yn (decide (srt c = 0))) := by
  rw [f_X12_isLetter, show (97 : Int32) = nI 97 from rfl, show (122 : Int32) = nI 122 from rfl, m_btw, btw_g (by omega) (by decide) (by decide), bd1, yn_z, gp1, ← srt_L]; rfl
theorem m_dig {S : Sh} {c : Nat} (hc : c < 256) : f_X12_isDigit S R I (nI c) = some (yn (decide (srt c = 1))) := by
  rw [f_X12_isDigit, show (48 : Int32) = nI 48 from rfl, show (57 : Int32) = nI 57 from rfl, m_btw, btw_g (by omega) (by decide) (by decide), bd1, yn_z, gp1, ← srt_G]; rfl
theorem m_let1 {S : Sh} : f_X12_isLetter S R I (-1) = some 0 := rfl
theorem m_dig1 {S : Sh} : f_X12_isDigit S R I (-1) = some 0 := rfl
theorem m_byte (hR : Lay R) (hT : TMb I b n) {k : Nat} (hk : k < n) : f_X12_byteAt (S0 ++ J) R I 65 (nI k) = some (nI (b k)) := by
  have hn := hT.1
  simp (disch := omega) only [f_X12_byteAt, so_65, hT.2.1, lit, gp1, rl1, rs1, bd1, lt1, n_add, n_sub, n_dec, n_le, n_lt, n_eq, n_in, nI_clamp, n_mul, m_or, m_and, m_pow, m_bit, m_dif, n_neg, yn_0, yn_1, yn_z, yn_d, one31, Nat.add_sub_cancel, Nat.not_lt_zero, if_true, if_false, ite_true, ite_false, Bool.true_eq_false, Bool.false_eq_true, Nat.add_zero, Nat.zero_add]
  rw [if_neg (by omega)]
  simp (disch := omega) only [so_65, ao_66, ao_67, ao_68, ao_69, ly_65_0 hR, ly_65_1 hR, ly_65_2 hR, ly_65_4 hR, ly_65_11 hR, ly_65_13 hR, ly_65_14 hR, ly_65_15 hR, ly_65_16 hR, ly_65_17 hR, ly_65_18 hR, ly_65_19 hR, ly_65_20 hR, ly_65_22 hR, ly_65_24 hR, ly_65_25 hR, ly_65_26 hR, ly_65_27 hR, ly_65_28 hR, ly_65_29 hR, ly_65_30 hR, (hT.2.2 k hk).2, lit, gp1, rl1, rs1, bd1, lt1, n_add, n_sub, n_dec, n_le, n_lt, n_eq, n_in, nI_clamp, n_mul, m_or, m_and, m_pow, m_bit, m_dif, n_neg, yn_0, yn_1, yn_z, yn_d, one31, Nat.add_sub_cancel, Nat.not_lt_zero, if_true, if_false, ite_true, ite_false, Bool.true_eq_false, Bool.false_eq_true, Nat.add_zero, Nat.zero_add]
theorem m_byteE (hT : TMb I b n) : f_X12_byteAt (S0 ++ J) R I 65 (nI n) = some (-1) := by
  have hn := hT.1
  simp (disch := omega) only [f_X12_byteAt, so_65, hT.2.1, lit, gp1, rl1, rs1, bd1, lt1, n_add, n_sub, n_dec, n_le, n_lt, n_eq, n_in, nI_clamp, n_mul, m_or, m_and, m_pow, m_bit, m_dif, n_neg, yn_0, yn_1, yn_z, yn_d, one31, Nat.add_sub_cancel, Nat.not_lt_zero, if_true, if_false, ite_true, ite_false, Bool.true_eq_false, Bool.false_eq_true, Nat.add_zero, Nat.zero_add]
  rw [if_pos (Nat.le_refl _)]
theorem m_next75 (hR : Lay R) : ∀ (r q f : Nat) (I : Iw), TMb I b n → q + r = n → r < f → I 65 7 = nI q →
    ∃ I', f_X12_next_75 (S0 ++ J) R f I 65 = some I' ∧ I' 65 7 = nI (rne b n 0 q) ∧ ∀ a j, ¬ (a = 65 ∧ j = 7) → I' a j = I a j
  | 0, q, f, I, hT, hq, hf, h7 => by
    obtain ⟨f, rfl⟩ := Nat.exists_eq_succ_of_ne_zero (n := f) (by omega)
    have : q = n := by omega
    subst this
    refine ⟨I, ?_, by rw [h7, rne_o (Or.inl (Nat.le_refl _))], fun _ _ _ => rfl⟩
    rw [f_X12_next_75, so_65, gp1, h7, m_byteE hT, bd1, m_let1, bd1, if_pos (by decide)]
  | r + 1, q, f, I, hT, hq, hf, h7 => by
    obtain ⟨f, rfl⟩ := Nat.exists_eq_succ_of_ne_zero (n := f) (by omega)
    by_cases e : srt (b q) = 0
    · obtain ⟨I', e1, e2, e3⟩ := m_next75 hR r (q + 1) f (up2 I 65 7 (nI (q + 1))) (TMb_fr hT fun a j z => by rw [u_eq, if_neg (by omega)]) (by omega) (by omega) (by rw [u_eq, if_pos ⟨rfl, rfl⟩])
      refine ⟨I', ?_, by rw [e2, rne_s (by omega) e], fun a j z => by rw [e3 a j z, u_eq, if_neg z]⟩
      rw [f_X12_next_75, so_65, gp1, h7, m_byte hR hT (by omega), bd1, m_let (hT.2.2 q (by omega)).1, bd1, decide_eq_true e, if_neg (by decide), lt1, lit 1, n_add]
      exact e1
    · refine ⟨I, ?_, by rw [h7, rne_o (Or.inr e)], fun _ _ _ => rfl⟩
      rw [f_X12_next_75, so_65, gp1, h7, m_byte hR hT (by omega), bd1, m_let (hT.2.2 q (by omega)).1, bd1, decide_eq_false e, if_pos (by decide)]
theorem m_next114 (hR : Lay R) : ∀ (r q f : Nat) (I : Iw), TMb I b n → q + r = n → r < f → I 65 7 = nI q →
    ∃ I', f_X12_next_114 (S0 ++ J) R f I 65 = some I' ∧ I' 65 7 = nI (rne b n 1 q) ∧ ∀ a j, ¬ (a = 65 ∧ j = 7) → I' a j = I a j
  | 0, q, f, I, hT, hq, hf, h7 => by
    obtain ⟨f, rfl⟩ := Nat.exists_eq_succ_of_ne_zero (n := f) (by omega)
    have : q = n := by omega
    subst this
    refine ⟨I, ?_, by rw [h7, rne_o (Or.inl (Nat.le_refl _))], fun _ _ _ => rfl⟩
    rw [f_X12_next_114, so_65, gp1, h7, m_byteE hT, bd1, m_dig1, bd1, if_pos (by decide)]
  | r + 1, q, f, I, hT, hq, hf, h7 => by
    obtain ⟨f, rfl⟩ := Nat.exists_eq_succ_of_ne_zero (n := f) (by omega)
    by_cases e : srt (b q) = 1
    · obtain ⟨I', e1, e2, e3⟩ := m_next114 hR r (q + 1) f (up2 I 65 7 (nI (q + 1))) (TMb_fr hT fun a j z => by rw [u_eq, if_neg (by omega)]) (by omega) (by omega) (by rw [u_eq, if_pos ⟨rfl, rfl⟩])
      refine ⟨I', ?_, by rw [e2, rne_s (by omega) e], fun a j z => by rw [e3 a j z, u_eq, if_neg z]⟩
      rw [f_X12_next_114, so_65, gp1, h7, m_byte hR hT (by omega), bd1, m_dig (hT.2.2 q (by omega)).1, bd1, decide_eq_true e, if_neg (by decide), lt1, lit 1, n_add]
      exact e1
    · refine ⟨I, ?_, by rw [h7, rne_o (Or.inr e)], fun _ _ _ => rfl⟩
      rw [f_X12_next_114, so_65, gp1, h7, m_byte hR hT (by omega), bd1, m_dig (hT.2.2 q (by omega)).1, bd1, decide_eq_false e, if_pos (by decide)]
theorem m_next8 (hR : Lay R) : ∀ (r q f : Nat) (I : Iw), TMb I b n → q + r = n → r < f → I 65 6 = nI q →
    ∃ I', f_X12_next_8 (S0 ++ J) R f I 65 = some I' ∧ RS I' b n q ∧ frN I I'
  | 0, q, f, I, hT, hq, hf, h6 => by
    obtain ⟨f, rfl⟩ := Nat.exists_eq_succ_of_ne_zero (n := f) (by omega)
    have : q = n := by omega
    subst this
    have hs : skp b q q = q := skp_o (Or.inl (Nat.le_refl _))
    refine ⟨up2 (up2 I 65 7 (nI q)) 65 8 (nI 0), ?_, ⟨?_, ?_, ?_⟩, fun a j z => by rw [u_eq, if_neg (by omega), u_eq, if_neg (by omega)]⟩
    · rw [f_X12_next_8, so_65, gp1, h6, m_byteE hT, bd1, if_neg (by decide), bd1, lt1, if_neg (by decide), lt1]; rfl
    · rw [u_eq, if_neg (by decide), u_eq, if_neg (by decide), h6, hs]
    · rw [u_eq, if_neg (by decide), u_eq, if_pos ⟨rfl, rfl⟩, nx, hs, nxP, if_pos (Nat.le_refl _)]
    · rw [u_eq, if_pos ⟨rfl, rfl⟩, so, hs, if_pos (Nat.le_refl _)]
  | r + 1, q, f, I, hT, hq, hf, h6 => by
    obtain ⟨f, rfl⟩ := Nat.exists_eq_succ_of_ne_zero (n := f) (by omega)
    have hn := hT.1
    have hc := (hT.2.2 q (by omega)).1
    have hb := m_byte (J := J) hR hT (show q < n by omega)
    by_cases e : b q = 32
    · obtain ⟨I', e1, e2, e3⟩ := m_next8 hR r (q + 1) f (up2 I 65 6 (nI (q + 1))) (TMb_fr hT fun a j z => by rw [u_eq, if_neg (by omega)]) (by omega) (by omega) (by rw [u_eq, if_pos ⟨rfl, rfl⟩])
      have hs := skp_s (b := b) (n := n) (q := q) (by omega) e
      refine ⟨I', ?_, ?_, fun a j z => by rw [e3 a j z, u_eq, if_neg (by omega)]⟩
      · rw [f_X12_next_8, so_65, gp1, h6, hb, bd1, e, if_pos (by decide), lt1, lit 1, n_add]
        exact e1
      · unfold RS nx so
        rw [hs]; exact e2
    · have hs : skp b n q = q := skp_o (Or.inr e)
      have hT7 : TMb (up2 I 65 7 (nI q)) b n := TMb_fr hT fun a j z => by rw [u_eq, if_neg (by omega)]
      have hhead : f_X12_next_8 (S0 ++ J) R (f + 1) I 65 = (if srt (b q) = 0 then f_X12_next_75 (S0 ++ J) R 512 (up2 (up2 I 65 7 (nI q)) 65 8 (nI 1)) 65 else if srt (b q) = 1 then f_X12_next_114 (S0 ++ J) R 512 (up2 (up2 I 65 7 (nI q)) 65 8 (nI 2)) 65 else some (up2 (up2 (up2 I 65 7 (nI q)) 65 8 (nI 3)) 65 7 (nI (q + 1)))) := by
        rw [f_X12_next_8, so_65, gp1, h6, hb, bd1, if_neg (by show ¬ nI (b q) = nI 32; rw [n_eq (by omega) (by omega)]; exact e), bd1, lt1, if_pos (by show nI 0 ≤ nI (b q); rw [n_le (by omega) (by omega)]; omega), m_let hc, bd1]
        by_cases s0 : srt (b q) = 0
        · rw [decide_eq_true s0, if_neg (by decide), if_pos s0, lt1]; rfl
        · rw [decide_eq_false s0, if_pos (by decide), if_neg s0, m_dig hc, bd1]
          by_cases s1 : srt (b q) = 1
          · rw [decide_eq_true s1, if_neg (by decide), if_pos s1, lt1]; rfl
          · rw [decide_eq_false s1, if_pos (by decide), if_neg s1, lt1, lt1, u_eq, if_neg (by decide), u_eq, if_pos ⟨rfl, rfl⟩, lit 1, n_add]; rfl
      rw [hhead]
      unfold RS nx so nxP
      rw [hs, if_neg (show ¬ n ≤ q by omega), if_neg (show ¬ n ≤ q by omega)]
      have s2 := srt_2 (b q)
      by_cases s0 : srt (b q) = 0
      · rw [if_pos s0]
        obtain ⟨I', e1, e2, e3⟩ := m_next75 (J := J) hR (n - q) q 512 (up2 (up2 I 65 7 (nI q)) 65 8 (nI 1)) (TMb_fr hT fun a j z => by rw [u_eq, if_neg (by omega), u_eq, if_neg (by omega)]) (by omega) (by omega) (by rw [u_eq, if_neg (by decide), u_eq, if_pos ⟨rfl, rfl⟩])
        refine ⟨I', e1, ⟨?_, ?_, ?_⟩, fun a j z => by rw [e3 a j (by omega), u_eq, if_neg (by omega), u_eq, if_neg (by omega)]⟩
        · rw [e3 65 6 (by decide), u_eq, if_neg (by decide), u_eq, if_neg (by decide), h6]
        · rw [e2, s0, if_neg (by decide)]
        · rw [e3 65 8 (by decide), u_eq, if_pos ⟨rfl, rfl⟩, s0]
      · rw [if_neg s0]
        by_cases s1 : srt (b q) = 1
        · rw [if_pos s1]
          obtain ⟨I', e1, e2, e3⟩ := m_next114 (J := J) hR (n - q) q 512 (up2 (up2 I 65 7 (nI q)) 65 8 (nI 2)) (TMb_fr hT fun a j z => by rw [u_eq, if_neg (by omega), u_eq, if_neg (by omega)]) (by omega) (by omega) (by rw [u_eq, if_neg (by decide), u_eq, if_pos ⟨rfl, rfl⟩])
          refine ⟨I', e1, ⟨?_, ?_, ?_⟩, fun a j z => by rw [e3 a j (by omega), u_eq, if_neg (by omega), u_eq, if_neg (by omega)]⟩
          · rw [e3 65 6 (by decide), u_eq, if_neg (by decide), u_eq, if_neg (by decide), h6]
          · rw [e2, s1, if_neg (by decide)]
          · rw [e3 65 8 (by decide), u_eq, if_pos ⟨rfl, rfl⟩, s1]
        · rw [if_neg s1]
          have s3 : srt (b q) = 2 := by omega
          refine ⟨_, rfl, ⟨?_, ?_, ?_⟩, fun a j z => by rw [u_eq, if_neg (by omega), u_eq, if_neg (by omega), u_eq, if_neg (by omega)]⟩
          · rw [u_eq, if_neg (by decide), u_eq, if_neg (by decide), u_eq, if_neg (by decide), h6]
          · rw [u_eq, if_pos ⟨rfl, rfl⟩, if_pos s3]
          · rw [u_eq, if_neg (by decide), u_eq, if_pos ⟨rfl, rfl⟩, s3]
theorem m_next (hR : Lay R) (hT : TMb I b n) {e : Nat} (he : e ≤ n) (h7 : I 65 7 = nI e) : ∃ I', f_X12_next (S0 ++ J) R I 65 = some I' ∧ RS I' b n e ∧ frN I I' := by
  have hn := hT.1
  obtain ⟨I', e1, e2, e3⟩ := m_next8 (J := J) (b := b) (n := n) hR (n - e) e 512 (up2 I 65 6 (nI e)) (TMb_fr hT fun a j z => by rw [u_eq, if_neg (by omega)]) (by omega) (by omega) (by rw [u_eq, if_pos ⟨rfl, rfl⟩])
  refine ⟨I', ?_, e2, fun a j z => by rw [e3 a j z, u_eq, if_neg (by omega)]⟩
  rw [f_X12_next, so_65, gp1, h7, lt1]
  exact e1
end RNX
