/-! THE CLASS PARTS THE TAPE -/
theorem q_sort {S : Sh} {R : Rw} {I : Iw} {c : Nat} (h : c < 256) : f_X3_sortOf S R I (sb c) = some (nI (srt c)) :=
  (by decide +kernel : ∀ c, c < 256 → f_X3_sortOf [] (fun _ _ => none) (fun _ _ => 0) (sb c) = some (nI (srt c))) c h
theorem sb_hi {c : Nat} (h : c < 256) (h2 : 128 ≤ c) : sb c < 0 := (by decide +kernel : ∀ c, c < 256 → 128 ≤ c → sb c < 0) c h h2
theorem sb_eq {c d : Nat} (h : c < 256) (hd : d < 128) : (sb c = nI d) = (c = d) := by
  by_cases h2 : c < 128
  · rw [sb, if_pos h2, n_eq (by omega) (by omega)]
  · refine propext ⟨fun e => ?_, fun e => by omega⟩
    have := sb_hi h (by omega)
    rw [e] at this
    exact absurd this (nI_pos (by omega))
theorem tx0_n : txw.length = 91 := by decide
theorem tx0_c : ∀ i, i < 91 → chr 0 i = nI (txw.getD i 0) := by decide +kernel
theorem tx0_k : ∀ i, i < 91 → chok 0 (nI i) = true := by decide +kernel
theorem tx0_l : ∀ i, i < 91 → txw.getD i 0 < 128 := by decide +kernel
theorem tx0_L : nI (txL.getD 0 0) = nI 91 := by decide +kernel
theorem tx0_N : decide (0 < txN) = true := by decide
section TAPE
variable {J : Sh} {R : Rw} {I : Iw} {b : Nat → Nat} {n : Nat}
def TW (I : Iw) (b : Nat → Nat) (n : Nat) : Prop := n ≤ 200 ∧ I 33 0 = nI n ∧ ∀ k, k < n → b k < 256 ∧ I 34 k = sb (b k)
theorem TW_fr {I I' : Iw} (h : TW I b n) (f : ∀ a j, (a = 33 ∧ j = 0) ∨ a = 34 → I' a j = I a j) : TW I' b n :=
  ⟨h.1, (f 33 0 (Or.inl ⟨rfl, rfl⟩)).trans h.2.1, fun k hk => ⟨(h.2.2 k hk).1, (f 34 k (Or.inr rfl)).trans (h.2.2 k hk).2⟩⟩
theorem q_name8 (hR : Lay R) (hT : TW I b n) {p q : Nat} (hpq : p ≤ q) (hq : q ≤ n) : ∀ (t : List Nat) (i w al f : Nat), i + t.length = 91 → txw.drop i = t → t.length < f → al ≤ 201 → w ≤ i →
    f_X3_nameAt_8 (S0 ++ J) R I f 33 (nI p) (nI q) (nI w) (nI al) (nI i) = some (nI (nmF b p q t w al))
  | [], i, w, al, f, hl, hi, hf, _, _ => by
    obtain ⟨f, rfl⟩ := Nat.exists_eq_succ_of_ne_zero (n := f) (by omega)
    have hl : i = 91 := hl
    rw [f_X3_nameAt_8, tx0_N, tx0_L, gp1, if_pos (by rw [hl]; exact Int32.le_refl _)]
    rfl
  | c :: t, i, w, al, f, hl, hi, hf, ha, hw => by
    obtain ⟨f, rfl⟩ := Nat.exists_eq_succ_of_ne_zero (n := f) (by omega)
    have hn := hT.1
    have hl : i + (t.length + 1) = 91 := hl
    have hc : txw.getD i 0 = c := by
      have : (txw.drop i)[0]? = some c := by rw [hi]; rfl
      rw [List.getElem?_drop, Nat.add_zero] at this
      rw [List.getD_eq_getElem?_getD, this]; rfl
    have ht : txw.drop (i + 1) = t := by rw [← List.tail_drop, hi]; rfl
    have hcl : c < 128 := by rw [← hc]; exact tx0_l i (by omega)
    have ih := fun w2 al2 (h2 : al2 ≤ 201) (h3 : w2 ≤ i + 1) => q_name8 hR hT hpq hq t (i + 1) w2 al2 f (by omega) ht (by simp at hf; omega) h2 h3
    rw [f_X3_nameAt_8, tx0_N, tx0_L, gp1, if_neg (by rw [n_le (by omega) (by omega)]; omega), tx0_k i (by omega), gp1, nI_clamp (by omega), tx0_c i (by omega), hc, nmF]
    by_cases h32 : c = 32
    · rw [if_pos h32, if_pos (by rw [h32]; rfl)]
      by_cases h1 : al = q
      · rw [if_pos h1, if_pos (by rw [h1])]
        simp (disch := omega) only [true_and, lit, gp1, rl1, rs1, bd1, lt1, n_add, n_sub, n_dec, n_le, n_lt, n_eq, n_in, nI_clamp, n_mul, m_or, m_and, m_pow, m_bit, m_dif, n_neg, yn_0, yn_1, yn_z, yn_d, one31, Nat.add_sub_cancel, Nat.not_lt_zero, if_true, if_false, ite_true, ite_false, Bool.true_eq_false, Bool.false_eq_true, Nat.add_zero, Nat.zero_add]
      · rw [if_neg h1, if_neg (by rw [n_eq (by omega) (by omega)]; exact h1), f_X3_nameAt_85, lit 1, n_add, n_add]
        exact ih (w + 1) p (by omega) (by omega)
    · rw [if_neg h32, if_neg (by show ¬ (nI c = nI 32); rw [n_eq (by omega) (by omega)]; exact h32)]
      by_cases h1 : q ≤ al
      · rw [if_pos (by rw [n_le (by omega) (by omega)]; exact h1), if_neg (by omega), f_X3_nameAt_59, f_X3_nameAt_62, f_X3_nameAt_85, lit 1, n_add]
        exact ih w 201 (by omega) (by omega)
      · rw [if_neg (by rw [n_le (by omega) (by omega)]; exact h1)]
        simp (disch := omega) only [so_33, ao_34, ao_35, ly_33_1 hR, ly_33_2 hR, ly_33_3 hR, ly_33_6 hR, (hT.2.2 al (by omega)).2, lit, gp1, rl1, rs1, bd1, lt1, n_add, n_sub, n_dec, n_le, n_lt, n_eq, n_in, nI_clamp, n_mul, m_or, m_and, m_pow, m_bit, m_dif, n_neg, yn_0, yn_1, yn_z, yn_d, one31, Nat.add_sub_cancel, Nat.not_lt_zero, if_true, if_false, ite_true, ite_false, Bool.true_eq_false, Bool.false_eq_true, Nat.add_zero, Nat.zero_add]
        by_cases h2 : b al = c
        · rw [if_pos (by rw [sb_eq (hT.2.2 al (by omega)).1 hcl]; exact h2), if_pos ⟨by omega, h2⟩, f_X3_nameAt_62, f_X3_nameAt_85, lit 1, n_add]
          exact ih w (al + 1) (by omega) (by omega)
        · rw [if_neg (by rw [sb_eq (hT.2.2 al (by omega)).1 hcl]; exact h2), if_neg (fun z => h2 z.2), f_X3_nameAt_59, f_X3_nameAt_62, f_X3_nameAt_85, lit 1, n_add]
          exact ih w 201 (by omega) (by omega)
theorem q_name (hR : Lay R) (hT : TW I b n) {p q : Nat} (hpq : p ≤ q) (hq : q ≤ n) : f_X3_nameAt (S0 ++ J) R I 33 (nI p) (nI q) = some (nI (nmW (seg b p q) wl 0)) := by
  have hn := hT.1
  rw [f_X3_nameAt, ← nm_txw hpq (by omega)]
  exact q_name8 hR hT hpq hq txw 0 0 p 512 (by rw [tx0_n]) rfl (by rw [tx0_n]; omega) (by omega) (by omega)
theorem sb_dig {c : Nat} (h : srt c = 1) : 48 ≤ c ∧ c ≤ 57 := by
  unfold srt at h
  split at h
  · cases h
  · split at h
    · rename_i h2
      unfold isG at h2
      simp at h2
      exact h2
    · cases h
theorem q_num16 (hR : Lay R) (hT : TW I b n) {q : Nat} (hq : q ≤ n) : ∀ (r k a f : Nat), k + r = q → r < f → (∀ j, k ≤ j → j < q → srt (b j) = 1) →
    f_X3_numberAt_16 (S0 ++ J) R I f 33 (nI q) (nI a) (nI k) = some (nI (nvF b r k a))
  | 0, k, a, f, hk, hf, _ => by
    have hn := hT.1
    obtain ⟨f, rfl⟩ := Nat.exists_eq_succ_of_ne_zero (n := f) (by omega)
    rw [f_X3_numberAt_16, if_pos (by rw [n_le (by omega) (by omega)]; omega)]; rfl
  | r + 1, k, a, f, hk, hf, hs => by
    have hn := hT.1
    obtain ⟨f, rfl⟩ := Nat.exists_eq_succ_of_ne_zero (n := f) (by omega)
    have hd := sb_dig (hs k (by omega) (by omega))
    have hsb : sb (b k) = nI (b k) := by rw [sb, if_pos (by omega)]
    rw [f_X3_numberAt_16, if_neg (by rw [n_le (by omega) (by omega)]; omega)]
    simp (disch := omega) only [so_33, ao_34, ao_35, ly_33_1 hR, ly_33_2 hR, ly_33_3 hR, ly_33_6 hR, (hT.2.2 k (by omega)).2, hsb, lit, gp1, rl1, rs1, bd1, lt1, n_add, n_sub, n_dec, n_le, n_lt, n_eq, n_in, nI_clamp, n_mul, m_or, m_and, m_pow, m_bit, m_dif, n_neg, yn_0, yn_1, yn_z, yn_d, one31, Nat.add_sub_cancel, Nat.not_lt_zero, if_true, if_false, ite_true, ite_false, Bool.true_eq_false, Bool.false_eq_true, Nat.add_zero, Nat.zero_add]
    rw [nvF]
    exact q_num16 hR hT hq r (k + 1) (a * 10 + (b k - 48)) f (by omega) (by omega) (fun j h1 h2 => hs j (by omega) h2)
theorem rnF_all (b : Nat → Nat) (s : Nat) : ∀ r q j, q ≤ j → j < rnF b s r q → srt (b j) = s
  | 0, q, j, h1, h2 => absurd h2 (Nat.not_lt.mpr h1)
  | r + 1, q, j, h1, h2 => by
    rw [rnF] at h2
    split at h2
    · rename_i h
      by_cases e : j = q
      · rw [e]; exact h
      · exact rnF_all b s r (q + 1) j (by omega) h2
    · omega
theorem rne_all {s q j : Nat} (h1 : q ≤ j) (h2 : j < rne b n s q) : srt (b j) = s := rnF_all b s _ q j h1 h2
theorem q_num (hR : Lay R) (hT : TW I b n) {p q : Nat} (hpq : p ≤ q) (hq : q ≤ n) (hs : ∀ j, p ≤ j → j < q → srt (b j) = 1) : f_X3_numberAt (S0 ++ J) R I 33 (nI p) (nI q) = some (nI (if q - p ≤ 4 then nvF b (q - p) p 0 else 30001)) := by
  have hn := hT.1
  rw [f_X3_numberAt, n_sub hpq]
  by_cases h : q - p ≤ 4
  · rw [if_pos h, if_pos (by show nI (q - p) ≤ nI 4; rw [n_le (by omega) (by omega)]; exact h)]
    exact q_num16 hR hT hq (q - p) p 0 512 (by omega) (by omega) hs
  · rw [if_neg h, if_neg (by show ¬ nI (q - p) ≤ nI 4; rw [n_le (by omega) (by omega)]; exact h)]; rfl
theorem q_byt (hR : Lay R) (hT : TW I b n) {k : Nat} (hk : k < n) : f_X3_byteAt (S0 ++ J) R I 33 (nI k) = some (nI (bTk (b k))) := by
  have hn := hT.1
  have ⟨hb, h⟩ := hT.2.2 k hk
  have go : ∀ c, c < 128 → b k = c → I 34 k = nI c := fun c h1 h2 => by rw [h, h2, sb, if_pos h1]
  rw [bTk]
  rcases (by omega : b k = 40 ∨ b k = 41 ∨ b k = 59 ∨ b k = 60 ∨ b k = 61 ∨ b k = 62 ∨ ¬ (b k = 40 ∨ b k = 41 ∨ b k = 59 ∨ b k = 60 ∨ b k = 61 ∨ b k = 62)) with e | e | e | e | e | e | e
  · rw [if_pos (by omega)]; simp (disch := omega) only [f_X3_byteAt, so_33, ao_34, ao_35, ly_33_1 hR, ly_33_2 hR, ly_33_3 hR, ly_33_6 hR, go 40 (by decide) e, e, lit, gp1, rl1, rs1, bd1, lt1, n_add, n_sub, n_dec, n_le, n_lt, n_eq, n_in, nI_clamp, n_mul, m_or, m_and, m_pow, m_bit, m_dif, n_neg, yn_0, yn_1, yn_z, yn_d, one31, Nat.add_sub_cancel, Nat.not_lt_zero, if_true, if_false, ite_true, ite_false, Bool.true_eq_false, Bool.false_eq_true, Nat.add_zero, Nat.zero_add]
  · rw [if_pos (by omega)]; simp (disch := omega) only [f_X3_byteAt, so_33, ao_34, ao_35, ly_33_1 hR, ly_33_2 hR, ly_33_3 hR, ly_33_6 hR, go 41 (by decide) e, e, lit, gp1, rl1, rs1, bd1, lt1, n_add, n_sub, n_dec, n_le, n_lt, n_eq, n_in, nI_clamp, n_mul, m_or, m_and, m_pow, m_bit, m_dif, n_neg, yn_0, yn_1, yn_z, yn_d, one31, Nat.add_sub_cancel, Nat.not_lt_zero, if_true, if_false, ite_true, ite_false, Bool.true_eq_false, Bool.false_eq_true, Nat.add_zero, Nat.zero_add]; rfl
  · rw [if_pos (by omega)]; simp (disch := omega) only [f_X3_byteAt, so_33, ao_34, ao_35, ly_33_1 hR, ly_33_2 hR, ly_33_3 hR, ly_33_6 hR, go 59 (by decide) e, e, lit, gp1, rl1, rs1, bd1, lt1, n_add, n_sub, n_dec, n_le, n_lt, n_eq, n_in, nI_clamp, n_mul, m_or, m_and, m_pow, m_bit, m_dif, n_neg, yn_0, yn_1, yn_z, yn_d, one31, Nat.add_sub_cancel, Nat.not_lt_zero, if_true, if_false, ite_true, ite_false, Bool.true_eq_false, Bool.false_eq_true, Nat.add_zero, Nat.zero_add]; rfl
  · rw [if_pos (by omega)]; simp (disch := omega) only [f_X3_byteAt, so_33, ao_34, ao_35, ly_33_1 hR, ly_33_2 hR, ly_33_3 hR, ly_33_6 hR, go 60 (by decide) e, e, lit, gp1, rl1, rs1, bd1, lt1, n_add, n_sub, n_dec, n_le, n_lt, n_eq, n_in, nI_clamp, n_mul, m_or, m_and, m_pow, m_bit, m_dif, n_neg, yn_0, yn_1, yn_z, yn_d, one31, Nat.add_sub_cancel, Nat.not_lt_zero, if_true, if_false, ite_true, ite_false, Bool.true_eq_false, Bool.false_eq_true, Nat.add_zero, Nat.zero_add]; rfl
  · rw [if_pos (by omega)]; simp (disch := omega) only [f_X3_byteAt, so_33, ao_34, ao_35, ly_33_1 hR, ly_33_2 hR, ly_33_3 hR, ly_33_6 hR, go 61 (by decide) e, e, lit, gp1, rl1, rs1, bd1, lt1, n_add, n_sub, n_dec, n_le, n_lt, n_eq, n_in, nI_clamp, n_mul, m_or, m_and, m_pow, m_bit, m_dif, n_neg, yn_0, yn_1, yn_z, yn_d, one31, Nat.add_sub_cancel, Nat.not_lt_zero, if_true, if_false, ite_true, ite_false, Bool.true_eq_false, Bool.false_eq_true, Nat.add_zero, Nat.zero_add]; rfl
  · rw [if_pos (by omega)]; simp (disch := omega) only [f_X3_byteAt, so_33, ao_34, ao_35, ly_33_1 hR, ly_33_2 hR, ly_33_3 hR, ly_33_6 hR, go 62 (by decide) e, e, lit, gp1, rl1, rs1, bd1, lt1, n_add, n_sub, n_dec, n_le, n_lt, n_eq, n_in, nI_clamp, n_mul, m_or, m_and, m_pow, m_bit, m_dif, n_neg, yn_0, yn_1, yn_z, yn_d, one31, Nat.add_sub_cancel, Nat.not_lt_zero, if_true, if_false, ite_true, ite_false, Bool.true_eq_false, Bool.false_eq_true, Nat.add_zero, Nat.zero_add]; rfl
  · rw [if_neg e]
    have no : ∀ d, d < 128 → b k ≠ d → (sb (b k) = nI d) = False := fun d h1 h2 => by rw [sb_eq hb h1]; exact eq_false h2
    simp (disch := omega) only [f_X3_byteAt, so_33, ao_34, ao_35, ly_33_1 hR, ly_33_2 hR, ly_33_3 hR, ly_33_6 hR, h, no 40 (by decide) (by omega), no 41 (by decide) (by omega), no 59 (by decide) (by omega), no 60 (by decide) (by omega), no 61 (by decide) (by omega), no 62 (by decide) (by omega), lit, gp1, rl1, rs1, bd1, lt1, n_add, n_sub, n_dec, n_le, n_lt, n_eq, n_in, nI_clamp, n_mul, m_or, m_and, m_pow, m_bit, m_dif, n_neg, yn_0, yn_1, yn_z, yn_d, one31, Nat.add_sub_cancel, Nat.not_lt_zero, if_true, if_false, ite_true, ite_false, Bool.true_eq_false, Bool.false_eq_true, Nat.add_zero, Nat.zero_add]
def adT (I : Iw) (m t p : Nat) : Iw := up2 (up2 (up2 I 35 m (nI t)) 36 m (nI p)) 33 4 (nI (m + 1))
theorem q_addT (hR : Lay R) {m t p : Nat} (hm : m ≤ 200) (h : I 33 4 = nI m) : f_X3_addToken (S0 ++ J) R I 33 (nI t) (nI p) = some (adT I m t p) := by
  simp (disch := omega) only [f_X3_addToken, so_33, ao_34, ao_35, ao_36, ly_33_1 hR, ly_33_2 hR, ly_33_3 hR, ly_33_6 hR, h, u_eq, Nat.reduceEqDiff, false_and, and_false, true_and, and_true, and_self, not_false_eq_true, adT, lit, gp1, rl1, rs1, bd1, lt1, n_add, n_sub, n_dec, n_le, n_lt, n_eq, n_in, nI_clamp, n_mul, m_or, m_and, m_pow, m_bit, m_dif, n_neg, yn_0, yn_1, yn_z, yn_d, one31, Nat.add_sub_cancel, Nat.not_lt_zero, if_true, if_false, ite_true, ite_false, Bool.true_eq_false, Bool.false_eq_true, Nat.add_zero, Nat.zero_add]
  rw [if_neg (by omega)]
theorem q_part39 (hR : Lay R) (hT : TW I b n) {ko : Iw → Nat → Int32 → Int32 → Option Iw} {x1 x2 : Int32} {s : Nat} (hs : s < 2) : ∀ (r q f : Nat), q + r = n → r < f →
    f_X3_partTape_39 (S0 ++ J) R ko f I 33 x1 x2 (nI s) (nI q) = f_X3_partTape_73 (S0 ++ J) R ko I 33 x1 x2 (nI s) (nI (rne b n s q))
  | 0, q, f, hq, hf => by
    have hn := hT.1
    obtain ⟨f, rfl⟩ := Nat.exists_eq_succ_of_ne_zero (n := f) (by omega)
    rw [f_X3_partTape_39, if_neg (by show ¬ nI s = nI 2; rw [n_eq (by omega) (by omega)]; omega), rne_o (Or.inl (by omega))]
    simp (disch := omega) only [so_33, hT.2.1, lit, gp1, rl1, rs1, bd1, lt1, n_add, n_sub, n_dec, n_le, n_lt, n_eq, n_in, nI_clamp, n_mul, m_or, m_and, m_pow, m_bit, m_dif, n_neg, yn_0, yn_1, yn_z, yn_d, one31, Nat.add_sub_cancel, Nat.not_lt_zero, if_true, if_false, ite_true, ite_false, Bool.true_eq_false, Bool.false_eq_true, Nat.add_zero, Nat.zero_add]
    rw [if_pos (by omega)]
  | r + 1, q, f, hq, hf => by
    have hn := hT.1
    obtain ⟨f, rfl⟩ := Nat.exists_eq_succ_of_ne_zero (n := f) (by omega)
    rw [f_X3_partTape_39, if_neg (by show ¬ nI s = nI 2; rw [n_eq (by omega) (by omega)]; omega)]
    have h3 := srt_2 (b q)
    simp (disch := omega) only [so_33, ao_34, ao_35, ly_33_1 hR, ly_33_2 hR, ly_33_3 hR, ly_33_6 hR, hT.2.1, (hT.2.2 q (by omega)).2, q_sort (hT.2.2 q (by omega)).1, lit, gp1, rl1, rs1, bd1, lt1, n_add, n_sub, n_dec, n_le, n_lt, n_eq, n_in, nI_clamp, n_mul, m_or, m_and, m_pow, m_bit, m_dif, n_neg, yn_0, yn_1, yn_z, yn_d, one31, Nat.add_sub_cancel, Nat.not_lt_zero, if_true, if_false, ite_true, ite_false, Bool.true_eq_false, Bool.false_eq_true, Nat.add_zero, Nat.zero_add]
    rw [if_neg (by omega)]
    by_cases e : srt (b q) = s
    · rw [if_pos e, rne_s (by omega) e]
      exact q_part39 hR hT hs r (q + 1) f (by omega) (by omega)
    · rw [if_neg e, rne_o (Or.inr e)]
def Tks (I : Iw) : Nat → List (Nat × Nat) → Prop
  | _, [] => True
  | k, t :: l => I 35 k = nI t.1 ∧ I 36 k = nI t.2 ∧ Tks I (k + 1) l
theorem Tks_fr {I I' : Iw} : ∀ (l : List (Nat × Nat)) (k : Nat), (∀ j, k ≤ j → I' 35 j = I 35 j ∧ I' 36 j = I 36 j) → Tks I k l → Tks I' k l
  | [], _, _, _ => trivial
  | t :: l, k, f, h => ⟨(f k (Nat.le_refl k)).1.trans h.1, (f k (Nat.le_refl k)).2.trans h.2.1, Tks_fr l (k + 1) (fun j hj => f j (by omega)) h.2.2⟩
def PT (I I' : Iw) (k : Nat) (l : List (Nat × Nat)) : Prop := (Tks I' k l ∧ I' 33 4 = nI (k + l.length)) ∧ ∀ a j, ¬ (a = 33 ∧ j = 4) → ¬ ((a = 35 ∨ a = 36) ∧ k ≤ j) → I' a j = I a j
theorem PT_s {I I' : Iw} {k t p : Nat} {l : List (Nat × Nat)} (h : PT (adT I k t p) I' (k + 1) l) : PT I I' k ((t, p) :: l) := by
  refine ⟨⟨⟨?_, ?_, h.1.1⟩, by rw [h.1.2, List.length_cons]; congr 1; omega⟩, fun a j q1 q2 => ?_⟩
  · rw [h.2 35 k (by omega) (by omega), adT, u_eq, if_neg (by omega), u_eq, if_neg (by omega), u_eq, if_pos ⟨rfl, rfl⟩]
  · rw [h.2 36 k (by omega) (by omega), adT, u_eq, if_neg (by omega), u_eq, if_pos ⟨rfl, rfl⟩]
  · rw [h.2 a j q1 (by omega), adT, u_eq, if_neg q1, u_eq, if_neg (by omega), u_eq, if_neg (by omega)]
theorem adT_T (hT : TW I b n) {k t p : Nat} : TW (adT I k t p) b n := TW_fr hT fun a j q => by rw [adT, u_eq, if_neg (by omega), u_eq, if_neg (by omega), u_eq, if_neg (by omega)]
theorem adT_4 {k t p : Nat} : adT I k t p 33 4 = nI (k + 1) := by rw [adT, u_eq, if_pos ⟨rfl, rfl⟩]
theorem q_part142 (hR : Lay R) (hT : TW I b n) {k : Nat} (hk : k ≤ 200) (h4 : I 33 4 = nI k) : ∃ I', f_X3_partTape_142 (S0 ++ J) R I 33 = some I' ∧ PT I I' k [(30000, n)] := by
  refine ⟨adT I k 30000 n, ?_, PT_s ⟨⟨trivial, adT_4⟩, fun _ _ _ _ => rfl⟩⟩
  rw [f_X3_partTape_142, so_33, gp1, hT.2.1, lit 30000, q_addT hR hk h4]; rfl
theorem q_part9 (hR : Lay R) : ∀ (f : Nat) (I : Iw) (p m k r : Nat), TW I b n → p ≤ n → n - p < f → m ≤ p → k ≤ p → n ≤ p + r → I 33 4 = nI k →
    ∃ I', f_X3_partTape_9 (S0 ++ J) R f I 33 (nI p) (nI m) = some I' ∧ PT I I' k (TL b n r p)
  | 0, I, p, m, k, r, _, _, hf, _, _, _, _ => absurd hf (Nat.not_lt_zero _)
  | f + 1, I, p, m, k, r, hT, hp, hf, hm, hk, hr, h4 => by
    have hn := hT.1
    by_cases hpn : p = n
    · subst hpn
      obtain ⟨I', e1, e2⟩ := q_part142 (J := J) hR hT (by omega) h4
      refine ⟨I', ?_, ?_⟩
      · rw [f_X3_partTape_9]
        simp (disch := omega) only [so_33, hT.2.1, lit, gp1, rl1, rs1, bd1, lt1, n_add, n_sub, n_dec, n_le, n_lt, n_eq, n_in, nI_clamp, n_mul, m_or, m_and, m_pow, m_bit, m_dif, n_neg, yn_0, yn_1, yn_z, yn_d, one31, Nat.add_sub_cancel, Nat.not_lt_zero, if_true, if_false, ite_true, ite_false, Bool.true_eq_false, Bool.false_eq_true, Nat.add_zero, Nat.zero_add]
        rw [if_pos (Nat.le_refl p), e1]; split <;> rfl
      · have : TL b p r p = [(30000, p)] := by
          cases r with
          | zero => rfl
          | succ r => rw [TL, if_pos (skp_le (Nat.le_refl p)).1]
        rw [this]; exact e2
    · have hc := (hT.2.2 p (by omega)).1
      have h39 := fun (s : Nat) (hs : s < 2) => q_part39 (J := J) hR hT (ko := f_X3_partTape_9 (S0 ++ J) R f) (x1 := nI p) (x2 := nI m) hs (n - (p + 1)) (p + 1) 512 (by omega) (by omega)
      have h0 : f_X3_partTape_9 (S0 ++ J) R (f + 1) I 33 (nI p) (nI m) = f_X3_partTape_39 (S0 ++ J) R (f_X3_partTape_9 (S0 ++ J) R f) 512 I 33 (nI p) (nI m) (nI (srt (b p))) (nI (p + 1)) := by
        rw [f_X3_partTape_9]
        simp (disch := omega) only [so_33, ao_34, ly_33_1 hR, ly_33_2 hR, ly_33_3 hR, ly_33_6 hR, hT.2.1, (hT.2.2 p (by omega)).2, q_sort hc, lit, gp1, rl1, rs1, bd1, lt1, n_add, n_sub, n_dec, n_le, n_lt, n_eq, n_in, nI_clamp, n_mul, m_or, m_and, m_pow, m_bit, m_dif, n_neg, yn_0, yn_1, yn_z, yn_d, one31, Nat.add_sub_cancel, Nat.not_lt_zero, if_true, if_false, ite_true, ite_false, Bool.true_eq_false, Bool.false_eq_true, Nat.add_zero, Nat.zero_add]
        rw [if_neg (by omega), if_neg (by omega)]
      have go : ∀ t p', p < p' → p' ≤ n → (∀ I, f_X3_partTape_133 (S0 ++ J) R (f_X3_partTape_9 (S0 ++ J) R f) I 33 (nI m) (nI p') = f_X3_partTape_9 (S0 ++ J) R f I 33 (nI p') (nI (m + 1))) → b p ≠ 32 → tk b n p = t → nx b n p = p' →
          ∃ I', f_X3_partTape_133 (S0 ++ J) R (f_X3_partTape_9 (S0 ++ J) R f) (adT I k t p) 33 (nI m) (nI p') = some I' ∧ PT I I' k (TL b n r p) := by
        intro t p' q1 q2 q3 q4 q5 q6
        obtain ⟨r, rfl⟩ := Nat.exists_eq_succ_of_ne_zero (n := r) (by omega)
        obtain ⟨I', e1, e2⟩ := q_part9 hR f (adT I k t p) p' (m + 1) (k + 1) r (adT_T hT) q2 (by omega) (by omega) (by omega) (by omega) adT_4
        refine ⟨I', by rw [q3, e1], ?_⟩
        rw [TL, if_neg (by rw [skp_o (Or.inr q4)]; omega), q5, q6, skp_o (Or.inr q4)]
        exact PT_s e2
      have h133 : ∀ p' I, f_X3_partTape_133 (S0 ++ J) R (f_X3_partTape_9 (S0 ++ J) R f) I 33 (nI m) (nI p') = f_X3_partTape_9 (S0 ++ J) R f I 33 (nI p') (nI (m + 1)) := fun p' I => by
        rw [f_X3_partTape_133, lit 1, n_add]
      have hs2 := srt_2 (b p)
      have hx := nxP_gt (b := b) (n := n) (p := p) (by omega)
      rw [h0]
      by_cases s0 : srt (b p) = 0
      · have n32 : b p ≠ 32 := fun z => by rw [z] at s0; revert s0; decide
        have e1 : nxP b n p = rne b n 0 (p + 1) := by rw [nxP, if_neg (by omega), s0, if_neg (by decide), rne_s (by omega) s0]
        obtain ⟨I', g1, g2⟩ := go (nmW (seg b p (rne b n 0 (p + 1))) wl 0) (rne b n 0 (p + 1)) (by omega) (by omega) (h133 _) n32 (by rw [tk, skp_o (Or.inr n32), tkP, if_neg (by omega), if_pos s0, rne_s (by omega) s0]) (by rw [nx, skp_o (Or.inr n32), e1])
        refine ⟨I', ?_, g2⟩
        rw [s0, h39 0 (by decide), f_X3_partTape_73, if_pos (by decide), so_33, gp1, q_name hR hT (by omega) (by omega), bd1, q_addT hR (by omega) h4, bd1]
        exact g1
      · by_cases s1 : srt (b p) = 1
        · have n32 : b p ≠ 32 := fun z => by rw [z] at s1; revert s1; decide
          have e1 : nxP b n p = rne b n 1 (p + 1) := by rw [nxP, if_neg (by omega), s1, if_neg (by decide), rne_s (by omega) s1]
          obtain ⟨I', g1, g2⟩ := go (if rne b n 1 (p + 1) - p ≤ 4 then nvF b (rne b n 1 (p + 1) - p) p 0 else 30001) (rne b n 1 (p + 1)) (by omega) (by omega) (h133 _) n32 (by rw [tk, skp_o (Or.inr n32), tkP, if_neg (by omega), if_neg s0, if_pos s1, rne_s (by omega) s1]) (by rw [nx, skp_o (Or.inr n32), e1])
          refine ⟨I', ?_, g2⟩
          rw [s1, h39 1 (by decide), f_X3_partTape_73, if_neg (by decide), if_pos (by decide), so_33, gp1, q_num hR hT (by omega) (by omega) (fun j j1 j2 => by
            by_cases e : j = p
            · rw [e]; exact s1
            · exact rne_all (q := p + 1) (by omega) j2), bd1, q_addT hR (by omega) h4, bd1]
          exact g1
        · have s2 : srt (b p) = 2 := by omega
          have e1 : nxP b n p = p + 1 := by rw [nxP, if_neg (by omega), if_pos s2]
          have e2 : ∀ x, f_X3_partTape_39 (S0 ++ J) R (f_X3_partTape_9 (S0 ++ J) R f) 512 I 33 (nI p) (nI m) (nI 2) x = f_X3_partTape_73 (S0 ++ J) R (f_X3_partTape_9 (S0 ++ J) R f) I 33 (nI p) (nI m) (nI 2) x := fun x => by
            rw [f_X3_partTape_39, if_pos (by decide)]
          rw [s2, e2, f_X3_partTape_73, if_neg (by decide), if_neg (by decide)]
          by_cases h32 : b p = 32
          · obtain ⟨I', g1, g2⟩ := q_part9 hR f I (p + 1) (m + 1) k r hT (by omega) (by omega) (by omega) (by omega) (by omega) h4
            refine ⟨I', ?_, by rw [TL_sk r (by omega) h32]; exact g2⟩
            have : I 34 p = nI 32 := by rw [(hT.2.2 p (by omega)).2, h32]; rfl
            simp (disch := omega) only [so_33, ao_34, ly_33_1 hR, ly_33_2 hR, ly_33_3 hR, ly_33_6 hR, this, lit, gp1, rl1, rs1, bd1, lt1, n_add, n_sub, n_dec, n_le, n_lt, n_eq, n_in, nI_clamp, n_mul, m_or, m_and, m_pow, m_bit, m_dif, n_neg, yn_0, yn_1, yn_z, yn_d, one31, Nat.add_sub_cancel, Nat.not_lt_zero, if_true, if_false, ite_true, ite_false, Bool.true_eq_false, Bool.false_eq_true, Nat.add_zero, Nat.zero_add]
            rw [h133]; exact g1
          · obtain ⟨I', g1, g2⟩ := go (bTk (b p)) (p + 1) (by omega) (by omega) (h133 _) h32 (by rw [tk, skp_o (Or.inr h32), tkP, if_neg (by omega), if_neg s0, if_neg s1]) (by rw [nx, skp_o (Or.inr h32), e1])
            refine ⟨I', ?_, g2⟩
            have : (sb (b p) = nI 32) = False := by rw [sb_eq hc (by omega)]; exact eq_false h32
            simp (disch := omega) only [so_33, ao_34, ly_33_1 hR, ly_33_2 hR, ly_33_3 hR, ly_33_6 hR, (hT.2.2 p (by omega)).2, this, q_byt hR hT (show p < n by omega), q_addT hR (show k ≤ 200 by omega) h4, lit, gp1, rl1, rs1, bd1, lt1, n_add, n_sub, n_dec, n_le, n_lt, n_eq, n_in, nI_clamp, n_mul, m_or, m_and, m_pow, m_bit, m_dif, n_neg, yn_0, yn_1, yn_z, yn_d, one31, Nat.add_sub_cancel, Nat.not_lt_zero, if_true, if_false, ite_true, ite_false, Bool.true_eq_false, Bool.false_eq_true, Nat.add_zero, Nat.zero_add]
            exact g1
theorem TL_len {r e : Nat} (hr : n ≤ e + r) (he : e ≤ n) : 1 ≤ (TL b n r e).length ∧ (TL b n r e).length ≤ n - e + 1 := by
  induction r generalizing e with
  | zero => exact ⟨Nat.le_refl 1, by rw [TL]; simp⟩
  | succ r ih =>
    have hs := skp_le (b := b) he
    rw [TL]
    split
    · simp
    · rename_i q
      have hx := nxP_gt (b := b) (n := n) (p := skp b n e) (by omega)
      have := ih (e := nx b n e) (by unfold nx; omega) hx.2
      unfold nx at this
      rw [List.length_cons]; unfold nx; omega
/-- the class's tokens from number k on are those behind e -/
def At (I : Iw) (b : Nat → Nat) (n k e : Nat) : Prop := k ≤ e ∧ e ≤ n ∧ n ≤ 200 ∧ I 33 5 = nI k ∧ ∃ r, n ≤ e + r ∧ Tks I k (TL b n r e) ∧ I 33 4 = nI (k + (TL b n r e).length)
theorem q_part (hR : Lay R) (hT : TW I b n) : ∃ I', f_X3_partTape (S0 ++ J) R I 33 = some I' ∧ At (up2 I' 33 5 (nI 0)) b n 0 0 ∧ ∀ a j, ¬ (a = 33 ∧ j = 4) → a ≠ 35 → a ≠ 36 → I' a j = I a j := by
  have hn := hT.1
  obtain ⟨I', e1, e2⟩ := q_part9 (J := J) (b := b) (n := n) hR 512 (up2 I 33 4 (nI 0)) 0 0 0 n (TW_fr hT fun a j q => by rw [u_eq, if_neg (by omega)]) (by omega) (by omega) (by omega) (by omega) (by omega) (by rw [u_eq, if_pos ⟨rfl, rfl⟩])
  refine ⟨I', ?_, ⟨by omega, by omega, hn, by rw [u_eq, if_pos ⟨rfl, rfl⟩], n, by omega, Tks_fr _ 0 (fun j _ => ⟨by rw [u_eq, if_neg (by omega)], by rw [u_eq, if_neg (by omega)]⟩) e2.1.1, by rw [u_eq, if_neg (by omega), e2.1.2]⟩, fun a j q1 q2 q3 => by rw [e2.2 a j q1 (by omega), u_eq, if_neg q1]⟩
  rw [f_X3_partTape, so_33, gp1, lt1]
  exact e1
theorem At_tk {k e : Nat} (h : At I b n k e) : I 35 k = nI (tk b n e) ∧ I 36 k = nI (skp b n e) := by
  obtain ⟨_, he, _, _, r, hr, h, _⟩ := h
  have hs := skp_le (b := b) he
  by_cases q : n ≤ skp b n e
  · have hT : TL b n r e = [(30000, n)] := by
      cases r with
      | zero => rfl
      | succ r => rw [TL, if_pos q]
    rw [hT] at h
    rw [tk, tkP, if_pos q, show skp b n e = n by omega]
    exact ⟨h.1, h.2.1⟩
  · obtain ⟨r, rfl⟩ := Nat.exists_eq_succ_of_ne_zero (n := r) (by omega)
    rw [TL, if_neg q] at h
    exact ⟨h.1, h.2.1⟩
theorem At_nx {k e : Nat} (h : At I b n k e) (hne : tk b n e ≠ 30000) : At (up2 I 33 5 (nI (k + 1))) b n (k + 1) (nx b n e) := by
  obtain ⟨hk, he, hn, h5, r, hr, h, h4⟩ := h
  have hs := skp_le (b := b) he
  by_cases q : n ≤ skp b n e
  · exact absurd (by rw [tk, tkP, if_pos q]) hne
  · have hx := nxP_gt (b := b) (n := n) (p := skp b n e) (by omega)
    obtain ⟨r, rfl⟩ := Nat.exists_eq_succ_of_ne_zero (n := r) (by omega)
    rw [TL, if_neg q] at h h4
    refine ⟨by unfold nx; omega, hx.2, hn, by rw [u_eq, if_pos ⟨rfl, rfl⟩], r, by unfold nx; omega, Tks_fr _ _ (fun j _ => ⟨by rw [u_eq, if_neg (by omega)], by rw [u_eq, if_neg (by omega)]⟩) h.2.2, by rw [u_eq, if_neg (by omega), h4, List.length_cons]; congr 1; omega⟩
theorem At_fr {I' : Iw} {k e : Nat} (f : ∀ a j, (a = 35 ∨ a = 36 ∨ (a = 33 ∧ (j = 4 ∨ j = 5))) → I' a j = I a j) (h : At I b n k e) : At I' b n k e := by
  obtain ⟨hk, he, hn, h5, r, hr, h, h4⟩ := h
  exact ⟨hk, he, hn, (f 33 5 (by omega)).trans h5, r, hr, Tks_fr _ k (fun j _ => ⟨f 35 j (Or.inl rfl), f 36 j (by omega)⟩) h, (f 33 4 (by omega)).trans h4⟩
theorem q_peek (hR : Lay R) {k e : Nat} (h : At I b n k e) : f_X3_peek (S0 ++ J) R I 33 = some (nI (tk b n e)) := by
  have ht := At_tk h
  obtain ⟨hk, he, hn, h5, r, hr, _, h4⟩ := h
  have hl := TL_len (b := b) hr he
  rw [f_X3_peek, so_33, gp1, h4, h5, if_neg (by rw [n_le (by omega) (by omega)]; omega)]
  simp (disch := omega) only [so_33, ao_34, ao_35, ao_36, ly_33_1 hR, ly_33_2 hR, ly_33_3 hR, ly_33_6 hR, ht.1, lit, gp1, rl1, rs1, bd1, lt1, n_add, n_sub, n_dec, n_le, n_lt, n_eq, n_in, nI_clamp, n_mul, m_or, m_and, m_pow, m_bit, m_dif, n_neg, yn_0, yn_1, yn_z, yn_d, one31, Nat.add_sub_cancel, Nat.not_lt_zero, if_true, if_false, ite_true, ite_false, Bool.true_eq_false, Bool.false_eq_true, Nat.add_zero, Nat.zero_add]
/-- one token is taken -/
theorem q_inc {k e : Nat} (h : At I b n k e) (hne : tk b n e ≠ 30000) : up2 I 33 5 (I 33 5 + 1) = up2 I 33 5 (nI (k + 1)) := by
  rw [h.2.2.2.1, show (1 : Int32) = nI 1 from rfl, n_add]
end TAPE
