/-! THE REFERENCE'S WORDS, SIGNS AND NUMBERS -/
def wnL : List Nat := [0, 13, 14, 15, 16, 17, 0, 1, 2, 3, 4, 5, 6, 9, 8, 7, 12, 10, 11]
def wn (a : Nat) : Nat := wnL.getD a 0
def wo (a : Nat) : List Nat := wl.getD (wn a) []
theorem wo_l : ∀ a, a < 19 → 1 ≤ a → txL.getD a 0 = (wo a).length := by decide +kernel
theorem wo_s : ∀ a, a < 19 → (wo a).length ≤ 6 := by decide +kernel
theorem wo_n : ∀ a, a < 19 → wn a < 18 := by decide +kernel
theorem wo_c : ∀ a, a < 19 → 1 ≤ a → ∀ i, i < (wo a).length → chr a i = nI ((wo a).getD i 0) ∧ chok a (nI i) = true ∧ (wo a).getD i 0 < 128 := by decide +kernel
theorem nmW_ge (sg : List Nat) : ∀ (us : List (List Nat)) (w : Nat), 10000 + w ≤ nmW sg us w ∨ nmW sg us w = 30001
  | [], w => Or.inr rfl
  | u :: us, w => by
    rw [nmW]
    split
    · left; omega
    · rcases nmW_ge sg us (w + 1) with h | h
      · left; omega
      · exact Or.inr h
theorem nmW_eq (sg : List Nat) : ∀ (us : List (List Nat)) (w i : Nat), i < us.length → us.Nodup → 10000 + w + us.length < 30001 → ((nmW sg us w = 10000 + w + i) ↔ sg = us.getD i [])
  | [], w, i, hi, _, _ => absurd hi (Nat.not_lt_zero _)
  | u :: us, w, i, hi, hd, hb => by
    have hd2 := List.nodup_cons.mp hd
    have hb' : 10000 + w + (us.length + 1) < 30001 := hb
    have hi' : i < us.length + 1 := hi
    rw [nmW]
    by_cases e : sg = u
    · rw [if_pos e]
      cases i with
      | zero => exact ⟨fun _ => e, fun _ => rfl⟩
      | succ i =>
        refine ⟨fun z => by omega, fun z => ?_⟩
        have : us.getD i [] ∈ us := by
          rw [List.getD_eq_getElem?_getD, List.getElem?_eq_getElem (by omega)]; exact List.getElem_mem _
        rw [List.getD_cons_succ] at z
        rw [← z, e] at this
        exact absurd this hd2.1
    · rw [if_neg e]
      cases i with
      | zero =>
        refine ⟨fun z => ?_, fun z => absurd z e⟩
        rcases nmW_ge sg us (w + 1) with h | h
        · omega
        · omega
      | succ i =>
        rw [List.getD_cons_succ, ← nmW_eq sg us (w + 1) i (by omega) hd2.2 (by omega)]
        omega
theorem wl_nd : wl.Nodup := by decide +kernel
theorem nmW_w {sg : List Nat} {i : Nat} (hi : i < 18) : (nmW sg wl 0 = 10000 + i) ↔ sg = wl.getD i [] := by
  have := nmW_eq sg wl 0 i hi wl_nd (by decide)
  rw [Nat.add_zero] at this
  exact this
section RWD
variable {J : Sh} {R : Rw} {I : Iw} {b : Nat → Nat} {n : Nat}
theorem seg_l (b : Nat → Nat) : ∀ (r p : Nat), (sgF b r p).length = r
  | 0, _ => rfl
  | r + 1, p => by rw [sgF, List.length_cons, seg_l b r (p + 1)]
/-- what kind a token is -/
theorem tk_so0 {e : Nat} (h : so b n e = 0) : tk b n e = 30000 := by
  unfold so at h
  by_cases q : n ≤ skp b n e
  · rw [tk, tkP, if_pos q]
  · rw [if_neg q] at h; omega
theorem tk_so1 {e : Nat} (h : so b n e = 1) : tk b n e = nmW (seg b (skp b n e) (nx b n e)) wl 0 ∧ skp b n e < n := by
  unfold so at h
  by_cases q : n ≤ skp b n e
  · rw [if_pos q] at h; omega
  · rw [if_neg q] at h
    have s0 : srt (b (skp b n e)) = 0 := by omega
    rw [tk, tkP, if_neg q, if_pos s0, nx, nxP, if_neg q, s0, if_neg (by decide)]
    exact ⟨rfl, by omega⟩
theorem tk_so2 {e : Nat} (h : so b n e = 2) : tk b n e = (if nx b n e - skp b n e ≤ 4 then nvF b (nx b n e - skp b n e) (skp b n e) 0 else 30001) ∧ skp b n e < n ∧ ∀ j, skp b n e ≤ j → j < nx b n e → srt (b j) = 1 := by
  unfold so at h
  by_cases q : n ≤ skp b n e
  · rw [if_pos q] at h; omega
  · rw [if_neg q] at h
    have s1 : srt (b (skp b n e)) = 1 := by omega
    have hx : nx b n e = rne b n 1 (skp b n e) := by rw [nx, nxP, if_neg q, s1, if_neg (by decide)]
    refine ⟨?_, by omega, fun j j1 j2 => rne_all j1 (by rw [← hx]; exact j2)⟩
    rw [tk, tkP, if_neg q, s1, if_neg (by decide), if_pos rfl, hx]
theorem tk_so3 {e : Nat} (h : so b n e = 3) : tk b n e = bTk (b (skp b n e)) ∧ skp b n e < n ∧ srt (b (skp b n e)) = 2 := by
  unfold so at h
  by_cases q : n ≤ skp b n e
  · rw [if_pos q] at h; omega
  · rw [if_neg q] at h
    have s2 : srt (b (skp b n e)) = 2 := by omega
    exact ⟨by rw [tk, tkP, if_neg q, s2, if_neg (by decide), if_neg (by decide)], by omega, s2⟩
theorem so_3 (b : Nat → Nat) (n e : Nat) : so b n e ≤ 3 := by
  have := srt_2 (b (skp b n e))
  unfold so
  split <;> omega
theorem num_lt {e : Nat} (h : so b n e = 2) (h4 : nx b n e - skp b n e ≤ 4) : nvF b (nx b n e - skp b n e) (skp b n e) 0 < 10000 := by
  have h2 := (tk_so2 h).2.2
  have := nvF_lt b (nx b n e - skp b n e) (skp b n e) 0 0 (by decide) (fun i hi => by
    have := sb_dig (h2 (skp b n e + i) (by omega) (by omega))
    omega)
  rw [Nat.zero_add] at this
  exact Nat.lt_of_lt_of_le this (Nat.pow_le_pow_right (by decide) h4)
theorem bTk_or (c : Nat) : bTk c = 30001 ∨ (bTk c = 20000 + c ∧ 40 ≤ c ∧ c ≤ 62) := by
  unfold bTk
  by_cases q : c = 40 ∨ c = 41 ∨ c = 59 ∨ c = 60 ∨ c = 61 ∨ c = 62
  · rw [if_pos q]; exact Or.inr ⟨rfl, by omega, by omega⟩
  · rw [if_neg q]; exact Or.inl rfl
theorem nmW_or (sg : List Nat) : (10000 ≤ nmW sg wl 0 ∧ nmW sg wl 0 < 10018) ∨ nmW sg wl 0 = 30001 := by
  rcases nmW_lt sg wl 0 with h | h
  · rcases nmW_ge sg wl 0 with h2 | h2
    · exact Or.inl ⟨h2, h⟩
    · exact Or.inr h2
  · exact Or.inr h
theorem tk_word {e i : Nat} (hi : i < 18) : (tk b n e = 10000 + i) ↔ (so b n e = 1 ∧ seg b (skp b n e) (nx b n e) = wl.getD i []) := by
  have h3 := so_3 b n e
  rcases (by omega : so b n e = 0 ∨ so b n e = 1 ∨ so b n e = 2 ∨ so b n e = 3) with h | h | h | h
  · rw [tk_so0 h, h]; omega
  · rw [(tk_so1 h).1, nmW_w hi, h]; exact ⟨fun z => ⟨rfl, z⟩, fun z => z.2⟩
  · rw [(tk_so2 h).1, h]
    by_cases h4 : nx b n e - skp b n e ≤ 4
    · have := num_lt h h4
      rw [if_pos h4]; omega
    · rw [if_neg h4]; omega
  · rw [(tk_so3 h).1, h]
    rcases bTk_or (b (skp b n e)) with q | q <;> omega
theorem tk_sign {e c : Nat} (hc : bTk c = 20000 + c) (hc6 : c ≤ 62) : (tk b n e = 20000 + c) ↔ (so b n e = 3 ∧ b (skp b n e) = c) := by
  have h3 := so_3 b n e
  have hc2 : 40 ≤ c ∧ c ≤ 62 := by rcases bTk_or c with q | q <;> omega
  rcases (by omega : so b n e = 0 ∨ so b n e = 1 ∨ so b n e = 2 ∨ so b n e = 3) with h | h | h | h
  · rw [tk_so0 h, h]; omega
  · rw [(tk_so1 h).1, h]
    rcases nmW_or (seg b (skp b n e) (nx b n e)) with q | q <;> omega
  · rw [(tk_so2 h).1, h]
    by_cases h4 : nx b n e - skp b n e ≤ 4
    · have := num_lt h h4
      rw [if_pos h4]; omega
    · rw [if_neg h4]; omega
  · rw [(tk_so3 h).1, h]
    refine ⟨fun z => ⟨rfl, ?_⟩, fun z => by rw [z.2, hc]⟩
    rcases bTk_or (b (skp b n e)) with q | q <;> omega
theorem tk_number {e : Nat} : (tk b n e < 10000) ↔ (so b n e = 2 ∧ nx b n e - skp b n e ≤ 4) := by
  have h3 := so_3 b n e
  rcases (by omega : so b n e = 0 ∨ so b n e = 1 ∨ so b n e = 2 ∨ so b n e = 3) with h | h | h | h
  · rw [tk_so0 h, h]; omega
  · rw [(tk_so1 h).1, h]
    rcases nmW_or (seg b (skp b n e) (nx b n e)) with q | q <;> omega
  · rw [(tk_so2 h).1, h]
    by_cases h4 : nx b n e - skp b n e ≤ 4
    · have := num_lt h h4
      rw [if_pos h4]; omega
    · rw [if_neg h4]; omega
  · rw [(tk_so3 h).1, h]
    rcases bTk_or (b (skp b n e)) with q | q <;> omega
theorem tk_end {e : Nat} : (tk b n e = 30000) ↔ so b n e = 0 := by
  have h3 := so_3 b n e
  rcases (by omega : so b n e = 0 ∨ so b n e = 1 ∨ so b n e = 2 ∨ so b n e = 3) with h | h | h | h
  · rw [tk_so0 h, h]; omega
  · rw [(tk_so1 h).1, h]
    rcases nmW_or (seg b (skp b n e) (nx b n e)) with q | q <;> omega
  · rw [(tk_so2 h).1, h]
    by_cases h4 : nx b n e - skp b n e ≤ 4
    · have := num_lt h h4
      rw [if_pos h4]; omega
    · rw [if_neg h4]; omega
  · rw [(tk_so3 h).1, h]
    rcases bTk_or (b (skp b n e)) with q | q <;> omega
theorem nx_le {e : Nat} (he : e ≤ n) : e ≤ nx b n e ∧ nx b n e ≤ n ∧ (tk b n e ≠ 30000 → skp b n e < nx b n e) := by
  have hs := skp_le (b := b) he
  by_cases q : n ≤ skp b n e
  · have : nx b n e = skp b n e := by rw [nx, nxP, if_pos q]
    refine ⟨by omega, by omega, fun z => absurd ?_ z⟩
    rw [tk, tkP, if_pos q]
  · have := nxP_gt (b := b) (n := n) (p := skp b n e) (by omega)
    unfold nx; exact ⟨by omega, by omega, fun _ => by omega⟩
/-- the reference asks for a word -/
theorem m_word32 (hR : Lay R) (hT : TMb I b n) {a p L : Nat} (ha : a < 19) (ha1 : 1 ≤ a) (hL : (wo a).length = L) (h6 : I 65 6 = nI p) (hp : p + L ≤ n) : ∀ (t : List Nat) (i f : Nat), (wo a).drop i = t → i + t.length = L → t.length < f →
    f_X12_isWord_32 (S0 ++ J) R I f 65 a (nI 1) (nI i) = some (yn (decide (seg b (p + i) (p + L) = t)))
  | [], i, f, hd, hl, hf => by
    obtain ⟨f, rfl⟩ := Nat.exists_eq_succ_of_ne_zero (n := f) (by omega)
    have hl : i = L := hl
    have hN : decide (a < txN) = true := decide_eq_true ha
    rw [f_X12_isWord_32, hN, gp1, wo_l a ha ha1, hL, if_pos (by rw [hl]; exact Int32.le_refl _), hl, seg, Nat.sub_self]
    rfl
  | c :: t, i, f, hd, hl, hf => by
    obtain ⟨f, rfl⟩ := Nat.exists_eq_succ_of_ne_zero (n := f) (by omega)
    have hn := hT.1
    have hl : i + (t.length + 1) = L := hl
    have hL6 := wo_s a ha
    have hN : decide (a < txN) = true := decide_eq_true ha
    have ⟨c1, c2, c3⟩ := wo_c a ha ha1 i (by omega)
    have hc : (wo a).getD i 0 = c := by
      have : ((wo a).drop i)[0]? = some c := by rw [hd]; rfl
      rw [List.getElem?_drop, Nat.add_zero] at this
      rw [List.getD_eq_getElem?_getD, this]; rfl
    have ht : (wo a).drop (i + 1) = t := by rw [← List.tail_drop, hd]; rfl
    rw [hc] at c1 c3
    have hb := hT.2.2 (p + i) (by omega)
    rw [f_X12_isWord_32, hN, gp1, wo_l a ha ha1, hL, if_neg (by rw [n_le (by omega) (by omega)]; omega), if_neg (by decide), c2, sg_s (by omega)]
    simp (disch := omega) only [so_65, ao_66, ao_67, ao_68, ao_69, ly_65_0 hR, ly_65_1 hR, ly_65_2 hR, ly_65_4 hR, ly_65_11 hR, ly_65_13 hR, ly_65_14 hR, ly_65_15 hR, ly_65_16 hR, ly_65_17 hR, ly_65_18 hR, ly_65_19 hR, ly_65_20 hR, ly_65_22 hR, ly_65_24 hR, ly_65_25 hR, ly_65_26 hR, ly_65_27 hR, ly_65_28 hR, ly_65_29 hR, ly_65_30 hR, h6, hb.2, c1, lit, gp1, rl1, rs1, bd1, lt1, n_add, n_sub, n_dec, n_le, n_lt, n_eq, n_in, nI_clamp, n_mul, m_or, m_and, m_pow, m_bit, m_dif, n_neg, yn_0, yn_1, yn_z, yn_d, one31, Nat.add_sub_cancel, Nat.not_lt_zero, if_true, if_false, ite_true, ite_false, Bool.true_eq_false, Bool.false_eq_true, Nat.add_zero, Nat.zero_add]
    by_cases e : b (p + i) = c
    · rw [if_pos e, f_X12_isWord_68, show (1 : Int32) = nI 1 from rfl, n_add]
      rw [m_word32 hR hT ha ha1 hL h6 hp t (i + 1) f ht (by omega) (by simp at hf; omega), e, Nat.add_assoc]
      congr 2
      exact decide_eq_decide.mpr ⟨fun z => by rw [z], fun z => (List.cons.inj z).2⟩
    · rw [if_neg e, f_X12_isWord_68, decide_eq_false (fun z => e (List.cons.inj z).1)]
      obtain ⟨f, rfl⟩ := Nat.exists_eq_succ_of_ne_zero (n := f) (by omega)
      rw [f_X12_isWord_32, hN, gp1]
      split
      · rfl
      · rfl
theorem m_word32z {S : Sh} {a f : Nat} (ha : a < 19) (hf : 0 < f) : f_X12_isWord_32 S R I f 65 a 0 0 = some 0 := by
  obtain ⟨f, rfl⟩ := Nat.exists_eq_succ_of_ne_zero (n := f) (by omega)
  have hN : decide (a < txN) = true := decide_eq_true ha
  rw [f_X12_isWord_32, hN, gp1]
  split
  · rfl
  · rfl
theorem m_word (hR : Lay R) (hT : TMb I b n) {e a : Nat} (he : e ≤ n) (hS : RS I b n e) (ha : a < 19) (ha1 : 1 ≤ a) : f_X12_isWord (S0 ++ J) R I 65 a = some (yn (decide (tk b n e = 10000 + wn a))) := by
  have hn := hT.1
  have hw := tk_word (b := b) (n := n) (e := e) (wo_n a ha)
  have hsk := skp_le (b := b) he
  have hnx := nx_le (b := b) he
  have hN : decide (a < txN) = true := decide_eq_true ha
  have h3 := so_3 b n e
  rw [f_X12_isWord, so_65, gp1, hS.2.2]
  by_cases h1 : so b n e = 1
  · rw [if_pos (by rw [h1]; rfl), hN, gp1, hS.1, hS.2.1, wo_l a ha ha1]
    have hlt : skp b n e < nx b n e := by
      refine hnx.2.2 fun z => ?_
      rw [tk_end] at z; omega
    rw [n_sub (by omega)]
    have hL6 := wo_s a ha
    by_cases hq : nx b n e - skp b n e = (wo a).length
    · rw [if_pos (by rw [hq]), f_X12_isWord_29, show (1 : Int32) = nI 1 from rfl, show (0 : Int32) = nI 0 from rfl, m_word32 hR hT ha ha1 (L := nx b n e - skp b n e) hq.symm hS.1 (by omega) (wo a) 0 512 rfl (by omega) (by omega)]
      congr 2
      rw [Nat.add_zero, show skp b n e + (nx b n e - skp b n e) = nx b n e by omega]
      exact decide_eq_decide.mpr ⟨fun z => hw.mpr ⟨h1, z⟩, fun z => (hw.mp z).2⟩
    · rw [if_neg (by rw [n_eq (by omega) (by omega)]; exact hq), f_X12_isWord_28, f_X12_isWord_29, m_word32z ha (by decide), decide_eq_false]
      · rfl
      · intro z
        have := congrArg List.length (hw.mp z).2
        rw [seg, seg_l] at this
        exact hq this
  · rw [if_neg (by show ¬ nI (so b n e) = nI 1; rw [n_eq (by omega) (by omega)]; exact h1), f_X12_isWord_28, f_X12_isWord_29, m_word32z ha (by decide), decide_eq_false (fun z => h1 (hw.mp z).1)]
    rfl
theorem m_sign (hR : Lay R) (hT : TMb I b n) {e c : Nat} (hS : RS I b n e) (hc : bTk c = 20000 + c) (hc6 : c ≤ 62) : f_X12_isSign (S0 ++ J) R I 65 (nI c) = some (yn (decide (tk b n e = 20000 + c))) := by
  have hn := hT.1
  have hw := tk_sign (b := b) (n := n) (e := e) hc hc6
  have h3 := so_3 b n e
  rw [f_X12_isSign, so_65, gp1, hS.2.2]
  by_cases h1 : so b n e = 3
  · have hlt := (tk_so3 h1).2.1
    have hb := hT.2.2 _ hlt
    rw [if_pos (by rw [h1]; rfl), hS.1]
    simp (disch := omega) only [so_65, ao_66, ao_67, ao_68, ao_69, ly_65_0 hR, ly_65_1 hR, ly_65_2 hR, ly_65_4 hR, ly_65_11 hR, ly_65_13 hR, ly_65_14 hR, ly_65_15 hR, ly_65_16 hR, ly_65_17 hR, ly_65_18 hR, ly_65_19 hR, ly_65_20 hR, ly_65_22 hR, ly_65_24 hR, ly_65_25 hR, ly_65_26 hR, ly_65_27 hR, ly_65_28 hR, ly_65_29 hR, ly_65_30 hR, hb.2, lit, gp1, rl1, rs1, bd1, lt1, n_add, n_sub, n_dec, n_le, n_lt, n_eq, n_in, nI_clamp, n_mul, m_or, m_and, m_pow, m_bit, m_dif, n_neg, yn_0, yn_1, yn_z, yn_d, one31, Nat.add_sub_cancel, Nat.not_lt_zero, if_true, if_false, ite_true, ite_false, Bool.true_eq_false, Bool.false_eq_true, Nat.add_zero, Nat.zero_add]
    by_cases e1 : b (skp b n e) = c
    · rw [if_pos e1, decide_eq_true (hw.mpr ⟨h1, e1⟩)]; rfl
    · rw [if_neg e1, decide_eq_false (fun z => e1 (hw.mp z).2)]; rfl
  · rw [if_neg (by show ¬ nI (so b n e) = nI 3; rw [n_eq (by omega) (by omega)]; exact h1), decide_eq_false (fun z => h1 (hw.mp z).1)]
    rfl
theorem tk_num_e {e : Nat} (h : tk b n e < 10000) : tk b n e = nvF b (nx b n e - skp b n e) (skp b n e) 0 := by
  have ⟨h1, h2⟩ := tk_number.mp h
  rw [(tk_so2 h1).1, if_pos h2]
theorem m_num7 (hR : Lay R) (hT : TMb I b n) {p q : Nat} (h6 : I 65 6 = nI p) (h7 : I 65 7 = nI q) (hq : q ≤ n) (hl : q ≤ p + 4) (hpq : p ≤ q) (hs : ∀ j, p ≤ j → j < q → srt (b j) = 1) : ∀ (r k a f : Nat), k + r = q → r < f → p ≤ k →
    f_X12_numberAt_7 (S0 ++ J) R I f 65 (nI a) (nI k) = some (nI (nvF b r k a))
  | 0, k, a, f, hk, hf, _ => by
    have hn := hT.1
    obtain ⟨f, rfl⟩ := Nat.exists_eq_succ_of_ne_zero (n := f) (by omega)
    rw [f_X12_numberAt_7, so_65, gp1, h7, if_pos (by rw [n_le (by omega) (by omega)]; omega)]; rfl
  | r + 1, k, a, f, hk, hf, hpk => by
    have hn := hT.1
    obtain ⟨f, rfl⟩ := Nat.exists_eq_succ_of_ne_zero (n := f) (by omega)
    have hd := sb_dig (hs k (by omega) (by omega))
    rw [f_X12_numberAt_7, so_65, gp1, h7, if_neg (by rw [n_le (by omega) (by omega)]; omega), h6, n_sub hpq, if_neg (by show ¬ nI 4 < nI (q - p); rw [n_lt (by omega) (by omega)]; omega)]
    simp (disch := omega) only [so_65, ao_66, ao_67, ao_68, ao_69, ly_65_0 hR, ly_65_1 hR, ly_65_2 hR, ly_65_4 hR, ly_65_11 hR, ly_65_13 hR, ly_65_14 hR, ly_65_15 hR, ly_65_16 hR, ly_65_17 hR, ly_65_18 hR, ly_65_19 hR, ly_65_20 hR, ly_65_22 hR, ly_65_24 hR, ly_65_25 hR, ly_65_26 hR, ly_65_27 hR, ly_65_28 hR, ly_65_29 hR, ly_65_30 hR, (hT.2.2 k (by omega)).2, lit, gp1, rl1, rs1, bd1, lt1, n_add, n_sub, n_dec, n_le, n_lt, n_eq, n_in, nI_clamp, n_mul, m_or, m_and, m_pow, m_bit, m_dif, n_neg, yn_0, yn_1, yn_z, yn_d, one31, Nat.add_sub_cancel, Nat.not_lt_zero, if_true, if_false, ite_true, ite_false, Bool.true_eq_false, Bool.false_eq_true, Nat.add_zero, Nat.zero_add]
    rw [nvF, show 10 * a + b k - 48 = a * 10 + (b k - 48) by omega]
    exact m_num7 hR hT h6 h7 hq hl hpq hs r (k + 1) (a * 10 + (b k - 48)) f (by omega) (by omega) (by omega)
theorem m_num (hR : Lay R) (hT : TMb I b n) {e : Nat} (he : e ≤ n) (hS : RS I b n e) (h : tk b n e < 10000) : f_X12_numberAt (S0 ++ J) R I 65 = some (nI (tk b n e)) := by
  have hn := hT.1
  have ⟨h1, h2⟩ := tk_number.mp h
  have hsk := skp_le (b := b) he
  have hnx := nx_le (b := b) he
  have hlt : skp b n e < nx b n e := hnx.2.2 (by omega)
  rw [tk_num_e h, f_X12_numberAt, so_65, gp1, hS.1]
  exact m_num7 hR hT hS.1 hS.2.1 (by omega) (by omega) (by omega) (tk_so2 h1).2.2 _ _ 0 512 (by omega) (by omega) (by omega)
theorem m_numX (hT : TMb I b n) {e : Nat} (he : e ≤ n) (hS : RS I b n e) (h1 : so b n e = 2) (h : ¬ tk b n e < 10000) : f_X12_numberAt (S0 ++ J) R I 65 = some 0 := by
  have hn := hT.1
  have hsk := skp_le (b := b) he
  have hnx := nx_le (b := b) he
  have h4 : ¬ nx b n e - skp b n e ≤ 4 := fun z => h (tk_number.mpr ⟨h1, z⟩)
  rw [f_X12_numberAt, so_65, gp1, f_X12_numberAt_7, so_65, gp1, hS.1, hS.2.1, if_neg (by rw [n_le (by omega) (by omega)]; omega), n_sub (by omega), if_pos (by show nI 4 < nI _; rw [n_lt (by omega) (by omega)]; omega)]
end RWD
