/-! THE CLASS' RULES (cell 8): what a good is worth by them, and its fee -/
theorem x_under {S : Sh} {R : Rw} {I : Iw} {k a : Nat} (h1 : 1 ≤ k) (h5 : k ≤ 5) (ha : a ≤ 5) : f_X11_isOrIsUnder S R I (nI k) (nI a) = some (yn (und k a)) := by
  have hk : k = 1 ∨ k = 2 ∨ k = 3 ∨ k = 4 ∨ k = 5 := by omega
  have ha2 : a = 0 ∨ a = 1 ∨ a = 2 ∨ a = 3 ∨ a = 4 ∨ a = 5 := by omega
  rcases hk with e | e | e | e | e <;> subst e <;> rcases ha2 with e | e | e | e | e | e <;> subst e <;> rfl
theorem hgt_none : ∀ cs : List (Nat × Nat × Nat), cs.foldl hgt none = none
  | [] => rfl
  | c :: cs => by rw [List.foldl_cons]; exact hgt_none cs
theorem tokv_lt {D : Dt} (hV : VD D) {g t : Nat} (hg : g < d_n D) : tokv D g t < 10000 := by
  have h1 := hV.1
  have h2 := hV.2.2.2.2.1 g hg
  have h3 := hV.2.2.2.2.2.1
  unfold tokv
  repeat' split
  all_goals omega
section RULES
variable {J : Sh} {R : Rw} {I : Iw} {D : Dt}
theorem p_value (hR : Lay R) (hC : CR0 I 1 D) (hV : VD D) {g t : Nat} (hg : g < d_n D) (ht : t < 10005) : f_X5_valueOf (S0 ++ J) R I (nI (cTok t)) 1 (nI g) = some (nI (tokv D g t)) := by
  have h9 := hV.1
  have v := hV.2.2.2.2.1 g hg
  have c1 : I 1 9 = nI (d_ga D) := hC.2.2.2.1
  have c2 : I 1 10 = nI (d_da D) := hC.2.2.2.2.1
  have c3 : I 3 g = nI (d_by D g) := (hC.2.2.2.2.2.2.2.1 g hg).2.1
  have c4 : I 4 g = nI (d_cl D g) := (hC.2.2.2.2.2.2.2.1 g hg).2.2.1
  have c5 : I 5 g = nI (d_wo D g) := (hC.2.2.2.2.2.2.2.1 g hg).2.2.2
  have hc : cTok t < 10018 := by unfold cTok; split <;> omega
  simp (disch := omega) only [so_1, ao_2, ao_3, ao_4, ao_5, ao_6, ao_7, ly_1_0 hR, ly_1_1 hR, ly_1_2 hR, ly_1_3 hR, ly_1_4 hR, ly_1_7 hR, ly_1_11 hR, ly_1_12 hR, ly_1_13 hR, f_X5_valueOf, c1, c2, c4, c5, lit, gp1, rl1, rs1, bd1, lt1, n_add, n_sub, n_dec, n_le, n_lt, n_eq, n_in, nI_clamp, n_mul, m_or, m_and, m_pow, m_bit, m_dif, n_neg, yn_0, yn_1, yn_z, yn_d, one31, Nat.add_sub_cancel, Nat.not_lt_zero, if_true, if_false, ite_true, ite_false]
  unfold cTok tokv
  by_cases h : t < 10000
  · simp only [if_pos h]
    rw [if_neg (by omega), if_neg (by omega), if_neg (by omega), if_neg (by omega), if_neg (by omega)]
  · simp only [if_neg h]
    have e : t = 10000 ∨ t = 10001 ∨ t = 10002 ∨ t = 10003 ∨ t = 10004 := by omega
    rcases e with e | e | e | e | e <;> subst e <;> rfl
theorem p_compared (hR : Lay R) (hC : CR0 I 1 D) (hV : VD D) {g k op x y : Nat} (hg : g < d_n D) (hk : k < 128) (ho : op = 20002 ∨ op = 20003 ∨ op = 20004) (hx : x < 10005) (hy : y < 10005) (k1 : I 12 k = nI (cSgn op)) (k2 : I 13 k = nI (cTok x)) (k3 : I 14 k = nI (cTok y)) :
    f_X5_compared (S0 ++ J) R I 8 (nI k) 1 (nI g) = some (yn (cmpb op (tokv D g x) (tokv D g y))) := by
  have t1 := tokv_lt hV (t := x) hg
  have t2 := tokv_lt hV (t := y) hg
  have hs : cSgn op < 30000 := by rcases ho with e | e | e <;> subst e <;> decide
  simp (disch := omega) only [so_1, ao_2, ao_3, ao_4, ao_5, ao_6, ao_7, so_8, ao_9, ao_10, ao_11, ao_12, ao_13, ao_14, ao_15, ao_16, ly_1_0 hR, ly_1_1 hR, ly_1_2 hR, ly_1_3 hR, ly_1_4 hR, ly_1_7 hR, ly_1_11 hR, ly_1_12 hR, ly_1_13 hR, ly_8_1 hR, ly_8_2 hR, ly_8_3 hR, ly_8_5 hR, ly_8_6 hR, ly_8_7 hR, f_X5_compared, k1, k2, k3, p_value hR hC hV hg hx, p_value hR hC hV hg hy, lit, gp1, rl1, rs1, bd1, lt1, n_add, n_sub, n_dec, n_le, n_lt, n_eq, n_in, nI_clamp, n_mul, m_or, m_and, m_pow, m_bit, m_dif, n_neg, yn_0, yn_1, yn_z, yn_d, one31, Nat.add_sub_cancel, Nat.not_lt_zero, if_true, if_false, ite_true, ite_false]
  rcases ho with e | e | e <;> subst e <;> simp only [cSgn, cmpb]
  · by_cases h : tokv D g x < tokv D g y
    · simp [h, Nat.not_le.mpr h, yn]
    · simp [h, Nat.not_lt.mp h, yn]
  · by_cases h : tokv D g x = tokv D g y
    · simp [h, yn]
    · simp [h, yn]
  · by_cases h : tokv D g y < tokv D g x
    · simp [h, Nat.not_le.mpr h, yn]
    · simp [h, Nat.not_lt.mp h, yn]
theorem p_isSo21 (hR : Lay R) (hC : CR0 I 1 D) (hV : VD D) {g r : Nat} (hg : g < d_n D) (hr : r < d_nr D) : ∀ (cs : List (Nat × Nat × Nat)) (st : List Bool) (i f : Nat), (d_rc D r).drop i = cs → i ≤ (d_rc D r).length → st.length ≤ 20 → cs.foldl hgt (some st.length) ≠ none → cs.length < f →
    f_X5_isSo_21 (S0 ++ J) R I f 8 (nI r) 1 (nI g) (nI (enc st)) (nI (stA D r + i)) = some (yn ((cs.foldl (evb D g) st).headD true)) := by
  have v7 := hV.2.2.2.2.2.2.1
  have cR := hC.2.2.2.2.2.2.2.2.2.1
  have e1 : I 11 r = nI (stA D (r + 1)) := (cR.2.2 r hr).2.2.1
  have mono : ∀ a b, a ≤ b → stA D a ≤ stA D b := by
    intro a b h
    induction b with
    | zero => rw [Nat.le_zero.mp h]; exact Nat.le_refl _
    | succ b ih =>
      by_cases e : a = b + 1
      · subst e; exact Nat.le_refl _
      · exact Nat.le_trans (ih (by omega)) (Nat.le_add_right _ _)
  have hm := mono (r + 1) (d_nr D) hr
  have hst : stA D (r + 1) = stA D r + (d_rc D r).length := rfl
  intro cs
  induction cs with
  | nil =>
    intro st i f hd hi hs hh hf
    obtain ⟨f, rfl⟩ := Nat.exists_eq_succ_of_ne_zero (n := f) (by omega)
    have hl : (d_rc D r).length ≤ i := List.drop_eq_nil_iff.mp hd
    rw [f_X5_isSo_21]
    simp (disch := omega) only [so_1, ao_2, ao_3, ao_4, ao_5, ao_6, ao_7, so_8, ao_9, ao_10, ao_11, ao_12, ao_13, ao_14, ao_15, ao_16, ly_1_0 hR, ly_1_1 hR, ly_1_2 hR, ly_1_3 hR, ly_1_4 hR, ly_1_7 hR, ly_1_11 hR, ly_1_12 hR, ly_1_13 hR, ly_8_1 hR, ly_8_2 hR, ly_8_3 hR, ly_8_5 hR, ly_8_6 hR, ly_8_7 hR, e1, lit, gp1, rl1, rs1, bd1, lt1, n_add, n_sub, n_dec, n_le, n_lt, n_eq, n_in, nI_clamp, n_mul, m_or, m_and, m_pow, m_bit, m_dif, n_neg, yn_0, yn_1, yn_z, yn_d, one31, Nat.add_sub_cancel, Nat.not_lt_zero, if_true, if_false, ite_true, ite_false]
    rw [if_pos (by omega), enc_1, List.foldl_nil]
    cases st.headD true <;> rfl
  | cons c cs ih =>
    intro st i f hd hi hs hh hf
    obtain ⟨f, rfl⟩ := Nat.exists_eq_succ_of_ne_zero (n := f) (by omega)
    have hl : i < (d_rc D r).length := by
      apply Decidable.byContradiction
      intro q
      rw [List.drop_eq_nil_iff.mpr (by omega)] at hd
      cases hd
    have hd2 : (d_rc D r).drop (i + 1) = cs := by
      rw [← List.drop_drop, hd]; rfl
    have hc : (d_rc D r)[i]? = some c := by
      rw [← Nat.add_zero i, ← List.getElem?_drop, hd]; rfl
    have k1 : I 12 (stA D r + i) = nI (cSgn c.1) := ((cR.2.2 r hr).2.2.2 i c hc).1
    have k2 := ((cR.2.2 r hr).2.2.2 i c hc).2
    rw [List.foldl_cons] at hh
    rw [f_X5_isSo_21, List.foldl_cons]
    have nxt : ∀ st' : List Bool, hgt (some st.length) c = some st'.length → st'.length ≤ 20 → f_X5_isSo_21 (S0 ++ J) R I f 8 (nI r) 1 (nI g) (nI (enc st')) (nI (stA D r + i + 1)) = some (yn ((cs.foldl (evb D g) st').headD true)) := by
      intro st' h1 h2
      rw [h1] at hh
      exact ih st' (i + 1) f hd2 (by omega) h2 hh (by simpa using hf)
    by_cases o1 : c.1 = 20005
    · by_cases h1 : 1 ≤ st.length
      · obtain ⟨x, t, rfl⟩ : ∃ x t, st = x :: t := by cases st <;> simp at h1 ⊢
        rw [o1, show cSgn 20005 = 10009 from rfl] at k1
        simp (disch := omega) only [so_1, ao_2, ao_3, ao_4, ao_5, ao_6, ao_7, so_8, ao_9, ao_10, ao_11, ao_12, ao_13, ao_14, ao_15, ao_16, ly_1_0 hR, ly_1_1 hR, ly_1_2 hR, ly_1_3 hR, ly_1_4 hR, ly_1_7 hR, ly_1_11 hR, ly_1_12 hR, ly_1_13 hR, ly_8_1 hR, ly_8_2 hR, ly_8_3 hR, ly_8_5 hR, ly_8_6 hR, ly_8_7 hR, e1, k1, f_X5_isSo_117, enc_not, lit, gp1, rl1, rs1, bd1, lt1, n_add, n_sub, n_dec, n_le, n_lt, n_eq, n_in, nI_clamp, n_mul, m_or, m_and, m_pow, m_bit, m_dif, n_neg, yn_0, yn_1, yn_z, yn_d, one31, Nat.add_sub_cancel, Nat.not_lt_zero, if_true, if_false, ite_true, ite_false]
        rw [if_neg (by omega)]
        simp only [show ¬ (10009 = 10007) by decide, show ¬ (10009 = 10008) by decide, if_false]
        rw [nxt ((!x) :: t) (by simp [hgt, o1]) (by simpa using hs)]
        simp [evb, o1]
      · exact absurd (by rw [hgt]; simp only [if_pos o1, if_neg h1]; exact hgt_none cs) hh
    · by_cases o2 : c.1 = 20000 ∨ c.1 = 20001
      · by_cases h2 : 2 ≤ st.length
        · obtain ⟨y, x, t, rfl⟩ : ∃ y x t, st = y :: x :: t := by
            rcases st with _ | ⟨y, _ | ⟨x, t⟩⟩ <;> simp at h2 ⊢
          have ht : t.length ≤ 20 := by simp at hs; omega
          have hh2 : hgt (some (y :: x :: t).length) c = some (t.length + 1) := by
            rw [hgt]; simp only [if_neg o1, if_pos o2, if_pos h2]; simp
          rcases o2 with o2 | o2
          · rw [o2, show cSgn 20000 = 10007 from rfl] at k1
            simp (disch := omega) only [so_1, ao_2, ao_3, ao_4, ao_5, ao_6, ao_7, so_8, ao_9, ao_10, ao_11, ao_12, ao_13, ao_14, ao_15, ao_16, ly_1_0 hR, ly_1_1 hR, ly_1_2 hR, ly_1_3 hR, ly_1_4 hR, ly_1_7 hR, ly_1_11 hR, ly_1_12 hR, ly_1_13 hR, ly_8_1 hR, ly_8_2 hR, ly_8_3 hR, ly_8_5 hR, ly_8_6 hR, ly_8_7 hR, e1, k1, f_X5_isSo_117, enc_or ht, lit, gp1, rl1, rs1, bd1, lt1, n_add, n_sub, n_dec, n_le, n_lt, n_eq, n_in, nI_clamp, n_mul, m_or, m_and, m_pow, m_bit, m_dif, n_neg, yn_0, yn_1, yn_z, yn_d, one31, Nat.add_sub_cancel, Nat.not_lt_zero, if_true, if_false, ite_true, ite_false]
            rw [if_neg (by omega), nxt ((x || y) :: t) (by simpa using hh2) (by simp at hs ⊢; omega)]
            simp [evb, o2]
          · rw [o2, show cSgn 20001 = 10008 from rfl] at k1
            simp (disch := omega) only [so_1, ao_2, ao_3, ao_4, ao_5, ao_6, ao_7, so_8, ao_9, ao_10, ao_11, ao_12, ao_13, ao_14, ao_15, ao_16, ly_1_0 hR, ly_1_1 hR, ly_1_2 hR, ly_1_3 hR, ly_1_4 hR, ly_1_7 hR, ly_1_11 hR, ly_1_12 hR, ly_1_13 hR, ly_8_1 hR, ly_8_2 hR, ly_8_3 hR, ly_8_5 hR, ly_8_6 hR, ly_8_7 hR, e1, k1, f_X5_isSo_117, enc_and ht, lit, gp1, rl1, rs1, bd1, lt1, n_add, n_sub, n_dec, n_le, n_lt, n_eq, n_in, nI_clamp, n_mul, m_or, m_and, m_pow, m_bit, m_dif, n_neg, yn_0, yn_1, yn_z, yn_d, one31, Nat.add_sub_cancel, Nat.not_lt_zero, if_true, if_false, ite_true, ite_false]
            simp only [show ¬ (10008 = 10007) by decide, if_false]
            rw [if_neg (by omega), nxt ((x && y) :: t) (by simpa using hh2) (by simp at hs ⊢; omega)]
            simp [evb, o2]
        · exact absurd (by rw [hgt]; simp only [if_neg o1, if_pos o2, if_neg h2]; exact hgt_none cs) hh
      · by_cases o3 : c.1 = 20002 ∨ c.1 = 20003 ∨ c.1 = 20004
        · by_cases h3 : st.length < 20 ∧ c.2.1 < 10005 ∧ c.2.2 < 10005
          · have q := k2 (by rcases o3 with e | e | e <;> simp [isCmp, e])
            have hp := p_compared (J := J) hR hC hV (k := stA D r + i) hg (by omega) o3 h3.2.1 h3.2.2 k1 q.1 q.2
            have hn : cSgn c.1 < 30000 ∧ cSgn c.1 ≠ 10007 ∧ cSgn c.1 ≠ 10008 ∧ cSgn c.1 ≠ 10009 := by
              rcases o3 with e | e | e <;> rw [e] <;> decide
            simp (disch := omega) only [so_1, ao_2, ao_3, ao_4, ao_5, ao_6, ao_7, so_8, ao_9, ao_10, ao_11, ao_12, ao_13, ao_14, ao_15, ao_16, ly_1_0 hR, ly_1_1 hR, ly_1_2 hR, ly_1_3 hR, ly_1_4 hR, ly_1_7 hR, ly_1_11 hR, ly_1_12 hR, ly_1_13 hR, ly_8_1 hR, ly_8_2 hR, ly_8_3 hR, ly_8_5 hR, ly_8_6 hR, ly_8_7 hR, e1, k1, f_X5_isSo_117, hp, enc_cmp, lit, gp1, rl1, rs1, bd1, lt1, n_add, n_sub, n_dec, n_le, n_lt, n_eq, n_in, nI_clamp, n_mul, m_or, m_and, m_pow, m_bit, m_dif, n_neg, yn_0, yn_1, yn_z, yn_d, one31, Nat.add_sub_cancel, Nat.not_lt_zero, if_true, if_false, ite_true, ite_false]
            rw [if_neg (by omega), if_neg hn.2.1, if_neg hn.2.2.1, if_neg hn.2.2.2, nxt (cmpb c.1 (tokv D g c.2.1) (tokv D g c.2.2) :: st) (by rw [hgt]; simp only [if_neg o1, if_neg o2, if_pos o3, if_pos h3]; simp) (by simp; omega)]
            have he : evb D g st c = cmpb c.1 (tokv D g c.2.1) (tokv D g c.2.2) :: st := by
              unfold evb
              rw [if_neg o1, if_neg (by omega), if_neg (by omega)]
            rw [he]
          · exact absurd (by rw [hgt]; simp only [if_neg o1, if_neg o2, if_pos o3, if_neg h3]; exact hgt_none cs) hh
        · exact absurd (by rw [hgt]; simp only [if_neg o1, if_neg o2, if_neg o3]; exact hgt_none cs) hh
theorem wfs_ne {cs : List (Nat × Nat × Nat)} (h : wfs cs) : cs.foldl hgt (some 0) ≠ none := by
  rcases h with e | e
  · rw [e]; simp
  · rw [e]; simp
theorem p_isSo (hR : Lay R) (hC : CR0 I 1 D) (hV : VD D) {g r : Nat} (hg : g < d_n D) (hr : r < d_nr D) : f_X5_isSo (S0 ++ J) R I 8 (nI r) 1 (nI g) = some (yn (cond D g (d_rc D r))) := by
  have v7 := hV.2.2.2.2.2.2.1
  have cR := hC.2.2.2.2.2.2.2.2.2.1
  have main : f_X5_isSo_19 (S0 ++ J) R I 8 (nI r) 1 (nI g) (nI 1) (nI (stA D r)) = some (yn (cond D g (d_rc D r))) := by
    have hl : (d_rc D r).length ≤ 128 := by
      have : stA D (r + 1) = stA D r + (d_rc D r).length := rfl
      have mono : ∀ a b, a ≤ b → stA D a ≤ stA D b := by
        intro a b h
        induction b with
        | zero => rw [Nat.le_zero.mp h]; exact Nat.le_refl _
        | succ b ih =>
          by_cases e : a = b + 1
          · subst e; exact Nat.le_refl _
          · exact Nat.le_trans (ih (by omega)) (Nat.le_add_right _ _)
      have := mono (r + 1) (d_nr D) hr
      omega
    have := p_isSo21 (J := J) hR hC hV hg hr (d_rc D r) [] 0 512 rfl (Nat.zero_le _) (by decide) (wfs_ne (v7.2.2.2 r hr).2.2.2.1) (by omega)
    exact this
  unfold f_X5_isSo
  by_cases h : r = 0
  · subst h
    rw [if_pos (by decide)]
    exact main
  · have e1 : I 11 (r - 1) = nI (stA D r) := by
      have := (cR.2.2 (r - 1) (by omega)).2.2.1
      rwa [show r - 1 + 1 = r by omega] at this
    simp (disch := omega) only [so_1, ao_2, ao_3, ao_4, ao_5, ao_6, ao_7, so_8, ao_9, ao_10, ao_11, ao_12, ao_13, ao_14, ao_15, ao_16, ly_1_0 hR, ly_1_1 hR, ly_1_2 hR, ly_1_3 hR, ly_1_4 hR, ly_1_7 hR, ly_1_11 hR, ly_1_12 hR, ly_1_13 hR, ly_8_1 hR, ly_8_2 hR, ly_8_3 hR, ly_8_5 hR, ly_8_6 hR, ly_8_7 hR, e1, lit, gp1, rl1, rs1, bd1, lt1, n_add, n_sub, n_dec, n_le, n_lt, n_eq, n_in, nI_clamp, n_mul, m_or, m_and, m_pow, m_bit, m_dif, n_neg, yn_0, yn_1, yn_z, yn_d, one31, Nat.add_sub_cancel, Nat.not_lt_zero, if_true, if_false, ite_true, ite_false]
    rw [if_neg h]
    exact main
def fndR (P : Nat → Bool) (t : Nat) : Nat → Option Nat
  | 0 => none
  | k + 1 => if P t then some t else fndR P (t + 1) k
theorem find_range (P : Nat → Bool) : ∀ n t, (List.range' t n).find? P = fndR P t n
  | 0, _ => rfl
  | n + 1, t => by
    rw [List.range'_succ, List.find?_cons, fndR, find_range P n (t + 1)]
    cases P t <;> rfl
def chO (D : Dt) : Option Nat → Int32
  | none => nI 0
  | some r => chI D r
def rfP (D : Dt) (g r : Nat) : Bool := und (d_kd D g) (d_rk D r) && cond D g (d_rc D r)
theorem ruleFor_f (D : Dt) (g : Nat) : ruleFor D g = fndR (rfP D g) 0 (d_nr D) := by
  rw [ruleFor, List.range_eq_range', find_range]; rfl
theorem p_changeFor2 (hR : Lay R) (hC : CR0 I 1 D) (hV : VD D) {g : Nat} (hg : g < d_n D) : ∀ (k t f : Nat), t + k = d_nr D → k < f →
    f_X5_changeFor_2 (S0 ++ J) R I f 8 1 (nI g) (nI t) = some (chO D (fndR (rfP D g) t k)) := by
  have h9 := hV.1
  have v7 := hV.2.2.2.2.2.2.1
  have v := hV.2.2.2.2.1 g hg
  have cR := hC.2.2.2.2.2.2.2.2.2.1
  have c0 : I 8 0 = nI (d_nr D) := cR.1
  have c2 : I 2 g = nI (d_kd D g) := (hC.2.2.2.2.2.2.2.1 g hg).1
  intro k
  induction k with
  | zero =>
    intro t f ht hf
    obtain ⟨f, rfl⟩ := Nat.exists_eq_succ_of_ne_zero (n := f) (by omega)
    rw [f_X5_changeFor_2]
    simp (disch := omega) only [so_1, ao_2, ao_3, ao_4, ao_5, ao_6, ao_7, so_8, ao_9, ao_10, ao_11, ao_12, ao_13, ao_14, ao_15, ao_16, ly_1_0 hR, ly_1_1 hR, ly_1_2 hR, ly_1_3 hR, ly_1_4 hR, ly_1_7 hR, ly_1_11 hR, ly_1_12 hR, ly_1_13 hR, ly_8_1 hR, ly_8_2 hR, ly_8_3 hR, ly_8_5 hR, ly_8_6 hR, ly_8_7 hR, c0, lit, gp1, rl1, rs1, bd1, lt1, n_add, n_sub, n_dec, n_le, n_lt, n_eq, n_in, nI_clamp, n_mul, m_or, m_and, m_pow, m_bit, m_dif, n_neg, yn_0, yn_1, yn_z, yn_d, one31, Nat.add_sub_cancel, Nat.not_lt_zero, if_true, if_false, ite_true, ite_false]
    rw [if_pos (by omega)]; rfl
  | succ k ih =>
    intro t f ht hf
    obtain ⟨f, rfl⟩ := Nat.exists_eq_succ_of_ne_zero (n := f) (by omega)
    have c9 : I 9 t = nI (d_rk D t) := (cR.2.2 t (by omega)).1
    have c10 : I 10 t = chI D t := (cR.2.2 t (by omega)).2.1
    have vt := v7.2.2.2 t (by omega)
    rw [f_X5_changeFor_2]
    simp (disch := omega) only [so_1, ao_2, ao_3, ao_4, ao_5, ao_6, ao_7, so_8, ao_9, ao_10, ao_11, ao_12, ao_13, ao_14, ao_15, ao_16, ly_1_0 hR, ly_1_1 hR, ly_1_2 hR, ly_1_3 hR, ly_1_4 hR, ly_1_7 hR, ly_1_11 hR, ly_1_12 hR, ly_1_13 hR, ly_8_1 hR, ly_8_2 hR, ly_8_3 hR, ly_8_5 hR, ly_8_6 hR, ly_8_7 hR, c0, c2, c9, c10, x_under v.1 v.2.1 vt.1, p_isSo hR hC hV hg (show t < d_nr D by omega), f_X5_changeFor_45, lit, gp1, rl1, rs1, bd1, lt1, n_add, n_sub, n_dec, n_le, n_lt, n_eq, n_in, nI_clamp, n_mul, m_or, m_and, m_pow, m_bit, m_dif, n_neg, yn_0, yn_1, yn_z, yn_d, one31, Nat.add_sub_cancel, Nat.not_lt_zero, if_true, if_false, ite_true, ite_false]
    rw [if_neg (by omega), ih (t + 1) f (by omega) (by omega), fndR, rfP]
    cases und (d_kd D g) (d_rk D t) <;> cases cond D g (d_rc D t) <;> rfl
theorem p_changeFor (hR : Lay R) (hC : CR0 I 1 D) (hV : VD D) {g : Nat} (hg : g < d_n D) : f_X5_changeFor (S0 ++ J) R I 8 1 (nI g) = some (chO D (ruleFor D g)) := by
  have v7 := hV.2.2.2.2.2.2.1
  rw [ruleFor_f]
  exact p_changeFor2 hR hC hV hg (d_nr D) 0 512 (by omega) (by omega)
theorem fndR_lt {P : Nat → Bool} : ∀ {k t r : Nat}, fndR P t k = some r → r < t + k ∧ P r = true
  | 0, _, _, h => by cases h
  | k + 1, t, r, h => by
    rw [fndR] at h
    by_cases e : P t = true
    · rw [if_pos e] at h
      cases h
      exact ⟨by omega, e⟩
    · rw [if_neg e] at h
      have := fndR_lt h
      exact ⟨by omega, this.2⟩
theorem wof_ch (hV : VD D) {g : Nat} (hg : g < d_n D) : jmax (nI 0) (nI (d_wo D g) + chO D (ruleFor D g)) = nI (wof D g) ∧ wof D g < 2000 := by
  have v := hV.2.2.2.2.1 g hg
  have v7 := hV.2.2.2.2.2.2.1
  unfold wof
  cases h : ruleFor D g with
  | none =>
    refine ⟨?_, by show d_wo D g < 2000; omega⟩
    show jmax (nI 0) (nI (d_wo D g) + nI 0) = nI (d_wo D g)
    rw [j_add (by omega), Nat.add_zero]
  | some r =>
    rw [ruleFor_f] at h
    have hr := (fndR_lt h).1
    have vr := v7.2.2.2 r (by omega)
    show jmax (nI 0) (nI (d_wo D g) + chI D r) = nI (if d_rt D r = 2 then 0 else if d_rt D r = 0 then d_wo D g + d_rb D r else d_wo D g - d_rb D r) ∧ (if d_rt D r = 2 then 0 else if d_rt D r = 0 then d_wo D g + d_rb D r else d_wo D g - d_rb D r) < 2000
    unfold chI
    by_cases e2 : d_rt D r = 2
    · rw [if_pos e2, if_pos e2]
      refine ⟨?_, by decide⟩
      show jmax (nI 0) (nI (d_wo D g) + -nI 999) = nI 0
      rw [j_neg (by omega) (by omega), show d_wo D g - 999 = 0 by omega]
    · rw [if_neg e2, if_neg e2]
      by_cases e0 : d_rt D r = 0
      · rw [if_pos e0, if_pos e0]
        exact ⟨j_add (by omega), by omega⟩
      · rw [if_neg e0, if_neg e0]
        exact ⟨j_neg (by omega) (by omega), by omega⟩
theorem p_fee (hR : Lay R) (hC : CR0 I 1 D) (hV : VD D) {g : Nat} (hg : g < d_n D) : f_X7_fee (S0 ++ J) R I 1 (nI g) = some (nI (fee D g)) := by
  have h9 := hV.1
  have v := hV.2.2.2.2.1 g hg
  have v6 := hV.2.2.2.2.2.1
  have c1 : I 1 10 = nI (d_da D) := hC.2.2.2.2.1
  have c2 : I 2 g = nI (d_kd D g) := (hC.2.2.2.2.2.2.2.1 g hg).1
  have c4 : I 4 g = nI (d_cl D g) := (hC.2.2.2.2.2.2.2.1 g hg).2.2.1
  have c5 : I 5 g = nI (d_wo D g) := (hC.2.2.2.2.2.2.2.1 g hg).2.2.2
  have hw := wof_ch hV hg
  have hh : f_X7_has (S0 ++ J) R I 1 (nI g) = some (yn true) := by
    rw [p_has hC, hs_t hV hg]; rfl
  simp (disch := omega) only [so_1, ao_2, ao_3, ao_4, ao_5, ao_6, ao_7, so_8, ao_9, ao_10, ao_11, ao_12, ao_13, ao_14, ao_15, ao_16, ly_1_0 hR, ly_1_1 hR, ly_1_2 hR, ly_1_3 hR, ly_1_4 hR, ly_1_7 hR, ly_1_11 hR, ly_1_12 hR, ly_1_13 hR, ly_8_1 hR, ly_8_2 hR, ly_8_3 hR, ly_8_5 hR, ly_8_6 hR, ly_8_7 hR, f_X7_fee, hh, p_changeFor hR hC hV hg, c1, c2, c4, c5, hw.1, lit, gp1, rl1, rs1, bd1, lt1, n_add, n_sub, n_dec, n_le, n_lt, n_eq, n_in, nI_clamp, n_mul, m_or, m_and, m_pow, m_bit, m_dif, n_neg, yn_0, yn_1, yn_z, yn_d, one31, Nat.add_sub_cancel, Nat.not_lt_zero, if_true, if_false, ite_true, ite_false]
  unfold fee
  rw [if_neg (show ¬ (true = false) by decide)]
  by_cases k1 : d_kd D g = 1
  · rw [if_pos k1, if_pos k1, n_div (by omega)]
  · rw [if_neg k1, if_neg k1]
    by_cases k2 : d_kd D g = 2
    · rw [if_pos k2, if_pos k2]
    · rw [if_neg k2, if_neg k2]
      by_cases k3 : d_kd D g = 3
      · rw [if_pos k3, if_pos k3, j_sub (by omega) (by omega)]
      · rw [if_neg k3, if_neg k3]
        by_cases k4 : d_kd D g = 4
        · rw [if_pos k4, if_pos k4]
        · rw [if_neg k4, if_neg k4]
theorem fee_lt (hV : VD D) {g : Nat} (hg : g < d_n D) : fee D g < 5000 := by
  have h := (wof_ch hV hg).2
  have v6 := hV.2.2.2.2.2.1
  unfold fee
  repeat' split
  all_goals omega
end RULES
