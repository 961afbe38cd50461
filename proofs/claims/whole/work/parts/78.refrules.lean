/-! THE REFERENCE'S RULES: what a good is worth by them, and its fee (the pile is cell 77) -/
def pil (I : Iw) : List Bool → Prop
  | [] => True
  | b :: t => I 77 t.length = yn b ∧ pil I t
theorem pil_up {I : Iw} {j : Nat} {v : Int32} : ∀ {st : List Bool}, st.length ≤ j → pil I st → pil (up2 I 77 j v) st
  | [], _, _ => trivial
  | b :: t, h, p => by
    have h : t.length + 1 ≤ j := h
    exact ⟨by rw [u_eq, if_neg (by omega)]; exact p.1, pil_up (by omega) p.2⟩
theorem tks_cmp {op x y : Nat} (ho : op = 20002 ∨ op = 20003 ∨ op = 20004) (cs : List (Nat × Nat × Nat)) : tks ((op, x, y) :: cs) = x :: y :: op :: tks cs := by
  rw [tks, List.flatMap_cons]
  rw [if_pos ho]; rfl
theorem tks_op {op x y : Nat} (ho : ¬ (op = 20002 ∨ op = 20003 ∨ op = 20004)) (cs : List (Nat × Nat × Nat)) : tks ((op, x, y) :: cs) = op :: tks cs := by
  rw [tks, List.flatMap_cons]
  rw [if_neg ho]; rfl
section REFRULES
variable {J : Sh} {R : Rw} {D : Dt}
theorem m_fact (hR : Lay R) {I : Iw} (hM : MR I 66 D) (hV : VD D) {g t : Nat} (hg : g < d_n D) (h1 : 10000 ≤ t) (ht : t < 10005) : f_X12_factOf (S0 ++ J) R I 65 (nI (t - 10000)) (nI g) = some (nI (tokv D g t)) := by
  have h9 := hV.1
  have c0 : I 66 0 = nI (d_ga D) := hM.1
  have c1 : I 66 1 = nI (d_da D) := hM.2.1
  have e : t = 10000 ∨ t = 10001 ∨ t = 10002 ∨ t = 10003 ∨ t = 10004 := by omega
  simp (disch := omega) only [f_X12_factOf, so_65, ao_66, ly_65_0 hR, ly_65_1 hR, ly_65_2 hR, ly_65_4 hR, ly_65_11 hR, ly_65_13 hR, ly_65_14 hR, ly_65_15 hR, ly_65_16 hR, ly_65_17 hR, ly_65_18 hR, ly_65_19 hR, ly_65_20 hR, ly_65_22 hR, ly_65_24 hR, ly_65_25 hR, ly_65_26 hR, ly_65_27 hR, ly_65_28 hR, ly_65_29 hR, ly_65_30 hR, c0, c1, m_cl hR hM hV hg, m_wo hR hM hV hg, lit, gp1, rl1, rs1, bd1, lt1, n_add, n_sub, n_dec, n_le, n_lt, n_eq, n_in, nI_clamp, n_mul, m_or, m_and, m_pow, m_bit, m_dif, n_neg, yn_0, yn_1, yn_z, yn_d, one31, Nat.add_sub_cancel, Nat.not_lt_zero, if_true, if_false, ite_true, ite_false]
  rcases e with e | e | e | e | e <;> subst e <;> rfl
theorem m_did {S : Sh} {I : Iw} {op a b : Nat} (ho : op = 20002 ∨ op = 20003 ∨ op = 20004) (ha : a < 10000) (hb : b < 10000) : f_X12_did S R I (nI op) (nI a) (nI b) = some (yn (cmpb op a b)) := by
  have ho2 : op < 30000 := by omega
  simp (disch := omega) only [f_X12_did, lit, gp1, rl1, rs1, bd1, lt1, n_add, n_sub, n_dec, n_le, n_lt, n_eq, n_in, nI_clamp, n_mul, m_or, m_and, m_pow, m_bit, m_dif, n_neg, yn_0, yn_1, yn_z, yn_d, one31, Nat.add_sub_cancel, Nat.not_lt_zero, if_true, if_false, ite_true, ite_false]
  rcases ho with e | e | e <;> subst e <;> simp only [cmpb]
  · by_cases h : a < b
    · simp [h, Nat.not_le.mpr h, yn]
    · simp [h, Nat.not_lt.mp h, yn]
  · by_cases h : a = b
    · simp [h, yn]
    · simp [h, yn]
  · by_cases h : b < a
    · simp [h, Nat.not_le.mpr h, yn]
    · simp [h, Nat.not_lt.mp h, yn]
theorem m_or1 {S : Sh} {I : Iw} {a b : Bool} : f_X12_did S R I (nI 20000) (yn a) (yn b) = some (yn (a || b)) := by cases a <;> cases b <;> rfl
theorem m_and1 {S : Sh} {I : Iw} {a b : Bool} : f_X12_did S R I (nI 20001) (yn a) (yn b) = some (yn (a && b)) := by cases a <;> cases b <;> rfl
theorem c20 {t : Nat} (ht : t < 2 ^ 31) : ((20000 : Int32) ≤ nI t) = (20000 ≤ t) := n_le (a := 20000) (by decide) ht
theorem c10 {t : Nat} (ht : t < 2 ^ 31) : ((10000 : Int32) ≤ nI t) = (10000 ≤ t) := n_le (a := 10000) (by decide) ht
theorem gp1q {α : Type} (x : Option α) : gp true x = x := id rfl
theorem rl1q {α : Type} (b : Nat) (k : Nat → Option α) : rl (some (.inl b)) k = k b := id rfl
theorem bd1q {α β : Type} (x : α) (k : α → Option β) : bd (some x) k = k x := id rfl
theorem lt1q {α β : Type} (v : α) (k : α → Option β) : lt v k = k v := id rfl
theorem so65q : sok (S0 ++ J) 65 12 34 = true := id rfl
theorem ao66q {i : Int32} : aok (S0 ++ J) 20 66 i = inb 306 i := id rfl
theorem ao77q {i : Int32} : aok (S0 ++ J) 20 77 i = inb 60 i := id rfl
theorem m_push (hR : Lay R) {I : Iw} (hM : MR I 66 D) (hV : VD D) {g t n p to f : Nat} (hg : g < d_n D) (ht : t < 10005) (hn : n < 30) (hp : p < to) (hto : to ≤ 200) (ht2 : I 66 (106 + p) = nI t) :
    f_X12_holds_13 (S0 ++ J) R (f + 1) I 65 (nI to) (nI g) (nI n) (nI p) = f_X12_holds_13 (S0 ++ J) R f (up2 I 77 n (nI (tokv D g t))) 65 (nI to) (nI g) (nI (n + 1)) (nI (p + 1)) := by
  have hx : (106 : Int32) + nI p = nI (106 + p) := n_add 106 p
  rw [f_X12_holds_13]
  simp only [so65q, ao66q, ly_65_0 hR, ly_65_19 hR, gp1q, rl1q, hx, n_in (show 106 + p < 306 by omega) (by decide), nI_clamp (show 106 + p < 2 ^ 31 by omega), ht2, c20 (show t < 2 ^ 31 by omega), c10 (show t < 2 ^ 31 by omega)]
  rw [if_neg (by rw [n_le (by omega) (by omega)]; omega), if_neg (by omega)]
  have en : (nI n).toNatClampNeg = n := nI_clamp (by omega)
  have ei : inb 60 (nI n) = true := inb_t (by omega) (by decide)
  have e1 : ∀ m : Nat, nI m + (1 : Int32) = nI (m + 1) := nI_1
  by_cases h : 10000 ≤ t
  · have hs : nI t - (10000 : Int32) = nI (t - 10000) := n_sub h
    rw [if_pos h, hs, m_fact hR hM hV hg h ht]
    simp only [bd1q, f_X12_holds_69, f_X12_holds_148, ao77q, ei, gp1q, lt1q, en, e1]
  · have hk : tokv D g t = t := by rw [tokv, if_pos (by omega)]
    rw [if_neg h, hk]
    simp only [f_X12_holds_69, f_X12_holds_148, ao77q, ei, gp1q, lt1q, en, e1]
theorem m_step2 (hR : Lay R) {I : Iw} {g n p to f op : Nat} {b : Bool} (hn : n < 30) (hp : p < to) (hto : to ≤ 200) (h1 : 20000 ≤ op) (h2 : op < 20005) (ht : I 66 (106 + p) = nI op) (hd : f_X12_did (S0 ++ J) R I (nI op) (I 77 n) (I 77 (n + 1)) = some (yn b)) :
    f_X12_holds_13 (S0 ++ J) R (f + 1) I 65 (nI to) (nI g) (nI (n + 2)) (nI p) = f_X12_holds_13 (S0 ++ J) R f (up2 I 77 n (yn b)) 65 (nI to) (nI g) (nI (n + 1)) (nI (p + 1)) := by
  have hx : (106 : Int32) + nI p = nI (106 + p) := n_add 106 p
  have h5 : (nI op = (20005 : Int32)) = False := by
    refine eq_false fun q => ?_
    have := (nI_eq (a := op) (b := 20005) (by omega) (by omega)).mp q
    omega
  have en : (nI n).toNatClampNeg = n := nI_clamp (by omega)
  have ei : inb 60 (nI n) = true := inb_t (by omega) (by decide)
  have en1 : (nI (n + 1)).toNatClampNeg = n + 1 := nI_clamp (by omega)
  have ei1 : inb 60 (nI (n + 1)) = true := inb_t (by omega) (by decide)
  have e1 : ∀ m : Nat, nI m + (1 : Int32) = nI (m + 1) := nI_1
  have x1 : nI (n + 2) + (-1 : Int32) = nI (n + 1) := n_dec (a := n + 2) (b := 1) (by omega)
  have x2 : nI (n + 1) - (1 : Int32) = nI n := n_pred n
  rw [f_X12_holds_13]
  simp only [so65q, ao66q, ly_65_0 hR, ly_65_19 hR, gp1q, rl1q, hx, n_in (show 106 + p < 306 by omega) (by decide), nI_clamp (show 106 + p < 2 ^ 31 by omega), ht, c20 (show op < 2 ^ 31 by omega), x1, x2]
  rw [if_neg (by rw [n_le (by omega) (by omega)]; omega), if_pos (by omega), if_neg (by rw [h5]; exact id)]
  simp only [ao77q, ei, ei1, en, en1, gp1q, hd, bd1q, f_X12_holds_147, f_X12_holds_148, lt1q, e1]
  cases b
  · rw [if_pos (by decide)]; rfl
  · rw [if_neg (by decide)]; rfl
theorem m_notstep (hR : Lay R) {I : Iw} {g n p to f : Nat} {x : Bool} (hn : n < 30) (hp : p < to) (hto : to ≤ 200) (ht : I 66 (106 + p) = nI 20005) (hd : I 77 n = yn x) :
    f_X12_holds_13 (S0 ++ J) R (f + 1) I 65 (nI to) (nI g) (nI (n + 1)) (nI p) = f_X12_holds_13 (S0 ++ J) R f (up2 I 77 n (yn (!x))) 65 (nI to) (nI g) (nI (n + 1)) (nI (p + 1)) := by
  have hx : (106 : Int32) + nI p = nI (106 + p) := n_add 106 p
  have h5 : (nI 20005 = (20005 : Int32)) = True := eq_true rfl
  have en : (nI n).toNatClampNeg = n := nI_clamp (by omega)
  have ei : inb 60 (nI n) = true := inb_t (by omega) (by decide)
  have e1 : ∀ m : Nat, nI m + (1 : Int32) = nI (m + 1) := nI_1
  have x2 : nI (n + 1) - (1 : Int32) = nI n := n_pred n
  have x3 : (1 : Int32) - yn x = yn (!x) := by cases x <;> rfl
  rw [f_X12_holds_13]
  simp only [so65q, ao66q, ly_65_0 hR, ly_65_19 hR, gp1q, rl1q, hx, n_in (show 106 + p < 306 by omega) (by decide), nI_clamp (show 106 + p < 2 ^ 31 by omega), ht, c20 (show 20005 < 2 ^ 31 by omega), x2]
  rw [if_neg (by rw [n_le (by omega) (by omega)]; omega), if_pos (by omega), if_pos (by rw [h5]; exact trivial)]
  simp only [ao77q, ei, en, gp1q, hd, x3, f_X12_holds_148, lt1q, e1]
end REFRULES
