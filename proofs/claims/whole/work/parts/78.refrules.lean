/-! THE REFERENCE'S RULES: what a good is worth by them, and its fee (the pile is cell 77) -/
def pil (I : Iw) : List Bool → Prop
  | [] => True
  | b :: t => I 77 t.length = yn b ∧ pil I t
theorem pil_up {I : Iw} {j : Nat} {v : Int32} : ∀ {st : List Bool}, st.length ≤ j → pil I st → pil (up2 I 77 j v) st
  | [], _, _ => trivial
  | b :: t, h, p => by
    have h : t.length + 1 ≤ j := h
    exact ⟨by rw [u_eq, if_neg (by omega)]; exact p.1, pil_up (by omega) p.2⟩
theorem tks_cmp {op x y : Nat} (ho : op = 20002 ∨ op = 20003 ∨ op = 20004) (cs : List (Nat × Nat × Nat)) : tks ((op, x, y) :: cs) = x :: y :: op :: tks cs := by
  rw [tks, List.flatMap_cons]
  rw [if_pos ho]; rfl
theorem tks_op {op x y : Nat} (ho : ¬ (op = 20002 ∨ op = 20003 ∨ op = 20004)) (cs : List (Nat × Nat × Nat)) : tks ((op, x, y) :: cs) = op :: tks cs := by
  rw [tks, List.flatMap_cons]
  rw [if_neg ho]; rfl
section REFRULES
variable {J : Sh} {R : Rw} {D : Dt}
theorem m_fact (hR : Lay R) {I : Iw} (hM : MR I 66 D) (hV : VD D) {g t : Nat} (hg : g < d_n D) (h1 : 10000 ≤ t) (ht : t < 10005) : f_X12_factOf (S0 ++ J) R I 65 (nI (t - 10000)) (nI g) = some (nI (tokv D g t)) := by
  have h9 := hV.1
  have c0 : I 66 0 = nI (d_ga D) := hM.1
  have c1 : I 66 1 = nI (d_da D) := hM.2.1
  have e : t = 10000 ∨ t = 10001 ∨ t = 10002 ∨ t = 10003 ∨ t = 10004 := by omega
  simp (disch := omega) only [f_X12_factOf, so_65, ao_66, ly_65_0 hR, ly_65_1 hR, ly_65_2 hR, ly_65_4 hR, ly_65_11 hR, ly_65_13 hR, ly_65_14 hR, ly_65_15 hR, ly_65_16 hR, ly_65_17 hR, ly_65_18 hR, ly_65_19 hR, ly_65_20 hR, ly_65_22 hR, ly_65_24 hR, ly_65_25 hR, ly_65_26 hR, ly_65_27 hR, ly_65_28 hR, ly_65_29 hR, ly_65_30 hR, c0, c1, m_cl hR hM hV hg, m_wo hR hM hV hg, lit, gp1, rl1, rs1, bd1, lt1, n_add, n_sub, n_dec, n_le, n_lt, n_eq, n_in, nI_clamp, n_mul, m_or, m_and, m_pow, m_bit, m_dif, n_neg, yn_0, yn_1, yn_z, yn_d, one31, Nat.add_sub_cancel, Nat.not_lt_zero, if_true, if_false, ite_true, ite_false]
  rcases e with e | e | e | e | e <;> subst e <;> rfl
theorem m_did {S : Sh} {I : Iw} {op a b : Nat} (ho : op = 20002 ∨ op = 20003 ∨ op = 20004) (ha : a < 10000) (hb : b < 10000) : f_X12_did S R I (nI op) (nI a) (nI b) = some (yn (cmpb op a b)) := by
  have ho2 : op < 30000 := by omega
  simp (disch := omega) only [f_X12_did, lit, gp1, rl1, rs1, bd1, lt1, n_add, n_sub, n_dec, n_le, n_lt, n_eq, n_in, nI_clamp, n_mul, m_or, m_and, m_pow, m_bit, m_dif, n_neg, yn_0, yn_1, yn_z, yn_d, one31, Nat.add_sub_cancel, Nat.not_lt_zero, if_true, if_false, ite_true, ite_false]
  rcases ho with e | e | e <;> subst e <;> simp only [cmpb]
  · by_cases h : a < b
    · simp [h, Nat.not_le.mpr h, yn]
    · simp [h, Nat.not_lt.mp h, yn]
  · by_cases h : a = b
    · simp [h, yn]
    · simp [h, yn]
  · by_cases h : b < a
    · simp [h, Nat.not_le.mpr h, yn]
    · simp [h, Nat.not_lt.mp h, yn]
theorem m_or1 {S : Sh} {I : Iw} {a b : Bool} : f_X12_did S R I (nI 20000) (yn a) (yn b) = some (yn (a || b)) := by cases a <;> cases b <;> rfl
theorem m_and1 {S : Sh} {I : Iw} {a b : Bool} : f_X12_did S R I (nI 20001) (yn a) (yn b) = some (yn (a && b)) := by cases a <;> cases b <;> rfl
theorem c20 {t : Nat} (ht : t < 2 ^ 31) : ((20000 : Int32) ≤ nI t) = (20000 ≤ t) := n_le (a := 20000) (by decide) ht
theorem c10 {t : Nat} (ht : t < 2 ^ 31) : ((10000 : Int32) ≤ nI t) = (10000 ≤ t) := n_le (a := 10000) (by decide) ht
theorem gp1q {α : Type} (x : Option α) : gp true x = x := id rfl
theorem rl1q {α : Type} (b : Nat) (k : Nat → Option α) : rl (some (.inl b)) k = k b := id rfl
theorem bd1q {α β : Type} (x : α) (k : α → Option β) : bd (some x) k = k x := id rfl
theorem lt1q {α β : Type} (v : α) (k : α → Option β) : lt v k = k v := id rfl
theorem so65q : sok (S0 ++ J) 65 12 34 = true := id rfl
theorem ao66q {i : Int32} : aok (S0 ++ J) 20 66 i = inb 306 i := id rfl
theorem ao77q {i : Int32} : aok (S0 ++ J) 20 77 i = inb 60 i := id rfl
theorem m_push (hR : Lay R) {I : Iw} (hM : MR I 66 D) (hV : VD D) {g t n p to f : Nat} (hg : g < d_n D) (ht : t < 10005) (hn : n < 30) (hp : p < to) (hto : to ≤ 200) (ht2 : I 66 (106 + p) = nI t) :
    f_X12_holds_13 (S0 ++ J) R (f + 1) I 65 (nI to) (nI g) (nI n) (nI p) = f_X12_holds_13 (S0 ++ J) R f (up2 I 77 n (nI (tokv D g t))) 65 (nI to) (nI g) (nI (n + 1)) (nI (p + 1)) := by
  have hx : (106 : Int32) + nI p = nI (106 + p) := n_add 106 p
  rw [f_X12_holds_13]
  simp only [so65q, ao66q, ly_65_0 hR, ly_65_19 hR, gp1q, rl1q, hx, n_in (show 106 + p < 306 by omega) (by decide), nI_clamp (show 106 + p < 2 ^ 31 by omega), ht2, c20 (show t < 2 ^ 31 by omega), c10 (show t < 2 ^ 31 by omega)]
  rw [if_neg (by rw [n_le (by omega) (by omega)]; omega), if_neg (by omega)]
  have en : (nI n).toNatClampNeg = n := nI_clamp (by omega)
  have ei : inb 60 (nI n) = true := inb_t (by omega) (by decide)
  have e1 : ∀ m : Nat, nI m + (1 : Int32) = nI (m + 1) := nI_1
  by_cases h : 10000 ≤ t
  · have hs : nI t - (10000 : Int32) = nI (t - 10000) := n_sub h
    rw [if_pos h, hs, m_fact hR hM hV hg h ht]
    simp only [bd1q, f_X12_holds_69, f_X12_holds_148, ao77q, ei, gp1q, lt1q, en, e1]
  · have hk : tokv D g t = t := by rw [tokv, if_pos (by omega)]
    rw [if_neg h, hk]
    simp only [f_X12_holds_69, f_X12_holds_148, ao77q, ei, gp1q, lt1q, en, e1]
theorem m_step2 (hR : Lay R) {I : Iw} {g n p to f op : Nat} {b : Bool} (hn : n < 30) (hp : p < to) (hto : to ≤ 200) (h1 : 20000 ≤ op) (h2 : op < 20005) (ht : I 66 (106 + p) = nI op) (hd : f_X12_did (S0 ++ J) R I (nI op) (I 77 n) (I 77 (n + 1)) = some (yn b)) :
    f_X12_holds_13 (S0 ++ J) R (f + 1) I 65 (nI to) (nI g) (nI (n + 2)) (nI p) = f_X12_holds_13 (S0 ++ J) R f (up2 I 77 n (yn b)) 65 (nI to) (nI g) (nI (n + 1)) (nI (p + 1)) := by
  have hx : (106 : Int32) + nI p = nI (106 + p) := n_add 106 p
  have h5 : (nI op = (20005 : Int32)) = False := by
    refine eq_false fun q => ?_
    have := (nI_eq (a := op) (b := 20005) (by omega) (by omega)).mp q
    omega
  have en : (nI n).toNatClampNeg = n := nI_clamp (by omega)
  have ei : inb 60 (nI n) = true := inb_t (by omega) (by decide)
  have en1 : (nI (n + 1)).toNatClampNeg = n + 1 := nI_clamp (by omega)
  have ei1 : inb 60 (nI (n + 1)) = true := inb_t (by omega) (by decide)
  have e1 : ∀ m : Nat, nI m + (1 : Int32) = nI (m + 1) := nI_1
  have x1 : nI (n + 2) + (-1 : Int32) = nI (n + 1) := n_dec (a := n + 2) (b := 1) (by omega)
  have x2 : nI (n + 1) - (1 : Int32) = nI n := n_pred n
  rw [f_X12_holds_13]
  simp only [so65q, ao66q, ly_65_0 hR, ly_65_19 hR, gp1q, rl1q, hx, n_in (show 106 + p < 306 by omega) (by decide), nI_clamp (show 106 + p < 2 ^ 31 by omega), ht, c20 (show op < 2 ^ 31 by omega), x1, x2]
  rw [if_neg (by rw [n_le (by omega) (by omega)]; omega), if_pos (by omega), if_neg (by rw [h5]; exact id)]
  simp only [ao77q, ei, ei1, en, en1, gp1q, hd, bd1q, f_X12_holds_147, f_X12_holds_148, lt1q, e1]
  cases b
  · rw [if_pos (by decide)]; rfl
  · rw [if_neg (by decide)]; rfl
theorem m_notstep (hR : Lay R) {I : Iw} {g n p to f : Nat} {x : Bool} (hn : n < 30) (hp : p < to) (hto : to ≤ 200) (ht : I 66 (106 + p) = nI 20005) (hd : I 77 n = yn x) :
    f_X12_holds_13 (S0 ++ J) R (f + 1) I 65 (nI to) (nI g) (nI (n + 1)) (nI p) = f_X12_holds_13 (S0 ++ J) R f (up2 I 77 n (yn (!x))) 65 (nI to) (nI g) (nI (n + 1)) (nI (p + 1)) := by
  have hx : (106 : Int32) + nI p = nI (106 + p) := n_add 106 p
  have h5 : (nI 20005 = (20005 : Int32)) = True := eq_true rfl
  have en : (nI n).toNatClampNeg = n := nI_clamp (by omega)
  have ei : inb 60 (nI n) = true := inb_t (by omega) (by decide)
  have e1 : ∀ m : Nat, nI m + (1 : Int32) = nI (m + 1) := nI_1
  have x2 : nI (n + 1) - (1 : Int32) = nI n := n_pred n
  have x3 : (1 : Int32) - yn x = yn (!x) := by cases x <;> rfl
  rw [f_X12_holds_13]
  simp only [so65q, ao66q, ly_65_0 hR, ly_65_19 hR, gp1q, rl1q, hx, n_in (show 106 + p < 306 by omega) (by decide), nI_clamp (show 106 + p < 2 ^ 31 by omega), ht, c20 (show 20005 < 2 ^ 31 by omega), x2]
  rw [if_neg (by rw [n_le (by omega) (by omega)]; omega), if_pos (by omega), if_pos (by rw [h5]; exact trivial)]
  simp only [ao77q, ei, en, gp1q, hd, x3, f_X12_holds_148, lt1q, e1]
theorem m_holds13 (hR : Lay R) (hV : VD D) {g : Nat} (hg : g < d_n D) {to : Nat} (hto : to ≤ 200) : ∀ (cs : List (Nat × Nat × Nat)) (st : List Bool) (p f : Nat) (I : Iw), MR I 66 D → pil I st → st.length ≤ 20 → cs.foldl hgt (some st.length) = some 1 → p + (tks cs).length = to → (∀ i t, (tks cs)[i]? = some t → I 66 (106 + (p + i)) = nI t) → (tks cs).length < f →
    ∃ I', f_X12_holds_13 (S0 ++ J) R f I 65 (nI to) (nI g) (nI st.length) (nI p) = some (I', yn ((cs.foldl (evb D g) st).headD true)) ∧ ∀ a j, a ≠ 77 → I' a j = I a j := by
  intro cs
  induction cs with
  | nil =>
    intro st p f I hM hP hs hh hp ht hf
    obtain ⟨f, rfl⟩ := Nat.exists_eq_succ_of_ne_zero (n := f) (by omega)
    have h1 : st.length = 1 := by simpa using hh
    obtain ⟨b, rfl⟩ : ∃ b, st = [b] := by
      rcases st with _ | ⟨b, _ | ⟨c, t⟩⟩ <;> simp at h1 ⊢
    have c0 : I 77 0 = yn b := hP.1
    have hp : p = to := by simpa [tks] using hp
    have ei : inb 60 (0 : Int32) = true := by decide
    have en : (0 : Int32).toNatClampNeg = 0 := by decide
    rw [f_X12_holds_13]
    refine ⟨I, ?_, fun _ _ _ => rfl⟩
    rw [if_pos (by rw [n_le (by omega) (by omega)]; omega)]
    simp only [so65q, ly_65_19 hR, gp1q, rl1q, ao77q, ei, en, c0]
    cases b <;> rfl
  | cons c cs ih =>
    intro st p f I hM hP hs hh hp ht hf
    obtain ⟨op, x, y⟩ := c
    rw [List.foldl_cons] at hh
    rw [List.foldl_cons]
    by_cases o3 : op = 20002 ∨ op = 20003 ∨ op = 20004
    · have hne : hgt (some st.length) (op, x, y) = if st.length < 20 ∧ x < 10005 ∧ y < 10005 then some (st.length + 1) else none := by
        rw [hgt]
        simp only
        rw [if_neg (by omega), if_neg (by omega), if_pos o3]
      by_cases h3 : st.length < 20 ∧ x < 10005 ∧ y < 10005
      · rw [hne, if_pos h3] at hh
        rw [tks_cmp o3] at hp ht hf
        simp only [List.length_cons] at hp hf
        have t0 := ht 0 x rfl
        have t1 := ht 1 y rfl
        have t2 := ht 2 op rfl
        obtain ⟨f, rfl⟩ : ∃ f', f = f' + 3 := ⟨f - 3, by omega⟩
        have ta := tokv_lt hV (t := x) hg
        have tb := tokv_lt hV (t := y) hg
        have hM1 : ∀ v, MR (up2 I 77 st.length v) 66 D := fun v => MR_fr (fun j => by rw [u_eq, if_neg (by omega)]) hM
        have he : evb D g st (op, x, y) = cmpb op (tokv D g x) (tokv D g y) :: st := by
          unfold evb
          simp only
          rw [if_neg (by omega), if_neg (by omega), if_neg (by omega)]
        rw [he]
        rw [m_push hR hM hV hg h3.2.1 (by omega) (by omega) hto (by rw [← t0]; rfl), m_push hR (hM1 _) hV hg h3.2.2 (by omega) (by omega) hto (by rw [u_eq, if_neg (by omega), ← t1])]
        rw [m_step2 (n := st.length) (op := op) (b := cmpb op (tokv D g x) (tokv D g y)) hR (by omega) (by omega) hto (by omega) (by omega) (by rw [u_eq, if_neg (by omega), u_eq, if_neg (by omega), ← t2])
          (by rw [u_eq, if_neg (by omega), u_eq, if_pos ⟨rfl, rfl⟩, u_eq, if_pos ⟨rfl, rfl⟩]; exact m_did o3 ta tb)]
        obtain ⟨I', e1, e2⟩ := ih (cmpb op (tokv D g x) (tokv D g y) :: st) (p + 1 + 1 + 1) f (up2 (up2 (up2 I 77 st.length (nI (tokv D g x))) 77 (st.length + 1) (nI (tokv D g y))) 77 st.length (yn (cmpb op (tokv D g x) (tokv D g y))))
          (MR_fr (fun j => by rw [u_eq, if_neg (by omega), u_eq, if_neg (by omega), u_eq, if_neg (by omega)]) hM)
          ⟨by rw [u_eq, if_pos ⟨rfl, rfl⟩], pil_up (Nat.le_refl _) (pil_up (by omega) (pil_up (Nat.le_refl _) hP))⟩ (by simp; omega) hh (by omega)
          (fun i t h => by
            rw [u_eq, if_neg (by omega), u_eq, if_neg (by omega), u_eq, if_neg (by omega)]
            have := ht (i + 3) t h
            rw [← this]; congr 1; omega) (by omega)
        exact ⟨I', e1, fun a j h => by rw [e2 a j h, u_eq, if_neg (by omega), u_eq, if_neg (by omega), u_eq, if_neg (by omega)]⟩
      · rw [hne, if_neg h3, hgt_none] at hh; cases hh
    · rw [tks_op o3] at hp ht hf
      simp only [List.length_cons] at hp hf
      have t0 : I 66 (106 + p) = nI op := ht 0 op rfl
      obtain ⟨f, rfl⟩ : ∃ f', f = f' + 1 := ⟨f - 1, by omega⟩
      have nx : ∀ (I2 : Iw), (∀ a j, a ≠ 77 → I2 a j = I a j) → ∀ i t, (tks cs)[i]? = some t → I2 66 (106 + (p + 1 + i)) = nI t := fun I2 h i t q => by
        rw [h 66 _ (by decide)]
        have := ht (i + 1) t q
        rw [← this]; congr 1; omega
      have fr : ∀ (n : Nat) (v : Int32), ∀ a j, a ≠ 77 → up2 I 77 n v a j = I a j := fun n v a j h => by rw [u_eq, if_neg (by omega)]
      by_cases o1 : op = 20005
      · subst o1
        rcases st with _ | ⟨b, t⟩
        · rw [show hgt (some ([] : List Bool).length) (20005, x, y) = none from rfl, hgt_none] at hh; cases hh
        · have hh2 : cs.foldl hgt (some ((!b) :: t).length) = some 1 := hh
          have hs2 : t.length ≤ 20 := by simp at hs; omega
          obtain ⟨I', e1, e2⟩ := ih ((!b) :: t) (p + 1) f (up2 I 77 t.length (yn (!b))) (MR_fr (fun j => fr _ _ 66 j (by decide)) hM) ⟨by rw [u_eq, if_pos ⟨rfl, rfl⟩], pil_up (Nat.le_refl _) hP.2⟩ hs hh2 (by omega) (nx _ (fr _ _)) (by omega)
          refine ⟨I', ?_, fun a j h => by rw [e2 a j h, fr _ _ a j h]⟩
          rw [List.length_cons, m_notstep hR (by omega) (by omega) hto t0 hP.1]
          exact e1
      · by_cases o2 : op = 20000 ∨ op = 20001
        · have hne : hgt (some st.length) (op, x, y) = if 2 ≤ st.length then some (st.length - 1) else none := by
            rw [hgt]
            simp only
            rw [if_neg o1, if_pos o2]
          by_cases h2 : 2 ≤ st.length
          · rw [hne, if_pos h2] at hh
            obtain ⟨b, a, t, rfl⟩ : ∃ b a t, st = b :: a :: t := by
              rcases st with _ | ⟨b, _ | ⟨a, t⟩⟩ <;> simp at h2 ⊢
            have hs2 : t.length + 1 ≤ 20 := by simp at hs; omega
            have key : ∀ v, evb D g (b :: a :: t) (op, x, y) = v :: t → f_X12_did (S0 ++ J) R I (nI op) (I 77 t.length) (I 77 (t.length + 1)) = some (yn v) → ∃ I', f_X12_holds_13 (S0 ++ J) R (f + 1) I 65 (nI to) (nI g) (nI (b :: a :: t).length) (nI p) = some (I', yn ((cs.foldl (evb D g) (evb D g (b :: a :: t) (op, x, y))).headD true)) ∧ ∀ a j, a ≠ 77 → I' a j = I a j := by
              intro v he hd
              obtain ⟨I', e1, e2⟩ := ih (v :: t) (p + 1) f (up2 I 77 t.length (yn v)) (MR_fr (fun j => fr _ _ 66 j (by decide)) hM) ⟨by rw [u_eq, if_pos ⟨rfl, rfl⟩], pil_up (Nat.le_refl _) hP.2.2⟩ (by simpa using hs2) hh (by omega) (nx _ (fr _ _)) (by omega)
              refine ⟨I', ?_, fun a j h => by rw [e2 a j h, fr _ _ a j h]⟩
              rw [he, List.length_cons, List.length_cons, m_step2 (b := v) hR (by omega) (by omega) hto (by omega) (by omega) t0 hd]
              exact e1
            have p1 : I 77 (t.length + 1) = yn b := hP.1
            have p2 : I 77 t.length = yn a := hP.2.1
            rcases o2 with o2 | o2 <;> subst o2
            · exact key (a || b) rfl (by rw [p1, p2]; exact m_or1)
            · exact key (a && b) rfl (by rw [p1, p2]; exact m_and1)
          · rw [hne, if_neg h2, hgt_none] at hh; cases hh
        · have hne : hgt (some st.length) (op, x, y) = none := by
            rw [hgt]
            simp only
            rw [if_neg o1, if_neg o2, if_neg o3]
          rw [hne, hgt_none] at hh; cases hh
theorem tk_mono (D : Dt) : ∀ a b, a ≤ b → tkA D a ≤ tkA D b := by
  intro a b h
  induction b with
  | zero => rw [Nat.le_zero.mp h]; exact Nat.le_refl _
  | succ b ih =>
    by_cases e : a = b + 1
    · subst e; exact Nat.le_refl _
    · exact Nat.le_trans (ih (by omega)) (Nat.le_add_right _ _)
theorem m_holds (hR : Lay R) {I : Iw} (hM : MR I 66 D) (hV : VD D) {g r : Nat} (hg : g < d_n D) (hr : r < d_nr D) :
    ∃ I', f_X12_holds (S0 ++ J) R I 65 (nI (tkA D r)) (nI (tkA D (r + 1))) (nI g) = some (I', yn (cond D g (d_rc D r))) ∧ ∀ a j, a ≠ 77 → I' a j = I a j := by
  have v7 := hV.2.2.2.2.2.2.1
  have hm := tk_mono D (r + 1) (d_nr D) hr
  have hs : tkA D (r + 1) = tkA D r + (tks (d_rr D r)).length := rfl
  have htk := (hM.2.2.2.2.2.2.2.2.2.2.2.1 r hr).2.2.2
  have ei : inb 60 (0 : Int32) = true := by decide
  have en : (0 : Int32).toNatClampNeg = 0 := by decide
  have main : ∃ I', f_X12_holds_13 (S0 ++ J) R 512 (up2 I 77 0 1) 65 (nI (tkA D (r + 1))) (nI g) 0 (nI (tkA D r)) = some (I', yn (cond D g (d_rr D r))) ∧ ∀ a j, a ≠ 77 → I' a j = up2 I 77 0 1 a j := by
    rcases (v7.2.2.2 r hr).2.2.2.2.1 with e | e
    · have hz : tkA D (r + 1) = tkA D r := by rw [hs, e]; rfl
      refine ⟨up2 I 77 0 1, ?_, fun _ _ _ => rfl⟩
      rw [e, hz, f_X12_holds_13]
      rw [if_pos (Int32.le_refl _)]
      simp only [so65q, ly_65_19 hR, gp1q, rl1q, ao77q, ei, en]
      rfl
    · exact m_holds13 hR hV hg (to := tkA D (r + 1)) (by omega) (d_rr D r) [] (tkA D r) 512 (up2 I 77 0 1) (MR_fr (fun j => by rw [u_eq, if_neg (by omega)]) hM) trivial (by decide) e hs.symm
        (fun i t h => by rw [u_eq, if_neg (by omega)]; exact htk i t h) (by omega)
  obtain ⟨I', e1, e2⟩ := main
  rw [(v7.2.2.2 r hr).2.2.2.2.2 D g] at e1
  refine ⟨I', ?_, fun a j h => by rw [e2 a j h, u_eq, if_neg (by omega)]⟩
  rw [f_X12_holds]
  simp only [so65q, ly_65_19 hR, gp1q, rl1q, ao77q, ei, en, lt1q]
  exact e1
end REFRULES
