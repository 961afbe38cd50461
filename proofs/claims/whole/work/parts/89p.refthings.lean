/-! THINGS: the reference's bodies -/
def own (k a : Nat) : Nat := if a = 0 then (if k = 1 then 1 else if k = 3 then 3 else 0) else if a = 1 then (if k = 2 then 2 else if k = 3 then 2 else if k = 5 then 5 else 0) else if a = 2 then (if k = 4 then 4 else if k = 5 then 5 else 0) else (if k = 3 then 3 else 0)
/-- the reference's thing: its good n, trace so far, parted -/
def TM (I : Iw) (D : Dt) (n : Nat) (t : List Nat) (p : Bool) : Prop := MR I 66 D ∧ I 65 32 = nI n ∧ I 65 31 = nI t.length ∧ I 65 33 = yn p ∧ ∀ i b, t[i]? = some b → I 86 i = nI b
def frm (I I' : Iw) : Prop := ∀ a j, a ≠ 86 → ¬ (a = 65 ∧ (j = 31 ∨ j = 33)) → I' a j = I a j
def OM (f : Option (Iw × Int32)) (I : Iw) (D : Dt) (n : Nat) (t : List Nat) (p : Bool) (v : Int32) : Prop := ∃ I', f = some (I', v) ∧ TM I' D n t p ∧ frm I I'
theorem frm_t {I I' I'' : Iw} (h : frm I I') (h2 : frm I' I'') : frm I I'' := fun a j a1 a2 => (h2 a j a1 a2).trans (h a j a1 a2)
section THM
variable {J : Sh} {R : Rw} {D : Dt} {n : Nat}
theorem r_own {S : Sh} {I : Iw} {k a : Nat} (hk : k ≤ 5) (ha : a ≤ 3) : f_X12_hasOwn S R I (nI k) (nI a) = some (yn (decide (own k a = k))) := by
  rcases (by omega : k = 0 ∨ k = 1 ∨ k = 2 ∨ k = 3 ∨ k = 4 ∨ k = 5) with e | e | e | e | e | e <;> subst e <;> rcases (by omega : a = 0 ∨ a = 1 ∨ a = 2 ∨ a = 3) with e | e | e | e <;> subst e <;> rfl
def abv (k : Nat) : Nat := if k = 3 then 2 else if k = 5 then 4 else 0
theorem r_above {S : Sh} {I : Iw} {k : Nat} (hk : k ≤ 5) (h0 : k ≠ 0) : f_X12_above S R I (nI k) = some (nI (abv k)) := by
  rcases (by omega : k = 1 ∨ k = 2 ∨ k = 3 ∨ k = 4 ∨ k = 5) with e | e | e | e | e <;> subst e <;> rfl
theorem own_above {k a : Nat} (hk : k ≤ 5) (ha : a ≤ 3) (h : own k a ≠ k) : own (abv k) a = own k a ∧ k ≠ 0 ∧ abv k < k := by
  rcases (by omega : k = 0 ∨ k = 1 ∨ k = 2 ∨ k = 3 ∨ k = 4 ∨ k = 5) with e | e | e | e | e | e <;> subst e <;> rcases (by omega : a = 0 ∨ a = 1 ∨ a = 2 ∨ a = 3) with e | e | e | e <;> subst e <;> first | exact absurd rfl h | exact ⟨rfl, by decide, by decide⟩
theorem r_bf3 (g : Sh → Rw → Iw → Nat → Int32 → Int32 → Int32 → Option (Iw × Int32)) {I : Iw} {a : Nat} (ha : a ≤ 3) {p : Bool} (h33 : I 65 33 = yn p) (x : Int32) : ∀ (k f : Nat), k ≤ 5 → k < f →
    f_X12_bodyFrom_3 g (S0 ++ J) R f I 65 (nI a) x (nI k) = if p then some (I, 0) else bd (g (S0 ++ J) R I 65 (nI (own k a)) (nI a) x) (fun r => some (r.1, r.2)) := by
  intro k
  induction k using Nat.strongRecOn with
  | ind k ih =>
    intro f hk hf
    obtain ⟨f, rfl⟩ := Nat.exists_eq_succ_of_ne_zero (n := f) (by omega)
    rw [f_X12_bodyFrom_3, r_own hk ha, bd1]
    by_cases h : own k a = k
    · rw [decide_eq_true h, if_neg (by decide), so65q, gp1q, h33, h]
      cases p
      · rw [if_pos (by rfl), if_neg (by decide)]
      · rw [if_neg (by decide), if_pos rfl]
    · obtain ⟨h1, h2, h3⟩ := own_above hk ha h
      rw [decide_eq_false h, if_pos (by rfl), r_above hk h2, bd1, ih (abv k) h3 f (by omega) (by omega), h1]
theorem r_bf (g : Sh → Rw → Iw → Nat → Int32 → Int32 → Int32 → Option (Iw × Int32)) {I : Iw} {a k : Nat} (hk : k ≤ 5) (ha : a ≤ 3) {p : Bool} (h33 : I 65 33 = yn p) (x : Int32) :
    f_X12_bodyFrom g (S0 ++ J) R I 65 (nI k) (nI a) x = if p then some (I, 0) else bd (g (S0 ++ J) R I 65 (nI (own k a)) (nI a) x) (fun r => some (r.1, r.2)) := by
  rw [f_X12_bodyFrom]
  exact r_bf3 g ha h33 x k 512 hk (by omega)
theorem r_vo (hR : Lay R) (hV : VD D) (hn : n < d_n D) (g : Sh → Rw → Iw → Nat → Int32 → Int32 → Int32 → Option (Iw × Int32)) {I : Iw} {t : List Nat} {p : Bool} (hT : TM I D n t p) {a : Nat} (ha : a ≤ 3) (x : Int32) :
    f_X12_voiced g (S0 ++ J) R I 65 (nI a) x = if p then some (I, 0) else bd (g (S0 ++ J) R I 65 (nI (own (d_kd D n) a)) (nI a) x) (fun r => some (r.1, r.2)) := by
  have vk := hV.2.2.2.2.1 n hn
  rw [f_X12_voiced, f_X12_kindOf, so65q, gp1q, gp1q, hT.2.1]
  rw [show f_X12_goodIs (S0 ++ J) R I 65 (nI n) 0 = some (nI (d_kd D n)) from m_kd hR hT.1 hV hn, bd1, bd1, r_bf g vk.2.1 ha hT.2.2.2.1 x]
  cases p
  · rw [if_neg (by decide)]
    cases g (S0 ++ J) R I 65 (nI (own (d_kd D n) a)) (nI a) x <;> rfl
  · rw [if_pos rfl]; rfl
theorem r_began (hR : Lay R) {I : Iw} {t : List Nat} {p : Bool} (hT : TM I D n t p) (ht : t.length < 30) {v : Int32} {b : Nat} (hv : v = nI b) : ∃ I', f_X12_began (S0 ++ J) R I 65 v = some I' ∧ TM I' D n (t ++ [b]) p ∧ frm I I' := by
  obtain ⟨t0, t1, t3, t4, t5⟩ := hT
  subst hv
  refine ⟨up2 (up2 I 86 t.length (nI b)) 65 31 (nI (t.length + 1)), ?_, ⟨MR_fr (fun j => by rw [u_eq, if_neg (by omega), u_eq, if_neg (by omega)]) t0, ?_, ?_, ?_, fun i c hc => ?_⟩, fun a j a1 a2 => by rw [u_eq, if_neg (by omega), u_eq, if_neg (by omega)]⟩
  · rw [f_X12_began]
    simp (disch := omega) only [so_65, ly_65_0 hR, ly_65_1 hR, ly_65_2 hR, ly_65_4 hR, ly_65_11 hR, ly_65_13 hR, ly_65_14 hR, ly_65_15 hR, ly_65_16 hR, ly_65_17 hR, ly_65_18 hR, ly_65_19 hR, ly_65_20 hR, ly_65_22 hR, ly_65_24 hR, ly_65_25 hR, ly_65_26 hR, ly_65_27 hR, ly_65_28 hR, ly_65_29 hR, ly_65_30 hR, ao_86, t3, u_eq, Nat.reduceEqDiff, false_and, and_false, true_and, and_true, and_self, not_false_eq_true, lit, gp1, rl1, rs1, bd1, lt1, n_add, n_sub, n_dec, n_le, n_lt, n_eq, n_in, nI_clamp, n_mul, m_or, m_and, m_pow, m_bit, m_dif, n_neg, yn_0, yn_1, yn_z, yn_d, one31, Nat.add_sub_cancel, Nat.not_lt_zero, if_true, if_false, ite_true, ite_false, Bool.true_eq_false, Bool.false_eq_true, Nat.add_zero, Nat.zero_add]
    rw [if_neg (by omega)]
  · rw [u_eq, if_neg (by omega), u_eq, if_neg (by omega)]; exact t1
  · rw [u_eq, if_pos ⟨rfl, rfl⟩, List.length_append]; rfl
  · rw [u_eq, if_neg (by omega), u_eq, if_neg (by omega)]; exact t4
  · rw [u_eq, if_neg (by omega), u_eq]
    rcases get_snoc hc with ⟨z1, z2⟩ | ⟨z1, z2⟩
    · rw [if_neg (by omega)]; exact t5 i c z2
    · rw [if_pos ⟨rfl, z1⟩, z2]
theorem r_cl (hR : Lay R) (hV : VD D) (hn : n < d_n D) {I : Iw} {t : List Nat} {p : Bool} (hT : TM I D n t p) : f_X12_goodIs (S0 ++ J) R I 65 (I 65 32) 2 = some (nI (d_cl D n)) := by
  rw [hT.2.1]
  exact m_cl hR hT.1 hV hn
-- the bodies, one by one: 4 * kind + act
theorem r_b0 (hR : Lay R) (hV : VD D) (hn : n < d_n D) (m : Nat) {I : Iw} {t : List Nat} {p : Bool} (hT : TM I D n t p) (ht : t.length < 30) (x : Int32) : OM (f_X12_body (m + 1) (S0 ++ J) R I 65 (nI 0) (nI 0) x) I D n (t ++ [10]) p (x - nI n) := by
  obtain ⟨I1, e1, e2, e3⟩ := r_began (J := J) hR hT ht (v := 10) (b := 10) rfl
  refine ⟨I1, ?_, e2, e3⟩
  rw [f_X12_body, f_X12_body_b, so65q, gp1q, r_cl hR hV hn hT, bd1, if_pos (by rfl), e1, bd1, hT.2.1]
/-- a body's number from kind and act -/
theorem r_no {k a : Nat} (hk : k ≤ 5) (ha : a ≤ 3) : (4 : Int32) * nI k + nI a = nI (4 * k + a) := by rw [litq, n_mul, n_add]
theorem r_eq {a b : Nat} (ha : a < 100) (hb : b < 100) : (nI a = (OfNat.ofNat b : Int32)) = (a = b) := n_eq (by omega) (b := b) (by omega)
theorem r_w (hR : Lay R) (hV : VD D) (hn : n < d_n D) (m : Nat) {k : Nat} (hk : k ≤ 5) {I : Iw} {t : List Nat} (hT : TM I D n t false) (ht : t.length < 26) (x : Int32) : OM (f_X12_body (m + 2) (S0 ++ J) R I 65 (nI (own k 0)) (nI 0) x) I D n (t ++ sWt k) false (sWv k (nI n) (nI (d_cl D n)) x) := by
  have one : ∀ (k0 b : Nat) (v : Int32), v = nI b → (k0 = 0 ∨ k0 = 2) → ∀ y, ∃ I1 I2, f_X12_began (S0 ++ J) R I 65 v = some I1 ∧ f_X12_bodyFrom (f_X12_body (m + 1)) (S0 ++ J) R I1 65 (nI k0) (nI 0) y = some (I2, y - nI n) ∧ TM I2 D n (t ++ [b, 10]) false ∧ frm I I2 := by
    intro k0 b v hv hk0 y
    obtain ⟨I1, e1, e2, e3⟩ := r_began (J := J) hR hT (by omega) hv
    obtain ⟨I2, g1, g2, g3⟩ := r_b0 (J := J) hR hV hn m e2 (by simp; omega) y
    rw [List.append_assoc] at g2
    refine ⟨I1, I2, e1, ?_, g2, frm_t e3 g3⟩
    rw [r_bf (f_X12_body (m + 1)) (by omega) (by decide) e2.2.2.2.1 y, if_neg (by decide), show own k0 0 = 0 by rcases hk0 with e | e <;> subst e <;> rfl, g1, bd1]
  by_cases k1 : k = 1
  · subst k1
    obtain ⟨I1, I2, e1, e2, e3, e4⟩ := one 0 20 20 rfl (Or.inl rfl) x
    refine ⟨I2, ?_, e3, e4⟩
    show f_X12_body (m + 2) (S0 ++ J) R I 65 (nI 1) (nI 0) x = _
    rw [f_X12_body, f_X12_body_b, so65q, gp1q, r_cl hR hV hn hT, bd1, r_no (by decide) (by decide)]
    rw [if_neg (by decide), if_neg (by decide), if_neg (by decide), if_neg (by decide), if_pos (by decide), e1, bd1]
    rw [show f_X12_bodyFrom (f_X12_body (m + 1)) (S0 ++ J) R I1 65 0 0 x = some (I2, x - nI n) from e2, bd1]; rfl
  · by_cases k3 : k = 3
    · subst k3
      obtain ⟨I1, I2, e1, e2, e3, e4⟩ := one 2 50 50 rfl (Or.inr rfl) x
      refine ⟨I2, ?_, e3, e4⟩
      show f_X12_body (m + 2) (S0 ++ J) R I 65 (nI 3) (nI 0) x = _
      rw [f_X12_body, f_X12_body_b, so65q, gp1q, r_cl hR hV hn hT, bd1, r_no (by decide) (by decide)]
      rw [if_neg (by decide), if_neg (by decide), if_neg (by decide), if_neg (by decide), if_neg (by decide), if_neg (by decide), if_neg (by decide), if_neg (by decide), if_neg (by decide), if_neg (by decide), if_neg (by decide), if_neg (by decide), if_pos (by decide), e1, bd1]
      rw [show f_X12_bodyFrom (f_X12_body (m + 1)) (S0 ++ J) R I1 65 2 0 x = some (I2, x - nI n) from e2, bd1]; rfl
    · have ho : own k 0 = 0 := by rcases (by omega : k = 0 ∨ k = 2 ∨ k = 4 ∨ k = 5) with e | e | e | e <;> subst e <;> rfl
      rw [ho, sWt, if_neg k1, if_neg k3, sWv, if_neg k1, if_neg k3]
      exact r_b0 (J := J) hR hV hn (m + 1) hT (by omega) x
theorem r_t0 (hR : Lay R) (hV : VD D) (hn : n < d_n D) (m : Nat) {I : Iw} {t : List Nat} (hT : TM I D n t false) (ht : t.length < 25) (x : Int32) : OM (f_X12_body (m + 3) (S0 ++ J) R I 65 (nI 0) (nI 1) x) I D n (t ++ 11 :: sWt (d_kd D n)) false (sWv (d_kd D n) (nI n) (nI (d_cl D n)) x * 3) := by
  have vk := hV.2.2.2.2.1 n hn
  obtain ⟨I1, e1, e2, e3⟩ := r_began (J := J) hR hT (by omega) (v := 11) (b := 11) rfl
  obtain ⟨I2, g1, g2, g3⟩ := r_w (J := J) hR hV hn m vk.2.1 e2 (by simp; omega) x
  rw [List.append_assoc] at g2
  refine ⟨I2, ?_, g2, frm_t e3 g3⟩
  have hv := r_vo (J := J) hR hV hn (f_X12_body (m + 2)) e2 (a := 0) (by decide) x
  rw [if_neg (by decide), g1, bd1] at hv
  rw [f_X12_body, f_X12_body_b, so65q, gp1q, r_cl hR hV hn hT, bd1, r_no (by decide) (by decide)]
  rw [if_neg (by decide), if_pos (by decide), e1, bd1]
  rw [show f_X12_voiced (f_X12_body (m + 2)) (S0 ++ J) R I1 65 0 x = _ from hv, bd1]
theorem r_t (hR : Lay R) (hV : VD D) (hn : n < d_n D) (m : Nat) {I : Iw} {t : List Nat} (hT : TM I D n t false) (ht : t.length < 24) (x : Int32) : OM (f_X12_body (m + 4) (S0 ++ J) R I 65 (nI (own (d_kd D n) 1)) (nI 1) x) I D n (t ++ sTt (d_kd D n)) false (sTv (d_kd D n) (nI n) (nI (d_cl D n)) x) := by
  have vk := hV.2.2.2.2.1 n hn
  have one : ∀ (k0 b : Nat) (v : Int32), v = nI b → (k0 = 0 ∨ k0 = 4) → ∃ I1 I2, f_X12_began (S0 ++ J) R I 65 v = some I1 ∧ f_X12_bodyFrom (f_X12_body (m + 3)) (S0 ++ J) R I1 65 (nI k0) (nI 1) x = some (I2, sWv (d_kd D n) (nI n) (nI (d_cl D n)) x * 3) ∧ TM I2 D n (t ++ b :: 11 :: sWt (d_kd D n)) false ∧ frm I I2 := by
    intro k0 b v hv hk0
    obtain ⟨I1, e1, e2, e3⟩ := r_began (J := J) hR hT (by omega) hv
    obtain ⟨I2, g1, g2, g3⟩ := r_t0 (J := J) hR hV hn m e2 (by simp; omega) x
    rw [List.append_assoc] at g2
    refine ⟨I1, I2, e1, ?_, g2, frm_t e3 g3⟩
    rw [r_bf (f_X12_body (m + 3)) (by omega) (by decide) e2.2.2.2.1 x, if_neg (by decide), show own k0 1 = 0 by rcases hk0 with e | e <;> subst e <;> rfl, g1, bd1]
  by_cases k2 : d_kd D n = 2 ∨ d_kd D n = 3
  · have ho : own (d_kd D n) 1 = 2 := by rcases k2 with e | e <;> rw [e] <;> rfl
    obtain ⟨I1, I2, e1, e2, e3, e4⟩ := one 0 30 30 rfl (Or.inl rfl)
    have ht2 : sTt (d_kd D n) = 30 :: 11 :: sWt (d_kd D n) := by rcases k2 with e | e <;> rw [e] <;> rfl
    have hv2 : ∀ N A y, sTv (d_kd D n) N A y = sWv (d_kd D n) N A y * 3 + A := fun N A y => by rcases k2 with e | e <;> rw [e] <;> rfl
    rw [ho, ht2, hv2]
    refine ⟨I2, ?_, e3, e4⟩
    rw [f_X12_body, f_X12_body_b, so65q, gp1q, r_cl hR hV hn hT, bd1, r_no (by decide) (by decide)]
    rw [if_neg (by decide), if_neg (by decide), if_neg (by decide), if_neg (by decide), if_neg (by decide), if_neg (by decide), if_neg (by decide), if_neg (by decide), if_neg (by decide), if_pos (by decide), e1, bd1]
    rw [show f_X12_bodyFrom (f_X12_body (m + 3)) (S0 ++ J) R I1 65 0 1 x = _ from e2, bd1]
  · by_cases k5 : d_kd D n = 5
    · obtain ⟨I1, I2, e1, e2, e3, e4⟩ := one 4 60 60 rfl (Or.inr rfl)
      rw [k5] at e2 e3 ⊢
      refine ⟨I2, ?_, e3, e4⟩
      show f_X12_body (m + 4) (S0 ++ J) R I 65 (nI 5) (nI 1) x = _
      rw [f_X12_body, f_X12_body_b, so65q, gp1q, r_cl hR hV hn hT, bd1, r_no (by decide) (by decide)]
      rw [if_neg (by decide), if_neg (by decide), if_neg (by decide), if_neg (by decide), if_neg (by decide), if_neg (by decide), if_neg (by decide), if_neg (by decide), if_neg (by decide), if_neg (by decide), if_neg (by decide), if_neg (by decide), if_neg (by decide), if_neg (by decide), if_neg (by decide), if_neg (by decide), if_neg (by decide), if_neg (by decide), if_neg (by decide), if_neg (by decide), if_neg (by decide), if_pos (by decide), e1, bd1]
      rw [show f_X12_bodyFrom (f_X12_body (m + 3)) (S0 ++ J) R I1 65 4 1 x = _ from e2, bd1]
      show some (I2, -(sWv 5 (nI n) (nI (d_cl D n)) x * 3)) = some (I2, 0 - sWv 5 (nI n) (nI (d_cl D n)) x * 3)
      rw [Int32.zero_sub]
    · have hk14 : d_kd D n = 1 ∨ d_kd D n = 4 := by omega
      have ho : own (d_kd D n) 1 = 0 := by rcases hk14 with e | e <;> rw [e] <;> rfl
      have ht2 : sTt (d_kd D n) = 11 :: sWt (d_kd D n) := by rcases hk14 with e | e <;> rw [e] <;> rfl
      have hv2 : ∀ N A y, sTv (d_kd D n) N A y = sWv (d_kd D n) N A y * 3 := fun N A y => by rcases hk14 with e | e <;> rw [e] <;> rfl
      rw [ho, ht2, hv2]
      exact r_t0 (J := J) hR hV hn (m + 1) hT (by omega) x
theorem r_s0 (hR : Lay R) (hV : VD D) (hn : n < d_n D) (m : Nat) {I : Iw} {t : List Nat} (hT : TM I D n t false) (ht : t.length < 30) (x : Int32) : OM (f_X12_body (m + 1) (S0 ++ J) R I 65 (nI 0) (nI 2) x) I D n (t ++ [12]) (s9p (nI n) (nI (d_cl D n))) (s9v (nI n) (nI (d_cl D n)) x) := by
  have h9 := hV.1
  have vk := hV.2.2.2.2.1 n hn
  obtain ⟨I1, e1, e2, e3⟩ := r_began (J := J) hR hT ht (v := 12) (b := 12) rfl
  have hz : (nI (d_cl D n) - nI n = 0) = (nI (d_cl D n) = nI n) := by
    refine propext ⟨fun h => ?_, fun h => by rw [h]; exact Int32.sub_self _⟩
    have := Int32.sub_add_cancel (nI (d_cl D n)) (nI n)
    rw [h, Int32.zero_add] at this
    exact this.symm
  have fin : ∀ (p : Bool) (s0 : Int32), s0 = yn p → p = s9p (nI n) (nI (d_cl D n)) → ∃ I', f_X12_body_169 (f_X12_body m) (S0 ++ J) R I1 65 x (nI n) (nI (d_cl D n)) s0 65 = some (I', s9v (nI n) (nI (d_cl D n)) x) ∧ TM I' D n (t ++ [12]) (s9p (nI n) (nI (d_cl D n))) ∧ frm I I' := by
    intro p s0 hs hp
    obtain ⟨t0, t1, t3, t4, t5⟩ := e2
    have v33 : up2 I1 65 33 s0 65 33 = s0 := by rw [u_eq, if_pos ⟨rfl, rfl⟩]
    have hzok : zok s0 = true := by rw [hs]; exact yn_z p
    refine ⟨up2 I1 65 33 s0, ?_, ⟨MR_fr (fun j => by rw [u_eq, if_neg (by omega)]) t0, ?_, ?_, ?_, fun i c hc => ?_⟩, fun a j a1 a2 => by rw [u_eq, if_neg (by omega)]; exact e3 a j a1 a2⟩
    · rw [f_X12_body_169, so65q, gp1q, hzok, gp1q, lt1q, gp1q, v33, hs]
      cases p with
      | true =>
        rw [if_neg (by decide), s9v, if_pos (of_decide_eq_true hp.symm)]
      | false =>
        have hnz : ¬ (nI (d_cl D n) - nI n = 0) := of_decide_eq_false hp.symm
        have hz2 : nz (nI (d_cl D n) - nI n) = true := decide_eq_true hnz
        rw [if_pos (by rfl), hz2, gp1q, s9v, if_neg hnz]
    · rw [u_eq, if_neg (by omega)]; exact t1
    · rw [u_eq, if_neg (by omega)]; exact t3
    · rw [v33, hs, hp]
    · rw [u_eq, if_neg (by omega)]; exact t5 i c hc
  by_cases q : nI (d_cl D n) = nI n
  · obtain ⟨I', g1, g2, g3⟩ := fin true 1 rfl (by rw [s9p, decide_eq_true (by rw [hz]; exact q)])
    refine ⟨I', ?_, g2, g3⟩
    rw [f_X12_body, f_X12_body_b, so65q, gp1q, r_cl hR hV hn hT, bd1, r_no (by decide) (by decide)]
    rw [if_neg (by decide), if_neg (by decide), if_pos (by decide), e1, bd1]
    rw [hT.2.1, if_pos q]; exact g1
  · obtain ⟨I', g1, g2, g3⟩ := fin false 0 rfl (by rw [s9p, decide_eq_false (by rw [hz]; exact q)])
    refine ⟨I', ?_, g2, g3⟩
    rw [f_X12_body, f_X12_body_b, so65q, gp1q, r_cl hR hV hn hT, bd1, r_no (by decide) (by decide)]
    rw [if_neg (by decide), if_neg (by decide), if_pos (by decide), e1, bd1]
    rw [hT.2.1, if_neg q]; exact g1
theorem r_s4 (hR : Lay R) (hV : VD D) (hn : n < d_n D) (m : Nat) {I : Iw} {t : List Nat} (hT : TM I D n t false) (ht : t.length < 28) (x : Int32) : OM (f_X12_body (m + 2) (S0 ++ J) R I 65 (nI 4) (nI 2) x) I D n (t ++ [40, 12]) (s9p (nI n) (nI (d_cl D n))) (s9v (nI n) (nI (d_cl D n)) (x - 1)) := by
  obtain ⟨I1, e1, e2, e3⟩ := r_began (J := J) hR hT (by omega) (v := 40) (b := 40) rfl
  obtain ⟨I2, g1, g2, g3⟩ := r_s0 (J := J) hR hV hn m e2 (by simp; omega) (x - 1)
  rw [List.append_assoc] at g2
  refine ⟨I2, ?_, g2, frm_t e3 g3⟩
  have hb := r_bf (J := J) (R := R) (f_X12_body (m + 1)) (k := 0) (a := 2) (by decide) (by decide) e2.2.2.2.1 (x - 1)
  rw [if_neg (by decide), show own 0 2 = 0 from rfl, g1, bd1] at hb
  rw [f_X12_body, f_X12_body_b, so65q, gp1q, r_cl hR hV hn hT, bd1, r_no (by decide) (by decide)]
  rw [if_neg (by decide), if_neg (by decide), if_neg (by decide), if_neg (by decide), if_neg (by decide), if_neg (by decide), if_neg (by decide), if_neg (by decide), if_neg (by decide), if_neg (by decide), if_neg (by decide), if_neg (by decide), if_neg (by decide), if_neg (by decide), if_neg (by decide), if_neg (by decide), if_neg (by decide), if_neg (by decide), if_pos (by decide), e1, bd1]
  rw [show f_X12_bodyFrom (f_X12_body (m + 1)) (S0 ++ J) R I1 65 0 2 (x - 1) = _ from hb, bd1]
theorem r_s (hR : Lay R) (hV : VD D) (hn : n < d_n D) (m : Nat) {I : Iw} {t : List Nat} (hT : TM I D n t false) (ht : t.length < 24) (x : Int32) : OM (f_X12_body (m + 4) (S0 ++ J) R I 65 (nI (own (d_kd D n) 2)) (nI 2) x) I D n (t ++ sSt (d_kd D n) (nI n) (nI (d_cl D n))) (s9p (nI n) (nI (d_cl D n))) (sSv (d_kd D n) (nI n) (nI (d_cl D n)) x) := by
  have vk := hV.2.2.2.2.1 n hn
  by_cases k4 : d_kd D n = 4
  · rw [k4]
    exact r_s4 (J := J) hR hV hn (m + 2) hT (by omega) x
  · by_cases k5 : d_kd D n = 5
    · obtain ⟨I1, e1, e2, e3⟩ := r_began (J := J) hR hT (by omega) (v := 61) (b := 61) rfl
      obtain ⟨I2, g1, g2, g3⟩ := r_s4 (J := J) hR hV hn (m + 1) e2 (by simp; omega) x
      rw [List.append_assoc] at g2
      have hb := r_bf (J := J) (R := R) (f_X12_body (m + 3)) (k := 4) (a := 2) (by decide) (by decide) e2.2.2.2.1 x
      rw [if_neg (by decide), show own 4 2 = 4 from rfl, g1, bd1] at hb
      have hv := r_vo (J := J) hR hV hn (f_X12_body (m + 3)) g2 (a := 0) (by decide) (nI (d_cl D n))
      have hval : ∀ (I3 : Iw) (y : Int32), f_X12_voiced (f_X12_body (m + 3)) (S0 ++ J) R I2 65 (nI 0) (nI (d_cl D n)) = some (I3, y) → f_X12_body (m + 4) (S0 ++ J) R I 65 (nI 5) (nI 2) x = some (I3, s9v (nI n) (nI (d_cl D n)) (x - 1) + y) := by
        intro I3 y hy
        rw [f_X12_body, f_X12_body_b, so65q, gp1q, r_cl hR hV hn hT, bd1, r_no (by decide) (by decide)]
        rw [if_neg (by decide), if_neg (by decide), if_neg (by decide), if_neg (by decide), if_neg (by decide), if_neg (by decide), if_neg (by decide), if_neg (by decide), if_neg (by decide), if_neg (by decide), if_neg (by decide), if_neg (by decide), if_neg (by decide), if_neg (by decide), if_neg (by decide), if_neg (by decide), if_neg (by decide), if_neg (by decide), if_neg (by decide), if_neg (by decide), if_neg (by decide), if_neg (by decide), e1, bd1]
        rw [show f_X12_bodyFrom (f_X12_body (m + 3)) (S0 ++ J) R I1 65 4 2 x = _ from hb, bd1]
        show bd (f_X12_voiced (f_X12_body (m + 3)) (S0 ++ J) R I2 65 (nI 0) (nI (d_cl D n))) _ = _
        rw [hy, bd1]
      rw [k5]
      show OM (f_X12_body (m + 4) (S0 ++ J) R I 65 (nI 5) (nI 2) x) I D n (t ++ (if nI (d_cl D n) - nI n = 0 then [61, 40, 12] else [61, 40, 12, 10])) (s9p (nI n) (nI (d_cl D n))) (if nI (d_cl D n) - nI n = 0 then 0 else s9v (nI n) (nI (d_cl D n)) (x - 1) + (nI (d_cl D n) - nI n))
      by_cases hz : nI (d_cl D n) - nI n = 0
      · rw [if_pos hz, if_pos hz]
        rw [s9p, decide_eq_true hz, if_pos rfl] at hv
        refine ⟨I2, ?_, g2, frm_t e3 g3⟩
        rw [hval I2 0 hv, s9v, if_pos hz]; rfl
      · rw [if_neg hz, if_neg hz]
        rw [s9p, decide_eq_false hz, if_neg (by decide), k5] at hv
        have g2' : TM I2 D n (t ++ [61, 40, 12]) false := by
          have h2 := g2
          rw [s9p, decide_eq_false hz] at h2
          exact h2
        obtain ⟨I3, w1, w2, w3⟩ := r_b0 (J := J) hR hV hn (m + 2) g2' (by simp; omega) (nI (d_cl D n))
        rw [List.append_assoc] at w2
        rw [show own 5 0 = 0 from rfl, w1, bd1] at hv
        refine ⟨I3, hval I3 _ hv, ?_, frm_t e3 (frm_t g3 w3)⟩
        rw [s9p, decide_eq_false hz]; exact w2
    · have ho : own (d_kd D n) 2 = 0 := by rcases (by omega : d_kd D n = 1 ∨ d_kd D n = 2 ∨ d_kd D n = 3) with e | e | e <;> rw [e] <;> rfl
      rw [ho, sSt, if_neg k4, if_neg k5, sSv, if_neg k4, if_neg k5]
      exact r_s0 (J := J) hR hV hn (m + 3) hT (by omega) x
theorem r_l0 (hR : Lay R) (hV : VD D) (hn : n < d_n D) (m : Nat) {I : Iw} {t : List Nat} (hT : TM I D n t false) (ht : t.length < 22) (x : Int32) : OM (f_X12_body (m + 5) (S0 ++ J) R I 65 (nI 0) (nI 3) x) I D n (t ++ 13 :: sTt (d_kd D n)) false (sTv (d_kd D n) (nI n) (nI (d_cl D n)) x ^^^ nI (d_cl D n)) := by
  obtain ⟨I1, e1, e2, e3⟩ := r_began (J := J) hR hT (by omega) (v := 13) (b := 13) rfl
  obtain ⟨I2, g1, g2, g3⟩ := r_t (J := J) hR hV hn m e2 (by simp; omega) x
  rw [List.append_assoc] at g2
  refine ⟨I2, ?_, g2, frm_t e3 g3⟩
  have hv := r_vo (J := J) hR hV hn (f_X12_body (m + 4)) e2 (a := 1) (by decide) x
  rw [if_neg (by decide), g1, bd1] at hv
  rw [f_X12_body, f_X12_body_b, so65q, gp1q, r_cl hR hV hn hT, bd1, r_no (by decide) (by decide)]
  rw [if_neg (by decide), if_neg (by decide), if_neg (by decide), if_pos (by decide), e1, bd1]
  rw [show f_X12_voiced (f_X12_body (m + 4)) (S0 ++ J) R I1 65 1 x = _ from hv, bd1]
theorem r_l (hR : Lay R) (hV : VD D) (hn : n < d_n D) (m : Nat) {I : Iw} {t : List Nat} (hT : TM I D n t false) (ht : t.length < 14) (x : Int32) : OM (f_X12_body (m + 6) (S0 ++ J) R I 65 (nI (own (d_kd D n) 3)) (nI 3) x) I D n (t ++ sLt (d_kd D n)) (sLp (d_kd D n) (nI n) (nI (d_cl D n))) (sLv (d_kd D n) (nI n) (nI (d_cl D n)) x) := by
  have vk := hV.2.2.2.2.1 n hn
  by_cases k3 : d_kd D n = 3
  · have hl := sTt_len (d_kd D n)
    obtain ⟨I1, e1, e2, e3⟩ := r_began (J := J) hR hT (by omega) (v := 51) (b := 51) rfl
    obtain ⟨I2, g1, g2, g3⟩ := r_l0 (J := J) hR hV hn m e2 (by simp; omega) x
    obtain ⟨I3, w1, w2, w3⟩ := r_s0 (J := J) hR hV hn (m + 4) g2 (by simp; omega) (nI n)
    have hb := r_bf (J := J) (R := R) (f_X12_body (m + 5)) (k := 2) (a := 3) (by decide) (by decide) e2.2.2.2.1 x
    rw [if_neg (by decide), show own 2 3 = 0 from rfl, g1, bd1] at hb
    have hv := r_vo (J := J) hR hV hn (f_X12_body (m + 5)) g2 (a := 2) (by decide) (nI n)
    rw [if_neg (by decide), k3, show own 3 2 = 0 from rfl, w1, bd1] at hv
    rw [k3] at w2 hb ⊢
    have ht3 : t ++ [51] ++ 13 :: sTt 3 ++ [12] = t ++ sLt 3 := by rw [List.append_assoc, List.append_assoc]; rfl
    rw [ht3] at w2
    refine ⟨I3, ?_, w2, frm_t e3 (frm_t g3 w3)⟩
    show f_X12_body (m + 6) (S0 ++ J) R I 65 (nI 3) (nI 3) x = _
    rw [f_X12_body, f_X12_body_b, so65q, gp1q, r_cl hR hV hn hT, bd1, r_no (by decide) (by decide)]
    rw [if_neg (by decide), if_neg (by decide), if_neg (by decide), if_neg (by decide), if_neg (by decide), if_neg (by decide), if_neg (by decide), if_neg (by decide), if_neg (by decide), if_neg (by decide), if_neg (by decide), if_neg (by decide), if_neg (by decide), if_neg (by decide), if_neg (by decide), if_pos (by decide), e1, bd1]
    rw [show f_X12_bodyFrom (f_X12_body (m + 5)) (S0 ++ J) R I1 65 2 3 x = _ from hb, bd1, hT.2.1]
    show bd (f_X12_voiced (f_X12_body (m + 5)) (S0 ++ J) R I2 65 (nI 2) (nI n)) _ = _
    rw [hv, bd1]; rfl
  · have ho : own (d_kd D n) 3 = 0 := by rcases (by omega : d_kd D n = 1 ∨ d_kd D n = 2 ∨ d_kd D n = 4 ∨ d_kd D n = 5) with e | e | e | e <;> rw [e] <;> rfl
    rw [ho, sLt, if_neg k3, sLp, if_neg k3, sLv, if_neg k3]
    exact r_l0 (J := J) hR hV hn (m + 1) hT (by omega) x
end THM
