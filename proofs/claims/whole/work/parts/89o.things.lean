/-! THINGS: the bodies of both sides -/
def kC (k : Nat) : Nat := if k = 1 then 10 else if k = 2 then 1 else if k = 3 then 0 else if k = 4 then 6 else 4
def sWv (k : Nat) (N A x : Int32) : Int32 := if k = 1 then (x - N) * 2 else if k = 3 then (x - N) ^^^ A else x - N
def sWt (k : Nat) : List Nat := if k = 1 then [20, 10] else if k = 3 then [50, 10] else [10]
def sTv (k : Nat) (N A x : Int32) : Int32 := if k = 2 then sWv k N A x * 3 + A else if k = 3 then sWv k N A x * 3 + A else if k = 5 then 0 - sWv k N A x * 3 else sWv k N A x * 3
def sTt (k : Nat) : List Nat := if k = 2 then 30 :: 11 :: sWt k else if k = 3 then 30 :: 11 :: sWt k else if k = 5 then 60 :: 11 :: sWt k else 11 :: sWt k
def s9v (N A x : Int32) : Int32 := if A - N = 0 then 0 else x / (A - N)
def s9p (N A : Int32) : Bool := decide (A - N = 0)
def sSv (k : Nat) (N A x : Int32) : Int32 := if k = 4 then s9v N A (x - 1) else if k = 5 then (if A - N = 0 then 0 else s9v N A (x - 1) + (A - N)) else s9v N A x
def sSt (k : Nat) (N A : Int32) : List Nat := if k = 4 then [40, 12] else if k = 5 then (if A - N = 0 then [61, 40, 12] else [61, 40, 12, 10]) else [12]
def sLv (k : Nat) (N A x : Int32) : Int32 := if k = 3 then (sTv k N A x ^^^ A) - s9v N A N else sTv k N A x ^^^ A
def sLt (k : Nat) : List Nat := if k = 3 then 51 :: 13 :: (sTt k ++ [12]) else 13 :: sTt k
def sLp (k : Nat) (N A : Int32) : Bool := if k = 3 then s9p N A else false
/-- the class' thing at cell q: number, cloth, trace so far, parted -/
def TC (I : Iw) (q : Nat) (N A : Int32) (t : List Nat) (p : Bool) : Prop := I q 0 = N ∧ I q 1 = A ∧ I q 3 = nI t.length ∧ I q 4 = yn p ∧ ∀ i b, t[i]? = some b → I (q + 1) i = nI b
def frq (q : Nat) (I I' : Iw) : Prop := ∀ a j, a ≠ q → a ≠ q + 1 → I' a j = I a j
def OC2 (f : Option (Iw × Int32)) (I : Iw) (q : Nat) (N A : Int32) (t : List Nat) (p : Bool) (v : Int32) : Prop := ∃ I', f = some (I', v) ∧ TC I' q N A t p ∧ frq q I I'
theorem get_snoc {t : List Nat} {x b i : Nat} (h : (t ++ [x])[i]? = some b) : (i < t.length ∧ t[i]? = some b) ∨ (i = t.length ∧ b = x) := by
  rcases Nat.lt_or_ge i t.length with q | q
  · left
    rw [List.getElem?_append_left q] at h
    exact ⟨q, h⟩
  · right
    rw [List.getElem?_append_right q] at h
    have : i - t.length = 0 := by
      rcases Nat.eq_zero_or_pos (i - t.length) with z | z
      · exact z
      · rw [List.getElem?_eq_none (by simp; omega)] at h; cases h
    rw [this] at h
    have h : some x = some b := h
    cases h
    exact ⟨by omega, rfl⟩
section THC
variable {S : Sh} {R : Rw} {q k : Nat} {N A : Int32}
/-- the thing's cells -/
def ThS (S : Sh) (R : Rw) (q k : Nat) : Prop := S[q]? = some (kC k, 5) ∧ S[q + 1]? = some (20, 30) ∧ R q 2 = some (.inl (q + 1)) ∧ 1 ≤ k ∧ k ≤ 5
theorem th_g (h : ThS S R q k) : thg S q = true := thg_t h.1 (by
  have h1 := h.2.2.2
  rcases (by omega : k = 1 ∨ k = 2 ∨ k = 3 ∨ k = 4 ∨ k = 5) with e | e | e | e | e <;> subst e <;> rfl)
theorem th_c (h : ThS S R q k) : cof S q = kC k := cof_t h.1
theorem c_ran (h : ThS S R q k) {I : Iw} {t : List Nat} {p : Bool} (hT : TC I q N A t p) (ht : t.length < 30) {v : Int32} {b : Nat} (hv : v = nI b) : ∃ I', f_X9_ran S R I q v = some I' ∧ TC I' q N A (t ++ [b]) p ∧ frq q I I' := by
  have ha : ∀ i, aok S 20 (q + 1) i = inb 30 i := fun i => by simp [aok, h.2.1, inb]
  obtain ⟨t0, t1, t3, t4, t5⟩ := hT
  have nq : ¬ (q = q + 1) := by omega
  subst hv
  refine ⟨up2 (up2 I (q + 1) t.length (nI b)) q 3 (nI (t.length + 1)), ?_, ⟨?_, ?_, ?_, ?_, fun i c hc => ?_⟩, fun a j a1 a2 => by rw [u_eq, if_neg (by omega), u_eq, if_neg (by omega)]⟩
  · rw [f_X9_ran]
    simp (disch := omega) only [th_g h, t3, h.2.2.1, ha, u_eq, Nat.reduceEqDiff, false_and, and_false, true_and, and_true, and_self, not_false_eq_true, nq, lit, gp1, rl1, rs1, bd1, lt1, n_add, n_sub, n_dec, n_le, n_lt, n_eq, n_in, nI_clamp, n_mul, m_or, m_and, m_pow, m_bit, m_dif, n_neg, yn_0, yn_1, yn_z, yn_d, one31, Nat.add_sub_cancel, Nat.not_lt_zero, if_true, if_false, ite_true, ite_false, Bool.true_eq_false, Bool.false_eq_true, Nat.add_zero, Nat.zero_add]
    rw [if_neg (by omega)]
  · rw [u_eq, if_neg (by omega), u_eq, if_neg (by omega)]; exact t0
  · rw [u_eq, if_neg (by omega), u_eq, if_neg (by omega)]; exact t1
  · rw [u_eq, if_pos ⟨rfl, rfl⟩, List.length_append]; rfl
  · rw [u_eq, if_neg (by omega), u_eq, if_neg (by omega)]; exact t4
  · rw [u_eq, if_neg (by omega), u_eq]
    rcases get_snoc hc with ⟨z1, z2⟩ | ⟨z1, z2⟩
    · rw [if_neg (by omega)]; exact t5 i c z2
    · rw [if_pos ⟨rfl, z1⟩, z2]
theorem oc_t {f : Option (Iw × Int32)} {I I1 : Iw} {t t' : List Nat} {p p' : Bool} {v v' : Int32} (h : OC2 f I1 q N A t p v) (h1 : frq q I I1) (ht : t = t') (hp : p = p') (hv : v = v') : OC2 f I q N A t' p' v' := by
  subst ht; subst hp; subst hv
  obtain ⟨I', e1, e2, e3⟩ := h
  exact ⟨I', e1, e2, fun a j a1 a2 => by rw [e3 a j a1 a2, h1 a j a1 a2]⟩
theorem c_w9 (h : ThS S R q k) {I : Iw} {t : List Nat} {p : Bool} (hT : TC I q N A t p) (ht : t.length < 30) (x : Int32) : OC2 (f_X9_weighs S R I q x) I q N A (t ++ [10]) p (x - N) := by
  obtain ⟨I1, e1, e2, e3⟩ := c_ran h hT ht (v := 10) (b := 10) rfl
  exact ⟨I1, by rw [f_X9_weighs, th_g h, gp1, e1, bd1, e2.1], e2, e3⟩
theorem c_vw (h : ThS S R q k) {I : Iw} {t : List Nat} {p : Bool} (hT : TC I q N A t p) (ht : t.length < 28) (x : Int32) : OC2 (v_weighs S R I q x) I q N A (t ++ sWt k) p (sWv k N A x) := by
  have hk := h.2.2.2
  rw [v_weighs, th_c h]
  by_cases k1 : k = 1
  · subst k1
    have hs : sok S q 10 5 = true := sok_t h.1
    obtain ⟨I1, e1, e2, e3⟩ := c_ran h hT (by omega) (v := 20) (b := 20) rfl
    obtain ⟨I2, g1, g2, g3⟩ := c_w9 h e2 (by simp; omega) x
    refine ⟨I2, ?_, by rw [List.append_assoc] at g2; exact g2, fun a j a1 a2 => by rw [g3 a j a1 a2, e3 a j a1 a2]⟩
    rw [if_neg (by decide), if_pos (by decide), f_X10_weighs, hs, gp1, e1, bd1, g1, bd1]; rfl
  · by_cases k3 : k = 3
    · subst k3
      have hs : sok S q 0 5 = true := sok_t h.1
      obtain ⟨I1, e1, e2, e3⟩ := c_ran h hT (by omega) (v := 50) (b := 50) rfl
      obtain ⟨I2, g1, g2, g3⟩ := c_w9 h e2 (by simp; omega) x
      refine ⟨I2, ?_, by rw [List.append_assoc] at g2; exact g2, fun a j a1 a2 => by rw [g3 a j a1 a2, e3 a j a1 a2]⟩
      rw [if_pos (by decide), f_X0_weighs, hs, gp1, e1, bd1, g1, bd1]
      show some (I2, (x - N) ^^^ I2 q 1) = some (I2, (x - N) ^^^ A)
      rw [g2.2.1]
    · have c0 : ¬ kC k = 0 := by rcases (by omega : k = 2 ∨ k = 4 ∨ k = 5) with e | e | e <;> subst e <;> decide
      have c10 : ¬ kC k = 10 := by rcases (by omega : k = 2 ∨ k = 4 ∨ k = 5) with e | e | e <;> subst e <;> decide
      rw [if_neg c0, if_neg c10, sWt, if_neg k1, if_neg k3, sWv, if_neg k1, if_neg k3]
      exact c_w9 h hT (by omega) x
theorem sWt_len (k : Nat) : (sWt k).length ≤ 2 := by
  unfold sWt; split
  · decide
  · split <;> decide
theorem c_t9 (h : ThS S R q k) {I : Iw} {t : List Nat} {p : Bool} (hT : TC I q N A t p) (ht : t.length < 26) (x : Int32) : OC2 (f_X9_turns S R I q x) I q N A (t ++ 11 :: sWt k) p (sWv k N A x * 3) := by
  obtain ⟨I1, e1, e2, e3⟩ := c_ran h hT (by omega) (v := 11) (b := 11) rfl
  obtain ⟨I2, g1, g2, g3⟩ := c_vw h e2 (by simp; omega) x
  refine ⟨I2, ?_, by rw [List.append_assoc] at g2; exact g2, fun a j a1 a2 => by rw [g3 a j a1 a2, e3 a j a1 a2]⟩
  rw [f_X9_turns, th_g h, gp1, e1, bd1, g1, bd1]
theorem c_vt (h : ThS S R q k) {I : Iw} {t : List Nat} {p : Bool} (hT : TC I q N A t p) (ht : t.length < 24) (x : Int32) : OC2 (v_turns S R I q x) I q N A (t ++ sTt k) p (sTv k N A x) := by
  have hk := h.2.2.2
  have living : lvg S q = true → OC2 (f_X1_turns S R I q x) I q N A (t ++ (30 :: 11 :: sWt k)) p (sWv k N A x * 3 + A) := by
    intro hl
    obtain ⟨I1, e1, e2, e3⟩ := c_ran h hT (by omega) (v := 30) (b := 30) rfl
    obtain ⟨I2, g1, g2, g3⟩ := c_t9 h e2 (by simp; omega) x
    refine ⟨I2, ?_, by rw [List.append_assoc] at g2; exact g2, fun a j a1 a2 => by rw [g3 a j a1 a2, e3 a j a1 a2]⟩
    rw [f_X1_turns, hl, gp1, e1, bd1, g1, bd1]
    show some (I2, sWv k N A x * 3 + I2 q 1) = some (I2, sWv k N A x * 3 + A)
    rw [g2.2.1]
  rw [v_turns, th_c h]
  rcases (by omega : k = 1 ∨ k = 2 ∨ k = 3 ∨ k = 4 ∨ k = 5) with e | e | e | e | e <;> subst e
  · exact c_t9 h hT (by omega) x
  · exact living (lvg_t h.1 rfl)
  · exact living (lvg_t h.1 rfl)
  · exact c_t9 h hT (by omega) x
  · have hs : sok S q 4 5 = true := sok_t h.1
    obtain ⟨I1, e1, e2, e3⟩ := c_ran h hT (by omega) (v := 60) (b := 60) rfl
    obtain ⟨I2, g1, g2, g3⟩ := c_t9 h e2 (by simp; omega) x
    refine ⟨I2, ?_, by rw [List.append_assoc] at g2; exact g2, fun a j a1 a2 => by rw [g3 a j a1 a2, e3 a j a1 a2]⟩
    show f_X4_turns S R I q x = _
    rw [f_X4_turns, hs, gp1, e1, bd1, g1, bd1]; rfl
theorem c_s9 (h : ThS S R q k) {I : Iw} {t : List Nat} (hT : TC I q N A t false) (ht : t.length < 30) (x : Int32) : OC2 (f_X9_splits S R I q x) I q N A (t ++ [12]) (s9p N A) (s9v N A x) := by
  obtain ⟨I1, e1, e2, e3⟩ := c_ran h hT ht (v := 12) (b := 12) rfl
  obtain ⟨t0, t1, t3, t4, t5⟩ := e2
  by_cases hz : A - N = 0
  · refine ⟨up2 I1 q 4 (1 : Int32), ?_, ⟨?_, ?_, ?_, ?_, fun i c hc => ?_⟩, fun a j a1 a2 => by rw [u_eq, if_neg (by omega)]; exact e3 a j a1 a2⟩
    · rw [f_X9_splits, th_g h, gp1, e1, bd1, t0, t1, if_pos hz, lt1, s9v, if_pos hz]
    · rw [u_eq, if_neg (by omega)]; exact t0
    · rw [u_eq, if_neg (by omega)]; exact t1
    · rw [u_eq, if_neg (by omega)]; exact t3
    · rw [u_eq, if_pos ⟨rfl, rfl⟩, s9p, decide_eq_true hz]; rfl
    · rw [u_eq, if_neg (by omega)]; exact t5 i c hc
  · have hnz : nz (A - N) = true := decide_eq_true hz
    refine ⟨I1, ?_, ⟨t0, t1, t3, by rw [s9p, decide_eq_false hz]; exact t4, t5⟩, e3⟩
    rw [f_X9_splits, th_g h, gp1, e1, bd1, t0, t1, if_neg hz, hnz, gp1, s9v, if_neg hz]
theorem c_s6 (h : ThS S R q k) (hs : slg S q = true) {I : Iw} {t : List Nat} (hT : TC I q N A t false) (ht : t.length < 28) (x : Int32) : OC2 (f_X6_splits S R I q x) I q N A (t ++ [40, 12]) (s9p N A) (s9v N A (x - 1)) := by
  obtain ⟨I1, e1, e2, e3⟩ := c_ran h hT (by omega) (v := 40) (b := 40) rfl
  obtain ⟨I2, g1, g2, g3⟩ := c_s9 h e2 (by simp; omega) (x - 1)
  refine ⟨I2, ?_, by rw [List.append_assoc] at g2; exact g2, fun a j a1 a2 => by rw [g3 a j a1 a2, e3 a j a1 a2]⟩
  rw [f_X6_splits, hs, gp1, e1, bd1, g1, bd1]
theorem c_vs (h : ThS S R q k) {I : Iw} {t : List Nat} (hT : TC I q N A t false) (ht : t.length < 24) (x : Int32) : OC2 (v_splits S R I q x) I q N A (t ++ sSt k N A) (s9p N A) (sSv k N A x) := by
  have hk := h.2.2.2
  rw [v_splits, th_c h]
  rcases (by omega : k = 1 ∨ k = 2 ∨ k = 3 ∨ k = 4 ∨ k = 5) with e | e | e | e | e <;> subst e
  · exact c_s9 h hT (by omega) x
  · exact c_s9 h hT (by omega) x
  · exact c_s9 h hT (by omega) x
  · exact c_s6 h (slg_t h.1 rfl) hT (by omega) x
  · have hs : sok S q 4 5 = true := sok_t h.1
    obtain ⟨I1, e1, e2, e3⟩ := c_ran h hT (by omega) (v := 61) (b := 61) rfl
    obtain ⟨I2, g1, g2, g3⟩ := c_s6 h (slg_t h.1 rfl) e2 (by simp; omega) x
    rw [List.append_assoc] at g2
    show OC2 (f_X4_splits S R I q x) I q N A (t ++ (if A - N = 0 then [61, 40, 12] else [61, 40, 12, 10])) (s9p N A) (if A - N = 0 then 0 else s9v N A (x - 1) + (A - N))
    rw [f_X4_splits, hs, gp1, e1, bd1, g1, bd1]
    by_cases hz : A - N = 0
    · rw [if_pos hz, if_pos hz]
      refine ⟨I2, ?_, g2, fun a j a1 a2 => by rw [g3 a j a1 a2, e3 a j a1 a2]⟩
      show (if I2 q 4 = 0 then _ else some (I2, (0 : Int32))) = _
      rw [if_neg]
      rw [g2.2.2.2.1, s9p, decide_eq_true hz]; decide
    · rw [if_neg hz, if_neg hz]
      obtain ⟨I3, w1, w2, w3⟩ := c_w9 h g2 (by simp; omega) A
      rw [List.append_assoc] at w2
      refine ⟨I3, ?_, w2, fun a j a1 a2 => by rw [w3 a j a1 a2, g3 a j a1 a2, e3 a j a1 a2]⟩
      show (if I2 q 4 = 0 then bd (f_X9_weighs S R I2 q (I2 q 1)) (fun r5 => some (r5.1, s9v N A (x - 1) + r5.2)) else _) = _
      rw [if_pos (by rw [g2.2.2.2.1, s9p, decide_eq_false hz]; rfl), g2.2.1, w1, bd1]
theorem sTt_len (k : Nat) : (sTt k).length ≤ 4 := by
  have := sWt_len k
  unfold sTt; split
  · simp; omega
  · split
    · simp; omega
    · split <;> simp <;> omega
theorem c_l9 (h : ThS S R q k) {I : Iw} {t : List Nat} {p : Bool} (hT : TC I q N A t p) (ht : t.length < 22) (x : Int32) : OC2 (f_X9_tells S R I q x) I q N A (t ++ 13 :: sTt k) p (sTv k N A x ^^^ A) := by
  obtain ⟨I1, e1, e2, e3⟩ := c_ran h hT (by omega) (v := 13) (b := 13) rfl
  obtain ⟨I2, g1, g2, g3⟩ := c_vt h e2 (by simp; omega) x
  rw [List.append_assoc] at g2
  refine ⟨I2, ?_, g2, fun a j a1 a2 => by rw [g3 a j a1 a2, e3 a j a1 a2]⟩
  rw [f_X9_tells, th_g h, gp1, e1, bd1, g1, bd1]
  show some (I2, sTv k N A x ^^^ I2 q 1) = _
  rw [g2.2.1]
theorem c_vl (h : ThS S R q k) {I : Iw} {t : List Nat} (hT : TC I q N A t false) (ht : t.length < 16) (x : Int32) : OC2 (v_tells S R I q x) I q N A (t ++ sLt k) (sLp k N A) (sLv k N A x) := by
  have hk := h.2.2.2
  rw [v_tells, th_c h]
  by_cases k3 : k = 3
  · subst k3
    have hs : sok S q 0 5 = true := sok_t h.1
    have hl := sTt_len 3
    obtain ⟨I1, e1, e2, e3⟩ := c_ran h hT (by omega) (v := 51) (b := 51) rfl
    obtain ⟨I2, g1, g2, g3⟩ := c_l9 h e2 (by simp; omega) x
    obtain ⟨I3, w1, w2, w3⟩ := c_s9 h g2 (by simp; omega) N
    have ht3 : t ++ [51] ++ 13 :: sTt 3 ++ [12] = t ++ sLt 3 := by rw [List.append_assoc, List.append_assoc]; rfl
    rw [ht3] at w2
    refine ⟨I3, ?_, w2, fun a j a1 a2 => by rw [w3 a j a1 a2, g3 a j a1 a2, e3 a j a1 a2]⟩
    rw [if_pos (by decide), f_X0_tells, hs, gp1, e1, bd1, g1, bd1]
    show bd (f_X9_splits S R I2 q (I2 q 0)) (fun r4 => some (r4.1, (sTv 3 N A x ^^^ A) - r4.2)) = _
    rw [g2.1, w1, bd1]; rfl
  · have c0 : ¬ kC k = 0 := by rcases (by omega : k = 1 ∨ k = 2 ∨ k = 4 ∨ k = 5) with e | e | e | e <;> subst e <;> decide
    rw [if_neg c0, sLt, if_neg k3, sLp, if_neg k3, sLv, if_neg k3]
    exact c_l9 h hT (by omega) x
end THC
