/-! THE CLASS' ORDERS (cell 44): a study fills what the recursions say -/
def ix (s l : Nat) : Nat := s * 10 + l
def cI : Option Nat → Int32
  | none => nI 2147483647
  | some c => nI c
theorem jmin_c {a : Option Nat} {c : Nat} (hc : c < 2 ^ 30) (ha : ∀ x, a = some x → x < 2 ^ 30) : jmin (cI a) (nI c) = cI (omin a (some c)) := by
  cases a with
  | none =>
    show (if nI c < nI 2147483647 then nI c else nI 2147483647) = nI c
    rw [if_pos]
    rw [n_lt (by omega) (by decide)]; omega
  | some x =>
    have hx := ha x rfl
    show (if nI c < nI x then nI c else nI x) = nI (min x c)
    simp only [n_lt (show c < 2 ^ 31 by omega) (show x < 2 ^ 31 by omega)]
    by_cases h : c < x
    · rw [if_pos h, Nat.min_eq_right (by omega)]
    · rw [if_neg h, Nat.min_eq_left (by omega)]
theorem jmax_n {a b : Nat} (ha : a < 2 ^ 31) (hb : b < 2 ^ 31) : jmax (nI a) (nI b) = nI (max a b) := by
  unfold jmax
  simp only [n_lt ha hb]
  by_cases h : a < b
  · rw [if_pos h, Nat.max_eq_right (by omega)]
  · rw [if_neg h, Nat.max_eq_left (by omega)]
theorem n_pred (g : Nat) : nI (g + 1) - nI 1 = nI g := n_sub (Nat.le_add_left 1 g)
theorem n_last (x : Int32) (l : Nat) : x + (nI l - nI 1) + nI 1 = x + nI l := by
  rw [Int32.add_assoc, Int32.sub_add_cancel]
def feD (D : Dt) (g : Nat) : Nat := if g < d_n D then fee D g else 0
def afD (D : Dt) : Nat := cnt (insm D)
/-- what a study at number T stands on -/
def OC (I : Iw) (D : Dt) (T : Nat) : Prop :=
  CR I 1 D ∧ I 44 2 = nI T ∧ I 44 8 = nI (afD D) ∧ (∀ g, g < 9 → I 50 g = nI (feD D g)) ∧ ∀ i, i < 5120 → ∃ v, v ≤ T ∧ I 45 i = nI v
def ent (I : Iw) (D : Dt) (s l : Nat) : Prop :=
  I 46 (ix s l) = nI (oW (fre D) (cnt s) s l) ∧ I 47 (ix s l) = nI (oM (fre D) (cnt s) s l) ∧ I 48 (ix s l) = cI (oC (fre D) (feD D) (afD D) (cnt s) s l) ∧ I 49 (ix s l) = yn (oX (fre D) (cnt s) s l)
def InvO (I : Iw) (D : Dt) (T go K : Nat) : Prop :=
  I 44 9 = nI go ∧ go < 1024 ∧ ∀ s l, s < 512 → l ≤ 9 → cnt s ≤ K → I 45 (ix s l) = nI T → ent I D s l ∧ (∀ i, (oG (fre D) (cnt s) s l).testBit i = true → go.testBit i = true) ∧ ∀ g, (fre D s l).testBit g = true → I 45 (ix (mdiff s (2 ^ g)) (g + 1)) = nI T
def frO (I I' : Iw) : Prop := ∀ a j, ¬ (45 ≤ a ∧ a ≤ 49) → ¬ (a = 44 ∧ j = 9) → I' a j = I a j
theorem frO_OC {I I' : Iw} {D : Dt} {T : Nat} (h : frO I I') (hT : ∀ i, i < 5120 → ∃ v, v ≤ T ∧ I' 45 i = nI v) (hO : OC I D T) : OC I' D T := by
  refine ⟨CR_fr (fun k j h1 h2 => h k j (by omega) (by omega)) hO.1, ?_, ?_, fun g hg => ?_, hT⟩
  · rw [h 44 2 (by omega) (by omega)]; exact hO.2.1
  · rw [h 44 8 (by omega) (by omega)]; exact hO.2.2.1
  · rw [h 50 g (by omega) (by omega)]; exact hO.2.2.2.1 g hg
theorem feD_lt {D : Dt} (hV : VD D) (g : Nat) : feD D g < 5000 := by
  unfold feD
  split
  · exact fee_lt hV (by assumption)
  · decide
theorem oC_lt {D : Dt} (hV : VD D) {k s l c : Nat} (hk : k ≤ 9) (h : oC (fre D) (feD D) (afD D) k s l = some c) : c < 1000000 := by
  have ha : afD D ≤ 10 := cn_le (s := insm D) 10
  have := oC_le (fre D) (feD D) (afD D) (B := 5000 * 11) (fun g => Nat.mul_le_mul (Nat.le_of_lt (feD_lt hV g)) (by omega)) k s l c h
  have h2 : 5000 * 11 * k ≤ 5000 * 11 * 9 := Nat.mul_le_mul_left _ hk
  omega
section VISIT
variable {J : Sh} {R : Rw} {D : Dt}
theorem x_state {S : Sh} {I : Iw} {s l : Nat} (hs : s < 512) (hl : l ≤ 9) : f_X2_stateOf S R I (nI s) (nI l - nI 1) = some (nI (ix s l)) := by
  rw [f_X2_stateOf, f_X11_isBetween]
  simp only [lit, n_last, n_mul, n_add]
  simp (disch := omega) only [ix, lit, gp1, rl1, rs1, bd1, lt1, n_add, n_sub, n_dec, n_le, n_lt, n_eq, n_in, nI_clamp, n_mul, m_or, m_and, m_pow, m_bit, m_dif, n_neg, yn_0, yn_1, yn_z, yn_d, one31, Nat.add_sub_cancel, Nat.not_lt_zero, if_true, if_false, ite_true, ite_false]
  rw [if_neg (by omega)]
  simp only [bd1, yn_t, yn_0]
  rw [if_neg (by decide)]
theorem x_stateg {S : Sh} {I : Iw} {s g : Nat} (hs : s < 512) (hl : g < 9) : f_X2_stateOf S R I (nI s) (nI g) = some (nI (ix s (g + 1))) := by
  rw [← n_pred g]; exact x_state hs (by omega)
theorem p_costOf (hR : Lay R) {I : Iw} {T : Nat} (hO : OC I D T) {s g : Nat} (hs : s < 512) (hg : g < 9) (hc : cnt s ≤ afD D) : f_X2_costOf (S0 ++ J) R I 44 (nI s) (nI g) = some (nI (feD D g * (afD D - cnt s + 1))) := by
  have c8 := hO.2.2.1
  have c50 := hO.2.2.2.1 g hg
  simp (disch := omega) only [so_44, ao_45, ao_46, ao_47, ao_48, ao_49, ao_50, ao_51, ly_44_0 hR, ly_44_1 hR, ly_44_3 hR, ly_44_4 hR, ly_44_5 hR, ly_44_6 hR, ly_44_7 hR, ly_44_10 hR, f_X2_costOf, bitc (show s < 1024 by omega), c8, c50, lit, gp1, rl1, rs1, bd1, lt1, n_add, n_sub, n_dec, n_le, n_lt, n_eq, n_in, nI_clamp, n_mul, m_or, m_and, m_pow, m_bit, m_dif, n_neg, yn_0, yn_1, yn_z, yn_d, one31, Nat.add_sub_cancel, Nat.not_lt_zero, if_true, if_false, ite_true, ite_false]
theorem omin_none (c : Option Nat) : omin c none = c := by cases c <;> rfl
theorem p_b83 (hR : Lay R) {g0 : Sh → Rw → Iw → Nat → Int32 → Int32 → Int32 → Option Iw} {I4 : Iw} {T s l g i2 W : Nat} {c o : Option Nat} (hs : s < 512) (hg : g < 9) (i1 : ix s l < 5120) (hi2 : i2 < 5120) (hc : cnt s ≤ afD D) (hO : OC I4 D T)
    (a1 : I4 46 i2 = nI W) (a2 : I4 48 i2 = cI o) (a3 : I4 48 (ix s l) = cI c) (hW : W < 2 ^ 30) (hWC : decide (0 < W) = o.isSome) (ho : ∀ y, o = some y → y < 2 ^ 29) (hcx : ∀ y, c = some y → y < 2 ^ 30) (hmul : feD D g * (afD D - cnt s + 1) ≤ 55000) :
    ∃ I', f_X2_visitBehind_83 g0 (S0 ++ J) R I4 44 (nI s) (nI (ix s l)) (nI g) (nI i2) = some I' ∧ (∀ a j, ¬ (a = 48 ∧ j = ix s l) → I' a j = I4 a j) ∧ I' 48 (ix s l) = cI (omin c (o.map (fun y => feD D g * (afD D - cnt s + 1) + y))) := by
  cases o with
  | none =>
    have hW0 : W = 0 := by
      have : ¬ 0 < W := of_decide_eq_false hWC
      omega
    refine ⟨I4, ?_, fun _ _ _ => rfl, by rw [Option.map_none, omin_none]; exact a3⟩
    rw [f_X2_visitBehind_83]
    simp (disch := omega) only [so_44, ao_45, ao_46, ao_47, ao_48, ao_49, ao_50, ao_51, ly_44_0 hR, ly_44_1 hR, ly_44_3 hR, ly_44_4 hR, ly_44_5 hR, ly_44_6 hR, ly_44_7 hR, ly_44_10 hR, a1, lit, gp1, rl1, rs1, bd1, lt1, n_add, n_sub, n_dec, n_le, n_lt, n_eq, n_in, nI_clamp, n_mul, m_or, m_and, m_pow, m_bit, m_dif, n_neg, yn_0, yn_1, yn_z, yn_d, one31, Nat.add_sub_cancel, Nat.not_lt_zero, if_true, if_false, ite_true, ite_false]
    rw [if_pos (by omega)]
  | some y =>
    have hW0 : 0 < W := of_decide_eq_true hWC
    have hy := ho y rfl
    refine ⟨up2 I4 48 (ix s l) (cI (omin c (some (feD D g * (afD D - cnt s + 1) + y)))), ?_, fun a j q => by rw [u_eq, if_neg q], by rw [u_eq, if_pos ⟨rfl, rfl⟩]; rfl⟩
    rw [f_X2_visitBehind_83]
    rw [cI] at a2
    simp (disch := omega) only [so_44, ao_45, ao_46, ao_47, ao_48, ao_49, ao_50, ao_51, ly_44_0 hR, ly_44_1 hR, ly_44_3 hR, ly_44_4 hR, ly_44_5 hR, ly_44_6 hR, ly_44_7 hR, ly_44_10 hR, a1, a2, a3, p_costOf hR hO hs hg hc, lit, gp1, rl1, rs1, bd1, lt1, n_add, n_sub, n_dec, n_le, n_lt, n_eq, n_in, nI_clamp, n_mul, m_or, m_and, m_pow, m_bit, m_dif, n_neg, yn_0, yn_1, yn_z, yn_d, one31, Nat.add_sub_cancel, Nat.not_lt_zero, if_true, if_false, ite_true, ite_false]
    rw [if_neg (by omega), jmin_c (by omega) hcx]
/-- what stands behind one good comes to the state's numbers -/
theorem p_behind (hR : Lay R) (hV : VD D) {g0 : Sh → Rw → Iw → Nat → Int32 → Int32 → Int32 → Option Iw} {I I3 : Iw} {T s l g dep : Nat} (hs : s < 512) (hl : l ≤ 9) (hg : g < 9) (hb : s.testBit g = true) (hc : cnt s ≤ afD D) (hO : OC I3 D T)
    (hv : g0 (S0 ++ J) R I 44 (nI (mdiff s (2 ^ g))) (nI g) (nI (dep + 1)) = some I3)
    {w m : Nat} {c : Option Nat} {x : Bool} (e : ent I3 D (mdiff s (2 ^ g)) (g + 1)) (e1 : I3 46 (ix s l) = nI w) (e2 : I3 47 (ix s l) = nI m) (e3 : I3 48 (ix s l) = cI c) (e4 : I3 49 (ix s l) = yn x) (hm : m < 100) (hcx : ∀ y, c = some y → y < 2 ^ 30) :
    ∃ I', f_X2_visitBehind g0 (S0 ++ J) R I 44 (nI s) (nI (ix s l)) (nI g) (nI dep) = some I' ∧ (∀ a j, ¬ (46 ≤ a ∧ a ≤ 49 ∧ j = ix s l) → I' a j = I3 a j) ∧
      I' 46 (ix s l) = nI (w + oW (fre D) (cnt s - 1) (mdiff s (2 ^ g)) (g + 1)) ∧ I' 47 (ix s l) = nI (max m (oM (fre D) (cnt s - 1) (mdiff s (2 ^ g)) (g + 1) + 1)) ∧
      I' 48 (ix s l) = cI (omin c ((oC (fre D) (feD D) (afD D) (cnt s - 1) (mdiff s (2 ^ g)) (g + 1)).map (fun y => feD D g * (afD D - cnt s + 1) + y))) ∧ I' 49 (ix s l) = yn (x || !oX (fre D) (cnt s - 1) (mdiff s (2 ^ g)) (g + 1)) := by
  have hk := cnt_diff hb (by omega)
  have hs9 := cnt_9 hs
  have hr : mdiff s (2 ^ g) < 512 := Nat.lt_of_le_of_lt Nat.and_le_left hs
  have hk2 : cnt s - 1 = cnt (mdiff s (2 ^ g)) := by omega
  rw [hk2]
  obtain ⟨b1, b2, b3, b4⟩ := e
  have ne : ix (mdiff s (2 ^ g)) (g + 1) ≠ ix s l := by
    intro q
    have : mdiff s (2 ^ g) = s := by unfold ix at q; omega
    rw [this] at hk; omega
  have i1 : ix s l < 5120 := by unfold ix; omega
  have i2 : ix (mdiff s (2 ^ g)) (g + 1) < 5120 := by unfold ix; omega
  have hM := oM_le (fre D) (cnt (mdiff s (2 ^ g))) (mdiff s (2 ^ g)) (g + 1)
  have hW := oW_lt (fre D) (k := cnt (mdiff s (2 ^ g))) (s := mdiff s (2 ^ g)) (l := g + 1) (by omega)
  have hWC := WC (fre D) (feD D) (afD D) (cnt (mdiff s (2 ^ g))) (mdiff s (2 ^ g)) (g + 1)
  have hfe := feD_lt hV g
  have hmul : feD D g * (afD D - cnt s + 1) ≤ 5000 * 11 := Nat.mul_le_mul (Nat.le_of_lt hfe) (by have : afD D ≤ 10 := cn_le (s := insm D) 10; omega)
  rw [f_X2_visitBehind]
  simp only [x_without (show s < 1024 by omega) (show g < 10 by omega), bd1, lit, n_add, hv, x_stateg hr hg]
  simp (disch := omega) only [so_44, ao_45, ao_46, ao_47, ao_48, ao_49, ao_50, ao_51, ly_44_0 hR, ly_44_1 hR, ly_44_3 hR, ly_44_4 hR, ly_44_5 hR, ly_44_6 hR, ly_44_7 hR, ly_44_10 hR, u_eq, Nat.reduceEqDiff, false_and, and_false, true_and, and_true, and_self, not_false_eq_true, b1, b2, b4, e1, e2, ne, ne.symm, lit, gp1, rl1, rs1, bd1, lt1, n_add, n_sub, n_dec, n_le, n_lt, n_eq, n_in, nI_clamp, n_mul, m_or, m_and, m_pow, m_bit, m_dif, n_neg, yn_0, yn_1, yn_z, yn_d, one31, Nat.add_sub_cancel, Nat.not_lt_zero, if_true, if_false, ite_true, ite_false]
  rw [jmax_n (by omega) (by omega)]
  have hO4 : ∀ I4 : Iw, (∀ a j, ¬ (46 ≤ a ∧ a ≤ 49 ∧ j = ix s l) → I4 a j = I3 a j) → OC I4 D T := fun I4 h => frO_OC (fun a j h1 h2 => h a j (by omega)) (fun i hi => by rw [h 45 i (by omega)]; exact hO.2.2.2.2 i hi) hO
  have step : ∀ I4 : Iw, (∀ a j, ¬ (46 ≤ a ∧ a ≤ 49 ∧ j = ix s l) → I4 a j = I3 a j) → I4 48 (ix s l) = I3 48 (ix s l) → ∃ I', f_X2_visitBehind_83 g0 (S0 ++ J) R I4 44 (nI s) (nI (ix s l)) (nI g) (nI (ix (mdiff s (2 ^ g)) (g + 1))) = some I' ∧ (∀ a j, ¬ (a = 48 ∧ j = ix s l) → I' a j = I4 a j) ∧ I' 48 (ix s l) = cI (omin c ((oC (fre D) (feD D) (afD D) (cnt (mdiff s (2 ^ g))) (mdiff s (2 ^ g)) (g + 1)).map (fun y => feD D g * (afD D - cnt s + 1) + y))) := by
    intro I4 h h48
    refine p_b83 hR hs hg i1 i2 hc (hO4 I4 h) (by rw [h _ _ (by omega)]; exact b1) (by rw [h _ _ (by omega)]; exact b3) (by rw [h48]; exact e3) hW hWC (fun y hy => ?_) hcx hmul
    have := oC_lt hV (by omega) hy
    omega
  cases hx : oX (fre D) (cnt (mdiff s (2 ^ g))) (mdiff s (2 ^ g)) (g + 1) with
  | false =>
    rw [if_pos rfl]
    obtain ⟨I', q1, q2, q3⟩ := step (up2 (up2 (up2 I3 46 (ix s l) (nI (w + oW (fre D) (cnt (mdiff s (2 ^ g))) (mdiff s (2 ^ g)) (g + 1)))) 47 (ix s l) (nI (max m (oM (fre D) (cnt (mdiff s (2 ^ g))) (mdiff s (2 ^ g)) (g + 1) + 1)))) 49 (ix s l) (nI 1)) (fun a j h => by rw [u_eq, if_neg (by omega), u_eq, if_neg (by omega), u_eq, if_neg (by omega)]) (by rw [u_eq, if_neg (by omega), u_eq, if_neg (by omega), u_eq, if_neg (by omega)])
    refine ⟨I', q1, fun a j h => ?_, ?_, ?_, q3, ?_⟩
    · rw [q2 a j (by omega), u_eq, if_neg (by omega), u_eq, if_neg (by omega), u_eq, if_neg (by omega)]
    · rw [q2 _ _ (by omega), u_eq, if_neg (by omega), u_eq, if_neg (by omega), u_eq, if_pos (by omega)]
    · rw [q2 _ _ (by omega), u_eq, if_neg (by omega), u_eq, if_pos (by omega)]
    · rw [q2 _ _ (by omega), u_eq, if_pos (by omega)]; simp [yn]
  | true =>
    rw [if_neg (by decide)]
    obtain ⟨I', q1, q2, q3⟩ := step (up2 (up2 I3 46 (ix s l) (nI (w + oW (fre D) (cnt (mdiff s (2 ^ g))) (mdiff s (2 ^ g)) (g + 1)))) 47 (ix s l) (nI (max m (oM (fre D) (cnt (mdiff s (2 ^ g))) (mdiff s (2 ^ g)) (g + 1) + 1)))) (fun a j h => by rw [u_eq, if_neg (by omega), u_eq, if_neg (by omega)]) (by rw [u_eq, if_neg (by omega), u_eq, if_neg (by omega)])
    refine ⟨I', q1, fun a j h => ?_, ?_, ?_, q3, ?_⟩
    · rw [q2 a j (by omega), u_eq, if_neg (by omega), u_eq, if_neg (by omega)]
    · rw [q2 _ _ (by omega), u_eq, if_neg (by omega), u_eq, if_pos (by omega)]
    · rw [q2 _ _ (by omega), u_eq, if_pos (by omega)]
    · rw [q2 _ _ (by omega), u_eq, if_neg (by omega), u_eq, if_neg (by omega), e4]; simp
end VISIT
