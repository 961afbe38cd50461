/-! THE LAW'S CASES -/
theorem ite_o {p : Prop} [Decidable p] {a b : Option Int32} (h1 : a = some 1) (h2 : b = some 1) : (if p then a else b) = some 1 := by
  by_cases h : p
  · rw [if_pos h]; exact h1
  · rw [if_neg h]; exact h2
def Kon (n0 : Nat) (ko : Sh → Rw → Iw → Nat → Nat → Int32 → Option Int32) (x : Int32) : Prop := ∀ S R I, Rel n0 S R I → ko S R I 0 65 x = some 1
theorem Rel_ZZ {J : Sh} {R : Rw} {I I2 : Iw} {D' : Dt} {n0 : Nat} (hR : Lay R) (hK : Rest (S0 ++ J) R I) (h : Core I2 D' (16 * n0 + 16)) (f : frX I I2) : Rel (n0 + 1) (S0 ++ J) R I2 := ⟨J, D', rfl, hR, Core_to h, Rest_fr f hK⟩
theorem Rel_up {J : Sh} {R : Rw} {I : Iw} {D : Dt} {n0 : Nat} (hR : Lay R) (hC : Core I D (16 * n0)) (hK : Rest (S0 ++ J) R I) : Rel (n0 + 1) (S0 ++ J) R I := ⟨J, D, rfl, hR, Core_to (Core_up hC), hK⟩
section CASES
variable {L : Nat} {xs : Nat → Int32} {ko : Sh → Rw → Iw → Nat → Nat → Int32 → Option Int32} {J : Sh} {R : Rw} {I : Iw} {D : Dt} {n0 i : Nat}
section SCO
variable {L i : Nat} {J : Sh}
theorem so0z : sok (S0 ++ J) 0 11 12 = true := id rfl
theorem so65z : sok (S0 ++ J) 65 12 34 = true := id rfl
theorem sc_n {L k : Nat} (h : k < L) (hL : L ≤ 2560) : scok L (nI k) = true := by
  unfold scok
  refine decide_eq_true ?_
  rw [nI_clamp (by omega)]
  rintro (q | q)
  · exact nI_pos (by omega) q
  · omega
theorem sc_1 (h : 5 * i + 5 ≤ L) (hL : L ≤ 2560) : scok L (nI (5 * i) + (1 : Int32)) = true := by
  rw [show nI (5 * i) + (1 : Int32) = nI (5 * i + 1) from nI_add _ _]
  exact sc_n (by omega) hL
theorem sc_2 (h : 5 * i + 5 ≤ L) (hL : L ≤ 2560) : scok L (nI (5 * i) + (2 : Int32)) = true := by
  rw [show nI (5 * i) + (2 : Int32) = nI (5 * i + 2) from nI_add _ _]
  exact sc_n (by omega) hL
theorem sc_3 (h : 5 * i + 5 ≤ L) (hL : L ≤ 2560) : scok L (nI (5 * i) + (3 : Int32)) = true := by
  rw [show nI (5 * i) + (3 : Int32) = nI (5 * i + 3) from nI_add _ _]
  exact sc_n (by omega) hL
theorem sc_4 (h : 5 * i + 5 ≤ L) (hL : L ≤ 2560) : scok L (nI (5 * i) + (4 : Int32)) = true := by
  rw [show nI (5 * i) + (4 : Int32) = nI (5 * i + 4) from nI_add _ _]
  exact sc_n (by omega) hL
end SCO
theorem l_248 (hR : Lay R) (hC : Core I D (16 * n0)) (hK : Rest (S0 ++ J) R I) (hn : n0 ≤ 512) (h5 : 5 * i + 5 ≤ L) (hL : L ≤ 2560) (k : Kon (n0 + 1) ko (nI (5 * i) + (5 : Int32))) : f_L_248 L xs ko (S0 ++ J) R I 0 65 (nI (5 * i)) = some 1 := by
  have s1 : scok L (nI (5 * i) + (1 : Int32)) = true := sc_1 h5 hL
  have s2 : scok L (nI (5 * i) + (2 : Int32)) = true := sc_2 h5 hL
  have s3 : scok L (nI (5 * i) + (3 : Int32)) = true := sc_3 h5 hL
  have s4 : scok L (nI (5 * i) + (4 : Int32)) = true := sc_4 h5 hL
  obtain ⟨I1, r, I2, D2, e1, e2, e3, e4⟩ := z_good (J := J) hR hC (xs ((nI (5 * i)) + (1 : Int32)).toNatClampNeg) (xs ((nI (5 * i)) + (2 : Int32)).toNatClampNeg) (xs ((nI (5 * i)) + (3 : Int32)).toNatClampNeg) (xs ((nI (5 * i)) + (4 : Int32)).toNatClampNeg)
  dsimp only at e2
  simp only [f_L_248, s1, s2, s3, s4, so0z, so65z, gp1q, e1, bd1q, e2, if_true]
  exact k _ _ _ (Rel_ZZ hR hK e3 e4)
theorem l_301 (hR : Lay R) (hC : Core I D (16 * n0)) (hK : Rest (S0 ++ J) R I) (hn : n0 ≤ 512) (h5 : 5 * i + 5 ≤ L) (hL : L ≤ 2560) (k : Kon (n0 + 1) ko (nI (5 * i) + (5 : Int32))) : f_L_301 L xs ko (S0 ++ J) R I 0 65 (nI (5 * i)) = some 1 := by
  have s1 : scok L (nI (5 * i) + (1 : Int32)) = true := sc_1 h5 hL
  have s2 : scok L (nI (5 * i) + (2 : Int32)) = true := sc_2 h5 hL
  obtain ⟨r, I2, D2, e1, e2, e3, e4⟩ := z_goodOf (J := J) hR hC (xs ((nI (5 * i)) + (1 : Int32)).toNatClampNeg) (xs ((nI (5 * i)) + (2 : Int32)).toNatClampNeg)
  simp only [f_L_301, s1, s2, so0z, so65z, gp1q, e1, bd1q, e2, if_true]
  exact k _ _ _ (Rel_ZZ hR hK e3 e4)
theorem l_334 (hR : Lay R) (hC : Core I D (16 * n0)) (hK : Rest (S0 ++ J) R I) (hn : n0 ≤ 512) (h5 : 5 * i + 5 ≤ L) (hL : L ≤ 2560) (k : Kon (n0 + 1) ko (nI (5 * i) + (5 : Int32))) : f_L_334 L xs ko (S0 ++ J) R I 0 65 (nI (5 * i)) = some 1 := by
  have s1 : scok L (nI (5 * i) + (1 : Int32)) = true := sc_1 h5 hL
  have s2 : scok L (nI (5 * i) + (2 : Int32)) = true := sc_2 h5 hL
  have s3 : scok L (nI (5 * i) + (3 : Int32)) = true := sc_3 h5 hL
  obtain ⟨I1, r, I2, D2, e1, e2, e3, e4⟩ := z_change (J := J) hR hC (xs ((nI (5 * i)) + (1 : Int32)).toNatClampNeg) (xs ((nI (5 * i)) + (2 : Int32)).toNatClampNeg) (xs ((nI (5 * i)) + (3 : Int32)).toNatClampNeg)
  dsimp only at e2
  simp only [f_L_334, s1, s2, s3, so0z, so65z, gp1q, e1, bd1q, e2, if_true]
  exact k _ _ _ (Rel_ZZ hR hK e3 e4)
theorem l_377 (hR : Lay R) (hC : Core I D (16 * n0)) (hK : Rest (S0 ++ J) R I) (hn : n0 ≤ 512) (h5 : 5 * i + 5 ≤ L) (hL : L ≤ 2560) (k : Kon (n0 + 1) ko (nI (5 * i) + (5 : Int32))) : f_L_377 L xs ko (S0 ++ J) R I 0 65 (nI (5 * i)) = some 1 := by
  have s1 : scok L (nI (5 * i) + (1 : Int32)) = true := sc_1 h5 hL
  have s2 : scok L (nI (5 * i) + (2 : Int32)) = true := sc_2 h5 hL
  obtain ⟨I1, r, I2, D2, e1, e2, e3, e4⟩ := z_remake (J := J) hR hC (xs ((nI (5 * i)) + (1 : Int32)).toNatClampNeg) (xs ((nI (5 * i)) + (2 : Int32)).toNatClampNeg)
  dsimp only at e2
  simp only [f_L_377, s1, s2, so0z, so65z, gp1q, e1, bd1q, e2, if_true]
  exact k _ _ _ (Rel_ZZ hR hK e3 e4)
theorem l_410 (hR : Lay R) (hC : Core I D (16 * n0)) (hK : Rest (S0 ++ J) R I) (hn : n0 ≤ 512) (h5 : 5 * i + 5 ≤ L) (hL : L ≤ 2560) (k : Kon (n0 + 1) ko (nI (5 * i) + (5 : Int32))) : f_L_410 L xs ko (S0 ++ J) R I 0 65 (nI (5 * i)) = some 1 := by
  have s1 : scok L (nI (5 * i) + (1 : Int32)) = true := sc_1 h5 hL
  have s2 : scok L (nI (5 * i) + (2 : Int32)) = true := sc_2 h5 hL
  obtain ⟨I1, r, I2, D2, e1, e2, e3, e4⟩ := z_let (J := J) hR hC (xs ((nI (5 * i)) + (1 : Int32)).toNatClampNeg) (xs ((nI (5 * i)) + (2 : Int32)).toNatClampNeg)
  dsimp only at e2
  simp only [f_L_410, s1, s2, so0z, so65z, gp1q, e1, bd1q, e2, if_true]
  exact k _ _ _ (Rel_ZZ hR hK e3 e4)
theorem l_443 (hR : Lay R) (hC : Core I D (16 * n0)) (hK : Rest (S0 ++ J) R I) (hn : n0 ≤ 512) (h5 : 5 * i + 5 ≤ L) (hL : L ≤ 2560) (k : Kon (n0 + 1) ko (nI (5 * i) + (5 : Int32))) : f_L_443 L xs ko (S0 ++ J) R I 0 65 (nI (5 * i)) = some 1 := by
  have s1 : scok L (nI (5 * i) + (1 : Int32)) = true := sc_1 h5 hL
  have s2 : scok L (nI (5 * i) + (2 : Int32)) = true := sc_2 h5 hL
  have s3 : scok L (nI (5 * i) + (3 : Int32)) = true := sc_3 h5 hL
  obtain ⟨I1, r, I2, e1, e2, e3⟩ := z_feed (J := J) hR hC hK ((((xs ((nI (5 * i)) + (1 : Int32)).toNatClampNeg).toInt64) <<< ((32 : Int32).toInt64 &&& 63)) ||| (((xs ((nI (5 * i)) + (2 : Int32)).toNatClampNeg).toInt64) &&& (4294967295 : Int64))) (xs ((nI (5 * i)) + (3 : Int32)).toNatClampNeg)
  dsimp only at e2
  simp only [f_L_443, s1, s2, s3, so0z, so65z, gp1q, e1, bd1q, e2, if_true]
  exact k _ _ _ e3
theorem l_506 (hR : Lay R) (hC : Core I D (16 * n0)) (hK : Rest (S0 ++ J) R I) (hn : n0 ≤ 512) (h5 : 5 * i + 5 ≤ L) (hL : L ≤ 2560) (k : Kon (n0 + 1) ko (nI (5 * i) + (5 : Int32))) : f_L_506 L xs ko (S0 ++ J) R I 0 65 (nI (5 * i)) = some 1 := by
  obtain ⟨I1, r, I2, e1, e2, e3⟩ := z_rules (J := J) hR hC hK
  dsimp only at e2
  simp only [f_L_506, so0z, so65z, gp1q, e1, bd1q, e2, if_true]
  exact k _ _ _ e3
theorem l_519 (hR : Lay R) (hC : Core I D (16 * n0)) (hK : Rest (S0 ++ J) R I) (hn : n0 ≤ 512) (h5 : 5 * i + 5 ≤ L) (hL : L ≤ 2560) (k : Kon (n0 + 1) ko (nI (5 * i) + (5 : Int32))) : f_L_519 L xs ko (S0 ++ J) R I 0 65 (nI (5 * i)) = some 1 := by
  have s1 : scok L (nI (5 * i) + (1 : Int32)) = true := sc_1 h5 hL
  have s2 : scok L (nI (5 * i) + (2 : Int32)) = true := sc_2 h5 hL
  obtain ⟨r, e1, e2⟩ := z_beside (J := J) hR hC (xs ((nI (5 * i)) + (1 : Int32)).toNatClampNeg) (xs ((nI (5 * i)) + (2 : Int32)).toNatClampNeg)
  simp only [f_L_519, s1, s2, so0z, so65z, gp1q, e1, bd1q, e2, if_true]
  exact k _ _ _ (Rel_up hR hC hK)
theorem l_552 (hR : Lay R) (hC : Core I D (16 * n0)) (hK : Rest (S0 ++ J) R I) (hn : n0 ≤ 512) (h5 : 5 * i + 5 ≤ L) (hL : L ≤ 2560) (k : Kon (n0 + 1) ko (nI (5 * i) + (5 : Int32))) : f_L_552 L xs ko (S0 ++ J) R I 0 65 (nI (5 * i)) = some 1 := by
  have s1 : scok L (nI (5 * i) + (1 : Int32)) = true := sc_1 h5 hL
  obtain ⟨r, e1, e2⟩ := z_mates (J := J) hR hC (xs ((nI (5 * i)) + (1 : Int32)).toNatClampNeg)
  simp only [f_L_552, s1, so0z, so65z, gp1q, e1, bd1q, e2, if_true]
  exact k _ _ _ (Rel_up hR hC hK)
theorem l_575 (hR : Lay R) (hC : Core I D (16 * n0)) (hK : Rest (S0 ++ J) R I) (hn : n0 ≤ 512) (h5 : 5 * i + 5 ≤ L) (hL : L ≤ 2560) (k : Kon (n0 + 1) ko (nI (5 * i) + (5 : Int32))) : f_L_575 L xs ko (S0 ++ J) R I 0 65 (nI (5 * i)) = some 1 := by
  obtain ⟨r, e1, e2⟩ := z_may (J := J) hR hC
  simp only [f_L_575, so0z, so65z, gp1q, e1, bd1q, e2, if_true]
  exact k _ _ _ (Rel_up hR hC hK)
theorem l_588 (hR : Lay R) (hC : Core I D (16 * n0)) (hK : Rest (S0 ++ J) R I) (hn : n0 ≤ 512) (h5 : 5 * i + 5 ≤ L) (hL : L ≤ 2560) (k : Kon (n0 + 1) ko (nI (5 * i) + (5 : Int32))) : f_L_588 L xs ko (S0 ++ J) R I 0 65 (nI (5 * i)) = some 1 := by
  obtain ⟨r, e1, e2⟩ := z_tops (J := J) hR hC
  simp only [f_L_588, so0z, so65z, gp1q, e1, bd1q, e2, if_true]
  exact k _ _ _ (Rel_up hR hC hK)
theorem l_601 (hR : Lay R) (hC : Core I D (16 * n0)) (hK : Rest (S0 ++ J) R I) (hn : n0 ≤ 512) (h5 : 5 * i + 5 ≤ L) (hL : L ≤ 2560) (k : Kon (n0 + 1) ko (nI (5 * i) + (5 : Int32))) : f_L_601 L xs ko (S0 ++ J) R I 0 65 (nI (5 * i)) = some 1 := by
  have s1 : scok L (nI (5 * i) + (1 : Int32)) = true := sc_1 h5 hL
  obtain ⟨I1, r, I2, D2, e1, e2, e3, e4⟩ := z_go (J := J) hR hC (xs ((nI (5 * i)) + (1 : Int32)).toNatClampNeg)
  dsimp only at e2
  simp only [f_L_601, s1, so0z, so65z, gp1q, e1, bd1q, e2, if_true]
  exact k _ _ _ (Rel_ZZ hR hK e3 e4)
theorem l_624 (hR : Lay R) (hC : Core I D (16 * n0)) (hK : Rest (S0 ++ J) R I) (hn : n0 ≤ 512) (h5 : 5 * i + 5 ≤ L) (hL : L ≤ 2560) (k : Kon (n0 + 1) ko (nI (5 * i) + (5 : Int32))) : f_L_624 L xs ko (S0 ++ J) R I 0 65 (nI (5 * i)) = some 1 := by
  obtain ⟨I1, r, I2, D2, e1, e2, e3, e4⟩ := z_come (J := J) hR hC
  dsimp only at e2
  simp only [f_L_624, so0z, so65z, gp1q, e1, bd1q, e2, if_true]
  exact k _ _ _ (Rel_ZZ hR hK e3 e4)
theorem l_637 (hR : Lay R) (hC : Core I D (16 * n0)) (hK : Rest (S0 ++ J) R I) (hn : n0 ≤ 512) (h5 : 5 * i + 5 ≤ L) (hL : L ≤ 2560) (k : Kon (n0 + 1) ko (nI (5 * i) + (5 : Int32))) : f_L_637 L xs ko (S0 ++ J) R I 0 65 (nI (5 * i)) = some 1 := by
  have s1 : scok L (nI (5 * i) + (1 : Int32)) = true := sc_1 h5 hL
  obtain ⟨r, e1, e2⟩ := z_line (J := J) hR hC (xs ((nI (5 * i)) + (1 : Int32)).toNatClampNeg)
  simp only [f_L_637, s1, so0z, so65z, gp1q, e1, bd1q, e2, if_true]
  exact k _ _ _ (Rel_up hR hC hK)
theorem l_660 (hR : Lay R) (hC : Core I D (16 * n0)) (hK : Rest (S0 ++ J) R I) (hn : n0 ≤ 512) (h5 : 5 * i + 5 ≤ L) (hL : L ≤ 2560) (k : Kon (n0 + 1) ko (nI (5 * i) + (5 : Int32))) : f_L_660 L xs ko (S0 ++ J) R I 0 65 (nI (5 * i)) = some 1 := by
  obtain ⟨r, I2, D2, e1, e2, e3, e4⟩ := z_paid (J := J) hR hC
  simp only [f_L_660, so0z, so65z, gp1q, e1, bd1q, e2, if_true]
  exact k _ _ _ (Rel_ZZ hR hK e3 e4)
theorem l_673 (hR : Lay R) (hC : Core I D (16 * n0)) (hK : Rest (S0 ++ J) R I) (hn : n0 ≤ 512) (h5 : 5 * i + 5 ≤ L) (hL : L ≤ 2560) (k : Kon (n0 + 1) ko (nI (5 * i) + (5 : Int32))) : f_L_673 L xs ko (S0 ++ J) R I 0 65 (nI (5 * i)) = some 1 := by
  obtain ⟨I1, r, I2, D2, e1, e2, e3, e4⟩ := z_ways (J := J) hR hC (by omega)
  dsimp only at e2
  simp only [f_L_673, so0z, so65z, gp1q, e1, bd1q, e2, if_true]
  exact k _ _ _ (Rel_ZZ hR hK e3 e4)
theorem l_686 (hR : Lay R) (hC : Core I D (16 * n0)) (hK : Rest (S0 ++ J) R I) (hn : n0 ≤ 512) (h5 : 5 * i + 5 ≤ L) (hL : L ≤ 2560) (k : Kon (n0 + 1) ko (nI (5 * i) + (5 : Int32))) : f_L_686 L xs ko (S0 ++ J) R I 0 65 (nI (5 * i)) = some 1 := by
  have s1 : scok L (nI (5 * i) + (1 : Int32)) = true := sc_1 h5 hL
  obtain ⟨I1, r, I2, D2, e1, e2, e3, e4⟩ := z_way (J := J) hR hC (by omega) (xs ((nI (5 * i)) + (1 : Int32)).toNatClampNeg)
  dsimp only at e2
  simp only [f_L_686, s1, so0z, so65z, gp1q, e1, bd1q, e2, if_true]
  exact k _ _ _ (Rel_ZZ hR hK e3 e4)
theorem l_709 (hR : Lay R) (hC : Core I D (16 * n0)) (hK : Rest (S0 ++ J) R I) (hn : n0 ≤ 512) (h5 : 5 * i + 5 ≤ L) (hL : L ≤ 2560) (k : Kon (n0 + 1) ko (nI (5 * i) + (5 : Int32))) : f_L_709 L xs ko (S0 ++ J) R I 0 65 (nI (5 * i)) = some 1 := by
  obtain ⟨I1, r, I2, D2, e1, e2, e3, e4⟩ := z_longest (J := J) hR hC (by omega)
  dsimp only at e2
  simp only [f_L_709, so0z, so65z, gp1q, e1, bd1q, e2, if_true]
  exact k _ _ _ (Rel_ZZ hR hK e3 e4)
theorem l_722 (hR : Lay R) (hC : Core I D (16 * n0)) (hK : Rest (S0 ++ J) R I) (hn : n0 ≤ 512) (h5 : 5 * i + 5 ≤ L) (hL : L ≤ 2560) (k : Kon (n0 + 1) ko (nI (5 * i) + (5 : Int32))) : f_L_722 L xs ko (S0 ++ J) R I 0 65 (nI (5 * i)) = some 1 := by
  have s1 : scok L (nI (5 * i) + (1 : Int32)) = true := sc_1 h5 hL
  obtain ⟨I1, r, I2, D2, e1, e2, e3, e4⟩ := z_far (J := J) hR hC (by omega) (xs ((nI (5 * i)) + (1 : Int32)).toNatClampNeg)
  dsimp only at e2
  simp only [f_L_722, s1, so0z, so65z, gp1q, e1, bd1q, e2, if_true]
  exact k _ _ _ (Rel_ZZ hR hK e3 e4)
theorem l_745 (hR : Lay R) (hC : Core I D (16 * n0)) (hK : Rest (S0 ++ J) R I) (hn : n0 ≤ 512) (h5 : 5 * i + 5 ≤ L) (hL : L ≤ 2560) (k : Kon (n0 + 1) ko (nI (5 * i) + (5 : Int32))) : f_L_745 L xs ko (S0 ++ J) R I 0 65 (nI (5 * i)) = some 1 := by
  obtain ⟨I1, r, I2, D2, e1, e2, e3, e4⟩ := z_cheapest (J := J) hR hC (by omega)
  dsimp only at e2
  simp only [f_L_745, so0z, so65z, gp1q, e1, bd1q, e2, if_true]
  exact k _ _ _ (Rel_ZZ hR hK e3 e4)
theorem l_758 (hR : Lay R) (hC : Core I D (16 * n0)) (hK : Rest (S0 ++ J) R I) (hn : n0 ≤ 512) (h5 : 5 * i + 5 ≤ L) (hL : L ≤ 2560) (k : Kon (n0 + 1) ko (nI (5 * i) + (5 : Int32))) : f_L_758 L xs ko (S0 ++ J) R I 0 65 (nI (5 * i)) = some 1 := by
  have s1 : scok L (nI (5 * i) + (1 : Int32)) = true := sc_1 h5 hL
  obtain ⟨I1, r, I2, D2, e1, e2, e3, e4⟩ := z_cheap (J := J) hR hC (by omega) (xs ((nI (5 * i)) + (1 : Int32)).toNatClampNeg)
  dsimp only at e2
  simp only [f_L_758, s1, so0z, so65z, gp1q, e1, bd1q, e2, if_true]
  exact k _ _ _ (Rel_ZZ hR hK e3 e4)
theorem l_781 (hR : Lay R) (hC : Core I D (16 * n0)) (hK : Rest (S0 ++ J) R I) (hn : n0 ≤ 512) (h5 : 5 * i + 5 ≤ L) (hL : L ≤ 2560) (k : Kon (n0 + 1) ko (nI (5 * i) + (5 : Int32))) : f_L_781 L xs ko (S0 ++ J) R I 0 65 (nI (5 * i)) = some 1 := by
  obtain ⟨I1, r, I2, D2, e1, e2, e3, e4⟩ := z_never (J := J) hR hC (by omega)
  dsimp only at e2
  simp only [f_L_781, so0z, so65z, gp1q, e1, bd1q, e2, if_true]
  exact k _ _ _ (Rel_ZZ hR hK e3 e4)
theorem l_794 (hR : Lay R) (hC : Core I D (16 * n0)) (hK : Rest (S0 ++ J) R I) (hn : n0 ≤ 512) (h5 : 5 * i + 5 ≤ L) (hL : L ≤ 2560) (k : Kon (n0 + 1) ko (nI (5 * i) + (5 : Int32))) : f_L_794 L xs ko (S0 ++ J) R I 0 65 (nI (5 * i)) = some 1 := by
  obtain ⟨I1, r, I2, D2, e1, e2, e3, e4⟩ := z_best (J := J) hR hC (by omega)
  dsimp only at e2
  simp only [f_L_794, so0z, so65z, gp1q, e1, bd1q, e2, if_true]
  exact k _ _ _ (Rel_ZZ hR hK e3 e4)
theorem l_807 (hR : Lay R) (hC : Core I D (16 * n0)) (hK : Rest (S0 ++ J) R I) (hn : n0 ≤ 512) (h5 : 5 * i + 5 ≤ L) (hL : L ≤ 2560) (k : Kon (n0 + 1) ko (nI (5 * i) + (5 : Int32))) : f_L_807 L xs ko (S0 ++ J) R I 0 65 (nI (5 * i)) = some 1 := by
  obtain ⟨I1, r, I2, D2, e1, e2, e3, e4⟩ := z_goat (J := J) hR hC (by omega)
  dsimp only at e2
  simp only [f_L_807, so0z, so65z, gp1q, e1, bd1q, e2, if_true]
  exact k _ _ _ (Rel_ZZ hR hK e3 e4)
theorem l_820 (hR : Lay R) (hC : Core I D (16 * n0)) (hK : Rest (S0 ++ J) R I) (hn : n0 ≤ 512) (h5 : 5 * i + 5 ≤ L) (hL : L ≤ 2560) (k : Kon (n0 + 1) ko (nI (5 * i) + (5 : Int32))) : f_L_820 L xs ko (S0 ++ J) R I 0 65 (nI (5 * i)) = some 1 := by
  obtain ⟨I1, r, I2, D2, e1, e2, e3, e4⟩ := z_gapFor (J := J) hR hC (by omega)
  dsimp only at e2
  simp only [f_L_820, so0z, so65z, gp1q, e1, bd1q, e2, if_true]
  exact k _ _ _ (Rel_ZZ hR hK e3 e4)
theorem l_833 (hR : Lay R) (hC : Core I D (16 * n0)) (hK : Rest (S0 ++ J) R I) (hn : n0 ≤ 512) (h5 : 5 * i + 5 ≤ L) (hL : L ≤ 2560) (k : Kon (n0 + 1) ko (nI (5 * i) + (5 : Int32))) : f_L_833 L xs ko (S0 ++ J) R I 0 65 (nI (5 * i)) = some 1 := by
  obtain ⟨I1, r, I2, D2, e1, e2, e3, e4⟩ := z_game (J := J) hR hC (by omega)
  dsimp only at e2
  simp only [f_L_833, so0z, so65z, gp1q, e1, bd1q, e2, if_true]
  exact k _ _ _ (Rel_ZZ hR hK e3 e4)
theorem l_846 (hR : Lay R) (hC : Core I D (16 * n0)) (hK : Rest (S0 ++ J) R I) (hn : n0 ≤ 512) (h5 : 5 * i + 5 ≤ L) (hL : L ≤ 2560) (k : Kon (n0 + 1) ko (nI (5 * i) + (5 : Int32))) : f_L_846 L xs ko (S0 ++ J) R I 0 65 (nI (5 * i)) = some 1 := by
  obtain ⟨I1, r, I2, D2, e1, e2, e3, e4⟩ := z_play (J := J) hR hC (by omega)
  dsimp only at e2
  simp only [f_L_846, so0z, so65z, gp1q, e1, bd1q, e2, if_true]
  exact k _ _ _ (Rel_ZZ hR hK e3 e4)
theorem l_859 (hR : Lay R) (hC : Core I D (16 * n0)) (hK : Rest (S0 ++ J) R I) (hn : n0 ≤ 512) (h5 : 5 * i + 5 ≤ L) (hL : L ≤ 2560) (k : Kon (n0 + 1) ko (nI (5 * i) + (5 : Int32))) : f_L_859 L xs ko (S0 ++ J) R I 0 65 (nI (5 * i)) = some 1 := by
  have s1 : scok L (nI (5 * i) + (1 : Int32)) = true := sc_1 h5 hL
  have s2 : scok L (nI (5 * i) + (2 : Int32)) = true := sc_2 h5 hL
  obtain ⟨I1, r, I2, D2, e1, e2, e3, e4⟩ := z_report (J := J) hR hC (xs ((nI (5 * i)) + (1 : Int32)).toNatClampNeg) (xs ((nI (5 * i)) + (2 : Int32)).toNatClampNeg)
  dsimp only at e2
  simp only [f_L_859, s1, s2, so0z, so65z, gp1q, e1, bd1q, e2, if_true]
  exact k _ _ _ (Rel_ZZ hR hK e3 e4)
theorem l_892 (hR : Lay R) (hC : Core I D (16 * n0)) (hK : Rest (S0 ++ J) R I) (hn : n0 ≤ 512) (h5 : 5 * i + 5 ≤ L) (hL : L ≤ 2560) (k : Kon (n0 + 1) ko (nI (5 * i) + (5 : Int32))) : f_L_892 L xs ko (S0 ++ J) R I 0 65 (nI (5 * i)) = some 1 := by
  obtain ⟨I1, r, I2, D2, e1, e2, e3, e4⟩ := z_forget (J := J) hR hC
  dsimp only at e2
  simp only [f_L_892, so0z, so65z, gp1q, e1, bd1q, e2, if_true]
  exact k _ _ _ (Rel_ZZ hR hK e3 e4)
theorem l_905 (hR : Lay R) (hC : Core I D (16 * n0)) (hK : Rest (S0 ++ J) R I) (hn : n0 ≤ 512) (h5 : 5 * i + 5 ≤ L) (hL : L ≤ 2560) (k : Kon (n0 + 1) ko (nI (5 * i) + (5 : Int32))) : f_L_905 L xs ko (S0 ++ J) R I 0 65 (nI (5 * i)) = some 1 := by
  have s1 : scok L (nI (5 * i) + (1 : Int32)) = true := sc_1 h5 hL
  obtain ⟨r, e1, e2⟩ := z_span (J := J) hR hC (xs ((nI (5 * i)) + (1 : Int32)).toNatClampNeg)
  simp only [f_L_905, s1, so0z, so65z, gp1q, e1, bd1q, e2, if_true]
  exact k _ _ _ (Rel_up hR hC hK)
theorem l_928 (hR : Lay R) (hC : Core I D (16 * n0)) (hK : Rest (S0 ++ J) R I) (hn : n0 ≤ 512) (h5 : 5 * i + 5 ≤ L) (hL : L ≤ 2560) (k : Kon (n0 + 1) ko (nI (5 * i) + (5 : Int32))) : f_L_928 L xs ko (S0 ++ J) R I 0 65 (nI (5 * i)) = some 1 := by
  obtain ⟨r, e1, e2⟩ := z_liar (J := J) hR hC
  simp only [f_L_928, so0z, so65z, gp1q, e1, bd1q, e2, if_true]
  exact k _ _ _ (Rel_up hR hC hK)
theorem l_941 (hR : Lay R) (hC : Core I D (16 * n0)) (hK : Rest (S0 ++ J) R I) (hn : n0 ≤ 512) (h5 : 5 * i + 5 ≤ L) (hL : L ≤ 2560) (k : Kon (n0 + 1) ko (nI (5 * i) + (5 : Int32))) : f_L_941 L xs ko (S0 ++ J) R I 0 65 (nI (5 * i)) = some 1 := by
  have s1 : scok L (nI (5 * i) + (1 : Int32)) = true := sc_1 h5 hL
  obtain ⟨I1, r, I2, D2, e1, e2, e3, e4⟩ := z_seed (J := J) hR hC (xs ((nI (5 * i)) + (1 : Int32)).toNatClampNeg)
  dsimp only at e2
  simp only [f_L_941, s1, so0z, so65z, gp1q, e1, bd1q, e2, if_true]
  exact k _ _ _ (Rel_ZZ hR hK e3 e4)
theorem l_964 (hR : Lay R) (hC : Core I D (16 * n0)) (hK : Rest (S0 ++ J) R I) (hn : n0 ≤ 512) (h5 : 5 * i + 5 ≤ L) (hL : L ≤ 2560) (k : Kon (n0 + 1) ko (nI (5 * i) + (5 : Int32))) : f_L_964 L xs ko (S0 ++ J) R I 0 65 (nI (5 * i)) = some 1 := by
  obtain ⟨I1, r, I2, D2, e1, e2, e3, e4⟩ := z_draw (J := J) hR hC
  dsimp only at e2
  simp only [f_L_964, so0z, so65z, gp1q, e1, bd1q, e2, if_true]
  exact k _ _ _ (Rel_ZZ hR hK e3 e4)
theorem l_977 (hR : Lay R) (hC : Core I D (16 * n0)) (hK : Rest (S0 ++ J) R I) (hn : n0 ≤ 512) (h5 : 5 * i + 5 ≤ L) (hL : L ≤ 2560) (k : Kon (n0 + 1) ko (nI (5 * i) + (5 : Int32))) : f_L_977 L xs ko (S0 ++ J) R I 0 65 (nI (5 * i)) = some 1 := by
  have s1 : scok L (nI (5 * i) + (1 : Int32)) = true := sc_1 h5 hL
  obtain ⟨r, I2, D2, e1, e2, e3, e4⟩ := z_often (J := J) hR hC (xs ((nI (5 * i)) + (1 : Int32)).toNatClampNeg)
  simp only [f_L_977, s1, so0z, so65z, gp1q, e1, bd1q, e2, if_true]
  exact k _ _ _ (Rel_ZZ hR hK e3 e4)
theorem l_1000 (hR : Lay R) (hC : Core I D (16 * n0)) (hK : Rest (S0 ++ J) R I) (hn : n0 ≤ 512) (h5 : 5 * i + 5 ≤ L) (hL : L ≤ 2560) (k : Kon (n0 + 1) ko (nI (5 * i) + (5 : Int32))) : f_L_1000 L xs ko (S0 ++ J) R I 0 65 (nI (5 * i)) = some 1 := by
  obtain ⟨I1, r, I2, e1, e2, e3⟩ := z_prove (J := J) hR hC hK (by omega)
  dsimp only at e2
  simp only [f_L_1000, so0z, so65z, gp1q, e1, bd1q, e2, if_true]
  exact k _ _ _ e3
theorem l_1013 (hR : Lay R) (hC : Core I D (16 * n0)) (hK : Rest (S0 ++ J) R I) (hn : n0 ≤ 512) (h5 : 5 * i + 5 ≤ L) (hL : L ≤ 2560) (k : Kon (n0 + 1) ko (nI (5 * i) + (5 : Int32))) : f_L_1013 L xs ko (S0 ++ J) R I 0 65 (nI (5 * i)) = some 1 := by
  have s1 : scok L (nI (5 * i) + (1 : Int32)) = true := sc_1 h5 hL
  have s2 : scok L (nI (5 * i) + (2 : Int32)) = true := sc_2 h5 hL
  obtain ⟨r, e1, e2⟩ := z_row (J := J) hR hK.2.2.1 (xs ((nI (5 * i)) + (1 : Int32)).toNatClampNeg) (xs ((nI (5 * i)) + (2 : Int32)).toNatClampNeg)
  simp only [f_L_1013, s1, s2, so0z, so65z, gp1q, e1, bd1q, e2, if_true]
  exact k _ _ _ (Rel_up hR hC hK)
theorem l_1046 (hR : Lay R) (hC : Core I D (16 * n0)) (hK : Rest (S0 ++ J) R I) (hn : n0 ≤ 512) (h5 : 5 * i + 5 ≤ L) (hL : L ≤ 2560) (k : Kon (n0 + 1) ko (nI (5 * i) + (5 : Int32))) : f_L_1046 L xs ko (S0 ++ J) R I 0 65 (nI (5 * i)) = some 1 := by
  have s1 : scok L (nI (5 * i) + (1 : Int32)) = true := sc_1 h5 hL
  have s2 : scok L (nI (5 * i) + (2 : Int32)) = true := sc_2 h5 hL
  have s3 : scok L (nI (5 * i) + (3 : Int32)) = true := sc_3 h5 hL
  obtain ⟨I1, r, I2, e1, e2, e3⟩ := z_alterRow (J := J) hR hC hK (xs ((nI (5 * i)) + (1 : Int32)).toNatClampNeg) (xs ((nI (5 * i)) + (2 : Int32)).toNatClampNeg) (xs ((nI (5 * i)) + (3 : Int32)).toNatClampNeg)
  dsimp only at e2
  simp only [f_L_1046, s1, s2, s3, so0z, so65z, gp1q, e1, bd1q, e2, if_true]
  exact k _ _ _ e3
theorem l_1089 (hR : Lay R) (hC : Core I D (16 * n0)) (hK : Rest (S0 ++ J) R I) (hn : n0 ≤ 512) (h5 : 5 * i + 5 ≤ L) (hL : L ≤ 2560) (k : Kon (n0 + 1) ko (nI (5 * i) + (5 : Int32))) : f_L_1089 L xs ko (S0 ++ J) R I 0 65 (nI (5 * i)) = some 1 := by
  obtain ⟨r, I2, D2, e1, e2, e3, e4⟩ := z_judge (J := J) hR hC hK.2.2.1
  simp only [f_L_1089, so0z, so65z, gp1q, e1, bd1q, e2, if_true]
  exact k _ _ _ (Rel_ZZ hR hK e3 e4)
theorem l_1102 (hR : Lay R) (hC : Core I D (16 * n0)) (hK : Rest (S0 ++ J) R I) (hn : n0 ≤ 512) (h5 : 5 * i + 5 ≤ L) (hL : L ≤ 2560) (k : Kon (n0 + 1) ko (nI (5 * i) + (5 : Int32))) : f_L_1102 L xs ko (S0 ++ J) R I 0 65 (nI (5 * i)) = some 1 := by
  have s1 : scok L (nI (5 * i) + (1 : Int32)) = true := sc_1 h5 hL
  have s2 : scok L (nI (5 * i) + (2 : Int32)) = true := sc_2 h5 hL
  have s3 : scok L (nI (5 * i) + (3 : Int32)) = true := sc_3 h5 hL
  obtain ⟨I1, r, I2, e1, e2, e3⟩ := z_sheet (J := J) hR hC hK (xs ((nI (5 * i)) + (1 : Int32)).toNatClampNeg) (xs ((nI (5 * i)) + (2 : Int32)).toNatClampNeg) (xs ((nI (5 * i)) + (3 : Int32)).toNatClampNeg)
  dsimp only at e2
  simp only [f_L_1102, s1, s2, s3, so0z, so65z, gp1q, e1, bd1q, e2, if_true]
  exact k _ _ _ e3
theorem l_1145 (hR : Lay R) (hC : Core I D (16 * n0)) (hK : Rest (S0 ++ J) R I) (hn : n0 ≤ 512) (h5 : 5 * i + 5 ≤ L) (hL : L ≤ 2560) (k : Kon (n0 + 1) ko (nI (5 * i) + (5 : Int32))) : f_L_1145 L xs ko (S0 ++ J) R I 0 65 (nI (5 * i)) = some 1 := by
  have s1 : scok L (nI (5 * i) + (1 : Int32)) = true := sc_1 h5 hL
  have s2 : scok L (nI (5 * i) + (2 : Int32)) = true := sc_2 h5 hL
  have s3 : scok L (nI (5 * i) + (3 : Int32)) = true := sc_3 h5 hL
  obtain ⟨I1, r, I2, e1, e2, e3⟩ := z_write (J := J) hR hC hK (xs ((nI (5 * i)) + (1 : Int32)).toNatClampNeg) (xs ((nI (5 * i)) + (2 : Int32)).toNatClampNeg) (xs ((nI (5 * i)) + (3 : Int32)).toNatClampNeg)
  dsimp only at e2
  simp only [f_L_1145, s1, s2, s3, so0z, so65z, gp1q, e1, bd1q, e2, if_true]
  exact k _ _ _ e3
theorem l_1188 (hR : Lay R) (hC : Core I D (16 * n0)) (hK : Rest (S0 ++ J) R I) (hn : n0 ≤ 512) (h5 : 5 * i + 5 ≤ L) (hL : L ≤ 2560) (k : Kon (n0 + 1) ko (nI (5 * i) + (5 : Int32))) : f_L_1188 L xs ko (S0 ++ J) R I 0 65 (nI (5 * i)) = some 1 := by
  have s1 : scok L (nI (5 * i) + (1 : Int32)) = true := sc_1 h5 hL
  have s2 : scok L (nI (5 * i) + (2 : Int32)) = true := sc_2 h5 hL
  have s3 : scok L (nI (5 * i) + (3 : Int32)) = true := sc_3 h5 hL
  obtain ⟨r, e1, e2⟩ := z_item (J := J) hR hK.2.2.2.1 (xs ((nI (5 * i)) + (1 : Int32)).toNatClampNeg) (xs ((nI (5 * i)) + (2 : Int32)).toNatClampNeg) (xs ((nI (5 * i)) + (3 : Int32)).toNatClampNeg)
  simp only [f_L_1188, s1, s2, s3, so0z, so65z, gp1q, e1, bd1q, e2, if_true]
  exact k _ _ _ (Rel_up hR hC hK)
theorem l_1231 (hR : Lay R) (hC : Core I D (16 * n0)) (hK : Rest (S0 ++ J) R I) (hn : n0 ≤ 512) (h5 : 5 * i + 5 ≤ L) (hL : L ≤ 2560) (k : Kon (n0 + 1) ko (nI (5 * i) + (5 : Int32))) : f_L_1231 L xs ko (S0 ++ J) R I 0 65 (nI (5 * i)) = some 1 := by
  have s1 : scok L (nI (5 * i) + (1 : Int32)) = true := sc_1 h5 hL
  have s2 : scok L (nI (5 * i) + (2 : Int32)) = true := sc_2 h5 hL
  have s3 : scok L (nI (5 * i) + (3 : Int32)) = true := sc_3 h5 hL
  obtain ⟨I1, r, I2, D2, e1, e2, e3, e4⟩ := z_goes (J := J) hR hC hK.2.2.2.1 (xs ((nI (5 * i)) + (1 : Int32)).toNatClampNeg) (xs ((nI (5 * i)) + (2 : Int32)).toNatClampNeg) (xs ((nI (5 * i)) + (3 : Int32)).toNatClampNeg)
  dsimp only at e2
  simp only [f_L_1231, s1, s2, s3, so0z, so65z, gp1q, e1, bd1q, e2, if_true]
  exact k _ _ _ (Rel_ZZ hR hK e3 e4)
theorem l_1274 (hR : Lay R) (hC : Core I D (16 * n0)) (hK : Rest (S0 ++ J) R I) (hn : n0 ≤ 512) (h5 : 5 * i + 5 ≤ L) (hL : L ≤ 2560) (k : Kon (n0 + 1) ko (nI (5 * i) + (5 : Int32))) : f_L_1274 L xs ko (S0 ++ J) R I 0 65 (nI (5 * i)) = some 1 := by
  have s1 : scok L (nI (5 * i) + (1 : Int32)) = true := sc_1 h5 hL
  have s2 : scok L (nI (5 * i) + (2 : Int32)) = true := sc_2 h5 hL
  have s3 : scok L (nI (5 * i) + (3 : Int32)) = true := sc_3 h5 hL
  obtain ⟨r, I2, D2, e1, e2, e3, e4⟩ := z_goats (J := J) hR hC hK.2.2.2.1 (xs ((nI (5 * i)) + (1 : Int32)).toNatClampNeg) (xs ((nI (5 * i)) + (2 : Int32)).toNatClampNeg) (xs ((nI (5 * i)) + (3 : Int32)).toNatClampNeg)
  simp only [f_L_1274, s1, s2, s3, so0z, so65z, gp1q, e1, bd1q, e2, if_true]
  exact k _ _ _ (Rel_ZZ hR hK e3 e4)
theorem l_1317 (hR : Lay R) (hC : Core I D (16 * n0)) (hK : Rest (S0 ++ J) R I) (hn : n0 ≤ 512) (h5 : 5 * i + 5 ≤ L) (hL : L ≤ 2560) (k : Kon (n0 + 1) ko (nI (5 * i) + (5 : Int32))) : f_L_1317 L xs ko (S0 ++ J) R I 0 65 (nI (5 * i)) = some 1 := by
  have s1 : scok L (nI (5 * i) + (1 : Int32)) = true := sc_1 h5 hL
  have s2 : scok L (nI (5 * i) + (2 : Int32)) = true := sc_2 h5 hL
  have s3 : scok L (nI (5 * i) + (3 : Int32)) = true := sc_3 h5 hL
  obtain ⟨I1, r, I2, e1, e2, e3⟩ := z_shelf (J := J) hR hC hK (xs ((nI (5 * i)) + (1 : Int32)).toNatClampNeg) (xs ((nI (5 * i)) + (2 : Int32)).toNatClampNeg) (xs ((nI (5 * i)) + (3 : Int32)).toNatClampNeg)
  dsimp only at e2
  simp only [f_L_1317, s1, s2, s3, so0z, so65z, gp1q, e1, bd1q, e2, if_true]
  exact k _ _ _ e3
theorem l_1360 (hR : Lay R) (hC : Core I D (16 * n0)) (hK : Rest (S0 ++ J) R I) (hn : n0 ≤ 512) (h5 : 5 * i + 5 ≤ L) (hL : L ≤ 2560) (k : Kon (n0 + 1) ko (nI (5 * i) + (5 : Int32))) : f_L_1360 L xs ko (S0 ++ J) R I 0 65 (nI (5 * i)) = some 1 := by
  have s1 : scok L (nI (5 * i) + (1 : Int32)) = true := sc_1 h5 hL
  have s2 : scok L (nI (5 * i) + (2 : Int32)) = true := sc_2 h5 hL
  obtain ⟨r, e1, e2⟩ := z_taken (J := J) hR hC hK.2.2.2.2.1 (xs ((nI (5 * i)) + (1 : Int32)).toNatClampNeg) (xs ((nI (5 * i)) + (2 : Int32)).toNatClampNeg)
  simp only [f_L_1360, s1, s2, so0z, so65z, gp1q, e1, bd1q, e2, if_true]
  exact k _ _ _ (Rel_up hR hC hK)
theorem l_1393 (hR : Lay R) (hC : Core I D (16 * n0)) (hK : Rest (S0 ++ J) R I) (hn : n0 ≤ 512) (h5 : 5 * i + 5 ≤ L) (hL : L ≤ 2560) (k : Kon (n0 + 1) ko (nI (5 * i) + (5 : Int32))) : f_L_1393 L xs ko (S0 ++ J) R I 0 65 (nI (5 * i)) = some 1 := by
  have s1 : scok L (nI (5 * i) + (1 : Int32)) = true := sc_1 h5 hL
  have s2 : scok L (nI (5 * i) + (2 : Int32)) = true := sc_2 h5 hL
  have s3 : scok L (nI (5 * i) + (3 : Int32)) = true := sc_3 h5 hL
  obtain ⟨J2, R2, I1, r, I2, e1, e2, e3⟩ := z_act (J := J) hR hC hK (xs ((nI (5 * i)) + (1 : Int32)).toNatClampNeg) (xs ((nI (5 * i)) + (2 : Int32)).toNatClampNeg) (xs ((nI (5 * i)) + (3 : Int32)).toNatClampNeg)
  simp only [f_L_1393, s1, s2, s3, so0z, so65z, gp1q, e1, bd1q, e2, if_true]
  exact k _ _ _ e3
theorem l_1436 (hR : Lay R) (hC : Core I D (16 * n0)) (hK : Rest (S0 ++ J) R I) (hn : n0 ≤ 512) (h5 : 5 * i + 5 ≤ L) (hL : L ≤ 2560) (k : Kon (n0 + 1) ko (nI (5 * i) + (5 : Int32))) : f_L_1436 L xs ko (S0 ++ J) R I 0 65 (nI (5 * i)) = some 1 := by
  have s1 : scok L (nI (5 * i) + (1 : Int32)) = true := sc_1 h5 hL
  obtain ⟨r, e1, e2⟩ := z_trace (J := J) hR hK.2.2.2.2.2 (xs ((nI (5 * i)) + (1 : Int32)).toNatClampNeg)
  simp only [f_L_1436, s1, so0z, so65z, gp1q, e1, bd1q, e2, if_true]
  exact k _ _ _ (Rel_up hR hC hK)
theorem l_1459 (hR : Lay R) (hC : Core I D (16 * n0)) (hK : Rest (S0 ++ J) R I) (hn : n0 ≤ 512) (h5 : 5 * i + 5 ≤ L) (hL : L ≤ 2560) (k : Kon (n0 + 1) ko (nI (5 * i) + (5 : Int32))) : f_L_1459 L xs ko (S0 ++ J) R I 0 65 (nI (5 * i)) = some 1 := by
  have s1 : scok L (nI (5 * i) + (1 : Int32)) = true := sc_1 h5 hL
  obtain ⟨r, e1, e2⟩ := z_many (J := J) hR hC hK (xs ((nI (5 * i)) + (1 : Int32)).toNatClampNeg)
  simp only [f_L_1459, s1, so0z, so65z, gp1q, e1, bd1q, e2, if_true]
  exact k _ _ _ (Rel_up hR hC hK)
theorem l_1482 (hR : Lay R) (hC : Core I D (16 * n0)) (hK : Rest (S0 ++ J) R I) (hn : n0 ≤ 512) (h5 : 5 * i + 5 ≤ L) (hL : L ≤ 2560) (k : Kon (n0 + 1) ko (nI (5 * i) + (5 : Int32))) : f_L_1482 L xs ko (S0 ++ J) R I 0 65 (nI (5 * i)) = some 1 := by
  obtain ⟨I1, r, I2, e1, e2, e3⟩ := z_keep (J := J) hR hC hK
  dsimp only at e2
  simp only [f_L_1482, so0z, so65z, gp1q, e1, bd1q, e2, if_true]
  exact k _ _ _ e3
theorem l_1495 (hR : Lay R) (hC : Core I D (16 * n0)) (hK : Rest (S0 ++ J) R I) (hn : n0 ≤ 512) (h5 : 5 * i + 5 ≤ L) (hL : L ≤ 2560) (k : Kon (n0 + 1) ko (nI (5 * i) + (5 : Int32))) : f_L_1495 L xs ko (S0 ++ J) R I 0 65 (nI (5 * i)) = some 1 := by
  obtain ⟨I1, r, I2, e1, e2, e3⟩ := z_again (J := J) hR hC hK
  dsimp only at e2
  simp only [f_L_1495, so0z, so65z, gp1q, e1, bd1q, e2, if_true]
  exact k _ _ _ e3
end CASES
section LOOP
variable {L : Nat} {xs : Nat → Int32}
theorem lp_end {i : Nat} (hL : L ≤ 2560) (hi : i ≤ 512) : (nI L - (5 : Int32) < nI (5 * i)) = (L < 5 * i + 5) := by
  by_cases h : 5 ≤ L
  · rw [show (5 : Int32) = nI 5 from rfl, n_sub h, n_lt (by omega) (by omega)]
    exact propext ⟨fun q => by omega, fun q => by omega⟩
  · have q : nI L - (5 : Int32) < 0 := by
      have : L = 0 ∨ L = 1 ∨ L = 2 ∨ L = 3 ∨ L = 4 := by omega
      rcases this with e | e | e | e | e <;> subst e <;> decide
    refine propext ⟨fun _ => by omega, fun _ => ?_⟩
    exact Int32.lt_of_lt_of_le q (nI_le (a := 0) (Nat.zero_le _) (by omega))
theorem lp_loop (hL : L ≤ 2560) : ∀ (k i : Nat) (S : Sh) (R : Rw) (I : Iw), i + k = 512 → Rel i S R I → f_L_18 L xs (k + 1) S R I 0 65 (nI (5 * i)) = some 1
  | k, i, S, R, I, hk, hr => by
    rw [f_L_18]
    by_cases hc : L < 5 * i + 5
    · rw [if_pos (by rw [lp_end hL (by omega)]; exact hc)]
    · rw [if_neg (by rw [lp_end hL (by omega)]; exact hc), sc_n (k := 5 * i) (by omega) hL, gp1q]
      obtain ⟨J, D, rfl, hR, hC, hK⟩ := hr
      have h5 : 5 * i + 5 ≤ L := by omega
      obtain ⟨k, rfl⟩ : ∃ k', k = k' + 1 := ⟨k - 1, by omega⟩
      have kk : Kon (i + 1) (f_L_18 L xs (k + 1)) (nI (5 * i) + (5 : Int32)) := fun S R I h => by
        rw [show nI (5 * i) + (5 : Int32) = nI (5 * (i + 1)) from nI_add _ _]
        exact lp_loop hL k (i + 1) S R I (by omega) h
      exact ite_o (l_248 hR hC hK (by omega) h5 hL kk) (ite_o (l_301 hR hC hK (by omega) h5 hL kk) (ite_o (l_334 hR hC hK (by omega) h5 hL kk) (ite_o (l_377 hR hC hK (by omega) h5 hL kk) (ite_o (l_410 hR hC hK (by omega) h5 hL kk) (ite_o (l_443 hR hC hK (by omega) h5 hL kk) (ite_o (l_506 hR hC hK (by omega) h5 hL kk) (ite_o (l_519 hR hC hK (by omega) h5 hL kk) (ite_o (l_552 hR hC hK (by omega) h5 hL kk) (ite_o (l_575 hR hC hK (by omega) h5 hL kk) (ite_o (l_588 hR hC hK (by omega) h5 hL kk) (ite_o (l_601 hR hC hK (by omega) h5 hL kk) (ite_o (l_624 hR hC hK (by omega) h5 hL kk) (ite_o (l_637 hR hC hK (by omega) h5 hL kk) (ite_o (l_660 hR hC hK (by omega) h5 hL kk) (ite_o (l_673 hR hC hK (by omega) h5 hL kk) (ite_o (l_686 hR hC hK (by omega) h5 hL kk) (ite_o (l_709 hR hC hK (by omega) h5 hL kk) (ite_o (l_722 hR hC hK (by omega) h5 hL kk) (ite_o (l_745 hR hC hK (by omega) h5 hL kk) (ite_o (l_758 hR hC hK (by omega) h5 hL kk) (ite_o (l_781 hR hC hK (by omega) h5 hL kk) (ite_o (l_794 hR hC hK (by omega) h5 hL kk) (ite_o (l_807 hR hC hK (by omega) h5 hL kk) (ite_o (l_820 hR hC hK (by omega) h5 hL kk) (ite_o (l_833 hR hC hK (by omega) h5 hL kk) (ite_o (l_846 hR hC hK (by omega) h5 hL kk) (ite_o (l_859 hR hC hK (by omega) h5 hL kk) (ite_o (l_892 hR hC hK (by omega) h5 hL kk) (ite_o (l_905 hR hC hK (by omega) h5 hL kk) (ite_o (l_928 hR hC hK (by omega) h5 hL kk) (ite_o (l_941 hR hC hK (by omega) h5 hL kk) (ite_o (l_964 hR hC hK (by omega) h5 hL kk) (ite_o (l_977 hR hC hK (by omega) h5 hL kk) (ite_o (l_1000 hR hC hK (by omega) h5 hL kk) (ite_o (l_1013 hR hC hK (by omega) h5 hL kk) (ite_o (l_1046 hR hC hK (by omega) h5 hL kk) (ite_o (l_1089 hR hC hK (by omega) h5 hL kk) (ite_o (l_1102 hR hC hK (by omega) h5 hL kk) (ite_o (l_1145 hR hC hK (by omega) h5 hL kk) (ite_o (l_1188 hR hC hK (by omega) h5 hL kk) (ite_o (l_1231 hR hC hK (by omega) h5 hL kk) (ite_o (l_1274 hR hC hK (by omega) h5 hL kk) (ite_o (l_1317 hR hC hK (by omega) h5 hL kk) (ite_o (l_1360 hR hC hK (by omega) h5 hL kk) (ite_o (l_1393 hR hC hK (by omega) h5 hL kk) (ite_o (l_1436 hR hC hK (by omega) h5 hL kk) (ite_o (l_1459 hR hC hK (by omega) h5 hL kk) (ite_o (l_1482 hR hC hK (by omega) h5 hL kk) (ite_o (l_1495 hR hC hK (by omega) h5 hL kk) (kk _ _ _ (Rel_up hR hC hK)))))))))))))))))))))))))))))))))))))))))))))))))))
end LOOP
