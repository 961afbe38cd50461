/-! THE CLASS' ORDERS: a whole study -/
def VisitOK (J : Sh) (R : Rw) (D : Dt) (T k n : Nat) : Prop := ∀ s l dep I go, cnt s = k → dep + k ≤ 9 → s < 512 → l ≤ d_n D → k ≤ afD D → OC I D T → InvO I D T go k →
  ∃ I' go', f_X2_visit n (S0 ++ J) R I 44 (nI s) (nI l - nI 1) (nI dep) = some I' ∧ frO I I' ∧ OC I' D T ∧ InvO I' D T go' k ∧ I' 45 (ix s l) = nI T ∧ (∀ i, go'.testBit i = true ↔ go.testBit i = true ∨ (oG (fre D) k s l).testBit i = true) ∧
    (∀ s' l', s' < 512 → l' ≤ 9 → k < cnt s' → ∀ a, 45 ≤ a → a ≤ 49 → I' a (ix s' l') = I a (ix s' l')) ∧ (∀ j, I 45 j = nI T → I' 45 j = nI T)
theorem fre_bit {D : Dt} {s l g : Nat} (h : (fre D s l).testBit g = true) : g < d_n D ∧ s.testBit g = true := by
  rw [fre, mk_bit, Bool.and_eq_true, decide_eq_true_eq, mayb, Bool.and_eq_true, topb, Bool.and_eq_true] at h
  exact ⟨h.1, h.2.1.1⟩
theorem fre_lt {D : Dt} (hV : VD D) (s l : Nat) : fre D s l < 1024 := mk_lt _ _ (by have := hV.1; omega)
theorem ix_inj {s l s' l' : Nat} (h1 : l ≤ 9) (h2 : l' ≤ 9) (h : ix s' l' = ix s l) : s' = s ∧ l' = l := by unfold ix at h; omega
def fW (D : Dt) (k s l g : Nat) : Nat := if (fre D s l).testBit g then oW (fre D) k (mdiff s (2 ^ g)) (g + 1) else 0
def fM (D : Dt) (k s l g : Nat) : Nat := if (fre D s l).testBit g then oM (fre D) k (mdiff s (2 ^ g)) (g + 1) + 1 else 0
def fC (D : Dt) (k s l g : Nat) : Option Nat := if (fre D s l).testBit g then (oC (fre D) (feD D) (afD D) k (mdiff s (2 ^ g)) (g + 1)).map (fun c => feD D g * (afD D - cnt s + 1) + c) else none
def fX (D : Dt) (k s l g : Nat) : Bool := (fre D s l).testBit g && !oX (fre D) k (mdiff s (2 ^ g)) (g + 1)
section STUDY
variable {J : Sh} {R : Rw} {D : Dt} {T : Nat}
theorem p_loop (hR : Lay R) (hV : VD D) {k n s l dep : Nat} (hv : VisitOK J R D T k n) (hk : cnt s = k + 1) (hd : dep + (k + 1) ≤ 9) (hs : s < 512) (hl : l ≤ 9) (haf : k + 1 ≤ afD D) :
    ∀ (r t f : Nat) (I : Iw) (go : Nat), t + r = 9 → r < f → OC I D T → InvO I D T go k → I 45 (ix s l) = nI T → I 46 (ix s l) = nI (sm (fW D k s l) t) → I 47 (ix s l) = nI (mx (fM D k s l) t) → I 48 (ix s l) = cI (mn none (fC D k s l) t) → I 49 (ix s l) = yn (anyB (fX D k s l) t) →
    ∃ I' go', f_X2_visit_113 (f_X2_visit n) (S0 ++ J) R f I 44 (nI s) (nI dep) (nI (ix s l)) (nI (fre D s l)) (nI t) = some I' ∧ frO I I' ∧ OC I' D T ∧ InvO I' D T go' k ∧ I' 45 (ix s l) = nI T ∧ I' 46 (ix s l) = nI (sm (fW D k s l) 9) ∧ I' 47 (ix s l) = nI (mx (fM D k s l) 9) ∧ I' 48 (ix s l) = cI (mn none (fC D k s l) 9) ∧ I' 49 (ix s l) = yn (anyB (fX D k s l) 9) ∧
      (∀ i, go'.testBit i = true ↔ go.testBit i = true ∨ ∃ g, t ≤ g ∧ g < 9 ∧ (fre D s l).testBit g = true ∧ (oG (fre D) k (mdiff s (2 ^ g)) (g + 1)).testBit i = true) ∧
      (∀ s' l', s' < 512 → l' ≤ 9 → k < cnt s' → ¬ (s' = s ∧ l' = l) → ∀ a, 45 ≤ a → a ≤ 49 → I' a (ix s' l') = I a (ix s' l')) ∧ (∀ j, I 45 j = nI T → I' 45 j = nI T) ∧ (∀ g, t ≤ g → g < 9 → (fre D s l).testBit g = true → I' 45 (ix (mdiff s (2 ^ g)) (g + 1)) = nI T) := by
  have h9 := hV.1
  intro r
  induction r with
  | zero =>
    intro t f I go ht hf hO hI m45 m46 m47 m48 m49
    have : t = 9 := by omega
    subst this
    obtain ⟨f, rfl⟩ := Nat.exists_eq_succ_of_ne_zero (n := f) (by omega)
    refine ⟨I, go, ?_, fun _ _ _ _ => rfl, hO, hI, m45, m46, m47, m48, m49, fun i => ⟨Or.inl, ?_⟩, fun _ _ _ _ _ _ _ _ _ => rfl, fun _ h => h, fun g h1 h2 _ => by omega⟩
    · rw [f_X2_visit_113, if_pos (by decide)]
    · rintro (h | ⟨g, h1, h2, _⟩)
      · exact h
      · omega
  | succ r ih =>
    intro t f I go ht hf hO hI m45 m46 m47 m48 m49
    obtain ⟨f, rfl⟩ := Nat.exists_eq_succ_of_ne_zero (n := f) (by omega)
    have hF := fre_lt hV s l
    rw [f_X2_visit_113]
    simp (disch := omega) only [so_44, ao_45, ao_46, ao_47, ao_48, ao_49, ao_50, ao_51, ly_44_0 hR, ly_44_1 hR, ly_44_3 hR, ly_44_4 hR, ly_44_5 hR, ly_44_6 hR, ly_44_7 hR, ly_44_10 hR, x_holds, f_X2_visit_140, lit, gp1, rl1, rs1, bd1, lt1, n_add, n_sub, n_dec, n_le, n_lt, n_eq, n_in, nI_clamp, n_mul, m_or, m_and, m_pow, m_bit, m_dif, n_neg, yn_0, yn_1, yn_z, yn_d, one31, Nat.add_sub_cancel, Nat.not_lt_zero, if_true, if_false, ite_true, ite_false]
    rw [if_neg (by omega)]
    by_cases hb : (fre D s l).testBit t = true
    · rw [if_neg (by simpa using hb)]
      have hbt := fre_bit hb
      have hcd := cnt_diff hbt.2 (by omega)
      have hr : mdiff s (2 ^ t) < 512 := Nat.lt_of_le_of_lt Nat.and_le_left hs
      obtain ⟨I3, go3, v1, v2, v3, v4, v5, v6, v7, v8⟩ := hv (mdiff s (2 ^ t)) (t + 1) (dep + 1) I go (by omega) (by omega) hr (by omega) (by omega) hO hI
      rw [n_pred] at v1
      have keep : ∀ a, 45 ≤ a → a ≤ 49 → I3 a (ix s l) = I a (ix s l) := v7 s l hs hl (by omega)
      have hE := (v4.2.2 (mdiff s (2 ^ t)) (t + 1) hr (by omega) (by omega) v5).1
      have hMt : mx (fM D k s l) t ≤ 10 := mx_le (fun g => by
        unfold fM
        split
        · have := oM_le (fre D) k (mdiff s (2 ^ g)) (g + 1); omega
        · omega) t
      have hCt : ∀ y, mn none (fC D k s l) t = some y → y < 2 ^ 30 := fun y hy => by
        have := mn_le (z := none) (f := fC D k s l) (M := 2000000) (fun c h => by cases h) (fun g c h => by
          unfold fC at h
          split at h
          · rename_i hb2
            cases e : oC (fre D) (feD D) (afD D) k (mdiff s (2 ^ g)) (g + 1) with
            | none => rw [e] at h; cases h
            | some c2 =>
              rw [e] at h
              have h2 := oC_lt hV (by omega) e
              have h3 : feD D g * (afD D - cnt s + 1) ≤ 5000 * 11 := Nat.mul_le_mul (Nat.le_of_lt (feD_lt hV g)) (by have : afD D ≤ 10 := cn_le (s := insm D) 10; omega)
              simp only [Option.map_some, Option.some.injEq] at h
              omega
          · cases h) t y hy
        omega
      obtain ⟨I4, w1, w2, w3, w4, w5, w6⟩ := p_behind (J := J) (dep := dep) hR hV hs hl (show t < 9 by omega) hbt.2 (by omega) v3 v1 hE ((keep 46 (by omega) (by omega)).trans m46) ((keep 47 (by omega) (by omega)).trans m47) ((keep 48 (by omega) (by omega)).trans m48) ((keep 49 (by omega) (by omega)).trans m49) (by omega) hCt
      rw [show cnt s - 1 = k by omega] at w3 w4 w5 w6
      rw [w1]
      have fr4 : frO I3 I4 := fun a j h1 h2 => w2 a j (by omega)
      have hO4 : OC I4 D T := frO_OC fr4 (fun i hi => by rw [w2 45 i (by omega)]; exact v3.2.2.2.2 i hi) v3
      have other : ∀ s' l', s' < 512 → l' ≤ 9 → ¬ (s' = s ∧ l' = l) → ∀ a, I4 a (ix s' l') = I3 a (ix s' l') := fun s' l' h1 h2 h3 a => w2 a _ (fun q => h3 (ix_inj hl h2 q.2.2))
      have hI4 : InvO I4 D T go3 k := by
        refine ⟨by rw [w2 44 9 (by omega)]; exact v4.1, v4.2.1, fun s' l' h1 h2 h3 h4 => ?_⟩
        have h5 : ¬ (s' = s ∧ l' = l) := fun q => by rw [q.1] at h3; omega
        rw [other s' l' h1 h2 h5] at h4
        obtain ⟨⟨e1, e2, e3, e4⟩, e5⟩ := v4.2.2 s' l' h1 h2 h3 h4
        exact ⟨⟨by rw [other s' l' h1 h2 h5]; exact e1, by rw [other s' l' h1 h2 h5]; exact e2, by rw [other s' l' h1 h2 h5]; exact e3, by rw [other s' l' h1 h2 h5]; exact e4⟩, e5.1, fun g hg => by rw [w2 45 _ (by omega)]; exact e5.2 g hg⟩
      obtain ⟨I', go', x1, x2, x3, x4, x5, x6, x7, x8, x9, x10, x11, x12, x13⟩ := ih (t + 1) f I4 go3 (by omega) (by omega) hO4 hI4 (by rw [w2 45 _ (by omega), keep 45 (by omega) (by omega)]; exact m45)
        (by rw [w3, sm, fW, if_pos hb]) (by rw [w4, mx, fM, if_pos hb]) (by rw [w5, mn, fC, if_pos hb]) (by rw [w6, anyB, fX, hb]; rfl)
      have mk13 : ∀ g, t ≤ g → g < 9 → (fre D s l).testBit g = true → I' 45 (ix (mdiff s (2 ^ g)) (g + 1)) = nI T := fun g h1 h2 h3 => by
        by_cases e : g = t
        · subst e; exact x12 _ (by rw [w2 45 _ (by omega)]; exact v5)
        · exact x13 g (by omega) h2 h3
      refine ⟨I', go', x1, fun a j h1 h2 => by rw [x2 a j h1 h2, fr4 a j h1 h2, v2 a j h1 h2], x3, x4, x5, x6, x7, x8, x9, fun i => ?_, fun s' l' h1 h2 h3 h4 a h5 h6 => by rw [x11 s' l' h1 h2 h3 h4 a h5 h6, other s' l' h1 h2 h4, v7 s' l' h1 h2 h3 a h5 h6], fun j hj => x12 j (by rw [w2 45 j (by omega)]; exact v8 j hj), mk13⟩
      rw [x10, v6]
      constructor
      · rintro ((h | h) | ⟨g, h1, h2, h3⟩)
        · exact Or.inl h
        · exact Or.inr ⟨t, Nat.le_refl _, by omega, hb, h⟩
        · exact Or.inr ⟨g, by omega, h2, h3⟩
      · rintro (h | ⟨g, h1, h2, h3, h4⟩)
        · exact Or.inl (Or.inl h)
        · by_cases e : g = t
          · subst e; exact Or.inl (Or.inr h4)
          · exact Or.inr ⟨g, by omega, h2, h3, h4⟩
    · rw [if_pos (by simpa using hb)]
      obtain ⟨I', go', x1, x2, x3, x4, x5, x6, x7, x8, x9, x10, x11, x12, x13⟩ := ih (t + 1) f I go (by omega) (by omega) hO hI m45
        (by rw [m46, sm, fW, if_neg hb, Nat.add_zero]) (by rw [m47, mx, fM, if_neg hb, Nat.max_zero]) (by rw [m48, mn, fC, if_neg hb, omin_none]) (by rw [m49, anyB, fX, show (fre D s l).testBit t = false by simpa using hb]; simp)
      refine ⟨I', go', x1, x2, x3, x4, x5, x6, x7, x8, x9, fun i => ?_, x11, x12, fun g h1 h2 h3 => x13 g (by have : g ≠ t := fun q => hb (by rw [← q]; exact h3); omega) h2 h3⟩
      rw [x10]
      refine or_congr Iff.rfl ⟨fun ⟨g, h1, h2⟩ => ⟨g, by omega, h2⟩, fun ⟨g, h1, h2, h3, h4⟩ => ⟨g, ?_, h2, h3, h4⟩⟩
      have : g ≠ t := fun q => hb (by rw [← q]; exact h3)
      omega
theorem p_loop0 (g0 : Sh → Rw → Iw → Nat → Int32 → Int32 → Int32 → Option Iw) {S : Sh} {I : Iw} {x1 x3 x4 : Int32} : ∀ (r t f : Nat), t + r = 9 → r < f → f_X2_visit_113 g0 S R f I 44 x1 x3 x4 (nI 0) (nI t) = some I := by
  intro r
  induction r with
  | zero =>
    intro t f ht hf
    have : t = 9 := by omega
    subst this
    obtain ⟨f, rfl⟩ := Nat.exists_eq_succ_of_ne_zero (n := f) (by omega)
    rw [f_X2_visit_113, if_pos (by decide)]
  | succ r ih =>
    intro t f ht hf
    obtain ⟨f, rfl⟩ := Nat.exists_eq_succ_of_ne_zero (n := f) (by omega)
    rw [f_X2_visit_113]
    simp (disch := omega) only [x_holds, f_X2_visit_140, lit, gp1, rl1, rs1, bd1, lt1, n_add, n_sub, n_dec, n_le, n_lt, n_eq, n_in, nI_clamp, n_mul, m_or, m_and, m_pow, m_bit, m_dif, n_neg, yn_0, yn_1, yn_z, yn_d, one31, Nat.add_sub_cancel, Nat.not_lt_zero, if_true, if_false, ite_true, ite_false]
    rw [if_neg (by omega), if_pos (Nat.zero_testBit t)]
    exact ih (t + 1) f (by omega) (by omega)
theorem fre_0 {D : Dt} {l : Nat} : fre D 0 l = 0 := by
  refine Nat.eq_of_testBit_eq fun i => ?_
  rw [Nat.zero_testBit]
  cases h : (fre D 0 l).testBit i with
  | false => rfl
  | true =>
    have := (fre_bit h).2
    rw [Nat.zero_testBit] at this
    cases this
theorem oG_bit {F : Nat → Nat → Nat} {k s l i : Nat} : (oG F (k + 1) s l).testBit i = true ↔ (∃ g, g < 9 ∧ (F s l).testBit g = true ∧ (g = i ∨ (oG F k (mdiff s (2 ^ g)) (g + 1)).testBit i = true)) := by
  rw [oG, orF_bit]
  refine exists_congr fun g => and_congr_right fun _ => ?_
  by_cases h : (F s l).testBit g = true
  · simp only [if_pos h, Nat.testBit_or, Nat.testBit_two_pow, Bool.or_eq_true, decide_eq_true_eq]
    exact ⟨fun q => ⟨h, q⟩, fun q => q.2⟩
  · simp only [if_neg h, Nat.zero_testBit]
    exact ⟨fun q => (by cases q), fun q => absurd q.1 h⟩
/-- a state met anew: what stands ahead of the loop -/
theorem p_fresh (hR : Lay R) (hV : VD D) {s l go : Nat} {I : Iw} (g0 : Sh → Rw → Iw → Nat → Int32 → Int32 → Int32 → Option Iw) {dep : Nat} (hd : dep ≤ 9) (hs : s < 512) (hl : l ≤ d_n D) (hO : OC I D T) (hI : I 44 9 = nI go) (hm : ¬ I 45 (ix s l) = nI T) :
    ∃ I6, f_X2_visit_b g0 (S0 ++ J) R I 44 (nI s) (nI l - nI 1) (nI dep) = f_X2_visit_113 g0 (S0 ++ J) R 512 I6 44 (nI s) (nI dep) (nI (ix s l)) (nI (fre D s l)) (nI 0) ∧ frO I I6 ∧ OC I6 D T ∧ I6 44 9 = nI (go ||| fre D s l) ∧ I6 45 (ix s l) = nI T ∧ I6 46 (ix s l) = nI (if s = 0 then 1 else 0) ∧ I6 47 (ix s l) = nI 0 ∧ I6 48 (ix s l) = cI (if s = 0 then some 0 else none) ∧ I6 49 (ix s l) = yn false ∧
      (∀ a j, 45 ≤ a → a ≤ 49 → j ≠ ix s l → I6 a j = I a j) := by
  have h9 := hV.1
  have hl9 : l ≤ 9 := by omega
  have c2 := hO.2.1
  have i1 : ix s l < 5120 := by unfold ix; omega
  have hC1 : ∀ I5 : Iw, (∀ a j, a < 44 → I5 a j = I a j) → CR I5 1 D := fun I5 h => CR_fr (fun a j h1 h2 => h a j (by omega)) hO.1
  rw [f_X2_visit_b]
  simp only [lit, x_state hs hl9, bd1]
  have go5 : ∀ v, ∃ I6, f_X2_visit_54 g0 (S0 ++ J) R (up2 I 45 (ix s l) (nI T)) 44 (nI s) (nI l - nI 1) (nI dep) (nI (ix s l)) (nI v) (nI (ix s l)) 46 = f_X2_visit_113 g0 (S0 ++ J) R 512 I6 44 (nI s) (nI dep) (nI (ix s l)) (nI (fre D s l)) (nI 0) ∧ frO I I6 ∧ OC I6 D T ∧ I6 44 9 = nI (go ||| fre D s l) ∧ I6 45 (ix s l) = nI T ∧ I6 46 (ix s l) = nI v ∧ I6 47 (ix s l) = nI 0 ∧ I6 48 (ix s l) = cI (if s = 0 then some 0 else none) ∧ I6 49 (ix s l) = yn false ∧
      (∀ a j, 45 ≤ a → a ≤ 49 → j ≠ ix s l → I6 a j = I a j) := by
    intro v
    have hz : (if s = 0 then nI 0 else nI 2147483647) = cI (if s = 0 then some 0 else none) := by split <;> rfl
    have fin : ∀ I5 : Iw, I5 = up2 (up2 (up2 (up2 (up2 I 45 (ix s l) (nI T)) 46 (ix s l) (nI v)) 47 (ix s l) (nI 0)) 48 (ix s l) (cI (if s = 0 then some 0 else none))) 49 (ix s l) (nI 0) → f_X7_mayGo (S0 ++ J) R I5 1 (nI s) (nI l - nI 1) = some (nI (fre D s l)) ∧ I5 44 9 = nI go ∧
        frO I (up2 I5 44 9 (nI (go ||| fre D s l))) ∧ OC (up2 I5 44 9 (nI (go ||| fre D s l))) D T ∧ up2 I5 44 9 (nI (go ||| fre D s l)) 44 9 = nI (go ||| fre D s l) ∧ up2 I5 44 9 (nI (go ||| fre D s l)) 45 (ix s l) = nI T ∧ up2 I5 44 9 (nI (go ||| fre D s l)) 46 (ix s l) = nI v ∧ up2 I5 44 9 (nI (go ||| fre D s l)) 47 (ix s l) = nI 0 ∧ up2 I5 44 9 (nI (go ||| fre D s l)) 48 (ix s l) = cI (if s = 0 then some 0 else none) ∧ up2 I5 44 9 (nI (go ||| fre D s l)) 49 (ix s l) = yn false ∧ (∀ a j, 45 ≤ a → a ≤ 49 → j ≠ ix s l → up2 I5 44 9 (nI (go ||| fre D s l)) a j = I a j) := by
      intro I5 e
      have fr : frO I (up2 I5 44 9 (nI (go ||| fre D s l))) := fun a j h1 h2 => by
        rw [u_eq, if_neg h2, e, u_eq, if_neg (by omega), u_eq, if_neg (by omega), u_eq, if_neg (by omega), u_eq, if_neg (by omega), u_eq, if_neg (by omega)]
      refine ⟨p_mayGo hR (hC1 I5 fun a j h => by rw [e, u_eq, if_neg (by omega), u_eq, if_neg (by omega), u_eq, if_neg (by omega), u_eq, if_neg (by omega), u_eq, if_neg (by omega)]) hV (by omega) hl, ?_, fr, frO_OC fr (fun i hi => ?_) hO, ?_, ?_, ?_, ?_, ?_, ?_, ?_⟩
      · rw [e]; simp only [u_eq, Nat.reduceEqDiff, false_and, and_false, true_and, and_true, and_self, not_false_eq_true, if_false]; exact hI
      · rw [e]; simp only [u_eq, Nat.reduceEqDiff, false_and, and_false, true_and, and_true, and_self, not_false_eq_true, if_false]
        by_cases q : i = ix s l
        · rw [if_pos q]; exact ⟨T, Nat.le_refl _, rfl⟩
        · rw [if_neg q]; exact hO.2.2.2.2 i hi
      · simp only [u_eq, Nat.reduceEqDiff, false_and, and_false, true_and, and_true, and_self, not_false_eq_true, if_true]
      · rw [e]; simp only [u_eq, Nat.reduceEqDiff, false_and, and_false, true_and, and_true, and_self, not_false_eq_true, if_true, if_false]
      · rw [e]; simp only [u_eq, Nat.reduceEqDiff, false_and, and_false, true_and, and_true, and_self, not_false_eq_true, if_true, if_false]
      · rw [e]; simp only [u_eq, Nat.reduceEqDiff, false_and, and_false, true_and, and_true, and_self, not_false_eq_true, if_true, if_false]
      · rw [e]; simp only [u_eq, Nat.reduceEqDiff, false_and, and_false, true_and, and_true, and_self, not_false_eq_true, if_true, if_false]
      · rw [e]; simp only [u_eq, Nat.reduceEqDiff, false_and, and_false, true_and, and_true, and_self, not_false_eq_true, if_true, if_false]; rfl
      · intro a j h1 h2 h3
        rw [e]
        simp only [u_eq, h3, and_false, if_false]
        rw [if_neg (by omega)]
    obtain ⟨f1, f2, f3⟩ := fin _ rfl
    refine ⟨_, ?_, f3⟩
    by_cases hs0 : s = 0
    · rw [if_pos hs0] at f1 f2 ⊢
      rw [show cI (some 0) = nI 0 from rfl] at f1 f2
      simp (disch := omega) only [so_44, ao_45, ao_46, ao_47, ao_48, ao_49, ao_50, ao_51, ly_44_0 hR, ly_44_1 hR, ly_44_3 hR, ly_44_4 hR, ly_44_5 hR, ly_44_6 hR, ly_44_7 hR, ly_44_10 hR, so_1, ao_2, ao_3, ao_4, ao_5, ao_6, ao_7, so_8, ao_9, ao_10, ao_11, ao_12, ao_13, ao_14, ao_15, ao_16, ly_1_0 hR, ly_1_1 hR, ly_1_2 hR, ly_1_3 hR, ly_1_4 hR, ly_1_7 hR, ly_1_11 hR, ly_1_12 hR, ly_1_13 hR, ly_8_1 hR, ly_8_2 hR, ly_8_3 hR, ly_8_5 hR, ly_8_6 hR, ly_8_7 hR, c2, f_X2_visit_54, f_X2_visit_79, lit, gp1, rl1, rs1, bd1, lt1, n_add, n_sub, n_dec, n_le, n_lt, n_eq, n_in, nI_clamp, n_mul, m_or, m_and, m_pow, m_bit, m_dif, n_neg, yn_0, yn_1, yn_z, yn_d, one31, Nat.add_sub_cancel, Nat.not_lt_zero, if_true, if_false, ite_true, ite_false]
      rw [if_pos hs0, f1, bd1, f2, m_or]
      rfl
    · rw [if_neg hs0] at f1 f2 ⊢
      rw [show cI none = nI 2147483647 from rfl] at f1 f2
      simp (disch := omega) only [so_44, ao_45, ao_46, ao_47, ao_48, ao_49, ao_50, ao_51, ly_44_0 hR, ly_44_1 hR, ly_44_3 hR, ly_44_4 hR, ly_44_5 hR, ly_44_6 hR, ly_44_7 hR, ly_44_10 hR, so_1, ao_2, ao_3, ao_4, ao_5, ao_6, ao_7, so_8, ao_9, ao_10, ao_11, ao_12, ao_13, ao_14, ao_15, ao_16, ly_1_0 hR, ly_1_1 hR, ly_1_2 hR, ly_1_3 hR, ly_1_4 hR, ly_1_7 hR, ly_1_11 hR, ly_1_12 hR, ly_1_13 hR, ly_8_1 hR, ly_8_2 hR, ly_8_3 hR, ly_8_5 hR, ly_8_6 hR, ly_8_7 hR, c2, f_X2_visit_54, f_X2_visit_79, lit, gp1, rl1, rs1, bd1, lt1, n_add, n_sub, n_dec, n_le, n_lt, n_eq, n_in, nI_clamp, n_mul, m_or, m_and, m_pow, m_bit, m_dif, n_neg, yn_0, yn_1, yn_z, yn_d, one31, Nat.add_sub_cancel, Nat.not_lt_zero, if_true, if_false, ite_true, ite_false]
      rw [if_neg hs0, f1, bd1, f2, m_or]
      rfl
  simp (disch := omega) only [so_44, ao_45, ao_46, ao_47, ao_48, ao_49, ao_50, ao_51, ly_44_0 hR, ly_44_1 hR, ly_44_3 hR, ly_44_4 hR, ly_44_5 hR, ly_44_6 hR, ly_44_7 hR, ly_44_10 hR, c2, lit, gp1, rl1, rs1, bd1, lt1, n_add, n_sub, n_dec, n_le, n_lt, n_eq, n_in, nI_clamp, n_mul, m_or, m_and, m_pow, m_bit, m_dif, n_neg, yn_0, yn_1, yn_z, yn_d, one31, Nat.add_sub_cancel, Nat.not_lt_zero, if_true, if_false, ite_true, ite_false]
  rw [if_neg (by omega), if_neg hm]
  by_cases hs0 : s = 0
  · rw [if_pos hs0, if_pos hs0]; exact go5 1
  · rw [if_neg hs0, if_neg hs0]; exact go5 0
theorem p_visit (hR : Lay R) (hV : VD D) : ∀ k n, k < n → VisitOK J R D T k n := by
  have h9 := hV.1
  intro k
  induction k with
  | zero =>
    intro n hn s l dep I go hk hd hs hl haf hO hI
    obtain ⟨n, rfl⟩ := Nat.exists_eq_succ_of_ne_zero (n := n) (by omega)
    have hl9 : l ≤ 9 := by omega
    have hs0 : s = 0 := (cnt_0 (by omega)).mp hk
    rw [f_X2_visit]
    by_cases hm : I 45 (ix s l) = nI T
    · refine ⟨I, go, ?_, fun _ _ _ _ => rfl, hO, hI, hm, fun i => ⟨Or.inl, ?_⟩, fun _ _ _ _ _ _ _ _ => rfl, fun _ h => h⟩
      · have c2 := hO.2.1
        have i1 : ix s l < 5120 := by unfold ix; omega
        rw [f_X2_visit_b]
        simp only [lit, x_state hs hl9, bd1]
        simp (disch := omega) only [so_44, ao_45, ao_46, ao_47, ao_48, ao_49, ao_50, ao_51, ly_44_0 hR, ly_44_1 hR, ly_44_3 hR, ly_44_4 hR, ly_44_5 hR, ly_44_6 hR, ly_44_7 hR, ly_44_10 hR, c2, hm, lit, gp1, rl1, rs1, bd1, lt1, n_add, n_sub, n_dec, n_le, n_lt, n_eq, n_in, nI_clamp, n_mul, m_or, m_and, m_pow, m_bit, m_dif, n_neg, yn_0, yn_1, yn_z, yn_d, one31, Nat.add_sub_cancel, Nat.not_lt_zero, if_true, if_false, ite_true, ite_false]
        rw [if_neg (by omega)]
      · rintro (h | h)
        · exact h
        · rw [oG, Nat.zero_testBit] at h; cases h
    · obtain ⟨I6, e, fr, o6, g6, m5, m6, m7, m8, m9, oth⟩ := p_fresh (J := J) hR hV (f_X2_visit n) (dep := dep) (by omega) hs hl hO hI.1 hm
      have hF0 : fre D s l = 0 := by rw [hs0]; exact fre_0
      rw [hF0, Nat.or_zero] at g6
      have mk6 : ∀ j, I 45 j = nI T → I6 45 j = nI T := fun j hj => by
        by_cases q : j = ix s l
        · rw [q]; exact m5
        · rw [oth 45 j (by omega) (by omega) q]; exact hj
      have other : ∀ s' l', s' < 512 → l' ≤ 9 → ¬ (s' = s ∧ l' = l) → ∀ a, 45 ≤ a → a ≤ 49 → I6 a (ix s' l') = I a (ix s' l') := fun s' l' h1 h2 h3 a h5 h6 => oth a _ h5 h6 (fun q => h3 (ix_inj hl9 h2 q))
      refine ⟨I6, go, ?_, fr, o6, ⟨g6, hI.2.1, fun s' l' h1 h2 h3 h4 => ?_⟩, m5, fun i => ⟨Or.inl, ?_⟩, fun s' l' h1 h2 h3 a h5 h6 => other s' l' h1 h2 (fun q => by rw [q.1] at h3; omega) a h5 h6, mk6⟩
      · rw [e, hF0]
        exact p_loop0 _ 9 0 512 rfl (by decide)
      · have h3 : cnt s' = 0 := by omega
        by_cases q : s' = s ∧ l' = l
        · obtain ⟨rfl, rfl⟩ := q
          refine ⟨⟨?_, ?_, ?_, ?_⟩, fun i h => ?_, fun g hg => by rw [hF0, Nat.zero_testBit] at hg; cases hg⟩
          · rw [m6, h3, oW]
          · rw [m7, h3, oM]
          · rw [m8, h3, oC]
          · rw [m9, h3, oX]
          · rw [h3, oG, Nat.zero_testBit] at h; cases h
        · rw [other s' l' h1 h2 q 45 (by omega) (by omega)] at h4
          obtain ⟨⟨e1, e2, e3, e4⟩, e5⟩ := hI.2.2 s' l' h1 h2 (by omega) h4
          exact ⟨⟨by rw [other s' l' h1 h2 q 46 (by omega) (by omega)]; exact e1, by rw [other s' l' h1 h2 q 47 (by omega) (by omega)]; exact e2, by rw [other s' l' h1 h2 q 48 (by omega) (by omega)]; exact e3, by rw [other s' l' h1 h2 q 49 (by omega) (by omega)]; exact e4⟩, e5.1, fun g hg => mk6 _ (e5.2 g hg)⟩
      · rintro (h | h)
        · exact h
        · rw [oG, Nat.zero_testBit] at h; cases h
  | succ k ih =>
    intro n hn s l dep I go hk hd hs hl haf hO hI
    obtain ⟨n, rfl⟩ := Nat.exists_eq_succ_of_ne_zero (n := n) (by omega)
    have hl9 : l ≤ 9 := by omega
    have hs0 : s ≠ 0 := fun q => by rw [q] at hk; rw [(cnt_0 (by decide)).mpr rfl] at hk; omega
    rw [f_X2_visit]
    by_cases hm : I 45 (ix s l) = nI T
    · refine ⟨I, go, ?_, fun _ _ _ _ => rfl, hO, hI, hm, fun i => ⟨Or.inl, ?_⟩, fun _ _ _ _ _ _ _ _ => rfl, fun _ h => h⟩
      · have c2 := hO.2.1
        have i1 : ix s l < 5120 := by unfold ix; omega
        rw [f_X2_visit_b]
        simp only [lit, x_state hs hl9, bd1]
        simp (disch := omega) only [so_44, ao_45, ao_46, ao_47, ao_48, ao_49, ao_50, ao_51, ly_44_0 hR, ly_44_1 hR, ly_44_3 hR, ly_44_4 hR, ly_44_5 hR, ly_44_6 hR, ly_44_7 hR, ly_44_10 hR, c2, hm, lit, gp1, rl1, rs1, bd1, lt1, n_add, n_sub, n_dec, n_le, n_lt, n_eq, n_in, nI_clamp, n_mul, m_or, m_and, m_pow, m_bit, m_dif, n_neg, yn_0, yn_1, yn_z, yn_d, one31, Nat.add_sub_cancel, Nat.not_lt_zero, if_true, if_false, ite_true, ite_false]
        rw [if_neg (by omega)]
      · rintro (h | h)
        · exact h
        · exact (hI.2.2 s l hs hl9 (by omega) hm).2.1 i (by rw [hk]; exact h)
    · obtain ⟨I6, e, fr, o6, g6, m5, m6, m7, m8, m9, oth⟩ := p_fresh (J := J) hR hV (f_X2_visit n) (dep := dep) (by omega) hs hl hO hI.1 hm
      have other : ∀ s' l', s' < 512 → l' ≤ 9 → ¬ (s' = s ∧ l' = l) → ∀ a, 45 ≤ a → a ≤ 49 → I6 a (ix s' l') = I a (ix s' l') := fun s' l' h1 h2 h3 a h5 h6 => oth a _ h5 h6 (fun q => h3 (ix_inj hl9 h2 q))
      rw [if_neg hs0] at m6 m8
      have mk6 : ∀ j, I 45 j = nI T → I6 45 j = nI T := fun j hj => by
        by_cases q : j = ix s l
        · rw [q]; exact m5
        · rw [oth 45 j (by omega) (by omega) q]; exact hj
      have hgo : ∀ i, (go ||| fre D s l).testBit i = true ↔ go.testBit i = true ∨ (fre D s l).testBit i = true := fun i => by rw [Nat.testBit_or, Bool.or_eq_true]
      have entO : ∀ I' : Iw, ∀ s' l', (∀ a, 45 ≤ a → a ≤ 49 → I' a (ix s' l') = I a (ix s' l')) → ent I D s' l' → ent I' D s' l' := fun I' s' l' h e => ⟨by rw [h 46 (by omega) (by omega)]; exact e.1, by rw [h 47 (by omega) (by omega)]; exact e.2.1, by rw [h 48 (by omega) (by omega)]; exact e.2.2.1, by rw [h 49 (by omega) (by omega)]; exact e.2.2.2⟩
      have hI6 : InvO I6 D T (go ||| fre D s l) k := by
        refine ⟨g6, or_lt hI.2.1 (fre_lt hV s l), fun s' l' h1 h2 h3 h4 => ?_⟩
        have q : ¬ (s' = s ∧ l' = l) := fun q => by rw [q.1] at h3; omega
        rw [other s' l' h1 h2 q 45 (by omega) (by omega)] at h4
        obtain ⟨e1, e2⟩ := hI.2.2 s' l' h1 h2 (by omega) h4
        exact ⟨entO I6 s' l' (other s' l' h1 h2 q) e1, fun i hi => (hgo i).mpr (Or.inl (e2.1 i hi)), fun g hg => mk6 _ (e2.2 g hg)⟩
      obtain ⟨I', go', x1, x2, x3, x4, x5, x6, x7, x8, x9, x10, x11, x12, x13⟩ := p_loop (J := J) hR hV (ih n (by omega)) hk hd hs hl9 haf 9 0 512 I6 (go ||| fre D s l) rfl (by decide) o6 hI6 m5 m6 m7 m8 m9
      have hG : ∀ i, go'.testBit i = true ↔ go.testBit i = true ∨ (oG (fre D) (k + 1) s l).testBit i = true := by
        intro i
        rw [x10, hgo, oG_bit]
        constructor
        · rintro ((h | h) | ⟨g, h1, h2, h3, h4⟩)
          · exact Or.inl h
          · exact Or.inr ⟨i, by have := (fre_bit h).1; omega, h, Or.inl rfl⟩
          · exact Or.inr ⟨g, h2, h3, Or.inr h4⟩
        · rintro (h | ⟨g, h1, h2, h3 | h3⟩)
          · exact Or.inl (Or.inl h)
          · subst h3; exact Or.inl (Or.inr h2)
          · exact Or.inr ⟨g, Nat.zero_le _, h1, h2, h3⟩
      refine ⟨I', go', by rw [e]; exact x1, fun a j h1 h2 => by rw [x2 a j h1 h2, fr a j h1 h2], x3, ⟨x4.1, x4.2.1, fun s' l' h1 h2 h3 h4 => ?_⟩, x5, hG, fun s' l' h1 h2 h3 a h5 h6 => ?_, fun j hj => x12 j (mk6 j hj)⟩
      · by_cases q : s' = s ∧ l' = l
        · obtain ⟨rfl, rfl⟩ := q
          refine ⟨⟨?_, ?_, ?_, ?_⟩, fun i h => (hG i).mpr (Or.inr (by rw [hk] at h; exact h)), fun g hg => x13 g (Nat.zero_le _) (by have := (fre_bit hg).1; omega) hg⟩
          · rw [x6, hk, oW, if_neg hs0]; rfl
          · rw [x7, hk, oM]; rfl
          · rw [x8, hk, oC, if_neg hs0]; rfl
          · rw [x9, hk, oX]; rfl
        · by_cases h5 : cnt s' ≤ k
          · exact x4.2.2 s' l' h1 h2 h5 h4
          · have same : ∀ a, 45 ≤ a → a ≤ 49 → I' a (ix s' l') = I a (ix s' l') := fun a h6 h7 => by rw [x11 s' l' h1 h2 (by omega) q a h6 h7, other s' l' h1 h2 q a h6 h7]
            rw [same 45 (by omega) (by omega)] at h4
            obtain ⟨e1, e2⟩ := hI.2.2 s' l' h1 h2 h3 h4
            exact ⟨entO I' s' l' same e1, fun i hi => (hG i).mpr (Or.inl (e2.1 i hi)), fun g hg => x12 _ (mk6 _ (e2.2 g hg))⟩
      · have q : ¬ (s' = s ∧ l' = l) := fun q => by rw [q.1] at h3; omega
        rw [x11 s' l' h1 h2 (by omega) q a h5 h6, other s' l' h1 h2 q a h5 h6]
end STUDY
