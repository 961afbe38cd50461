/-! THE CLASS' ORDERS: a whole study -/
def VisitOK (J : Sh) (R : Rw) (D : Dt) (T k n : Nat) : Prop := ∀ s l dep I go, cnt s = k → dep + k ≤ 9 → s < 512 → l ≤ d_n D → k ≤ afD D → OC I D T → InvO I D T go k →
  ∃ I' go', f_X2_visit n (S0 ++ J) R I 44 (nI s) (nI l - nI 1) (nI dep) = some I' ∧ frO I I' ∧ OC I' D T ∧ InvO I' D T go' k ∧ I' 45 (ix s l) = nI T ∧ (∀ i, go'.testBit i = true ↔ go.testBit i = true ∨ (oG (fre D) k s l).testBit i = true) ∧
    (∀ s' l', s' < 512 → l' ≤ 9 → k < cnt s' → ∀ a, 45 ≤ a → a ≤ 49 → I' a (ix s' l') = I a (ix s' l'))
theorem fre_bit {D : Dt} {s l g : Nat} (h : (fre D s l).testBit g = true) : g < d_n D ∧ s.testBit g = true := by
  rw [fre, mk_bit, Bool.and_eq_true, decide_eq_true_eq, mayb, Bool.and_eq_true, topb, Bool.and_eq_true] at h
  exact ⟨h.1, h.2.1.1⟩
theorem fre_lt {D : Dt} (hV : VD D) (s l : Nat) : fre D s l < 1024 := mk_lt _ _ (by have := hV.1; omega)
theorem ix_inj {s l s' l' : Nat} (h1 : l ≤ 9) (h2 : l' ≤ 9) (h : ix s' l' = ix s l) : s' = s ∧ l' = l := by unfold ix at h; omega
def fW (D : Dt) (k s l g : Nat) : Nat := if (fre D s l).testBit g then oW (fre D) k (mdiff s (2 ^ g)) (g + 1) else 0
def fM (D : Dt) (k s l g : Nat) : Nat := if (fre D s l).testBit g then oM (fre D) k (mdiff s (2 ^ g)) (g + 1) + 1 else 0
def fC (D : Dt) (k s l g : Nat) : Option Nat := if (fre D s l).testBit g then (oC (fre D) (feD D) (afD D) k (mdiff s (2 ^ g)) (g + 1)).map (fun c => feD D g * (afD D - cnt s + 1) + c) else none
def fX (D : Dt) (k s l g : Nat) : Bool := (fre D s l).testBit g && !oX (fre D) k (mdiff s (2 ^ g)) (g + 1)
section STUDY
variable {J : Sh} {R : Rw} {D : Dt} {T : Nat}
theorem p_loop (hR : Lay R) (hV : VD D) {k n s l dep : Nat} (hv : VisitOK J R D T k n) (hk : cnt s = k + 1) (hd : dep + (k + 1) ≤ 9) (hs : s < 512) (hl : l ≤ 9) (haf : k + 1 ≤ afD D) :
    ∀ (r t f : Nat) (I : Iw) (go : Nat), t + r = 9 → r < f → OC I D T → InvO I D T go k → I 45 (ix s l) = nI T → I 46 (ix s l) = nI (sm (fW D k s l) t) → I 47 (ix s l) = nI (mx (fM D k s l) t) → I 48 (ix s l) = cI (mn none (fC D k s l) t) → I 49 (ix s l) = yn (anyB (fX D k s l) t) →
    ∃ I' go', f_X2_visit_113 (f_X2_visit n) (S0 ++ J) R f I 44 (nI s) (nI dep) (nI (ix s l)) (nI (fre D s l)) (nI t) = some I' ∧ frO I I' ∧ OC I' D T ∧ InvO I' D T go' k ∧ I' 45 (ix s l) = nI T ∧ I' 46 (ix s l) = nI (sm (fW D k s l) 9) ∧ I' 47 (ix s l) = nI (mx (fM D k s l) 9) ∧ I' 48 (ix s l) = cI (mn none (fC D k s l) 9) ∧ I' 49 (ix s l) = yn (anyB (fX D k s l) 9) ∧
      (∀ i, go'.testBit i = true ↔ go.testBit i = true ∨ ∃ g, t ≤ g ∧ g < 9 ∧ (fre D s l).testBit g = true ∧ (oG (fre D) k (mdiff s (2 ^ g)) (g + 1)).testBit i = true) ∧
      (∀ s' l', s' < 512 → l' ≤ 9 → k < cnt s' → ¬ (s' = s ∧ l' = l) → ∀ a, 45 ≤ a → a ≤ 49 → I' a (ix s' l') = I a (ix s' l')) := by
  have h9 := hV.1
  intro r
  induction r with
  | zero =>
    intro t f I go ht hf hO hI m45 m46 m47 m48 m49
    have : t = 9 := by omega
    subst this
    obtain ⟨f, rfl⟩ := Nat.exists_eq_succ_of_ne_zero (n := f) (by omega)
    refine ⟨I, go, ?_, fun _ _ _ _ => rfl, hO, hI, m45, m46, m47, m48, m49, fun i => ⟨Or.inl, ?_⟩, fun _ _ _ _ _ _ _ _ _ => rfl⟩
    · rw [f_X2_visit_113, if_pos (by decide)]
    · rintro (h | ⟨g, h1, h2, _⟩)
      · exact h
      · omega
  | succ r ih =>
    intro t f I go ht hf hO hI m45 m46 m47 m48 m49
    obtain ⟨f, rfl⟩ := Nat.exists_eq_succ_of_ne_zero (n := f) (by omega)
    have hF := fre_lt hV s l
    rw [f_X2_visit_113]
    simp (disch := omega) only [so_44, ao_45, ao_46, ao_47, ao_48, ao_49, ao_50, ao_51, ly_44_0 hR, ly_44_1 hR, ly_44_3 hR, ly_44_4 hR, ly_44_5 hR, ly_44_6 hR, ly_44_7 hR, ly_44_10 hR, x_holds, f_X2_visit_140, lit, gp1, rl1, rs1, bd1, lt1, n_add, n_sub, n_dec, n_le, n_lt, n_eq, n_in, nI_clamp, n_mul, m_or, m_and, m_pow, m_bit, m_dif, n_neg, yn_0, yn_1, yn_z, yn_d, one31, Nat.add_sub_cancel, Nat.not_lt_zero, if_true, if_false, ite_true, ite_false]
    rw [if_neg (by omega)]
    by_cases hb : (fre D s l).testBit t = true
    · rw [if_neg (by simpa using hb)]
      have hbt := fre_bit hb
      have hcd := cnt_diff hbt.2 (by omega)
      have hr : mdiff s (2 ^ t) < 512 := Nat.lt_of_le_of_lt Nat.and_le_left hs
      obtain ⟨I3, go3, v1, v2, v3, v4, v5, v6, v7⟩ := hv (mdiff s (2 ^ t)) (t + 1) (dep + 1) I go (by omega) (by omega) hr (by omega) (by omega) hO hI
      rw [n_pred] at v1
      have keep : ∀ a, 45 ≤ a → a ≤ 49 → I3 a (ix s l) = I a (ix s l) := v7 s l hs hl (by omega)
      have hE := (v4.2.2 (mdiff s (2 ^ t)) (t + 1) hr (by omega) (by omega) v5).1
      have hMt : mx (fM D k s l) t ≤ 10 := mx_le (fun g => by
        unfold fM
        split
        · have := oM_le (fre D) k (mdiff s (2 ^ g)) (g + 1); omega
        · omega) t
      have hCt : ∀ y, mn none (fC D k s l) t = some y → y < 2 ^ 30 := fun y hy => by
        have := mn_le (z := none) (f := fC D k s l) (M := 2000000) (fun c h => by cases h) (fun g c h => by
          unfold fC at h
          split at h
          · rename_i hb2
            cases e : oC (fre D) (feD D) (afD D) k (mdiff s (2 ^ g)) (g + 1) with
            | none => rw [e] at h; cases h
            | some c2 =>
              rw [e] at h
              have h2 := oC_lt hV (by omega) e
              have h3 : feD D g * (afD D - cnt s + 1) ≤ 5000 * 11 := Nat.mul_le_mul (Nat.le_of_lt (feD_lt hV g)) (by have : afD D ≤ 10 := cn_le (s := insm D) 10; omega)
              simp only [Option.map_some, Option.some.injEq] at h
              omega
          · cases h) t y hy
        omega
      obtain ⟨I4, w1, w2, w3, w4, w5, w6⟩ := p_behind (J := J) (dep := dep) hR hV hs hl (show t < 9 by omega) hbt.2 (by omega) v3 v1 hE ((keep 46 (by omega) (by omega)).trans m46) ((keep 47 (by omega) (by omega)).trans m47) ((keep 48 (by omega) (by omega)).trans m48) ((keep 49 (by omega) (by omega)).trans m49) (by omega) hCt
      rw [show cnt s - 1 = k by omega] at w3 w4 w5 w6
      rw [w1]
      have fr4 : frO I3 I4 := fun a j h1 h2 => w2 a j (by omega)
      have hO4 : OC I4 D T := frO_OC fr4 (fun i hi => by rw [w2 45 i (by omega)]; exact v3.2.2.2.2 i hi) v3
      have other : ∀ s' l', s' < 512 → l' ≤ 9 → ¬ (s' = s ∧ l' = l) → ∀ a, I4 a (ix s' l') = I3 a (ix s' l') := fun s' l' h1 h2 h3 a => w2 a _ (fun q => h3 (ix_inj hl h2 q.2.2))
      have hI4 : InvO I4 D T go3 k := by
        refine ⟨by rw [w2 44 9 (by omega)]; exact v4.1, v4.2.1, fun s' l' h1 h2 h3 h4 => ?_⟩
        have h5 : ¬ (s' = s ∧ l' = l) := fun q => by rw [q.1] at h3; omega
        rw [other s' l' h1 h2 h5] at h4
        obtain ⟨⟨e1, e2, e3, e4⟩, e5⟩ := v4.2.2 s' l' h1 h2 h3 h4
        exact ⟨⟨by rw [other s' l' h1 h2 h5]; exact e1, by rw [other s' l' h1 h2 h5]; exact e2, by rw [other s' l' h1 h2 h5]; exact e3, by rw [other s' l' h1 h2 h5]; exact e4⟩, e5⟩
      obtain ⟨I', go', x1, x2, x3, x4, x5, x6, x7, x8, x9, x10, x11⟩ := ih (t + 1) f I4 go3 (by omega) (by omega) hO4 hI4 (by rw [w2 45 _ (by omega), keep 45 (by omega) (by omega)]; exact m45)
        (by rw [w3, sm, fW, if_pos hb]) (by rw [w4, mx, fM, if_pos hb]) (by rw [w5, mn, fC, if_pos hb]) (by rw [w6, anyB, fX, hb]; rfl)
      refine ⟨I', go', x1, fun a j h1 h2 => by rw [x2 a j h1 h2, fr4 a j h1 h2, v2 a j h1 h2], x3, x4, x5, x6, x7, x8, x9, fun i => ?_, fun s' l' h1 h2 h3 h4 a h5 h6 => by rw [x11 s' l' h1 h2 h3 h4 a h5 h6, other s' l' h1 h2 h4, v7 s' l' h1 h2 h3 a h5 h6]⟩
      rw [x10, v6]
      constructor
      · rintro ((h | h) | ⟨g, h1, h2, h3⟩)
        · exact Or.inl h
        · exact Or.inr ⟨t, Nat.le_refl _, by omega, hb, h⟩
        · exact Or.inr ⟨g, by omega, h2, h3⟩
      · rintro (h | ⟨g, h1, h2, h3, h4⟩)
        · exact Or.inl (Or.inl h)
        · by_cases e : g = t
          · subst e; exact Or.inl (Or.inr h4)
          · exact Or.inr ⟨g, by omega, h2, h3, h4⟩
    · rw [if_pos (by simpa using hb)]
      obtain ⟨I', go', x1, x2, x3, x4, x5, x6, x7, x8, x9, x10, x11⟩ := ih (t + 1) f I go (by omega) (by omega) hO hI m45
        (by rw [m46, sm, fW, if_neg hb, Nat.add_zero]) (by rw [m47, mx, fM, if_neg hb, Nat.max_zero]) (by rw [m48, mn, fC, if_neg hb, omin_none]) (by rw [m49, anyB, fX, show (fre D s l).testBit t = false by simpa using hb]; simp)
      refine ⟨I', go', x1, x2, x3, x4, x5, x6, x7, x8, x9, fun i => ?_, x11⟩
      rw [x10]
      refine or_congr Iff.rfl ⟨fun ⟨g, h1, h2⟩ => ⟨g, by omega, h2⟩, fun ⟨g, h1, h2, h3, h4⟩ => ⟨g, ?_, h2, h3, h4⟩⟩
      have : g ≠ t := fun q => hb (by rw [← q]; exact h3)
      omega
end STUDY
