/-! THE CLASS' SHED: what is put, taken, made anew -/
theorem isin_iff {D : Dt} {g : Nat} : isin D g = true ↔ g < d_n D ∧ ∀ k, k < d_o D → d_ln D k ≠ g := by
  rw [isin, Bool.and_eq_true, decide_eq_true_eq, any_range, Bool.not_eq_true', Bool.eq_false_iff, Ne, anyF_iff]
  refine and_congr_right fun _ => ⟨fun h k hk e => h ⟨k, Nat.zero_le _, by omega, by simpa using e⟩, ?_⟩
  rintro h ⟨i, _, h2, h3⟩
  exact h i (by omega) (by simpa using h3)
theorem VD_add {D : Dt} (hV : VD D) (h : d_n D < 9) {k b c w : Nat} (hk : 1 ≤ k ∧ k ≤ 5) (hb : b ≤ 2) (hc : c ≤ 9) (hw : 1 ≤ w ∧ w ≤ 999) : VD (Dadd D k b c w) := by
  refine ⟨Nat.succ_le_of_lt h, Nat.le_succ_of_le hV.2.1, fun i hi => Nat.lt_succ_of_lt (hV.2.2.1 i hi), hV.2.2.2.1, fun g hg => ?_, hV.2.2.2.2.2.1, hV.2.2.2.2.2.2.1, hV.2.2.2.2.2.2.2.1, fun i hi => ⟨Nat.lt_succ_of_lt (hV.2.2.2.2.2.2.2.2 i hi).1, (hV.2.2.2.2.2.2.2.2 i hi).2⟩⟩
  show 1 ≤ up1 (d_kd D) (d_n D) k g ∧ up1 (d_kd D) (d_n D) k g ≤ 5 ∧ up1 (d_by D) (d_n D) b g ≤ 2 ∧ up1 (d_cl D) (d_n D) c g ≤ 9 ∧ 1 ≤ up1 (d_wo D) (d_n D) w g ∧ up1 (d_wo D) (d_n D) w g ≤ 999
  simp only [u1_eq]
  by_cases e : g = d_n D
  · simp only [if_pos e]; omega
  · simp only [if_neg e]
    have h2 : g < d_n D + 1 := hg
    exact hV.2.2.2.2.1 g (by omega)
theorem VD_out {D : Dt} (hV : VD D) {g : Nat} (hg : isin D g = true) : VD (Dout D g) := by
  have hi := isin_iff.mp hg
  have h9 := hV.1
  have hle : d_o D + 1 ≤ d_n D := by
    apply Decidable.byContradiction
    intro q
    have he : d_o D = d_n D := by have := hV.2.1; omega
    -- d_n + 1 different numbers below d_n
    have inj : ∀ (m : Nat) (f : Nat → Nat), (∀ i, i ≤ m → f i < m) → (∀ i j, i ≤ m → j ≤ m → f i = f j → i = j) → False := by
      intro m
      induction m with
      | zero => intro f h1 _; exact absurd (h1 0 (Nat.le_refl _)) (Nat.not_lt_zero _)
      | succ m ih =>
        intro f h1 h2
        refine ih (fun i => if f i = m then f (m + 1) else f i) (fun i hi => ?_) (fun i j hi hj e => ?_)
        · show (if f i = m then f (m + 1) else f i) < m
          have a1 := h1 i (by omega)
          have a2 := h1 (m + 1) (by omega)
          by_cases c : f i = m
          · rw [if_pos c]
            have : f (m + 1) ≠ m := fun c2 => by have := h2 i (m + 1) (by omega) (by omega) (by omega); omega
            omega
          · rw [if_neg c]; omega
        · have e : (if f i = m then f (m + 1) else f i) = (if f j = m then f (m + 1) else f j) := e
          by_cases c : f i = m
          · by_cases c2 : f j = m
            · exact h2 i j (by omega) (by omega) (by omega)
            · rw [if_pos c, if_neg c2] at e
              have := h2 (m + 1) j (by omega) (by omega) e; omega
          · by_cases c2 : f j = m
            · rw [if_neg c, if_pos c2] at e
              have := h2 i (m + 1) (by omega) (by omega) e; omega
            · rw [if_neg c, if_neg c2] at e
              exact h2 i j (by omega) (by omega) e
    refine inj (d_n D) (fun i => if i = d_n D then g else d_ln D i) (fun i hi2 => ?_) (fun i j hi2 hj2 e => ?_)
    · show (if i = d_n D then g else d_ln D i) < d_n D
      by_cases c : i = d_n D
      · rw [if_pos c]; exact hi.1
      · rw [if_neg c]; exact hV.2.2.1 i (by omega)
    · have e : (if i = d_n D then g else d_ln D i) = (if j = d_n D then g else d_ln D j) := e
      by_cases c : i = d_n D
      · by_cases c2 : j = d_n D
        · omega
        · rw [if_pos c, if_neg c2] at e
          exact absurd e.symm (hi.2 j (by omega))
      · by_cases c2 : j = d_n D
        · rw [if_neg c, if_pos c2] at e
          exact absurd e (hi.2 i (by omega))
        · rw [if_neg c, if_neg c2] at e
          exact hV.2.2.2.1 i j (by omega) (by omega) e
  refine ⟨hV.1, hle, fun i hi2 => ?_, fun i j hi2 hj2 e => ?_, hV.2.2.2.2⟩
  · have hi2 : i < d_o D + 1 := hi2
    show up1 (d_ln D) (d_o D) g i < d_n D
    rw [u1_eq]
    by_cases c : i = d_o D
    · rw [if_pos c]; exact hi.1
    · rw [if_neg c]; exact hV.2.2.1 i (by omega)
  · have hi2 : i < d_o D + 1 := hi2
    have hj2 : j < d_o D + 1 := hj2
    have e : up1 (d_ln D) (d_o D) g i = up1 (d_ln D) (d_o D) g j := e
    rw [u1_eq, u1_eq] at e
    by_cases c : i = d_o D
    · by_cases c2 : j = d_o D
      · omega
      · rw [if_pos c, if_neg c2] at e
        exact absurd e.symm (hi.2 j (by omega))
    · by_cases c2 : j = d_o D
      · rw [if_neg c, if_pos c2] at e
        exact absurd e (hi.2 i (by omega))
      · rw [if_neg c, if_neg c2] at e
        exact hV.2.2.2.1 i j (by omega) (by omega) e
theorem VD_back {D : Dt} (hV : VD D) : VD (Dback D) :=
  ⟨hV.1, Nat.le_trans (Nat.sub_le _ _) hV.2.1, fun i hi => hV.2.2.1 i (by have hi : i < d_o D - 1 := hi; omega), fun i j hi hj e => hV.2.2.2.1 i j (by have hi : i < d_o D - 1 := hi; omega) (by have hj : j < d_o D - 1 := hj; omega) e, hV.2.2.2.2⟩
theorem VD_kd {D : Dt} (hV : VD D) {g k : Nat} (hk : 1 ≤ k ∧ k ≤ 5) : VD (Dkd D g k) := by
  refine ⟨hV.1, hV.2.1, hV.2.2.1, hV.2.2.2.1, fun i hi => ?_, hV.2.2.2.2.2⟩
  show 1 ≤ up1 (d_kd D) g k i ∧ up1 (d_kd D) g k i ≤ 5 ∧ d_by D i ≤ 2 ∧ d_cl D i ≤ 9 ∧ 1 ≤ d_wo D i ∧ d_wo D i ≤ 999
  have h2 := hV.2.2.2.2.1 i hi
  rw [u1_eq]
  split
  · omega
  · exact h2
theorem VD_cl {D : Dt} (hV : VD D) {g k : Nat} (hk : k ≤ 9) : VD (Dcl D g k) := by
  refine ⟨hV.1, hV.2.1, hV.2.2.1, hV.2.2.2.1, fun i hi => ?_, hV.2.2.2.2.2⟩
  show 1 ≤ d_kd D i ∧ d_kd D i ≤ 5 ∧ d_by D i ≤ 2 ∧ up1 (d_cl D) g k i ≤ 9 ∧ 1 ≤ d_wo D i ∧ d_wo D i ≤ 999
  have h2 := hV.2.2.2.2.1 i hi
  rw [u1_eq]
  split
  · omega
  · exact h2
theorem VD_wo {D : Dt} (hV : VD D) {g k : Nat} (hk : 1 ≤ k ∧ k ≤ 999) : VD (Dwo D g k) := by
  refine ⟨hV.1, hV.2.1, hV.2.2.1, hV.2.2.2.1, fun i hi => ?_, hV.2.2.2.2.2⟩
  show 1 ≤ d_kd D i ∧ d_kd D i ≤ 5 ∧ d_by D i ≤ 2 ∧ d_cl D i ≤ 9 ∧ 1 ≤ up1 (d_wo D) g k i ∧ up1 (d_wo D) g k i ≤ 999
  have h2 := hV.2.2.2.2.1 i hi
  rw [u1_eq]
  split
  · omega
  · exact h2
theorem VD_ga {D : Dt} (hV : VD D) {v : Nat} (hv : 1 ≤ v ∧ v ≤ 3) : VD (Dga D v) :=
  ⟨hV.1, hV.2.1, hV.2.2.1, hV.2.2.2.1, hV.2.2.2.2.1, ⟨hv.1, hv.2, hV.2.2.2.2.2.1.2.2⟩, hV.2.2.2.2.2.2⟩
theorem VD_da {D : Dt} (hV : VD D) {v : Nat} (hv : v ≤ 9) : VD (Dda D v) :=
  ⟨hV.1, hV.2.1, hV.2.2.1, hV.2.2.2.1, hV.2.2.2.2.1, ⟨hV.2.2.2.2.2.1.1, hV.2.2.2.2.2.1.2.1, hv⟩, hV.2.2.2.2.2.2⟩
theorem VD_z {D : Dt} (hV : VD D) (v : Int32) : VD (Dz D v) := hV
theorem VD_r0 {D : Dt} (hV : VD D) : VD (Dr0 D) := ⟨hV.1, hV.2.1, hV.2.2.1, hV.2.2.2.1, hV.2.2.2.2.1, hV.2.2.2.2.2.1, hV.2.2.2.2.2.2.1, Nat.zero_le _, fun k hk => absurd hk (Nat.not_lt_zero k)⟩
theorem VD_rp {D : Dt} (hV : VD D) (h : d_np D < 6) {g c : Nat} (hg : g < d_n D) (hc : c ≤ 1) : VD (Drp D g c) := by
  refine ⟨hV.1, hV.2.1, hV.2.2.1, hV.2.2.2.1, hV.2.2.2.2.1, hV.2.2.2.2.2.1, hV.2.2.2.2.2.2.1, Nat.succ_le_of_lt h, fun k hk => ?_⟩
  have hk : k < d_np D + 1 := hk
  show up1 (d_pg D) (d_np D) g k < d_n D ∧ up1 (d_pc D) (d_np D) c k ≤ 1
  rw [u1_eq, u1_eq]
  by_cases e : k = d_np D
  · rw [if_pos e, if_pos e]; exact ⟨hg, hc⟩
  · rw [if_neg e, if_neg e]; exact hV.2.2.2.2.2.2.2.2 k (by omega)
