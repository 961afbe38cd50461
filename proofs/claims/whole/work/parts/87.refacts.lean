/-! THE REFERENCE: what changes leave of its row -/
section REFACTS
variable {I : Iw} {D : Dt}
theorem M_kd (hM : MR I 66 D) (hV : VD D) {g k : Nat} (hg : g < d_n D) : MR (up2 I 66 (16 + 5 * g) (nI k)) 66 (Dkd D g k) := by
  obtain ⟨h0, h1, h2, h3, h4, h5, h6, h7, h8, hl, hp, hr, hk⟩ := hM
  have np6 := hV.2.2.2.2.2.2.2.1
  have nr8 := hV.2.2.2.2.2.2.1.1
  have n9 := hV.1
  have on := hV.2.1
  have off : ∀ j, j ≠ 16 + 5 * g → (up2 I 66 (16 + 5 * g) (nI k)) 66 j = I 66 j := fun j q0 => by rw [u_eq, if_neg (by omega)]
  refine ⟨(off _ (by omega)).trans h0, (off _ (by omega)).trans h1, (off _ (by omega)).trans h2, (off _ (by omega)).trans h3, (off _ (by omega)).trans h4, (off _ (by omega)).trans h5, (off _ (by omega)).trans h6, fun i hi => (off _ (by omega)).trans (h7 i hi), fun i hi => ?_, fun i hi => ?_, fun i hi => ?_, fun r hr2 => ?_, fun r hr2 => ?_⟩
  · have hi : i < d_n D := hi
    have q := h8 i hi
    refine ⟨?_, by rw [off _ (by omega)]; exact q.2.1, by rw [off _ (by omega)]; exact q.2.2.1, by rw [off _ (by omega)]; exact q.2.2.2.1, fun hin => by rw [off _ (by omega)]; exact q.2.2.2.2 hin⟩
    show _ = nI (up1 (d_kd D) g k i)
    rw [u_eq, u1_eq]
    by_cases e : i = g
    · rw [if_pos (by omega), if_pos e]
    · rw [if_neg (by omega), if_neg e]; exact q.1
  · have hi : i < d_o D := hi
    exact (off _ (by omega)).trans (hl i hi)
  · have hi : i < d_np D := hi
    exact ⟨(off _ (by omega)).trans (hp i hi).1, (off _ (by omega)).trans (hp i hi).2⟩
  · have hr2 : r < d_nr D := hr2
    exact ⟨(off _ (by omega)).trans (hr r hr2).1, (off _ (by omega)).trans (hr r hr2).2.1, fun e => (off _ (by omega)).trans ((hr r hr2).2.2.1 e), fun i t ht => (off _ (by omega)).trans ((hr r hr2).2.2.2 i t ht)⟩
  · have hr2 : r ≤ d_nr D := hr2
    exact (off _ (by omega)).trans (hk r hr2)
theorem M_cl (hM : MR I 66 D) (hV : VD D) {g k : Nat} (hg : g < d_n D) : MR (up2 I 66 (16 + 5 * g + 2) (nI k)) 66 (Dcl D g k) := by
  obtain ⟨h0, h1, h2, h3, h4, h5, h6, h7, h8, hl, hp, hr, hk⟩ := hM
  have np6 := hV.2.2.2.2.2.2.2.1
  have nr8 := hV.2.2.2.2.2.2.1.1
  have n9 := hV.1
  have on := hV.2.1
  have off : ∀ j, j ≠ 16 + 5 * g + 2 → (up2 I 66 (16 + 5 * g + 2) (nI k)) 66 j = I 66 j := fun j q0 => by rw [u_eq, if_neg (by omega)]
  refine ⟨(off _ (by omega)).trans h0, (off _ (by omega)).trans h1, (off _ (by omega)).trans h2, (off _ (by omega)).trans h3, (off _ (by omega)).trans h4, (off _ (by omega)).trans h5, (off _ (by omega)).trans h6, fun i hi => (off _ (by omega)).trans (h7 i hi), fun i hi => ?_, fun i hi => ?_, fun i hi => ?_, fun r hr2 => ?_, fun r hr2 => ?_⟩
  · have hi : i < d_n D := hi
    have q := h8 i hi
    refine ⟨by rw [off _ (by omega)]; exact q.1, by rw [off _ (by omega)]; exact q.2.1, ?_, by rw [off _ (by omega)]; exact q.2.2.2.1, fun hin => by rw [off _ (by omega)]; exact q.2.2.2.2 hin⟩
    show _ = nI (up1 (d_cl D) g k i)
    rw [u_eq, u1_eq]
    by_cases e : i = g
    · rw [if_pos (by omega), if_pos e]
    · rw [if_neg (by omega), if_neg e]; exact q.2.2.1
  · have hi : i < d_o D := hi
    exact (off _ (by omega)).trans (hl i hi)
  · have hi : i < d_np D := hi
    exact ⟨(off _ (by omega)).trans (hp i hi).1, (off _ (by omega)).trans (hp i hi).2⟩
  · have hr2 : r < d_nr D := hr2
    exact ⟨(off _ (by omega)).trans (hr r hr2).1, (off _ (by omega)).trans (hr r hr2).2.1, fun e => (off _ (by omega)).trans ((hr r hr2).2.2.1 e), fun i t ht => (off _ (by omega)).trans ((hr r hr2).2.2.2 i t ht)⟩
  · have hr2 : r ≤ d_nr D := hr2
    exact (off _ (by omega)).trans (hk r hr2)
theorem M_wo (hM : MR I 66 D) (hV : VD D) {g k : Nat} (hg : g < d_n D) : MR (up2 I 66 (16 + 5 * g + 3) (nI k)) 66 (Dwo D g k) := by
  obtain ⟨h0, h1, h2, h3, h4, h5, h6, h7, h8, hl, hp, hr, hk⟩ := hM
  have np6 := hV.2.2.2.2.2.2.2.1
  have nr8 := hV.2.2.2.2.2.2.1.1
  have n9 := hV.1
  have on := hV.2.1
  have off : ∀ j, j ≠ 16 + 5 * g + 3 → (up2 I 66 (16 + 5 * g + 3) (nI k)) 66 j = I 66 j := fun j q0 => by rw [u_eq, if_neg (by omega)]
  refine ⟨(off _ (by omega)).trans h0, (off _ (by omega)).trans h1, (off _ (by omega)).trans h2, (off _ (by omega)).trans h3, (off _ (by omega)).trans h4, (off _ (by omega)).trans h5, (off _ (by omega)).trans h6, fun i hi => (off _ (by omega)).trans (h7 i hi), fun i hi => ?_, fun i hi => ?_, fun i hi => ?_, fun r hr2 => ?_, fun r hr2 => ?_⟩
  · have hi : i < d_n D := hi
    have q := h8 i hi
    refine ⟨by rw [off _ (by omega)]; exact q.1, by rw [off _ (by omega)]; exact q.2.1, by rw [off _ (by omega)]; exact q.2.2.1, ?_, fun hin => by rw [off _ (by omega)]; exact q.2.2.2.2 hin⟩
    show _ = nI (up1 (d_wo D) g k i)
    rw [u_eq, u1_eq]
    by_cases e : i = g
    · rw [if_pos (by omega), if_pos e]
    · rw [if_neg (by omega), if_neg e]; exact q.2.2.2.1
  · have hi : i < d_o D := hi
    exact (off _ (by omega)).trans (hl i hi)
  · have hi : i < d_np D := hi
    exact ⟨(off _ (by omega)).trans (hp i hi).1, (off _ (by omega)).trans (hp i hi).2⟩
  · have hr2 : r < d_nr D := hr2
    exact ⟨(off _ (by omega)).trans (hr r hr2).1, (off _ (by omega)).trans (hr r hr2).2.1, fun e => (off _ (by omega)).trans ((hr r hr2).2.2.1 e), fun i t ht => (off _ (by omega)).trans ((hr r hr2).2.2.2 i t ht)⟩
  · have hr2 : r ≤ d_nr D := hr2
    exact (off _ (by omega)).trans (hk r hr2)
theorem M_ga (hM : MR I 66 D) (hV : VD D) {v : Nat} : MR (up2 I 66 (0) (nI v)) 66 (Dga D v) := by
  obtain ⟨h0, h1, h2, h3, h4, h5, h6, h7, h8, hl, hp, hr, hk⟩ := hM
  have np6 := hV.2.2.2.2.2.2.2.1
  have nr8 := hV.2.2.2.2.2.2.1.1
  have n9 := hV.1
  have on := hV.2.1
  have off : ∀ j, j ≠ 0 → (up2 I 66 (0) (nI v)) 66 j = I 66 j := fun j q0 => by rw [u_eq, if_neg (by omega)]
  refine ⟨by rw [u_eq, if_pos ⟨rfl, rfl⟩]; rfl, (off _ (by omega)).trans h1, (off _ (by omega)).trans h2, (off _ (by omega)).trans h3, (off _ (by omega)).trans h4, (off _ (by omega)).trans h5, (off _ (by omega)).trans h6, fun i hi => (off _ (by omega)).trans (h7 i hi), fun i hi => ?_, fun i hi => ?_, fun i hi => ?_, fun r hr2 => ?_, fun r hr2 => ?_⟩
  · have hi : i < d_n D := hi
    have q := h8 i hi
    exact ⟨(off _ (by omega)).trans q.1, (off _ (by omega)).trans q.2.1, (off _ (by omega)).trans q.2.2.1, (off _ (by omega)).trans q.2.2.2.1, fun e => (off _ (by omega)).trans (q.2.2.2.2 e)⟩
  · have hi : i < d_o D := hi
    exact (off _ (by omega)).trans (hl i hi)
  · have hi : i < d_np D := hi
    exact ⟨(off _ (by omega)).trans (hp i hi).1, (off _ (by omega)).trans (hp i hi).2⟩
  · have hr2 : r < d_nr D := hr2
    exact ⟨(off _ (by omega)).trans (hr r hr2).1, (off _ (by omega)).trans (hr r hr2).2.1, fun e => (off _ (by omega)).trans ((hr r hr2).2.2.1 e), fun i t ht => (off _ (by omega)).trans ((hr r hr2).2.2.2 i t ht)⟩
  · have hr2 : r ≤ d_nr D := hr2
    exact (off _ (by omega)).trans (hk r hr2)
theorem M_da (hM : MR I 66 D) (hV : VD D) {v : Nat} : MR (up2 I 66 (1) (nI v)) 66 (Dda D v) := by
  obtain ⟨h0, h1, h2, h3, h4, h5, h6, h7, h8, hl, hp, hr, hk⟩ := hM
  have np6 := hV.2.2.2.2.2.2.2.1
  have nr8 := hV.2.2.2.2.2.2.1.1
  have n9 := hV.1
  have on := hV.2.1
  have off : ∀ j, j ≠ 1 → (up2 I 66 (1) (nI v)) 66 j = I 66 j := fun j q0 => by rw [u_eq, if_neg (by omega)]
  refine ⟨(off _ (by omega)).trans h0, by rw [u_eq, if_pos ⟨rfl, rfl⟩]; rfl, (off _ (by omega)).trans h2, (off _ (by omega)).trans h3, (off _ (by omega)).trans h4, (off _ (by omega)).trans h5, (off _ (by omega)).trans h6, fun i hi => (off _ (by omega)).trans (h7 i hi), fun i hi => ?_, fun i hi => ?_, fun i hi => ?_, fun r hr2 => ?_, fun r hr2 => ?_⟩
  · have hi : i < d_n D := hi
    have q := h8 i hi
    exact ⟨(off _ (by omega)).trans q.1, (off _ (by omega)).trans q.2.1, (off _ (by omega)).trans q.2.2.1, (off _ (by omega)).trans q.2.2.2.1, fun e => (off _ (by omega)).trans (q.2.2.2.2 e)⟩
  · have hi : i < d_o D := hi
    exact (off _ (by omega)).trans (hl i hi)
  · have hi : i < d_np D := hi
    exact ⟨(off _ (by omega)).trans (hp i hi).1, (off _ (by omega)).trans (hp i hi).2⟩
  · have hr2 : r < d_nr D := hr2
    exact ⟨(off _ (by omega)).trans (hr r hr2).1, (off _ (by omega)).trans (hr r hr2).2.1, fun e => (off _ (by omega)).trans ((hr r hr2).2.2.1 e), fun i t ht => (off _ (by omega)).trans ((hr r hr2).2.2.2 i t ht)⟩
  · have hr2 : r ≤ d_nr D := hr2
    exact (off _ (by omega)).trans (hk r hr2)
theorem M_z (hM : MR I 66 D) (hV : VD D) {v : Int32} : MR (up2 I 66 (2) (v)) 66 (Dz D v) := by
  obtain ⟨h0, h1, h2, h3, h4, h5, h6, h7, h8, hl, hp, hr, hk⟩ := hM
  have np6 := hV.2.2.2.2.2.2.2.1
  have nr8 := hV.2.2.2.2.2.2.1.1
  have n9 := hV.1
  have on := hV.2.1
  have off : ∀ j, j ≠ 2 → (up2 I 66 (2) (v)) 66 j = I 66 j := fun j q0 => by rw [u_eq, if_neg (by omega)]
  refine ⟨(off _ (by omega)).trans h0, (off _ (by omega)).trans h1, by rw [u_eq, if_pos ⟨rfl, rfl⟩]; rfl, (off _ (by omega)).trans h3, (off _ (by omega)).trans h4, (off _ (by omega)).trans h5, (off _ (by omega)).trans h6, fun i hi => (off _ (by omega)).trans (h7 i hi), fun i hi => ?_, fun i hi => ?_, fun i hi => ?_, fun r hr2 => ?_, fun r hr2 => ?_⟩
  · have hi : i < d_n D := hi
    have q := h8 i hi
    exact ⟨(off _ (by omega)).trans q.1, (off _ (by omega)).trans q.2.1, (off _ (by omega)).trans q.2.2.1, (off _ (by omega)).trans q.2.2.2.1, fun e => (off _ (by omega)).trans (q.2.2.2.2 e)⟩
  · have hi : i < d_o D := hi
    exact (off _ (by omega)).trans (hl i hi)
  · have hi : i < d_np D := hi
    exact ⟨(off _ (by omega)).trans (hp i hi).1, (off _ (by omega)).trans (hp i hi).2⟩
  · have hr2 : r < d_nr D := hr2
    exact ⟨(off _ (by omega)).trans (hr r hr2).1, (off _ (by omega)).trans (hr r hr2).2.1, fun e => (off _ (by omega)).trans ((hr r hr2).2.2.1 e), fun i t ht => (off _ (by omega)).trans ((hr r hr2).2.2.2 i t ht)⟩
  · have hr2 : r ≤ d_nr D := hr2
    exact (off _ (by omega)).trans (hk r hr2)
theorem M_r0 (hM : MR I 66 D) (hV : VD D)  : MR (up2 I 66 (6) (nI 0)) 66 (Dr0 D) := by
  obtain ⟨h0, h1, h2, h3, h4, h5, h6, h7, h8, hl, hp, hr, hk⟩ := hM
  have np6 := hV.2.2.2.2.2.2.2.1
  have nr8 := hV.2.2.2.2.2.2.1.1
  have n9 := hV.1
  have on := hV.2.1
  have off : ∀ j, j ≠ 6 → (up2 I 66 (6) (nI 0)) 66 j = I 66 j := fun j q0 => by rw [u_eq, if_neg (by omega)]
  refine ⟨(off _ (by omega)).trans h0, (off _ (by omega)).trans h1, (off _ (by omega)).trans h2, (off _ (by omega)).trans h3, (off _ (by omega)).trans h4, (off _ (by omega)).trans h5, by rw [u_eq, if_pos ⟨rfl, rfl⟩]; rfl, fun i hi => (off _ (by omega)).trans (h7 i hi), fun i hi => ?_, fun i hi => ?_, fun i hi => absurd hi (Nat.not_lt_zero i), fun r hr2 => ?_, fun r hr2 => ?_⟩
  · have hi : i < d_n D := hi
    have q := h8 i hi
    exact ⟨(off _ (by omega)).trans q.1, (off _ (by omega)).trans q.2.1, (off _ (by omega)).trans q.2.2.1, (off _ (by omega)).trans q.2.2.2.1, fun e => (off _ (by omega)).trans (q.2.2.2.2 e)⟩
  · have hi : i < d_o D := hi
    exact (off _ (by omega)).trans (hl i hi)
  · have hr2 : r < d_nr D := hr2
    exact ⟨(off _ (by omega)).trans (hr r hr2).1, (off _ (by omega)).trans (hr r hr2).2.1, fun e => (off _ (by omega)).trans ((hr r hr2).2.2.1 e), fun i t ht => (off _ (by omega)).trans ((hr r hr2).2.2.2 i t ht)⟩
  · have hr2 : r ≤ d_nr D := hr2
    exact (off _ (by omega)).trans (hk r hr2)
theorem M_rp (hM : MR I 66 D) (hV : VD D) (h6n : d_np D < 6) {g c : Nat} : MR (up2 (up2 (up2 I 66 (61 + 2 * d_np D) (nI g)) 66 (62 + 2 * d_np D) (nI c)) 66 (6) (nI (d_np D + 1))) 66 (Drp D g c) := by
  obtain ⟨h0, h1, h2, h3, h4, h5, h6, h7, h8, hl, hp, hr, hk⟩ := hM
  have np6 := hV.2.2.2.2.2.2.2.1
  have nr8 := hV.2.2.2.2.2.2.1.1
  have n9 := hV.1
  have on := hV.2.1
  have off : ∀ j, j ≠ 61 + 2 * d_np D → j ≠ 62 + 2 * d_np D → j ≠ 6 → (up2 (up2 (up2 I 66 (61 + 2 * d_np D) (nI g)) 66 (62 + 2 * d_np D) (nI c)) 66 (6) (nI (d_np D + 1))) 66 j = I 66 j := fun j q0 q1 q2 => by rw [u_eq, if_neg (by omega), u_eq, if_neg (by omega), u_eq, if_neg (by omega)]
  refine ⟨(off _ (by omega) (by omega) (by omega)).trans h0, (off _ (by omega) (by omega) (by omega)).trans h1, (off _ (by omega) (by omega) (by omega)).trans h2, (off _ (by omega) (by omega) (by omega)).trans h3, (off _ (by omega) (by omega) (by omega)).trans h4, (off _ (by omega) (by omega) (by omega)).trans h5, by rw [u_eq, if_pos ⟨rfl, rfl⟩]; rfl, fun i hi => (off _ (by omega) (by omega) (by omega)).trans (h7 i hi), fun i hi => ?_, fun i hi => ?_, fun i hi => ?_, fun r hr2 => ?_, fun r hr2 => ?_⟩
  · have hi : i < d_n D := hi
    have q := h8 i hi
    exact ⟨(off _ (by omega) (by omega) (by omega)).trans q.1, (off _ (by omega) (by omega) (by omega)).trans q.2.1, (off _ (by omega) (by omega) (by omega)).trans q.2.2.1, (off _ (by omega) (by omega) (by omega)).trans q.2.2.2.1, fun e => (off _ (by omega) (by omega) (by omega)).trans (q.2.2.2.2 e)⟩
  · have hi : i < d_o D := hi
    have hb := hV.2.2.1 i hi
    exact (off (20 + 5 * d_ln D i) (by omega) (by omega) (by omega)).trans (hl i hi)
  · have hi : i < d_np D + 1 := hi
    show _ = nI (up1 (d_pg D) (d_np D) g i) ∧ _ = nI (up1 (d_pc D) (d_np D) c i)
    rw [u1_eq, u1_eq]
    by_cases e : i = d_np D
    · rw [if_pos e, if_pos e, u_eq, if_neg (by omega), u_eq, if_neg (by omega), u_eq, if_pos (by omega), u_eq, if_neg (by omega), u_eq, if_pos (by omega)]
      exact ⟨rfl, rfl⟩
    · rw [if_neg e, if_neg e, off _ (by omega) (by omega) (by omega), off _ (by omega) (by omega) (by omega)]
      exact hp i (by omega)
  · have hr2 : r < d_nr D := hr2
    exact ⟨(off _ (by omega) (by omega) (by omega)).trans (hr r hr2).1, (off _ (by omega) (by omega) (by omega)).trans (hr r hr2).2.1, fun e => (off _ (by omega) (by omega) (by omega)).trans ((hr r hr2).2.2.1 e), fun i t ht => (off _ (by omega) (by omega) (by omega)).trans ((hr r hr2).2.2.2 i t ht)⟩
  · have hr2 : r ≤ d_nr D := hr2
    exact (off _ (by omega) (by omega) (by omega)).trans (hk r hr2)
theorem M_add (hM : MR I 66 D) (hV : VD D) (hn : d_n D < 9) {k b c w : Nat} : MR (up2 (up2 (up2 (up2 (up2 (up2 I 66 (16 + 5 * d_n D) (nI k)) 66 (16 + 5 * d_n D + 1) (nI b)) 66 (16 + 5 * d_n D + 2) (nI c)) 66 (16 + 5 * d_n D + 3) (nI w)) 66 (16 + 5 * d_n D + 4) (-nI 9)) 66 (3) (nI (d_n D + 1))) 66 (Dadd D k b c w) := by
  obtain ⟨h0, h1, h2, h3, h4, h5, h6, h7, h8, hl, hp, hr, hk⟩ := hM
  have np6 := hV.2.2.2.2.2.2.2.1
  have nr8 := hV.2.2.2.2.2.2.1.1
  have n9 := hV.1
  have on := hV.2.1
  have off : ∀ j, j ≠ 16 + 5 * d_n D → j ≠ 16 + 5 * d_n D + 1 → j ≠ 16 + 5 * d_n D + 2 → j ≠ 16 + 5 * d_n D + 3 → j ≠ 16 + 5 * d_n D + 4 → j ≠ 3 → (up2 (up2 (up2 (up2 (up2 (up2 I 66 (16 + 5 * d_n D) (nI k)) 66 (16 + 5 * d_n D + 1) (nI b)) 66 (16 + 5 * d_n D + 2) (nI c)) 66 (16 + 5 * d_n D + 3) (nI w)) 66 (16 + 5 * d_n D + 4) (-nI 9)) 66 (3) (nI (d_n D + 1))) 66 j = I 66 j := fun j q0 q1 q2 q3 q4 q5 => by rw [u_eq, if_neg (by omega), u_eq, if_neg (by omega), u_eq, if_neg (by omega), u_eq, if_neg (by omega), u_eq, if_neg (by omega), u_eq, if_neg (by omega)]
  refine ⟨(off _ (by omega) (by omega) (by omega) (by omega) (by omega) (by omega)).trans h0, (off _ (by omega) (by omega) (by omega) (by omega) (by omega) (by omega)).trans h1, (off _ (by omega) (by omega) (by omega) (by omega) (by omega) (by omega)).trans h2, by rw [u_eq, if_pos ⟨rfl, rfl⟩]; rfl, (off _ (by omega) (by omega) (by omega) (by omega) (by omega) (by omega)).trans h4, (off _ (by omega) (by omega) (by omega) (by omega) (by omega) (by omega)).trans h5, (off _ (by omega) (by omega) (by omega) (by omega) (by omega) (by omega)).trans h6, fun i hi => (off _ (by omega) (by omega) (by omega) (by omega) (by omega) (by omega)).trans (h7 i hi), fun i hi => ?_, fun i hi => ?_, fun i hi => ?_, fun r hr2 => ?_, fun r hr2 => ?_⟩
  · have hi : i < d_n D + 1 := hi
    show _ = nI (up1 (d_kd D) (d_n D) k i) ∧ _ = nI (up1 (d_by D) (d_n D) b i) ∧ _ = nI (up1 (d_cl D) (d_n D) c i) ∧ _ = nI (up1 (d_wo D) (d_n D) w i) ∧ _
    rw [u1_eq, u1_eq, u1_eq, u1_eq]
    by_cases e : i = d_n D
    · rw [if_pos e, if_pos e, if_pos e, if_pos e]
      refine ⟨?_, ?_, ?_, ?_, fun _ => ?_⟩
      · rw [u_eq, if_neg (by omega), u_eq, if_neg (by omega), u_eq, if_neg (by omega), u_eq, if_neg (by omega), u_eq, if_neg (by omega), u_eq, if_pos (by omega)]
      · rw [u_eq, if_neg (by omega), u_eq, if_neg (by omega), u_eq, if_neg (by omega), u_eq, if_neg (by omega), u_eq, if_pos (by omega)]
      · rw [u_eq, if_neg (by omega), u_eq, if_neg (by omega), u_eq, if_neg (by omega), u_eq, if_pos (by omega)]
      · rw [u_eq, if_neg (by omega), u_eq, if_neg (by omega), u_eq, if_pos (by omega)]
      · rw [u_eq, if_neg (by omega), u_eq, if_pos (by omega)]; rfl
    · rw [if_neg e, if_neg e, if_neg e, if_neg e]
      have q := h8 i (by omega)
      refine ⟨(off _ (by omega) (by omega) (by omega) (by omega) (by omega) (by omega)).trans q.1, (off _ (by omega) (by omega) (by omega) (by omega) (by omega) (by omega)).trans q.2.1, (off _ (by omega) (by omega) (by omega) (by omega) (by omega) (by omega)).trans q.2.2.1, (off _ (by omega) (by omega) (by omega) (by omega) (by omega) (by omega)).trans q.2.2.2.1, fun hin => (off _ (by omega) (by omega) (by omega) (by omega) (by omega) (by omega)).trans (q.2.2.2.2 ?_)⟩
      rw [isin_add hV, decide_eq_false (fun z => e z.symm), Bool.or_false] at hin
      exact hin
  · have hi : i < d_o D := hi
    have hb := hV.2.2.1 i hi
    exact (off (20 + 5 * d_ln D i) (by omega) (by omega) (by omega) (by omega) (by omega) (by omega)).trans (hl i hi)
  · have hi : i < d_np D := hi
    exact ⟨(off _ (by omega) (by omega) (by omega) (by omega) (by omega) (by omega)).trans (hp i hi).1, (off _ (by omega) (by omega) (by omega) (by omega) (by omega) (by omega)).trans (hp i hi).2⟩
  · have hr2 : r < d_nr D := hr2
    exact ⟨(off _ (by omega) (by omega) (by omega) (by omega) (by omega) (by omega)).trans (hr r hr2).1, (off _ (by omega) (by omega) (by omega) (by omega) (by omega) (by omega)).trans (hr r hr2).2.1, fun e => (off _ (by omega) (by omega) (by omega) (by omega) (by omega) (by omega)).trans ((hr r hr2).2.2.1 e), fun i t ht => (off _ (by omega) (by omega) (by omega) (by omega) (by omega) (by omega)).trans ((hr r hr2).2.2.2 i t ht)⟩
  · have hr2 : r ≤ d_nr D := hr2
    exact (off _ (by omega) (by omega) (by omega) (by omega) (by omega) (by omega)).trans (hk r hr2)
theorem M_back (hM : MR I 66 D) (hV : VD D) (ho : d_o D ≠ 0)  : MR (up2 (up2 (up2 I 66 (5) (nI (d_o D - 1))) 66 (7 + (d_o D - 1)) (nI 0)) 66 (16 + 5 * d_ln D (d_o D - 1) + 4) (-nI 9)) 66 (Dback D) := by
  obtain ⟨h0, h1, h2, h3, h4, h5, h6, h7, h8, hl, hp, hr, hk⟩ := hM
  have np6 := hV.2.2.2.2.2.2.2.1
  have nr8 := hV.2.2.2.2.2.2.1.1
  have n9 := hV.1
  have on := hV.2.1
  have hlt := hV.2.2.1 (d_o D - 1) (by omega)
  have off : ∀ j, j ≠ 5 → j ≠ 7 + (d_o D - 1) → j ≠ 16 + 5 * d_ln D (d_o D - 1) + 4 → (up2 (up2 (up2 I 66 (5) (nI (d_o D - 1))) 66 (7 + (d_o D - 1)) (nI 0)) 66 (16 + 5 * d_ln D (d_o D - 1) + 4) (-nI 9)) 66 j = I 66 j := fun j q0 q1 q2 => by rw [u_eq, if_neg (by omega), u_eq, if_neg (by omega), u_eq, if_neg (by omega)]
  refine ⟨(off _ (by omega) (by omega) (by omega)).trans h0, (off _ (by omega) (by omega) (by omega)).trans h1, (off _ (by omega) (by omega) (by omega)).trans h2, (off _ (by omega) (by omega) (by omega)).trans h3, (off _ (by omega) (by omega) (by omega)).trans h4, ?_, (off _ (by omega) (by omega) (by omega)).trans h6, fun i hi => ?_, fun i hi => ?_, fun i hi => ?_, fun i hi => ?_, fun r hr2 => ?_, fun r hr2 => ?_⟩
  · rw [u_eq, if_neg (by omega), u_eq, if_neg (by omega), u_eq, if_pos ⟨rfl, rfl⟩]; rfl
  · show _ = if i < d_o D - 1 then nI (d_ln D i) else 0
    by_cases e : i = d_o D - 1
    · rw [if_neg (by omega), u_eq, if_neg (by omega), u_eq, if_pos (by omega)]; rfl
    · rw [off _ (by omega) (by omega) (by omega), h7 i hi]
      by_cases e2 : i < d_o D
      · rw [if_pos e2, if_pos (by omega)]
      · rw [if_neg e2, if_neg (by omega)]
  · have hi : i < d_n D := hi
    have q := h8 i hi
    refine ⟨(off _ (by omega) (by omega) (by omega)).trans q.1, (off _ (by omega) (by omega) (by omega)).trans q.2.1, (off _ (by omega) (by omega) (by omega)).trans q.2.2.1, (off _ (by omega) (by omega) (by omega)).trans q.2.2.2.1, fun hin => ?_⟩
    by_cases e : i = d_ln D (d_o D - 1)
    · rw [u_eq, if_pos (by omega)]; rfl
    · rw [isin_back hV ho, decide_eq_false (fun z => e z.symm), Bool.or_false] at hin
      exact (off _ (by omega) (by omega) (by omega)).trans (q.2.2.2.2 hin)
  · have hi : i < d_o D - 1 := hi
    have hne : d_ln D i ≠ d_ln D (d_o D - 1) := fun z => by
      have := hV.2.2.2.1 i (d_o D - 1) (by omega) (by omega) z
      omega
    have hb := hV.2.2.1 i (by omega)
    exact (off _ (by show 20 + 5 * d_ln D i ≠ _; omega) (by show 20 + 5 * d_ln D i ≠ _; omega) (by show 20 + 5 * d_ln D i ≠ _; omega)).trans (hl i (by omega))
  · have hi : i < d_np D := hi
    exact ⟨(off _ (by omega) (by omega) (by omega)).trans (hp i hi).1, (off _ (by omega) (by omega) (by omega)).trans (hp i hi).2⟩
  · have hr2 : r < d_nr D := hr2
    exact ⟨(off _ (by omega) (by omega) (by omega)).trans (hr r hr2).1, (off _ (by omega) (by omega) (by omega)).trans (hr r hr2).2.1, fun e => (off _ (by omega) (by omega) (by omega)).trans ((hr r hr2).2.2.1 e), fun i t ht => (off _ (by omega) (by omega) (by omega)).trans ((hr r hr2).2.2.2 i t ht)⟩
  · have hr2 : r ≤ d_nr D := hr2
    exact (off _ (by omega) (by omega) (by omega)).trans (hk r hr2)
end REFACTS
