/-! CALLS: what is kept, and comes again -/
theorem cp_e (I : Iw) (a b n c j : Nat) : cpy I a 0 b 0 n c j = if c = b ∧ j < n then I a j else I c j := by
  unfold cpy setA
  by_cases h : c = b
  · rw [if_pos h]
    by_cases hj : j < n
    · rw [if_pos ⟨Nat.zero_le _, by omega⟩, if_pos ⟨h, hj⟩, Nat.zero_add, Nat.sub_zero]
    · rw [if_neg (by omega), if_neg (by omega), h]
  · rw [if_neg h, if_neg (fun q => h q.1)]
theorem st_mono (D : Dt) : ∀ a b, a ≤ b → stA D a ≤ stA D b := by
  intro a b h
  induction b with
  | zero => rw [Nat.le_zero.mp h]; exact Nat.le_refl _
  | succ b ih =>
    by_cases e : a = b + 1
    · rw [e]; exact Nat.le_refl _
    · have h1 := ih (by omega)
      have h2 : stA D (b + 1) = stA D b + (d_rc D b).length := rfl
      omega
/-- cells of a shed that are read -/
def inS (c j : Nat) : Prop := (1 ≤ c ∧ c ≤ 6 ∧ j < 9) ∨ (14 ≤ c ∧ c ≤ 15 ∧ j < 6) ∨ (8 ≤ c ∧ c ≤ 10 ∧ j < 8) ∨ (11 ≤ c ∧ c ≤ 13 ∧ j < 128) ∨ (c = 0 ∧ (j = 5 ∨ j = 6 ∨ j = 8 ∨ j = 9 ∨ j = 10 ∨ j = 14 ∨ j = 15)) ∨ (c = 7 ∧ (j = 0 ∨ j = 4))
theorem CR_cp {I I' : Iw} {a b : Nat} {D : Dt} (h : ∀ c j, inS c j → I' (b + c) j = I (a + c) j) (hV : VD D) (hC : CR I a D) : CR I' b D := by
  obtain ⟨⟨h1, h2, h3, h4, h5, h6, h7, h8, h9, ⟨r1, r2, r3⟩, h11⟩, hm⟩ := hC
  have n9 := hV.1
  have on := hV.2.1
  have np6 := hV.2.2.2.2.2.2.2.1
  have nr8 := hV.2.2.2.2.2.2.1.1
  have st := hV.2.2.2.2.2.2.1.2.1
  refine ⟨⟨(h 0 5 (by unfold inS; omega)).trans h1, (h 0 6 (by unfold inS; omega)).trans h2, (h 0 8 (by unfold inS; omega)).trans h3, (h 0 9 (by unfold inS; omega)).trans h4, (h 0 10 (by unfold inS; omega)).trans h5, (h 0 14 (by unfold inS; omega)).trans h6, (h 0 15 (by unfold inS; omega)).trans h7, fun g hg => ?_, fun k hk => (h 6 k (by unfold inS; omega)).trans (h9 k hk), ⟨(h 7 0 (by unfold inS; omega)).trans r1, (h 7 4 (by unfold inS; omega)).trans r2, fun r hr => ?_⟩, fun k hk => ⟨(h 14 k (by unfold inS; omega)).trans (h11 k hk).1, (h 15 k (by unfold inS; omega)).trans (h11 k hk).2⟩⟩, fun g hg => (h 5 g (by unfold inS; omega)).trans (hm g hg)⟩
  · have q := h8 g hg
    exact ⟨(h 1 g (by unfold inS; omega)).trans q.1, (h 2 g (by unfold inS; omega)).trans q.2.1, (h 3 g (by unfold inS; omega)).trans q.2.2.1, (h 4 g (by unfold inS; omega)).trans q.2.2.2⟩
  · have q := r3 r hr
    refine ⟨(h 8 r (by unfold inS; omega)).trans q.1, (h 9 r (by unfold inS; omega)).trans q.2.1, (h 10 r (by unfold inS; omega)).trans q.2.2.1, fun i c hc => ?_⟩
    have hi : i < (d_rc D r).length := by
      rcases Nat.lt_or_ge i (d_rc D r).length with z | z
      · exact z
      · rw [List.getElem?_eq_none z] at hc; cases hc
    have hmo := st_mono D (r + 1) (d_nr D) (by omega)
    have hs : stA D (r + 1) = stA D r + (d_rc D r).length := rfl
    have w := q.2.2.2 i c hc
    exact ⟨(h 11 _ (by unfold inS; omega)).trans w.1, fun e => ⟨(h 12 _ (by unfold inS; omega)).trans (w.2 e).1, (h 13 _ (by unfold inS; omega)).trans (w.2 e).2⟩⟩
def cs17_1 (I : Iw) : Iw := cpy (I) 2 0 18 0 9
def cs17_2 (I : Iw) : Iw := cpy (cs17_1 I) 3 0 19 0 9
def cs17_3 (I : Iw) : Iw := cpy (cs17_2 I) 4 0 20 0 9
def cs17_4 (I : Iw) : Iw := cpy (cs17_3 I) 5 0 21 0 9
def cs17_5 (I : Iw) : Iw := cpy (cs17_4 I) 6 0 22 0 9
def cs17_6 (I : Iw) : Iw := cpy (cs17_5 I) 7 0 23 0 9
def cs17_7 (I : Iw) : Iw := cpy (cs17_6 I) 15 0 31 0 6
def cs17_8 (I : Iw) : Iw := cpy (cs17_7 I) 16 0 32 0 6
def cs17_9 (I : Iw) : Iw := up2 (cs17_8 I) 17 5 (cs17_8 I 1 5)
def cs17_10 (I : Iw) : Iw := up2 (cs17_9 I) 17 6 (cs17_9 I 1 6)
def cs17_11 (I : Iw) : Iw := up2 (cs17_10 I) 17 8 (cs17_10 I 1 8)
def cs17_12 (I : Iw) : Iw := up2 (cs17_11 I) 17 9 (cs17_11 I 1 9)
def cs17_13 (I : Iw) : Iw := up2 (cs17_12 I) 17 10 (cs17_12 I 1 10)
def cs17_14 (I : Iw) : Iw := up2 (cs17_13 I) 17 14 (cs17_13 I 1 14)
def cs17_15 (I : Iw) : Iw := up2 (cs17_14 I) 17 15 (cs17_14 I 1 15)
def cs17_16 (I : Iw) : Iw := up2 (cs17_15 I) 24 0 (cs17_15 I 8 0)
def cs17_17 (I : Iw) : Iw := up2 (cs17_16 I) 24 4 (cs17_16 I 8 4)
def cs17_18 (I : Iw) : Iw := cpy (cs17_17 I) 9 0 25 0 8
def cs17_19 (I : Iw) : Iw := cpy (cs17_18 I) 10 0 26 0 8
def cs17_20 (I : Iw) : Iw := cpy (cs17_19 I) 11 0 27 0 8
def cs17_21 (I : Iw) : Iw := cpy (cs17_20 I) 12 0 28 0 128
def cs17_22 (I : Iw) : Iw := cpy (cs17_21 I) 13 0 29 0 128
def cs17_23 (I : Iw) : Iw := cpy (cs17_22 I) 14 0 30 0 128
theorem ce17_1 (I : Iw) (c j : Nat) : cs17_1 I c j = if c = 18 ∧ j < 9 then I 2 j else I c j := cp_e _ _ _ _ _ _
theorem ce17_2 (I : Iw) (c j : Nat) : cs17_2 I c j = if c = 19 ∧ j < 9 then cs17_1 I 3 j else cs17_1 I c j := cp_e _ _ _ _ _ _
theorem ce17_3 (I : Iw) (c j : Nat) : cs17_3 I c j = if c = 20 ∧ j < 9 then cs17_2 I 4 j else cs17_2 I c j := cp_e _ _ _ _ _ _
theorem ce17_4 (I : Iw) (c j : Nat) : cs17_4 I c j = if c = 21 ∧ j < 9 then cs17_3 I 5 j else cs17_3 I c j := cp_e _ _ _ _ _ _
theorem ce17_5 (I : Iw) (c j : Nat) : cs17_5 I c j = if c = 22 ∧ j < 9 then cs17_4 I 6 j else cs17_4 I c j := cp_e _ _ _ _ _ _
theorem ce17_6 (I : Iw) (c j : Nat) : cs17_6 I c j = if c = 23 ∧ j < 9 then cs17_5 I 7 j else cs17_5 I c j := cp_e _ _ _ _ _ _
theorem ce17_7 (I : Iw) (c j : Nat) : cs17_7 I c j = if c = 31 ∧ j < 6 then cs17_6 I 15 j else cs17_6 I c j := cp_e _ _ _ _ _ _
theorem ce17_8 (I : Iw) (c j : Nat) : cs17_8 I c j = if c = 32 ∧ j < 6 then cs17_7 I 16 j else cs17_7 I c j := cp_e _ _ _ _ _ _
theorem ce17_9 (I : Iw) (c j : Nat) : cs17_9 I c j = if c = 17 ∧ j = 5 then cs17_8 I 1 5 else cs17_8 I c j := u_eq _ _ _ _ _ _
theorem ce17_10 (I : Iw) (c j : Nat) : cs17_10 I c j = if c = 17 ∧ j = 6 then cs17_9 I 1 6 else cs17_9 I c j := u_eq _ _ _ _ _ _
theorem ce17_11 (I : Iw) (c j : Nat) : cs17_11 I c j = if c = 17 ∧ j = 8 then cs17_10 I 1 8 else cs17_10 I c j := u_eq _ _ _ _ _ _
theorem ce17_12 (I : Iw) (c j : Nat) : cs17_12 I c j = if c = 17 ∧ j = 9 then cs17_11 I 1 9 else cs17_11 I c j := u_eq _ _ _ _ _ _
theorem ce17_13 (I : Iw) (c j : Nat) : cs17_13 I c j = if c = 17 ∧ j = 10 then cs17_12 I 1 10 else cs17_12 I c j := u_eq _ _ _ _ _ _
theorem ce17_14 (I : Iw) (c j : Nat) : cs17_14 I c j = if c = 17 ∧ j = 14 then cs17_13 I 1 14 else cs17_13 I c j := u_eq _ _ _ _ _ _
theorem ce17_15 (I : Iw) (c j : Nat) : cs17_15 I c j = if c = 17 ∧ j = 15 then cs17_14 I 1 15 else cs17_14 I c j := u_eq _ _ _ _ _ _
theorem ce17_16 (I : Iw) (c j : Nat) : cs17_16 I c j = if c = 24 ∧ j = 0 then cs17_15 I 8 0 else cs17_15 I c j := u_eq _ _ _ _ _ _
theorem ce17_17 (I : Iw) (c j : Nat) : cs17_17 I c j = if c = 24 ∧ j = 4 then cs17_16 I 8 4 else cs17_16 I c j := u_eq _ _ _ _ _ _
theorem ce17_18 (I : Iw) (c j : Nat) : cs17_18 I c j = if c = 25 ∧ j < 8 then cs17_17 I 9 j else cs17_17 I c j := cp_e _ _ _ _ _ _
theorem ce17_19 (I : Iw) (c j : Nat) : cs17_19 I c j = if c = 26 ∧ j < 8 then cs17_18 I 10 j else cs17_18 I c j := cp_e _ _ _ _ _ _
theorem ce17_20 (I : Iw) (c j : Nat) : cs17_20 I c j = if c = 27 ∧ j < 8 then cs17_19 I 11 j else cs17_19 I c j := cp_e _ _ _ _ _ _
theorem ce17_21 (I : Iw) (c j : Nat) : cs17_21 I c j = if c = 28 ∧ j < 128 then cs17_20 I 12 j else cs17_20 I c j := cp_e _ _ _ _ _ _
theorem ce17_22 (I : Iw) (c j : Nat) : cs17_22 I c j = if c = 29 ∧ j < 128 then cs17_21 I 13 j else cs17_21 I c j := cp_e _ _ _ _ _ _
theorem ce17_23 (I : Iw) (c j : Nat) : cs17_23 I c j = if c = 30 ∧ j < 128 then cs17_22 I 14 j else cs17_22 I c j := cp_e _ _ _ _ _ _
theorem cf17 (I : Iw) (c j : Nat) (h : c < 17 ∨ 32 < c) : cs17_23 I c j = I c j := by
  rw [ce17_23, if_neg (by omega), ce17_22, if_neg (by omega), ce17_21, if_neg (by omega), ce17_20, if_neg (by omega), ce17_19, if_neg (by omega), ce17_18, if_neg (by omega), ce17_17, if_neg (by omega), ce17_16, if_neg (by omega), ce17_15, if_neg (by omega), ce17_14, if_neg (by omega), ce17_13, if_neg (by omega), ce17_12, if_neg (by omega), ce17_11, if_neg (by omega), ce17_10, if_neg (by omega), ce17_9, if_neg (by omega), ce17_8, if_neg (by omega), ce17_7, if_neg (by omega), ce17_6, if_neg (by omega), ce17_5, if_neg (by omega), ce17_4, if_neg (by omega), ce17_3, if_neg (by omega), ce17_2, if_neg (by omega), ce17_1, if_neg (by omega)]
theorem cq17_1 (I : Iw) (j : Nat) (h : j < 9) : cs17_23 I 18 j = I 2 j := by
  rw [ce17_23, if_neg (by omega), ce17_22, if_neg (by omega), ce17_21, if_neg (by omega), ce17_20, if_neg (by omega), ce17_19, if_neg (by omega), ce17_18, if_neg (by omega), ce17_17, if_neg (by omega), ce17_16, if_neg (by omega), ce17_15, if_neg (by omega), ce17_14, if_neg (by omega), ce17_13, if_neg (by omega), ce17_12, if_neg (by omega), ce17_11, if_neg (by omega), ce17_10, if_neg (by omega), ce17_9, if_neg (by omega), ce17_8, if_neg (by omega), ce17_7, if_neg (by omega), ce17_6, if_neg (by omega), ce17_5, if_neg (by omega), ce17_4, if_neg (by omega), ce17_3, if_neg (by omega), ce17_2, if_neg (by omega), ce17_1, if_pos (by omega)]
theorem cq17_2 (I : Iw) (j : Nat) (h : j < 9) : cs17_23 I 19 j = I 3 j := by
  rw [ce17_23, if_neg (by omega), ce17_22, if_neg (by omega), ce17_21, if_neg (by omega), ce17_20, if_neg (by omega), ce17_19, if_neg (by omega), ce17_18, if_neg (by omega), ce17_17, if_neg (by omega), ce17_16, if_neg (by omega), ce17_15, if_neg (by omega), ce17_14, if_neg (by omega), ce17_13, if_neg (by omega), ce17_12, if_neg (by omega), ce17_11, if_neg (by omega), ce17_10, if_neg (by omega), ce17_9, if_neg (by omega), ce17_8, if_neg (by omega), ce17_7, if_neg (by omega), ce17_6, if_neg (by omega), ce17_5, if_neg (by omega), ce17_4, if_neg (by omega), ce17_3, if_neg (by omega), ce17_2, if_pos (by omega), ce17_1, if_neg (by omega)]
theorem cq17_3 (I : Iw) (j : Nat) (h : j < 9) : cs17_23 I 20 j = I 4 j := by
  rw [ce17_23, if_neg (by omega), ce17_22, if_neg (by omega), ce17_21, if_neg (by omega), ce17_20, if_neg (by omega), ce17_19, if_neg (by omega), ce17_18, if_neg (by omega), ce17_17, if_neg (by omega), ce17_16, if_neg (by omega), ce17_15, if_neg (by omega), ce17_14, if_neg (by omega), ce17_13, if_neg (by omega), ce17_12, if_neg (by omega), ce17_11, if_neg (by omega), ce17_10, if_neg (by omega), ce17_9, if_neg (by omega), ce17_8, if_neg (by omega), ce17_7, if_neg (by omega), ce17_6, if_neg (by omega), ce17_5, if_neg (by omega), ce17_4, if_neg (by omega), ce17_3, if_pos (by omega), ce17_2, if_neg (by omega), ce17_1, if_neg (by omega)]
theorem cq17_4 (I : Iw) (j : Nat) (h : j < 9) : cs17_23 I 21 j = I 5 j := by
  rw [ce17_23, if_neg (by omega), ce17_22, if_neg (by omega), ce17_21, if_neg (by omega), ce17_20, if_neg (by omega), ce17_19, if_neg (by omega), ce17_18, if_neg (by omega), ce17_17, if_neg (by omega), ce17_16, if_neg (by omega), ce17_15, if_neg (by omega), ce17_14, if_neg (by omega), ce17_13, if_neg (by omega), ce17_12, if_neg (by omega), ce17_11, if_neg (by omega), ce17_10, if_neg (by omega), ce17_9, if_neg (by omega), ce17_8, if_neg (by omega), ce17_7, if_neg (by omega), ce17_6, if_neg (by omega), ce17_5, if_neg (by omega), ce17_4, if_pos (by omega), ce17_3, if_neg (by omega), ce17_2, if_neg (by omega), ce17_1, if_neg (by omega)]
theorem cq17_5 (I : Iw) (j : Nat) (h : j < 9) : cs17_23 I 22 j = I 6 j := by
  rw [ce17_23, if_neg (by omega), ce17_22, if_neg (by omega), ce17_21, if_neg (by omega), ce17_20, if_neg (by omega), ce17_19, if_neg (by omega), ce17_18, if_neg (by omega), ce17_17, if_neg (by omega), ce17_16, if_neg (by omega), ce17_15, if_neg (by omega), ce17_14, if_neg (by omega), ce17_13, if_neg (by omega), ce17_12, if_neg (by omega), ce17_11, if_neg (by omega), ce17_10, if_neg (by omega), ce17_9, if_neg (by omega), ce17_8, if_neg (by omega), ce17_7, if_neg (by omega), ce17_6, if_neg (by omega), ce17_5, if_pos (by omega), ce17_4, if_neg (by omega), ce17_3, if_neg (by omega), ce17_2, if_neg (by omega), ce17_1, if_neg (by omega)]
theorem cq17_6 (I : Iw) (j : Nat) (h : j < 9) : cs17_23 I 23 j = I 7 j := by
  rw [ce17_23, if_neg (by omega), ce17_22, if_neg (by omega), ce17_21, if_neg (by omega), ce17_20, if_neg (by omega), ce17_19, if_neg (by omega), ce17_18, if_neg (by omega), ce17_17, if_neg (by omega), ce17_16, if_neg (by omega), ce17_15, if_neg (by omega), ce17_14, if_neg (by omega), ce17_13, if_neg (by omega), ce17_12, if_neg (by omega), ce17_11, if_neg (by omega), ce17_10, if_neg (by omega), ce17_9, if_neg (by omega), ce17_8, if_neg (by omega), ce17_7, if_neg (by omega), ce17_6, if_pos (by omega), ce17_5, if_neg (by omega), ce17_4, if_neg (by omega), ce17_3, if_neg (by omega), ce17_2, if_neg (by omega), ce17_1, if_neg (by omega)]
theorem cq17_7 (I : Iw) (j : Nat) (h : j < 6) : cs17_23 I 31 j = I 15 j := by
  rw [ce17_23, if_neg (by omega), ce17_22, if_neg (by omega), ce17_21, if_neg (by omega), ce17_20, if_neg (by omega), ce17_19, if_neg (by omega), ce17_18, if_neg (by omega), ce17_17, if_neg (by omega), ce17_16, if_neg (by omega), ce17_15, if_neg (by omega), ce17_14, if_neg (by omega), ce17_13, if_neg (by omega), ce17_12, if_neg (by omega), ce17_11, if_neg (by omega), ce17_10, if_neg (by omega), ce17_9, if_neg (by omega), ce17_8, if_neg (by omega), ce17_7, if_pos (by omega), ce17_6, if_neg (by omega), ce17_5, if_neg (by omega), ce17_4, if_neg (by omega), ce17_3, if_neg (by omega), ce17_2, if_neg (by omega), ce17_1, if_neg (by omega)]
theorem cq17_8 (I : Iw) (j : Nat) (h : j < 6) : cs17_23 I 32 j = I 16 j := by
  rw [ce17_23, if_neg (by omega), ce17_22, if_neg (by omega), ce17_21, if_neg (by omega), ce17_20, if_neg (by omega), ce17_19, if_neg (by omega), ce17_18, if_neg (by omega), ce17_17, if_neg (by omega), ce17_16, if_neg (by omega), ce17_15, if_neg (by omega), ce17_14, if_neg (by omega), ce17_13, if_neg (by omega), ce17_12, if_neg (by omega), ce17_11, if_neg (by omega), ce17_10, if_neg (by omega), ce17_9, if_neg (by omega), ce17_8, if_pos (by omega), ce17_7, if_neg (by omega), ce17_6, if_neg (by omega), ce17_5, if_neg (by omega), ce17_4, if_neg (by omega), ce17_3, if_neg (by omega), ce17_2, if_neg (by omega), ce17_1, if_neg (by omega)]
theorem cq17_9 (I : Iw) : cs17_23 I 17 5 = I 1 5 := by
  rw [ce17_23, if_neg (by omega), ce17_22, if_neg (by omega), ce17_21, if_neg (by omega), ce17_20, if_neg (by omega), ce17_19, if_neg (by omega), ce17_18, if_neg (by omega), ce17_17, if_neg (by omega), ce17_16, if_neg (by omega), ce17_15, if_neg (by omega), ce17_14, if_neg (by omega), ce17_13, if_neg (by omega), ce17_12, if_neg (by omega), ce17_11, if_neg (by omega), ce17_10, if_neg (by omega), ce17_9, if_pos (by omega), ce17_8, if_neg (by omega), ce17_7, if_neg (by omega), ce17_6, if_neg (by omega), ce17_5, if_neg (by omega), ce17_4, if_neg (by omega), ce17_3, if_neg (by omega), ce17_2, if_neg (by omega), ce17_1, if_neg (by omega)]
theorem cq17_10 (I : Iw) : cs17_23 I 17 6 = I 1 6 := by
  rw [ce17_23, if_neg (by omega), ce17_22, if_neg (by omega), ce17_21, if_neg (by omega), ce17_20, if_neg (by omega), ce17_19, if_neg (by omega), ce17_18, if_neg (by omega), ce17_17, if_neg (by omega), ce17_16, if_neg (by omega), ce17_15, if_neg (by omega), ce17_14, if_neg (by omega), ce17_13, if_neg (by omega), ce17_12, if_neg (by omega), ce17_11, if_neg (by omega), ce17_10, if_pos (by omega), ce17_9, if_neg (by omega), ce17_8, if_neg (by omega), ce17_7, if_neg (by omega), ce17_6, if_neg (by omega), ce17_5, if_neg (by omega), ce17_4, if_neg (by omega), ce17_3, if_neg (by omega), ce17_2, if_neg (by omega), ce17_1, if_neg (by omega)]
theorem cq17_11 (I : Iw) : cs17_23 I 17 8 = I 1 8 := by
  rw [ce17_23, if_neg (by omega), ce17_22, if_neg (by omega), ce17_21, if_neg (by omega), ce17_20, if_neg (by omega), ce17_19, if_neg (by omega), ce17_18, if_neg (by omega), ce17_17, if_neg (by omega), ce17_16, if_neg (by omega), ce17_15, if_neg (by omega), ce17_14, if_neg (by omega), ce17_13, if_neg (by omega), ce17_12, if_neg (by omega), ce17_11, if_pos (by omega), ce17_10, if_neg (by omega), ce17_9, if_neg (by omega), ce17_8, if_neg (by omega), ce17_7, if_neg (by omega), ce17_6, if_neg (by omega), ce17_5, if_neg (by omega), ce17_4, if_neg (by omega), ce17_3, if_neg (by omega), ce17_2, if_neg (by omega), ce17_1, if_neg (by omega)]
theorem cq17_12 (I : Iw) : cs17_23 I 17 9 = I 1 9 := by
  rw [ce17_23, if_neg (by omega), ce17_22, if_neg (by omega), ce17_21, if_neg (by omega), ce17_20, if_neg (by omega), ce17_19, if_neg (by omega), ce17_18, if_neg (by omega), ce17_17, if_neg (by omega), ce17_16, if_neg (by omega), ce17_15, if_neg (by omega), ce17_14, if_neg (by omega), ce17_13, if_neg (by omega), ce17_12, if_pos (by omega), ce17_11, if_neg (by omega), ce17_10, if_neg (by omega), ce17_9, if_neg (by omega), ce17_8, if_neg (by omega), ce17_7, if_neg (by omega), ce17_6, if_neg (by omega), ce17_5, if_neg (by omega), ce17_4, if_neg (by omega), ce17_3, if_neg (by omega), ce17_2, if_neg (by omega), ce17_1, if_neg (by omega)]
theorem cq17_13 (I : Iw) : cs17_23 I 17 10 = I 1 10 := by
  rw [ce17_23, if_neg (by omega), ce17_22, if_neg (by omega), ce17_21, if_neg (by omega), ce17_20, if_neg (by omega), ce17_19, if_neg (by omega), ce17_18, if_neg (by omega), ce17_17, if_neg (by omega), ce17_16, if_neg (by omega), ce17_15, if_neg (by omega), ce17_14, if_neg (by omega), ce17_13, if_pos (by omega), ce17_12, if_neg (by omega), ce17_11, if_neg (by omega), ce17_10, if_neg (by omega), ce17_9, if_neg (by omega), ce17_8, if_neg (by omega), ce17_7, if_neg (by omega), ce17_6, if_neg (by omega), ce17_5, if_neg (by omega), ce17_4, if_neg (by omega), ce17_3, if_neg (by omega), ce17_2, if_neg (by omega), ce17_1, if_neg (by omega)]
theorem cq17_14 (I : Iw) : cs17_23 I 17 14 = I 1 14 := by
  rw [ce17_23, if_neg (by omega), ce17_22, if_neg (by omega), ce17_21, if_neg (by omega), ce17_20, if_neg (by omega), ce17_19, if_neg (by omega), ce17_18, if_neg (by omega), ce17_17, if_neg (by omega), ce17_16, if_neg (by omega), ce17_15, if_neg (by omega), ce17_14, if_pos (by omega), ce17_13, if_neg (by omega), ce17_12, if_neg (by omega), ce17_11, if_neg (by omega), ce17_10, if_neg (by omega), ce17_9, if_neg (by omega), ce17_8, if_neg (by omega), ce17_7, if_neg (by omega), ce17_6, if_neg (by omega), ce17_5, if_neg (by omega), ce17_4, if_neg (by omega), ce17_3, if_neg (by omega), ce17_2, if_neg (by omega), ce17_1, if_neg (by omega)]
theorem cq17_15 (I : Iw) : cs17_23 I 17 15 = I 1 15 := by
  rw [ce17_23, if_neg (by omega), ce17_22, if_neg (by omega), ce17_21, if_neg (by omega), ce17_20, if_neg (by omega), ce17_19, if_neg (by omega), ce17_18, if_neg (by omega), ce17_17, if_neg (by omega), ce17_16, if_neg (by omega), ce17_15, if_pos (by omega), ce17_14, if_neg (by omega), ce17_13, if_neg (by omega), ce17_12, if_neg (by omega), ce17_11, if_neg (by omega), ce17_10, if_neg (by omega), ce17_9, if_neg (by omega), ce17_8, if_neg (by omega), ce17_7, if_neg (by omega), ce17_6, if_neg (by omega), ce17_5, if_neg (by omega), ce17_4, if_neg (by omega), ce17_3, if_neg (by omega), ce17_2, if_neg (by omega), ce17_1, if_neg (by omega)]
theorem cq17_16 (I : Iw) : cs17_23 I 24 0 = I 8 0 := by
  rw [ce17_23, if_neg (by omega), ce17_22, if_neg (by omega), ce17_21, if_neg (by omega), ce17_20, if_neg (by omega), ce17_19, if_neg (by omega), ce17_18, if_neg (by omega), ce17_17, if_neg (by omega), ce17_16, if_pos (by omega), ce17_15, if_neg (by omega), ce17_14, if_neg (by omega), ce17_13, if_neg (by omega), ce17_12, if_neg (by omega), ce17_11, if_neg (by omega), ce17_10, if_neg (by omega), ce17_9, if_neg (by omega), ce17_8, if_neg (by omega), ce17_7, if_neg (by omega), ce17_6, if_neg (by omega), ce17_5, if_neg (by omega), ce17_4, if_neg (by omega), ce17_3, if_neg (by omega), ce17_2, if_neg (by omega), ce17_1, if_neg (by omega)]
theorem cq17_17 (I : Iw) : cs17_23 I 24 4 = I 8 4 := by
  rw [ce17_23, if_neg (by omega), ce17_22, if_neg (by omega), ce17_21, if_neg (by omega), ce17_20, if_neg (by omega), ce17_19, if_neg (by omega), ce17_18, if_neg (by omega), ce17_17, if_pos (by omega), ce17_16, if_neg (by omega), ce17_15, if_neg (by omega), ce17_14, if_neg (by omega), ce17_13, if_neg (by omega), ce17_12, if_neg (by omega), ce17_11, if_neg (by omega), ce17_10, if_neg (by omega), ce17_9, if_neg (by omega), ce17_8, if_neg (by omega), ce17_7, if_neg (by omega), ce17_6, if_neg (by omega), ce17_5, if_neg (by omega), ce17_4, if_neg (by omega), ce17_3, if_neg (by omega), ce17_2, if_neg (by omega), ce17_1, if_neg (by omega)]
theorem cq17_18 (I : Iw) (j : Nat) (h : j < 8) : cs17_23 I 25 j = I 9 j := by
  rw [ce17_23, if_neg (by omega), ce17_22, if_neg (by omega), ce17_21, if_neg (by omega), ce17_20, if_neg (by omega), ce17_19, if_neg (by omega), ce17_18, if_pos (by omega), ce17_17, if_neg (by omega), ce17_16, if_neg (by omega), ce17_15, if_neg (by omega), ce17_14, if_neg (by omega), ce17_13, if_neg (by omega), ce17_12, if_neg (by omega), ce17_11, if_neg (by omega), ce17_10, if_neg (by omega), ce17_9, if_neg (by omega), ce17_8, if_neg (by omega), ce17_7, if_neg (by omega), ce17_6, if_neg (by omega), ce17_5, if_neg (by omega), ce17_4, if_neg (by omega), ce17_3, if_neg (by omega), ce17_2, if_neg (by omega), ce17_1, if_neg (by omega)]
theorem cq17_19 (I : Iw) (j : Nat) (h : j < 8) : cs17_23 I 26 j = I 10 j := by
  rw [ce17_23, if_neg (by omega), ce17_22, if_neg (by omega), ce17_21, if_neg (by omega), ce17_20, if_neg (by omega), ce17_19, if_pos (by omega), ce17_18, if_neg (by omega), ce17_17, if_neg (by omega), ce17_16, if_neg (by omega), ce17_15, if_neg (by omega), ce17_14, if_neg (by omega), ce17_13, if_neg (by omega), ce17_12, if_neg (by omega), ce17_11, if_neg (by omega), ce17_10, if_neg (by omega), ce17_9, if_neg (by omega), ce17_8, if_neg (by omega), ce17_7, if_neg (by omega), ce17_6, if_neg (by omega), ce17_5, if_neg (by omega), ce17_4, if_neg (by omega), ce17_3, if_neg (by omega), ce17_2, if_neg (by omega), ce17_1, if_neg (by omega)]
theorem cq17_20 (I : Iw) (j : Nat) (h : j < 8) : cs17_23 I 27 j = I 11 j := by
  rw [ce17_23, if_neg (by omega), ce17_22, if_neg (by omega), ce17_21, if_neg (by omega), ce17_20, if_pos (by omega), ce17_19, if_neg (by omega), ce17_18, if_neg (by omega), ce17_17, if_neg (by omega), ce17_16, if_neg (by omega), ce17_15, if_neg (by omega), ce17_14, if_neg (by omega), ce17_13, if_neg (by omega), ce17_12, if_neg (by omega), ce17_11, if_neg (by omega), ce17_10, if_neg (by omega), ce17_9, if_neg (by omega), ce17_8, if_neg (by omega), ce17_7, if_neg (by omega), ce17_6, if_neg (by omega), ce17_5, if_neg (by omega), ce17_4, if_neg (by omega), ce17_3, if_neg (by omega), ce17_2, if_neg (by omega), ce17_1, if_neg (by omega)]
theorem cq17_21 (I : Iw) (j : Nat) (h : j < 128) : cs17_23 I 28 j = I 12 j := by
  rw [ce17_23, if_neg (by omega), ce17_22, if_neg (by omega), ce17_21, if_pos (by omega), ce17_20, if_neg (by omega), ce17_19, if_neg (by omega), ce17_18, if_neg (by omega), ce17_17, if_neg (by omega), ce17_16, if_neg (by omega), ce17_15, if_neg (by omega), ce17_14, if_neg (by omega), ce17_13, if_neg (by omega), ce17_12, if_neg (by omega), ce17_11, if_neg (by omega), ce17_10, if_neg (by omega), ce17_9, if_neg (by omega), ce17_8, if_neg (by omega), ce17_7, if_neg (by omega), ce17_6, if_neg (by omega), ce17_5, if_neg (by omega), ce17_4, if_neg (by omega), ce17_3, if_neg (by omega), ce17_2, if_neg (by omega), ce17_1, if_neg (by omega)]
theorem cq17_22 (I : Iw) (j : Nat) (h : j < 128) : cs17_23 I 29 j = I 13 j := by
  rw [ce17_23, if_neg (by omega), ce17_22, if_pos (by omega), ce17_21, if_neg (by omega), ce17_20, if_neg (by omega), ce17_19, if_neg (by omega), ce17_18, if_neg (by omega), ce17_17, if_neg (by omega), ce17_16, if_neg (by omega), ce17_15, if_neg (by omega), ce17_14, if_neg (by omega), ce17_13, if_neg (by omega), ce17_12, if_neg (by omega), ce17_11, if_neg (by omega), ce17_10, if_neg (by omega), ce17_9, if_neg (by omega), ce17_8, if_neg (by omega), ce17_7, if_neg (by omega), ce17_6, if_neg (by omega), ce17_5, if_neg (by omega), ce17_4, if_neg (by omega), ce17_3, if_neg (by omega), ce17_2, if_neg (by omega), ce17_1, if_neg (by omega)]
theorem cq17_23 (I : Iw) (j : Nat) (h : j < 128) : cs17_23 I 30 j = I 14 j := by
  rw [ce17_23, if_pos (by omega), ce17_22, if_neg (by omega), ce17_21, if_neg (by omega), ce17_20, if_neg (by omega), ce17_19, if_neg (by omega), ce17_18, if_neg (by omega), ce17_17, if_neg (by omega), ce17_16, if_neg (by omega), ce17_15, if_neg (by omega), ce17_14, if_neg (by omega), ce17_13, if_neg (by omega), ce17_12, if_neg (by omega), ce17_11, if_neg (by omega), ce17_10, if_neg (by omega), ce17_9, if_neg (by omega), ce17_8, if_neg (by omega), ce17_7, if_neg (by omega), ce17_6, if_neg (by omega), ce17_5, if_neg (by omega), ce17_4, if_neg (by omega), ce17_3, if_neg (by omega), ce17_2, if_neg (by omega), ce17_1, if_neg (by omega)]
theorem ca17 (I : Iw) (c j : Nat) (h : inS c j) : cs17_23 I (17 + c) j = I (1 + c) j := by
  unfold inS at h
  have hc : c = 0 ∨ c = 1 ∨ c = 2 ∨ c = 3 ∨ c = 4 ∨ c = 5 ∨ c = 6 ∨ c = 7 ∨ c = 8 ∨ c = 9 ∨ c = 10 ∨ c = 11 ∨ c = 12 ∨ c = 13 ∨ c = 14 ∨ c = 15 := by omega
  rcases hc with e | e | e | e | e | e | e | e | e | e | e | e | e | e | e | e <;> subst e
  · have hj : j = 5 ∨ j = 6 ∨ j = 8 ∨ j = 9 ∨ j = 10 ∨ j = 14 ∨ j = 15 := by omega
    rcases hj with e | e | e | e | e | e | e <;> subst e
    · exact cq17_9 I
    · exact cq17_10 I
    · exact cq17_11 I
    · exact cq17_12 I
    · exact cq17_13 I
    · exact cq17_14 I
    · exact cq17_15 I
  · exact cq17_1 I j (by omega)
  · exact cq17_2 I j (by omega)
  · exact cq17_3 I j (by omega)
  · exact cq17_4 I j (by omega)
  · exact cq17_5 I j (by omega)
  · exact cq17_6 I j (by omega)
  · have hj : j = 0 ∨ j = 4 := by omega
    rcases hj with e | e <;> subst e
    · exact cq17_16 I
    · exact cq17_17 I
  · exact cq17_18 I j (by omega)
  · exact cq17_19 I j (by omega)
  · exact cq17_20 I j (by omega)
  · exact cq17_21 I j (by omega)
  · exact cq17_22 I j (by omega)
  · exact cq17_23 I j (by omega)
  · exact cq17_7 I j (by omega)
  · exact cq17_8 I j (by omega)
theorem ck17_1 {J : Sh} : cok (S0 ++ J) 20 2 18 (nI 0) (nI 0) (nI 9) = true := id rfl
theorem ck17_2 {J : Sh} : cok (S0 ++ J) 20 3 19 (nI 0) (nI 0) (nI 9) = true := id rfl
theorem ck17_3 {J : Sh} : cok (S0 ++ J) 20 4 20 (nI 0) (nI 0) (nI 9) = true := id rfl
theorem ck17_4 {J : Sh} : cok (S0 ++ J) 20 5 21 (nI 0) (nI 0) (nI 9) = true := id rfl
theorem ck17_5 {J : Sh} : cok (S0 ++ J) 20 6 22 (nI 0) (nI 0) (nI 9) = true := id rfl
theorem ck17_6 {J : Sh} : cok (S0 ++ J) 20 7 23 (nI 0) (nI 0) (nI 9) = true := id rfl
theorem ck17_14 {J : Sh} : cok (S0 ++ J) 20 15 31 (nI 0) (nI 0) (nI 6) = true := id rfl
theorem ck17_15 {J : Sh} : cok (S0 ++ J) 20 16 32 (nI 0) (nI 0) (nI 6) = true := id rfl
theorem ck17_8 {J : Sh} : cok (S0 ++ J) 20 9 25 (nI 0) (nI 0) (nI 8) = true := id rfl
theorem ck17_9 {J : Sh} : cok (S0 ++ J) 20 10 26 (nI 0) (nI 0) (nI 8) = true := id rfl
theorem ck17_10 {J : Sh} : cok (S0 ++ J) 20 11 27 (nI 0) (nI 0) (nI 8) = true := id rfl
theorem ck17_11 {J : Sh} : cok (S0 ++ J) 20 12 28 (nI 0) (nI 0) (nI 128) = true := id rfl
theorem ck17_12 {J : Sh} : cok (S0 ++ J) 20 13 29 (nI 0) (nI 0) (nI 128) = true := id rfl
theorem ck17_13 {J : Sh} : cok (S0 ++ J) 20 14 30 (nI 0) (nI 0) (nI 128) = true := id rfl
theorem q_copy17 {J : Sh} {R : Rw} (hR : Lay R) (I : Iw) : f_X7_copyFrom (S0 ++ J) R I 17 1 = some (cs17_23 I) := by
  rw [f_X7_copyFrom]
  simp (disch := omega) only [f_X5_copyFrom, so_1, ao_2, ao_3, ao_4, ao_5, ao_6, ao_7, so_8, ly_1_0 hR, ly_1_1 hR, ly_1_2 hR, ly_1_3 hR, ly_1_4 hR, ly_1_7 hR, ly_1_11 hR, ly_1_12 hR, ly_1_13 hR, ly_8_1 hR, ly_8_2 hR, ly_8_3 hR, ly_8_5 hR, ly_8_6 hR, ly_8_7 hR, so_17, ao_18, ao_19, ao_20, ao_21, ao_22, ao_23, so_24, ly_17_0 hR, ly_17_1 hR, ly_17_2 hR, ly_17_3 hR, ly_17_4 hR, ly_17_7 hR, ly_17_11 hR, ly_17_12 hR, ly_17_13 hR, ly_24_1 hR, ly_24_2 hR, ly_24_3 hR, ly_24_5 hR, ly_24_6 hR, ly_24_7 hR, ck17_1, ck17_2, ck17_3, ck17_4, ck17_5, ck17_6, ck17_14, ck17_15, ck17_8, ck17_9, ck17_10, ck17_11, ck17_12, ck17_13, lit, gp1, rl1, rs1, bd1, lt1, n_add, n_sub, n_dec, n_le, n_lt, n_eq, n_in, nI_clamp, n_mul, m_or, m_and, m_pow, m_bit, m_dif, n_neg, yn_0, yn_1, yn_z, yn_d, one31, Nat.add_sub_cancel, Nat.not_lt_zero, if_true, if_false, ite_true, ite_false, Bool.true_eq_false, Bool.false_eq_true, Nat.add_zero, Nat.zero_add]
  rfl
def cs1_1 (I : Iw) : Iw := cpy (I) 18 0 2 0 9
def cs1_2 (I : Iw) : Iw := cpy (cs1_1 I) 19 0 3 0 9
def cs1_3 (I : Iw) : Iw := cpy (cs1_2 I) 20 0 4 0 9
def cs1_4 (I : Iw) : Iw := cpy (cs1_3 I) 21 0 5 0 9
def cs1_5 (I : Iw) : Iw := cpy (cs1_4 I) 22 0 6 0 9
def cs1_6 (I : Iw) : Iw := cpy (cs1_5 I) 23 0 7 0 9
def cs1_7 (I : Iw) : Iw := cpy (cs1_6 I) 31 0 15 0 6
def cs1_8 (I : Iw) : Iw := cpy (cs1_7 I) 32 0 16 0 6
def cs1_9 (I : Iw) : Iw := up2 (cs1_8 I) 1 5 (cs1_8 I 17 5)
def cs1_10 (I : Iw) : Iw := up2 (cs1_9 I) 1 6 (cs1_9 I 17 6)
def cs1_11 (I : Iw) : Iw := up2 (cs1_10 I) 1 8 (cs1_10 I 17 8)
def cs1_12 (I : Iw) : Iw := up2 (cs1_11 I) 1 9 (cs1_11 I 17 9)
def cs1_13 (I : Iw) : Iw := up2 (cs1_12 I) 1 10 (cs1_12 I 17 10)
def cs1_14 (I : Iw) : Iw := up2 (cs1_13 I) 1 14 (cs1_13 I 17 14)
def cs1_15 (I : Iw) : Iw := up2 (cs1_14 I) 1 15 (cs1_14 I 17 15)
def cs1_16 (I : Iw) : Iw := up2 (cs1_15 I) 8 0 (cs1_15 I 24 0)
def cs1_17 (I : Iw) : Iw := up2 (cs1_16 I) 8 4 (cs1_16 I 24 4)
def cs1_18 (I : Iw) : Iw := cpy (cs1_17 I) 25 0 9 0 8
def cs1_19 (I : Iw) : Iw := cpy (cs1_18 I) 26 0 10 0 8
def cs1_20 (I : Iw) : Iw := cpy (cs1_19 I) 27 0 11 0 8
def cs1_21 (I : Iw) : Iw := cpy (cs1_20 I) 28 0 12 0 128
def cs1_22 (I : Iw) : Iw := cpy (cs1_21 I) 29 0 13 0 128
def cs1_23 (I : Iw) : Iw := cpy (cs1_22 I) 30 0 14 0 128
theorem ce1_1 (I : Iw) (c j : Nat) : cs1_1 I c j = if c = 2 ∧ j < 9 then I 18 j else I c j := cp_e _ _ _ _ _ _
theorem ce1_2 (I : Iw) (c j : Nat) : cs1_2 I c j = if c = 3 ∧ j < 9 then cs1_1 I 19 j else cs1_1 I c j := cp_e _ _ _ _ _ _
theorem ce1_3 (I : Iw) (c j : Nat) : cs1_3 I c j = if c = 4 ∧ j < 9 then cs1_2 I 20 j else cs1_2 I c j := cp_e _ _ _ _ _ _
theorem ce1_4 (I : Iw) (c j : Nat) : cs1_4 I c j = if c = 5 ∧ j < 9 then cs1_3 I 21 j else cs1_3 I c j := cp_e _ _ _ _ _ _
theorem ce1_5 (I : Iw) (c j : Nat) : cs1_5 I c j = if c = 6 ∧ j < 9 then cs1_4 I 22 j else cs1_4 I c j := cp_e _ _ _ _ _ _
theorem ce1_6 (I : Iw) (c j : Nat) : cs1_6 I c j = if c = 7 ∧ j < 9 then cs1_5 I 23 j else cs1_5 I c j := cp_e _ _ _ _ _ _
theorem ce1_7 (I : Iw) (c j : Nat) : cs1_7 I c j = if c = 15 ∧ j < 6 then cs1_6 I 31 j else cs1_6 I c j := cp_e _ _ _ _ _ _
theorem ce1_8 (I : Iw) (c j : Nat) : cs1_8 I c j = if c = 16 ∧ j < 6 then cs1_7 I 32 j else cs1_7 I c j := cp_e _ _ _ _ _ _
theorem ce1_9 (I : Iw) (c j : Nat) : cs1_9 I c j = if c = 1 ∧ j = 5 then cs1_8 I 17 5 else cs1_8 I c j := u_eq _ _ _ _ _ _
theorem ce1_10 (I : Iw) (c j : Nat) : cs1_10 I c j = if c = 1 ∧ j = 6 then cs1_9 I 17 6 else cs1_9 I c j := u_eq _ _ _ _ _ _
theorem ce1_11 (I : Iw) (c j : Nat) : cs1_11 I c j = if c = 1 ∧ j = 8 then cs1_10 I 17 8 else cs1_10 I c j := u_eq _ _ _ _ _ _
theorem ce1_12 (I : Iw) (c j : Nat) : cs1_12 I c j = if c = 1 ∧ j = 9 then cs1_11 I 17 9 else cs1_11 I c j := u_eq _ _ _ _ _ _
theorem ce1_13 (I : Iw) (c j : Nat) : cs1_13 I c j = if c = 1 ∧ j = 10 then cs1_12 I 17 10 else cs1_12 I c j := u_eq _ _ _ _ _ _
theorem ce1_14 (I : Iw) (c j : Nat) : cs1_14 I c j = if c = 1 ∧ j = 14 then cs1_13 I 17 14 else cs1_13 I c j := u_eq _ _ _ _ _ _
theorem ce1_15 (I : Iw) (c j : Nat) : cs1_15 I c j = if c = 1 ∧ j = 15 then cs1_14 I 17 15 else cs1_14 I c j := u_eq _ _ _ _ _ _
theorem ce1_16 (I : Iw) (c j : Nat) : cs1_16 I c j = if c = 8 ∧ j = 0 then cs1_15 I 24 0 else cs1_15 I c j := u_eq _ _ _ _ _ _
theorem ce1_17 (I : Iw) (c j : Nat) : cs1_17 I c j = if c = 8 ∧ j = 4 then cs1_16 I 24 4 else cs1_16 I c j := u_eq _ _ _ _ _ _
theorem ce1_18 (I : Iw) (c j : Nat) : cs1_18 I c j = if c = 9 ∧ j < 8 then cs1_17 I 25 j else cs1_17 I c j := cp_e _ _ _ _ _ _
theorem ce1_19 (I : Iw) (c j : Nat) : cs1_19 I c j = if c = 10 ∧ j < 8 then cs1_18 I 26 j else cs1_18 I c j := cp_e _ _ _ _ _ _
theorem ce1_20 (I : Iw) (c j : Nat) : cs1_20 I c j = if c = 11 ∧ j < 8 then cs1_19 I 27 j else cs1_19 I c j := cp_e _ _ _ _ _ _
theorem ce1_21 (I : Iw) (c j : Nat) : cs1_21 I c j = if c = 12 ∧ j < 128 then cs1_20 I 28 j else cs1_20 I c j := cp_e _ _ _ _ _ _
theorem ce1_22 (I : Iw) (c j : Nat) : cs1_22 I c j = if c = 13 ∧ j < 128 then cs1_21 I 29 j else cs1_21 I c j := cp_e _ _ _ _ _ _
theorem ce1_23 (I : Iw) (c j : Nat) : cs1_23 I c j = if c = 14 ∧ j < 128 then cs1_22 I 30 j else cs1_22 I c j := cp_e _ _ _ _ _ _
theorem cf1 (I : Iw) (c j : Nat) (h : c < 1 ∨ 16 < c) : cs1_23 I c j = I c j := by
  rw [ce1_23, if_neg (by omega), ce1_22, if_neg (by omega), ce1_21, if_neg (by omega), ce1_20, if_neg (by omega), ce1_19, if_neg (by omega), ce1_18, if_neg (by omega), ce1_17, if_neg (by omega), ce1_16, if_neg (by omega), ce1_15, if_neg (by omega), ce1_14, if_neg (by omega), ce1_13, if_neg (by omega), ce1_12, if_neg (by omega), ce1_11, if_neg (by omega), ce1_10, if_neg (by omega), ce1_9, if_neg (by omega), ce1_8, if_neg (by omega), ce1_7, if_neg (by omega), ce1_6, if_neg (by omega), ce1_5, if_neg (by omega), ce1_4, if_neg (by omega), ce1_3, if_neg (by omega), ce1_2, if_neg (by omega), ce1_1, if_neg (by omega)]
theorem cq1_1 (I : Iw) (j : Nat) (h : j < 9) : cs1_23 I 2 j = I 18 j := by
  rw [ce1_23, if_neg (by omega), ce1_22, if_neg (by omega), ce1_21, if_neg (by omega), ce1_20, if_neg (by omega), ce1_19, if_neg (by omega), ce1_18, if_neg (by omega), ce1_17, if_neg (by omega), ce1_16, if_neg (by omega), ce1_15, if_neg (by omega), ce1_14, if_neg (by omega), ce1_13, if_neg (by omega), ce1_12, if_neg (by omega), ce1_11, if_neg (by omega), ce1_10, if_neg (by omega), ce1_9, if_neg (by omega), ce1_8, if_neg (by omega), ce1_7, if_neg (by omega), ce1_6, if_neg (by omega), ce1_5, if_neg (by omega), ce1_4, if_neg (by omega), ce1_3, if_neg (by omega), ce1_2, if_neg (by omega), ce1_1, if_pos (by omega)]
theorem cq1_2 (I : Iw) (j : Nat) (h : j < 9) : cs1_23 I 3 j = I 19 j := by
  rw [ce1_23, if_neg (by omega), ce1_22, if_neg (by omega), ce1_21, if_neg (by omega), ce1_20, if_neg (by omega), ce1_19, if_neg (by omega), ce1_18, if_neg (by omega), ce1_17, if_neg (by omega), ce1_16, if_neg (by omega), ce1_15, if_neg (by omega), ce1_14, if_neg (by omega), ce1_13, if_neg (by omega), ce1_12, if_neg (by omega), ce1_11, if_neg (by omega), ce1_10, if_neg (by omega), ce1_9, if_neg (by omega), ce1_8, if_neg (by omega), ce1_7, if_neg (by omega), ce1_6, if_neg (by omega), ce1_5, if_neg (by omega), ce1_4, if_neg (by omega), ce1_3, if_neg (by omega), ce1_2, if_pos (by omega), ce1_1, if_neg (by omega)]
theorem cq1_3 (I : Iw) (j : Nat) (h : j < 9) : cs1_23 I 4 j = I 20 j := by
  rw [ce1_23, if_neg (by omega), ce1_22, if_neg (by omega), ce1_21, if_neg (by omega), ce1_20, if_neg (by omega), ce1_19, if_neg (by omega), ce1_18, if_neg (by omega), ce1_17, if_neg (by omega), ce1_16, if_neg (by omega), ce1_15, if_neg (by omega), ce1_14, if_neg (by omega), ce1_13, if_neg (by omega), ce1_12, if_neg (by omega), ce1_11, if_neg (by omega), ce1_10, if_neg (by omega), ce1_9, if_neg (by omega), ce1_8, if_neg (by omega), ce1_7, if_neg (by omega), ce1_6, if_neg (by omega), ce1_5, if_neg (by omega), ce1_4, if_neg (by omega), ce1_3, if_pos (by omega), ce1_2, if_neg (by omega), ce1_1, if_neg (by omega)]
theorem cq1_4 (I : Iw) (j : Nat) (h : j < 9) : cs1_23 I 5 j = I 21 j := by
  rw [ce1_23, if_neg (by omega), ce1_22, if_neg (by omega), ce1_21, if_neg (by omega), ce1_20, if_neg (by omega), ce1_19, if_neg (by omega), ce1_18, if_neg (by omega), ce1_17, if_neg (by omega), ce1_16, if_neg (by omega), ce1_15, if_neg (by omega), ce1_14, if_neg (by omega), ce1_13, if_neg (by omega), ce1_12, if_neg (by omega), ce1_11, if_neg (by omega), ce1_10, if_neg (by omega), ce1_9, if_neg (by omega), ce1_8, if_neg (by omega), ce1_7, if_neg (by omega), ce1_6, if_neg (by omega), ce1_5, if_neg (by omega), ce1_4, if_pos (by omega), ce1_3, if_neg (by omega), ce1_2, if_neg (by omega), ce1_1, if_neg (by omega)]
theorem cq1_5 (I : Iw) (j : Nat) (h : j < 9) : cs1_23 I 6 j = I 22 j := by
  rw [ce1_23, if_neg (by omega), ce1_22, if_neg (by omega), ce1_21, if_neg (by omega), ce1_20, if_neg (by omega), ce1_19, if_neg (by omega), ce1_18, if_neg (by omega), ce1_17, if_neg (by omega), ce1_16, if_neg (by omega), ce1_15, if_neg (by omega), ce1_14, if_neg (by omega), ce1_13, if_neg (by omega), ce1_12, if_neg (by omega), ce1_11, if_neg (by omega), ce1_10, if_neg (by omega), ce1_9, if_neg (by omega), ce1_8, if_neg (by omega), ce1_7, if_neg (by omega), ce1_6, if_neg (by omega), ce1_5, if_pos (by omega), ce1_4, if_neg (by omega), ce1_3, if_neg (by omega), ce1_2, if_neg (by omega), ce1_1, if_neg (by omega)]
theorem cq1_6 (I : Iw) (j : Nat) (h : j < 9) : cs1_23 I 7 j = I 23 j := by
  rw [ce1_23, if_neg (by omega), ce1_22, if_neg (by omega), ce1_21, if_neg (by omega), ce1_20, if_neg (by omega), ce1_19, if_neg (by omega), ce1_18, if_neg (by omega), ce1_17, if_neg (by omega), ce1_16, if_neg (by omega), ce1_15, if_neg (by omega), ce1_14, if_neg (by omega), ce1_13, if_neg (by omega), ce1_12, if_neg (by omega), ce1_11, if_neg (by omega), ce1_10, if_neg (by omega), ce1_9, if_neg (by omega), ce1_8, if_neg (by omega), ce1_7, if_neg (by omega), ce1_6, if_pos (by omega), ce1_5, if_neg (by omega), ce1_4, if_neg (by omega), ce1_3, if_neg (by omega), ce1_2, if_neg (by omega), ce1_1, if_neg (by omega)]
theorem cq1_7 (I : Iw) (j : Nat) (h : j < 6) : cs1_23 I 15 j = I 31 j := by
  rw [ce1_23, if_neg (by omega), ce1_22, if_neg (by omega), ce1_21, if_neg (by omega), ce1_20, if_neg (by omega), ce1_19, if_neg (by omega), ce1_18, if_neg (by omega), ce1_17, if_neg (by omega), ce1_16, if_neg (by omega), ce1_15, if_neg (by omega), ce1_14, if_neg (by omega), ce1_13, if_neg (by omega), ce1_12, if_neg (by omega), ce1_11, if_neg (by omega), ce1_10, if_neg (by omega), ce1_9, if_neg (by omega), ce1_8, if_neg (by omega), ce1_7, if_pos (by omega), ce1_6, if_neg (by omega), ce1_5, if_neg (by omega), ce1_4, if_neg (by omega), ce1_3, if_neg (by omega), ce1_2, if_neg (by omega), ce1_1, if_neg (by omega)]
theorem cq1_8 (I : Iw) (j : Nat) (h : j < 6) : cs1_23 I 16 j = I 32 j := by
  rw [ce1_23, if_neg (by omega), ce1_22, if_neg (by omega), ce1_21, if_neg (by omega), ce1_20, if_neg (by omega), ce1_19, if_neg (by omega), ce1_18, if_neg (by omega), ce1_17, if_neg (by omega), ce1_16, if_neg (by omega), ce1_15, if_neg (by omega), ce1_14, if_neg (by omega), ce1_13, if_neg (by omega), ce1_12, if_neg (by omega), ce1_11, if_neg (by omega), ce1_10, if_neg (by omega), ce1_9, if_neg (by omega), ce1_8, if_pos (by omega), ce1_7, if_neg (by omega), ce1_6, if_neg (by omega), ce1_5, if_neg (by omega), ce1_4, if_neg (by omega), ce1_3, if_neg (by omega), ce1_2, if_neg (by omega), ce1_1, if_neg (by omega)]
theorem cq1_9 (I : Iw) : cs1_23 I 1 5 = I 17 5 := by
  rw [ce1_23, if_neg (by omega), ce1_22, if_neg (by omega), ce1_21, if_neg (by omega), ce1_20, if_neg (by omega), ce1_19, if_neg (by omega), ce1_18, if_neg (by omega), ce1_17, if_neg (by omega), ce1_16, if_neg (by omega), ce1_15, if_neg (by omega), ce1_14, if_neg (by omega), ce1_13, if_neg (by omega), ce1_12, if_neg (by omega), ce1_11, if_neg (by omega), ce1_10, if_neg (by omega), ce1_9, if_pos (by omega), ce1_8, if_neg (by omega), ce1_7, if_neg (by omega), ce1_6, if_neg (by omega), ce1_5, if_neg (by omega), ce1_4, if_neg (by omega), ce1_3, if_neg (by omega), ce1_2, if_neg (by omega), ce1_1, if_neg (by omega)]
theorem cq1_10 (I : Iw) : cs1_23 I 1 6 = I 17 6 := by
  rw [ce1_23, if_neg (by omega), ce1_22, if_neg (by omega), ce1_21, if_neg (by omega), ce1_20, if_neg (by omega), ce1_19, if_neg (by omega), ce1_18, if_neg (by omega), ce1_17, if_neg (by omega), ce1_16, if_neg (by omega), ce1_15, if_neg (by omega), ce1_14, if_neg (by omega), ce1_13, if_neg (by omega), ce1_12, if_neg (by omega), ce1_11, if_neg (by omega), ce1_10, if_pos (by omega), ce1_9, if_neg (by omega), ce1_8, if_neg (by omega), ce1_7, if_neg (by omega), ce1_6, if_neg (by omega), ce1_5, if_neg (by omega), ce1_4, if_neg (by omega), ce1_3, if_neg (by omega), ce1_2, if_neg (by omega), ce1_1, if_neg (by omega)]
theorem cq1_11 (I : Iw) : cs1_23 I 1 8 = I 17 8 := by
  rw [ce1_23, if_neg (by omega), ce1_22, if_neg (by omega), ce1_21, if_neg (by omega), ce1_20, if_neg (by omega), ce1_19, if_neg (by omega), ce1_18, if_neg (by omega), ce1_17, if_neg (by omega), ce1_16, if_neg (by omega), ce1_15, if_neg (by omega), ce1_14, if_neg (by omega), ce1_13, if_neg (by omega), ce1_12, if_neg (by omega), ce1_11, if_pos (by omega), ce1_10, if_neg (by omega), ce1_9, if_neg (by omega), ce1_8, if_neg (by omega), ce1_7, if_neg (by omega), ce1_6, if_neg (by omega), ce1_5, if_neg (by omega), ce1_4, if_neg (by omega), ce1_3, if_neg (by omega), ce1_2, if_neg (by omega), ce1_1, if_neg (by omega)]
theorem cq1_12 (I : Iw) : cs1_23 I 1 9 = I 17 9 := by
  rw [ce1_23, if_neg (by omega), ce1_22, if_neg (by omega), ce1_21, if_neg (by omega), ce1_20, if_neg (by omega), ce1_19, if_neg (by omega), ce1_18, if_neg (by omega), ce1_17, if_neg (by omega), ce1_16, if_neg (by omega), ce1_15, if_neg (by omega), ce1_14, if_neg (by omega), ce1_13, if_neg (by omega), ce1_12, if_pos (by omega), ce1_11, if_neg (by omega), ce1_10, if_neg (by omega), ce1_9, if_neg (by omega), ce1_8, if_neg (by omega), ce1_7, if_neg (by omega), ce1_6, if_neg (by omega), ce1_5, if_neg (by omega), ce1_4, if_neg (by omega), ce1_3, if_neg (by omega), ce1_2, if_neg (by omega), ce1_1, if_neg (by omega)]
theorem cq1_13 (I : Iw) : cs1_23 I 1 10 = I 17 10 := by
  rw [ce1_23, if_neg (by omega), ce1_22, if_neg (by omega), ce1_21, if_neg (by omega), ce1_20, if_neg (by omega), ce1_19, if_neg (by omega), ce1_18, if_neg (by omega), ce1_17, if_neg (by omega), ce1_16, if_neg (by omega), ce1_15, if_neg (by omega), ce1_14, if_neg (by omega), ce1_13, if_pos (by omega), ce1_12, if_neg (by omega), ce1_11, if_neg (by omega), ce1_10, if_neg (by omega), ce1_9, if_neg (by omega), ce1_8, if_neg (by omega), ce1_7, if_neg (by omega), ce1_6, if_neg (by omega), ce1_5, if_neg (by omega), ce1_4, if_neg (by omega), ce1_3, if_neg (by omega), ce1_2, if_neg (by omega), ce1_1, if_neg (by omega)]
theorem cq1_14 (I : Iw) : cs1_23 I 1 14 = I 17 14 := by
  rw [ce1_23, if_neg (by omega), ce1_22, if_neg (by omega), ce1_21, if_neg (by omega), ce1_20, if_neg (by omega), ce1_19, if_neg (by omega), ce1_18, if_neg (by omega), ce1_17, if_neg (by omega), ce1_16, if_neg (by omega), ce1_15, if_neg (by omega), ce1_14, if_pos (by omega), ce1_13, if_neg (by omega), ce1_12, if_neg (by omega), ce1_11, if_neg (by omega), ce1_10, if_neg (by omega), ce1_9, if_neg (by omega), ce1_8, if_neg (by omega), ce1_7, if_neg (by omega), ce1_6, if_neg (by omega), ce1_5, if_neg (by omega), ce1_4, if_neg (by omega), ce1_3, if_neg (by omega), ce1_2, if_neg (by omega), ce1_1, if_neg (by omega)]
theorem cq1_15 (I : Iw) : cs1_23 I 1 15 = I 17 15 := by
  rw [ce1_23, if_neg (by omega), ce1_22, if_neg (by omega), ce1_21, if_neg (by omega), ce1_20, if_neg (by omega), ce1_19, if_neg (by omega), ce1_18, if_neg (by omega), ce1_17, if_neg (by omega), ce1_16, if_neg (by omega), ce1_15, if_pos (by omega), ce1_14, if_neg (by omega), ce1_13, if_neg (by omega), ce1_12, if_neg (by omega), ce1_11, if_neg (by omega), ce1_10, if_neg (by omega), ce1_9, if_neg (by omega), ce1_8, if_neg (by omega), ce1_7, if_neg (by omega), ce1_6, if_neg (by omega), ce1_5, if_neg (by omega), ce1_4, if_neg (by omega), ce1_3, if_neg (by omega), ce1_2, if_neg (by omega), ce1_1, if_neg (by omega)]
theorem cq1_16 (I : Iw) : cs1_23 I 8 0 = I 24 0 := by
  rw [ce1_23, if_neg (by omega), ce1_22, if_neg (by omega), ce1_21, if_neg (by omega), ce1_20, if_neg (by omega), ce1_19, if_neg (by omega), ce1_18, if_neg (by omega), ce1_17, if_neg (by omega), ce1_16, if_pos (by omega), ce1_15, if_neg (by omega), ce1_14, if_neg (by omega), ce1_13, if_neg (by omega), ce1_12, if_neg (by omega), ce1_11, if_neg (by omega), ce1_10, if_neg (by omega), ce1_9, if_neg (by omega), ce1_8, if_neg (by omega), ce1_7, if_neg (by omega), ce1_6, if_neg (by omega), ce1_5, if_neg (by omega), ce1_4, if_neg (by omega), ce1_3, if_neg (by omega), ce1_2, if_neg (by omega), ce1_1, if_neg (by omega)]
theorem cq1_17 (I : Iw) : cs1_23 I 8 4 = I 24 4 := by
  rw [ce1_23, if_neg (by omega), ce1_22, if_neg (by omega), ce1_21, if_neg (by omega), ce1_20, if_neg (by omega), ce1_19, if_neg (by omega), ce1_18, if_neg (by omega), ce1_17, if_pos (by omega), ce1_16, if_neg (by omega), ce1_15, if_neg (by omega), ce1_14, if_neg (by omega), ce1_13, if_neg (by omega), ce1_12, if_neg (by omega), ce1_11, if_neg (by omega), ce1_10, if_neg (by omega), ce1_9, if_neg (by omega), ce1_8, if_neg (by omega), ce1_7, if_neg (by omega), ce1_6, if_neg (by omega), ce1_5, if_neg (by omega), ce1_4, if_neg (by omega), ce1_3, if_neg (by omega), ce1_2, if_neg (by omega), ce1_1, if_neg (by omega)]
theorem cq1_18 (I : Iw) (j : Nat) (h : j < 8) : cs1_23 I 9 j = I 25 j := by
  rw [ce1_23, if_neg (by omega), ce1_22, if_neg (by omega), ce1_21, if_neg (by omega), ce1_20, if_neg (by omega), ce1_19, if_neg (by omega), ce1_18, if_pos (by omega), ce1_17, if_neg (by omega), ce1_16, if_neg (by omega), ce1_15, if_neg (by omega), ce1_14, if_neg (by omega), ce1_13, if_neg (by omega), ce1_12, if_neg (by omega), ce1_11, if_neg (by omega), ce1_10, if_neg (by omega), ce1_9, if_neg (by omega), ce1_8, if_neg (by omega), ce1_7, if_neg (by omega), ce1_6, if_neg (by omega), ce1_5, if_neg (by omega), ce1_4, if_neg (by omega), ce1_3, if_neg (by omega), ce1_2, if_neg (by omega), ce1_1, if_neg (by omega)]
theorem cq1_19 (I : Iw) (j : Nat) (h : j < 8) : cs1_23 I 10 j = I 26 j := by
  rw [ce1_23, if_neg (by omega), ce1_22, if_neg (by omega), ce1_21, if_neg (by omega), ce1_20, if_neg (by omega), ce1_19, if_pos (by omega), ce1_18, if_neg (by omega), ce1_17, if_neg (by omega), ce1_16, if_neg (by omega), ce1_15, if_neg (by omega), ce1_14, if_neg (by omega), ce1_13, if_neg (by omega), ce1_12, if_neg (by omega), ce1_11, if_neg (by omega), ce1_10, if_neg (by omega), ce1_9, if_neg (by omega), ce1_8, if_neg (by omega), ce1_7, if_neg (by omega), ce1_6, if_neg (by omega), ce1_5, if_neg (by omega), ce1_4, if_neg (by omega), ce1_3, if_neg (by omega), ce1_2, if_neg (by omega), ce1_1, if_neg (by omega)]
theorem cq1_20 (I : Iw) (j : Nat) (h : j < 8) : cs1_23 I 11 j = I 27 j := by
  rw [ce1_23, if_neg (by omega), ce1_22, if_neg (by omega), ce1_21, if_neg (by omega), ce1_20, if_pos (by omega), ce1_19, if_neg (by omega), ce1_18, if_neg (by omega), ce1_17, if_neg (by omega), ce1_16, if_neg (by omega), ce1_15, if_neg (by omega), ce1_14, if_neg (by omega), ce1_13, if_neg (by omega), ce1_12, if_neg (by omega), ce1_11, if_neg (by omega), ce1_10, if_neg (by omega), ce1_9, if_neg (by omega), ce1_8, if_neg (by omega), ce1_7, if_neg (by omega), ce1_6, if_neg (by omega), ce1_5, if_neg (by omega), ce1_4, if_neg (by omega), ce1_3, if_neg (by omega), ce1_2, if_neg (by omega), ce1_1, if_neg (by omega)]
theorem cq1_21 (I : Iw) (j : Nat) (h : j < 128) : cs1_23 I 12 j = I 28 j := by
  rw [ce1_23, if_neg (by omega), ce1_22, if_neg (by omega), ce1_21, if_pos (by omega), ce1_20, if_neg (by omega), ce1_19, if_neg (by omega), ce1_18, if_neg (by omega), ce1_17, if_neg (by omega), ce1_16, if_neg (by omega), ce1_15, if_neg (by omega), ce1_14, if_neg (by omega), ce1_13, if_neg (by omega), ce1_12, if_neg (by omega), ce1_11, if_neg (by omega), ce1_10, if_neg (by omega), ce1_9, if_neg (by omega), ce1_8, if_neg (by omega), ce1_7, if_neg (by omega), ce1_6, if_neg (by omega), ce1_5, if_neg (by omega), ce1_4, if_neg (by omega), ce1_3, if_neg (by omega), ce1_2, if_neg (by omega), ce1_1, if_neg (by omega)]
theorem cq1_22 (I : Iw) (j : Nat) (h : j < 128) : cs1_23 I 13 j = I 29 j := by
  rw [ce1_23, if_neg (by omega), ce1_22, if_pos (by omega), ce1_21, if_neg (by omega), ce1_20, if_neg (by omega), ce1_19, if_neg (by omega), ce1_18, if_neg (by omega), ce1_17, if_neg (by omega), ce1_16, if_neg (by omega), ce1_15, if_neg (by omega), ce1_14, if_neg (by omega), ce1_13, if_neg (by omega), ce1_12, if_neg (by omega), ce1_11, if_neg (by omega), ce1_10, if_neg (by omega), ce1_9, if_neg (by omega), ce1_8, if_neg (by omega), ce1_7, if_neg (by omega), ce1_6, if_neg (by omega), ce1_5, if_neg (by omega), ce1_4, if_neg (by omega), ce1_3, if_neg (by omega), ce1_2, if_neg (by omega), ce1_1, if_neg (by omega)]
theorem cq1_23 (I : Iw) (j : Nat) (h : j < 128) : cs1_23 I 14 j = I 30 j := by
  rw [ce1_23, if_pos (by omega), ce1_22, if_neg (by omega), ce1_21, if_neg (by omega), ce1_20, if_neg (by omega), ce1_19, if_neg (by omega), ce1_18, if_neg (by omega), ce1_17, if_neg (by omega), ce1_16, if_neg (by omega), ce1_15, if_neg (by omega), ce1_14, if_neg (by omega), ce1_13, if_neg (by omega), ce1_12, if_neg (by omega), ce1_11, if_neg (by omega), ce1_10, if_neg (by omega), ce1_9, if_neg (by omega), ce1_8, if_neg (by omega), ce1_7, if_neg (by omega), ce1_6, if_neg (by omega), ce1_5, if_neg (by omega), ce1_4, if_neg (by omega), ce1_3, if_neg (by omega), ce1_2, if_neg (by omega), ce1_1, if_neg (by omega)]
theorem ca1 (I : Iw) (c j : Nat) (h : inS c j) : cs1_23 I (1 + c) j = I (17 + c) j := by
  unfold inS at h
  have hc : c = 0 ∨ c = 1 ∨ c = 2 ∨ c = 3 ∨ c = 4 ∨ c = 5 ∨ c = 6 ∨ c = 7 ∨ c = 8 ∨ c = 9 ∨ c = 10 ∨ c = 11 ∨ c = 12 ∨ c = 13 ∨ c = 14 ∨ c = 15 := by omega
  rcases hc with e | e | e | e | e | e | e | e | e | e | e | e | e | e | e | e <;> subst e
  · have hj : j = 5 ∨ j = 6 ∨ j = 8 ∨ j = 9 ∨ j = 10 ∨ j = 14 ∨ j = 15 := by omega
    rcases hj with e | e | e | e | e | e | e <;> subst e
    · exact cq1_9 I
    · exact cq1_10 I
    · exact cq1_11 I
    · exact cq1_12 I
    · exact cq1_13 I
    · exact cq1_14 I
    · exact cq1_15 I
  · exact cq1_1 I j (by omega)
  · exact cq1_2 I j (by omega)
  · exact cq1_3 I j (by omega)
  · exact cq1_4 I j (by omega)
  · exact cq1_5 I j (by omega)
  · exact cq1_6 I j (by omega)
  · have hj : j = 0 ∨ j = 4 := by omega
    rcases hj with e | e <;> subst e
    · exact cq1_16 I
    · exact cq1_17 I
  · exact cq1_18 I j (by omega)
  · exact cq1_19 I j (by omega)
  · exact cq1_20 I j (by omega)
  · exact cq1_21 I j (by omega)
  · exact cq1_22 I j (by omega)
  · exact cq1_23 I j (by omega)
  · exact cq1_7 I j (by omega)
  · exact cq1_8 I j (by omega)
theorem ck1_1 {J : Sh} : cok (S0 ++ J) 20 18 2 (nI 0) (nI 0) (nI 9) = true := id rfl
theorem ck1_2 {J : Sh} : cok (S0 ++ J) 20 19 3 (nI 0) (nI 0) (nI 9) = true := id rfl
theorem ck1_3 {J : Sh} : cok (S0 ++ J) 20 20 4 (nI 0) (nI 0) (nI 9) = true := id rfl
theorem ck1_4 {J : Sh} : cok (S0 ++ J) 20 21 5 (nI 0) (nI 0) (nI 9) = true := id rfl
theorem ck1_5 {J : Sh} : cok (S0 ++ J) 20 22 6 (nI 0) (nI 0) (nI 9) = true := id rfl
theorem ck1_6 {J : Sh} : cok (S0 ++ J) 20 23 7 (nI 0) (nI 0) (nI 9) = true := id rfl
theorem ck1_14 {J : Sh} : cok (S0 ++ J) 20 31 15 (nI 0) (nI 0) (nI 6) = true := id rfl
theorem ck1_15 {J : Sh} : cok (S0 ++ J) 20 32 16 (nI 0) (nI 0) (nI 6) = true := id rfl
theorem ck1_8 {J : Sh} : cok (S0 ++ J) 20 25 9 (nI 0) (nI 0) (nI 8) = true := id rfl
theorem ck1_9 {J : Sh} : cok (S0 ++ J) 20 26 10 (nI 0) (nI 0) (nI 8) = true := id rfl
theorem ck1_10 {J : Sh} : cok (S0 ++ J) 20 27 11 (nI 0) (nI 0) (nI 8) = true := id rfl
theorem ck1_11 {J : Sh} : cok (S0 ++ J) 20 28 12 (nI 0) (nI 0) (nI 128) = true := id rfl
theorem ck1_12 {J : Sh} : cok (S0 ++ J) 20 29 13 (nI 0) (nI 0) (nI 128) = true := id rfl
theorem ck1_13 {J : Sh} : cok (S0 ++ J) 20 30 14 (nI 0) (nI 0) (nI 128) = true := id rfl
theorem q_copy1 {J : Sh} {R : Rw} (hR : Lay R) (I : Iw) : f_X7_copyFrom (S0 ++ J) R I 1 17 = some (cs1_23 I) := by
  rw [f_X7_copyFrom]
  simp (disch := omega) only [f_X5_copyFrom, so_17, ao_18, ao_19, ao_20, ao_21, ao_22, ao_23, so_24, ly_17_0 hR, ly_17_1 hR, ly_17_2 hR, ly_17_3 hR, ly_17_4 hR, ly_17_7 hR, ly_17_11 hR, ly_17_12 hR, ly_17_13 hR, ly_24_1 hR, ly_24_2 hR, ly_24_3 hR, ly_24_5 hR, ly_24_6 hR, ly_24_7 hR, so_1, ao_2, ao_3, ao_4, ao_5, ao_6, ao_7, so_8, ly_1_0 hR, ly_1_1 hR, ly_1_2 hR, ly_1_3 hR, ly_1_4 hR, ly_1_7 hR, ly_1_11 hR, ly_1_12 hR, ly_1_13 hR, ly_8_1 hR, ly_8_2 hR, ly_8_3 hR, ly_8_5 hR, ly_8_6 hR, ly_8_7 hR, ck1_1, ck1_2, ck1_3, ck1_4, ck1_5, ck1_6, ck1_14, ck1_15, ck1_8, ck1_9, ck1_10, ck1_11, ck1_12, ck1_13, lit, gp1, rl1, rs1, bd1, lt1, n_add, n_sub, n_dec, n_le, n_lt, n_eq, n_in, nI_clamp, n_mul, m_or, m_and, m_pow, m_bit, m_dif, n_neg, yn_0, yn_1, yn_z, yn_d, one31, Nat.add_sub_cancel, Nat.not_lt_zero, if_true, if_false, ite_true, ite_false, Bool.true_eq_false, Bool.false_eq_true, Nat.add_zero, Nat.zero_add]
  rfl
section KEEP
variable {J : Sh} {R : Rw} {I : Iw} {D : Dt}
theorem z_keep {n0 : Nat} (hR : Lay R) (h : Core I D (16 * n0)) (hK : Rest (S0 ++ J) R I) : ZR n0 (S0 ++ J) R (f_X11_keep (S0 ++ J) R I 0) (fun I1 => f_X12_keep (S0 ++ J) R I1 65) := by
  have ⟨hC, hM, hV, hT⟩ := h
  obtain ⟨I2, e1, e2, e3⟩ := m_copy (S := S0 ++ J) (R := R) (a := 66) (b := 67) (by decide) (fun _ => rfl) (fun _ => rfl) (up2 (cs17_23 I) 0 2 (nI 1))
  have hq := q_copy17 (J := J) hR I
  have fr : ∀ a j, (a < 17 ∨ 32 < a) → ¬ (a = 0 ∧ j = 2) → ¬ (a = 65 ∧ j = 3) → a ≠ 67 → up2 I2 65 3 (nI 1) a j = I a j := fun a j q1 q2 q3 q4 => by rw [u_eq, if_neg q3, e3 a j q4, u_eq, if_neg q2, cf17 I a j (by omega)]
  refine ⟨up2 (cs17_23 I) 0 2 (nI 1), nI 1, up2 I2 65 3 (nI 1), ?_, ?_, J, D, rfl, hR, Core_to ⟨CR_fr (fun a j q1 q2 => fr a j (by omega) (by omega) (by omega) (by omega)) hC, MR_fr (fun j => fr 66 j (by omega) (by omega) (by omega) (by omega)) hM, hV, ST_up (by omega) (ST_fr (fun a j q => fr a j (by omega) (by omega) (by omega) (by omega)) hT)⟩, ⟨true, ?_, ?_, fun _ => ⟨D, ?_, ?_, hV⟩⟩, TP_s (fun a j q => fr a j (by omega) (by omega) (by omega) (by omega)) hK.2.1, RW_s (fun a j q => fr a j (by omega) (by omega) (by omega) (by omega)) hK.2.2.1, SH_s (fun a j q => fr a j (by omega) (by omega) (by omega) (by omega)) hK.2.2.2.1, SV_s (fun a j q => fr a j (by omega) (by omega) (by omega) (by omega)) hK.2.2.2.2.1, TH_s (fun a j q => fr a j (by omega) (by omega) (by omega) (by omega)) hK.2.2.2.2.2⟩
  · simp (disch := omega) only [f_X11_keep, so_0, so_1, ly_0_0 hR, ly_0_1 hR, ly_0_3 hR, ly_0_4 hR, ly_0_5 hR, ly_0_7 hR, ly_0_8 hR, ly_0_9 hR, ly_0_10 hR, ly_1_0 hR, ly_1_1 hR, ly_1_2 hR, ly_1_3 hR, ly_1_4 hR, ly_1_7 hR, ly_1_11 hR, ly_1_12 hR, ly_1_13 hR, so_17, hq, lit, gp1, rl1, rs1, bd1, lt1, n_add, n_sub, n_dec, n_le, n_lt, n_eq, n_in, nI_clamp, n_mul, m_or, m_and, m_pow, m_bit, m_dif, n_neg, yn_0, yn_1, yn_z, yn_d, one31, Nat.add_sub_cancel, Nat.not_lt_zero, if_true, if_false, ite_true, ite_false, Bool.true_eq_false, Bool.false_eq_true, Nat.add_zero, Nat.zero_add]
  · simp (disch := omega) only [f_X12_keep, so_65, ly_65_0 hR, ly_65_1 hR, ly_65_2 hR, ly_65_4 hR, ly_65_11 hR, ly_65_13 hR, ly_65_14 hR, ly_65_15 hR, ly_65_16 hR, ly_65_17 hR, ly_65_18 hR, ly_65_19 hR, ly_65_20 hR, ly_65_22 hR, ly_65_24 hR, ly_65_25 hR, ly_65_26 hR, ly_65_27 hR, ly_65_28 hR, ly_65_29 hR, ly_65_30 hR, e1, lit, gp1, rl1, rs1, bd1, lt1, n_add, n_sub, n_dec, n_le, n_lt, n_eq, n_in, nI_clamp, n_mul, m_or, m_and, m_pow, m_bit, m_dif, n_neg, yn_0, yn_1, yn_z, yn_d, one31, Nat.add_sub_cancel, Nat.not_lt_zero, if_true, if_false, ite_true, ite_false, Bool.true_eq_false, Bool.false_eq_true, Nat.add_zero, Nat.zero_add]
  · rw [u_eq, if_neg (by omega), e3 0 2 (by decide), u_eq, if_pos ⟨rfl, rfl⟩]; rfl
  · rw [u_eq, if_pos ⟨rfl, rfl⟩]; rfl
  · refine CR_cp (a := 1) (fun c j hc => ?_) hV hC
    have hc16 : c ≤ 15 := by unfold inS at hc; omega
    rw [u_eq, if_neg (by omega), e3 _ j (by omega), u_eq, if_neg (by omega)]
    exact ca17 I c j hc
  · refine MR_cp (b := 66) (fun j hj => ?_) hM hV
    rw [u_eq, if_neg (by omega), e2 j hj, u_eq, if_neg (by omega), cf17 I 66 j (by omega)]
theorem z_again {n0 : Nat} (hR : Lay R) (h : Core I D (16 * n0)) (hK : Rest (S0 ++ J) R I) : ZR n0 (S0 ++ J) R (f_X11_again (S0 ++ J) R I 0) (fun I1 => f_X12_again (S0 ++ J) R I1 65) := by
  have ⟨hC, hM, hV, hT⟩ := h
  obtain ⟨b, k1, k2, k3⟩ := hK.1
  cases b with
  | false => exact ZR_ZZ hR hK (ZZ_no h (r := -nI 3) (by simp (disch := omega) only [f_X11_again, so_0, ly_0_0 hR, ly_0_1 hR, ly_0_3 hR, ly_0_4 hR, ly_0_5 hR, ly_0_7 hR, ly_0_8 hR, ly_0_9 hR, ly_0_10 hR, k1, lit, gp1, rl1, rs1, bd1, lt1, n_add, n_sub, n_dec, n_le, n_lt, n_eq, n_in, nI_clamp, n_mul, m_or, m_and, m_pow, m_bit, m_dif, n_neg, yn_0, yn_1, yn_z, yn_d, one31, Nat.add_sub_cancel, Nat.not_lt_zero, if_true, if_false, ite_true, ite_false, Bool.true_eq_false, Bool.false_eq_true, Nat.add_zero, Nat.zero_add]) (by simp (disch := omega) only [f_X12_again, so_65, ly_65_0 hR, ly_65_1 hR, ly_65_2 hR, ly_65_4 hR, ly_65_11 hR, ly_65_13 hR, ly_65_14 hR, ly_65_15 hR, ly_65_16 hR, ly_65_17 hR, ly_65_18 hR, ly_65_19 hR, ly_65_20 hR, ly_65_22 hR, ly_65_24 hR, ly_65_25 hR, ly_65_26 hR, ly_65_27 hR, ly_65_28 hR, ly_65_29 hR, ly_65_30 hR, k2, lit, gp1, rl1, rs1, bd1, lt1, n_add, n_sub, n_dec, n_le, n_lt, n_eq, n_in, nI_clamp, n_mul, m_or, m_and, m_pow, m_bit, m_dif, n_neg, yn_0, yn_1, yn_z, yn_d, one31, Nat.add_sub_cancel, Nat.not_lt_zero, if_true, if_false, ite_true, ite_false, Bool.true_eq_false, Bool.false_eq_true, Nat.add_zero, Nat.zero_add]))
  | true =>
    obtain ⟨K, c1, c2, c3⟩ := k3 rfl
    obtain ⟨I2, e1, e2, e3⟩ := m_copy (S := S0 ++ J) (R := R) (a := 67) (b := 66) (by decide) (fun _ => rfl) (fun _ => rfl) (cs1_23 I)
    have hq := q_copy1 (J := J) hR I
    have fr : ∀ a j, (a < 1 ∨ 16 < a) → a ≠ 66 → I2 a j = I a j := fun a j q1 q2 => by rw [e3 a j q2, cf1 I a j (by omega)]
    have hCR : CR I2 1 K := CR_cp (a := 17) (fun c j hc => by
      have hc16 : c ≤ 15 := by unfold inS at hc; omega
      rw [e3 _ j (by omega)]
      exact ca1 I c j hc) c3 c1
    have hMR : MR I2 66 K := MR_cp (b := 67) (fun j hj => by rw [e2 j hj, cf1 I 67 j (by omega)]) c2 c3
    have hCR1 : CR (cs1_23 I) 1 K := CR_cp (a := 17) (fun c j hc => ca1 I c j hc) c3 c1
    have g5 : cs1_23 I 1 5 = nI (d_n K) := hCR1.1.1
    have g3 : I2 66 3 = nI (d_n K) := hMR.2.2.2.1
    have k2' : cs1_23 I 65 3 = yn true := (cf1 I 65 3 (by omega)).trans k2
    refine ⟨cs1_23 I, nI (d_n K), I2, ?_, ?_, J, K, rfl, hR, Core_to ⟨hCR, hMR, c3, ST_up (by omega) (ST_fr (fun a j q => fr a j (by omega) (by omega)) hT)⟩, KP_s (fun a j q => fr a j (by omega) (by omega)) hK.1, TP_s (fun a j q => fr a j (by omega) (by omega)) hK.2.1, RW_s (fun a j q => fr a j (by omega) (by omega)) hK.2.2.1, SH_s (fun a j q => fr a j (by omega) (by omega)) hK.2.2.2.1, SV_s (fun a j q => fr a j (by omega) (by omega)) hK.2.2.2.2.1, TH_s (fun a j q => fr a j (by omega) (by omega)) hK.2.2.2.2.2⟩
    · simp (disch := omega) only [f_X11_again, so_0, so_1, ly_0_0 hR, ly_0_1 hR, ly_0_3 hR, ly_0_4 hR, ly_0_5 hR, ly_0_7 hR, ly_0_8 hR, ly_0_9 hR, ly_0_10 hR, ly_1_0 hR, ly_1_1 hR, ly_1_2 hR, ly_1_3 hR, ly_1_4 hR, ly_1_7 hR, ly_1_11 hR, ly_1_12 hR, ly_1_13 hR, so_17, k1, hq, g5, lit, gp1, rl1, rs1, bd1, lt1, n_add, n_sub, n_dec, n_le, n_lt, n_eq, n_in, nI_clamp, n_mul, m_or, m_and, m_pow, m_bit, m_dif, n_neg, yn_0, yn_1, yn_z, yn_d, one31, Nat.add_sub_cancel, Nat.not_lt_zero, if_true, if_false, ite_true, ite_false, Bool.true_eq_false, Bool.false_eq_true, Nat.add_zero, Nat.zero_add]
    · simp (disch := omega) only [f_X12_again, so_65, ao_66, ly_65_0 hR, ly_65_1 hR, ly_65_2 hR, ly_65_4 hR, ly_65_11 hR, ly_65_13 hR, ly_65_14 hR, ly_65_15 hR, ly_65_16 hR, ly_65_17 hR, ly_65_18 hR, ly_65_19 hR, ly_65_20 hR, ly_65_22 hR, ly_65_24 hR, ly_65_25 hR, ly_65_26 hR, ly_65_27 hR, ly_65_28 hR, ly_65_29 hR, ly_65_30 hR, k2', e1, g3, lit, gp1, rl1, rs1, bd1, lt1, n_add, n_sub, n_dec, n_le, n_lt, n_eq, n_in, nI_clamp, n_mul, m_or, m_and, m_pow, m_bit, m_dif, n_neg, yn_0, yn_1, yn_z, yn_d, one31, Nat.add_sub_cancel, Nat.not_lt_zero, if_true, if_false, ite_true, ite_false, Bool.true_eq_false, Bool.false_eq_true, Nat.add_zero, Nat.zero_add]
end KEEP
