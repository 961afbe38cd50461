/-! THE FIXED CELLS (0 to 64: the class; 65 to 86: the reference) -/
def S0 : Sh := [(11, 12), (7, 16), (20, 9), (20, 9), (20, 9), (20, 9), (20, 9), (20, 9), (5, 8), (20, 8), (20, 8), (20, 8), (20, 128), (20, 128), (20, 128), (20, 6), (20, 6), (7, 16), (20, 9), (20, 9), (20, 9), (20, 9), (20, 9), (20, 9), (5, 8), (20, 8), (20, 8), (20, 8), (20, 128), (20, 128), (20, 128), (20, 6), (20, 6), (3, 7), (21, 200), (20, 201), (20, 201), (5, 8), (20, 8), (20, 8), (20, 8), (20, 128), (20, 128), (20, 128), (2, 11), (20, 5120), (20, 5120), (20, 5120), (20, 5120), (22, 5120), (20, 9), (20, 9), (20, 27), (23, 4), (20, 4), (20, 4), (20, 4), (8, 3), (20, 40), (8, 3), (20, 40), (8, 3), (20, 40), (8, 3), (20, 40), (12, 34), (20, 306), (20, 306), (20, 306), (20, 200), (20, 200), (24, 5), (24, 6), (20, 9), (20, 9), (20, 9), (20, 9), (20, 60), (20, 9), (20, 27), (20, 160), (20, 4), (20, 4), (20, 4), (20, 4), (20, 4), (20, 30)]
def R0T : List (List Rf) := [[some (.inl 1), some (.inl 17), none, some (.inl 33), some (.inl 44), some (.inl 52), none, some (.inl 53), some (.inl 54), some (.inl 55), some (.inl 56)], [some (.inl 2), some (.inl 3), some (.inl 4), some (.inl 5), some (.inl 6), none, none, some (.inl 7), none, none, none, some (.inl 8), some (.inl 15), some (.inl 16)], [], [], [], [], [], [], [none, some (.inl 9), some (.inl 10), some (.inl 11), none, some (.inl 12), some (.inl 13), some (.inl 14)], [], [], [], [], [], [], [], [], [some (.inl 18), some (.inl 19), some (.inl 20), some (.inl 21), some (.inl 22), none, none, some (.inl 23), none, none, none, some (.inl 24), some (.inl 31), some (.inl 32)], [], [], [], [], [], [], [none, some (.inl 25), some (.inl 26), some (.inl 27), none, some (.inl 28), some (.inl 29), some (.inl 30)], [], [], [], [], [], [], [], [], [none, some (.inl 34), some (.inl 35), some (.inl 36), none, none, some (.inl 37)], [], [], [], [none, some (.inl 38), some (.inl 39), some (.inl 40), none, some (.inl 41), some (.inl 42), some (.inl 43)], [], [], [], [], [], [], [some (.inl 1), some (.inl 45), none, some (.inl 46), some (.inl 47), some (.inl 48), some (.inl 49), some (.inl 50), none, none, some (.inl 51)], [], [], [], [], [], [], [], [], [some (.inl 57), some (.inl 59), some (.inl 61), some (.inl 63)], [], [], [], [none, none, some (.inl 58)], [], [none, none, some (.inl 60)], [], [none, none, some (.inl 62)], [], [none, none, some (.inl 64)], [], [some (.inl 66), some (.inl 67), some (.inl 68), none, some (.inl 69), none, none, none, none, none, none, some (.inl 70), none, some (.inl 71), some (.inl 72), some (.inl 73), some (.inl 74), some (.inl 75), some (.inl 76), some (.inl 77), some (.inl 78), none, some (.inl 79), none, some (.inl 80), some (.inl 81), some (.inl 82), some (.inl 83), some (.inl 84), some (.inl 85), some (.inl 86)], [], [], [], [], [], [some (.inr 1), some (.inr 2), some (.inr 3), some (.inr 4), some (.inr 5)], [some (.inr 6), some (.inr 7), some (.inr 8), some (.inr 9), some (.inr 10), some (.inr 11)], [], [], [], [], [], [], [], [], [], [], [], [], [], []]
def R0 (k j : Nat) : Rf := (R0T.getD k []).getD j none
def inb (n : Nat) (i : Int32) : Bool := decide (¬ (i < 0 ∨ n ≤ i.toNatClampNeg))
/-- the references of the fixed cells stand as they were made (but for the latest thing) -/
def Lay (R : Rw) : Prop := ∀ k, k < 87 → ∀ j, j < 40 → ¬ (k = 0 ∧ j = 11) → R k j = R0 k j
theorem so_0 {J : Sh} : sok (S0 ++ J) 0 11 12 = true := rfl
theorem so_1 {J : Sh} : sok (S0 ++ J) 1 7 16 = true := rfl
theorem ao_2 {J : Sh} {i : Int32} : aok (S0 ++ J) 20 2 i = inb 9 i := rfl
theorem ao_3 {J : Sh} {i : Int32} : aok (S0 ++ J) 20 3 i = inb 9 i := rfl
theorem ao_4 {J : Sh} {i : Int32} : aok (S0 ++ J) 20 4 i = inb 9 i := rfl
theorem ao_5 {J : Sh} {i : Int32} : aok (S0 ++ J) 20 5 i = inb 9 i := rfl
theorem ao_6 {J : Sh} {i : Int32} : aok (S0 ++ J) 20 6 i = inb 9 i := rfl
theorem ao_7 {J : Sh} {i : Int32} : aok (S0 ++ J) 20 7 i = inb 9 i := rfl
theorem so_8 {J : Sh} : sok (S0 ++ J) 8 5 8 = true := rfl
theorem ao_9 {J : Sh} {i : Int32} : aok (S0 ++ J) 20 9 i = inb 8 i := rfl
theorem ao_10 {J : Sh} {i : Int32} : aok (S0 ++ J) 20 10 i = inb 8 i := rfl
theorem ao_11 {J : Sh} {i : Int32} : aok (S0 ++ J) 20 11 i = inb 8 i := rfl
theorem ao_12 {J : Sh} {i : Int32} : aok (S0 ++ J) 20 12 i = inb 128 i := rfl
theorem ao_13 {J : Sh} {i : Int32} : aok (S0 ++ J) 20 13 i = inb 128 i := rfl
theorem ao_14 {J : Sh} {i : Int32} : aok (S0 ++ J) 20 14 i = inb 128 i := rfl
theorem ao_15 {J : Sh} {i : Int32} : aok (S0 ++ J) 20 15 i = inb 6 i := rfl
theorem ao_16 {J : Sh} {i : Int32} : aok (S0 ++ J) 20 16 i = inb 6 i := rfl
theorem so_17 {J : Sh} : sok (S0 ++ J) 17 7 16 = true := rfl
theorem ao_18 {J : Sh} {i : Int32} : aok (S0 ++ J) 20 18 i = inb 9 i := rfl
theorem ao_19 {J : Sh} {i : Int32} : aok (S0 ++ J) 20 19 i = inb 9 i := rfl
theorem ao_20 {J : Sh} {i : Int32} : aok (S0 ++ J) 20 20 i = inb 9 i := rfl
theorem ao_21 {J : Sh} {i : Int32} : aok (S0 ++ J) 20 21 i = inb 9 i := rfl
theorem ao_22 {J : Sh} {i : Int32} : aok (S0 ++ J) 20 22 i = inb 9 i := rfl
theorem ao_23 {J : Sh} {i : Int32} : aok (S0 ++ J) 20 23 i = inb 9 i := rfl
theorem so_24 {J : Sh} : sok (S0 ++ J) 24 5 8 = true := rfl
theorem ao_25 {J : Sh} {i : Int32} : aok (S0 ++ J) 20 25 i = inb 8 i := rfl
theorem ao_26 {J : Sh} {i : Int32} : aok (S0 ++ J) 20 26 i = inb 8 i := rfl
theorem ao_27 {J : Sh} {i : Int32} : aok (S0 ++ J) 20 27 i = inb 8 i := rfl
theorem ao_28 {J : Sh} {i : Int32} : aok (S0 ++ J) 20 28 i = inb 128 i := rfl
theorem ao_29 {J : Sh} {i : Int32} : aok (S0 ++ J) 20 29 i = inb 128 i := rfl
theorem ao_30 {J : Sh} {i : Int32} : aok (S0 ++ J) 20 30 i = inb 128 i := rfl
theorem ao_31 {J : Sh} {i : Int32} : aok (S0 ++ J) 20 31 i = inb 6 i := rfl
theorem ao_32 {J : Sh} {i : Int32} : aok (S0 ++ J) 20 32 i = inb 6 i := rfl
theorem so_33 {J : Sh} : sok (S0 ++ J) 33 3 7 = true := rfl
theorem ao_34 {J : Sh} {i : Int32} : aok (S0 ++ J) 21 34 i = inb 200 i := rfl
theorem ao_35 {J : Sh} {i : Int32} : aok (S0 ++ J) 20 35 i = inb 201 i := rfl
theorem ao_36 {J : Sh} {i : Int32} : aok (S0 ++ J) 20 36 i = inb 201 i := rfl
theorem so_37 {J : Sh} : sok (S0 ++ J) 37 5 8 = true := rfl
theorem ao_38 {J : Sh} {i : Int32} : aok (S0 ++ J) 20 38 i = inb 8 i := rfl
theorem ao_39 {J : Sh} {i : Int32} : aok (S0 ++ J) 20 39 i = inb 8 i := rfl
theorem ao_40 {J : Sh} {i : Int32} : aok (S0 ++ J) 20 40 i = inb 8 i := rfl
theorem ao_41 {J : Sh} {i : Int32} : aok (S0 ++ J) 20 41 i = inb 128 i := rfl
theorem ao_42 {J : Sh} {i : Int32} : aok (S0 ++ J) 20 42 i = inb 128 i := rfl
theorem ao_43 {J : Sh} {i : Int32} : aok (S0 ++ J) 20 43 i = inb 128 i := rfl
theorem so_44 {J : Sh} : sok (S0 ++ J) 44 2 11 = true := rfl
theorem ao_45 {J : Sh} {i : Int32} : aok (S0 ++ J) 20 45 i = inb 5120 i := rfl
theorem ao_46 {J : Sh} {i : Int32} : aok (S0 ++ J) 20 46 i = inb 5120 i := rfl
theorem ao_47 {J : Sh} {i : Int32} : aok (S0 ++ J) 20 47 i = inb 5120 i := rfl
theorem ao_48 {J : Sh} {i : Int32} : aok (S0 ++ J) 20 48 i = inb 5120 i := rfl
theorem ao_49 {J : Sh} {i : Int32} : aok (S0 ++ J) 22 49 i = inb 5120 i := rfl
theorem ao_50 {J : Sh} {i : Int32} : aok (S0 ++ J) 20 50 i = inb 9 i := rfl
theorem ao_51 {J : Sh} {i : Int32} : aok (S0 ++ J) 20 51 i = inb 9 i := rfl
theorem ao_52 {J : Sh} {i : Int32} : aok (S0 ++ J) 20 52 i = inb 27 i := rfl
theorem ao_53 {J : Sh} {i : Int32} : aok (S0 ++ J) 23 53 i = inb 4 i := rfl
theorem al_53 {J : Sh} : aln (S0 ++ J) 23 53 = some 4 := rfl
theorem ao_54 {J : Sh} {i : Int32} : aok (S0 ++ J) 20 54 i = inb 4 i := rfl
theorem ao_55 {J : Sh} {i : Int32} : aok (S0 ++ J) 20 55 i = inb 4 i := rfl
theorem ao_56 {J : Sh} {i : Int32} : aok (S0 ++ J) 20 56 i = inb 4 i := rfl
theorem so_57 {J : Sh} : sok (S0 ++ J) 57 8 3 = true := rfl
theorem ao_58 {J : Sh} {i : Int32} : aok (S0 ++ J) 20 58 i = inb 40 i := rfl
theorem so_59 {J : Sh} : sok (S0 ++ J) 59 8 3 = true := rfl
theorem ao_60 {J : Sh} {i : Int32} : aok (S0 ++ J) 20 60 i = inb 40 i := rfl
theorem so_61 {J : Sh} : sok (S0 ++ J) 61 8 3 = true := rfl
theorem ao_62 {J : Sh} {i : Int32} : aok (S0 ++ J) 20 62 i = inb 40 i := rfl
theorem so_63 {J : Sh} : sok (S0 ++ J) 63 8 3 = true := rfl
theorem ao_64 {J : Sh} {i : Int32} : aok (S0 ++ J) 20 64 i = inb 40 i := rfl
theorem so_65 {J : Sh} : sok (S0 ++ J) 65 12 34 = true := rfl
theorem ao_66 {J : Sh} {i : Int32} : aok (S0 ++ J) 20 66 i = inb 306 i := rfl
theorem ao_67 {J : Sh} {i : Int32} : aok (S0 ++ J) 20 67 i = inb 306 i := rfl
theorem ao_68 {J : Sh} {i : Int32} : aok (S0 ++ J) 20 68 i = inb 306 i := rfl
theorem ao_69 {J : Sh} {i : Int32} : aok (S0 ++ J) 20 69 i = inb 200 i := rfl
theorem ao_70 {J : Sh} {i : Int32} : aok (S0 ++ J) 20 70 i = inb 200 i := rfl
theorem ao_71 {J : Sh} {i : Int32} : aok (S0 ++ J) 24 71 i = inb 5 i := rfl
theorem al_71 {J : Sh} : aln (S0 ++ J) 24 71 = some 5 := rfl
theorem ao_72 {J : Sh} {i : Int32} : aok (S0 ++ J) 24 72 i = inb 6 i := rfl
theorem al_72 {J : Sh} : aln (S0 ++ J) 24 72 = some 6 := rfl
theorem ao_73 {J : Sh} {i : Int32} : aok (S0 ++ J) 20 73 i = inb 9 i := rfl
theorem ao_74 {J : Sh} {i : Int32} : aok (S0 ++ J) 20 74 i = inb 9 i := rfl
theorem ao_75 {J : Sh} {i : Int32} : aok (S0 ++ J) 20 75 i = inb 9 i := rfl
theorem ao_76 {J : Sh} {i : Int32} : aok (S0 ++ J) 20 76 i = inb 9 i := rfl
theorem ao_77 {J : Sh} {i : Int32} : aok (S0 ++ J) 20 77 i = inb 60 i := rfl
theorem ao_78 {J : Sh} {i : Int32} : aok (S0 ++ J) 20 78 i = inb 9 i := rfl
theorem ao_79 {J : Sh} {i : Int32} : aok (S0 ++ J) 20 79 i = inb 27 i := rfl
theorem ao_80 {J : Sh} {i : Int32} : aok (S0 ++ J) 20 80 i = inb 160 i := rfl
theorem ao_81 {J : Sh} {i : Int32} : aok (S0 ++ J) 20 81 i = inb 4 i := rfl
theorem ao_82 {J : Sh} {i : Int32} : aok (S0 ++ J) 20 82 i = inb 4 i := rfl
theorem ao_83 {J : Sh} {i : Int32} : aok (S0 ++ J) 20 83 i = inb 4 i := rfl
theorem ao_84 {J : Sh} {i : Int32} : aok (S0 ++ J) 20 84 i = inb 4 i := rfl
theorem ao_85 {J : Sh} {i : Int32} : aok (S0 ++ J) 20 85 i = inb 4 i := rfl
theorem ao_86 {J : Sh} {i : Int32} : aok (S0 ++ J) 20 86 i = inb 30 i := rfl
theorem ly_0_0 {R : Rw} (h : Lay R) : R 0 0 = some (.inl 1) := h 0 (by decide) 0 (by decide) (by decide)
theorem ly_0_1 {R : Rw} (h : Lay R) : R 0 1 = some (.inl 17) := h 0 (by decide) 1 (by decide) (by decide)
theorem ly_0_3 {R : Rw} (h : Lay R) : R 0 3 = some (.inl 33) := h 0 (by decide) 3 (by decide) (by decide)
theorem ly_0_4 {R : Rw} (h : Lay R) : R 0 4 = some (.inl 44) := h 0 (by decide) 4 (by decide) (by decide)
theorem ly_0_5 {R : Rw} (h : Lay R) : R 0 5 = some (.inl 52) := h 0 (by decide) 5 (by decide) (by decide)
theorem ly_0_7 {R : Rw} (h : Lay R) : R 0 7 = some (.inl 53) := h 0 (by decide) 7 (by decide) (by decide)
theorem ly_0_8 {R : Rw} (h : Lay R) : R 0 8 = some (.inl 54) := h 0 (by decide) 8 (by decide) (by decide)
theorem ly_0_9 {R : Rw} (h : Lay R) : R 0 9 = some (.inl 55) := h 0 (by decide) 9 (by decide) (by decide)
theorem ly_0_10 {R : Rw} (h : Lay R) : R 0 10 = some (.inl 56) := h 0 (by decide) 10 (by decide) (by decide)
theorem ly_1_0 {R : Rw} (h : Lay R) : R 1 0 = some (.inl 2) := h 1 (by decide) 0 (by decide) (by decide)
theorem ly_1_1 {R : Rw} (h : Lay R) : R 1 1 = some (.inl 3) := h 1 (by decide) 1 (by decide) (by decide)
theorem ly_1_2 {R : Rw} (h : Lay R) : R 1 2 = some (.inl 4) := h 1 (by decide) 2 (by decide) (by decide)
theorem ly_1_3 {R : Rw} (h : Lay R) : R 1 3 = some (.inl 5) := h 1 (by decide) 3 (by decide) (by decide)
theorem ly_1_4 {R : Rw} (h : Lay R) : R 1 4 = some (.inl 6) := h 1 (by decide) 4 (by decide) (by decide)
theorem ly_1_7 {R : Rw} (h : Lay R) : R 1 7 = some (.inl 7) := h 1 (by decide) 7 (by decide) (by decide)
theorem ly_1_11 {R : Rw} (h : Lay R) : R 1 11 = some (.inl 8) := h 1 (by decide) 11 (by decide) (by decide)
theorem ly_1_12 {R : Rw} (h : Lay R) : R 1 12 = some (.inl 15) := h 1 (by decide) 12 (by decide) (by decide)
theorem ly_1_13 {R : Rw} (h : Lay R) : R 1 13 = some (.inl 16) := h 1 (by decide) 13 (by decide) (by decide)
theorem ly_8_1 {R : Rw} (h : Lay R) : R 8 1 = some (.inl 9) := h 8 (by decide) 1 (by decide) (by decide)
theorem ly_8_2 {R : Rw} (h : Lay R) : R 8 2 = some (.inl 10) := h 8 (by decide) 2 (by decide) (by decide)
theorem ly_8_3 {R : Rw} (h : Lay R) : R 8 3 = some (.inl 11) := h 8 (by decide) 3 (by decide) (by decide)
theorem ly_8_5 {R : Rw} (h : Lay R) : R 8 5 = some (.inl 12) := h 8 (by decide) 5 (by decide) (by decide)
theorem ly_8_6 {R : Rw} (h : Lay R) : R 8 6 = some (.inl 13) := h 8 (by decide) 6 (by decide) (by decide)
theorem ly_8_7 {R : Rw} (h : Lay R) : R 8 7 = some (.inl 14) := h 8 (by decide) 7 (by decide) (by decide)
theorem ly_17_0 {R : Rw} (h : Lay R) : R 17 0 = some (.inl 18) := h 17 (by decide) 0 (by decide) (by decide)
theorem ly_17_1 {R : Rw} (h : Lay R) : R 17 1 = some (.inl 19) := h 17 (by decide) 1 (by decide) (by decide)
theorem ly_17_2 {R : Rw} (h : Lay R) : R 17 2 = some (.inl 20) := h 17 (by decide) 2 (by decide) (by decide)
theorem ly_17_3 {R : Rw} (h : Lay R) : R 17 3 = some (.inl 21) := h 17 (by decide) 3 (by decide) (by decide)
theorem ly_17_4 {R : Rw} (h : Lay R) : R 17 4 = some (.inl 22) := h 17 (by decide) 4 (by decide) (by decide)
theorem ly_17_7 {R : Rw} (h : Lay R) : R 17 7 = some (.inl 23) := h 17 (by decide) 7 (by decide) (by decide)
theorem ly_17_11 {R : Rw} (h : Lay R) : R 17 11 = some (.inl 24) := h 17 (by decide) 11 (by decide) (by decide)
theorem ly_17_12 {R : Rw} (h : Lay R) : R 17 12 = some (.inl 31) := h 17 (by decide) 12 (by decide) (by decide)
theorem ly_17_13 {R : Rw} (h : Lay R) : R 17 13 = some (.inl 32) := h 17 (by decide) 13 (by decide) (by decide)
theorem ly_24_1 {R : Rw} (h : Lay R) : R 24 1 = some (.inl 25) := h 24 (by decide) 1 (by decide) (by decide)
theorem ly_24_2 {R : Rw} (h : Lay R) : R 24 2 = some (.inl 26) := h 24 (by decide) 2 (by decide) (by decide)
theorem ly_24_3 {R : Rw} (h : Lay R) : R 24 3 = some (.inl 27) := h 24 (by decide) 3 (by decide) (by decide)
theorem ly_24_5 {R : Rw} (h : Lay R) : R 24 5 = some (.inl 28) := h 24 (by decide) 5 (by decide) (by decide)
theorem ly_24_6 {R : Rw} (h : Lay R) : R 24 6 = some (.inl 29) := h 24 (by decide) 6 (by decide) (by decide)
theorem ly_24_7 {R : Rw} (h : Lay R) : R 24 7 = some (.inl 30) := h 24 (by decide) 7 (by decide) (by decide)
theorem ly_33_1 {R : Rw} (h : Lay R) : R 33 1 = some (.inl 34) := h 33 (by decide) 1 (by decide) (by decide)
theorem ly_33_2 {R : Rw} (h : Lay R) : R 33 2 = some (.inl 35) := h 33 (by decide) 2 (by decide) (by decide)
theorem ly_33_3 {R : Rw} (h : Lay R) : R 33 3 = some (.inl 36) := h 33 (by decide) 3 (by decide) (by decide)
theorem ly_33_6 {R : Rw} (h : Lay R) : R 33 6 = some (.inl 37) := h 33 (by decide) 6 (by decide) (by decide)
theorem ly_37_1 {R : Rw} (h : Lay R) : R 37 1 = some (.inl 38) := h 37 (by decide) 1 (by decide) (by decide)
theorem ly_37_2 {R : Rw} (h : Lay R) : R 37 2 = some (.inl 39) := h 37 (by decide) 2 (by decide) (by decide)
theorem ly_37_3 {R : Rw} (h : Lay R) : R 37 3 = some (.inl 40) := h 37 (by decide) 3 (by decide) (by decide)
theorem ly_37_5 {R : Rw} (h : Lay R) : R 37 5 = some (.inl 41) := h 37 (by decide) 5 (by decide) (by decide)
theorem ly_37_6 {R : Rw} (h : Lay R) : R 37 6 = some (.inl 42) := h 37 (by decide) 6 (by decide) (by decide)
theorem ly_37_7 {R : Rw} (h : Lay R) : R 37 7 = some (.inl 43) := h 37 (by decide) 7 (by decide) (by decide)
theorem ly_44_0 {R : Rw} (h : Lay R) : R 44 0 = some (.inl 1) := h 44 (by decide) 0 (by decide) (by decide)
theorem ly_44_1 {R : Rw} (h : Lay R) : R 44 1 = some (.inl 45) := h 44 (by decide) 1 (by decide) (by decide)
theorem ly_44_3 {R : Rw} (h : Lay R) : R 44 3 = some (.inl 46) := h 44 (by decide) 3 (by decide) (by decide)
theorem ly_44_4 {R : Rw} (h : Lay R) : R 44 4 = some (.inl 47) := h 44 (by decide) 4 (by decide) (by decide)
theorem ly_44_5 {R : Rw} (h : Lay R) : R 44 5 = some (.inl 48) := h 44 (by decide) 5 (by decide) (by decide)
theorem ly_44_6 {R : Rw} (h : Lay R) : R 44 6 = some (.inl 49) := h 44 (by decide) 6 (by decide) (by decide)
theorem ly_44_7 {R : Rw} (h : Lay R) : R 44 7 = some (.inl 50) := h 44 (by decide) 7 (by decide) (by decide)
theorem ly_44_10 {R : Rw} (h : Lay R) : R 44 10 = some (.inl 51) := h 44 (by decide) 10 (by decide) (by decide)
theorem ly_53_0 {R : Rw} (h : Lay R) : R 53 0 = some (.inl 57) := h 53 (by decide) 0 (by decide) (by decide)
theorem ly_53_1 {R : Rw} (h : Lay R) : R 53 1 = some (.inl 59) := h 53 (by decide) 1 (by decide) (by decide)
theorem ly_53_2 {R : Rw} (h : Lay R) : R 53 2 = some (.inl 61) := h 53 (by decide) 2 (by decide) (by decide)
theorem ly_53_3 {R : Rw} (h : Lay R) : R 53 3 = some (.inl 63) := h 53 (by decide) 3 (by decide) (by decide)
theorem ly_57_2 {R : Rw} (h : Lay R) : R 57 2 = some (.inl 58) := h 57 (by decide) 2 (by decide) (by decide)
theorem ly_59_2 {R : Rw} (h : Lay R) : R 59 2 = some (.inl 60) := h 59 (by decide) 2 (by decide) (by decide)
theorem ly_61_2 {R : Rw} (h : Lay R) : R 61 2 = some (.inl 62) := h 61 (by decide) 2 (by decide) (by decide)
theorem ly_63_2 {R : Rw} (h : Lay R) : R 63 2 = some (.inl 64) := h 63 (by decide) 2 (by decide) (by decide)
theorem ly_65_0 {R : Rw} (h : Lay R) : R 65 0 = some (.inl 66) := h 65 (by decide) 0 (by decide) (by decide)
theorem ly_65_1 {R : Rw} (h : Lay R) : R 65 1 = some (.inl 67) := h 65 (by decide) 1 (by decide) (by decide)
theorem ly_65_2 {R : Rw} (h : Lay R) : R 65 2 = some (.inl 68) := h 65 (by decide) 2 (by decide) (by decide)
theorem ly_65_4 {R : Rw} (h : Lay R) : R 65 4 = some (.inl 69) := h 65 (by decide) 4 (by decide) (by decide)
theorem ly_65_11 {R : Rw} (h : Lay R) : R 65 11 = some (.inl 70) := h 65 (by decide) 11 (by decide) (by decide)
theorem ly_65_13 {R : Rw} (h : Lay R) : R 65 13 = some (.inl 71) := h 65 (by decide) 13 (by decide) (by decide)
theorem ly_65_14 {R : Rw} (h : Lay R) : R 65 14 = some (.inl 72) := h 65 (by decide) 14 (by decide) (by decide)
theorem ly_65_15 {R : Rw} (h : Lay R) : R 65 15 = some (.inl 73) := h 65 (by decide) 15 (by decide) (by decide)
theorem ly_65_16 {R : Rw} (h : Lay R) : R 65 16 = some (.inl 74) := h 65 (by decide) 16 (by decide) (by decide)
theorem ly_65_17 {R : Rw} (h : Lay R) : R 65 17 = some (.inl 75) := h 65 (by decide) 17 (by decide) (by decide)
theorem ly_65_18 {R : Rw} (h : Lay R) : R 65 18 = some (.inl 76) := h 65 (by decide) 18 (by decide) (by decide)
theorem ly_65_19 {R : Rw} (h : Lay R) : R 65 19 = some (.inl 77) := h 65 (by decide) 19 (by decide) (by decide)
theorem ly_65_20 {R : Rw} (h : Lay R) : R 65 20 = some (.inl 78) := h 65 (by decide) 20 (by decide) (by decide)
theorem ly_65_22 {R : Rw} (h : Lay R) : R 65 22 = some (.inl 79) := h 65 (by decide) 22 (by decide) (by decide)
theorem ly_65_24 {R : Rw} (h : Lay R) : R 65 24 = some (.inl 80) := h 65 (by decide) 24 (by decide) (by decide)
theorem ly_65_25 {R : Rw} (h : Lay R) : R 65 25 = some (.inl 81) := h 65 (by decide) 25 (by decide) (by decide)
theorem ly_65_26 {R : Rw} (h : Lay R) : R 65 26 = some (.inl 82) := h 65 (by decide) 26 (by decide) (by decide)
theorem ly_65_27 {R : Rw} (h : Lay R) : R 65 27 = some (.inl 83) := h 65 (by decide) 27 (by decide) (by decide)
theorem ly_65_28 {R : Rw} (h : Lay R) : R 65 28 = some (.inl 84) := h 65 (by decide) 28 (by decide) (by decide)
theorem ly_65_29 {R : Rw} (h : Lay R) : R 65 29 = some (.inl 85) := h 65 (by decide) 29 (by decide) (by decide)
theorem ly_65_30 {R : Rw} (h : Lay R) : R 65 30 = some (.inl 86) := h 65 (by decide) 30 (by decide) (by decide)
theorem ly_71_0 {R : Rw} (h : Lay R) : R 71 0 = some (.inr 1) := h 71 (by decide) 0 (by decide) (by decide)
theorem ly_71_1 {R : Rw} (h : Lay R) : R 71 1 = some (.inr 2) := h 71 (by decide) 1 (by decide) (by decide)
theorem ly_71_2 {R : Rw} (h : Lay R) : R 71 2 = some (.inr 3) := h 71 (by decide) 2 (by decide) (by decide)
theorem ly_71_3 {R : Rw} (h : Lay R) : R 71 3 = some (.inr 4) := h 71 (by decide) 3 (by decide) (by decide)
theorem ly_71_4 {R : Rw} (h : Lay R) : R 71 4 = some (.inr 5) := h 71 (by decide) 4 (by decide) (by decide)
theorem ly_72_0 {R : Rw} (h : Lay R) : R 72 0 = some (.inr 6) := h 72 (by decide) 0 (by decide) (by decide)
theorem ly_72_1 {R : Rw} (h : Lay R) : R 72 1 = some (.inr 7) := h 72 (by decide) 1 (by decide) (by decide)
theorem ly_72_2 {R : Rw} (h : Lay R) : R 72 2 = some (.inr 8) := h 72 (by decide) 2 (by decide) (by decide)
theorem ly_72_3 {R : Rw} (h : Lay R) : R 72 3 = some (.inr 9) := h 72 (by decide) 3 (by decide) (by decide)
theorem ly_72_4 {R : Rw} (h : Lay R) : R 72 4 = some (.inr 10) := h 72 (by decide) 4 (by decide) (by decide)
theorem ly_72_5 {R : Rw} (h : Lay R) : R 72 5 = some (.inr 11) := h 72 (by decide) 5 (by decide) (by decide)
