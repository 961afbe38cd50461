/-! BOTH CONSTRUCTORS, RUN; THE RELATION AT THE START -/
def Tk (k : Nat) : Sh := S0.take k
theorem tk_a0 : Tk 0 ++ [(11, 12)] = Tk 1 := id rfl
theorem tk_a1 : Tk 1 ++ [(7, 16)] = Tk 2 := id rfl
theorem tk_a2 : Tk 2 ++ [(20, 9)] = Tk 3 := id rfl
theorem tk_a3 : Tk 3 ++ [(20, 9)] = Tk 4 := id rfl
theorem tk_a4 : Tk 4 ++ [(20, 9)] = Tk 5 := id rfl
theorem tk_a5 : Tk 5 ++ [(20, 9)] = Tk 6 := id rfl
theorem tk_a6 : Tk 6 ++ [(20, 9)] = Tk 7 := id rfl
theorem tk_a7 : Tk 7 ++ [(20, 9)] = Tk 8 := id rfl
theorem tk_a8 : Tk 8 ++ [(5, 8)] = Tk 9 := id rfl
theorem tk_a9 : Tk 9 ++ [(20, 8)] = Tk 10 := id rfl
theorem tk_a10 : Tk 10 ++ [(20, 8)] = Tk 11 := id rfl
theorem tk_a11 : Tk 11 ++ [(20, 8)] = Tk 12 := id rfl
theorem tk_a12 : Tk 12 ++ [(20, 128)] = Tk 13 := id rfl
theorem tk_a13 : Tk 13 ++ [(20, 128)] = Tk 14 := id rfl
theorem tk_a14 : Tk 14 ++ [(20, 128)] = Tk 15 := id rfl
theorem tk_a15 : Tk 15 ++ [(20, 6)] = Tk 16 := id rfl
theorem tk_a16 : Tk 16 ++ [(20, 6)] = Tk 17 := id rfl
theorem tk_a17 : Tk 17 ++ [(7, 16)] = Tk 18 := id rfl
theorem tk_a18 : Tk 18 ++ [(20, 9)] = Tk 19 := id rfl
theorem tk_a19 : Tk 19 ++ [(20, 9)] = Tk 20 := id rfl
theorem tk_a20 : Tk 20 ++ [(20, 9)] = Tk 21 := id rfl
theorem tk_a21 : Tk 21 ++ [(20, 9)] = Tk 22 := id rfl
theorem tk_a22 : Tk 22 ++ [(20, 9)] = Tk 23 := id rfl
theorem tk_a23 : Tk 23 ++ [(20, 9)] = Tk 24 := id rfl
theorem tk_a24 : Tk 24 ++ [(5, 8)] = Tk 25 := id rfl
theorem tk_a25 : Tk 25 ++ [(20, 8)] = Tk 26 := id rfl
theorem tk_a26 : Tk 26 ++ [(20, 8)] = Tk 27 := id rfl
theorem tk_a27 : Tk 27 ++ [(20, 8)] = Tk 28 := id rfl
theorem tk_a28 : Tk 28 ++ [(20, 128)] = Tk 29 := id rfl
theorem tk_a29 : Tk 29 ++ [(20, 128)] = Tk 30 := id rfl
theorem tk_a30 : Tk 30 ++ [(20, 128)] = Tk 31 := id rfl
theorem tk_a31 : Tk 31 ++ [(20, 6)] = Tk 32 := id rfl
theorem tk_a32 : Tk 32 ++ [(20, 6)] = Tk 33 := id rfl
theorem tk_a33 : Tk 33 ++ [(3, 7)] = Tk 34 := id rfl
theorem tk_a34 : Tk 34 ++ [(21, 200)] = Tk 35 := id rfl
theorem tk_a35 : Tk 35 ++ [(20, 201)] = Tk 36 := id rfl
theorem tk_a36 : Tk 36 ++ [(20, 201)] = Tk 37 := id rfl
theorem tk_a37 : Tk 37 ++ [(5, 8)] = Tk 38 := id rfl
theorem tk_a38 : Tk 38 ++ [(20, 8)] = Tk 39 := id rfl
theorem tk_a39 : Tk 39 ++ [(20, 8)] = Tk 40 := id rfl
theorem tk_a40 : Tk 40 ++ [(20, 8)] = Tk 41 := id rfl
theorem tk_a41 : Tk 41 ++ [(20, 128)] = Tk 42 := id rfl
theorem tk_a42 : Tk 42 ++ [(20, 128)] = Tk 43 := id rfl
theorem tk_a43 : Tk 43 ++ [(20, 128)] = Tk 44 := id rfl
theorem tk_a44 : Tk 44 ++ [(2, 11)] = Tk 45 := id rfl
theorem tk_a45 : Tk 45 ++ [(20, 5120)] = Tk 46 := id rfl
theorem tk_a46 : Tk 46 ++ [(20, 5120)] = Tk 47 := id rfl
theorem tk_a47 : Tk 47 ++ [(20, 5120)] = Tk 48 := id rfl
theorem tk_a48 : Tk 48 ++ [(20, 5120)] = Tk 49 := id rfl
theorem tk_a49 : Tk 49 ++ [(22, 5120)] = Tk 50 := id rfl
theorem tk_a50 : Tk 50 ++ [(20, 9)] = Tk 51 := id rfl
theorem tk_a51 : Tk 51 ++ [(20, 9)] = Tk 52 := id rfl
theorem tk_a52 : Tk 52 ++ [(20, 27)] = Tk 53 := id rfl
theorem tk_a53 : Tk 53 ++ [(23, 4)] = Tk 54 := id rfl
theorem tk_a54 : Tk 54 ++ [(20, 4)] = Tk 55 := id rfl
theorem tk_a55 : Tk 55 ++ [(20, 4)] = Tk 56 := id rfl
theorem tk_a56 : Tk 56 ++ [(20, 4)] = Tk 57 := id rfl
theorem tk_a57 : Tk 57 ++ [(8, 3)] = Tk 58 := id rfl
theorem tk_a58 : Tk 58 ++ [(20, 40)] = Tk 59 := id rfl
theorem tk_a59 : Tk 59 ++ [(8, 3)] = Tk 60 := id rfl
theorem tk_a60 : Tk 60 ++ [(20, 40)] = Tk 61 := id rfl
theorem tk_a61 : Tk 61 ++ [(8, 3)] = Tk 62 := id rfl
theorem tk_a62 : Tk 62 ++ [(20, 40)] = Tk 63 := id rfl
theorem tk_a63 : Tk 63 ++ [(8, 3)] = Tk 64 := id rfl
theorem tk_a64 : Tk 64 ++ [(20, 40)] = Tk 65 := id rfl
theorem tk_a65 : Tk 65 ++ [(12, 34)] = Tk 66 := id rfl
theorem tk_a66 : Tk 66 ++ [(20, 306)] = Tk 67 := id rfl
theorem tk_a67 : Tk 67 ++ [(20, 306)] = Tk 68 := id rfl
theorem tk_a68 : Tk 68 ++ [(20, 306)] = Tk 69 := id rfl
theorem tk_a69 : Tk 69 ++ [(20, 200)] = Tk 70 := id rfl
theorem tk_a70 : Tk 70 ++ [(20, 200)] = Tk 71 := id rfl
theorem tk_a71 : Tk 71 ++ [(24, 5)] = Tk 72 := id rfl
theorem tk_a72 : Tk 72 ++ [(24, 6)] = Tk 73 := id rfl
theorem tk_a73 : Tk 73 ++ [(20, 9)] = Tk 74 := id rfl
theorem tk_a74 : Tk 74 ++ [(20, 9)] = Tk 75 := id rfl
theorem tk_a75 : Tk 75 ++ [(20, 9)] = Tk 76 := id rfl
theorem tk_a76 : Tk 76 ++ [(20, 9)] = Tk 77 := id rfl
theorem tk_a77 : Tk 77 ++ [(20, 60)] = Tk 78 := id rfl
theorem tk_a78 : Tk 78 ++ [(20, 9)] = Tk 79 := id rfl
theorem tk_a79 : Tk 79 ++ [(20, 27)] = Tk 80 := id rfl
theorem tk_a80 : Tk 80 ++ [(20, 160)] = Tk 81 := id rfl
theorem tk_a81 : Tk 81 ++ [(20, 4)] = Tk 82 := id rfl
theorem tk_a82 : Tk 82 ++ [(20, 4)] = Tk 83 := id rfl
theorem tk_a83 : Tk 83 ++ [(20, 4)] = Tk 84 := id rfl
theorem tk_a84 : Tk 84 ++ [(20, 4)] = Tk 85 := id rfl
theorem tk_a85 : Tk 85 ++ [(20, 4)] = Tk 86 := id rfl
theorem tk_a86 : Tk 86 ++ [(20, 30)] = Tk 87 := id rfl
theorem tk_l0 : (Tk 0).length = 0 := id rfl
theorem tk_l1 : (Tk 1).length = 1 := id rfl
theorem tk_l2 : (Tk 2).length = 2 := id rfl
theorem tk_l3 : (Tk 3).length = 3 := id rfl
theorem tk_l4 : (Tk 4).length = 4 := id rfl
theorem tk_l5 : (Tk 5).length = 5 := id rfl
theorem tk_l6 : (Tk 6).length = 6 := id rfl
theorem tk_l7 : (Tk 7).length = 7 := id rfl
theorem tk_l8 : (Tk 8).length = 8 := id rfl
theorem tk_l9 : (Tk 9).length = 9 := id rfl
theorem tk_l10 : (Tk 10).length = 10 := id rfl
theorem tk_l11 : (Tk 11).length = 11 := id rfl
theorem tk_l12 : (Tk 12).length = 12 := id rfl
theorem tk_l13 : (Tk 13).length = 13 := id rfl
theorem tk_l14 : (Tk 14).length = 14 := id rfl
theorem tk_l15 : (Tk 15).length = 15 := id rfl
theorem tk_l16 : (Tk 16).length = 16 := id rfl
theorem tk_l17 : (Tk 17).length = 17 := id rfl
theorem tk_l18 : (Tk 18).length = 18 := id rfl
theorem tk_l19 : (Tk 19).length = 19 := id rfl
theorem tk_l20 : (Tk 20).length = 20 := id rfl
theorem tk_l21 : (Tk 21).length = 21 := id rfl
theorem tk_l22 : (Tk 22).length = 22 := id rfl
theorem tk_l23 : (Tk 23).length = 23 := id rfl
theorem tk_l24 : (Tk 24).length = 24 := id rfl
theorem tk_l25 : (Tk 25).length = 25 := id rfl
theorem tk_l26 : (Tk 26).length = 26 := id rfl
theorem tk_l27 : (Tk 27).length = 27 := id rfl
theorem tk_l28 : (Tk 28).length = 28 := id rfl
theorem tk_l29 : (Tk 29).length = 29 := id rfl
theorem tk_l30 : (Tk 30).length = 30 := id rfl
theorem tk_l31 : (Tk 31).length = 31 := id rfl
theorem tk_l32 : (Tk 32).length = 32 := id rfl
theorem tk_l33 : (Tk 33).length = 33 := id rfl
theorem tk_l34 : (Tk 34).length = 34 := id rfl
theorem tk_l35 : (Tk 35).length = 35 := id rfl
theorem tk_l36 : (Tk 36).length = 36 := id rfl
theorem tk_l37 : (Tk 37).length = 37 := id rfl
theorem tk_l38 : (Tk 38).length = 38 := id rfl
theorem tk_l39 : (Tk 39).length = 39 := id rfl
theorem tk_l40 : (Tk 40).length = 40 := id rfl
theorem tk_l41 : (Tk 41).length = 41 := id rfl
theorem tk_l42 : (Tk 42).length = 42 := id rfl
theorem tk_l43 : (Tk 43).length = 43 := id rfl
theorem tk_l44 : (Tk 44).length = 44 := id rfl
theorem tk_l45 : (Tk 45).length = 45 := id rfl
theorem tk_l46 : (Tk 46).length = 46 := id rfl
theorem tk_l47 : (Tk 47).length = 47 := id rfl
theorem tk_l48 : (Tk 48).length = 48 := id rfl
theorem tk_l49 : (Tk 49).length = 49 := id rfl
theorem tk_l50 : (Tk 50).length = 50 := id rfl
theorem tk_l51 : (Tk 51).length = 51 := id rfl
theorem tk_l52 : (Tk 52).length = 52 := id rfl
theorem tk_l53 : (Tk 53).length = 53 := id rfl
theorem tk_l54 : (Tk 54).length = 54 := id rfl
theorem tk_l55 : (Tk 55).length = 55 := id rfl
theorem tk_l56 : (Tk 56).length = 56 := id rfl
theorem tk_l57 : (Tk 57).length = 57 := id rfl
theorem tk_l58 : (Tk 58).length = 58 := id rfl
theorem tk_l59 : (Tk 59).length = 59 := id rfl
theorem tk_l60 : (Tk 60).length = 60 := id rfl
theorem tk_l61 : (Tk 61).length = 61 := id rfl
theorem tk_l62 : (Tk 62).length = 62 := id rfl
theorem tk_l63 : (Tk 63).length = 63 := id rfl
theorem tk_l64 : (Tk 64).length = 64 := id rfl
theorem tk_l65 : (Tk 65).length = 65 := id rfl
theorem tk_l66 : (Tk 66).length = 66 := id rfl
theorem tk_l67 : (Tk 67).length = 67 := id rfl
theorem tk_l68 : (Tk 68).length = 68 := id rfl
theorem tk_l69 : (Tk 69).length = 69 := id rfl
theorem tk_l70 : (Tk 70).length = 70 := id rfl
theorem tk_l71 : (Tk 71).length = 71 := id rfl
theorem tk_l72 : (Tk 72).length = 72 := id rfl
theorem tk_l73 : (Tk 73).length = 73 := id rfl
theorem tk_l74 : (Tk 74).length = 74 := id rfl
theorem tk_l75 : (Tk 75).length = 75 := id rfl
theorem tk_l76 : (Tk 76).length = 76 := id rfl
theorem tk_l77 : (Tk 77).length = 77 := id rfl
theorem tk_l78 : (Tk 78).length = 78 := id rfl
theorem tk_l79 : (Tk 79).length = 79 := id rfl
theorem tk_l80 : (Tk 80).length = 80 := id rfl
theorem tk_l81 : (Tk 81).length = 81 := id rfl
theorem tk_l82 : (Tk 82).length = 82 := id rfl
theorem tk_l83 : (Tk 83).length = 83 := id rfl
theorem tk_l84 : (Tk 84).length = 84 := id rfl
theorem tk_l85 : (Tk 85).length = 85 := id rfl
theorem tk_l86 : (Tk 86).length = 86 := id rfl
theorem tk_l87 : (Tk 87).length = 87 := id rfl
theorem tk_s3_1 : sok (Tk 3) 1 7 16 = true := by decide +kernel
theorem tk_s4_1 : sok (Tk 4) 1 7 16 = true := by decide +kernel
theorem tk_s5_1 : sok (Tk 5) 1 7 16 = true := by decide +kernel
theorem tk_s6_1 : sok (Tk 6) 1 7 16 = true := by decide +kernel
theorem tk_s7_1 : sok (Tk 7) 1 7 16 = true := by decide +kernel
theorem tk_s8_1 : sok (Tk 8) 1 7 16 = true := by decide +kernel
theorem tk_s10_8 : sok (Tk 10) 8 5 8 = true := by decide +kernel
theorem tk_s11_8 : sok (Tk 11) 8 5 8 = true := by decide +kernel
theorem tk_s12_8 : sok (Tk 12) 8 5 8 = true := by decide +kernel
theorem tk_s13_8 : sok (Tk 13) 8 5 8 = true := by decide +kernel
theorem tk_s14_8 : sok (Tk 14) 8 5 8 = true := by decide +kernel
theorem tk_s15_1 : sok (Tk 15) 1 7 16 = true := by decide +kernel
theorem tk_s15_8 : sok (Tk 15) 8 5 8 = true := by decide +kernel
theorem tk_s16_1 : sok (Tk 16) 1 7 16 = true := by decide +kernel
theorem tk_s17_0 : sok (Tk 17) 0 11 12 = true := by decide +kernel
theorem tk_s17_1 : sok (Tk 17) 1 7 16 = true := by decide +kernel
theorem tk_s19_17 : sok (Tk 19) 17 7 16 = true := by decide +kernel
theorem tk_s20_17 : sok (Tk 20) 17 7 16 = true := by decide +kernel
theorem tk_s21_17 : sok (Tk 21) 17 7 16 = true := by decide +kernel
theorem tk_s22_17 : sok (Tk 22) 17 7 16 = true := by decide +kernel
theorem tk_s23_17 : sok (Tk 23) 17 7 16 = true := by decide +kernel
theorem tk_s24_17 : sok (Tk 24) 17 7 16 = true := by decide +kernel
theorem tk_s26_24 : sok (Tk 26) 24 5 8 = true := by decide +kernel
theorem tk_s27_24 : sok (Tk 27) 24 5 8 = true := by decide +kernel
theorem tk_s28_24 : sok (Tk 28) 24 5 8 = true := by decide +kernel
theorem tk_s29_24 : sok (Tk 29) 24 5 8 = true := by decide +kernel
theorem tk_s30_24 : sok (Tk 30) 24 5 8 = true := by decide +kernel
theorem tk_s31_17 : sok (Tk 31) 17 7 16 = true := by decide +kernel
theorem tk_s31_24 : sok (Tk 31) 24 5 8 = true := by decide +kernel
theorem tk_s32_17 : sok (Tk 32) 17 7 16 = true := by decide +kernel
theorem tk_s33_0 : sok (Tk 33) 0 11 12 = true := by decide +kernel
theorem tk_s33_17 : sok (Tk 33) 17 7 16 = true := by decide +kernel
theorem tk_s35_33 : sok (Tk 35) 33 3 7 = true := by decide +kernel
theorem tk_s36_33 : sok (Tk 36) 33 3 7 = true := by decide +kernel
theorem tk_s37_33 : sok (Tk 37) 33 3 7 = true := by decide +kernel
theorem tk_s39_37 : sok (Tk 39) 37 5 8 = true := by decide +kernel
theorem tk_s40_37 : sok (Tk 40) 37 5 8 = true := by decide +kernel
theorem tk_s41_37 : sok (Tk 41) 37 5 8 = true := by decide +kernel
theorem tk_s42_37 : sok (Tk 42) 37 5 8 = true := by decide +kernel
theorem tk_s43_37 : sok (Tk 43) 37 5 8 = true := by decide +kernel
theorem tk_s44_0 : sok (Tk 44) 0 11 12 = true := by decide +kernel
theorem tk_s44_33 : sok (Tk 44) 33 3 7 = true := by decide +kernel
theorem tk_s44_37 : sok (Tk 44) 37 5 8 = true := by decide +kernel
theorem tk_s45_0 : sok (Tk 45) 0 11 12 = true := by decide +kernel
theorem tk_s46_44 : sok (Tk 46) 44 2 11 = true := by decide +kernel
theorem tk_s47_44 : sok (Tk 47) 44 2 11 = true := by decide +kernel
theorem tk_s48_44 : sok (Tk 48) 44 2 11 = true := by decide +kernel
theorem tk_s49_44 : sok (Tk 49) 44 2 11 = true := by decide +kernel
theorem tk_s50_44 : sok (Tk 50) 44 2 11 = true := by decide +kernel
theorem tk_s51_44 : sok (Tk 51) 44 2 11 = true := by decide +kernel
theorem tk_s52_0 : sok (Tk 52) 0 11 12 = true := by decide +kernel
theorem tk_s52_44 : sok (Tk 52) 44 2 11 = true := by decide +kernel
theorem tk_s53_0 : sok (Tk 53) 0 11 12 = true := by decide +kernel
theorem tk_s54_0 : sok (Tk 54) 0 11 12 = true := by decide +kernel
theorem tk_s55_0 : sok (Tk 55) 0 11 12 = true := by decide +kernel
theorem tk_s56_0 : sok (Tk 56) 0 11 12 = true := by decide +kernel
theorem tk_s57_0 : sok (Tk 57) 0 11 12 = true := by decide +kernel
theorem tk_s58_57 : sok (Tk 58) 57 8 3 = true := by decide +kernel
theorem tk_s59_0 : sok (Tk 59) 0 11 12 = true := by decide +kernel
theorem tk_s59_57 : sok (Tk 59) 57 8 3 = true := by decide +kernel
theorem tk_s60_59 : sok (Tk 60) 59 8 3 = true := by decide +kernel
theorem tk_s61_0 : sok (Tk 61) 0 11 12 = true := by decide +kernel
theorem tk_s61_59 : sok (Tk 61) 59 8 3 = true := by decide +kernel
theorem tk_s62_61 : sok (Tk 62) 61 8 3 = true := by decide +kernel
theorem tk_s63_0 : sok (Tk 63) 0 11 12 = true := by decide +kernel
theorem tk_s63_61 : sok (Tk 63) 61 8 3 = true := by decide +kernel
theorem tk_s64_63 : sok (Tk 64) 63 8 3 = true := by decide +kernel
theorem tk_s65_0 : sok (Tk 65) 0 11 12 = true := by decide +kernel
theorem tk_s65_63 : sok (Tk 65) 63 8 3 = true := by decide +kernel
theorem tk_s67_65 : sok (Tk 67) 65 12 34 = true := by decide +kernel
theorem tk_s68_65 : sok (Tk 68) 65 12 34 = true := by decide +kernel
theorem tk_s69_65 : sok (Tk 69) 65 12 34 = true := by decide +kernel
theorem tk_s70_65 : sok (Tk 70) 65 12 34 = true := by decide +kernel
theorem tk_s71_65 : sok (Tk 71) 65 12 34 = true := by decide +kernel
theorem tk_s72_65 : sok (Tk 72) 65 12 34 = true := by decide +kernel
theorem tk_s73_65 : sok (Tk 73) 65 12 34 = true := by decide +kernel
theorem tk_s74_65 : sok (Tk 74) 65 12 34 = true := by decide +kernel
theorem tk_s75_65 : sok (Tk 75) 65 12 34 = true := by decide +kernel
theorem tk_s76_65 : sok (Tk 76) 65 12 34 = true := by decide +kernel
theorem tk_s77_65 : sok (Tk 77) 65 12 34 = true := by decide +kernel
theorem tk_s78_65 : sok (Tk 78) 65 12 34 = true := by decide +kernel
theorem tk_s79_65 : sok (Tk 79) 65 12 34 = true := by decide +kernel
theorem tk_s80_65 : sok (Tk 80) 65 12 34 = true := by decide +kernel
theorem tk_s81_65 : sok (Tk 81) 65 12 34 = true := by decide +kernel
theorem tk_s82_65 : sok (Tk 82) 65 12 34 = true := by decide +kernel
theorem tk_s83_65 : sok (Tk 83) 65 12 34 = true := by decide +kernel
theorem tk_s84_65 : sok (Tk 84) 65 12 34 = true := by decide +kernel
theorem tk_s85_65 : sok (Tk 85) 65 12 34 = true := by decide +kernel
theorem tk_s86_65 : sok (Tk 86) 65 12 34 = true := by decide +kernel
theorem tk_s87_65 : sok (Tk 87) 65 12 34 = true := by decide +kernel
theorem tk_b59_53_0 : aok (Tk 59) 23 53 (0 : Int32) = true := by decide +kernel
theorem tk_b61_53_1 : aok (Tk 61) 23 53 (1 : Int32) = true := by decide +kernel
theorem tk_b63_53_2 : aok (Tk 63) 23 53 (2 : Int32) = true := by decide +kernel
theorem tk_b65_54_0 : aok (Tk 65) 20 54 (0 : Int32) = true := by decide +kernel
theorem tk_b65_54_1 : aok (Tk 65) 20 54 (1 : Int32) = true := by decide +kernel
theorem tk_b65_54_2 : aok (Tk 65) 20 54 (2 : Int32) = true := by decide +kernel
theorem tk_b65_54_3 : aok (Tk 65) 20 54 (3 : Int32) = true := by decide +kernel
theorem tk_b65_53_3 : aok (Tk 65) 23 53 (3 : Int32) = true := by decide +kernel
theorem tk_b72_71_0 : aok (Tk 72) 24 71 (0 : Int32) = true := by decide +kernel
theorem tk_b72_71_1 : aok (Tk 72) 24 71 (1 : Int32) = true := by decide +kernel
theorem tk_b72_71_2 : aok (Tk 72) 24 71 (2 : Int32) = true := by decide +kernel
theorem tk_b72_71_3 : aok (Tk 72) 24 71 (3 : Int32) = true := by decide +kernel
theorem tk_b72_71_4 : aok (Tk 72) 24 71 (4 : Int32) = true := by decide +kernel
theorem tk_b73_72_0 : aok (Tk 73) 24 72 (0 : Int32) = true := by decide +kernel
theorem tk_b73_72_1 : aok (Tk 73) 24 72 (1 : Int32) = true := by decide +kernel
theorem tk_b73_72_2 : aok (Tk 73) 24 72 (2 : Int32) = true := by decide +kernel
theorem tk_b73_72_3 : aok (Tk 73) 24 72 (3 : Int32) = true := by decide +kernel
theorem tk_b73_72_4 : aok (Tk 73) 24 72 (4 : Int32) = true := by decide +kernel
theorem tk_b73_72_5 : aok (Tk 73) 24 72 (5 : Int32) = true := by decide +kernel
theorem tk_b87_66_0 : aok (Tk 87) 20 66 (0 : Int32) = true := by decide +kernel
theorem tk_b87_66_2 : aok (Tk 87) 20 66 (2 : Int32) = true := by decide +kernel
theorem tk_b87_81_0 : aok (Tk 87) 20 81 (0 : Int32) = true := by decide +kernel
theorem tk_b87_81_1 : aok (Tk 87) 20 81 (1 : Int32) = true := by decide +kernel
theorem tk_b87_81_2 : aok (Tk 87) 20 81 (2 : Int32) = true := by decide +kernel
theorem tk_b87_81_3 : aok (Tk 87) 20 81 (3 : Int32) = true := by decide +kernel
theorem tk_n0 : (0 : Int32).toNatClampNeg = 0 := by decide
theorem tk_n1 : (1 : Int32).toNatClampNeg = 1 := by decide
theorem tk_n2 : (2 : Int32).toNatClampNeg = 2 := by decide
theorem tk_n3 : (3 : Int32).toNatClampNeg = 3 := by decide
theorem tk_n4 : (4 : Int32).toNatClampNeg = 4 := by decide
theorem tk_n5 : (5 : Int32).toNatClampNeg = 5 := by decide
theorem u_row {α : Type} (I : Nat → Nat → α) (a j : Nat) (x : α) (b : Nat) (i : Nat) : up2 I a j x b i = if b = a ∧ i = j then x else I b i := u_eq I a j x b i
set_option maxRecDepth 100000 in
set_option maxHeartbeats 4000000 in
theorem in_X5_9 (R : Rw) (I : Iw) : f_X5_init (Tk 9) R I 8 = some (Tk 15, (up2 (setA (up2 (setA (up2 (setA (up2 (setA (up2 (setA (up2 (setA R 9 (fun _ => none)) 8 1 (some (.inl 9))) 10 (fun _ => none)) 8 2 (some (.inl 10))) 11 (fun _ => none)) 8 3 (some (.inl 11))) 12 (fun _ => none)) 8 5 (some (.inl 12))) 13 (fun _ => none)) 8 6 (some (.inl 13))) 14 (fun _ => none)) 8 7 (some (.inl 14))), (setA (setA (setA (setA (setA (setA I 9 (fun _ => 0)) 10 (fun _ => 0)) 11 (fun _ => 0)) 12 (fun _ => 0)) 13 (fun _ => 0)) 14 (fun _ => 0))) := by
  rw [f_X5_init]
  simp only [↓lt1q, gp1q, bd1q, tk_a9, tk_a10, tk_a11, tk_a12, tk_a13, tk_a14, tk_l9, tk_l10, tk_l11, tk_l12, tk_l13, tk_l14, tk_l15, tk_s10_8, tk_s11_8, tk_s12_8, tk_s13_8, tk_s14_8, tk_s15_1, tk_s15_8, tk_n0, tk_n1, tk_n2, tk_n3, tk_n4, tk_n5]
set_option maxRecDepth 100000 in
set_option maxHeartbeats 4000000 in
theorem in_X7_2 (R : Rw) (I : Iw) : f_X7_init (Tk 2) R I 1 = some (Tk 17, (up2 (setA (up2 (setA (up2 (up2 (setA (up2 (setA (up2 (setA (up2 (setA (up2 (setA (up2 (setA (setA (up2 (setA (up2 (setA (up2 (setA (up2 (setA (up2 (setA (up2 (setA R 2 (fun _ => none)) 1 0 (some (.inl 2))) 3 (fun _ => none)) 1 1 (some (.inl 3))) 4 (fun _ => none)) 1 2 (some (.inl 4))) 5 (fun _ => none)) 1 3 (some (.inl 5))) 6 (fun _ => none)) 1 4 (some (.inl 6))) 7 (fun _ => none)) 1 7 (some (.inl 7))) 8 (fun _ => none)) 9 (fun _ => none)) 8 1 (some (.inl 9))) 10 (fun _ => none)) 8 2 (some (.inl 10))) 11 (fun _ => none)) 8 3 (some (.inl 11))) 12 (fun _ => none)) 8 5 (some (.inl 12))) 13 (fun _ => none)) 8 6 (some (.inl 13))) 14 (fun _ => none)) 8 7 (some (.inl 14))) 1 11 (some (.inl 8))) 15 (fun _ => none)) 1 12 (some (.inl 15))) 16 (fun _ => none)) 1 13 (some (.inl 16))), (up2 (setA (setA (setA (setA (setA (setA (setA (setA (setA (up2 (setA (setA (setA (setA (setA (setA I 2 (fun _ => 0)) 3 (fun _ => 0)) 4 (fun _ => 0)) 5 (fun _ => 0)) 6 (fun _ => 0)) 7 (fun _ => 0)) 1 9 (1 : Int32)) 8 (fun _ => 0)) 9 (fun _ => 0)) 10 (fun _ => 0)) 11 (fun _ => 0)) 12 (fun _ => 0)) 13 (fun _ => 0)) 14 (fun _ => 0)) 15 (fun _ => 0)) 16 (fun _ => 0)) 1 15 (1 : Int32))) := by
  rw [f_X7_init]
  simp only [↓lt1q, gp1q, bd1q, in_X5_9, tk_a2, tk_a3, tk_a4, tk_a5, tk_a6, tk_a7, tk_a8, tk_a9, tk_a10, tk_a11, tk_a12, tk_a13, tk_a14, tk_a15, tk_a16, tk_l2, tk_l3, tk_l4, tk_l5, tk_l6, tk_l7, tk_l8, tk_l9, tk_l10, tk_l11, tk_l12, tk_l13, tk_l14, tk_l15, tk_l16, tk_l17, tk_s3_1, tk_s4_1, tk_s5_1, tk_s6_1, tk_s7_1, tk_s8_1, tk_s10_8, tk_s11_8, tk_s12_8, tk_s13_8, tk_s14_8, tk_s15_1, tk_s15_8, tk_s16_1, tk_s17_0, tk_s17_1, tk_n0, tk_n1, tk_n2, tk_n3, tk_n4, tk_n5]
set_option maxRecDepth 100000 in
set_option maxHeartbeats 4000000 in
theorem in_X5_25 (R : Rw) (I : Iw) : f_X5_init (Tk 25) R I 24 = some (Tk 31, (up2 (setA (up2 (setA (up2 (setA (up2 (setA (up2 (setA (up2 (setA R 25 (fun _ => none)) 24 1 (some (.inl 25))) 26 (fun _ => none)) 24 2 (some (.inl 26))) 27 (fun _ => none)) 24 3 (some (.inl 27))) 28 (fun _ => none)) 24 5 (some (.inl 28))) 29 (fun _ => none)) 24 6 (some (.inl 29))) 30 (fun _ => none)) 24 7 (some (.inl 30))), (setA (setA (setA (setA (setA (setA I 25 (fun _ => 0)) 26 (fun _ => 0)) 27 (fun _ => 0)) 28 (fun _ => 0)) 29 (fun _ => 0)) 30 (fun _ => 0))) := by
  rw [f_X5_init]
  simp only [↓lt1q, gp1q, bd1q, tk_a25, tk_a26, tk_a27, tk_a28, tk_a29, tk_a30, tk_l25, tk_l26, tk_l27, tk_l28, tk_l29, tk_l30, tk_l31, tk_s26_24, tk_s27_24, tk_s28_24, tk_s29_24, tk_s30_24, tk_s31_17, tk_s31_24, tk_n0, tk_n1, tk_n2, tk_n3, tk_n4, tk_n5]
set_option maxRecDepth 100000 in
set_option maxHeartbeats 4000000 in
theorem in_X7_18 (R : Rw) (I : Iw) : f_X7_init (Tk 18) R I 17 = some (Tk 33, (up2 (setA (up2 (setA (up2 (up2 (setA (up2 (setA (up2 (setA (up2 (setA (up2 (setA (up2 (setA (setA (up2 (setA (up2 (setA (up2 (setA (up2 (setA (up2 (setA (up2 (setA R 18 (fun _ => none)) 17 0 (some (.inl 18))) 19 (fun _ => none)) 17 1 (some (.inl 19))) 20 (fun _ => none)) 17 2 (some (.inl 20))) 21 (fun _ => none)) 17 3 (some (.inl 21))) 22 (fun _ => none)) 17 4 (some (.inl 22))) 23 (fun _ => none)) 17 7 (some (.inl 23))) 24 (fun _ => none)) 25 (fun _ => none)) 24 1 (some (.inl 25))) 26 (fun _ => none)) 24 2 (some (.inl 26))) 27 (fun _ => none)) 24 3 (some (.inl 27))) 28 (fun _ => none)) 24 5 (some (.inl 28))) 29 (fun _ => none)) 24 6 (some (.inl 29))) 30 (fun _ => none)) 24 7 (some (.inl 30))) 17 11 (some (.inl 24))) 31 (fun _ => none)) 17 12 (some (.inl 31))) 32 (fun _ => none)) 17 13 (some (.inl 32))), (up2 (setA (setA (setA (setA (setA (setA (setA (setA (setA (up2 (setA (setA (setA (setA (setA (setA I 18 (fun _ => 0)) 19 (fun _ => 0)) 20 (fun _ => 0)) 21 (fun _ => 0)) 22 (fun _ => 0)) 23 (fun _ => 0)) 17 9 (1 : Int32)) 24 (fun _ => 0)) 25 (fun _ => 0)) 26 (fun _ => 0)) 27 (fun _ => 0)) 28 (fun _ => 0)) 29 (fun _ => 0)) 30 (fun _ => 0)) 31 (fun _ => 0)) 32 (fun _ => 0)) 17 15 (1 : Int32))) := by
  rw [f_X7_init]
  simp only [↓lt1q, gp1q, bd1q, in_X5_25, tk_a18, tk_a19, tk_a20, tk_a21, tk_a22, tk_a23, tk_a24, tk_a25, tk_a26, tk_a27, tk_a28, tk_a29, tk_a30, tk_a31, tk_a32, tk_l18, tk_l19, tk_l20, tk_l21, tk_l22, tk_l23, tk_l24, tk_l25, tk_l26, tk_l27, tk_l28, tk_l29, tk_l30, tk_l31, tk_l32, tk_l33, tk_s19_17, tk_s20_17, tk_s21_17, tk_s22_17, tk_s23_17, tk_s24_17, tk_s26_24, tk_s27_24, tk_s28_24, tk_s29_24, tk_s30_24, tk_s31_17, tk_s31_24, tk_s32_17, tk_s33_0, tk_s33_17, tk_n0, tk_n1, tk_n2, tk_n3, tk_n4, tk_n5]
set_option maxRecDepth 100000 in
set_option maxHeartbeats 4000000 in
theorem in_X5_38 (R : Rw) (I : Iw) : f_X5_init (Tk 38) R I 37 = some (Tk 44, (up2 (setA (up2 (setA (up2 (setA (up2 (setA (up2 (setA (up2 (setA R 38 (fun _ => none)) 37 1 (some (.inl 38))) 39 (fun _ => none)) 37 2 (some (.inl 39))) 40 (fun _ => none)) 37 3 (some (.inl 40))) 41 (fun _ => none)) 37 5 (some (.inl 41))) 42 (fun _ => none)) 37 6 (some (.inl 42))) 43 (fun _ => none)) 37 7 (some (.inl 43))), (setA (setA (setA (setA (setA (setA I 38 (fun _ => 0)) 39 (fun _ => 0)) 40 (fun _ => 0)) 41 (fun _ => 0)) 42 (fun _ => 0)) 43 (fun _ => 0))) := by
  rw [f_X5_init]
  simp only [↓lt1q, gp1q, bd1q, tk_a38, tk_a39, tk_a40, tk_a41, tk_a42, tk_a43, tk_l38, tk_l39, tk_l40, tk_l41, tk_l42, tk_l43, tk_l44, tk_s39_37, tk_s40_37, tk_s41_37, tk_s42_37, tk_s43_37, tk_s44_0, tk_s44_33, tk_s44_37, tk_n0, tk_n1, tk_n2, tk_n3, tk_n4, tk_n5]
set_option maxRecDepth 100000 in
set_option maxHeartbeats 4000000 in
theorem in_X3_34 (R : Rw) (I : Iw) : f_X3_init (Tk 34) R I 33 = some (Tk 44, (up2 (up2 (setA (up2 (setA (up2 (setA (up2 (setA (up2 (setA (up2 (setA (setA (up2 (setA (up2 (setA (up2 (setA R 34 (fun _ => none)) 33 1 (some (.inl 34))) 35 (fun _ => none)) 33 2 (some (.inl 35))) 36 (fun _ => none)) 33 3 (some (.inl 36))) 37 (fun _ => none)) 38 (fun _ => none)) 37 1 (some (.inl 38))) 39 (fun _ => none)) 37 2 (some (.inl 39))) 40 (fun _ => none)) 37 3 (some (.inl 40))) 41 (fun _ => none)) 37 5 (some (.inl 41))) 42 (fun _ => none)) 37 6 (some (.inl 42))) 43 (fun _ => none)) 37 7 (some (.inl 43))) 33 6 (some (.inl 37))), (setA (setA (setA (setA (setA (setA (setA (setA (setA (setA I 34 (fun _ => 0)) 35 (fun _ => 0)) 36 (fun _ => 0)) 37 (fun _ => 0)) 38 (fun _ => 0)) 39 (fun _ => 0)) 40 (fun _ => 0)) 41 (fun _ => 0)) 42 (fun _ => 0)) 43 (fun _ => 0))) := by
  rw [f_X3_init]
  simp only [↓lt1q, gp1q, bd1q, in_X5_38, tk_a34, tk_a35, tk_a36, tk_a37, tk_a38, tk_a39, tk_a40, tk_a41, tk_a42, tk_a43, tk_l34, tk_l35, tk_l36, tk_l37, tk_l38, tk_l39, tk_l40, tk_l41, tk_l42, tk_l43, tk_l44, tk_s35_33, tk_s36_33, tk_s37_33, tk_s39_37, tk_s40_37, tk_s41_37, tk_s42_37, tk_s43_37, tk_s44_0, tk_s44_33, tk_s44_37, tk_n0, tk_n1, tk_n2, tk_n3, tk_n4, tk_n5]
set_option maxRecDepth 100000 in
set_option maxHeartbeats 4000000 in
theorem in_X2_45 (R : Rw) (I : Iw) : f_X2_init (Tk 45) R I 44 1 = some (Tk 52, (up2 (up2 (setA (up2 (setA (up2 (setA (up2 (setA (up2 (setA (up2 (setA (up2 (setA R 45 (fun _ => none)) 44 1 (some (.inl 45))) 46 (fun _ => none)) 44 3 (some (.inl 46))) 47 (fun _ => none)) 44 4 (some (.inl 47))) 48 (fun _ => none)) 44 5 (some (.inl 48))) 49 (fun _ => none)) 44 6 (some (.inl 49))) 50 (fun _ => none)) 44 7 (some (.inl 50))) 51 (fun _ => none)) 44 10 (some (.inl 51))) 44 0 (some (.inl 1))), (setA (setA (setA (setA (setA (setA (setA I 45 (fun _ => 0)) 46 (fun _ => 0)) 47 (fun _ => 0)) 48 (fun _ => 0)) 49 (fun _ => 0)) 50 (fun _ => 0)) 51 (fun _ => 0))) := by
  rw [f_X2_init]
  simp only [↓lt1q, gp1q, bd1q, tk_a45, tk_a46, tk_a47, tk_a48, tk_a49, tk_a50, tk_a51, tk_l45, tk_l46, tk_l47, tk_l48, tk_l49, tk_l50, tk_l51, tk_l52, tk_s45_0, tk_s46_44, tk_s47_44, tk_s48_44, tk_s49_44, tk_s50_44, tk_s51_44, tk_s52_0, tk_s52_44, tk_n0, tk_n1, tk_n2, tk_n3, tk_n4, tk_n5]
set_option maxRecDepth 100000 in
set_option maxHeartbeats 4000000 in
theorem in_X8_58 (R : Rw) (I : Iw) : f_X8_init (Tk 58) R I 57 = some (Tk 59, (up2 (setA R 58 (fun _ => none)) 57 2 (some (.inl 58))), (setA (up2 I 57 0 (-1 : Int32)) 58 (fun _ => 0))) := by
  rw [f_X8_init]
  simp only [↓lt1q, gp1q, bd1q, tk_a58, tk_l58, tk_l59, tk_s58_57, tk_s59_0, tk_s59_57, tk_b59_53_0, tk_n0, tk_n1, tk_n2, tk_n3, tk_n4, tk_n5]
set_option maxRecDepth 100000 in
set_option maxHeartbeats 4000000 in
theorem in_X8_60 (R : Rw) (I : Iw) : f_X8_init (Tk 60) R I 59 = some (Tk 61, (up2 (setA R 60 (fun _ => none)) 59 2 (some (.inl 60))), (setA (up2 I 59 0 (-1 : Int32)) 60 (fun _ => 0))) := by
  rw [f_X8_init]
  simp only [↓lt1q, gp1q, bd1q, tk_a60, tk_l60, tk_l61, tk_s60_59, tk_s61_0, tk_s61_59, tk_b61_53_1, tk_n0, tk_n1, tk_n2, tk_n3, tk_n4, tk_n5]
set_option maxRecDepth 100000 in
set_option maxHeartbeats 4000000 in
theorem in_X8_62 (R : Rw) (I : Iw) : f_X8_init (Tk 62) R I 61 = some (Tk 63, (up2 (setA R 62 (fun _ => none)) 61 2 (some (.inl 62))), (setA (up2 I 61 0 (-1 : Int32)) 62 (fun _ => 0))) := by
  rw [f_X8_init]
  simp only [↓lt1q, gp1q, bd1q, tk_a62, tk_l62, tk_l63, tk_s62_61, tk_s63_0, tk_s63_61, tk_b63_53_2, tk_n0, tk_n1, tk_n2, tk_n3, tk_n4, tk_n5]
set_option maxRecDepth 100000 in
set_option maxHeartbeats 4000000 in
theorem in_X8_64 (R : Rw) (I : Iw) : f_X8_init (Tk 64) R I 63 = some (Tk 65, (up2 (setA R 64 (fun _ => none)) 63 2 (some (.inl 64))), (setA (up2 I 63 0 (-1 : Int32)) 64 (fun _ => 0))) := by
  rw [f_X8_init]
  simp only [↓lt1q, gp1q, bd1q, tk_a64, tk_l64, tk_l65, tk_s64_63, tk_s65_0, tk_s65_63, tk_b65_54_0, tk_b65_54_1, tk_b65_54_2, tk_b65_54_3, tk_b65_53_3, tk_n0, tk_n1, tk_n2, tk_n3, tk_n4, tk_n5]
set_option maxRecDepth 100000 in
set_option maxHeartbeats 4000000 in
theorem in_X11_1 (R : Rw) (I : Iw) : f_X11_init (Tk 1) R I 0 = some (Tk 65, (up2 (up2 (setA (setA (up2 (up2 (setA (setA (up2 (up2 (setA (setA (up2 (up2 (setA (setA (up2 (setA (up2 (setA (up2 (setA (up2 (setA (up2 (setA (up2 (up2 (up2 (setA (up2 (setA (up2 (setA (up2 (setA (up2 (setA (up2 (setA (up2 (setA (setA (up2 (up2 (up2 (setA (up2 (setA (up2 (setA (up2 (setA (up2 (setA (up2 (setA (setA (up2 (setA (up2 (setA (up2 (setA (setA (up2 (up2 (setA (up2 (setA (up2 (up2 (setA (up2 (setA (up2 (setA (up2 (setA (up2 (setA (up2 (setA (setA (up2 (setA (up2 (setA (up2 (setA (up2 (setA (up2 (setA (up2 (setA (setA (up2 (up2 (setA (up2 (setA (up2 (up2 (setA (up2 (setA (up2 (setA (up2 (setA (up2 (setA (up2 (setA (setA (up2 (setA (up2 (setA (up2 (setA (up2 (setA (up2 (setA (up2 (setA (setA R 1 (fun _ => none)) 2 (fun _ => none)) 1 0 (some (.inl 2))) 3 (fun _ => none)) 1 1 (some (.inl 3))) 4 (fun _ => none)) 1 2 (some (.inl 4))) 5 (fun _ => none)) 1 3 (some (.inl 5))) 6 (fun _ => none)) 1 4 (some (.inl 6))) 7 (fun _ => none)) 1 7 (some (.inl 7))) 8 (fun _ => none)) 9 (fun _ => none)) 8 1 (some (.inl 9))) 10 (fun _ => none)) 8 2 (some (.inl 10))) 11 (fun _ => none)) 8 3 (some (.inl 11))) 12 (fun _ => none)) 8 5 (some (.inl 12))) 13 (fun _ => none)) 8 6 (some (.inl 13))) 14 (fun _ => none)) 8 7 (some (.inl 14))) 1 11 (some (.inl 8))) 15 (fun _ => none)) 1 12 (some (.inl 15))) 16 (fun _ => none)) 1 13 (some (.inl 16))) 0 0 (some (.inl 1))) 17 (fun _ => none)) 18 (fun _ => none)) 17 0 (some (.inl 18))) 19 (fun _ => none)) 17 1 (some (.inl 19))) 20 (fun _ => none)) 17 2 (some (.inl 20))) 21 (fun _ => none)) 17 3 (some (.inl 21))) 22 (fun _ => none)) 17 4 (some (.inl 22))) 23 (fun _ => none)) 17 7 (some (.inl 23))) 24 (fun _ => none)) 25 (fun _ => none)) 24 1 (some (.inl 25))) 26 (fun _ => none)) 24 2 (some (.inl 26))) 27 (fun _ => none)) 24 3 (some (.inl 27))) 28 (fun _ => none)) 24 5 (some (.inl 28))) 29 (fun _ => none)) 24 6 (some (.inl 29))) 30 (fun _ => none)) 24 7 (some (.inl 30))) 17 11 (some (.inl 24))) 31 (fun _ => none)) 17 12 (some (.inl 31))) 32 (fun _ => none)) 17 13 (some (.inl 32))) 0 1 (some (.inl 17))) 33 (fun _ => none)) 34 (fun _ => none)) 33 1 (some (.inl 34))) 35 (fun _ => none)) 33 2 (some (.inl 35))) 36 (fun _ => none)) 33 3 (some (.inl 36))) 37 (fun _ => none)) 38 (fun _ => none)) 37 1 (some (.inl 38))) 39 (fun _ => none)) 37 2 (some (.inl 39))) 40 (fun _ => none)) 37 3 (some (.inl 40))) 41 (fun _ => none)) 37 5 (some (.inl 41))) 42 (fun _ => none)) 37 6 (some (.inl 42))) 43 (fun _ => none)) 37 7 (some (.inl 43))) 33 6 (some (.inl 37))) 0 3 (some (.inl 33))) 44 (fun _ => none)) 45 (fun _ => none)) 44 1 (some (.inl 45))) 46 (fun _ => none)) 44 3 (some (.inl 46))) 47 (fun _ => none)) 44 4 (some (.inl 47))) 48 (fun _ => none)) 44 5 (some (.inl 48))) 49 (fun _ => none)) 44 6 (some (.inl 49))) 50 (fun _ => none)) 44 7 (some (.inl 50))) 51 (fun _ => none)) 44 10 (some (.inl 51))) 44 0 (some (.inl 1))) 0 4 (some (.inl 44))) 52 (fun _ => none)) 0 5 (some (.inl 52))) 53 (fun _ => none)) 0 7 (some (.inl 53))) 54 (fun _ => none)) 0 8 (some (.inl 54))) 55 (fun _ => none)) 0 9 (some (.inl 55))) 56 (fun _ => none)) 0 10 (some (.inl 56))) 57 (fun _ => none)) 58 (fun _ => none)) 57 2 (some (.inl 58))) 53 0 (some (.inl 57))) 59 (fun _ => none)) 60 (fun _ => none)) 59 2 (some (.inl 60))) 53 1 (some (.inl 59))) 61 (fun _ => none)) 62 (fun _ => none)) 61 2 (some (.inl 62))) 53 2 (some (.inl 61))) 63 (fun _ => none)) 64 (fun _ => none)) 63 2 (some (.inl 64))) 53 3 (some (.inl 63))), (up2 (up2 (up2 (up2 (setA (up2 (setA (setA (up2 (setA (setA (up2 (setA (setA (up2 (setA (setA (setA (setA (setA (setA (setA (setA (setA (setA (setA (setA (setA (setA (setA (setA (setA (setA (setA (setA (setA (setA (setA (setA (setA (up2 (setA (setA (setA (setA (setA (setA (setA (setA (setA (up2 (setA (setA (setA (setA (setA (setA (setA (up2 (setA (setA (setA (setA (setA (setA (setA (setA (setA (up2 (setA (setA (setA (setA (setA (setA (setA I 1 (fun _ => 0)) 2 (fun _ => 0)) 3 (fun _ => 0)) 4 (fun _ => 0)) 5 (fun _ => 0)) 6 (fun _ => 0)) 7 (fun _ => 0)) 1 9 (1 : Int32)) 8 (fun _ => 0)) 9 (fun _ => 0)) 10 (fun _ => 0)) 11 (fun _ => 0)) 12 (fun _ => 0)) 13 (fun _ => 0)) 14 (fun _ => 0)) 15 (fun _ => 0)) 16 (fun _ => 0)) 1 15 (1 : Int32)) 17 (fun _ => 0)) 18 (fun _ => 0)) 19 (fun _ => 0)) 20 (fun _ => 0)) 21 (fun _ => 0)) 22 (fun _ => 0)) 23 (fun _ => 0)) 17 9 (1 : Int32)) 24 (fun _ => 0)) 25 (fun _ => 0)) 26 (fun _ => 0)) 27 (fun _ => 0)) 28 (fun _ => 0)) 29 (fun _ => 0)) 30 (fun _ => 0)) 31 (fun _ => 0)) 32 (fun _ => 0)) 17 15 (1 : Int32)) 33 (fun _ => 0)) 34 (fun _ => 0)) 35 (fun _ => 0)) 36 (fun _ => 0)) 37 (fun _ => 0)) 38 (fun _ => 0)) 39 (fun _ => 0)) 40 (fun _ => 0)) 41 (fun _ => 0)) 42 (fun _ => 0)) 43 (fun _ => 0)) 44 (fun _ => 0)) 45 (fun _ => 0)) 46 (fun _ => 0)) 47 (fun _ => 0)) 48 (fun _ => 0)) 49 (fun _ => 0)) 50 (fun _ => 0)) 51 (fun _ => 0)) 52 (fun _ => 0)) 53 (fun _ => 0)) 54 (fun _ => 0)) 55 (fun _ => 0)) 56 (fun _ => 0)) 57 (fun _ => 0)) 57 0 (-1 : Int32)) 58 (fun _ => 0)) 59 (fun _ => 0)) 59 0 (-1 : Int32)) 60 (fun _ => 0)) 61 (fun _ => 0)) 61 0 (-1 : Int32)) 62 (fun _ => 0)) 63 (fun _ => 0)) 63 0 (-1 : Int32)) 64 (fun _ => 0)) 54 0 (2 : Int32)) 54 1 (2 : Int32)) 54 2 (2 : Int32)) 54 3 (2 : Int32))) := by
  rw [f_X11_init]
  simp only [↓lt1q, gp1q, bd1q, in_X2_45, in_X3_34, in_X7_18, in_X7_2, in_X8_58, in_X8_60, in_X8_62, in_X8_64, tk_a1, tk_a2, tk_a3, tk_a4, tk_a5, tk_a6, tk_a7, tk_a8, tk_a9, tk_a10, tk_a11, tk_a12, tk_a13, tk_a14, tk_a15, tk_a16, tk_a17, tk_a18, tk_a19, tk_a20, tk_a21, tk_a22, tk_a23, tk_a24, tk_a25, tk_a26, tk_a27, tk_a28, tk_a29, tk_a30, tk_a31, tk_a32, tk_a33, tk_a34, tk_a35, tk_a36, tk_a37, tk_a38, tk_a39, tk_a40, tk_a41, tk_a42, tk_a43, tk_a44, tk_a45, tk_a46, tk_a47, tk_a48, tk_a49, tk_a50, tk_a51, tk_a52, tk_a53, tk_a54, tk_a55, tk_a56, tk_a57, tk_a58, tk_a59, tk_a60, tk_a61, tk_a62, tk_a63, tk_a64, tk_l1, tk_l2, tk_l3, tk_l4, tk_l5, tk_l6, tk_l7, tk_l8, tk_l9, tk_l10, tk_l11, tk_l12, tk_l13, tk_l14, tk_l15, tk_l16, tk_l17, tk_l18, tk_l19, tk_l20, tk_l21, tk_l22, tk_l23, tk_l24, tk_l25, tk_l26, tk_l27, tk_l28, tk_l29, tk_l30, tk_l31, tk_l32, tk_l33, tk_l34, tk_l35, tk_l36, tk_l37, tk_l38, tk_l39, tk_l40, tk_l41, tk_l42, tk_l43, tk_l44, tk_l45, tk_l46, tk_l47, tk_l48, tk_l49, tk_l50, tk_l51, tk_l52, tk_l53, tk_l54, tk_l55, tk_l56, tk_l57, tk_l58, tk_l59, tk_l60, tk_l61, tk_l62, tk_l63, tk_l64, tk_l65, tk_s3_1, tk_s4_1, tk_s5_1, tk_s6_1, tk_s7_1, tk_s8_1, tk_s10_8, tk_s11_8, tk_s12_8, tk_s13_8, tk_s14_8, tk_s15_1, tk_s15_8, tk_s16_1, tk_s17_0, tk_s17_1, tk_s19_17, tk_s20_17, tk_s21_17, tk_s22_17, tk_s23_17, tk_s24_17, tk_s26_24, tk_s27_24, tk_s28_24, tk_s29_24, tk_s30_24, tk_s31_17, tk_s31_24, tk_s32_17, tk_s33_0, tk_s33_17, tk_s35_33, tk_s36_33, tk_s37_33, tk_s39_37, tk_s40_37, tk_s41_37, tk_s42_37, tk_s43_37, tk_s44_0, tk_s44_33, tk_s44_37, tk_s45_0, tk_s46_44, tk_s47_44, tk_s48_44, tk_s49_44, tk_s50_44, tk_s51_44, tk_s52_0, tk_s52_44, tk_s53_0, tk_s54_0, tk_s55_0, tk_s56_0, tk_s57_0, tk_s58_57, tk_s59_0, tk_s59_57, tk_s60_59, tk_s61_0, tk_s61_59, tk_s62_61, tk_s63_0, tk_s63_61, tk_s64_63, tk_s65_0, tk_s65_63, tk_b59_53_0, tk_b61_53_1, tk_b63_53_2, tk_b65_54_0, tk_b65_54_1, tk_b65_54_2, tk_b65_54_3, tk_b65_53_3, tk_n0, tk_n1, tk_n2, tk_n3, tk_n4, tk_n5, rl1q, u_row, sA_eq, Nat.reduceEqDiff, false_and, and_false, true_and, and_true, and_self, if_true, if_false, reduceIte]
set_option maxRecDepth 100000 in
set_option maxHeartbeats 4000000 in
theorem in_X12_66 (R : Rw) (I : Iw) : f_X12_init (Tk 66) R I 65 = some (Tk 87, (up2 (setA (up2 (setA (up2 (setA (up2 (setA (up2 (setA (up2 (setA (up2 (setA (up2 (setA (up2 (setA (up2 (setA (up2 (setA (up2 (setA (up2 (setA (up2 (setA (up2 (up2 (up2 (up2 (up2 (up2 (up2 (setA (up2 (up2 (up2 (up2 (up2 (up2 (setA (up2 (setA (up2 (setA (up2 (setA (up2 (setA (up2 (setA R 66 (fun _ => none)) 65 0 (some (.inl 66))) 67 (fun _ => none)) 65 1 (some (.inl 67))) 68 (fun _ => none)) 65 2 (some (.inl 68))) 69 (fun _ => none)) 65 4 (some (.inl 69))) 70 (fun _ => none)) 65 11 (some (.inl 70))) 71 (fun _ => none)) 71 0 (some (.inr 1))) 71 1 (some (.inr 2))) 71 2 (some (.inr 3))) 71 3 (some (.inr 4))) 71 4 (some (.inr 5))) 65 13 (some (.inl 71))) 72 (fun _ => none)) 72 0 (some (.inr 6))) 72 1 (some (.inr 7))) 72 2 (some (.inr 8))) 72 3 (some (.inr 9))) 72 4 (some (.inr 10))) 72 5 (some (.inr 11))) 65 14 (some (.inl 72))) 73 (fun _ => none)) 65 15 (some (.inl 73))) 74 (fun _ => none)) 65 16 (some (.inl 74))) 75 (fun _ => none)) 65 17 (some (.inl 75))) 76 (fun _ => none)) 65 18 (some (.inl 76))) 77 (fun _ => none)) 65 19 (some (.inl 77))) 78 (fun _ => none)) 65 20 (some (.inl 78))) 79 (fun _ => none)) 65 22 (some (.inl 79))) 80 (fun _ => none)) 65 24 (some (.inl 80))) 81 (fun _ => none)) 65 25 (some (.inl 81))) 82 (fun _ => none)) 65 26 (some (.inl 82))) 83 (fun _ => none)) 65 27 (some (.inl 83))) 84 (fun _ => none)) 65 28 (some (.inl 84))) 85 (fun _ => none)) 65 29 (some (.inl 85))) 86 (fun _ => none)) 65 30 (some (.inl 86))), (up2 (up2 (up2 (up2 (up2 (up2 (setA (setA (setA (setA (setA (setA (setA (setA (setA (setA (setA (setA (setA (setA (setA (setA (setA (setA (setA (setA (setA I 66 (fun _ => 0)) 67 (fun _ => 0)) 68 (fun _ => 0)) 69 (fun _ => 0)) 70 (fun _ => 0)) 71 (fun _ => 0)) 72 (fun _ => 0)) 73 (fun _ => 0)) 74 (fun _ => 0)) 75 (fun _ => 0)) 76 (fun _ => 0)) 77 (fun _ => 0)) 78 (fun _ => 0)) 79 (fun _ => 0)) 80 (fun _ => 0)) 81 (fun _ => 0)) 82 (fun _ => 0)) 83 (fun _ => 0)) 84 (fun _ => 0)) 85 (fun _ => 0)) 86 (fun _ => 0)) 66 0 (1 : Int32)) 66 2 (1 : Int32)) 81 0 (-1 : Int32)) 81 1 (-1 : Int32)) 81 2 (-1 : Int32)) 81 3 (-1 : Int32))) := by
  rw [f_X12_init]
  simp only [↓lt1q, gp1q, bd1q, tk_a66, tk_a67, tk_a68, tk_a69, tk_a70, tk_a71, tk_a72, tk_a73, tk_a74, tk_a75, tk_a76, tk_a77, tk_a78, tk_a79, tk_a80, tk_a81, tk_a82, tk_a83, tk_a84, tk_a85, tk_a86, tk_l66, tk_l67, tk_l68, tk_l69, tk_l70, tk_l71, tk_l72, tk_l73, tk_l74, tk_l75, tk_l76, tk_l77, tk_l78, tk_l79, tk_l80, tk_l81, tk_l82, tk_l83, tk_l84, tk_l85, tk_l86, tk_l87, tk_s67_65, tk_s68_65, tk_s69_65, tk_s70_65, tk_s71_65, tk_s72_65, tk_s73_65, tk_s74_65, tk_s75_65, tk_s76_65, tk_s77_65, tk_s78_65, tk_s79_65, tk_s80_65, tk_s81_65, tk_s82_65, tk_s83_65, tk_s84_65, tk_s85_65, tk_s86_65, tk_s87_65, tk_b72_71_0, tk_b72_71_1, tk_b72_71_2, tk_b72_71_3, tk_b72_71_4, tk_b73_72_0, tk_b73_72_1, tk_b73_72_2, tk_b73_72_3, tk_b73_72_4, tk_b73_72_5, tk_b87_66_0, tk_b87_66_2, tk_b87_81_0, tk_b87_81_1, tk_b87_81_2, tk_b87_81_3, tk_n0, tk_n1, tk_n2, tk_n3, tk_n4, tk_n5, rl1q, u_row, sA_eq, Nat.reduceEqDiff, false_and, and_false, true_and, and_true, and_self, if_true, if_false, reduceIte]
def RA (R : Rw) : Rw := (up2 (up2 (setA (setA (up2 (up2 (setA (setA (up2 (up2 (setA (setA (up2 (up2 (setA (setA (up2 (setA (up2 (setA (up2 (setA (up2 (setA (up2 (setA (up2 (up2 (up2 (setA (up2 (setA (up2 (setA (up2 (setA (up2 (setA (up2 (setA (up2 (setA (setA (up2 (up2 (up2 (setA (up2 (setA (up2 (setA (up2 (setA (up2 (setA (up2 (setA (setA (up2 (setA (up2 (setA (up2 (setA (setA (up2 (up2 (setA (up2 (setA (up2 (up2 (setA (up2 (setA (up2 (setA (up2 (setA (up2 (setA (up2 (setA (setA (up2 (setA (up2 (setA (up2 (setA (up2 (setA (up2 (setA (up2 (setA (setA (up2 (up2 (setA (up2 (setA (up2 (up2 (setA (up2 (setA (up2 (setA (up2 (setA (up2 (setA (up2 (setA (setA (up2 (setA (up2 (setA (up2 (setA (up2 (setA (up2 (setA (up2 (setA (setA R 1 (fun _ => none)) 2 (fun _ => none)) 1 0 (some (.inl 2))) 3 (fun _ => none)) 1 1 (some (.inl 3))) 4 (fun _ => none)) 1 2 (some (.inl 4))) 5 (fun _ => none)) 1 3 (some (.inl 5))) 6 (fun _ => none)) 1 4 (some (.inl 6))) 7 (fun _ => none)) 1 7 (some (.inl 7))) 8 (fun _ => none)) 9 (fun _ => none)) 8 1 (some (.inl 9))) 10 (fun _ => none)) 8 2 (some (.inl 10))) 11 (fun _ => none)) 8 3 (some (.inl 11))) 12 (fun _ => none)) 8 5 (some (.inl 12))) 13 (fun _ => none)) 8 6 (some (.inl 13))) 14 (fun _ => none)) 8 7 (some (.inl 14))) 1 11 (some (.inl 8))) 15 (fun _ => none)) 1 12 (some (.inl 15))) 16 (fun _ => none)) 1 13 (some (.inl 16))) 0 0 (some (.inl 1))) 17 (fun _ => none)) 18 (fun _ => none)) 17 0 (some (.inl 18))) 19 (fun _ => none)) 17 1 (some (.inl 19))) 20 (fun _ => none)) 17 2 (some (.inl 20))) 21 (fun _ => none)) 17 3 (some (.inl 21))) 22 (fun _ => none)) 17 4 (some (.inl 22))) 23 (fun _ => none)) 17 7 (some (.inl 23))) 24 (fun _ => none)) 25 (fun _ => none)) 24 1 (some (.inl 25))) 26 (fun _ => none)) 24 2 (some (.inl 26))) 27 (fun _ => none)) 24 3 (some (.inl 27))) 28 (fun _ => none)) 24 5 (some (.inl 28))) 29 (fun _ => none)) 24 6 (some (.inl 29))) 30 (fun _ => none)) 24 7 (some (.inl 30))) 17 11 (some (.inl 24))) 31 (fun _ => none)) 17 12 (some (.inl 31))) 32 (fun _ => none)) 17 13 (some (.inl 32))) 0 1 (some (.inl 17))) 33 (fun _ => none)) 34 (fun _ => none)) 33 1 (some (.inl 34))) 35 (fun _ => none)) 33 2 (some (.inl 35))) 36 (fun _ => none)) 33 3 (some (.inl 36))) 37 (fun _ => none)) 38 (fun _ => none)) 37 1 (some (.inl 38))) 39 (fun _ => none)) 37 2 (some (.inl 39))) 40 (fun _ => none)) 37 3 (some (.inl 40))) 41 (fun _ => none)) 37 5 (some (.inl 41))) 42 (fun _ => none)) 37 6 (some (.inl 42))) 43 (fun _ => none)) 37 7 (some (.inl 43))) 33 6 (some (.inl 37))) 0 3 (some (.inl 33))) 44 (fun _ => none)) 45 (fun _ => none)) 44 1 (some (.inl 45))) 46 (fun _ => none)) 44 3 (some (.inl 46))) 47 (fun _ => none)) 44 4 (some (.inl 47))) 48 (fun _ => none)) 44 5 (some (.inl 48))) 49 (fun _ => none)) 44 6 (some (.inl 49))) 50 (fun _ => none)) 44 7 (some (.inl 50))) 51 (fun _ => none)) 44 10 (some (.inl 51))) 44 0 (some (.inl 1))) 0 4 (some (.inl 44))) 52 (fun _ => none)) 0 5 (some (.inl 52))) 53 (fun _ => none)) 0 7 (some (.inl 53))) 54 (fun _ => none)) 0 8 (some (.inl 54))) 55 (fun _ => none)) 0 9 (some (.inl 55))) 56 (fun _ => none)) 0 10 (some (.inl 56))) 57 (fun _ => none)) 58 (fun _ => none)) 57 2 (some (.inl 58))) 53 0 (some (.inl 57))) 59 (fun _ => none)) 60 (fun _ => none)) 59 2 (some (.inl 60))) 53 1 (some (.inl 59))) 61 (fun _ => none)) 62 (fun _ => none)) 61 2 (some (.inl 62))) 53 2 (some (.inl 61))) 63 (fun _ => none)) 64 (fun _ => none)) 63 2 (some (.inl 64))) 53 3 (some (.inl 63)))
def IA (I : Iw) : Iw := (up2 (up2 (up2 (up2 (setA (up2 (setA (setA (up2 (setA (setA (up2 (setA (setA (up2 (setA (setA (setA (setA (setA (setA (setA (setA (setA (setA (setA (setA (setA (setA (setA (setA (setA (setA (setA (setA (setA (setA (setA (setA (setA (up2 (setA (setA (setA (setA (setA (setA (setA (setA (setA (up2 (setA (setA (setA (setA (setA (setA (setA (up2 (setA (setA (setA (setA (setA (setA (setA (setA (setA (up2 (setA (setA (setA (setA (setA (setA (setA I 1 (fun _ => 0)) 2 (fun _ => 0)) 3 (fun _ => 0)) 4 (fun _ => 0)) 5 (fun _ => 0)) 6 (fun _ => 0)) 7 (fun _ => 0)) 1 9 (1 : Int32)) 8 (fun _ => 0)) 9 (fun _ => 0)) 10 (fun _ => 0)) 11 (fun _ => 0)) 12 (fun _ => 0)) 13 (fun _ => 0)) 14 (fun _ => 0)) 15 (fun _ => 0)) 16 (fun _ => 0)) 1 15 (1 : Int32)) 17 (fun _ => 0)) 18 (fun _ => 0)) 19 (fun _ => 0)) 20 (fun _ => 0)) 21 (fun _ => 0)) 22 (fun _ => 0)) 23 (fun _ => 0)) 17 9 (1 : Int32)) 24 (fun _ => 0)) 25 (fun _ => 0)) 26 (fun _ => 0)) 27 (fun _ => 0)) 28 (fun _ => 0)) 29 (fun _ => 0)) 30 (fun _ => 0)) 31 (fun _ => 0)) 32 (fun _ => 0)) 17 15 (1 : Int32)) 33 (fun _ => 0)) 34 (fun _ => 0)) 35 (fun _ => 0)) 36 (fun _ => 0)) 37 (fun _ => 0)) 38 (fun _ => 0)) 39 (fun _ => 0)) 40 (fun _ => 0)) 41 (fun _ => 0)) 42 (fun _ => 0)) 43 (fun _ => 0)) 44 (fun _ => 0)) 45 (fun _ => 0)) 46 (fun _ => 0)) 47 (fun _ => 0)) 48 (fun _ => 0)) 49 (fun _ => 0)) 50 (fun _ => 0)) 51 (fun _ => 0)) 52 (fun _ => 0)) 53 (fun _ => 0)) 54 (fun _ => 0)) 55 (fun _ => 0)) 56 (fun _ => 0)) 57 (fun _ => 0)) 57 0 (-1 : Int32)) 58 (fun _ => 0)) 59 (fun _ => 0)) 59 0 (-1 : Int32)) 60 (fun _ => 0)) 61 (fun _ => 0)) 61 0 (-1 : Int32)) 62 (fun _ => 0)) 63 (fun _ => 0)) 63 0 (-1 : Int32)) 64 (fun _ => 0)) 54 0 (2 : Int32)) 54 1 (2 : Int32)) 54 2 (2 : Int32)) 54 3 (2 : Int32))
def RB (R : Rw) : Rw := (up2 (setA (up2 (setA (up2 (setA (up2 (setA (up2 (setA (up2 (setA (up2 (setA (up2 (setA (up2 (setA (up2 (setA (up2 (setA (up2 (setA (up2 (setA (up2 (setA (up2 (up2 (up2 (up2 (up2 (up2 (up2 (setA (up2 (up2 (up2 (up2 (up2 (up2 (setA (up2 (setA (up2 (setA (up2 (setA (up2 (setA (up2 (setA R 66 (fun _ => none)) 65 0 (some (.inl 66))) 67 (fun _ => none)) 65 1 (some (.inl 67))) 68 (fun _ => none)) 65 2 (some (.inl 68))) 69 (fun _ => none)) 65 4 (some (.inl 69))) 70 (fun _ => none)) 65 11 (some (.inl 70))) 71 (fun _ => none)) 71 0 (some (.inr 1))) 71 1 (some (.inr 2))) 71 2 (some (.inr 3))) 71 3 (some (.inr 4))) 71 4 (some (.inr 5))) 65 13 (some (.inl 71))) 72 (fun _ => none)) 72 0 (some (.inr 6))) 72 1 (some (.inr 7))) 72 2 (some (.inr 8))) 72 3 (some (.inr 9))) 72 4 (some (.inr 10))) 72 5 (some (.inr 11))) 65 14 (some (.inl 72))) 73 (fun _ => none)) 65 15 (some (.inl 73))) 74 (fun _ => none)) 65 16 (some (.inl 74))) 75 (fun _ => none)) 65 17 (some (.inl 75))) 76 (fun _ => none)) 65 18 (some (.inl 76))) 77 (fun _ => none)) 65 19 (some (.inl 77))) 78 (fun _ => none)) 65 20 (some (.inl 78))) 79 (fun _ => none)) 65 22 (some (.inl 79))) 80 (fun _ => none)) 65 24 (some (.inl 80))) 81 (fun _ => none)) 65 25 (some (.inl 81))) 82 (fun _ => none)) 65 26 (some (.inl 82))) 83 (fun _ => none)) 65 27 (some (.inl 83))) 84 (fun _ => none)) 65 28 (some (.inl 84))) 85 (fun _ => none)) 65 29 (some (.inl 85))) 86 (fun _ => none)) 65 30 (some (.inl 86)))
def IB (I : Iw) : Iw := (up2 (up2 (up2 (up2 (up2 (up2 (setA (setA (setA (setA (setA (setA (setA (setA (setA (setA (setA (setA (setA (setA (setA (setA (setA (setA (setA (setA (setA I 66 (fun _ => 0)) 67 (fun _ => 0)) 68 (fun _ => 0)) 69 (fun _ => 0)) 70 (fun _ => 0)) 71 (fun _ => 0)) 72 (fun _ => 0)) 73 (fun _ => 0)) 74 (fun _ => 0)) 75 (fun _ => 0)) 76 (fun _ => 0)) 77 (fun _ => 0)) 78 (fun _ => 0)) 79 (fun _ => 0)) 80 (fun _ => 0)) 81 (fun _ => 0)) 82 (fun _ => 0)) 83 (fun _ => 0)) 84 (fun _ => 0)) 85 (fun _ => 0)) 86 (fun _ => 0)) 66 0 (1 : Int32)) 66 2 (1 : Int32)) 81 0 (-1 : Int32)) 81 1 (-1 : Int32)) 81 2 (-1 : Int32)) 81 3 (-1 : Int32))
theorem in_A (R : Rw) (I : Iw) : f_X11_init (Tk 1) R I 0 = some (Tk 65, RA R, IA I) := in_X11_1 R I
theorem in_B (R : Rw) (I : Iw) : f_X12_init (Tk 66) R I 65 = some (Tk 87, RB R, IB I) := in_X12_66 R I
def RZ : Rw := RB (setA (RA (setA (fun _ _ => none) 0 (fun _ => none))) 65 (fun _ => none))
def IZ : Iw := IB (setA (IA (setA (fun _ _ => 0) 0 (fun _ => 0))) 65 (fun _ => 0))
theorem tk_87 : Tk 87 = S0 ++ [] := by decide +kernel
theorem lz_start (L : Nat) (xs : Nat → Int32) : f_L L xs [] (fun _ _ => none) (fun _ _ => 0) = f_L_18 L xs 513 (S0 ++ []) RZ IZ 0 65 0 := by
  rw [f_L, ← tk_87]
  simp only [↓lt1q, bd1q, show List.length ([] : Sh) = 0 from id rfl, show ([] : Sh) ++ [(11, 12)] = Tk 1 from id rfl, in_A, tk_l65, tk_a65, in_B]
  rfl
theorem RZ_lay : Lay RZ := by
  have h : ∀ k, k < 87 → ∀ j, j < 40 → (k = 0 ∧ j = 11) ∨ RZ k j = R0 k j := by decide +kernel
  exact fun k hk j hj q => (h k hk j hj).resolve_left q
def DZ : Dt := (0, fun _ => 0, fun _ => 0, fun _ => 0, fun _ => 0, 0, fun _ => 0, 1, 0, 1, 0, fun _ => 0, fun _ => 0, fun _ => 0, fun _ => ([], []), 0, fun _ => 0, fun _ => 0)
theorem DZ_V : VD DZ := by
  refine ⟨by decide, by decide, fun k hk => absurd hk (by show ¬ k < 0; omega), fun i j hi _ _ => absurd hi (by show ¬ i < 0; omega), fun g hg => absurd hg (by show ¬ g < 0; omega), by decide, ⟨by decide, by decide, by decide, fun r hr => absurd hr (by show ¬ r < 0; omega)⟩, by decide, fun k hk => absurd hk (by show ¬ k < 0; omega)⟩
theorem IZ_C : CR IZ 1 DZ := by
  refine ⟨⟨by decide +kernel, by decide +kernel, by decide +kernel, by decide +kernel, by decide +kernel, by decide +kernel, by decide +kernel, fun g hg => absurd hg (by show ¬ g < 0; omega), fun k hk => absurd hk (by show ¬ k < 0; omega), ⟨by decide +kernel, by decide +kernel, fun r hr => absurd hr (by show ¬ r < 0; omega)⟩, fun k hk => absurd hk (by show ¬ k < 0; omega)⟩, fun g hg => absurd hg (by show ¬ g < 0; omega)⟩
theorem IZ_M : MR IZ 66 DZ := by
  have h9 : ∀ k, k < 9 → IZ 66 (7 + k) = 0 := by decide +kernel
  refine ⟨by decide +kernel, by decide +kernel, by decide +kernel, by decide +kernel, by decide +kernel, by decide +kernel, by decide +kernel, fun k hk => ?_, fun g hg => absurd hg (by show ¬ g < 0; omega), fun k hk => absurd hk (by show ¬ k < 0; omega), fun k hk => absurd hk (by show ¬ k < 0; omega), fun r hr => absurd hr (by show ¬ r < 0; omega), fun r hr => ?_⟩
  · rw [if_neg (by show ¬ k < 0; omega)]; exact h9 k hk
  · have hr : r ≤ 0 := hr
    have e : r = 0 := by omega
    subst e
    show IZ 66 97 = nI 0
    decide +kernel
theorem IZ_T : ST IZ 0 := by
  refine ⟨0, Nat.le_refl 0, by decide +kernel, fun i _ => ⟨0, Nat.le_refl 0, ?_⟩⟩
  simp only [IZ, IA, IB, u_row, sA_eq, Nat.reduceEqDiff, false_and, and_false, true_and, and_true, and_self, if_true, if_false, reduceIte]
  rfl
theorem IZ_Rest : Rest (S0 ++ []) RZ IZ := by
  refine ⟨⟨false, by decide +kernel, by decide +kernel, fun h => by cases h⟩, ⟨0, by omega, by decide +kernel, by decide +kernel, fun k hk => absurd hk (by omega)⟩, ⟨0, by omega, by decide +kernel, by decide +kernel, by decide +kernel⟩, ?_, ?_, Or.inl ⟨by decide +kernel, by decide +kernel⟩⟩
  · have h1 : ∀ s, s < 4 → IZ (57 + 2 * s) 0 = IZ 81 s ∧ IZ (57 + 2 * s) 1 = nI 0 ∧ IZ 82 s = nI 0 ∧ IZ 81 s = -nI 1 := by decide +kernel
    have h2 : ∀ s, s < 4 → ∀ j, j < 40 → IZ (58 + 2 * s) j = IZ 80 (40 * s + j) := by decide +kernel
    exact fun s hs => ⟨0, by omega, (h1 s hs).1, (h1 s hs).2.1, (h1 s hs).2.2.1, Or.inl (h1 s hs).2.2.2, h2 s hs⟩
  · have h1 : ∀ s, s < 4 → IZ 54 s = nI 2 ∧ IZ 83 s = nI 0 := by decide +kernel
    exact fun s hs => Or.inl (h1 s hs)
theorem lz_rel : Rel 0 (S0 ++ []) RZ IZ := ⟨[], DZ, rfl, RZ_lay, ⟨IZ_C, IZ_M, DZ_V, IZ_T⟩, IZ_Rest⟩
