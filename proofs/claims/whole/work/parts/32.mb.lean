/-! X12_init, X12_in, X12_copy -/
theorem lkQ_RX12_9_12 : LkQ RX12 9 12 0 (.array .int) := ⟨RX12, TX12, 34, "UnlikeNeighboursModel", fc12, by decide, (t5_in 81 (by decide +kernel) rfl), Or.inl rfl, rfl, rfl, by decide +kernel⟩
theorem lkQ_RX12_13_12 : LkQ RX12 13 12 1 (.array .int) := ⟨RX12, TX12, 34, "UnlikeNeighboursModel", fc12, by decide, (t5_in 82 (by decide +kernel) rfl), Or.inl rfl, rfl, rfl, by decide +kernel⟩
theorem lkQ_RX12_16_12 : LkQ RX12 16 12 2 (.array .int) := ⟨RX12, TX12, 34, "UnlikeNeighboursModel", fc12, by decide, (t5_in 83 (by decide +kernel) rfl), Or.inl rfl, rfl, rfl, by decide +kernel⟩
theorem lkQ_RX12_19_12 : LkQ RX12 19 12 4 (.array .int) := ⟨RX12, TX12, 34, "UnlikeNeighboursModel", fc12, by decide, (t5_in 85 (by decide +kernel) rfl), Or.inl rfl, rfl, rfl, by decide +kernel⟩
theorem lkQ_RX12_22_12 : LkQ RX12 22 12 11 (.array .int) := ⟨RX12, TX12, 34, "UnlikeNeighboursModel", fc12, by decide, (t5_in 92 (by decide +kernel) rfl), Or.inl rfl, rfl, rfl, by decide +kernel⟩
theorem lkQ_RX12_37_12 : LkQ RX12 37 12 13 (.array (.object "java/lang/String")) := ⟨RX12, TX12, 34, "UnlikeNeighboursModel", fc12, by decide, (t5_in 94 (by decide +kernel) rfl), Or.inl rfl, rfl, rfl, by decide +kernel⟩
theorem lkQ_RX12_53_12 : LkQ RX12 53 12 14 (.array (.object "java/lang/String")) := ⟨RX12, TX12, 34, "UnlikeNeighboursModel", fc12, by decide, (t5_in 95 (by decide +kernel) rfl), Or.inl rfl, rfl, rfl, by decide +kernel⟩
theorem lkQ_RX12_56_12 : LkQ RX12 56 12 15 (.array .int) := ⟨RX12, TX12, 34, "UnlikeNeighboursModel", fc12, by decide, (t5_in 96 (by decide +kernel) rfl), Or.inl rfl, rfl, rfl, by decide +kernel⟩
theorem lkQ_RX12_59_12 : LkQ RX12 59 12 16 (.array .int) := ⟨RX12, TX12, 34, "UnlikeNeighboursModel", fc12, by decide, (t5_in 97 (by decide +kernel) rfl), Or.inl rfl, rfl, rfl, by decide +kernel⟩
theorem lkQ_RX12_62_12 : LkQ RX12 62 12 17 (.array .int) := ⟨RX12, TX12, 34, "UnlikeNeighboursModel", fc12, by decide, (t5_in 98 (by decide +kernel) rfl), Or.inl rfl, rfl, rfl, by decide +kernel⟩
theorem lkQ_RX12_65_12 : LkQ RX12 65 12 18 (.array .int) := ⟨RX12, TX12, 34, "UnlikeNeighboursModel", fc12, by decide, (t5_in 99 (by decide +kernel) rfl), Or.inl rfl, rfl, rfl, by decide +kernel⟩
theorem lkQ_RX12_68_12 : LkQ RX12 68 12 19 (.array .int) := ⟨RX12, TX12, 34, "UnlikeNeighboursModel", fc12, by decide, (t5_in 100 (by decide +kernel) rfl), Or.inl rfl, rfl, rfl, by decide +kernel⟩
theorem lkQ_RX12_71_12 : LkQ RX12 71 12 20 (.array .int) := ⟨RX12, TX12, 34, "UnlikeNeighboursModel", fc12, by decide, (t5_in 101 (by decide +kernel) rfl), Or.inl rfl, rfl, rfl, by decide +kernel⟩
theorem lkQ_RX12_74_12 : LkQ RX12 74 12 22 (.array .int) := ⟨RX12, TX12, 34, "UnlikeNeighboursModel", fc12, by decide, (t5_in 103 (by decide +kernel) rfl), Or.inl rfl, rfl, rfl, by decide +kernel⟩
theorem lkQ_RX12_77_12 : LkQ RX12 77 12 24 (.array .int) := ⟨RX12, TX12, 34, "UnlikeNeighboursModel", fc12, by decide, (t5_in 105 (by decide +kernel) rfl), Or.inl rfl, rfl, rfl, by decide +kernel⟩
theorem lkQ_RX12_80_12 : LkQ RX12 80 12 25 (.array .int) := ⟨RX12, TX12, 34, "UnlikeNeighboursModel", fc12, by decide, (t5_in 106 (by decide +kernel) rfl), Or.inl rfl, rfl, rfl, by decide +kernel⟩
theorem lkQ_RX12_83_12 : LkQ RX12 83 12 26 (.array .int) := ⟨RX12, TX12, 34, "UnlikeNeighboursModel", fc12, by decide, (t5_in 107 (by decide +kernel) rfl), Or.inl rfl, rfl, rfl, by decide +kernel⟩
theorem lkQ_RX12_86_12 : LkQ RX12 86 12 27 (.array .int) := ⟨RX12, TX12, 34, "UnlikeNeighboursModel", fc12, by decide, (t5_in 108 (by decide +kernel) rfl), Or.inl rfl, rfl, rfl, by decide +kernel⟩
theorem lkQ_RX12_89_12 : LkQ RX12 89 12 28 (.array .int) := ⟨RX12, TX12, 34, "UnlikeNeighboursModel", fc12, by decide, (t5_in 109 (by decide +kernel) rfl), Or.inl rfl, rfl, rfl, by decide +kernel⟩
theorem lkQ_RX12_92_12 : LkQ RX12 92 12 29 (.array .int) := ⟨RX12, TX12, 34, "UnlikeNeighboursModel", fc12, by decide, (t5_in 110 (by decide +kernel) rfl), Or.inl rfl, rfl, rfl, by decide +kernel⟩
theorem lkQ_RX12_95_12 : LkQ RX12 95 12 30 (.array .int) := ⟨RX12, TX12, 34, "UnlikeNeighboursModel", fc12, by decide, (t5_in 111 (by decide +kernel) rfl), Or.inl rfl, rfl, rfl, by decide +kernel⟩
theorem lkF_RX12_9_12 : LkF RX12 9 12 0 := ⟨RX12, TX12, 34, "UnlikeNeighboursModel", fc12, by decide, (t5_in 81 (by decide +kernel) rfl), Or.inl rfl⟩
theorem lkF_RX12_80_12 : LkF RX12 80 12 25 := ⟨RX12, TX12, 34, "UnlikeNeighboursModel", fc12, by decide, (t5_in 106 (by decide +kernel) rfl), Or.inl rfl⟩
theorem dX12_init_0 : decode cX12_init 0 = .ok (.aload_n 0, 1) := by decide +kernel
theorem dX12_init_1 : decode cX12_init 1 = .ok (.invokespecial 1, 3) := by decide +kernel
theorem dX12_init_4 : decode cX12_init 4 = .ok (.aload_n 0, 1) := by decide +kernel
theorem dX12_init_5 : decode cX12_init 5 = .ok (.sipush 306, 3) := by decide +kernel
theorem dX12_init_8 : decode cX12_init 8 = .ok (.newarray .int, 2) := by decide +kernel
theorem dX12_init_10 : decode cX12_init 10 = .ok (.putfield 9, 3) := by decide +kernel
theorem dX12_init_13 : decode cX12_init 13 = .ok (.aload_n 0, 1) := by decide +kernel
theorem dX12_init_14 : decode cX12_init 14 = .ok (.sipush 306, 3) := by decide +kernel
theorem dX12_init_17 : decode cX12_init 17 = .ok (.newarray .int, 2) := by decide +kernel
theorem dX12_init_19 : decode cX12_init 19 = .ok (.putfield 13, 3) := by decide +kernel
theorem dX12_init_22 : decode cX12_init 22 = .ok (.aload_n 0, 1) := by decide +kernel
theorem dX12_init_23 : decode cX12_init 23 = .ok (.sipush 306, 3) := by decide +kernel
theorem dX12_init_26 : decode cX12_init 26 = .ok (.newarray .int, 2) := by decide +kernel
theorem dX12_init_28 : decode cX12_init 28 = .ok (.putfield 16, 3) := by decide +kernel
theorem dX12_init_31 : decode cX12_init 31 = .ok (.aload_n 0, 1) := by decide +kernel
theorem dX12_init_32 : decode cX12_init 32 = .ok (.sipush 200, 3) := by decide +kernel
theorem dX12_init_35 : decode cX12_init 35 = .ok (.newarray .int, 2) := by decide +kernel
theorem dX12_init_37 : decode cX12_init 37 = .ok (.putfield 19, 3) := by decide +kernel
theorem dX12_init_40 : decode cX12_init 40 = .ok (.aload_n 0, 1) := by decide +kernel
theorem dX12_init_41 : decode cX12_init 41 = .ok (.sipush 200, 3) := by decide +kernel
theorem dX12_init_44 : decode cX12_init 44 = .ok (.newarray .int, 2) := by decide +kernel
theorem dX12_init_46 : decode cX12_init 46 = .ok (.putfield 22, 3) := by decide +kernel
theorem dX12_init_49 : decode cX12_init 49 = .ok (.aload_n 0, 1) := by decide +kernel
theorem dX12_init_50 : decode cX12_init 50 = .ok (.iconst 5, 1) := by decide +kernel
theorem dX12_init_51 : decode cX12_init 51 = .ok (.anewarray 25, 3) := by decide +kernel
theorem dX12_init_54 : decode cX12_init 54 = .ok (.dup, 1) := by decide +kernel
theorem dX12_init_55 : decode cX12_init 55 = .ok (.iconst 0, 1) := by decide +kernel
theorem dX12_init_56 : decode cX12_init 56 = .ok (.ldc 27, 2) := by decide +kernel
theorem dX12_init_58 : decode cX12_init 58 = .ok (.aastore, 1) := by decide +kernel
theorem dX12_init_59 : decode cX12_init 59 = .ok (.dup, 1) := by decide +kernel
theorem dX12_init_60 : decode cX12_init 60 = .ok (.iconst 1, 1) := by decide +kernel
theorem dX12_init_61 : decode cX12_init 61 = .ok (.ldc 29, 2) := by decide +kernel
theorem dX12_init_63 : decode cX12_init 63 = .ok (.aastore, 1) := by decide +kernel
theorem dX12_init_64 : decode cX12_init 64 = .ok (.dup, 1) := by decide +kernel
theorem dX12_init_65 : decode cX12_init 65 = .ok (.iconst 2, 1) := by decide +kernel
theorem dX12_init_66 : decode cX12_init 66 = .ok (.ldc 31, 2) := by decide +kernel
theorem dX12_init_68 : decode cX12_init 68 = .ok (.aastore, 1) := by decide +kernel
theorem dX12_init_69 : decode cX12_init 69 = .ok (.dup, 1) := by decide +kernel
theorem dX12_init_70 : decode cX12_init 70 = .ok (.iconst 3, 1) := by decide +kernel
theorem dX12_init_71 : decode cX12_init 71 = .ok (.ldc 33, 2) := by decide +kernel
theorem dX12_init_73 : decode cX12_init 73 = .ok (.aastore, 1) := by decide +kernel
theorem dX12_init_74 : decode cX12_init 74 = .ok (.dup, 1) := by decide +kernel
theorem dX12_init_75 : decode cX12_init 75 = .ok (.iconst 4, 1) := by decide +kernel
theorem dX12_init_76 : decode cX12_init 76 = .ok (.ldc 35, 2) := by decide +kernel
theorem dX12_init_78 : decode cX12_init 78 = .ok (.aastore, 1) := by decide +kernel
theorem dX12_init_79 : decode cX12_init 79 = .ok (.putfield 37, 3) := by decide +kernel
theorem dX12_init_82 : decode cX12_init 82 = .ok (.aload_n 0, 1) := by decide +kernel
theorem dX12_init_83 : decode cX12_init 83 = .ok (.bipush 6, 2) := by decide +kernel
theorem dX12_init_85 : decode cX12_init 85 = .ok (.anewarray 25, 3) := by decide +kernel
theorem dX12_init_88 : decode cX12_init 88 = .ok (.dup, 1) := by decide +kernel
theorem dX12_init_89 : decode cX12_init 89 = .ok (.iconst 0, 1) := by decide +kernel
theorem dX12_init_90 : decode cX12_init 90 = .ok (.ldc 41, 2) := by decide +kernel
theorem dX12_init_92 : decode cX12_init 92 = .ok (.aastore, 1) := by decide +kernel
theorem dX12_init_93 : decode cX12_init 93 = .ok (.dup, 1) := by decide +kernel
theorem dX12_init_94 : decode cX12_init 94 = .ok (.iconst 1, 1) := by decide +kernel
theorem dX12_init_95 : decode cX12_init 95 = .ok (.ldc 43, 2) := by decide +kernel
theorem dX12_init_97 : decode cX12_init 97 = .ok (.aastore, 1) := by decide +kernel
theorem dX12_init_98 : decode cX12_init 98 = .ok (.dup, 1) := by decide +kernel
theorem dX12_init_99 : decode cX12_init 99 = .ok (.iconst 2, 1) := by decide +kernel
theorem dX12_init_100 : decode cX12_init 100 = .ok (.ldc 45, 2) := by decide +kernel
theorem dX12_init_102 : decode cX12_init 102 = .ok (.aastore, 1) := by decide +kernel
theorem dX12_init_103 : decode cX12_init 103 = .ok (.dup, 1) := by decide +kernel
theorem dX12_init_104 : decode cX12_init 104 = .ok (.iconst 3, 1) := by decide +kernel
theorem dX12_init_105 : decode cX12_init 105 = .ok (.ldc 47, 2) := by decide +kernel
theorem dX12_init_107 : decode cX12_init 107 = .ok (.aastore, 1) := by decide +kernel
theorem dX12_init_108 : decode cX12_init 108 = .ok (.dup, 1) := by decide +kernel
theorem dX12_init_109 : decode cX12_init 109 = .ok (.iconst 4, 1) := by decide +kernel
theorem dX12_init_110 : decode cX12_init 110 = .ok (.ldc 49, 2) := by decide +kernel
theorem dX12_init_112 : decode cX12_init 112 = .ok (.aastore, 1) := by decide +kernel
theorem dX12_init_113 : decode cX12_init 113 = .ok (.dup, 1) := by decide +kernel
theorem dX12_init_114 : decode cX12_init 114 = .ok (.iconst 5, 1) := by decide +kernel
theorem dX12_init_115 : decode cX12_init 115 = .ok (.ldc 51, 2) := by decide +kernel
theorem dX12_init_117 : decode cX12_init 117 = .ok (.aastore, 1) := by decide +kernel
theorem dX12_init_118 : decode cX12_init 118 = .ok (.putfield 53, 3) := by decide +kernel
theorem dX12_init_121 : decode cX12_init 121 = .ok (.aload_n 0, 1) := by decide +kernel
theorem dX12_init_122 : decode cX12_init 122 = .ok (.bipush 9, 2) := by decide +kernel
theorem dX12_init_124 : decode cX12_init 124 = .ok (.newarray .int, 2) := by decide +kernel
theorem dX12_init_126 : decode cX12_init 126 = .ok (.putfield 56, 3) := by decide +kernel
theorem dX12_init_129 : decode cX12_init 129 = .ok (.aload_n 0, 1) := by decide +kernel
theorem dX12_init_130 : decode cX12_init 130 = .ok (.bipush 9, 2) := by decide +kernel
theorem dX12_init_132 : decode cX12_init 132 = .ok (.newarray .int, 2) := by decide +kernel
theorem dX12_init_134 : decode cX12_init 134 = .ok (.putfield 59, 3) := by decide +kernel
theorem dX12_init_137 : decode cX12_init 137 = .ok (.aload_n 0, 1) := by decide +kernel
theorem dX12_init_138 : decode cX12_init 138 = .ok (.bipush 9, 2) := by decide +kernel
theorem dX12_init_140 : decode cX12_init 140 = .ok (.newarray .int, 2) := by decide +kernel
theorem dX12_init_142 : decode cX12_init 142 = .ok (.putfield 62, 3) := by decide +kernel
theorem dX12_init_145 : decode cX12_init 145 = .ok (.aload_n 0, 1) := by decide +kernel
theorem dX12_init_146 : decode cX12_init 146 = .ok (.bipush 9, 2) := by decide +kernel
theorem dX12_init_148 : decode cX12_init 148 = .ok (.newarray .int, 2) := by decide +kernel
theorem dX12_init_150 : decode cX12_init 150 = .ok (.putfield 65, 3) := by decide +kernel
theorem dX12_init_153 : decode cX12_init 153 = .ok (.aload_n 0, 1) := by decide +kernel
theorem dX12_init_154 : decode cX12_init 154 = .ok (.bipush 60, 2) := by decide +kernel
theorem dX12_init_156 : decode cX12_init 156 = .ok (.newarray .int, 2) := by decide +kernel
theorem dX12_init_158 : decode cX12_init 158 = .ok (.putfield 68, 3) := by decide +kernel
theorem dX12_init_161 : decode cX12_init 161 = .ok (.aload_n 0, 1) := by decide +kernel
theorem dX12_init_162 : decode cX12_init 162 = .ok (.bipush 9, 2) := by decide +kernel
theorem dX12_init_164 : decode cX12_init 164 = .ok (.newarray .int, 2) := by decide +kernel
theorem dX12_init_166 : decode cX12_init 166 = .ok (.putfield 71, 3) := by decide +kernel
theorem dX12_init_169 : decode cX12_init 169 = .ok (.aload_n 0, 1) := by decide +kernel
theorem dX12_init_170 : decode cX12_init 170 = .ok (.bipush 27, 2) := by decide +kernel
theorem dX12_init_172 : decode cX12_init 172 = .ok (.newarray .int, 2) := by decide +kernel
theorem dX12_init_174 : decode cX12_init 174 = .ok (.putfield 74, 3) := by decide +kernel
theorem dX12_init_177 : decode cX12_init 177 = .ok (.aload_n 0, 1) := by decide +kernel
theorem dX12_init_178 : decode cX12_init 178 = .ok (.sipush 160, 3) := by decide +kernel
theorem dX12_init_181 : decode cX12_init 181 = .ok (.newarray .int, 2) := by decide +kernel
theorem dX12_init_183 : decode cX12_init 183 = .ok (.putfield 77, 3) := by decide +kernel
theorem dX12_init_186 : decode cX12_init 186 = .ok (.aload_n 0, 1) := by decide +kernel
theorem dX12_init_187 : decode cX12_init 187 = .ok (.iconst 4, 1) := by decide +kernel
theorem dX12_init_188 : decode cX12_init 188 = .ok (.newarray .int, 2) := by decide +kernel
theorem dX12_init_190 : decode cX12_init 190 = .ok (.putfield 80, 3) := by decide +kernel
theorem dX12_init_193 : decode cX12_init 193 = .ok (.aload_n 0, 1) := by decide +kernel
theorem dX12_init_194 : decode cX12_init 194 = .ok (.iconst 4, 1) := by decide +kernel
theorem dX12_init_195 : decode cX12_init 195 = .ok (.newarray .int, 2) := by decide +kernel
theorem dX12_init_197 : decode cX12_init 197 = .ok (.putfield 83, 3) := by decide +kernel
theorem dX12_init_200 : decode cX12_init 200 = .ok (.aload_n 0, 1) := by decide +kernel
theorem dX12_init_201 : decode cX12_init 201 = .ok (.iconst 4, 1) := by decide +kernel
theorem dX12_init_202 : decode cX12_init 202 = .ok (.newarray .int, 2) := by decide +kernel
theorem dX12_init_204 : decode cX12_init 204 = .ok (.putfield 86, 3) := by decide +kernel
theorem dX12_init_207 : decode cX12_init 207 = .ok (.aload_n 0, 1) := by decide +kernel
theorem dX12_init_208 : decode cX12_init 208 = .ok (.iconst 4, 1) := by decide +kernel
theorem dX12_init_209 : decode cX12_init 209 = .ok (.newarray .int, 2) := by decide +kernel
theorem dX12_init_211 : decode cX12_init 211 = .ok (.putfield 89, 3) := by decide +kernel
theorem dX12_init_214 : decode cX12_init 214 = .ok (.aload_n 0, 1) := by decide +kernel
theorem dX12_init_215 : decode cX12_init 215 = .ok (.iconst 4, 1) := by decide +kernel
theorem dX12_init_216 : decode cX12_init 216 = .ok (.newarray .int, 2) := by decide +kernel
theorem dX12_init_218 : decode cX12_init 218 = .ok (.putfield 92, 3) := by decide +kernel
theorem dX12_init_221 : decode cX12_init 221 = .ok (.aload_n 0, 1) := by decide +kernel
theorem dX12_init_222 : decode cX12_init 222 = .ok (.bipush 30, 2) := by decide +kernel
theorem dX12_init_224 : decode cX12_init 224 = .ok (.newarray .int, 2) := by decide +kernel
theorem dX12_init_226 : decode cX12_init 226 = .ok (.putfield 95, 3) := by decide +kernel
theorem dX12_init_229 : decode cX12_init 229 = .ok (.aload_n 0, 1) := by decide +kernel
theorem dX12_init_230 : decode cX12_init 230 = .ok (.getfield 9, 3) := by decide +kernel
theorem dX12_init_233 : decode cX12_init 233 = .ok (.iconst 0, 1) := by decide +kernel
theorem dX12_init_234 : decode cX12_init 234 = .ok (.iconst 1, 1) := by decide +kernel
theorem dX12_init_235 : decode cX12_init 235 = .ok (.iastore, 1) := by decide +kernel
theorem dX12_init_236 : decode cX12_init 236 = .ok (.aload_n 0, 1) := by decide +kernel
theorem dX12_init_237 : decode cX12_init 237 = .ok (.getfield 9, 3) := by decide +kernel
theorem dX12_init_240 : decode cX12_init 240 = .ok (.iconst 2, 1) := by decide +kernel
theorem dX12_init_241 : decode cX12_init 241 = .ok (.iconst 1, 1) := by decide +kernel
theorem dX12_init_242 : decode cX12_init 242 = .ok (.iastore, 1) := by decide +kernel
theorem dX12_init_243 : decode cX12_init 243 = .ok (.iconst 0, 1) := by decide +kernel
theorem dX12_init_244 : decode cX12_init 244 = .ok (.istore_n 1, 1) := by decide +kernel
theorem dX12_init_245 : decode cX12_init 245 = .ok (.iload_n 1, 1) := by decide +kernel
theorem dX12_init_246 : decode cX12_init 246 = .ok (.iconst 4, 1) := by decide +kernel
theorem dX12_init_247 : decode cX12_init 247 = .ok (.if_icmp .ge 16, 3) := by decide +kernel
theorem dX12_init_250 : decode cX12_init 250 = .ok (.aload_n 0, 1) := by decide +kernel
theorem dX12_init_251 : decode cX12_init 251 = .ok (.getfield 80, 3) := by decide +kernel
theorem dX12_init_254 : decode cX12_init 254 = .ok (.iload_n 1, 1) := by decide +kernel
theorem dX12_init_255 : decode cX12_init 255 = .ok (.iconst (-1), 1) := by decide +kernel
theorem dX12_init_256 : decode cX12_init 256 = .ok (.iastore, 1) := by decide +kernel
theorem dX12_init_257 : decode cX12_init 257 = .ok (.iinc 1 1, 3) := by decide +kernel
theorem dX12_init_260 : decode cX12_init 260 = .ok (.goto (-15), 3) := by decide +kernel
theorem dX12_init_263 : decode cX12_init 263 = .ok (.return_, 1) := by decide +kernel
def f_X12_init   (S : Sh) (R : Rw) (I : Iw) (a0 : Nat) : Option ((Sh × Rw × Iw)) := lt S.length (fun q1 => lt (S ++ [(20, 306)]) (fun S2 => lt (setA R q1 (fun _ => none)) (fun R3 => lt (setA I q1 (fun _ => 0)) (fun I4 => gp (sok S2 a0 12 34) (lt (up2 R3 a0 0 (some (.inl q1))) (fun R7 => lt S2.length (fun q8 => lt (S2 ++ [(20, 306)]) (fun S9 => lt (setA R7 q8 (fun _ => none)) (fun R10 => lt (setA I4 q8 (fun _ => 0)) (fun I11 => gp (sok S9 a0 12 34) (lt (up2 R10 a0 1 (some (.inl q8))) (fun R14 => lt S9.length (fun q15 => lt (S9 ++ [(20, 306)]) (fun S16 => lt (setA R14 q15 (fun _ => none)) (fun R17 => lt (setA I11 q15 (fun _ => 0)) (fun I18 => gp (sok S16 a0 12 34) (lt (up2 R17 a0 2 (some (.inl q15))) (fun R21 => lt S16.length (fun q22 => lt (S16 ++ [(20, 200)]) (fun S23 => lt (setA R21 q22 (fun _ => none)) (fun R24 => lt (setA I18 q22 (fun _ => 0)) (fun I25 => gp (sok S23 a0 12 34) (lt (up2 R24 a0 4 (some (.inl q22))) (fun R28 => lt S23.length (fun q29 => lt (S23 ++ [(20, 200)]) (fun S30 => lt (setA R28 q29 (fun _ => none)) (fun R31 => lt (setA I25 q29 (fun _ => 0)) (fun I32 => gp (sok S30 a0 12 34) (lt (up2 R31 a0 11 (some (.inl q29))) (fun R35 => lt S30.length (fun q36 => lt (S30 ++ [(24, 5)]) (fun S37 => lt (setA R35 q36 (fun _ => none)) (fun R38 => lt (setA I32 q36 (fun _ => 0)) (fun I39 => gp (aok S37 24 q36 (0 : Int32)) (lt (up2 R38 q36 (0 : Int32).toNatClampNeg (some (.inr 1))) (fun R42 => gp (aok S37 24 q36 (1 : Int32)) (lt (up2 R42 q36 (1 : Int32).toNatClampNeg (some (.inr 2))) (fun R44 => gp (aok S37 24 q36 (2 : Int32)) (lt (up2 R44 q36 (2 : Int32).toNatClampNeg (some (.inr 3))) (fun R46 => gp (aok S37 24 q36 (3 : Int32)) (lt (up2 R46 q36 (3 : Int32).toNatClampNeg (some (.inr 4))) (fun R48 => gp (aok S37 24 q36 (4 : Int32)) (lt (up2 R48 q36 (4 : Int32).toNatClampNeg (some (.inr 5))) (fun R50 => gp (sok S37 a0 12 34) (lt (up2 R50 a0 13 (some (.inl q36))) (fun R52 => lt S37.length (fun q53 => lt (S37 ++ [(24, 6)]) (fun S54 => lt (setA R52 q53 (fun _ => none)) (fun R55 => lt (setA I39 q53 (fun _ => 0)) (fun I56 => gp (aok S54 24 q53 (0 : Int32)) (lt (up2 R55 q53 (0 : Int32).toNatClampNeg (some (.inr 6))) (fun R59 => gp (aok S54 24 q53 (1 : Int32)) (lt (up2 R59 q53 (1 : Int32).toNatClampNeg (some (.inr 7))) (fun R61 => gp (aok S54 24 q53 (2 : Int32)) (lt (up2 R61 q53 (2 : Int32).toNatClampNeg (some (.inr 8))) (fun R63 => gp (aok S54 24 q53 (3 : Int32)) (lt (up2 R63 q53 (3 : Int32).toNatClampNeg (some (.inr 9))) (fun R65 => gp (aok S54 24 q53 (4 : Int32)) (lt (up2 R65 q53 (4 : Int32).toNatClampNeg (some (.inr 10))) (fun R67 => gp (aok S54 24 q53 (5 : Int32)) (lt (up2 R67 q53 (5 : Int32).toNatClampNeg (some (.inr 11))) (fun R69 => gp (sok S54 a0 12 34) (lt (up2 R69 a0 14 (some (.inl q53))) (fun R71 => lt S54.length (fun q72 => lt (S54 ++ [(20, 9)]) (fun S73 => lt (setA R71 q72 (fun _ => none)) (fun R74 => lt (setA I56 q72 (fun _ => 0)) (fun I75 => gp (sok S73 a0 12 34) (lt (up2 R74 a0 15 (some (.inl q72))) (fun R78 => lt S73.length (fun q79 => lt (S73 ++ [(20, 9)]) (fun S80 => lt (setA R78 q79 (fun _ => none)) (fun R81 => lt (setA I75 q79 (fun _ => 0)) (fun I82 => gp (sok S80 a0 12 34) (lt (up2 R81 a0 16 (some (.inl q79))) (fun R85 => lt S80.length (fun q86 => lt (S80 ++ [(20, 9)]) (fun S87 => lt (setA R85 q86 (fun _ => none)) (fun R88 => lt (setA I82 q86 (fun _ => 0)) (fun I89 => gp (sok S87 a0 12 34) (lt (up2 R88 a0 17 (some (.inl q86))) (fun R92 => lt S87.length (fun q93 => lt (S87 ++ [(20, 9)]) (fun S94 => lt (setA R92 q93 (fun _ => none)) (fun R95 => lt (setA I89 q93 (fun _ => 0)) (fun I96 => gp (sok S94 a0 12 34) (lt (up2 R95 a0 18 (some (.inl q93))) (fun R99 => lt S94.length (fun q100 => lt (S94 ++ [(20, 60)]) (fun S101 => lt (setA R99 q100 (fun _ => none)) (fun R102 => lt (setA I96 q100 (fun _ => 0)) (fun I103 => gp (sok S101 a0 12 34) (lt (up2 R102 a0 19 (some (.inl q100))) (fun R106 => lt S101.length (fun q107 => lt (S101 ++ [(20, 9)]) (fun S108 => lt (setA R106 q107 (fun _ => none)) (fun R109 => lt (setA I103 q107 (fun _ => 0)) (fun I110 => gp (sok S108 a0 12 34) (lt (up2 R109 a0 20 (some (.inl q107))) (fun R113 => lt S108.length (fun q114 => lt (S108 ++ [(20, 27)]) (fun S115 => lt (setA R113 q114 (fun _ => none)) (fun R116 => lt (setA I110 q114 (fun _ => 0)) (fun I117 => gp (sok S115 a0 12 34) (lt (up2 R116 a0 22 (some (.inl q114))) (fun R120 => lt S115.length (fun q121 => lt (S115 ++ [(20, 160)]) (fun S122 => lt (setA R120 q121 (fun _ => none)) (fun R123 => lt (setA I117 q121 (fun _ => 0)) (fun I124 => gp (sok S122 a0 12 34) (lt (up2 R123 a0 24 (some (.inl q121))) (fun R127 => lt S122.length (fun q128 => lt (S122 ++ [(20, 4)]) (fun S129 => lt (setA R127 q128 (fun _ => none)) (fun R130 => lt (setA I124 q128 (fun _ => 0)) (fun I131 => gp (sok S129 a0 12 34) (lt (up2 R130 a0 25 (some (.inl q128))) (fun R134 => lt S129.length (fun q135 => lt (S129 ++ [(20, 4)]) (fun S136 => lt (setA R134 q135 (fun _ => none)) (fun R137 => lt (setA I131 q135 (fun _ => 0)) (fun I138 => gp (sok S136 a0 12 34) (lt (up2 R137 a0 26 (some (.inl q135))) (fun R141 => lt S136.length (fun q142 => lt (S136 ++ [(20, 4)]) (fun S143 => lt (setA R141 q142 (fun _ => none)) (fun R144 => lt (setA I138 q142 (fun _ => 0)) (fun I145 => gp (sok S143 a0 12 34) (lt (up2 R144 a0 27 (some (.inl q142))) (fun R148 => lt S143.length (fun q149 => lt (S143 ++ [(20, 4)]) (fun S150 => lt (setA R148 q149 (fun _ => none)) (fun R151 => lt (setA I145 q149 (fun _ => 0)) (fun I152 => gp (sok S150 a0 12 34) (lt (up2 R151 a0 28 (some (.inl q149))) (fun R155 => lt S150.length (fun q156 => lt (S150 ++ [(20, 4)]) (fun S157 => lt (setA R155 q156 (fun _ => none)) (fun R158 => lt (setA I152 q156 (fun _ => 0)) (fun I159 => gp (sok S157 a0 12 34) (lt (up2 R158 a0 29 (some (.inl q156))) (fun R162 => lt S157.length (fun q163 => lt (S157 ++ [(20, 30)]) (fun S164 => lt (setA R162 q163 (fun _ => none)) (fun R165 => lt (setA I159 q163 (fun _ => 0)) (fun I166 => gp (sok S164 a0 12 34) (lt (up2 R165 a0 30 (some (.inl q163))) (fun R169 => rl (R169 a0 0) (fun b170 => gp (aok S164 20 b170 (0 : Int32)) (lt (up2 I166 b170 (0 : Int32).toNatClampNeg (1 : Int32)) (fun I172 => rl (R169 a0 0) (fun b173 => gp (aok S164 20 b173 (2 : Int32)) (lt (up2 I172 b173 (2 : Int32).toNatClampNeg (1 : Int32)) (fun I175 => rl (R169 a0 25) (fun b177 => gp (aok S164 20 b177 (0 : Int32)) (lt (up2 I175 b177 (0 : Int32).toNatClampNeg (-1 : Int32)) (fun I179 => rl (R169 a0 25) (fun b181 => gp (aok S164 20 b181 (1 : Int32)) (lt (up2 I179 b181 (1 : Int32).toNatClampNeg (-1 : Int32)) (fun I183 => rl (R169 a0 25) (fun b185 => gp (aok S164 20 b185 (2 : Int32)) (lt (up2 I183 b185 (2 : Int32).toNatClampNeg (-1 : Int32)) (fun I187 => rl (R169 a0 25) (fun b189 => gp (aok S164 20 b189 (3 : Int32)) (lt (up2 I187 b189 (3 : Int32).toNatClampNeg (-1 : Int32)) (fun I191 => some (S164, R169, I191)))))))))))))))))))))))))))))))))))))))))))))))))))))))))))))))))))))))))))))))))))))))))))))))))))))))))))))))))))))))))))))))))))))))))))))))))))))))))))))))))))))))
set_option maxHeartbeats 4000000 in
theorem b_X12_init {E : Ev} {p : Program} {l : Launch} {e : Env} {s : State} {m : MethodId} {args : Array Value} {below : List Frame} {meth : Method} {c : Code} (C : Cx E RX12 cX12_init 2 p s m c) (hr : meth.sig.returnType = none) (hk : meth.locks = false) (hin : meth.name = "<init>") {r : (Sh × Rw × Iw)}  : ∀ (S : Sh) (R : Rw) (I : Iw) (a0 : Nat), f_X12_init    S R I a0 = some r → Wk E 2 p l e ({ frames := 1, cells := 21, slots := 1671, locals := 20 } : Room) s m args below meth c 0 0 (MQ below (Qw E r.1 r.2.1 r.2.2 none) args s 21 1671 (fun q => E.1 ≤ q)) 0 [(0, .ref (E.1 + a0))] [] S R I := by
  intro S R I a0 h
  rw [f_X12_init] at h
  refine k_aloadn (pc := 0) C dX12_init_0 (i := 0) rfl 0 rfl ?_
  refine k_objInit (pc := 1) C (t5_in 67 (by decide +kernel) rfl) (t1_in 27 (by decide +kernel) rfl) (t1_in 28 (by decide +kernel) rfl) (Nat.le_of_ble_eq_true rfl) (Nat.le_of_ble_eq_true rfl) (Nat.le_of_ble_eq_true rfl) dX12_init_1 ?_
  refine k_aloadn (pc := 4) C dX12_init_4 (i := 0) rfl 0 rfl ?_
  refine k_sipush (pc := 5) C (v := (306 : Int32)) dX12_init_5 (by decide) ?_
  obtain ⟨q1, eq1, h⟩ := lt_e h
  obtain ⟨S2, eS2, h⟩ := lt_e h
  obtain ⟨R3, eR3, h⟩ := lt_e h
  obtain ⟨I4, eI4, h⟩ := lt_e h
  refine k_newa (pc := 8) C (t := 20) (N := 306) rfl (by decide) (t1_in 68 (by decide +kernel) rfl) (by decide) (by decide) (by decide) (Nat.le_of_ble_eq_true rfl) (Nat.le_of_ble_eq_true rfl) dX12_init_8 ?_
  rw [← eq1, ← eS2, ← eR3, ← eI4]
  refine k_nf (cells2 := 1) (slots2 := 306) (st2 := [.ref (E.1 + q1), .ref (E.1 + a0)]) rfl rfl rfl ?_
  obtain ⟨hs60, h⟩ := gp_e h
  have hs6 := sok_e hs60
  obtain ⟨R7, eR7, h⟩ := lt_e h
  refine k_putFR (pc := 10) C hin lkQ_RX12_9_12 hs6 ir_12_0 (fun _ => ⟨rfl, rfl⟩) dX12_init_10 ?_
  rw [← eR7]
  refine k_aloadn (pc := 13) C dX12_init_13 (i := 0) rfl 0 rfl ?_
  refine k_sipush (pc := 14) C (v := (306 : Int32)) dX12_init_14 (by decide) ?_
  obtain ⟨q8, eq8, h⟩ := lt_e h
  obtain ⟨S9, eS9, h⟩ := lt_e h
  obtain ⟨R10, eR10, h⟩ := lt_e h
  obtain ⟨I11, eI11, h⟩ := lt_e h
  refine k_newa (pc := 17) C (t := 20) (N := 306) rfl (by decide) (t1_in 68 (by decide +kernel) rfl) (by decide) (by decide) (by decide) (Nat.le_of_ble_eq_true rfl) (Nat.le_of_ble_eq_true rfl) dX12_init_17 ?_
  rw [← eq8, ← eS9, ← eR10, ← eI11]
  refine k_nf (cells2 := 2) (slots2 := 612) (st2 := [.ref (E.1 + q8), .ref (E.1 + a0)]) rfl rfl rfl ?_
  obtain ⟨hs130, h⟩ := gp_e h
  have hs13 := sok_e hs130
  obtain ⟨R14, eR14, h⟩ := lt_e h
  refine k_putFR (pc := 19) C hin lkQ_RX12_13_12 hs13 ir_12_1 (fun _ => ⟨rfl, rfl⟩) dX12_init_19 ?_
  rw [← eR14]
  refine k_aloadn (pc := 22) C dX12_init_22 (i := 0) rfl 0 rfl ?_
  refine k_sipush (pc := 23) C (v := (306 : Int32)) dX12_init_23 (by decide) ?_
  obtain ⟨q15, eq15, h⟩ := lt_e h
  obtain ⟨S16, eS16, h⟩ := lt_e h
  obtain ⟨R17, eR17, h⟩ := lt_e h
  obtain ⟨I18, eI18, h⟩ := lt_e h
  refine k_newa (pc := 26) C (t := 20) (N := 306) rfl (by decide) (t1_in 68 (by decide +kernel) rfl) (by decide) (by decide) (by decide) (Nat.le_of_ble_eq_true rfl) (Nat.le_of_ble_eq_true rfl) dX12_init_26 ?_
  rw [← eq15, ← eS16, ← eR17, ← eI18]
  refine k_nf (cells2 := 3) (slots2 := 918) (st2 := [.ref (E.1 + q15), .ref (E.1 + a0)]) rfl rfl rfl ?_
  obtain ⟨hs200, h⟩ := gp_e h
  have hs20 := sok_e hs200
  obtain ⟨R21, eR21, h⟩ := lt_e h
  refine k_putFR (pc := 28) C hin lkQ_RX12_16_12 hs20 ir_12_2 (fun _ => ⟨rfl, rfl⟩) dX12_init_28 ?_
  rw [← eR21]
  refine k_aloadn (pc := 31) C dX12_init_31 (i := 0) rfl 0 rfl ?_
  refine k_sipush (pc := 32) C (v := (200 : Int32)) dX12_init_32 (by decide) ?_
  obtain ⟨q22, eq22, h⟩ := lt_e h
  obtain ⟨S23, eS23, h⟩ := lt_e h
  obtain ⟨R24, eR24, h⟩ := lt_e h
  obtain ⟨I25, eI25, h⟩ := lt_e h
  refine k_newa (pc := 35) C (t := 20) (N := 200) rfl (by decide) (t1_in 68 (by decide +kernel) rfl) (by decide) (by decide) (by decide) (Nat.le_of_ble_eq_true rfl) (Nat.le_of_ble_eq_true rfl) dX12_init_35 ?_
  rw [← eq22, ← eS23, ← eR24, ← eI25]
  refine k_nf (cells2 := 4) (slots2 := 1118) (st2 := [.ref (E.1 + q22), .ref (E.1 + a0)]) rfl rfl rfl ?_
  obtain ⟨hs270, h⟩ := gp_e h
  have hs27 := sok_e hs270
  obtain ⟨R28, eR28, h⟩ := lt_e h
  refine k_putFR (pc := 37) C hin lkQ_RX12_19_12 hs27 ir_12_4 (fun _ => ⟨rfl, rfl⟩) dX12_init_37 ?_
  rw [← eR28]
  refine k_aloadn (pc := 40) C dX12_init_40 (i := 0) rfl 0 rfl ?_
  refine k_sipush (pc := 41) C (v := (200 : Int32)) dX12_init_41 (by decide) ?_
  obtain ⟨q29, eq29, h⟩ := lt_e h
  obtain ⟨S30, eS30, h⟩ := lt_e h
  obtain ⟨R31, eR31, h⟩ := lt_e h
  obtain ⟨I32, eI32, h⟩ := lt_e h
  refine k_newa (pc := 44) C (t := 20) (N := 200) rfl (by decide) (t1_in 68 (by decide +kernel) rfl) (by decide) (by decide) (by decide) (Nat.le_of_ble_eq_true rfl) (Nat.le_of_ble_eq_true rfl) dX12_init_44 ?_
  rw [← eq29, ← eS30, ← eR31, ← eI32]
  refine k_nf (cells2 := 5) (slots2 := 1318) (st2 := [.ref (E.1 + q29), .ref (E.1 + a0)]) rfl rfl rfl ?_
  obtain ⟨hs340, h⟩ := gp_e h
  have hs34 := sok_e hs340
  obtain ⟨R35, eR35, h⟩ := lt_e h
  refine k_putFR (pc := 46) C hin lkQ_RX12_22_12 hs34 ir_12_11 (fun _ => ⟨rfl, rfl⟩) dX12_init_46 ?_
  rw [← eR35]
  refine k_aloadn (pc := 49) C dX12_init_49 (i := 0) rfl 0 rfl ?_
  refine k_iconst (pc := 50) C (v := (5 : Int32)) dX12_init_50 (by decide) ?_
  obtain ⟨q36, eq36, h⟩ := lt_e h
  obtain ⟨S37, eS37, h⟩ := lt_e h
  obtain ⟨R38, eR38, h⟩ := lt_e h
  obtain ⟨I39, eI39, h⟩ := lt_e h
  refine k_newq (pc := 51) C (t := 24) (N := 5) rfl (by decide) (t5_in 68 (by decide +kernel) rfl) (by decide) (by decide) (by decide) (Nat.le_of_ble_eq_true rfl) (Nat.le_of_ble_eq_true rfl) dX12_init_51 ?_
  rw [← eq36, ← eS37, ← eR38, ← eI39]
  refine k_nf (cells2 := 6) (slots2 := 1323) (st2 := [.ref (E.1 + q36), .ref (E.1 + a0)]) rfl rfl rfl ?_
  refine k_dup (pc := 54) C dX12_init_54 rfl ?_
  refine k_iconst (pc := 55) C (v := (0 : Int32)) dX12_init_55 (by decide) ?_
  refine k_ldcS (pc := 56) C (i := 1) rfl dX12_init_56 ?_
  obtain ⟨ha41, h⟩ := gp_e h
  obtain ⟨R42, eR42, h⟩ := lt_e h
  refine k_aastS (pc := 58) C ha41 (by decide) dX12_init_58 ?_
  rw [← eR42]
  refine k_dup (pc := 59) C dX12_init_59 rfl ?_
  refine k_iconst (pc := 60) C (v := (1 : Int32)) dX12_init_60 (by decide) ?_
  refine k_ldcS (pc := 61) C (i := 2) rfl dX12_init_61 ?_
  obtain ⟨ha43, h⟩ := gp_e h
  obtain ⟨R44, eR44, h⟩ := lt_e h
  refine k_aastS (pc := 63) C ha43 (by decide) dX12_init_63 ?_
  rw [← eR44]
  refine k_dup (pc := 64) C dX12_init_64 rfl ?_
  refine k_iconst (pc := 65) C (v := (2 : Int32)) dX12_init_65 (by decide) ?_
  refine k_ldcS (pc := 66) C (i := 3) rfl dX12_init_66 ?_
  obtain ⟨ha45, h⟩ := gp_e h
  obtain ⟨R46, eR46, h⟩ := lt_e h
  refine k_aastS (pc := 68) C ha45 (by decide) dX12_init_68 ?_
  rw [← eR46]
  refine k_dup (pc := 69) C dX12_init_69 rfl ?_
  refine k_iconst (pc := 70) C (v := (3 : Int32)) dX12_init_70 (by decide) ?_
  refine k_ldcS (pc := 71) C (i := 4) rfl dX12_init_71 ?_
  obtain ⟨ha47, h⟩ := gp_e h
  obtain ⟨R48, eR48, h⟩ := lt_e h
  refine k_aastS (pc := 73) C ha47 (by decide) dX12_init_73 ?_
  rw [← eR48]
  refine k_dup (pc := 74) C dX12_init_74 rfl ?_
  refine k_iconst (pc := 75) C (v := (4 : Int32)) dX12_init_75 (by decide) ?_
  refine k_ldcS (pc := 76) C (i := 5) rfl dX12_init_76 ?_
  obtain ⟨ha49, h⟩ := gp_e h
  obtain ⟨R50, eR50, h⟩ := lt_e h
  refine k_aastS (pc := 78) C ha49 (by decide) dX12_init_78 ?_
  rw [← eR50]
  obtain ⟨hs510, h⟩ := gp_e h
  have hs51 := sok_e hs510
  obtain ⟨R52, eR52, h⟩ := lt_e h
  refine k_putFR (pc := 79) C hin lkQ_RX12_37_12 hs51 ir_12_13 (fun _ => ⟨rfl, rfl⟩) dX12_init_79 ?_
  rw [← eR52]
  refine k_aloadn (pc := 82) C dX12_init_82 (i := 0) rfl 0 rfl ?_
  refine k_bipush (pc := 83) C (v := (6 : Int32)) dX12_init_83 (by decide) ?_
  obtain ⟨q53, eq53, h⟩ := lt_e h
  obtain ⟨S54, eS54, h⟩ := lt_e h
  obtain ⟨R55, eR55, h⟩ := lt_e h
  obtain ⟨I56, eI56, h⟩ := lt_e h
  refine k_newq (pc := 85) C (t := 24) (N := 6) rfl (by decide) (t5_in 68 (by decide +kernel) rfl) (by decide) (by decide) (by decide) (Nat.le_of_ble_eq_true rfl) (Nat.le_of_ble_eq_true rfl) dX12_init_85 ?_
  rw [← eq53, ← eS54, ← eR55, ← eI56]
  refine k_nf (cells2 := 7) (slots2 := 1329) (st2 := [.ref (E.1 + q53), .ref (E.1 + a0)]) rfl rfl rfl ?_
  refine k_dup (pc := 88) C dX12_init_88 rfl ?_
  refine k_iconst (pc := 89) C (v := (0 : Int32)) dX12_init_89 (by decide) ?_
  refine k_ldcS (pc := 90) C (i := 6) rfl dX12_init_90 ?_
  obtain ⟨ha58, h⟩ := gp_e h
  obtain ⟨R59, eR59, h⟩ := lt_e h
  refine k_aastS (pc := 92) C ha58 (by decide) dX12_init_92 ?_
  rw [← eR59]
  refine k_dup (pc := 93) C dX12_init_93 rfl ?_
  refine k_iconst (pc := 94) C (v := (1 : Int32)) dX12_init_94 (by decide) ?_
  refine k_ldcS (pc := 95) C (i := 7) rfl dX12_init_95 ?_
  obtain ⟨ha60, h⟩ := gp_e h
  obtain ⟨R61, eR61, h⟩ := lt_e h
  refine k_aastS (pc := 97) C ha60 (by decide) dX12_init_97 ?_
  rw [← eR61]
  refine k_dup (pc := 98) C dX12_init_98 rfl ?_
  refine k_iconst (pc := 99) C (v := (2 : Int32)) dX12_init_99 (by decide) ?_
  refine k_ldcS (pc := 100) C (i := 8) rfl dX12_init_100 ?_
  obtain ⟨ha62, h⟩ := gp_e h
  obtain ⟨R63, eR63, h⟩ := lt_e h
  refine k_aastS (pc := 102) C ha62 (by decide) dX12_init_102 ?_
  rw [← eR63]
  refine k_dup (pc := 103) C dX12_init_103 rfl ?_
  refine k_iconst (pc := 104) C (v := (3 : Int32)) dX12_init_104 (by decide) ?_
  refine k_ldcS (pc := 105) C (i := 9) rfl dX12_init_105 ?_
  obtain ⟨ha64, h⟩ := gp_e h
  obtain ⟨R65, eR65, h⟩ := lt_e h
  refine k_aastS (pc := 107) C ha64 (by decide) dX12_init_107 ?_
  rw [← eR65]
  refine k_dup (pc := 108) C dX12_init_108 rfl ?_
  refine k_iconst (pc := 109) C (v := (4 : Int32)) dX12_init_109 (by decide) ?_
  refine k_ldcS (pc := 110) C (i := 10) rfl dX12_init_110 ?_
  obtain ⟨ha66, h⟩ := gp_e h
  obtain ⟨R67, eR67, h⟩ := lt_e h
  refine k_aastS (pc := 112) C ha66 (by decide) dX12_init_112 ?_
  rw [← eR67]
  refine k_dup (pc := 113) C dX12_init_113 rfl ?_
  refine k_iconst (pc := 114) C (v := (5 : Int32)) dX12_init_114 (by decide) ?_
  refine k_ldcS (pc := 115) C (i := 11) rfl dX12_init_115 ?_
  obtain ⟨ha68, h⟩ := gp_e h
  obtain ⟨R69, eR69, h⟩ := lt_e h
  refine k_aastS (pc := 117) C ha68 (by decide) dX12_init_117 ?_
  rw [← eR69]
  obtain ⟨hs700, h⟩ := gp_e h
  have hs70 := sok_e hs700
  obtain ⟨R71, eR71, h⟩ := lt_e h
  refine k_putFR (pc := 118) C hin lkQ_RX12_53_12 hs70 ir_12_14 (fun _ => ⟨rfl, rfl⟩) dX12_init_118 ?_
  rw [← eR71]
  refine k_aloadn (pc := 121) C dX12_init_121 (i := 0) rfl 0 rfl ?_
  refine k_bipush (pc := 122) C (v := (9 : Int32)) dX12_init_122 (by decide) ?_
  obtain ⟨q72, eq72, h⟩ := lt_e h
  obtain ⟨S73, eS73, h⟩ := lt_e h
  obtain ⟨R74, eR74, h⟩ := lt_e h
  obtain ⟨I75, eI75, h⟩ := lt_e h
  refine k_newa (pc := 124) C (t := 20) (N := 9) rfl (by decide) (t1_in 68 (by decide +kernel) rfl) (by decide) (by decide) (by decide) (Nat.le_of_ble_eq_true rfl) (Nat.le_of_ble_eq_true rfl) dX12_init_124 ?_
  rw [← eq72, ← eS73, ← eR74, ← eI75]
  refine k_nf (cells2 := 8) (slots2 := 1338) (st2 := [.ref (E.1 + q72), .ref (E.1 + a0)]) rfl rfl rfl ?_
  obtain ⟨hs770, h⟩ := gp_e h
  have hs77 := sok_e hs770
  obtain ⟨R78, eR78, h⟩ := lt_e h
  refine k_putFR (pc := 126) C hin lkQ_RX12_56_12 hs77 ir_12_15 (fun _ => ⟨rfl, rfl⟩) dX12_init_126 ?_
  rw [← eR78]
  refine k_aloadn (pc := 129) C dX12_init_129 (i := 0) rfl 0 rfl ?_
  refine k_bipush (pc := 130) C (v := (9 : Int32)) dX12_init_130 (by decide) ?_
  obtain ⟨q79, eq79, h⟩ := lt_e h
  obtain ⟨S80, eS80, h⟩ := lt_e h
  obtain ⟨R81, eR81, h⟩ := lt_e h
  obtain ⟨I82, eI82, h⟩ := lt_e h
  refine k_newa (pc := 132) C (t := 20) (N := 9) rfl (by decide) (t1_in 68 (by decide +kernel) rfl) (by decide) (by decide) (by decide) (Nat.le_of_ble_eq_true rfl) (Nat.le_of_ble_eq_true rfl) dX12_init_132 ?_
  rw [← eq79, ← eS80, ← eR81, ← eI82]
  refine k_nf (cells2 := 9) (slots2 := 1347) (st2 := [.ref (E.1 + q79), .ref (E.1 + a0)]) rfl rfl rfl ?_
  obtain ⟨hs840, h⟩ := gp_e h
  have hs84 := sok_e hs840
  obtain ⟨R85, eR85, h⟩ := lt_e h
  refine k_putFR (pc := 134) C hin lkQ_RX12_59_12 hs84 ir_12_16 (fun _ => ⟨rfl, rfl⟩) dX12_init_134 ?_
  rw [← eR85]
  refine k_aloadn (pc := 137) C dX12_init_137 (i := 0) rfl 0 rfl ?_
  refine k_bipush (pc := 138) C (v := (9 : Int32)) dX12_init_138 (by decide) ?_
  obtain ⟨q86, eq86, h⟩ := lt_e h
  obtain ⟨S87, eS87, h⟩ := lt_e h
  obtain ⟨R88, eR88, h⟩ := lt_e h
  obtain ⟨I89, eI89, h⟩ := lt_e h
  refine k_newa (pc := 140) C (t := 20) (N := 9) rfl (by decide) (t1_in 68 (by decide +kernel) rfl) (by decide) (by decide) (by decide) (Nat.le_of_ble_eq_true rfl) (Nat.le_of_ble_eq_true rfl) dX12_init_140 ?_
  rw [← eq86, ← eS87, ← eR88, ← eI89]
  refine k_nf (cells2 := 10) (slots2 := 1356) (st2 := [.ref (E.1 + q86), .ref (E.1 + a0)]) rfl rfl rfl ?_
  obtain ⟨hs910, h⟩ := gp_e h
  have hs91 := sok_e hs910
  obtain ⟨R92, eR92, h⟩ := lt_e h
  refine k_putFR (pc := 142) C hin lkQ_RX12_62_12 hs91 ir_12_17 (fun _ => ⟨rfl, rfl⟩) dX12_init_142 ?_
  rw [← eR92]
  refine k_aloadn (pc := 145) C dX12_init_145 (i := 0) rfl 0 rfl ?_
  refine k_bipush (pc := 146) C (v := (9 : Int32)) dX12_init_146 (by decide) ?_
  obtain ⟨q93, eq93, h⟩ := lt_e h
  obtain ⟨S94, eS94, h⟩ := lt_e h
  obtain ⟨R95, eR95, h⟩ := lt_e h
  obtain ⟨I96, eI96, h⟩ := lt_e h
  refine k_newa (pc := 148) C (t := 20) (N := 9) rfl (by decide) (t1_in 68 (by decide +kernel) rfl) (by decide) (by decide) (by decide) (Nat.le_of_ble_eq_true rfl) (Nat.le_of_ble_eq_true rfl) dX12_init_148 ?_
  rw [← eq93, ← eS94, ← eR95, ← eI96]
  refine k_nf (cells2 := 11) (slots2 := 1365) (st2 := [.ref (E.1 + q93), .ref (E.1 + a0)]) rfl rfl rfl ?_
  obtain ⟨hs980, h⟩ := gp_e h
  have hs98 := sok_e hs980
  obtain ⟨R99, eR99, h⟩ := lt_e h
  refine k_putFR (pc := 150) C hin lkQ_RX12_65_12 hs98 ir_12_18 (fun _ => ⟨rfl, rfl⟩) dX12_init_150 ?_
  rw [← eR99]
  refine k_aloadn (pc := 153) C dX12_init_153 (i := 0) rfl 0 rfl ?_
  refine k_bipush (pc := 154) C (v := (60 : Int32)) dX12_init_154 (by decide) ?_
  obtain ⟨q100, eq100, h⟩ := lt_e h
  obtain ⟨S101, eS101, h⟩ := lt_e h
  obtain ⟨R102, eR102, h⟩ := lt_e h
  obtain ⟨I103, eI103, h⟩ := lt_e h
  refine k_newa (pc := 156) C (t := 20) (N := 60) rfl (by decide) (t1_in 68 (by decide +kernel) rfl) (by decide) (by decide) (by decide) (Nat.le_of_ble_eq_true rfl) (Nat.le_of_ble_eq_true rfl) dX12_init_156 ?_
  rw [← eq100, ← eS101, ← eR102, ← eI103]
  refine k_nf (cells2 := 12) (slots2 := 1425) (st2 := [.ref (E.1 + q100), .ref (E.1 + a0)]) rfl rfl rfl ?_
  obtain ⟨hs1050, h⟩ := gp_e h
  have hs105 := sok_e hs1050
  obtain ⟨R106, eR106, h⟩ := lt_e h
  refine k_putFR (pc := 158) C hin lkQ_RX12_68_12 hs105 ir_12_19 (fun _ => ⟨rfl, rfl⟩) dX12_init_158 ?_
  rw [← eR106]
  refine k_aloadn (pc := 161) C dX12_init_161 (i := 0) rfl 0 rfl ?_
  refine k_bipush (pc := 162) C (v := (9 : Int32)) dX12_init_162 (by decide) ?_
  obtain ⟨q107, eq107, h⟩ := lt_e h
  obtain ⟨S108, eS108, h⟩ := lt_e h
  obtain ⟨R109, eR109, h⟩ := lt_e h
  obtain ⟨I110, eI110, h⟩ := lt_e h
  refine k_newa (pc := 164) C (t := 20) (N := 9) rfl (by decide) (t1_in 68 (by decide +kernel) rfl) (by decide) (by decide) (by decide) (Nat.le_of_ble_eq_true rfl) (Nat.le_of_ble_eq_true rfl) dX12_init_164 ?_
  rw [← eq107, ← eS108, ← eR109, ← eI110]
  refine k_nf (cells2 := 13) (slots2 := 1434) (st2 := [.ref (E.1 + q107), .ref (E.1 + a0)]) rfl rfl rfl ?_
  obtain ⟨hs1120, h⟩ := gp_e h
  have hs112 := sok_e hs1120
  obtain ⟨R113, eR113, h⟩ := lt_e h
  refine k_putFR (pc := 166) C hin lkQ_RX12_71_12 hs112 ir_12_20 (fun _ => ⟨rfl, rfl⟩) dX12_init_166 ?_
  rw [← eR113]
  refine k_aloadn (pc := 169) C dX12_init_169 (i := 0) rfl 0 rfl ?_
  refine k_bipush (pc := 170) C (v := (27 : Int32)) dX12_init_170 (by decide) ?_
  obtain ⟨q114, eq114, h⟩ := lt_e h
  obtain ⟨S115, eS115, h⟩ := lt_e h
  obtain ⟨R116, eR116, h⟩ := lt_e h
  obtain ⟨I117, eI117, h⟩ := lt_e h
  refine k_newa (pc := 172) C (t := 20) (N := 27) rfl (by decide) (t1_in 68 (by decide +kernel) rfl) (by decide) (by decide) (by decide) (Nat.le_of_ble_eq_true rfl) (Nat.le_of_ble_eq_true rfl) dX12_init_172 ?_
  rw [← eq114, ← eS115, ← eR116, ← eI117]
  refine k_nf (cells2 := 14) (slots2 := 1461) (st2 := [.ref (E.1 + q114), .ref (E.1 + a0)]) rfl rfl rfl ?_
  obtain ⟨hs1190, h⟩ := gp_e h
  have hs119 := sok_e hs1190
  obtain ⟨R120, eR120, h⟩ := lt_e h
  refine k_putFR (pc := 174) C hin lkQ_RX12_74_12 hs119 ir_12_22 (fun _ => ⟨rfl, rfl⟩) dX12_init_174 ?_
  rw [← eR120]
  refine k_aloadn (pc := 177) C dX12_init_177 (i := 0) rfl 0 rfl ?_
  refine k_sipush (pc := 178) C (v := (160 : Int32)) dX12_init_178 (by decide) ?_
  obtain ⟨q121, eq121, h⟩ := lt_e h
  obtain ⟨S122, eS122, h⟩ := lt_e h
  obtain ⟨R123, eR123, h⟩ := lt_e h
  obtain ⟨I124, eI124, h⟩ := lt_e h
  refine k_newa (pc := 181) C (t := 20) (N := 160) rfl (by decide) (t1_in 68 (by decide +kernel) rfl) (by decide) (by decide) (by decide) (Nat.le_of_ble_eq_true rfl) (Nat.le_of_ble_eq_true rfl) dX12_init_181 ?_
  rw [← eq121, ← eS122, ← eR123, ← eI124]
  refine k_nf (cells2 := 15) (slots2 := 1621) (st2 := [.ref (E.1 + q121), .ref (E.1 + a0)]) rfl rfl rfl ?_
  obtain ⟨hs1260, h⟩ := gp_e h
  have hs126 := sok_e hs1260
  obtain ⟨R127, eR127, h⟩ := lt_e h
  refine k_putFR (pc := 183) C hin lkQ_RX12_77_12 hs126 ir_12_24 (fun _ => ⟨rfl, rfl⟩) dX12_init_183 ?_
  rw [← eR127]
  refine k_aloadn (pc := 186) C dX12_init_186 (i := 0) rfl 0 rfl ?_
  refine k_iconst (pc := 187) C (v := (4 : Int32)) dX12_init_187 (by decide) ?_
  obtain ⟨q128, eq128, h⟩ := lt_e h
  obtain ⟨S129, eS129, h⟩ := lt_e h
  obtain ⟨R130, eR130, h⟩ := lt_e h
  obtain ⟨I131, eI131, h⟩ := lt_e h
  refine k_newa (pc := 188) C (t := 20) (N := 4) rfl (by decide) (t1_in 68 (by decide +kernel) rfl) (by decide) (by decide) (by decide) (Nat.le_of_ble_eq_true rfl) (Nat.le_of_ble_eq_true rfl) dX12_init_188 ?_
  rw [← eq128, ← eS129, ← eR130, ← eI131]
  refine k_nf (cells2 := 16) (slots2 := 1625) (st2 := [.ref (E.1 + q128), .ref (E.1 + a0)]) rfl rfl rfl ?_
  obtain ⟨hs1330, h⟩ := gp_e h
  have hs133 := sok_e hs1330
  obtain ⟨R134, eR134, h⟩ := lt_e h
  refine k_putFR (pc := 190) C hin lkQ_RX12_80_12 hs133 ir_12_25 (fun _ => ⟨rfl, rfl⟩) dX12_init_190 ?_
  rw [← eR134]
  refine k_aloadn (pc := 193) C dX12_init_193 (i := 0) rfl 0 rfl ?_
  refine k_iconst (pc := 194) C (v := (4 : Int32)) dX12_init_194 (by decide) ?_
  obtain ⟨q135, eq135, h⟩ := lt_e h
  obtain ⟨S136, eS136, h⟩ := lt_e h
  obtain ⟨R137, eR137, h⟩ := lt_e h
  obtain ⟨I138, eI138, h⟩ := lt_e h
  refine k_newa (pc := 195) C (t := 20) (N := 4) rfl (by decide) (t1_in 68 (by decide +kernel) rfl) (by decide) (by decide) (by decide) (Nat.le_of_ble_eq_true rfl) (Nat.le_of_ble_eq_true rfl) dX12_init_195 ?_
  rw [← eq135, ← eS136, ← eR137, ← eI138]
  refine k_nf (cells2 := 17) (slots2 := 1629) (st2 := [.ref (E.1 + q135), .ref (E.1 + a0)]) rfl rfl rfl ?_
  obtain ⟨hs1400, h⟩ := gp_e h
  have hs140 := sok_e hs1400
  obtain ⟨R141, eR141, h⟩ := lt_e h
  refine k_putFR (pc := 197) C hin lkQ_RX12_83_12 hs140 ir_12_26 (fun _ => ⟨rfl, rfl⟩) dX12_init_197 ?_
  rw [← eR141]
  refine k_aloadn (pc := 200) C dX12_init_200 (i := 0) rfl 0 rfl ?_
  refine k_iconst (pc := 201) C (v := (4 : Int32)) dX12_init_201 (by decide) ?_
  obtain ⟨q142, eq142, h⟩ := lt_e h
  obtain ⟨S143, eS143, h⟩ := lt_e h
  obtain ⟨R144, eR144, h⟩ := lt_e h
  obtain ⟨I145, eI145, h⟩ := lt_e h
  refine k_newa (pc := 202) C (t := 20) (N := 4) rfl (by decide) (t1_in 68 (by decide +kernel) rfl) (by decide) (by decide) (by decide) (Nat.le_of_ble_eq_true rfl) (Nat.le_of_ble_eq_true rfl) dX12_init_202 ?_
  rw [← eq142, ← eS143, ← eR144, ← eI145]
  refine k_nf (cells2 := 18) (slots2 := 1633) (st2 := [.ref (E.1 + q142), .ref (E.1 + a0)]) rfl rfl rfl ?_
  obtain ⟨hs1470, h⟩ := gp_e h
  have hs147 := sok_e hs1470
  obtain ⟨R148, eR148, h⟩ := lt_e h
  refine k_putFR (pc := 204) C hin lkQ_RX12_86_12 hs147 ir_12_27 (fun _ => ⟨rfl, rfl⟩) dX12_init_204 ?_
  rw [← eR148]
  refine k_aloadn (pc := 207) C dX12_init_207 (i := 0) rfl 0 rfl ?_
  refine k_iconst (pc := 208) C (v := (4 : Int32)) dX12_init_208 (by decide) ?_
  obtain ⟨q149, eq149, h⟩ := lt_e h
  obtain ⟨S150, eS150, h⟩ := lt_e h
  obtain ⟨R151, eR151, h⟩ := lt_e h
  obtain ⟨I152, eI152, h⟩ := lt_e h
  refine k_newa (pc := 209) C (t := 20) (N := 4) rfl (by decide) (t1_in 68 (by decide +kernel) rfl) (by decide) (by decide) (by decide) (Nat.le_of_ble_eq_true rfl) (Nat.le_of_ble_eq_true rfl) dX12_init_209 ?_
  rw [← eq149, ← eS150, ← eR151, ← eI152]
  refine k_nf (cells2 := 19) (slots2 := 1637) (st2 := [.ref (E.1 + q149), .ref (E.1 + a0)]) rfl rfl rfl ?_
  obtain ⟨hs1540, h⟩ := gp_e h
  have hs154 := sok_e hs1540
  obtain ⟨R155, eR155, h⟩ := lt_e h
  refine k_putFR (pc := 211) C hin lkQ_RX12_89_12 hs154 ir_12_28 (fun _ => ⟨rfl, rfl⟩) dX12_init_211 ?_
  rw [← eR155]
  refine k_aloadn (pc := 214) C dX12_init_214 (i := 0) rfl 0 rfl ?_
  refine k_iconst (pc := 215) C (v := (4 : Int32)) dX12_init_215 (by decide) ?_
  obtain ⟨q156, eq156, h⟩ := lt_e h
  obtain ⟨S157, eS157, h⟩ := lt_e h
  obtain ⟨R158, eR158, h⟩ := lt_e h
  obtain ⟨I159, eI159, h⟩ := lt_e h
  refine k_newa (pc := 216) C (t := 20) (N := 4) rfl (by decide) (t1_in 68 (by decide +kernel) rfl) (by decide) (by decide) (by decide) (Nat.le_of_ble_eq_true rfl) (Nat.le_of_ble_eq_true rfl) dX12_init_216 ?_
  rw [← eq156, ← eS157, ← eR158, ← eI159]
  refine k_nf (cells2 := 20) (slots2 := 1641) (st2 := [.ref (E.1 + q156), .ref (E.1 + a0)]) rfl rfl rfl ?_
  obtain ⟨hs1610, h⟩ := gp_e h
  have hs161 := sok_e hs1610
  obtain ⟨R162, eR162, h⟩ := lt_e h
  refine k_putFR (pc := 218) C hin lkQ_RX12_92_12 hs161 ir_12_29 (fun _ => ⟨rfl, rfl⟩) dX12_init_218 ?_
  rw [← eR162]
  refine k_aloadn (pc := 221) C dX12_init_221 (i := 0) rfl 0 rfl ?_
  refine k_bipush (pc := 222) C (v := (30 : Int32)) dX12_init_222 (by decide) ?_
  obtain ⟨q163, eq163, h⟩ := lt_e h
  obtain ⟨S164, eS164, h⟩ := lt_e h
  obtain ⟨R165, eR165, h⟩ := lt_e h
  obtain ⟨I166, eI166, h⟩ := lt_e h
  refine k_newa (pc := 224) C (t := 20) (N := 30) rfl (by decide) (t1_in 68 (by decide +kernel) rfl) (by decide) (by decide) (by decide) (Nat.le_of_ble_eq_true rfl) (Nat.le_of_ble_eq_true rfl) dX12_init_224 ?_
  rw [← eq163, ← eS164, ← eR165, ← eI166]
  refine k_nf (cells2 := 21) (slots2 := 1671) (st2 := [.ref (E.1 + q163), .ref (E.1 + a0)]) rfl rfl rfl ?_
  obtain ⟨hs1680, h⟩ := gp_e h
  have hs168 := sok_e hs1680
  obtain ⟨R169, eR169, h⟩ := lt_e h
  refine k_putFR (pc := 226) C hin lkQ_RX12_95_12 hs168 ir_12_30 (fun _ => ⟨rfl, rfl⟩) dX12_init_226 ?_
  rw [← eR169]
  refine k_aloadn (pc := 229) C dX12_init_229 (i := 0) rfl 0 rfl ?_
  obtain ⟨b170, hb170, h⟩ := rl_e h
  refine k_getR (pc := 230) C lkF_RX12_9_12 hs168 ir_12_0 hb170 dX12_init_230 ?_
  refine k_iconst (pc := 233) C (v := (0 : Int32)) dX12_init_233 (by decide) ?_
  refine k_iconst (pc := 234) C (v := (1 : Int32)) dX12_init_234 (by decide) ?_
  obtain ⟨ha171, h⟩ := gp_e h
  obtain ⟨I172, eI172, h⟩ := lt_e h
  refine k_iast (pc := 235) C ha171 dX12_init_235 ?_
  rw [← eI172]
  refine k_aloadn (pc := 236) C dX12_init_236 (i := 0) rfl 0 rfl ?_
  obtain ⟨b173, hb173, h⟩ := rl_e h
  refine k_getR (pc := 237) C lkF_RX12_9_12 hs168 ir_12_0 hb173 dX12_init_237 ?_
  refine k_iconst (pc := 240) C (v := (2 : Int32)) dX12_init_240 (by decide) ?_
  refine k_iconst (pc := 241) C (v := (1 : Int32)) dX12_init_241 (by decide) ?_
  obtain ⟨ha174, h⟩ := gp_e h
  obtain ⟨I175, eI175, h⟩ := lt_e h
  refine k_iast (pc := 242) C ha174 dX12_init_242 ?_
  rw [← eI175]
  refine k_iconst (pc := 243) C (v := (0 : Int32)) dX12_init_243 (by decide) ?_
  refine k_istoren (pc := 244) C dX12_init_244 (i := 1) rfl (by decide) (L2 := [(0, .ref (E.1 + a0)), (1, .int (0 : Int32))]) rfl ?_
  refine k_iloadn (pc := 245) C dX12_init_245 (i := 1) rfl 1 rfl ?_
  refine k_iconst (pc := 246) C (v := (4 : Int32)) dX12_init_246 (by decide) ?_
  refine k_icmp_ge (pc := 247) C dX12_init_247 (tgt := 263) (by decide) (fun hc176 => absurd hc176 (by decide)) (fun _ => ?_)
  refine k_aloadn (pc := 250) C dX12_init_250 (i := 0) rfl 0 rfl ?_
  obtain ⟨b177, hb177, h⟩ := rl_e h
  refine k_getR (pc := 251) C lkF_RX12_80_12 hs168 ir_12_25 hb177 dX12_init_251 ?_
  refine k_iloadn (pc := 254) C dX12_init_254 (i := 1) rfl 1 rfl ?_
  refine k_iconst (pc := 255) C (v := (-1 : Int32)) dX12_init_255 (by decide) ?_
  obtain ⟨ha178, h⟩ := gp_e h
  obtain ⟨I179, eI179, h⟩ := lt_e h
  refine k_iast (pc := 256) C ha178 dX12_init_256 ?_
  rw [← eI179]
  refine k_iinc (pc := 257) C dX12_init_257 1 rfl (v := (1 : Int32)) (by decide) (by decide) (L2 := [(0, .ref (E.1 + a0)), (1, .int (1 : Int32))]) rfl ?_
  refine k_goto (pc := 260) C dX12_init_260 (tgt := 245) (by decide) ?_
  refine k_iloadn (pc := 245) C dX12_init_245 (i := 1) rfl 1 rfl ?_
  refine k_iconst (pc := 246) C (v := (4 : Int32)) dX12_init_246 (by decide) ?_
  refine k_icmp_ge (pc := 247) C dX12_init_247 (tgt := 263) (by decide) (fun hc180 => absurd hc180 (by decide)) (fun _ => ?_)
  refine k_aloadn (pc := 250) C dX12_init_250 (i := 0) rfl 0 rfl ?_
  obtain ⟨b181, hb181, h⟩ := rl_e h
  refine k_getR (pc := 251) C lkF_RX12_80_12 hs168 ir_12_25 hb181 dX12_init_251 ?_
  refine k_iloadn (pc := 254) C dX12_init_254 (i := 1) rfl 1 rfl ?_
  refine k_iconst (pc := 255) C (v := (-1 : Int32)) dX12_init_255 (by decide) ?_
  obtain ⟨ha182, h⟩ := gp_e h
  obtain ⟨I183, eI183, h⟩ := lt_e h
  refine k_iast (pc := 256) C ha182 dX12_init_256 ?_
  rw [← eI183]
  refine k_iinc (pc := 257) C dX12_init_257 1 rfl (v := (2 : Int32)) (by decide) (by decide) (L2 := [(0, .ref (E.1 + a0)), (1, .int (2 : Int32))]) rfl ?_
  refine k_goto (pc := 260) C dX12_init_260 (tgt := 245) (by decide) ?_
  refine k_iloadn (pc := 245) C dX12_init_245 (i := 1) rfl 1 rfl ?_
  refine k_iconst (pc := 246) C (v := (4 : Int32)) dX12_init_246 (by decide) ?_
  refine k_icmp_ge (pc := 247) C dX12_init_247 (tgt := 263) (by decide) (fun hc184 => absurd hc184 (by decide)) (fun _ => ?_)
  refine k_aloadn (pc := 250) C dX12_init_250 (i := 0) rfl 0 rfl ?_
  obtain ⟨b185, hb185, h⟩ := rl_e h
  refine k_getR (pc := 251) C lkF_RX12_80_12 hs168 ir_12_25 hb185 dX12_init_251 ?_
  refine k_iloadn (pc := 254) C dX12_init_254 (i := 1) rfl 1 rfl ?_
  refine k_iconst (pc := 255) C (v := (-1 : Int32)) dX12_init_255 (by decide) ?_
  obtain ⟨ha186, h⟩ := gp_e h
  obtain ⟨I187, eI187, h⟩ := lt_e h
  refine k_iast (pc := 256) C ha186 dX12_init_256 ?_
  rw [← eI187]
  refine k_iinc (pc := 257) C dX12_init_257 1 rfl (v := (3 : Int32)) (by decide) (by decide) (L2 := [(0, .ref (E.1 + a0)), (1, .int (3 : Int32))]) rfl ?_
  refine k_goto (pc := 260) C dX12_init_260 (tgt := 245) (by decide) ?_
  refine k_iloadn (pc := 245) C dX12_init_245 (i := 1) rfl 1 rfl ?_
  refine k_iconst (pc := 246) C (v := (4 : Int32)) dX12_init_246 (by decide) ?_
  refine k_icmp_ge (pc := 247) C dX12_init_247 (tgt := 263) (by decide) (fun hc188 => absurd hc188 (by decide)) (fun _ => ?_)
  refine k_aloadn (pc := 250) C dX12_init_250 (i := 0) rfl 0 rfl ?_
  obtain ⟨b189, hb189, h⟩ := rl_e h
  refine k_getR (pc := 251) C lkF_RX12_80_12 hs168 ir_12_25 hb189 dX12_init_251 ?_
  refine k_iloadn (pc := 254) C dX12_init_254 (i := 1) rfl 1 rfl ?_
  refine k_iconst (pc := 255) C (v := (-1 : Int32)) dX12_init_255 (by decide) ?_
  obtain ⟨ha190, h⟩ := gp_e h
  obtain ⟨I191, eI191, h⟩ := lt_e h
  refine k_iast (pc := 256) C ha190 dX12_init_256 ?_
  rw [← eI191]
  refine k_iinc (pc := 257) C dX12_init_257 1 rfl (v := (4 : Int32)) (by decide) (by decide) (L2 := [(0, .ref (E.1 + a0)), (1, .int (4 : Int32))]) rfl ?_
  refine k_goto (pc := 260) C dX12_init_260 (tgt := 245) (by decide) ?_
  refine k_iloadn (pc := 245) C dX12_init_245 (i := 1) rfl 1 rfl ?_
  refine k_iconst (pc := 246) C (v := (4 : Int32)) dX12_init_246 (by decide) ?_
  refine k_icmp_ge (pc := 247) C dX12_init_247 (tgt := 263) (by decide) (fun _ => ?_) (fun hc192 => absurd hc192 (by decide))
  have h := Option.some.inj h
  subst h
  exact k_vret (pc := 263) C hr hk dX12_init_263
theorem c_X12_init {E : Ev} {l : Launch} {S : Sh} {R : Rw} {I : Iw} {a0 : Nat} {r : (Sh × Rw × Iw)} (h : f_X12_init S R I a0 = some r) : Mt E l yX12_init cX12_init 2 none 1 20 [.ref (E.1 + a0)] S R I r.1 r.2.1 r.2.2 none 21 1671 := mt_of (by decide) (Nat.le_of_ble_eq_true rfl) (fun p e s m args below meth c C hr hk hn => b_X12_init C hr hk hn _ _ _ _ h)
theorem dX12_in_0 : decode cX12_in 0 = .ok (.iload_n 0, 1) := by decide +kernel
theorem dX12_in_1 : decode cX12_in 1 = .ok (.iload_n 1, 1) := by decide +kernel
theorem dX12_in_2 : decode cX12_in 2 = .ok (.if_icmp .lt 12, 3) := by decide +kernel
theorem dX12_in_5 : decode cX12_in 5 = .ok (.iload_n 0, 1) := by decide +kernel
theorem dX12_in_6 : decode cX12_in 6 = .ok (.iload_n 2, 1) := by decide +kernel
theorem dX12_in_7 : decode cX12_in 7 = .ok (.if_icmp .gt 7, 3) := by decide +kernel
theorem dX12_in_10 : decode cX12_in 10 = .ok (.iconst 1, 1) := by decide +kernel
theorem dX12_in_11 : decode cX12_in 11 = .ok (.goto 4, 3) := by decide +kernel
theorem dX12_in_14 : decode cX12_in 14 = .ok (.iconst 0, 1) := by decide +kernel
theorem dX12_in_15 : decode cX12_in 15 = .ok (.ireturn, 1) := by decide +kernel
def f_X12_in (S : Sh) (R : Rw) (I : Iw)  (x0 : Int32) (x1 : Int32) (x2 : Int32) : Option (Int32) := (if x0 < x1 then some (0 : Int32) else (if x2 < x0 then some (0 : Int32) else some (1 : Int32)))
set_option maxHeartbeats 4000000 in
theorem b_X12_in {E : Ev} {p : Program} {l : Launch} {e : Env} {s : State} {m : MethodId} {args : Array Value} {below : List Frame} {meth : Method} {c : Code} (C : Cx E RX12 cX12_in 3 p s m c) (hr : meth.sig.returnType = (some .boolean)) (hk : meth.locks = false) {S : Sh} {R : Rw} {I : Iw} {r : Int32}  : ∀ (x0 : Int32) (x1 : Int32) (x2 : Int32), f_X12_in S R I   x0 x1 x2 = some r → Wk E 3 p l e ({ frames := 0, cells := 0, slots := 0, locals := 0 } : Room) s m args below meth c 0 0 (MQ below (Qw E S R I (some (.int r))) args s 0 0 (fun q => E.1 ≤ q)) 0 [(0, .int x0), (1, .int x1), (2, .int x2)] [] S R I := by
  intro x0 x1 x2 h
  rw [f_X12_in] at h
  refine k_iloadn (pc := 0) C dX12_in_0 (i := 0) rfl 0 rfl ?_
  refine k_iloadn (pc := 1) C dX12_in_1 (i := 1) rfl 1 rfl ?_
  refine k_icmp_lt (pc := 2) C dX12_in_2 (tgt := 14) (by decide) (fun hc1 => ?_) (fun hc1 => ?_)
  · rw [if_pos hc1] at h
    refine k_iconst (pc := 14) C (v := (0 : Int32)) dX12_in_14 (by decide) ?_
    have h := Option.some.inj h
    subst h
    exact k_zret (pc := 15) C hr hk (Or.inl rfl) dX12_in_15
  · rw [if_neg hc1] at h
    refine k_iloadn (pc := 5) C dX12_in_5 (i := 0) rfl 0 rfl ?_
    refine k_iloadn (pc := 6) C dX12_in_6 (i := 2) rfl 2 rfl ?_
    refine k_icmp_gt (pc := 7) C dX12_in_7 (tgt := 14) (by decide) (fun hc2 => ?_) (fun hc2 => ?_)
    · rw [if_pos hc2] at h
      refine k_iconst (pc := 14) C (v := (0 : Int32)) dX12_in_14 (by decide) ?_
      have h := Option.some.inj h
      subst h
      exact k_zret (pc := 15) C hr hk (Or.inl rfl) dX12_in_15
    · rw [if_neg hc2] at h
      refine k_iconst (pc := 10) C (v := (1 : Int32)) dX12_in_10 (by decide) ?_
      refine k_goto (pc := 11) C dX12_in_11 (tgt := 15) (by decide) ?_
      have h := Option.some.inj h
      subst h
      exact k_zret (pc := 15) C hr hk (Or.inr rfl) dX12_in_15
theorem c_X12_in {E : Ev} {l : Launch} {S : Sh} {R : Rw} {I : Iw} {x0 : Int32} {x1 : Int32} {x2 : Int32} {r : Int32} (h : f_X12_in S R I x0 x1 x2 = some r) : Mt E l yX12_in cX12_in 3 (some .boolean) 0 0 [.int x0, .int x1, .int x2] S R I S R I (some (.int r)) 0 0 := mt_of (by decide) (Nat.le_of_ble_eq_true rfl) (fun p e s m args below meth c C hr hk hn => b_X12_in C hr hk _ _ _ h)
theorem dX12_copy_0 : decode cX12_copy 0 = .ok (.iconst 0, 1) := by decide +kernel
theorem dX12_copy_1 : decode cX12_copy 1 = .ok (.istore_n 2, 1) := by decide +kernel
theorem dX12_copy_2 : decode cX12_copy 2 = .ok (.iload_n 2, 1) := by decide +kernel
theorem dX12_copy_3 : decode cX12_copy 3 = .ok (.sipush 306, 3) := by decide +kernel
theorem dX12_copy_6 : decode cX12_copy 6 = .ok (.if_icmp .ge 15, 3) := by decide +kernel
theorem dX12_copy_9 : decode cX12_copy 9 = .ok (.aload_n 1, 1) := by decide +kernel
theorem dX12_copy_10 : decode cX12_copy 10 = .ok (.iload_n 2, 1) := by decide +kernel
theorem dX12_copy_11 : decode cX12_copy 11 = .ok (.aload_n 0, 1) := by decide +kernel
theorem dX12_copy_12 : decode cX12_copy 12 = .ok (.iload_n 2, 1) := by decide +kernel
theorem dX12_copy_13 : decode cX12_copy 13 = .ok (.iaload, 1) := by decide +kernel
theorem dX12_copy_14 : decode cX12_copy 14 = .ok (.iastore, 1) := by decide +kernel
theorem dX12_copy_15 : decode cX12_copy 15 = .ok (.iinc 2 1, 3) := by decide +kernel
theorem dX12_copy_18 : decode cX12_copy 18 = .ok (.goto (-16), 3) := by decide +kernel
theorem dX12_copy_21 : decode cX12_copy 21 = .ok (.return_, 1) := by decide +kernel
def f_X12_copy_2 (S : Sh) (R : Rw)  : Nat → Iw → Nat → Nat → Int32 → Option (Iw)
  | 0, _, _, _, _ => none
  | n + 1, I, a0, a1, x2 => (if (306 : Int32) ≤ x2 then some I else gp (aok S 20 a0 x2) (gp (aok S 20 a1 x2) (lt (up2 I a1 x2.toNatClampNeg (I a0 x2.toNatClampNeg)) (fun I4 => f_X12_copy_2 S R  n I4 a0 a1 (x2 + (1 : Int32))))))
set_option maxHeartbeats 4000000 in
theorem b_X12_copy_2 {E : Ev} {p : Program} {l : Launch} {e : Env} {s : State} {m : MethodId} {args : Array Value} {below : List Frame} {meth : Method} {c : Code} (C : Cx E RX12 cX12_copy 3 p s m c) (hr : meth.sig.returnType = none) (hk : meth.locks = false) {S : Sh} {R : Rw} {r : Iw}  : ∀ (n : Nat) (I : Iw) (a0 : Nat) (a1 : Nat) (x2 : Int32), f_X12_copy_2 S R  n I a0 a1 x2 = some r → Wk E 3 p l e ({ frames := 0, cells := 0, slots := 0, locals := 0 } : Room) s m args below meth c 0 0 (MQ below (Qw E S R r none) args s 0 0 (fun q => E.1 ≤ q)) 2 [(0, .ref (E.1 + a0)), (1, .ref (E.1 + a1)), (2, .int x2)] [] S R I := by
  intro n
  induction n with
  | zero =>
    intro I a0 a1 x2 h
    rw [f_X12_copy_2] at h
    cases h
  | succ n ih =>
    intro I a0 a1 x2 h
    rw [f_X12_copy_2] at h
    refine k_iloadn (pc := 2) C dX12_copy_2 (i := 2) rfl 2 rfl ?_
    refine k_sipush (pc := 3) C (v := (306 : Int32)) dX12_copy_3 (by decide) ?_
    refine k_icmp_ge (pc := 6) C dX12_copy_6 (tgt := 21) (by decide) (fun hc1 => ?_) (fun hc1 => ?_)
    · rw [if_pos hc1] at h
      have h := Option.some.inj h
      subst h
      exact k_vret (pc := 21) C hr hk dX12_copy_21
    · rw [if_neg hc1] at h
      refine k_aloadn (pc := 9) C dX12_copy_9 (i := 1) rfl 1 rfl ?_
      refine k_iloadn (pc := 10) C dX12_copy_10 (i := 2) rfl 2 rfl ?_
      refine k_aloadn (pc := 11) C dX12_copy_11 (i := 0) rfl 0 rfl ?_
      refine k_iloadn (pc := 12) C dX12_copy_12 (i := 2) rfl 2 rfl ?_
      obtain ⟨ha2, h⟩ := gp_e h
      refine k_iald (pc := 13) C ha2 dX12_copy_13 ?_
      obtain ⟨ha3, h⟩ := gp_e h
      obtain ⟨I4, eI4, h⟩ := lt_e h
      refine k_iast (pc := 14) C ha3 dX12_copy_14 ?_
      rw [← eI4]
      refine k_iinc (pc := 15) C dX12_copy_15 2 rfl (v := x2 + (1 : Int32)) (by rfl) (by decide) (L2 := [(0, .ref (E.1 + a0)), (1, .ref (E.1 + a1)), (2, .int (x2 + (1 : Int32)))]) rfl ?_
      refine k_goto (pc := 18) C dX12_copy_18 (tgt := 2) (by decide) ?_
      exact ih _ _ _ _ h
def f_X12_copy (S : Sh) (R : Rw)  (I : Iw) (a0 : Nat) (a1 : Nat) : Option (Iw) := f_X12_copy_2 S R  512 I a0 a1 (0 : Int32)
set_option maxHeartbeats 4000000 in
theorem b_X12_copy {E : Ev} {p : Program} {l : Launch} {e : Env} {s : State} {m : MethodId} {args : Array Value} {below : List Frame} {meth : Method} {c : Code} (C : Cx E RX12 cX12_copy 3 p s m c) (hr : meth.sig.returnType = none) (hk : meth.locks = false) {S : Sh} {R : Rw} {r : Iw}  : ∀ (I : Iw) (a0 : Nat) (a1 : Nat), f_X12_copy S R   I a0 a1 = some r → Wk E 3 p l e ({ frames := 0, cells := 0, slots := 0, locals := 0 } : Room) s m args below meth c 0 0 (MQ below (Qw E S R r none) args s 0 0 (fun q => E.1 ≤ q)) 0 [(0, .ref (E.1 + a0)), (1, .ref (E.1 + a1))] [] S R I := by
  intro I a0 a1 h
  rw [f_X12_copy] at h
  refine k_iconst (pc := 0) C (v := (0 : Int32)) dX12_copy_0 (by decide) ?_
  refine k_istoren (pc := 1) C dX12_copy_1 (i := 2) rfl (by decide) (L2 := [(0, .ref (E.1 + a0)), (1, .ref (E.1 + a1)), (2, .int (0 : Int32))]) rfl ?_
  exact b_X12_copy_2 C hr hk  _ _ _ _ _ h
theorem c_X12_copy {E : Ev} {l : Launch} {S : Sh} {R : Rw} {I : Iw} {a0 : Nat} {a1 : Nat} {r : Iw} (h : f_X12_copy S R I a0 a1 = some r) : Mt E l yX12_copy cX12_copy 3 none 0 0 [.ref (E.1 + a0), .ref (E.1 + a1)] S R I S R r none 0 0 := mt_of (by decide) (Nat.le_of_ble_eq_true rfl) (fun p e s m args below meth c C hr hk hn => b_X12_copy C hr hk _ _ _ h)
