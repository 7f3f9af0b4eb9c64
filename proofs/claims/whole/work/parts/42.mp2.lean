theorem dX8_isTest_0 : decode cX8_isTest 0 = .ok (.aload_n 0, 1) := by decide +kernel
theorem dX8_isTest_1 : decode cX8_isTest 1 = .ok (.invokevirtual 179, 3) := by decide +kernel
theorem dX8_isTest_4 : decode cX8_isTest 4 = .ok (.ifCond .ne 5, 3) := by decide +kernel
theorem dX8_isTest_7 : decode cX8_isTest 7 = .ok (.iconst 0, 1) := by decide +kernel
theorem dX8_isTest_8 : decode cX8_isTest 8 = .ok (.ireturn, 1) := by decide +kernel
theorem dX8_isTest_9 : decode cX8_isTest 9 = .ok (.aload_n 0, 1) := by decide +kernel
theorem dX8_isTest_10 : decode cX8_isTest 10 = .ok (.bipush 29, 2) := by decide +kernel
theorem dX8_isTest_12 : decode cX8_isTest 12 = .ok (.invokevirtual 133, 3) := by decide +kernel
theorem dX8_isTest_15 : decode cX8_isTest 15 = .ok (.ifCond .eq 21, 3) := by decide +kernel
theorem dX8_isTest_18 : decode cX8_isTest 18 = .ok (.aload_n 0, 1) := by decide +kernel
theorem dX8_isTest_19 : decode cX8_isTest 19 = .ok (.invokevirtual 179, 3) := by decide +kernel
theorem dX8_isTest_22 : decode cX8_isTest 22 = .ok (.ifCond .ne 5, 3) := by decide +kernel
theorem dX8_isTest_25 : decode cX8_isTest 25 = .ok (.iconst 0, 1) := by decide +kernel
theorem dX8_isTest_26 : decode cX8_isTest 26 = .ok (.ireturn, 1) := by decide +kernel
theorem dX8_isTest_27 : decode cX8_isTest 27 = .ok (.aload_n 0, 1) := by decide +kernel
theorem dX8_isTest_28 : decode cX8_isTest 28 = .ok (.bipush 29, 2) := by decide +kernel
theorem dX8_isTest_30 : decode cX8_isTest 30 = .ok (.invokevirtual 182, 3) := by decide +kernel
theorem dX8_isTest_33 : decode cX8_isTest 33 = .ok (.goto (-24), 3) := by decide +kernel
theorem dX8_isTest_36 : decode cX8_isTest 36 = .ok (.iconst 1, 1) := by decide +kernel
theorem dX8_isTest_37 : decode cX8_isTest 37 = .ok (.ireturn, 1) := by decide +kernel
theorem dX8_isBoth_0 : decode cX8_isBoth 0 = .ok (.aload_n 0, 1) := by decide +kernel
theorem dX8_isBoth_1 : decode cX8_isBoth 1 = .ok (.invokevirtual 186, 3) := by decide +kernel
theorem dX8_isBoth_4 : decode cX8_isBoth 4 = .ok (.ifCond .ne 5, 3) := by decide +kernel
theorem dX8_isBoth_7 : decode cX8_isBoth 7 = .ok (.iconst 0, 1) := by decide +kernel
theorem dX8_isBoth_8 : decode cX8_isBoth 8 = .ok (.ireturn, 1) := by decide +kernel
theorem dX8_isBoth_9 : decode cX8_isBoth 9 = .ok (.aload_n 0, 1) := by decide +kernel
theorem dX8_isBoth_10 : decode cX8_isBoth 10 = .ok (.bipush 16, 2) := by decide +kernel
theorem dX8_isBoth_12 : decode cX8_isBoth 12 = .ok (.invokevirtual 133, 3) := by decide +kernel
theorem dX8_isBoth_15 : decode cX8_isBoth 15 = .ok (.ifCond .eq 21, 3) := by decide +kernel
theorem dX8_isBoth_18 : decode cX8_isBoth 18 = .ok (.aload_n 0, 1) := by decide +kernel
theorem dX8_isBoth_19 : decode cX8_isBoth 19 = .ok (.invokevirtual 186, 3) := by decide +kernel
theorem dX8_isBoth_22 : decode cX8_isBoth 22 = .ok (.ifCond .ne 5, 3) := by decide +kernel
theorem dX8_isBoth_25 : decode cX8_isBoth 25 = .ok (.iconst 0, 1) := by decide +kernel
theorem dX8_isBoth_26 : decode cX8_isBoth 26 = .ok (.ireturn, 1) := by decide +kernel
theorem dX8_isBoth_27 : decode cX8_isBoth 27 = .ok (.aload_n 0, 1) := by decide +kernel
theorem dX8_isBoth_28 : decode cX8_isBoth 28 = .ok (.bipush 16, 2) := by decide +kernel
theorem dX8_isBoth_30 : decode cX8_isBoth 30 = .ok (.invokevirtual 182, 3) := by decide +kernel
theorem dX8_isBoth_33 : decode cX8_isBoth 33 = .ok (.goto (-24), 3) := by decide +kernel
theorem dX8_isBoth_36 : decode cX8_isBoth 36 = .ok (.iconst 1, 1) := by decide +kernel
theorem dX8_isBoth_37 : decode cX8_isBoth 37 = .ok (.ireturn, 1) := by decide +kernel
theorem dX8_isSingle_0 : decode cX8_isSingle 0 = .ok (.aload_n 0, 1) := by decide +kernel
theorem dX8_isSingle_1 : decode cX8_isSingle 1 = .ok (.bipush 28, 2) := by decide +kernel
theorem dX8_isSingle_3 : decode cX8_isSingle 3 = .ok (.invokevirtual 130, 3) := by decide +kernel
theorem dX8_isSingle_6 : decode cX8_isSingle 6 = .ok (.ifCond .eq 37, 3) := by decide +kernel
theorem dX8_isSingle_9 : decode cX8_isSingle 9 = .ok (.aload_n 0, 1) := by decide +kernel
theorem dX8_isSingle_10 : decode cX8_isSingle 10 = .ok (.invokevirtual 198, 3) := by decide +kernel
theorem dX8_isSingle_13 : decode cX8_isSingle 13 = .ok (.ifCond .eq 10, 3) := by decide +kernel
theorem dX8_isSingle_16 : decode cX8_isSingle 16 = .ok (.aload_n 0, 1) := by decide +kernel
theorem dX8_isSingle_17 : decode cX8_isSingle 17 = .ok (.invokevirtual 186, 3) := by decide +kernel
theorem dX8_isSingle_20 : decode cX8_isSingle 20 = .ok (.ifCond .ne 5, 3) := by decide +kernel
theorem dX8_isSingle_23 : decode cX8_isSingle 23 = .ok (.iconst 0, 1) := by decide +kernel
theorem dX8_isSingle_24 : decode cX8_isSingle 24 = .ok (.ireturn, 1) := by decide +kernel
theorem dX8_isSingle_25 : decode cX8_isSingle 25 = .ok (.aload_n 0, 1) := by decide +kernel
theorem dX8_isSingle_26 : decode cX8_isSingle 26 = .ok (.dup, 1) := by decide +kernel
theorem dX8_isSingle_27 : decode cX8_isSingle 27 = .ok (.getfield 189, 3) := by decide +kernel
theorem dX8_isSingle_30 : decode cX8_isSingle 30 = .ok (.iconst 1, 1) := by decide +kernel
theorem dX8_isSingle_31 : decode cX8_isSingle 31 = .ok (.isub, 1) := by decide +kernel
theorem dX8_isSingle_32 : decode cX8_isSingle 32 = .ok (.putfield 189, 3) := by decide +kernel
theorem dX8_isSingle_35 : decode cX8_isSingle 35 = .ok (.aload_n 0, 1) := by decide +kernel
theorem dX8_isSingle_36 : decode cX8_isSingle 36 = .ok (.bipush 28, 2) := by decide +kernel
theorem dX8_isSingle_38 : decode cX8_isSingle 38 = .ok (.invokevirtual 182, 3) := by decide +kernel
theorem dX8_isSingle_41 : decode cX8_isSingle 41 = .ok (.iconst 1, 1) := by decide +kernel
theorem dX8_isSingle_42 : decode cX8_isSingle 42 = .ok (.ireturn, 1) := by decide +kernel
theorem dX8_isSingle_43 : decode cX8_isSingle 43 = .ok (.aload_n 0, 1) := by decide +kernel
theorem dX8_isSingle_44 : decode cX8_isSingle 44 = .ok (.bipush 91, 2) := by decide +kernel
theorem dX8_isSingle_46 : decode cX8_isSingle 46 = .ok (.invokevirtual 201, 3) := by decide +kernel
theorem dX8_isSingle_49 : decode cX8_isSingle 49 = .ok (.ifCond .eq 36, 3) := by decide +kernel
theorem dX8_isSingle_52 : decode cX8_isSingle 52 = .ok (.aload_n 0, 1) := by decide +kernel
theorem dX8_isSingle_53 : decode cX8_isSingle 53 = .ok (.invokevirtual 198, 3) := by decide +kernel
theorem dX8_isSingle_56 : decode cX8_isSingle 56 = .ok (.ifCond .eq 10, 3) := by decide +kernel
theorem dX8_isSingle_59 : decode cX8_isSingle 59 = .ok (.aload_n 0, 1) := by decide +kernel
theorem dX8_isSingle_60 : decode cX8_isSingle 60 = .ok (.invokevirtual 173, 3) := by decide +kernel
theorem dX8_isSingle_63 : decode cX8_isSingle 63 = .ok (.ifCond .ne 5, 3) := by decide +kernel
theorem dX8_isSingle_66 : decode cX8_isSingle 66 = .ok (.iconst 0, 1) := by decide +kernel
theorem dX8_isSingle_67 : decode cX8_isSingle 67 = .ok (.ireturn, 1) := by decide +kernel
theorem dX8_isSingle_68 : decode cX8_isSingle 68 = .ok (.aload_n 0, 1) := by decide +kernel
theorem dX8_isSingle_69 : decode cX8_isSingle 69 = .ok (.dup, 1) := by decide +kernel
theorem dX8_isSingle_70 : decode cX8_isSingle 70 = .ok (.getfield 189, 3) := by decide +kernel
theorem dX8_isSingle_73 : decode cX8_isSingle 73 = .ok (.iconst 1, 1) := by decide +kernel
theorem dX8_isSingle_74 : decode cX8_isSingle 74 = .ok (.isub, 1) := by decide +kernel
theorem dX8_isSingle_75 : decode cX8_isSingle 75 = .ok (.putfield 189, 3) := by decide +kernel
theorem dX8_isSingle_78 : decode cX8_isSingle 78 = .ok (.aload_n 0, 1) := by decide +kernel
theorem dX8_isSingle_79 : decode cX8_isSingle 79 = .ok (.bipush 93, 2) := by decide +kernel
theorem dX8_isSingle_81 : decode cX8_isSingle 81 = .ok (.invokevirtual 156, 3) := by decide +kernel
theorem dX8_isSingle_84 : decode cX8_isSingle 84 = .ok (.ireturn, 1) := by decide +kernel
theorem dX8_isSingle_85 : decode cX8_isSingle 85 = .ok (.aload_n 0, 1) := by decide +kernel
theorem dX8_isSingle_86 : decode cX8_isSingle 86 = .ok (.bipush 26, 2) := by decide +kernel
theorem dX8_isSingle_88 : decode cX8_isSingle 88 = .ok (.invokevirtual 130, 3) := by decide +kernel
theorem dX8_isSingle_91 : decode cX8_isSingle 91 = .ok (.ifCond .ne 12, 3) := by decide +kernel
theorem dX8_isSingle_94 : decode cX8_isSingle 94 = .ok (.aload_n 0, 1) := by decide +kernel
theorem dX8_isSingle_95 : decode cX8_isSingle 95 = .ok (.bipush 27, 2) := by decide +kernel
theorem dX8_isSingle_97 : decode cX8_isSingle 97 = .ok (.invokevirtual 130, 3) := by decide +kernel
theorem dX8_isSingle_100 : decode cX8_isSingle 100 = .ok (.ifCond .eq 24, 3) := by decide +kernel
theorem dX8_isSingle_103 : decode cX8_isSingle 103 = .ok (.aload_n 0, 1) := by decide +kernel
theorem dX8_isSingle_104 : decode cX8_isSingle 104 = .ok (.aload_n 0, 1) := by decide +kernel
theorem dX8_isSingle_105 : decode cX8_isSingle 105 = .ok (.bipush 26, 2) := by decide +kernel
theorem dX8_isSingle_107 : decode cX8_isSingle 107 = .ok (.invokevirtual 130, 3) := by decide +kernel
theorem dX8_isSingle_110 : decode cX8_isSingle 110 = .ok (.ifCond .eq 8, 3) := by decide +kernel
theorem dX8_isSingle_113 : decode cX8_isSingle 113 = .ok (.bipush 21, 2) := by decide +kernel
theorem dX8_isSingle_115 : decode cX8_isSingle 115 = .ok (.goto 5, 3) := by decide +kernel
theorem dX8_isSingle_118 : decode cX8_isSingle 118 = .ok (.bipush 20, 2) := by decide +kernel
theorem dX8_isSingle_120 : decode cX8_isSingle 120 = .ok (.invokevirtual 204, 3) := by decide +kernel
theorem dX8_isSingle_123 : decode cX8_isSingle 123 = .ok (.ireturn, 1) := by decide +kernel
theorem dX8_isSingle_124 : decode cX8_isSingle 124 = .ok (.aload_n 0, 1) := by decide +kernel
theorem dX8_isSingle_125 : decode cX8_isSingle 125 = .ok (.invokevirtual 207, 3) := by decide +kernel
theorem dX8_isSingle_128 : decode cX8_isSingle 128 = .ok (.ifCond .ne 5, 3) := by decide +kernel
theorem dX8_isSingle_131 : decode cX8_isSingle 131 = .ok (.iconst 0, 1) := by decide +kernel
theorem dX8_isSingle_132 : decode cX8_isSingle 132 = .ok (.ireturn, 1) := by decide +kernel
theorem dX8_isSingle_133 : decode cX8_isSingle 133 = .ok (.aload_n 0, 1) := by decide +kernel
theorem dX8_isSingle_134 : decode cX8_isSingle 134 = .ok (.bipush 60, 2) := by decide +kernel
theorem dX8_isSingle_136 : decode cX8_isSingle 136 = .ok (.invokevirtual 201, 3) := by decide +kernel
theorem dX8_isSingle_139 : decode cX8_isSingle 139 = .ok (.ifCond .eq 8, 3) := by decide +kernel
theorem dX8_isSingle_142 : decode cX8_isSingle 142 = .ok (.bipush 38, 2) := by decide +kernel
theorem dX8_isSingle_144 : decode cX8_isSingle 144 = .ok (.goto 62, 3) := by decide +kernel
theorem dX8_isSingle_147 : decode cX8_isSingle 147 = .ok (.aload_n 0, 1) := by decide +kernel
theorem dX8_isSingle_148 : decode cX8_isSingle 148 = .ok (.bipush 62, 2) := by decide +kernel
theorem dX8_isSingle_150 : decode cX8_isSingle 150 = .ok (.invokevirtual 201, 3) := by decide +kernel
theorem dX8_isSingle_153 : decode cX8_isSingle 153 = .ok (.ifCond .eq 8, 3) := by decide +kernel
theorem dX8_isSingle_156 : decode cX8_isSingle 156 = .ok (.bipush 39, 2) := by decide +kernel
theorem dX8_isSingle_158 : decode cX8_isSingle 158 = .ok (.goto 48, 3) := by decide +kernel
theorem dX8_isSingle_161 : decode cX8_isSingle 161 = .ok (.aload_n 0, 1) := by decide +kernel
theorem dX8_isSingle_162 : decode cX8_isSingle 162 = .ok (.bipush 61, 2) := by decide +kernel
theorem dX8_isSingle_164 : decode cX8_isSingle 164 = .ok (.invokevirtual 201, 3) := by decide +kernel
theorem dX8_isSingle_167 : decode cX8_isSingle 167 = .ok (.ifCond .eq 8, 3) := by decide +kernel
theorem dX8_isSingle_170 : decode cX8_isSingle 170 = .ok (.bipush 42, 2) := by decide +kernel
theorem dX8_isSingle_172 : decode cX8_isSingle 172 = .ok (.goto 34, 3) := by decide +kernel
theorem dX8_isSingle_175 : decode cX8_isSingle 175 = .ok (.aload_n 0, 1) := by decide +kernel
theorem dX8_isSingle_176 : decode cX8_isSingle 176 = .ok (.sipush 300, 3) := by decide +kernel
theorem dX8_isSingle_179 : decode cX8_isSingle 179 = .ok (.invokevirtual 130, 3) := by decide +kernel
theorem dX8_isSingle_182 : decode cX8_isSingle 182 = .ok (.ifCond .eq 8, 3) := by decide +kernel
theorem dX8_isSingle_185 : decode cX8_isSingle 185 = .ok (.bipush 43, 2) := by decide +kernel
theorem dX8_isSingle_187 : decode cX8_isSingle 187 = .ok (.goto 19, 3) := by decide +kernel
theorem dX8_isSingle_190 : decode cX8_isSingle 190 = .ok (.aload_n 0, 1) := by decide +kernel
theorem dX8_isSingle_191 : decode cX8_isSingle 191 = .ok (.sipush 301, 3) := by decide +kernel
theorem dX8_isSingle_194 : decode cX8_isSingle 194 = .ok (.invokevirtual 130, 3) := by decide +kernel
theorem dX8_isSingle_197 : decode cX8_isSingle 197 = .ok (.ifCond .eq 8, 3) := by decide +kernel
theorem dX8_isSingle_200 : decode cX8_isSingle 200 = .ok (.bipush 44, 2) := by decide +kernel
theorem dX8_isSingle_202 : decode cX8_isSingle 202 = .ok (.goto 4, 3) := by decide +kernel
theorem dX8_isSingle_205 : decode cX8_isSingle 205 = .ok (.iconst (-1), 1) := by decide +kernel
theorem dX8_isSingle_206 : decode cX8_isSingle 206 = .ok (.istore_n 1, 1) := by decide +kernel
theorem dX8_isSingle_207 : decode cX8_isSingle 207 = .ok (.iload_n 1, 1) := by decide +kernel
theorem dX8_isSingle_208 : decode cX8_isSingle 208 = .ok (.iconst (-1), 1) := by decide +kernel
theorem dX8_isSingle_209 : decode cX8_isSingle 209 = .ok (.if_icmp .ne 5, 3) := by decide +kernel
theorem dX8_isSingle_212 : decode cX8_isSingle 212 = .ok (.iconst 0, 1) := by decide +kernel
theorem dX8_isSingle_213 : decode cX8_isSingle 213 = .ok (.ireturn, 1) := by decide +kernel
theorem dX8_isSingle_214 : decode cX8_isSingle 214 = .ok (.aload_n 0, 1) := by decide +kernel
theorem dX8_isSingle_215 : decode cX8_isSingle 215 = .ok (.dup, 1) := by decide +kernel
theorem dX8_isSingle_216 : decode cX8_isSingle 216 = .ok (.getfield 127, 3) := by decide +kernel
theorem dX8_isSingle_219 : decode cX8_isSingle 219 = .ok (.iconst 1, 1) := by decide +kernel
theorem dX8_isSingle_220 : decode cX8_isSingle 220 = .ok (.iadd, 1) := by decide +kernel
theorem dX8_isSingle_221 : decode cX8_isSingle 221 = .ok (.putfield 127, 3) := by decide +kernel
theorem dX8_isSingle_224 : decode cX8_isSingle 224 = .ok (.aload_n 0, 1) := by decide +kernel
theorem dX8_isSingle_225 : decode cX8_isSingle 225 = .ok (.invokevirtual 207, 3) := by decide +kernel
theorem dX8_isSingle_228 : decode cX8_isSingle 228 = .ok (.ifCond .ne 5, 3) := by decide +kernel
theorem dX8_isSingle_231 : decode cX8_isSingle 231 = .ok (.iconst 0, 1) := by decide +kernel
theorem dX8_isSingle_232 : decode cX8_isSingle 232 = .ok (.ireturn, 1) := by decide +kernel
theorem dX8_isSingle_233 : decode cX8_isSingle 233 = .ok (.aload_n 0, 1) := by decide +kernel
theorem dX8_isSingle_234 : decode cX8_isSingle 234 = .ok (.iload_n 1, 1) := by decide +kernel
theorem dX8_isSingle_235 : decode cX8_isSingle 235 = .ok (.invokevirtual 182, 3) := by decide +kernel
theorem dX8_isSingle_238 : decode cX8_isSingle 238 = .ok (.iconst 1, 1) := by decide +kernel
theorem dX8_isSingle_239 : decode cX8_isSingle 239 = .ok (.ireturn, 1) := by decide +kernel
theorem dX8_isSum_0 : decode cX8_isSum 0 = .ok (.aload_n 0, 1) := by decide +kernel
theorem dX8_isSum_1 : decode cX8_isSum 1 = .ok (.invokevirtual 210, 3) := by decide +kernel
theorem dX8_isSum_4 : decode cX8_isSum 4 = .ok (.ifCond .ne 5, 3) := by decide +kernel
theorem dX8_isSum_7 : decode cX8_isSum 7 = .ok (.iconst 0, 1) := by decide +kernel
theorem dX8_isSum_8 : decode cX8_isSum 8 = .ok (.ireturn, 1) := by decide +kernel
theorem dX8_isSum_9 : decode cX8_isSum 9 = .ok (.aload_n 0, 1) := by decide +kernel
theorem dX8_isSum_10 : decode cX8_isSum 10 = .ok (.bipush 43, 2) := by decide +kernel
theorem dX8_isSum_12 : decode cX8_isSum 12 = .ok (.invokevirtual 201, 3) := by decide +kernel
theorem dX8_isSum_15 : decode cX8_isSum 15 = .ok (.ifCond .ne 12, 3) := by decide +kernel
theorem dX8_isSum_18 : decode cX8_isSum 18 = .ok (.aload_n 0, 1) := by decide +kernel
theorem dX8_isSum_19 : decode cX8_isSum 19 = .ok (.bipush 45, 2) := by decide +kernel
theorem dX8_isSum_21 : decode cX8_isSum 21 = .ok (.invokevirtual 201, 3) := by decide +kernel
theorem dX8_isSum_24 : decode cX8_isSum 24 = .ok (.ifCond .eq 47, 3) := by decide +kernel
theorem dX8_isSum_27 : decode cX8_isSum 27 = .ok (.aload_n 0, 1) := by decide +kernel
theorem dX8_isSum_28 : decode cX8_isSum 28 = .ok (.bipush 43, 2) := by decide +kernel
theorem dX8_isSum_30 : decode cX8_isSum 30 = .ok (.invokevirtual 201, 3) := by decide +kernel
theorem dX8_isSum_33 : decode cX8_isSum 33 = .ok (.ifCond .eq 8, 3) := by decide +kernel
theorem dX8_isSum_36 : decode cX8_isSum 36 = .ok (.bipush 34, 2) := by decide +kernel
theorem dX8_isSum_38 : decode cX8_isSum 38 = .ok (.goto 5, 3) := by decide +kernel
theorem dX8_isSum_41 : decode cX8_isSum 41 = .ok (.bipush 35, 2) := by decide +kernel
theorem dX8_isSum_43 : decode cX8_isSum 43 = .ok (.istore_n 1, 1) := by decide +kernel
theorem dX8_isSum_44 : decode cX8_isSum 44 = .ok (.aload_n 0, 1) := by decide +kernel
theorem dX8_isSum_45 : decode cX8_isSum 45 = .ok (.dup, 1) := by decide +kernel
theorem dX8_isSum_46 : decode cX8_isSum 46 = .ok (.getfield 127, 3) := by decide +kernel
theorem dX8_isSum_49 : decode cX8_isSum 49 = .ok (.iconst 1, 1) := by decide +kernel
theorem dX8_isSum_50 : decode cX8_isSum 50 = .ok (.iadd, 1) := by decide +kernel
theorem dX8_isSum_51 : decode cX8_isSum 51 = .ok (.putfield 127, 3) := by decide +kernel
theorem dX8_isSum_54 : decode cX8_isSum 54 = .ok (.aload_n 0, 1) := by decide +kernel
theorem dX8_isSum_55 : decode cX8_isSum 55 = .ok (.invokevirtual 210, 3) := by decide +kernel
theorem dX8_isSum_58 : decode cX8_isSum 58 = .ok (.ifCond .ne 5, 3) := by decide +kernel
theorem dX8_isSum_61 : decode cX8_isSum 61 = .ok (.iconst 0, 1) := by decide +kernel
theorem dX8_isSum_62 : decode cX8_isSum 62 = .ok (.ireturn, 1) := by decide +kernel
theorem dX8_isSum_63 : decode cX8_isSum 63 = .ok (.aload_n 0, 1) := by decide +kernel
theorem dX8_isSum_64 : decode cX8_isSum 64 = .ok (.iload_n 1, 1) := by decide +kernel
theorem dX8_isSum_65 : decode cX8_isSum 65 = .ok (.invokevirtual 182, 3) := by decide +kernel
theorem dX8_isSum_68 : decode cX8_isSum 68 = .ok (.goto (-59), 3) := by decide +kernel
theorem dX8_isSum_71 : decode cX8_isSum 71 = .ok (.iconst 1, 1) := by decide +kernel
theorem dX8_isSum_72 : decode cX8_isSum 72 = .ok (.ireturn, 1) := by decide +kernel
theorem dX8_isProduct_0 : decode cX8_isProduct 0 = .ok (.aload_n 0, 1) := by decide +kernel
theorem dX8_isProduct_1 : decode cX8_isProduct 1 = .ok (.invokevirtual 213, 3) := by decide +kernel
theorem dX8_isProduct_4 : decode cX8_isProduct 4 = .ok (.ifCond .ne 5, 3) := by decide +kernel
theorem dX8_isProduct_7 : decode cX8_isProduct 7 = .ok (.iconst 0, 1) := by decide +kernel
theorem dX8_isProduct_8 : decode cX8_isProduct 8 = .ok (.ireturn, 1) := by decide +kernel
theorem dX8_isProduct_9 : decode cX8_isProduct 9 = .ok (.aload_n 0, 1) := by decide +kernel
theorem dX8_isProduct_10 : decode cX8_isProduct 10 = .ok (.bipush 42, 2) := by decide +kernel
theorem dX8_isProduct_12 : decode cX8_isProduct 12 = .ok (.invokevirtual 201, 3) := by decide +kernel
theorem dX8_isProduct_15 : decode cX8_isProduct 15 = .ok (.ifCond .ne 12, 3) := by decide +kernel
theorem dX8_isProduct_18 : decode cX8_isProduct 18 = .ok (.aload_n 0, 1) := by decide +kernel
theorem dX8_isProduct_19 : decode cX8_isProduct 19 = .ok (.bipush 47, 2) := by decide +kernel
theorem dX8_isProduct_21 : decode cX8_isProduct 21 = .ok (.invokevirtual 201, 3) := by decide +kernel
theorem dX8_isProduct_24 : decode cX8_isProduct 24 = .ok (.ifCond .eq 47, 3) := by decide +kernel
theorem dX8_isProduct_27 : decode cX8_isProduct 27 = .ok (.aload_n 0, 1) := by decide +kernel
theorem dX8_isProduct_28 : decode cX8_isProduct 28 = .ok (.bipush 42, 2) := by decide +kernel
theorem dX8_isProduct_30 : decode cX8_isProduct 30 = .ok (.invokevirtual 201, 3) := by decide +kernel
theorem dX8_isProduct_33 : decode cX8_isProduct 33 = .ok (.ifCond .eq 8, 3) := by decide +kernel
theorem dX8_isProduct_36 : decode cX8_isProduct 36 = .ok (.bipush 36, 2) := by decide +kernel
theorem dX8_isProduct_38 : decode cX8_isProduct 38 = .ok (.goto 5, 3) := by decide +kernel
theorem dX8_isProduct_41 : decode cX8_isProduct 41 = .ok (.bipush 37, 2) := by decide +kernel
theorem dX8_isProduct_43 : decode cX8_isProduct 43 = .ok (.istore_n 1, 1) := by decide +kernel
theorem dX8_isProduct_44 : decode cX8_isProduct 44 = .ok (.aload_n 0, 1) := by decide +kernel
theorem dX8_isProduct_45 : decode cX8_isProduct 45 = .ok (.dup, 1) := by decide +kernel
theorem dX8_isProduct_46 : decode cX8_isProduct 46 = .ok (.getfield 127, 3) := by decide +kernel
theorem dX8_isProduct_49 : decode cX8_isProduct 49 = .ok (.iconst 1, 1) := by decide +kernel
theorem dX8_isProduct_50 : decode cX8_isProduct 50 = .ok (.iadd, 1) := by decide +kernel
theorem dX8_isProduct_51 : decode cX8_isProduct 51 = .ok (.putfield 127, 3) := by decide +kernel
theorem dX8_isProduct_54 : decode cX8_isProduct 54 = .ok (.aload_n 0, 1) := by decide +kernel
theorem dX8_isProduct_55 : decode cX8_isProduct 55 = .ok (.invokevirtual 213, 3) := by decide +kernel
theorem dX8_isProduct_58 : decode cX8_isProduct 58 = .ok (.ifCond .ne 5, 3) := by decide +kernel
theorem dX8_isProduct_61 : decode cX8_isProduct 61 = .ok (.iconst 0, 1) := by decide +kernel
theorem dX8_isProduct_62 : decode cX8_isProduct 62 = .ok (.ireturn, 1) := by decide +kernel
theorem dX8_isProduct_63 : decode cX8_isProduct 63 = .ok (.aload_n 0, 1) := by decide +kernel
theorem dX8_isProduct_64 : decode cX8_isProduct 64 = .ok (.iload_n 1, 1) := by decide +kernel
theorem dX8_isProduct_65 : decode cX8_isProduct 65 = .ok (.invokevirtual 182, 3) := by decide +kernel
theorem dX8_isProduct_68 : decode cX8_isProduct 68 = .ok (.goto (-59), 3) := by decide +kernel
theorem dX8_isProduct_71 : decode cX8_isProduct 71 = .ok (.iconst 1, 1) := by decide +kernel
theorem dX8_isProduct_72 : decode cX8_isProduct 72 = .ok (.ireturn, 1) := by decide +kernel
theorem dX8_isValue_0 : decode cX8_isValue 0 = .ok (.aload_n 0, 1) := by decide +kernel
theorem dX8_isValue_1 : decode cX8_isValue 1 = .ok (.getfield 17, 3) := by decide +kernel
theorem dX8_isValue_4 : decode cX8_isValue 4 = .ok (.aload_n 0, 1) := by decide +kernel
theorem dX8_isValue_5 : decode cX8_isValue 5 = .ok (.getfield 127, 3) := by decide +kernel
theorem dX8_isValue_8 : decode cX8_isValue 8 = .ok (.iaload, 1) := by decide +kernel
theorem dX8_isValue_9 : decode cX8_isValue 9 = .ok (.istore_n 1, 1) := by decide +kernel
theorem dX8_isValue_10 : decode cX8_isValue 10 = .ok (.aload_n 0, 1) := by decide +kernel
theorem dX8_isValue_11 : decode cX8_isValue 11 = .ok (.bipush 41, 2) := by decide +kernel
theorem dX8_isValue_13 : decode cX8_isValue 13 = .ok (.invokevirtual 130, 3) := by decide +kernel
theorem dX8_isValue_16 : decode cX8_isValue 16 = .ok (.ifCond .eq 33, 3) := by decide +kernel
theorem dX8_isValue_19 : decode cX8_isValue 19 = .ok (.aload_n 0, 1) := by decide +kernel
theorem dX8_isValue_20 : decode cX8_isValue 20 = .ok (.bipush 32, 2) := by decide +kernel
theorem dX8_isValue_22 : decode cX8_isValue 22 = .ok (.invokevirtual 182, 3) := by decide +kernel
theorem dX8_isValue_25 : decode cX8_isValue 25 = .ok (.aload_n 0, 1) := by decide +kernel
theorem dX8_isValue_26 : decode cX8_isValue 26 = .ok (.aload_n 0, 1) := by decide +kernel
theorem dX8_isValue_27 : decode cX8_isValue 27 = .ok (.aload_n 0, 1) := by decide +kernel
theorem dX8_isValue_28 : decode cX8_isValue 28 = .ok (.getfield 127, 3) := by decide +kernel
theorem dX8_isValue_31 : decode cX8_isValue 31 = .ok (.invokevirtual 216, 3) := by decide +kernel
theorem dX8_isValue_34 : decode cX8_isValue 34 = .ok (.invokevirtual 182, 3) := by decide +kernel
theorem dX8_isValue_37 : decode cX8_isValue 37 = .ok (.aload_n 0, 1) := by decide +kernel
theorem dX8_isValue_38 : decode cX8_isValue 38 = .ok (.dup, 1) := by decide +kernel
theorem dX8_isValue_39 : decode cX8_isValue 39 = .ok (.getfield 127, 3) := by decide +kernel
theorem dX8_isValue_42 : decode cX8_isValue 42 = .ok (.iconst 1, 1) := by decide +kernel
theorem dX8_isValue_43 : decode cX8_isValue 43 = .ok (.iadd, 1) := by decide +kernel
theorem dX8_isValue_44 : decode cX8_isValue 44 = .ok (.putfield 127, 3) := by decide +kernel
theorem dX8_isValue_47 : decode cX8_isValue 47 = .ok (.iconst 1, 1) := by decide +kernel
theorem dX8_isValue_48 : decode cX8_isValue 48 = .ok (.ireturn, 1) := by decide +kernel
theorem dX8_isValue_49 : decode cX8_isValue 49 = .ok (.aload_n 0, 1) := by decide +kernel
theorem dX8_isValue_50 : decode cX8_isValue 50 = .ok (.bipush 20, 2) := by decide +kernel
theorem dX8_isValue_52 : decode cX8_isValue 52 = .ok (.invokevirtual 130, 3) := by decide +kernel
theorem dX8_isValue_55 : decode cX8_isValue 55 = .ok (.ifCond .ne 12, 3) := by decide +kernel
theorem dX8_isValue_58 : decode cX8_isValue 58 = .ok (.aload_n 0, 1) := by decide +kernel
theorem dX8_isValue_59 : decode cX8_isValue 59 = .ok (.bipush 21, 2) := by decide +kernel
theorem dX8_isValue_61 : decode cX8_isValue 61 = .ok (.invokevirtual 130, 3) := by decide +kernel
theorem dX8_isValue_64 : decode cX8_isValue 64 = .ok (.ifCond .eq 20, 3) := by decide +kernel
theorem dX8_isValue_67 : decode cX8_isValue 67 = .ok (.aload_n 0, 1) := by decide +kernel
theorem dX8_isValue_68 : decode cX8_isValue 68 = .ok (.iload_n 1, 1) := by decide +kernel
theorem dX8_isValue_69 : decode cX8_isValue 69 = .ok (.invokevirtual 182, 3) := by decide +kernel
theorem dX8_isValue_72 : decode cX8_isValue 72 = .ok (.aload_n 0, 1) := by decide +kernel
theorem dX8_isValue_73 : decode cX8_isValue 73 = .ok (.dup, 1) := by decide +kernel
theorem dX8_isValue_74 : decode cX8_isValue 74 = .ok (.getfield 127, 3) := by decide +kernel
theorem dX8_isValue_77 : decode cX8_isValue 77 = .ok (.iconst 1, 1) := by decide +kernel
theorem dX8_isValue_78 : decode cX8_isValue 78 = .ok (.iadd, 1) := by decide +kernel
theorem dX8_isValue_79 : decode cX8_isValue 79 = .ok (.putfield 127, 3) := by decide +kernel
theorem dX8_isValue_82 : decode cX8_isValue 82 = .ok (.iconst 1, 1) := by decide +kernel
theorem dX8_isValue_83 : decode cX8_isValue 83 = .ok (.ireturn, 1) := by decide +kernel
theorem dX8_isValue_84 : decode cX8_isValue 84 = .ok (.aload_n 0, 1) := by decide +kernel
theorem dX8_isValue_85 : decode cX8_isValue 85 = .ok (.bipush 25, 2) := by decide +kernel
theorem dX8_isValue_87 : decode cX8_isValue 87 = .ok (.invokevirtual 133, 3) := by decide +kernel
theorem dX8_isValue_90 : decode cX8_isValue 90 = .ok (.ifCond .eq 50, 3) := by decide +kernel
theorem dX8_isValue_93 : decode cX8_isValue 93 = .ok (.aload_n 0, 1) := by decide +kernel
theorem dX8_isValue_94 : decode cX8_isValue 94 = .ok (.iload_n 1, 1) := by decide +kernel
theorem dX8_isValue_95 : decode cX8_isValue 95 = .ok (.invokevirtual 182, 3) := by decide +kernel
theorem dX8_isValue_98 : decode cX8_isValue 98 = .ok (.aload_n 0, 1) := by decide +kernel
theorem dX8_isValue_99 : decode cX8_isValue 99 = .ok (.aload_n 0, 1) := by decide +kernel
theorem dX8_isValue_100 : decode cX8_isValue 100 = .ok (.bipush 12, 2) := by decide +kernel
theorem dX8_isValue_102 : decode cX8_isValue 102 = .ok (.invokevirtual 130, 3) := by decide +kernel
theorem dX8_isValue_105 : decode cX8_isValue 105 = .ok (.ifCond .eq 7, 3) := by decide +kernel
theorem dX8_isValue_108 : decode cX8_isValue 108 = .ok (.iconst 0, 1) := by decide +kernel
theorem dX8_isValue_109 : decode cX8_isValue 109 = .ok (.goto 4, 3) := by decide +kernel
theorem dX8_isValue_112 : decode cX8_isValue 112 = .ok (.iconst 1, 1) := by decide +kernel
theorem dX8_isValue_113 : decode cX8_isValue 113 = .ok (.invokevirtual 182, 3) := by decide +kernel
theorem dX8_isValue_116 : decode cX8_isValue 116 = .ok (.aload_n 0, 1) := by decide +kernel
theorem dX8_isValue_117 : decode cX8_isValue 117 = .ok (.bipush 12, 2) := by decide +kernel
theorem dX8_isValue_119 : decode cX8_isValue 119 = .ok (.invokevirtual 133, 3) := by decide +kernel
theorem dX8_isValue_122 : decode cX8_isValue 122 = .ok (.ifCond .ne 12, 3) := by decide +kernel
theorem dX8_isValue_125 : decode cX8_isValue 125 = .ok (.aload_n 0, 1) := by decide +kernel
theorem dX8_isValue_126 : decode cX8_isValue 126 = .ok (.bipush 13, 2) := by decide +kernel
theorem dX8_isValue_128 : decode cX8_isValue 128 = .ok (.invokevirtual 133, 3) := by decide +kernel
theorem dX8_isValue_131 : decode cX8_isValue 131 = .ok (.ifCond .eq 7, 3) := by decide +kernel
theorem dX8_isValue_134 : decode cX8_isValue 134 = .ok (.iconst 1, 1) := by decide +kernel
theorem dX8_isValue_135 : decode cX8_isValue 135 = .ok (.goto 4, 3) := by decide +kernel
theorem dX8_isValue_138 : decode cX8_isValue 138 = .ok (.iconst 0, 1) := by decide +kernel
theorem dX8_isValue_139 : decode cX8_isValue 139 = .ok (.ireturn, 1) := by decide +kernel
theorem dX8_isValue_140 : decode cX8_isValue 140 = .ok (.aload_n 0, 1) := by decide +kernel
theorem dX8_isValue_141 : decode cX8_isValue 141 = .ok (.bipush 23, 2) := by decide +kernel
theorem dX8_isValue_143 : decode cX8_isValue 143 = .ok (.invokevirtual 130, 3) := by decide +kernel
theorem dX8_isValue_146 : decode cX8_isValue 146 = .ok (.ifCond .ne 12, 3) := by decide +kernel
theorem dX8_isValue_149 : decode cX8_isValue 149 = .ok (.aload_n 0, 1) := by decide +kernel
theorem dX8_isValue_150 : decode cX8_isValue 150 = .ok (.bipush 24, 2) := by decide +kernel
theorem dX8_isValue_152 : decode cX8_isValue 152 = .ok (.invokevirtual 130, 3) := by decide +kernel
theorem dX8_isValue_155 : decode cX8_isValue 155 = .ok (.ifCond .eq 24, 3) := by decide +kernel
theorem dX8_isValue_158 : decode cX8_isValue 158 = .ok (.aload_n 0, 1) := by decide +kernel
theorem dX8_isValue_159 : decode cX8_isValue 159 = .ok (.aload_n 0, 1) := by decide +kernel
theorem dX8_isValue_160 : decode cX8_isValue 160 = .ok (.bipush 24, 2) := by decide +kernel
theorem dX8_isValue_162 : decode cX8_isValue 162 = .ok (.invokevirtual 130, 3) := by decide +kernel
theorem dX8_isValue_165 : decode cX8_isValue 165 = .ok (.ifCond .eq 8, 3) := by decide +kernel
theorem dX8_isValue_168 : decode cX8_isValue 168 = .ok (.bipush 21, 2) := by decide +kernel
theorem dX8_isValue_170 : decode cX8_isValue 170 = .ok (.goto 5, 3) := by decide +kernel
theorem dX8_isValue_173 : decode cX8_isValue 173 = .ok (.bipush 20, 2) := by decide +kernel
theorem dX8_isValue_175 : decode cX8_isValue 175 = .ok (.invokevirtual 204, 3) := by decide +kernel
theorem dX8_isValue_178 : decode cX8_isValue 178 = .ok (.ireturn, 1) := by decide +kernel
theorem dX8_isValue_179 : decode cX8_isValue 179 = .ok (.aload_n 0, 1) := by decide +kernel
theorem dX8_isValue_180 : decode cX8_isValue 180 = .ok (.bipush 45, 2) := by decide +kernel
theorem dX8_isValue_182 : decode cX8_isValue 182 = .ok (.invokevirtual 201, 3) := by decide +kernel
theorem dX8_isValue_185 : decode cX8_isValue 185 = .ok (.ifCond .eq 37, 3) := by decide +kernel
theorem dX8_isValue_188 : decode cX8_isValue 188 = .ok (.aload_n 0, 1) := by decide +kernel
theorem dX8_isValue_189 : decode cX8_isValue 189 = .ok (.invokevirtual 198, 3) := by decide +kernel
theorem dX8_isValue_192 : decode cX8_isValue 192 = .ok (.ifCond .eq 10, 3) := by decide +kernel
theorem dX8_isValue_195 : decode cX8_isValue 195 = .ok (.aload_n 0, 1) := by decide +kernel
theorem dX8_isValue_196 : decode cX8_isValue 196 = .ok (.invokevirtual 213, 3) := by decide +kernel
theorem dX8_isValue_199 : decode cX8_isValue 199 = .ok (.ifCond .ne 5, 3) := by decide +kernel
theorem dX8_isValue_202 : decode cX8_isValue 202 = .ok (.iconst 0, 1) := by decide +kernel
theorem dX8_isValue_203 : decode cX8_isValue 203 = .ok (.ireturn, 1) := by decide +kernel
theorem dX8_isValue_204 : decode cX8_isValue 204 = .ok (.aload_n 0, 1) := by decide +kernel
theorem dX8_isValue_205 : decode cX8_isValue 205 = .ok (.dup, 1) := by decide +kernel
theorem dX8_isValue_206 : decode cX8_isValue 206 = .ok (.getfield 189, 3) := by decide +kernel
theorem dX8_isValue_209 : decode cX8_isValue 209 = .ok (.iconst 1, 1) := by decide +kernel
theorem dX8_isValue_210 : decode cX8_isValue 210 = .ok (.isub, 1) := by decide +kernel
theorem dX8_isValue_211 : decode cX8_isValue 211 = .ok (.putfield 189, 3) := by decide +kernel
theorem dX8_isValue_214 : decode cX8_isValue 214 = .ok (.aload_n 0, 1) := by decide +kernel
theorem dX8_isValue_215 : decode cX8_isValue 215 = .ok (.bipush 33, 2) := by decide +kernel
theorem dX8_isValue_217 : decode cX8_isValue 217 = .ok (.invokevirtual 182, 3) := by decide +kernel
theorem dX8_isValue_220 : decode cX8_isValue 220 = .ok (.iconst 1, 1) := by decide +kernel
theorem dX8_isValue_221 : decode cX8_isValue 221 = .ok (.ireturn, 1) := by decide +kernel
theorem dX8_isValue_222 : decode cX8_isValue 222 = .ok (.aload_n 0, 1) := by decide +kernel
theorem dX8_isValue_223 : decode cX8_isValue 223 = .ok (.bipush 22, 2) := by decide +kernel
theorem dX8_isValue_225 : decode cX8_isValue 225 = .ok (.invokevirtual 133, 3) := by decide +kernel
theorem dX8_isValue_228 : decode cX8_isValue 228 = .ok (.ifCond .eq 11, 3) := by decide +kernel
theorem dX8_isValue_231 : decode cX8_isValue 231 = .ok (.aload_n 0, 1) := by decide +kernel
theorem dX8_isValue_232 : decode cX8_isValue 232 = .ok (.bipush 22, 2) := by decide +kernel
theorem dX8_isValue_234 : decode cX8_isValue 234 = .ok (.iconst 0, 1) := by decide +kernel
theorem dX8_isValue_235 : decode cX8_isValue 235 = .ok (.invokevirtual 219, 3) := by decide +kernel
theorem dX8_isValue_238 : decode cX8_isValue 238 = .ok (.ireturn, 1) := by decide +kernel
theorem dX8_isValue_239 : decode cX8_isValue 239 = .ok (.aload_n 0, 1) := by decide +kernel
theorem dX8_isValue_240 : decode cX8_isValue 240 = .ok (.bipush 30, 2) := by decide +kernel
theorem dX8_isValue_242 : decode cX8_isValue 242 = .ok (.invokevirtual 133, 3) := by decide +kernel
theorem dX8_isValue_245 : decode cX8_isValue 245 = .ok (.ifCond .ne 12, 3) := by decide +kernel
theorem dX8_isValue_248 : decode cX8_isValue 248 = .ok (.aload_n 0, 1) := by decide +kernel
theorem dX8_isValue_249 : decode cX8_isValue 249 = .ok (.bipush 31, 2) := by decide +kernel
theorem dX8_isValue_251 : decode cX8_isValue 251 = .ok (.invokevirtual 133, 3) := by decide +kernel
theorem dX8_isValue_254 : decode cX8_isValue 254 = .ok (.ifCond .eq 7, 3) := by decide +kernel
theorem dX8_isValue_257 : decode cX8_isValue 257 = .ok (.iconst 1, 1) := by decide +kernel
theorem dX8_isValue_258 : decode cX8_isValue 258 = .ok (.goto 4, 3) := by decide +kernel
theorem dX8_isValue_261 : decode cX8_isValue 261 = .ok (.iconst 0, 1) := by decide +kernel
theorem dX8_isValue_262 : decode cX8_isValue 262 = .ok (.istore_n 2, 1) := by decide +kernel
theorem dX8_isValue_263 : decode cX8_isValue 263 = .ok (.aload_n 0, 1) := by decide +kernel
theorem dX8_isValue_264 : decode cX8_isValue 264 = .ok (.iload_n 2, 1) := by decide +kernel
theorem dX8_isValue_265 : decode cX8_isValue 265 = .ok (.ifCond .eq 7, 3) := by decide +kernel
theorem dX8_isValue_268 : decode cX8_isValue 268 = .ok (.iload_n 1, 1) := by decide +kernel
theorem dX8_isValue_269 : decode cX8_isValue 269 = .ok (.goto 4, 3) := by decide +kernel
theorem dX8_isValue_272 : decode cX8_isValue 272 = .ok (.iconst (-1), 1) := by decide +kernel
theorem dX8_isValue_273 : decode cX8_isValue 273 = .ok (.iload_n 2, 1) := by decide +kernel
theorem dX8_isValue_274 : decode cX8_isValue 274 = .ok (.invokevirtual 219, 3) := by decide +kernel
theorem dX8_isValue_277 : decode cX8_isValue 277 = .ok (.ireturn, 1) := by decide +kernel
theorem dX8_isInside_0 : decode cX8_isInside 0 = .ok (.aload_n 0, 1) := by decide +kernel
theorem dX8_isInside_1 : decode cX8_isInside 1 = .ok (.bipush 40, 2) := by decide +kernel
theorem dX8_isInside_3 : decode cX8_isInside 3 = .ok (.invokevirtual 201, 3) := by decide +kernel
theorem dX8_isInside_6 : decode cX8_isInside 6 = .ok (.ifCond .eq 37, 3) := by decide +kernel
theorem dX8_isInside_9 : decode cX8_isInside 9 = .ok (.aload_n 0, 1) := by decide +kernel
theorem dX8_isInside_10 : decode cX8_isInside 10 = .ok (.invokevirtual 198, 3) := by decide +kernel
theorem dX8_isInside_13 : decode cX8_isInside 13 = .ok (.ifCond .eq 30, 3) := by decide +kernel
theorem dX8_isInside_16 : decode cX8_isInside 16 = .ok (.aload_n 0, 1) := by decide +kernel
theorem dX8_isInside_17 : decode cX8_isInside 17 = .ok (.invokevirtual 207, 3) := by decide +kernel
theorem dX8_isInside_20 : decode cX8_isInside 20 = .ok (.ifCond .eq 23, 3) := by decide +kernel
theorem dX8_isInside_23 : decode cX8_isInside 23 = .ok (.iload_n 2, 1) := by decide +kernel
theorem dX8_isInside_24 : decode cX8_isInside 24 = .ok (.ifCond .eq 21, 3) := by decide +kernel
theorem dX8_isInside_27 : decode cX8_isInside 27 = .ok (.aload_n 0, 1) := by decide +kernel
theorem dX8_isInside_28 : decode cX8_isInside 28 = .ok (.bipush 44, 2) := by decide +kernel
theorem dX8_isInside_30 : decode cX8_isInside 30 = .ok (.invokevirtual 156, 3) := by decide +kernel
theorem dX8_isInside_33 : decode cX8_isInside 33 = .ok (.ifCond .eq 10, 3) := by decide +kernel
theorem dX8_isInside_36 : decode cX8_isInside 36 = .ok (.aload_n 0, 1) := by decide +kernel
theorem dX8_isInside_37 : decode cX8_isInside 37 = .ok (.invokevirtual 207, 3) := by decide +kernel
theorem dX8_isInside_40 : decode cX8_isInside 40 = .ok (.ifCond .ne 5, 3) := by decide +kernel
theorem dX8_isInside_43 : decode cX8_isInside 43 = .ok (.iconst 0, 1) := by decide +kernel
theorem dX8_isInside_44 : decode cX8_isInside 44 = .ok (.ireturn, 1) := by decide +kernel
theorem dX8_isInside_45 : decode cX8_isInside 45 = .ok (.aload_n 0, 1) := by decide +kernel
theorem dX8_isInside_46 : decode cX8_isInside 46 = .ok (.dup, 1) := by decide +kernel
theorem dX8_isInside_47 : decode cX8_isInside 47 = .ok (.getfield 189, 3) := by decide +kernel
theorem dX8_isInside_50 : decode cX8_isInside 50 = .ok (.iconst 1, 1) := by decide +kernel
theorem dX8_isInside_51 : decode cX8_isInside 51 = .ok (.isub, 1) := by decide +kernel
theorem dX8_isInside_52 : decode cX8_isInside 52 = .ok (.putfield 189, 3) := by decide +kernel
theorem dX8_isInside_55 : decode cX8_isInside 55 = .ok (.iload_n 1, 1) := by decide +kernel
theorem dX8_isInside_56 : decode cX8_isInside 56 = .ok (.iconst (-1), 1) := by decide +kernel
theorem dX8_isInside_57 : decode cX8_isInside 57 = .ok (.if_icmp .eq 8, 3) := by decide +kernel
theorem dX8_isInside_60 : decode cX8_isInside 60 = .ok (.aload_n 0, 1) := by decide +kernel
theorem dX8_isInside_61 : decode cX8_isInside 61 = .ok (.iload_n 1, 1) := by decide +kernel
theorem dX8_isInside_62 : decode cX8_isInside 62 = .ok (.invokevirtual 182, 3) := by decide +kernel
theorem dX8_isInside_65 : decode cX8_isInside 65 = .ok (.aload_n 0, 1) := by decide +kernel
theorem dX8_isInside_66 : decode cX8_isInside 66 = .ok (.bipush 41, 2) := by decide +kernel
theorem dX8_isInside_68 : decode cX8_isInside 68 = .ok (.invokevirtual 156, 3) := by decide +kernel
theorem dX8_isInside_71 : decode cX8_isInside 71 = .ok (.ireturn, 1) := by decide +kernel
theorem mi_X8_isTest : MInfo yX8_isTest cX8_isTest 1 (some .boolean) 0 := ⟨wq_1619, wq_135, by decide, ⟨by decide +kernel, by decide +kernel, by decide +kernel⟩, by decide +kernel⟩
theorem mi_X8_isBoth : MInfo yX8_isBoth cX8_isBoth 1 (some .boolean) 0 := ⟨wq_1623, wq_135, by decide, ⟨by decide +kernel, by decide +kernel, by decide +kernel⟩, by decide +kernel⟩
theorem mi_X8_isSingle : MInfo yX8_isSingle cX8_isSingle 2 (some .boolean) 0 := ⟨wq_1627, wq_135, by decide, ⟨by decide +kernel, by decide +kernel, by decide +kernel⟩, by decide +kernel⟩
theorem mi_X8_isSum : MInfo yX8_isSum cX8_isSum 2 (some .boolean) 0 := ⟨wq_1651, wq_135, by decide, ⟨by decide +kernel, by decide +kernel, by decide +kernel⟩, by decide +kernel⟩
theorem mi_X8_isProduct : MInfo yX8_isProduct cX8_isProduct 2 (some .boolean) 0 := ⟨wq_1655, wq_135, by decide, ⟨by decide +kernel, by decide +kernel, by decide +kernel⟩, by decide +kernel⟩
theorem mi_X8_isValue : MInfo yX8_isValue cX8_isValue 3 (some .boolean) 0 := ⟨wq_1659, wq_135, by decide, ⟨by decide +kernel, by decide +kernel, by decide +kernel⟩, by decide +kernel⟩
theorem mi_X8_isInside : MInfo yX8_isInside cX8_isInside 3 (some .boolean) 2 := ⟨wq_1667, wq_135, by decide, ⟨by decide +kernel, by decide +kernel, by decide +kernel⟩, by decide +kernel⟩
def wl_X8_isTest_9 (G : Nat → M2 → M2 → Int32 → Int32 → (Int32 → M2 → M2 → Prop) → Prop) (K : Int32 → M2 → M2 → Prop) : Nat → M2 → M2 → Prop
  | 0, _, _ => False
  | n + 1, N, P => wp_X8_eat N P 29 (fun r_12 N_12 P_12 => ((r_12 = 0 → K 1 N_12 P_12) ∧ (¬ r_12 = 0 → G 1 N_12 P_12 0 0 (fun r_19 N_19 P_19 => ((¬ r_19 = 0 → wp_X8_put N_19 P_19 29 (fun N_30 P_30 => wl_X8_isTest_9 G K n N_30 P_30)) ∧ (r_19 = 0 → K 0 N_19 P_19))))))
def wp_X8_isTest (G : Nat → M2 → M2 → Int32 → Int32 → (Int32 → M2 → M2 → Prop) → Prop) (N : M2) (P : M2) (K : Int32 → M2 → M2 → Prop) : Prop := G 1 N P 0 0 (fun r_1 N_1 P_1 => ((¬ r_1 = 0 → wl_X8_isTest_9 G K fK N_1 P_1) ∧ (r_1 = 0 → K 0 N_1 P_1)))
def wl_X8_isBoth_9 (G : Nat → M2 → M2 → Int32 → Int32 → (Int32 → M2 → M2 → Prop) → Prop) (K : Int32 → M2 → M2 → Prop) : Nat → M2 → M2 → Prop
  | 0, _, _ => False
  | n + 1, N, P => wp_X8_eat N P 16 (fun r_12 N_12 P_12 => ((r_12 = 0 → K 1 N_12 P_12) ∧ (¬ r_12 = 0 → G 2 N_12 P_12 0 0 (fun r_19 N_19 P_19 => ((¬ r_19 = 0 → wp_X8_put N_19 P_19 16 (fun N_30 P_30 => wl_X8_isBoth_9 G K n N_30 P_30)) ∧ (r_19 = 0 → K 0 N_19 P_19))))))
def wp_X8_isBoth (G : Nat → M2 → M2 → Int32 → Int32 → (Int32 → M2 → M2 → Prop) → Prop) (N : M2) (P : M2) (K : Int32 → M2 → M2 → Prop) : Prop := G 2 N P 0 0 (fun r_1 N_1 P_1 => ((¬ r_1 = 0 → wl_X8_isBoth_9 G K fK N_1 P_1) ∧ (r_1 = 0 → K 0 N_1 P_1)))
def wj_X8_isSingle_206 (G : Nat → M2 → M2 → Int32 → Int32 → (Int32 → M2 → M2 → Prop) → Prop) (K : Int32 → M2 → M2 → Prop) (N : M2) (P : M2) (q0 : Int32) : Prop := ((¬ q0 = ((-1)) → (∀ N_221 : M2, N_221 = up2 N 229 (fun _ => (N 229 0) + 1) → G 3 N_221 P 0 0 (fun r_225 N_225 P_225 => ((¬ r_225 = 0 → wp_X8_put N_225 P_225 q0 (fun N_235 P_235 => K 1 N_235 P_235)) ∧ (r_225 = 0 → K 0 N_225 P_225))))) ∧ (q0 = ((-1)) → K 0 N P))
def wj_X8_isSingle_103 (G : Nat → M2 → M2 → Int32 → Int32 → (Int32 → M2 → M2 → Prop) → Prop) (K : Int32 → M2 → M2 → Prop) (N : M2) (P : M2) : Prop := wp_X8_is N P 26 (fun r_107 => ((r_107 = 0 → wp_X8_isNamed N P 20 (fun r_120 N_120 P_120 => (zb r_120 ∧ K r_120 N_120 P_120))) ∧ (¬ r_107 = 0 → wp_X8_isNamed N P 21 (fun r_120 N_120 P_120 => (zb r_120 ∧ K r_120 N_120 P_120)))))
def wp_X8_isSingle (G : Nat → M2 → M2 → Int32 → Int32 → (Int32 → M2 → M2 → Prop) → Prop) (N : M2) (P : M2) (K : Int32 → M2 → M2 → Prop) : Prop := wp_X8_is N P 28 (fun r_3 => ((r_3 = 0 → wp_X8_isSign N P 91 (fun r_46 => ((r_46 = 0 → wp_X8_is N P 26 (fun r_88 => ((¬ r_88 = 0 → wj_X8_isSingle_103 G K N P) ∧ (r_88 = 0 → wp_X8_is N P 27 (fun r_97 => ((r_97 = 0 → G 3 N P 0 0 (fun r_125 N_125 P_125 => ((¬ r_125 = 0 → wp_X8_isSign N_125 P_125 60 (fun r_136 => ((r_136 = 0 → wp_X8_isSign N_125 P_125 62 (fun r_150 => ((r_150 = 0 → wp_X8_isSign N_125 P_125 61 (fun r_164 => ((r_164 = 0 → wp_X8_is N_125 P_125 300 (fun r_179 => ((r_179 = 0 → wp_X8_is N_125 P_125 301 (fun r_194 => ((r_194 = 0 → wj_X8_isSingle_206 G K N_125 P_125 ((-1))) ∧ (¬ r_194 = 0 → wj_X8_isSingle_206 G K N_125 P_125 44)))) ∧ (¬ r_179 = 0 → wj_X8_isSingle_206 G K N_125 P_125 43)))) ∧ (¬ r_164 = 0 → wj_X8_isSingle_206 G K N_125 P_125 42)))) ∧ (¬ r_150 = 0 → wj_X8_isSingle_206 G K N_125 P_125 39)))) ∧ (¬ r_136 = 0 → wj_X8_isSingle_206 G K N_125 P_125 38)))) ∧ (r_125 = 0 → K 0 N_125 P_125)))) ∧ (¬ r_97 = 0 → wj_X8_isSingle_103 G K N P))))))) ∧ (¬ r_46 = 0 → wp_X8_isDeeper N P (fun r_53 N_53 P_53 => ((r_53 = 0 → K 0 N_53 P_53) ∧ (¬ r_53 = 0 → G 0 N_53 P_53 0 0 (fun r_60 N_60 P_60 => ((¬ r_60 = 0 → (∀ N_75 : M2, N_75 = up2 N_60 230 (fun _ => (N_60 230 0) - 1) → wp_X8_eatSign N_75 P_60 93 (fun r_81 N_81 P_81 => (zb r_81 ∧ K r_81 N_81 P_81)))) ∧ (r_60 = 0 → K 0 N_60 P_60)))))))))) ∧ (¬ r_3 = 0 → wp_X8_isDeeper N P (fun r_10 N_10 P_10 => ((r_10 = 0 → K 0 N_10 P_10) ∧ (¬ r_10 = 0 → G 2 N_10 P_10 0 0 (fun r_17 N_17 P_17 => ((¬ r_17 = 0 → (∀ N_32 : M2, N_32 = up2 N_17 230 (fun _ => (N_17 230 0) - 1) → wp_X8_put N_32 P_17 28 (fun N_38 P_38 => K 1 N_38 P_38))) ∧ (r_17 = 0 → K 0 N_17 P_17)))))))))
def wj_X8_isSum_43 (G : Nat → M2 → M2 → Int32 → Int32 → (Int32 → M2 → M2 → Prop) → Prop) (C9 : M2 → M2 → Prop) (K : Int32 → M2 → M2 → Prop) (N : M2) (P : M2) (q0 : Int32) : Prop := (∀ N_51 : M2, N_51 = up2 N 229 (fun _ => (N 229 0) + 1) → G 4 N_51 P 0 0 (fun r_55 N_55 P_55 => ((¬ r_55 = 0 → wp_X8_put N_55 P_55 q0 (fun N_65 P_65 => C9 N_65 P_65)) ∧ (r_55 = 0 → K 0 N_55 P_55))))
def wl_X8_isSum_9 (G : Nat → M2 → M2 → Int32 → Int32 → (Int32 → M2 → M2 → Prop) → Prop) (K : Int32 → M2 → M2 → Prop) : Nat → M2 → M2 → Prop
  | 0, _, _ => False
  | n + 1, N, P => wp_X8_isSign N P 43 (fun r_12 => ((¬ r_12 = 0 → wp_X8_isSign N P 43 (fun r_30 => ((r_30 = 0 → wj_X8_isSum_43 G (wl_X8_isSum_9 G K n) K N P 35) ∧ (¬ r_30 = 0 → wj_X8_isSum_43 G (wl_X8_isSum_9 G K n) K N P 34)))) ∧ (r_12 = 0 → wp_X8_isSign N P 45 (fun r_21 => ((r_21 = 0 → K 1 N P) ∧ (¬ r_21 = 0 → wp_X8_isSign N P 43 (fun r_30 => ((r_30 = 0 → wj_X8_isSum_43 G (wl_X8_isSum_9 G K n) K N P 35) ∧ (¬ r_30 = 0 → wj_X8_isSum_43 G (wl_X8_isSum_9 G K n) K N P 34)))))))))
def wp_X8_isSum (G : Nat → M2 → M2 → Int32 → Int32 → (Int32 → M2 → M2 → Prop) → Prop) (N : M2) (P : M2) (K : Int32 → M2 → M2 → Prop) : Prop := G 4 N P 0 0 (fun r_1 N_1 P_1 => ((¬ r_1 = 0 → wl_X8_isSum_9 G K fK N_1 P_1) ∧ (r_1 = 0 → K 0 N_1 P_1)))
def wj_X8_isProduct_43 (G : Nat → M2 → M2 → Int32 → Int32 → (Int32 → M2 → M2 → Prop) → Prop) (C9 : M2 → M2 → Prop) (K : Int32 → M2 → M2 → Prop) (N : M2) (P : M2) (q0 : Int32) : Prop := (∀ N_51 : M2, N_51 = up2 N 229 (fun _ => (N 229 0) + 1) → G 5 N_51 P 0 0 (fun r_55 N_55 P_55 => ((¬ r_55 = 0 → wp_X8_put N_55 P_55 q0 (fun N_65 P_65 => C9 N_65 P_65)) ∧ (r_55 = 0 → K 0 N_55 P_55))))
def wl_X8_isProduct_9 (G : Nat → M2 → M2 → Int32 → Int32 → (Int32 → M2 → M2 → Prop) → Prop) (K : Int32 → M2 → M2 → Prop) : Nat → M2 → M2 → Prop
  | 0, _, _ => False
  | n + 1, N, P => wp_X8_isSign N P 42 (fun r_12 => ((¬ r_12 = 0 → wp_X8_isSign N P 42 (fun r_30 => ((r_30 = 0 → wj_X8_isProduct_43 G (wl_X8_isProduct_9 G K n) K N P 37) ∧ (¬ r_30 = 0 → wj_X8_isProduct_43 G (wl_X8_isProduct_9 G K n) K N P 36)))) ∧ (r_12 = 0 → wp_X8_isSign N P 47 (fun r_21 => ((r_21 = 0 → K 1 N P) ∧ (¬ r_21 = 0 → wp_X8_isSign N P 42 (fun r_30 => ((r_30 = 0 → wj_X8_isProduct_43 G (wl_X8_isProduct_9 G K n) K N P 37) ∧ (¬ r_30 = 0 → wj_X8_isProduct_43 G (wl_X8_isProduct_9 G K n) K N P 36)))))))))
def wp_X8_isProduct (G : Nat → M2 → M2 → Int32 → Int32 → (Int32 → M2 → M2 → Prop) → Prop) (N : M2) (P : M2) (K : Int32 → M2 → M2 → Prop) : Prop := G 5 N P 0 0 (fun r_1 N_1 P_1 => ((¬ r_1 = 0 → wl_X8_isProduct_9 G K fK N_1 P_1) ∧ (r_1 = 0 → K 0 N_1 P_1)))
def wj_X8_isValue_262 (G : Nat → M2 → M2 → Int32 → Int32 → (Int32 → M2 → M2 → Prop) → Prop) (K : Int32 → M2 → M2 → Prop) (N : M2) (P : M2) (v1 : Int32) (q0 : Int32) : Prop := ((q0 = 0 → G 6 N P ((-1)) q0 (fun r_274 N_274 P_274 => (zb r_274 ∧ K r_274 N_274 P_274))) ∧ (¬ q0 = 0 → G 6 N P v1 q0 (fun r_274 N_274 P_274 => (zb r_274 ∧ K r_274 N_274 P_274))))
def wj_X8_isValue_158 (G : Nat → M2 → M2 → Int32 → Int32 → (Int32 → M2 → M2 → Prop) → Prop) (K : Int32 → M2 → M2 → Prop) (N : M2) (P : M2) : Prop := wp_X8_is N P 24 (fun r_162 => ((r_162 = 0 → wp_X8_isNamed N P 20 (fun r_175 N_175 P_175 => (zb r_175 ∧ K r_175 N_175 P_175))) ∧ (¬ r_162 = 0 → wp_X8_isNamed N P 21 (fun r_175 N_175 P_175 => (zb r_175 ∧ K r_175 N_175 P_175)))))
def wj_X8_isValue_113 (G : Nat → M2 → M2 → Int32 → Int32 → (Int32 → M2 → M2 → Prop) → Prop) (K : Int32 → M2 → M2 → Prop) (N : M2) (P : M2) (q0 : Int32) : Prop := wp_X8_put N P q0 (fun N_113 P_113 => wp_X8_eat N_113 P_113 12 (fun r_119 N_119 P_119 => ((¬ r_119 = 0 → K 1 N_119 P_119) ∧ (r_119 = 0 → wp_X8_eat N_119 P_119 13 (fun r_128 N_128 P_128 => ((r_128 = 0 → K 0 N_128 P_128) ∧ (¬ r_128 = 0 → K 1 N_128 P_128)))))))
def wj_X8_isValue_67 (G : Nat → M2 → M2 → Int32 → Int32 → (Int32 → M2 → M2 → Prop) → Prop) (K : Int32 → M2 → M2 → Prop) (N : M2) (P : M2) (v1 : Int32) : Prop := wp_X8_put N P v1 (fun N_69 P_69 => (∀ N_79 : M2, N_79 = up2 N_69 229 (fun _ => (N_69 229 0) + 1) → K 1 N_79 P_69))
def wp_X8_isValue (G : Nat → M2 → M2 → Int32 → Int32 → (Int32 → M2 → M2 → Prop) → Prop) (N : M2) (P : M2) (K : Int32 → M2 → M2 → Prop) : Prop := (inb (N 229 0) 401 ∧ (∀ v1_9, v1_9 = N 224 (N 229 0).toInt.toNat → wp_X8_is N P 41 (fun r_13 => ((r_13 = 0 → wp_X8_is N P 20 (fun r_52 => ((¬ r_52 = 0 → wj_X8_isValue_67 G K N P v1_9) ∧ (r_52 = 0 → wp_X8_is N P 21 (fun r_61 => ((r_61 = 0 → wp_X8_eat N P 25 (fun r_87 N_87 P_87 => ((r_87 = 0 → wp_X8_is N_87 P_87 23 (fun r_143 => ((¬ r_143 = 0 → wj_X8_isValue_158 G K N_87 P_87) ∧ (r_143 = 0 → wp_X8_is N_87 P_87 24 (fun r_152 => ((r_152 = 0 → wp_X8_isSign N_87 P_87 45 (fun r_182 => ((r_182 = 0 → wp_X8_eat N_87 P_87 22 (fun r_225 N_225 P_225 => ((r_225 = 0 → wp_X8_eat N_225 P_225 30 (fun r_242 N_242 P_242 => ((¬ r_242 = 0 → wj_X8_isValue_262 G K N_242 P_242 v1_9 1) ∧ (r_242 = 0 → wp_X8_eat N_242 P_242 31 (fun r_251 N_251 P_251 => ((r_251 = 0 → wj_X8_isValue_262 G K N_251 P_251 v1_9 0) ∧ (¬ r_251 = 0 → wj_X8_isValue_262 G K N_251 P_251 v1_9 1))))))) ∧ (¬ r_225 = 0 → G 6 N_225 P_225 22 0 (fun r_235 N_235 P_235 => (zb r_235 ∧ K r_235 N_235 P_235)))))) ∧ (¬ r_182 = 0 → wp_X8_isDeeper N_87 P_87 (fun r_189 N_189 P_189 => ((r_189 = 0 → K 0 N_189 P_189) ∧ (¬ r_189 = 0 → G 5 N_189 P_189 0 0 (fun r_196 N_196 P_196 => ((¬ r_196 = 0 → (∀ N_211 : M2, N_211 = up2 N_196 230 (fun _ => (N_196 230 0) - 1) → wp_X8_put N_211 P_196 33 (fun N_217 P_217 => K 1 N_217 P_217))) ∧ (r_196 = 0 → K 0 N_196 P_196)))))))))) ∧ (¬ r_152 = 0 → wj_X8_isValue_158 G K N_87 P_87))))))) ∧ (¬ r_87 = 0 → wp_X8_put N_87 P_87 v1_9 (fun N_95 P_95 => wp_X8_is N_95 P_95 12 (fun r_102 => ((r_102 = 0 → wj_X8_isValue_113 G K N_95 P_95 1) ∧ (¬ r_102 = 0 → wj_X8_isValue_113 G K N_95 P_95 0)))))))) ∧ (¬ r_61 = 0 → wj_X8_isValue_67 G K N P v1_9))))))) ∧ (¬ r_13 = 0 → wp_X8_put N P 32 (fun N_22 P_22 => wp_X8_numberAt N_22 P_22 (N_22 229 0) (fun r_31 => wp_X8_put N_22 P_22 r_31 (fun N_34 P_34 => (∀ N_44 : M2, N_44 = up2 N_34 229 (fun _ => (N_34 229 0) + 1) → K 1 N_44 P_34)))))))))
def wj_X8_isInside_45 (G : Nat → M2 → M2 → Int32 → Int32 → (Int32 → M2 → M2 → Prop) → Prop) (K : Int32 → M2 → M2 → Prop) (N : M2) (P : M2) (v1 : Int32) : Prop := (∀ N_52 : M2, N_52 = up2 N 230 (fun _ => (N 230 0) - 1) → ((v1 = ((-1)) → wp_X8_eatSign N_52 P 41 (fun r_68 N_68 P_68 => (zb r_68 ∧ K r_68 N_68 P_68))) ∧ (¬ v1 = ((-1)) → wp_X8_put N_52 P v1 (fun N_62 P_62 => wp_X8_eatSign N_62 P_62 41 (fun r_68 N_68 P_68 => (zb r_68 ∧ K r_68 N_68 P_68))))))
def wp_X8_isInside (G : Nat → M2 → M2 → Int32 → Int32 → (Int32 → M2 → M2 → Prop) → Prop) (N : M2) (P : M2) (x1 : Int32) (x2 : Int32) (K : Int32 → M2 → M2 → Prop) : Prop := wp_X8_isSign N P 40 (fun r_3 => ((r_3 = 0 → K 0 N P) ∧ (¬ r_3 = 0 → wp_X8_isDeeper N P (fun r_10 N_10 P_10 => ((r_10 = 0 → K 0 N_10 P_10) ∧ (¬ r_10 = 0 → G 3 N_10 P_10 0 0 (fun r_17 N_17 P_17 => ((r_17 = 0 → K 0 N_17 P_17) ∧ (¬ r_17 = 0 → ((x2 = 0 → wj_X8_isInside_45 G K N_17 P_17 x1) ∧ (¬ x2 = 0 → wp_X8_eatSign N_17 P_17 44 (fun r_30 N_30 P_30 => ((r_30 = 0 → K 0 N_30 P_30) ∧ (¬ r_30 = 0 → G 3 N_30 P_30 0 0 (fun r_37 N_37 P_37 => ((¬ r_37 = 0 → wj_X8_isInside_45 G K N_37 P_37 x1) ∧ (r_37 = 0 → K 0 N_37 P_37)))))))))))))))))
def gX8 : Nat → Nat → M2 → M2 → Int32 → Int32 → (Int32 → M2 → M2 → Prop) → Prop
  | 0, _, _, _, _, _, _ => False
  | d + 1, i, N, P, y0, y1, K => if i = 0 then wp_X8_isTest (gX8 d) N P K else if i = 1 then wp_X8_isBoth (gX8 d) N P K else if i = 2 then wp_X8_isSingle (gX8 d) N P K else if i = 3 then wp_X8_isSum (gX8 d) N P K else if i = 4 then wp_X8_isProduct (gX8 d) N P K else if i = 5 then wp_X8_isValue (gX8 d) N P K else wp_X8_isInside (gX8 d) N P y0 y1 K
def gX8_IH (d : Nat) : Prop := (∀ (l : Launch) (D : va_G) (Z : Nat → ClassId) (q g : Nat → Nat) (pl sa aa : Nat) (N : M2) (P : M2) (sz : Nat) (K : Int32 → M2 → M2 → Prop), gX8 d 0 N P 0 0 K → Met l yX8_isTest (wy yX8_isTest cX8_isTest 1 (some .boolean)) (rk (9 + d) 0 0) (pre vwCl D Z (MP Z q g pl sa aa N P) sz [.ref (g 220)]) (poI vwCl D Z (fun u : M2 × M2 => MP Z q g pl sa aa u.1 u.2) (N, P) sz (fun (r : Int32) (u : M2 × M2) => K r u.1 u.2)) 0 0 (va_A (MP Z q g pl sa aa N P) sz)) ∧ (∀ (l : Launch) (D : va_G) (Z : Nat → ClassId) (q g : Nat → Nat) (pl sa aa : Nat) (N : M2) (P : M2) (sz : Nat) (K : Int32 → M2 → M2 → Prop), gX8 d 1 N P 0 0 K → Met l yX8_isBoth (wy yX8_isBoth cX8_isBoth 1 (some .boolean)) (rk (9 + d) 0 0) (pre vwCl D Z (MP Z q g pl sa aa N P) sz [.ref (g 220)]) (poI vwCl D Z (fun u : M2 × M2 => MP Z q g pl sa aa u.1 u.2) (N, P) sz (fun (r : Int32) (u : M2 × M2) => K r u.1 u.2)) 0 0 (va_A (MP Z q g pl sa aa N P) sz)) ∧ (∀ (l : Launch) (D : va_G) (Z : Nat → ClassId) (q g : Nat → Nat) (pl sa aa : Nat) (N : M2) (P : M2) (sz : Nat) (K : Int32 → M2 → M2 → Prop), gX8 d 2 N P 0 0 K → Met l yX8_isSingle (wy yX8_isSingle cX8_isSingle 2 (some .boolean)) (rk (9 + d) 0 0) (pre vwCl D Z (MP Z q g pl sa aa N P) sz [.ref (g 220)]) (poI vwCl D Z (fun u : M2 × M2 => MP Z q g pl sa aa u.1 u.2) (N, P) sz (fun (r : Int32) (u : M2 × M2) => K r u.1 u.2)) 0 0 (va_A (MP Z q g pl sa aa N P) sz)) ∧ (∀ (l : Launch) (D : va_G) (Z : Nat → ClassId) (q g : Nat → Nat) (pl sa aa : Nat) (N : M2) (P : M2) (sz : Nat) (K : Int32 → M2 → M2 → Prop), gX8 d 3 N P 0 0 K → Met l yX8_isSum (wy yX8_isSum cX8_isSum 2 (some .boolean)) (rk (9 + d) 0 0) (pre vwCl D Z (MP Z q g pl sa aa N P) sz [.ref (g 220)]) (poI vwCl D Z (fun u : M2 × M2 => MP Z q g pl sa aa u.1 u.2) (N, P) sz (fun (r : Int32) (u : M2 × M2) => K r u.1 u.2)) 0 0 (va_A (MP Z q g pl sa aa N P) sz)) ∧ (∀ (l : Launch) (D : va_G) (Z : Nat → ClassId) (q g : Nat → Nat) (pl sa aa : Nat) (N : M2) (P : M2) (sz : Nat) (K : Int32 → M2 → M2 → Prop), gX8 d 4 N P 0 0 K → Met l yX8_isProduct (wy yX8_isProduct cX8_isProduct 2 (some .boolean)) (rk (9 + d) 0 0) (pre vwCl D Z (MP Z q g pl sa aa N P) sz [.ref (g 220)]) (poI vwCl D Z (fun u : M2 × M2 => MP Z q g pl sa aa u.1 u.2) (N, P) sz (fun (r : Int32) (u : M2 × M2) => K r u.1 u.2)) 0 0 (va_A (MP Z q g pl sa aa N P) sz)) ∧ (∀ (l : Launch) (D : va_G) (Z : Nat → ClassId) (q g : Nat → Nat) (pl sa aa : Nat) (N : M2) (P : M2) (sz : Nat) (K : Int32 → M2 → M2 → Prop), gX8 d 5 N P 0 0 K → Met l yX8_isValue (wy yX8_isValue cX8_isValue 3 (some .boolean)) (rk (9 + d) 0 0) (pre vwCl D Z (MP Z q g pl sa aa N P) sz [.ref (g 220)]) (poI vwCl D Z (fun u : M2 × M2 => MP Z q g pl sa aa u.1 u.2) (N, P) sz (fun (r : Int32) (u : M2 × M2) => K r u.1 u.2)) 0 0 (va_A (MP Z q g pl sa aa N P) sz)) ∧ (∀ (l : Launch) (D : va_G) (Z : Nat → ClassId) (q g : Nat → Nat) (pl sa aa : Nat) (N : M2) (P : M2) (sz : Nat) (x1 : Int32) (x2 : Int32) (K : Int32 → M2 → M2 → Prop), gX8 d 6 N P x1 x2 K → Met l yX8_isInside (wy yX8_isInside cX8_isInside 3 (some .boolean)) (rk (9 + d) 0 0) (pre vwCl D Z (MP Z q g pl sa aa N P) sz [.ref (g 220), .int x1, .int x2]) (poI vwCl D Z (fun u : M2 × M2 => MP Z q g pl sa aa u.1 u.2) (N, P) sz (fun (r : Int32) (u : M2 × M2) => K r u.1 u.2)) 0 0 (va_A (MP Z q g pl sa aa N P) sz))
section GgX8
variable {p : Program} {l : Launch} {e : Env} {s : State} {m : MethodId} {args : Array Value} {below : List Frame} {meth : Method} {c : Code} {H H0 : Heap} {locs : List Loc} {cells slots : Nat} {Q : State → Prop} {R : Room} {rn mcR msR : Nat}
variable {pc : Nat} {ls : Array Slot} {rest : List Value} {A : Nat → Prop} {D : va_G}
variable {cc : ByteArray} {nL index : Nat} {own host : String}
theorem kg_X8_isTest {d : Nat} (IH : gX8_IH d) {Z : Nat → ClassId} {q g : Nat → Nat} {pl sa aa : Nat} {N : M2} {P : M2} {K : Int32 → M2 → M2 → Prop} (hC : CallFix p m c cc nL s args lw_g own) (hN : NW s) (hK : va_K D vwCl (tysG Z) s) (hT : TS vwCl D (MP Z q g pl sa aa N P) A H0 H locs) (hm : gX8 d 0 N P 0 0 K) (hl : Cond.methodLink own index yX8_isTest ∈ lw_g) (hlt : 9 + d < rn) (hsize : ls.size = nL) (hW : (rest.map fun v => v.category).sum ≤ 8) (hf : cells + 0 ≤ mcR ∧ slots + 0 ≤ msR) (hdg : decode cc pc = .ok (.invokevirtual index, 3)) (kk : ∀ (r : Int32) (N1 : M2) (P1 : M2) (H1 : Heap) (locs1 : List Loc), K r N1 P1 → TS vwCl D (MP Z q g pl sa aa N1 P1) A H0 H1 locs1 → W p l e (rk rn mcR msR) s m args below meth c H1 locs1 cells slots Q (F0 m (pc + 3) ls (.int r :: rest))) : W p l e (rk rn mcR msR) s m args below meth c H locs cells slots Q (F0 m pc ls (.ref (g 220) :: rest)) :=
  rw_go (wsF := (fun u : M2 × M2 => MP Z q g pl sa aa u.1 u.2)) (u0 := (N, P)) (wr := []) (isC := cutMP) (isR := []) (pm := cutMP) (ws' := (fun u : M2 × M2 => MP Z q g pl sa aa u.1 u.2)) (runV (As := []) hC hN (IH.1 l D Z q g pl sa aa N P H.size K hm) mi_X8_isTest hl wq_1618 wq_78 hlt hT.1 hT.D' hK (q0 := 0) rfl rfl rfl hsize rfl hW hdg hf) (cutOkMP Z q g pl sa aa N P) hT (fun r u H1 locs1 hk hT1 => kk r u.1 u.2 H1 locs1 hk hT1)
theorem kg_X8_isBoth {d : Nat} (IH : gX8_IH d) {Z : Nat → ClassId} {q g : Nat → Nat} {pl sa aa : Nat} {N : M2} {P : M2} {K : Int32 → M2 → M2 → Prop} (hC : CallFix p m c cc nL s args lw_g own) (hN : NW s) (hK : va_K D vwCl (tysG Z) s) (hT : TS vwCl D (MP Z q g pl sa aa N P) A H0 H locs) (hm : gX8 d 1 N P 0 0 K) (hl : Cond.methodLink own index yX8_isBoth ∈ lw_g) (hlt : 9 + d < rn) (hsize : ls.size = nL) (hW : (rest.map fun v => v.category).sum ≤ 8) (hf : cells + 0 ≤ mcR ∧ slots + 0 ≤ msR) (hdg : decode cc pc = .ok (.invokevirtual index, 3)) (kk : ∀ (r : Int32) (N1 : M2) (P1 : M2) (H1 : Heap) (locs1 : List Loc), K r N1 P1 → TS vwCl D (MP Z q g pl sa aa N1 P1) A H0 H1 locs1 → W p l e (rk rn mcR msR) s m args below meth c H1 locs1 cells slots Q (F0 m (pc + 3) ls (.int r :: rest))) : W p l e (rk rn mcR msR) s m args below meth c H locs cells slots Q (F0 m pc ls (.ref (g 220) :: rest)) :=
  rw_go (wsF := (fun u : M2 × M2 => MP Z q g pl sa aa u.1 u.2)) (u0 := (N, P)) (wr := []) (isC := cutMP) (isR := []) (pm := cutMP) (ws' := (fun u : M2 × M2 => MP Z q g pl sa aa u.1 u.2)) (runV (As := []) hC hN (IH.2.1 l D Z q g pl sa aa N P H.size K hm) mi_X8_isBoth hl wq_1622 wq_79 hlt hT.1 hT.D' hK (q0 := 0) rfl rfl rfl hsize rfl hW hdg hf) (cutOkMP Z q g pl sa aa N P) hT (fun r u H1 locs1 hk hT1 => kk r u.1 u.2 H1 locs1 hk hT1)
theorem kg_X8_isSingle {d : Nat} (IH : gX8_IH d) {Z : Nat → ClassId} {q g : Nat → Nat} {pl sa aa : Nat} {N : M2} {P : M2} {K : Int32 → M2 → M2 → Prop} (hC : CallFix p m c cc nL s args lw_g own) (hN : NW s) (hK : va_K D vwCl (tysG Z) s) (hT : TS vwCl D (MP Z q g pl sa aa N P) A H0 H locs) (hm : gX8 d 2 N P 0 0 K) (hl : Cond.methodLink own index yX8_isSingle ∈ lw_g) (hlt : 9 + d < rn) (hsize : ls.size = nL) (hW : (rest.map fun v => v.category).sum ≤ 8) (hf : cells + 0 ≤ mcR ∧ slots + 0 ≤ msR) (hdg : decode cc pc = .ok (.invokevirtual index, 3)) (kk : ∀ (r : Int32) (N1 : M2) (P1 : M2) (H1 : Heap) (locs1 : List Loc), K r N1 P1 → TS vwCl D (MP Z q g pl sa aa N1 P1) A H0 H1 locs1 → W p l e (rk rn mcR msR) s m args below meth c H1 locs1 cells slots Q (F0 m (pc + 3) ls (.int r :: rest))) : W p l e (rk rn mcR msR) s m args below meth c H locs cells slots Q (F0 m pc ls (.ref (g 220) :: rest)) :=
  rw_go (wsF := (fun u : M2 × M2 => MP Z q g pl sa aa u.1 u.2)) (u0 := (N, P)) (wr := []) (isC := cutMP) (isR := []) (pm := cutMP) (ws' := (fun u : M2 × M2 => MP Z q g pl sa aa u.1 u.2)) (runV (As := []) hC hN (IH.2.2.1 l D Z q g pl sa aa N P H.size K hm) mi_X8_isSingle hl wq_1626 wq_80 hlt hT.1 hT.D' hK (q0 := 0) rfl rfl rfl hsize rfl hW hdg hf) (cutOkMP Z q g pl sa aa N P) hT (fun r u H1 locs1 hk hT1 => kk r u.1 u.2 H1 locs1 hk hT1)
theorem kg_X8_isSum {d : Nat} (IH : gX8_IH d) {Z : Nat → ClassId} {q g : Nat → Nat} {pl sa aa : Nat} {N : M2} {P : M2} {K : Int32 → M2 → M2 → Prop} (hC : CallFix p m c cc nL s args lw_g own) (hN : NW s) (hK : va_K D vwCl (tysG Z) s) (hT : TS vwCl D (MP Z q g pl sa aa N P) A H0 H locs) (hm : gX8 d 3 N P 0 0 K) (hl : Cond.methodLink own index yX8_isSum ∈ lw_g) (hlt : 9 + d < rn) (hsize : ls.size = nL) (hW : (rest.map fun v => v.category).sum ≤ 8) (hf : cells + 0 ≤ mcR ∧ slots + 0 ≤ msR) (hdg : decode cc pc = .ok (.invokevirtual index, 3)) (kk : ∀ (r : Int32) (N1 : M2) (P1 : M2) (H1 : Heap) (locs1 : List Loc), K r N1 P1 → TS vwCl D (MP Z q g pl sa aa N1 P1) A H0 H1 locs1 → W p l e (rk rn mcR msR) s m args below meth c H1 locs1 cells slots Q (F0 m (pc + 3) ls (.int r :: rest))) : W p l e (rk rn mcR msR) s m args below meth c H locs cells slots Q (F0 m pc ls (.ref (g 220) :: rest)) :=
  rw_go (wsF := (fun u : M2 × M2 => MP Z q g pl sa aa u.1 u.2)) (u0 := (N, P)) (wr := []) (isC := cutMP) (isR := []) (pm := cutMP) (ws' := (fun u : M2 × M2 => MP Z q g pl sa aa u.1 u.2)) (runV (As := []) hC hN (IH.2.2.2.1 l D Z q g pl sa aa N P H.size K hm) mi_X8_isSum hl wq_1650 wq_86 hlt hT.1 hT.D' hK (q0 := 0) rfl rfl rfl hsize rfl hW hdg hf) (cutOkMP Z q g pl sa aa N P) hT (fun r u H1 locs1 hk hT1 => kk r u.1 u.2 H1 locs1 hk hT1)
theorem kg_X8_isProduct {d : Nat} (IH : gX8_IH d) {Z : Nat → ClassId} {q g : Nat → Nat} {pl sa aa : Nat} {N : M2} {P : M2} {K : Int32 → M2 → M2 → Prop} (hC : CallFix p m c cc nL s args lw_g own) (hN : NW s) (hK : va_K D vwCl (tysG Z) s) (hT : TS vwCl D (MP Z q g pl sa aa N P) A H0 H locs) (hm : gX8 d 4 N P 0 0 K) (hl : Cond.methodLink own index yX8_isProduct ∈ lw_g) (hlt : 9 + d < rn) (hsize : ls.size = nL) (hW : (rest.map fun v => v.category).sum ≤ 8) (hf : cells + 0 ≤ mcR ∧ slots + 0 ≤ msR) (hdg : decode cc pc = .ok (.invokevirtual index, 3)) (kk : ∀ (r : Int32) (N1 : M2) (P1 : M2) (H1 : Heap) (locs1 : List Loc), K r N1 P1 → TS vwCl D (MP Z q g pl sa aa N1 P1) A H0 H1 locs1 → W p l e (rk rn mcR msR) s m args below meth c H1 locs1 cells slots Q (F0 m (pc + 3) ls (.int r :: rest))) : W p l e (rk rn mcR msR) s m args below meth c H locs cells slots Q (F0 m pc ls (.ref (g 220) :: rest)) :=
  rw_go (wsF := (fun u : M2 × M2 => MP Z q g pl sa aa u.1 u.2)) (u0 := (N, P)) (wr := []) (isC := cutMP) (isR := []) (pm := cutMP) (ws' := (fun u : M2 × M2 => MP Z q g pl sa aa u.1 u.2)) (runV (As := []) hC hN (IH.2.2.2.2.1 l D Z q g pl sa aa N P H.size K hm) mi_X8_isProduct hl wq_1654 wq_87 hlt hT.1 hT.D' hK (q0 := 0) rfl rfl rfl hsize rfl hW hdg hf) (cutOkMP Z q g pl sa aa N P) hT (fun r u H1 locs1 hk hT1 => kk r u.1 u.2 H1 locs1 hk hT1)
theorem kg_X8_isValue {d : Nat} (IH : gX8_IH d) {Z : Nat → ClassId} {q g : Nat → Nat} {pl sa aa : Nat} {N : M2} {P : M2} {K : Int32 → M2 → M2 → Prop} (hC : CallFix p m c cc nL s args lw_g own) (hN : NW s) (hK : va_K D vwCl (tysG Z) s) (hT : TS vwCl D (MP Z q g pl sa aa N P) A H0 H locs) (hm : gX8 d 5 N P 0 0 K) (hl : Cond.methodLink own index yX8_isValue ∈ lw_g) (hlt : 9 + d < rn) (hsize : ls.size = nL) (hW : (rest.map fun v => v.category).sum ≤ 8) (hf : cells + 0 ≤ mcR ∧ slots + 0 ≤ msR) (hdg : decode cc pc = .ok (.invokevirtual index, 3)) (kk : ∀ (r : Int32) (N1 : M2) (P1 : M2) (H1 : Heap) (locs1 : List Loc), K r N1 P1 → TS vwCl D (MP Z q g pl sa aa N1 P1) A H0 H1 locs1 → W p l e (rk rn mcR msR) s m args below meth c H1 locs1 cells slots Q (F0 m (pc + 3) ls (.int r :: rest))) : W p l e (rk rn mcR msR) s m args below meth c H locs cells slots Q (F0 m pc ls (.ref (g 220) :: rest)) :=
  rw_go (wsF := (fun u : M2 × M2 => MP Z q g pl sa aa u.1 u.2)) (u0 := (N, P)) (wr := []) (isC := cutMP) (isR := []) (pm := cutMP) (ws' := (fun u : M2 × M2 => MP Z q g pl sa aa u.1 u.2)) (runV (As := []) hC hN (IH.2.2.2.2.2.1 l D Z q g pl sa aa N P H.size K hm) mi_X8_isValue hl wq_1658 wq_88 hlt hT.1 hT.D' hK (q0 := 0) rfl rfl rfl hsize rfl hW hdg hf) (cutOkMP Z q g pl sa aa N P) hT (fun r u H1 locs1 hk hT1 => kk r u.1 u.2 H1 locs1 hk hT1)
theorem kg_X8_isInside {d : Nat} (IH : gX8_IH d) {Z : Nat → ClassId} {q g : Nat → Nat} {pl sa aa : Nat} {N : M2} {P : M2} {x1 : Int32} {x2 : Int32} {K : Int32 → M2 → M2 → Prop} (hC : CallFix p m c cc nL s args lw_g own) (hN : NW s) (hK : va_K D vwCl (tysG Z) s) (hT : TS vwCl D (MP Z q g pl sa aa N P) A H0 H locs) (hm : gX8 d 6 N P x1 x2 K) (hl : Cond.methodLink own index yX8_isInside ∈ lw_g) (hlt : 9 + d < rn) (hsize : ls.size = nL) (hW : (rest.map fun v => v.category).sum ≤ 8) (hf : cells + 0 ≤ mcR ∧ slots + 0 ≤ msR) (hdg : decode cc pc = .ok (.invokevirtual index, 3)) (kk : ∀ (r : Int32) (N1 : M2) (P1 : M2) (H1 : Heap) (locs1 : List Loc), K r N1 P1 → TS vwCl D (MP Z q g pl sa aa N1 P1) A H0 H1 locs1 → W p l e (rk rn mcR msR) s m args below meth c H1 locs1 cells slots Q (F0 m (pc + 3) ls (.int r :: rest))) : W p l e (rk rn mcR msR) s m args below meth c H locs cells slots Q (F0 m pc ls (.int x2 :: .int x1 :: .ref (g 220) :: rest)) :=
  rw_go (wsF := (fun u : M2 × M2 => MP Z q g pl sa aa u.1 u.2)) (u0 := (N, P)) (wr := []) (isC := cutMP) (isR := []) (pm := cutMP) (ws' := (fun u : M2 × M2 => MP Z q g pl sa aa u.1 u.2)) (runV (As := [.int x1, .int x2]) hC hN (IH.2.2.2.2.2.2 l D Z q g pl sa aa N P H.size x1 x2 K hm) mi_X8_isInside hl wq_1666 wq_90 hlt hT.1 hT.D' hK (q0 := 0) rfl rfl rfl hsize rfl hW hdg hf) (cutOkMP Z q g pl sa aa N P) hT (fun r u H1 locs1 hk hT1 => kk r u.1 u.2 H1 locs1 hk hT1)
end GgX8
set_option maxRecDepth 100000 in
set_option maxHeartbeats 4000000 in
theorem c_X8_isTest (d : Nat) (IH : gX8_IH d) (l : Launch) (D : va_G) (Z : Nat → ClassId) (q g : Nat → Nat) (pl sa aa : Nat) (N : M2) (P : M2) (sz : Nat) (K : Int32 → M2 → M2 → Prop) (hm : wp_X8_isTest (gX8 d) N P K) : Met l yX8_isTest (wy yX8_isTest cX8_isTest 1 (some .boolean)) (rk (10 + d) 0 0) (pre vwCl D Z (MP Z q g pl sa aa N P) sz [.ref (g 220)]) (poI vwCl D Z (fun u : M2 × M2 => MP Z q g pl sa aa u.1 u.2) (N, P) sz (fun (r : Int32) (u : M2 × M2) => K r u.1 u.2)) 0 0 (va_A (MP Z q g pl sa aa N P) sz) := by
  refine rw_of (ty := .boolean) (wsF := (fun u : M2 × M2 => MP Z q g pl sa aa u.1 u.2)) (u0 := (N, P)) (by decide +kernel) (Nat.le_of_ble_eq_true rfl) rfl ?_
  intro p e s m args below meth c Q A hC hN hsz hT hK hret ls hl
  have hx := hC.1
  have hb := hC.2.1
  have hl : lv_has ls 1 [(0, .ref (g 220))] := hl
  have hT : TS vwCl D (MP Z q g pl sa aa N P) A s.heap s.heap [] := hT
  have L9 : ∀ (n9 : Nat), ∀ (N : M2) (P : M2) (H : Heap) (locs : List Loc) (ls : Array Slot), wl_X8_isTest_9 (gX8 d) K n9 N P → TS vwCl D (MP Z q g pl sa aa N P) A s.heap H locs → lv_has ls 1 [(0, .ref (g 220))] → W p l e (rk (10 + d) 0 0) s m args below meth c H locs 0 0 Q (F0 m 9 ls []) := by
    intro n9
    induction n9 with
    | zero =>
      intro N P H locs ls hm hT hl
      exact False.elim hm
    | succ n9 ih9 =>
      intro N P H locs ls hm hT hl
      refine lv_aload_n hx hb dX8_isTest_9 rfl (lv_at hl 0 rfl) ?_
      refine lv_bipush (v := 29) hx hb dX8_isTest_10 (by decide) ?_
      refine k_X8_eat hC hN hK hT hm wq_1591 (by omega) hl.1 (Nat.le_of_ble_eq_true rfl) ⟨Nat.le_refl _, Nat.le_refl _⟩ dX8_isTest_12 (fun r_12 N_12 P_12 H locs hm hT => ?_)
      refine lv_if_eq (tgt := 36) hx hb dX8_isTest_15 (by decide) (fun c_15 => ?_) (fun c_15 => ?_)
      · have hm := hm.1 c_15
        refine lv_iconst (v := 1) hx hb dX8_isTest_36 (by decide) ?_
        exact hret 37 _ _ _ _ (N_12, P_12) hm hT rfl dX8_isTest_37
      · have hm := hm.2 c_15
        refine lv_aload_n hx hb dX8_isTest_18 rfl (lv_at hl 0 rfl) ?_
        refine kg_X8_isBoth IH hC hN hK hT hm wq_1620 (by omega) hl.1 (Nat.le_of_ble_eq_true rfl) ⟨Nat.le_refl _, Nat.le_refl _⟩ dX8_isTest_19 (fun r_19 N_19 P_19 H locs hm hT => ?_)
        refine lv_if_ne (tgt := 27) hx hb dX8_isTest_22 (by decide) (fun c_22 => ?_) (fun c_22 => ?_)
        · have hm := hm.1 c_22
          refine lv_aload_n hx hb dX8_isTest_27 rfl (lv_at hl 0 rfl) ?_
          refine lv_bipush (v := 29) hx hb dX8_isTest_28 (by decide) ?_
          refine k_X8_put hC hN hK hT hm wq_1632 (by omega) hl.1 (Nat.le_of_ble_eq_true rfl) ⟨Nat.le_refl _, Nat.le_refl _⟩ dX8_isTest_30 (fun N_30 P_30 H locs hm hT => ?_)
          refine lv_goto (tgt := 9) hx hb dX8_isTest_33 (by decide) ?_
          exact ih9 _ _ _ _ _ hm hT (lv_sub hl [0] rfl)
        · have hm := hm.2 c_22
          refine lv_iconst (v := 0) hx hb dX8_isTest_25 (by decide) ?_
          exact hret 26 _ _ _ _ (N_19, P_19) hm hT rfl dX8_isTest_26
  refine lv_aload_n hx hb dX8_isTest_0 rfl (lv_at hl 0 rfl) ?_
  refine kg_X8_isBoth IH hC hN hK hT hm wq_1620 (by omega) hl.1 (Nat.le_of_ble_eq_true rfl) ⟨Nat.le_refl _, Nat.le_refl _⟩ dX8_isTest_1 (fun r_1 N_1 P_1 H locs hm hT => ?_)
  refine lv_if_ne (tgt := 9) hx hb dX8_isTest_4 (by decide) (fun c_4 => ?_) (fun c_4 => ?_)
  · have hm := hm.1 c_4
    exact L9 _ _ _ _ _ _ hm hT (lv_sub hl [0] rfl)
  · have hm := hm.2 c_4
    refine lv_iconst (v := 0) hx hb dX8_isTest_7 (by decide) ?_
    exact hret 8 _ _ _ _ (N_1, P_1) hm hT rfl dX8_isTest_8
set_option maxRecDepth 100000 in
set_option maxHeartbeats 4000000 in
theorem c_X8_isBoth (d : Nat) (IH : gX8_IH d) (l : Launch) (D : va_G) (Z : Nat → ClassId) (q g : Nat → Nat) (pl sa aa : Nat) (N : M2) (P : M2) (sz : Nat) (K : Int32 → M2 → M2 → Prop) (hm : wp_X8_isBoth (gX8 d) N P K) : Met l yX8_isBoth (wy yX8_isBoth cX8_isBoth 1 (some .boolean)) (rk (10 + d) 0 0) (pre vwCl D Z (MP Z q g pl sa aa N P) sz [.ref (g 220)]) (poI vwCl D Z (fun u : M2 × M2 => MP Z q g pl sa aa u.1 u.2) (N, P) sz (fun (r : Int32) (u : M2 × M2) => K r u.1 u.2)) 0 0 (va_A (MP Z q g pl sa aa N P) sz) := by
  refine rw_of (ty := .boolean) (wsF := (fun u : M2 × M2 => MP Z q g pl sa aa u.1 u.2)) (u0 := (N, P)) (by decide +kernel) (Nat.le_of_ble_eq_true rfl) rfl ?_
  intro p e s m args below meth c Q A hC hN hsz hT hK hret ls hl
  have hx := hC.1
  have hb := hC.2.1
  have hl : lv_has ls 1 [(0, .ref (g 220))] := hl
  have hT : TS vwCl D (MP Z q g pl sa aa N P) A s.heap s.heap [] := hT
  have L9 : ∀ (n9 : Nat), ∀ (N : M2) (P : M2) (H : Heap) (locs : List Loc) (ls : Array Slot), wl_X8_isBoth_9 (gX8 d) K n9 N P → TS vwCl D (MP Z q g pl sa aa N P) A s.heap H locs → lv_has ls 1 [(0, .ref (g 220))] → W p l e (rk (10 + d) 0 0) s m args below meth c H locs 0 0 Q (F0 m 9 ls []) := by
    intro n9
    induction n9 with
    | zero =>
      intro N P H locs ls hm hT hl
      exact False.elim hm
    | succ n9 ih9 =>
      intro N P H locs ls hm hT hl
      refine lv_aload_n hx hb dX8_isBoth_9 rfl (lv_at hl 0 rfl) ?_
      refine lv_bipush (v := 16) hx hb dX8_isBoth_10 (by decide) ?_
      refine k_X8_eat hC hN hK hT hm wq_1591 (by omega) hl.1 (Nat.le_of_ble_eq_true rfl) ⟨Nat.le_refl _, Nat.le_refl _⟩ dX8_isBoth_12 (fun r_12 N_12 P_12 H locs hm hT => ?_)
      refine lv_if_eq (tgt := 36) hx hb dX8_isBoth_15 (by decide) (fun c_15 => ?_) (fun c_15 => ?_)
      · have hm := hm.1 c_15
        refine lv_iconst (v := 1) hx hb dX8_isBoth_36 (by decide) ?_
        exact hret 37 _ _ _ _ (N_12, P_12) hm hT rfl dX8_isBoth_37
      · have hm := hm.2 c_15
        refine lv_aload_n hx hb dX8_isBoth_18 rfl (lv_at hl 0 rfl) ?_
        refine kg_X8_isSingle IH hC hN hK hT hm wq_1624 (by omega) hl.1 (Nat.le_of_ble_eq_true rfl) ⟨Nat.le_refl _, Nat.le_refl _⟩ dX8_isBoth_19 (fun r_19 N_19 P_19 H locs hm hT => ?_)
        refine lv_if_ne (tgt := 27) hx hb dX8_isBoth_22 (by decide) (fun c_22 => ?_) (fun c_22 => ?_)
        · have hm := hm.1 c_22
          refine lv_aload_n hx hb dX8_isBoth_27 rfl (lv_at hl 0 rfl) ?_
          refine lv_bipush (v := 16) hx hb dX8_isBoth_28 (by decide) ?_
          refine k_X8_put hC hN hK hT hm wq_1632 (by omega) hl.1 (Nat.le_of_ble_eq_true rfl) ⟨Nat.le_refl _, Nat.le_refl _⟩ dX8_isBoth_30 (fun N_30 P_30 H locs hm hT => ?_)
          refine lv_goto (tgt := 9) hx hb dX8_isBoth_33 (by decide) ?_
          exact ih9 _ _ _ _ _ hm hT (lv_sub hl [0] rfl)
        · have hm := hm.2 c_22
          refine lv_iconst (v := 0) hx hb dX8_isBoth_25 (by decide) ?_
          exact hret 26 _ _ _ _ (N_19, P_19) hm hT rfl dX8_isBoth_26
  refine lv_aload_n hx hb dX8_isBoth_0 rfl (lv_at hl 0 rfl) ?_
  refine kg_X8_isSingle IH hC hN hK hT hm wq_1624 (by omega) hl.1 (Nat.le_of_ble_eq_true rfl) ⟨Nat.le_refl _, Nat.le_refl _⟩ dX8_isBoth_1 (fun r_1 N_1 P_1 H locs hm hT => ?_)
  refine lv_if_ne (tgt := 9) hx hb dX8_isBoth_4 (by decide) (fun c_4 => ?_) (fun c_4 => ?_)
  · have hm := hm.1 c_4
    exact L9 _ _ _ _ _ _ hm hT (lv_sub hl [0] rfl)
  · have hm := hm.2 c_4
    refine lv_iconst (v := 0) hx hb dX8_isBoth_7 (by decide) ?_
    exact hret 8 _ _ _ _ (N_1, P_1) hm hT rfl dX8_isBoth_8
set_option maxRecDepth 100000 in
set_option maxHeartbeats 4000000 in
theorem c_X8_isSingle (d : Nat) (IH : gX8_IH d) (l : Launch) (D : va_G) (Z : Nat → ClassId) (q g : Nat → Nat) (pl sa aa : Nat) (N : M2) (P : M2) (sz : Nat) (K : Int32 → M2 → M2 → Prop) (hm : wp_X8_isSingle (gX8 d) N P K) : Met l yX8_isSingle (wy yX8_isSingle cX8_isSingle 2 (some .boolean)) (rk (10 + d) 0 0) (pre vwCl D Z (MP Z q g pl sa aa N P) sz [.ref (g 220)]) (poI vwCl D Z (fun u : M2 × M2 => MP Z q g pl sa aa u.1 u.2) (N, P) sz (fun (r : Int32) (u : M2 × M2) => K r u.1 u.2)) 0 0 (va_A (MP Z q g pl sa aa N P) sz) := by
  refine rw_of (ty := .boolean) (wsF := (fun u : M2 × M2 => MP Z q g pl sa aa u.1 u.2)) (u0 := (N, P)) (by decide +kernel) (Nat.le_of_ble_eq_true rfl) rfl ?_
  intro p e s m args below meth c Q A hC hN hsz hT hK hret ls hl
  have hx := hC.1
  have hb := hC.2.1
  have hl : lv_has ls 2 [(0, .ref (g 220))] := hl
  have hT : TS vwCl D (MP Z q g pl sa aa N P) A s.heap s.heap [] := hT
  have L206 : ∀ (N : M2) (P : M2) (q0 : Int32) (H : Heap) (locs : List Loc) (ls : Array Slot), wj_X8_isSingle_206 (gX8 d) K N P q0 → TS vwCl D (MP Z q g pl sa aa N P) A s.heap H locs → lv_has ls 2 [(0, .ref (g 220))] → W p l e (rk (10 + d) 0 0) s m args below meth c H locs 0 0 Q (F0 m 206 ls [.int q0]) := by
    intro N P q0 H locs ls hm hT hl
    refine lv_istore_n (lv' := [(1, .int q0), (0, .ref (g 220))]) hx hb dX8_isSingle_206 rfl hl (by decide) rfl (fun ls hl => ?_)
    refine lv_iload_n hx hb dX8_isSingle_207 rfl (lv_at hl 0 rfl) ?_
    refine lv_iconst (v := (-1)) hx hb dX8_isSingle_208 (by decide) ?_
    refine lv_icmp_ne (tgt := 214) hx hb dX8_isSingle_209 (by decide) (fun c_209 => ?_) (fun c_209 => ?_)
    · have hm := hm.1 c_209
      refine lv_aload_n hx hb dX8_isSingle_214 rfl (lv_at hl 1 rfl) ?_
      refine lv_dup hx hb dX8_isSingle_215 rfl ?_
      refine gMP_mod_9 hC hK hT.1 wq_1428 dX8_isSingle_216 ?_
      refine lv_iconst (v := 1) hx hb dX8_isSingle_219 (by decide) ?_
      refine lv_iadd hx hb dX8_isSingle_220 ?_
      refine pMP_mod_9 hC hK hT wq_1428 dX8_isSingle_221 (fun N_221 eN_221 H locs hT => ?_)
      have hm := hm N_221 eN_221
      refine lv_aload_n hx hb dX8_isSingle_224 rfl (lv_at hl 1 rfl) ?_
      refine kg_X8_isSum IH hC hN hK hT hm wq_1648 (by omega) hl.1 (Nat.le_of_ble_eq_true rfl) ⟨Nat.le_refl _, Nat.le_refl _⟩ dX8_isSingle_225 (fun r_225 N_225 P_225 H locs hm hT => ?_)
      refine lv_if_ne (tgt := 233) hx hb dX8_isSingle_228 (by decide) (fun c_228 => ?_) (fun c_228 => ?_)
      · have hm := hm.1 c_228
        refine lv_aload_n hx hb dX8_isSingle_233 rfl (lv_at hl 1 rfl) ?_
        refine lv_iload_n hx hb dX8_isSingle_234 rfl (lv_at hl 0 rfl) ?_
        refine k_X8_put hC hN hK hT hm wq_1632 (by omega) hl.1 (Nat.le_of_ble_eq_true rfl) ⟨Nat.le_refl _, Nat.le_refl _⟩ dX8_isSingle_235 (fun N_235 P_235 H locs hm hT => ?_)
        refine lv_iconst (v := 1) hx hb dX8_isSingle_238 (by decide) ?_
        exact hret 239 _ _ _ _ (N_235, P_235) hm hT rfl dX8_isSingle_239
      · have hm := hm.2 c_228
        refine lv_iconst (v := 0) hx hb dX8_isSingle_231 (by decide) ?_
        exact hret 232 _ _ _ _ (N_225, P_225) hm hT rfl dX8_isSingle_232
    · have hm := hm.2 c_209
      refine lv_iconst (v := 0) hx hb dX8_isSingle_212 (by decide) ?_
      exact hret 213 _ _ _ _ (N, P) hm hT rfl dX8_isSingle_213
  have L103 : ∀ (N : M2) (P : M2) (H : Heap) (locs : List Loc) (ls : Array Slot), wj_X8_isSingle_103 (gX8 d) K N P → TS vwCl D (MP Z q g pl sa aa N P) A s.heap H locs → lv_has ls 2 [(0, .ref (g 220))] → W p l e (rk (10 + d) 0 0) s m args below meth c H locs 0 0 Q (F0 m 103 ls []) := by
    intro N P H locs ls hm hT hl
    refine lv_aload_n hx hb dX8_isSingle_103 rfl (lv_at hl 0 rfl) ?_
    refine lv_aload_n hx hb dX8_isSingle_104 rfl (lv_at hl 0 rfl) ?_
    refine lv_bipush (v := 26) hx hb dX8_isSingle_105 (by decide) ?_
    refine k_X8_is hC hN hK hT.1 hT.D' hm wq_1579 (by omega) hl.1 (Nat.le_of_ble_eq_true rfl) ⟨Nat.le_refl _, Nat.le_refl _⟩ dX8_isSingle_107 (fun r_107 hm => ?_)
    refine lv_if_eq (tgt := 118) hx hb dX8_isSingle_110 (by decide) (fun c_110 => ?_) (fun c_110 => ?_)
    · have hm := hm.1 c_110
      refine lv_bipush (v := 20) hx hb dX8_isSingle_118 (by decide) ?_
      refine k_X8_isNamed hC hN hK hT hm wq_1644 (by omega) hl.1 (Nat.le_of_ble_eq_true rfl) ⟨Nat.le_refl _, Nat.le_refl _⟩ dX8_isSingle_120 (fun r_120 N_120 P_120 H locs hm hT => ?_)
      exact hret 123 _ _ _ _ (N_120, P_120) hm.2 hT hm.1 dX8_isSingle_123
    · have hm := hm.2 c_110
      refine lv_bipush (v := 21) hx hb dX8_isSingle_113 (by decide) ?_
      refine lv_goto (tgt := 120) hx hb dX8_isSingle_115 (by decide) ?_
      refine k_X8_isNamed hC hN hK hT hm wq_1644 (by omega) hl.1 (Nat.le_of_ble_eq_true rfl) ⟨Nat.le_refl _, Nat.le_refl _⟩ dX8_isSingle_120 (fun r_120 N_120 P_120 H locs hm hT => ?_)
      exact hret 123 _ _ _ _ (N_120, P_120) hm.2 hT hm.1 dX8_isSingle_123
  refine lv_aload_n hx hb dX8_isSingle_0 rfl (lv_at hl 0 rfl) ?_
  refine lv_bipush (v := 28) hx hb dX8_isSingle_1 (by decide) ?_
  refine k_X8_is hC hN hK hT.1 hT.D' hm wq_1579 (by omega) hl.1 (Nat.le_of_ble_eq_true rfl) ⟨Nat.le_refl _, Nat.le_refl _⟩ dX8_isSingle_3 (fun r_3 hm => ?_)
  refine lv_if_eq (tgt := 43) hx hb dX8_isSingle_6 (by decide) (fun c_6 => ?_) (fun c_6 => ?_)
  · have hm := hm.1 c_6
    refine lv_aload_n hx hb dX8_isSingle_43 rfl (lv_at hl 0 rfl) ?_
    refine lv_bipush (v := 91) hx hb dX8_isSingle_44 (by decide) ?_
    refine k_X8_isSign hC hN hK hT.1 hT.D' hm wq_1636 (by omega) hl.1 (Nat.le_of_ble_eq_true rfl) ⟨Nat.le_refl _, Nat.le_refl _⟩ dX8_isSingle_46 (fun r_46 hm => ?_)
    refine lv_if_eq (tgt := 85) hx hb dX8_isSingle_49 (by decide) (fun c_49 => ?_) (fun c_49 => ?_)
    · have hm := hm.1 c_49
      refine lv_aload_n hx hb dX8_isSingle_85 rfl (lv_at hl 0 rfl) ?_
      refine lv_bipush (v := 26) hx hb dX8_isSingle_86 (by decide) ?_
      refine k_X8_is hC hN hK hT.1 hT.D' hm wq_1579 (by omega) hl.1 (Nat.le_of_ble_eq_true rfl) ⟨Nat.le_refl _, Nat.le_refl _⟩ dX8_isSingle_88 (fun r_88 hm => ?_)
      refine lv_if_ne (tgt := 103) hx hb dX8_isSingle_91 (by decide) (fun c_91 => ?_) (fun c_91 => ?_)
      · have hm := hm.1 c_91
        exact L103 _ _ _ _ _ hm hT (lv_sub hl [0] rfl)
      · have hm := hm.2 c_91
        refine lv_aload_n hx hb dX8_isSingle_94 rfl (lv_at hl 0 rfl) ?_
        refine lv_bipush (v := 27) hx hb dX8_isSingle_95 (by decide) ?_
        refine k_X8_is hC hN hK hT.1 hT.D' hm wq_1579 (by omega) hl.1 (Nat.le_of_ble_eq_true rfl) ⟨Nat.le_refl _, Nat.le_refl _⟩ dX8_isSingle_97 (fun r_97 hm => ?_)
        refine lv_if_eq (tgt := 124) hx hb dX8_isSingle_100 (by decide) (fun c_100 => ?_) (fun c_100 => ?_)
        · have hm := hm.1 c_100
          refine lv_aload_n hx hb dX8_isSingle_124 rfl (lv_at hl 0 rfl) ?_
          refine kg_X8_isSum IH hC hN hK hT hm wq_1648 (by omega) hl.1 (Nat.le_of_ble_eq_true rfl) ⟨Nat.le_refl _, Nat.le_refl _⟩ dX8_isSingle_125 (fun r_125 N_125 P_125 H locs hm hT => ?_)
          refine lv_if_ne (tgt := 133) hx hb dX8_isSingle_128 (by decide) (fun c_128 => ?_) (fun c_128 => ?_)
          · have hm := hm.1 c_128
            refine lv_aload_n hx hb dX8_isSingle_133 rfl (lv_at hl 0 rfl) ?_
            refine lv_bipush (v := 60) hx hb dX8_isSingle_134 (by decide) ?_
            refine k_X8_isSign hC hN hK hT.1 hT.D' hm wq_1636 (by omega) hl.1 (Nat.le_of_ble_eq_true rfl) ⟨Nat.le_refl _, Nat.le_refl _⟩ dX8_isSingle_136 (fun r_136 hm => ?_)
            refine lv_if_eq (tgt := 147) hx hb dX8_isSingle_139 (by decide) (fun c_139 => ?_) (fun c_139 => ?_)
            · have hm := hm.1 c_139
              refine lv_aload_n hx hb dX8_isSingle_147 rfl (lv_at hl 0 rfl) ?_
              refine lv_bipush (v := 62) hx hb dX8_isSingle_148 (by decide) ?_
              refine k_X8_isSign hC hN hK hT.1 hT.D' hm wq_1636 (by omega) hl.1 (Nat.le_of_ble_eq_true rfl) ⟨Nat.le_refl _, Nat.le_refl _⟩ dX8_isSingle_150 (fun r_150 hm => ?_)
              refine lv_if_eq (tgt := 161) hx hb dX8_isSingle_153 (by decide) (fun c_153 => ?_) (fun c_153 => ?_)
              · have hm := hm.1 c_153
                refine lv_aload_n hx hb dX8_isSingle_161 rfl (lv_at hl 0 rfl) ?_
                refine lv_bipush (v := 61) hx hb dX8_isSingle_162 (by decide) ?_
                refine k_X8_isSign hC hN hK hT.1 hT.D' hm wq_1636 (by omega) hl.1 (Nat.le_of_ble_eq_true rfl) ⟨Nat.le_refl _, Nat.le_refl _⟩ dX8_isSingle_164 (fun r_164 hm => ?_)
                refine lv_if_eq (tgt := 175) hx hb dX8_isSingle_167 (by decide) (fun c_167 => ?_) (fun c_167 => ?_)
                · have hm := hm.1 c_167
                  refine lv_aload_n hx hb dX8_isSingle_175 rfl (lv_at hl 0 rfl) ?_
                  refine lv_sipush (v := 300) hx hb dX8_isSingle_176 (by decide) ?_
                  refine k_X8_is hC hN hK hT.1 hT.D' hm wq_1579 (by omega) hl.1 (Nat.le_of_ble_eq_true rfl) ⟨Nat.le_refl _, Nat.le_refl _⟩ dX8_isSingle_179 (fun r_179 hm => ?_)
                  refine lv_if_eq (tgt := 190) hx hb dX8_isSingle_182 (by decide) (fun c_182 => ?_) (fun c_182 => ?_)
                  · have hm := hm.1 c_182
                    refine lv_aload_n hx hb dX8_isSingle_190 rfl (lv_at hl 0 rfl) ?_
                    refine lv_sipush (v := 301) hx hb dX8_isSingle_191 (by decide) ?_
                    refine k_X8_is hC hN hK hT.1 hT.D' hm wq_1579 (by omega) hl.1 (Nat.le_of_ble_eq_true rfl) ⟨Nat.le_refl _, Nat.le_refl _⟩ dX8_isSingle_194 (fun r_194 hm => ?_)
                    refine lv_if_eq (tgt := 205) hx hb dX8_isSingle_197 (by decide) (fun c_197 => ?_) (fun c_197 => ?_)
                    · have hm := hm.1 c_197
                      refine lv_iconst (v := (-1)) hx hb dX8_isSingle_205 (by decide) ?_
                      exact L206 _ _ _ _ _ _ hm hT (lv_sub hl [0] rfl)
                    · have hm := hm.2 c_197
                      refine lv_bipush (v := 44) hx hb dX8_isSingle_200 (by decide) ?_
                      refine lv_goto (tgt := 206) hx hb dX8_isSingle_202 (by decide) ?_
                      exact L206 _ _ _ _ _ _ hm hT (lv_sub hl [0] rfl)
                  · have hm := hm.2 c_182
                    refine lv_bipush (v := 43) hx hb dX8_isSingle_185 (by decide) ?_
                    refine lv_goto (tgt := 206) hx hb dX8_isSingle_187 (by decide) ?_
                    exact L206 _ _ _ _ _ _ hm hT (lv_sub hl [0] rfl)
                · have hm := hm.2 c_167
                  refine lv_bipush (v := 42) hx hb dX8_isSingle_170 (by decide) ?_
                  refine lv_goto (tgt := 206) hx hb dX8_isSingle_172 (by decide) ?_
                  exact L206 _ _ _ _ _ _ hm hT (lv_sub hl [0] rfl)
              · have hm := hm.2 c_153
                refine lv_bipush (v := 39) hx hb dX8_isSingle_156 (by decide) ?_
                refine lv_goto (tgt := 206) hx hb dX8_isSingle_158 (by decide) ?_
                exact L206 _ _ _ _ _ _ hm hT (lv_sub hl [0] rfl)
            · have hm := hm.2 c_139
              refine lv_bipush (v := 38) hx hb dX8_isSingle_142 (by decide) ?_
              refine lv_goto (tgt := 206) hx hb dX8_isSingle_144 (by decide) ?_
              exact L206 _ _ _ _ _ _ hm hT (lv_sub hl [0] rfl)
          · have hm := hm.2 c_128
            refine lv_iconst (v := 0) hx hb dX8_isSingle_131 (by decide) ?_
            exact hret 132 _ _ _ _ (N_125, P_125) hm hT rfl dX8_isSingle_132
        · have hm := hm.2 c_100
          exact L103 _ _ _ _ _ hm hT (lv_sub hl [0] rfl)
    · have hm := hm.2 c_49
      refine lv_aload_n hx hb dX8_isSingle_52 rfl (lv_at hl 0 rfl) ?_
      refine k_X8_isDeeper hC hN hK hT hm wq_1628 (by omega) hl.1 (Nat.le_of_ble_eq_true rfl) ⟨Nat.le_refl _, Nat.le_refl _⟩ dX8_isSingle_53 (fun r_53 N_53 P_53 H locs hm hT => ?_)
      refine lv_if_eq (tgt := 66) hx hb dX8_isSingle_56 (by decide) (fun c_56 => ?_) (fun c_56 => ?_)
      · have hm := hm.1 c_56
        refine lv_iconst (v := 0) hx hb dX8_isSingle_66 (by decide) ?_
        exact hret 67 _ _ _ _ (N_53, P_53) hm hT rfl dX8_isSingle_67
      · have hm := hm.2 c_56
        refine lv_aload_n hx hb dX8_isSingle_59 rfl (lv_at hl 0 rfl) ?_
        refine kg_X8_isTest IH hC hN hK hT hm wq_1616 (by omega) hl.1 (Nat.le_of_ble_eq_true rfl) ⟨Nat.le_refl _, Nat.le_refl _⟩ dX8_isSingle_60 (fun r_60 N_60 P_60 H locs hm hT => ?_)
        refine lv_if_ne (tgt := 68) hx hb dX8_isSingle_63 (by decide) (fun c_63 => ?_) (fun c_63 => ?_)
        · have hm := hm.1 c_63
          refine lv_aload_n hx hb dX8_isSingle_68 rfl (lv_at hl 0 rfl) ?_
          refine lv_dup hx hb dX8_isSingle_69 rfl ?_
          refine gMP_mod_10 hC hK hT.1 wq_1429 dX8_isSingle_70 ?_
          refine lv_iconst (v := 1) hx hb dX8_isSingle_73 (by decide) ?_
          refine lv_isub hx hb dX8_isSingle_74 ?_
          refine pMP_mod_10 hC hK hT wq_1429 dX8_isSingle_75 (fun N_75 eN_75 H locs hT => ?_)
          have hm := hm N_75 eN_75
          refine lv_aload_n hx hb dX8_isSingle_78 rfl (lv_at hl 0 rfl) ?_
          refine lv_bipush (v := 93) hx hb dX8_isSingle_79 (by decide) ?_
          refine k_X8_eatSign hC hN hK hT hm wq_1640 (by omega) hl.1 (Nat.le_of_ble_eq_true rfl) ⟨Nat.le_refl _, Nat.le_refl _⟩ dX8_isSingle_81 (fun r_81 N_81 P_81 H locs hm hT => ?_)
          exact hret 84 _ _ _ _ (N_81, P_81) hm.2 hT hm.1 dX8_isSingle_84
        · have hm := hm.2 c_63
          refine lv_iconst (v := 0) hx hb dX8_isSingle_66 (by decide) ?_
          exact hret 67 _ _ _ _ (N_60, P_60) hm hT rfl dX8_isSingle_67
  · have hm := hm.2 c_6
    refine lv_aload_n hx hb dX8_isSingle_9 rfl (lv_at hl 0 rfl) ?_
    refine k_X8_isDeeper hC hN hK hT hm wq_1628 (by omega) hl.1 (Nat.le_of_ble_eq_true rfl) ⟨Nat.le_refl _, Nat.le_refl _⟩ dX8_isSingle_10 (fun r_10 N_10 P_10 H locs hm hT => ?_)
    refine lv_if_eq (tgt := 23) hx hb dX8_isSingle_13 (by decide) (fun c_13 => ?_) (fun c_13 => ?_)
    · have hm := hm.1 c_13
      refine lv_iconst (v := 0) hx hb dX8_isSingle_23 (by decide) ?_
      exact hret 24 _ _ _ _ (N_10, P_10) hm hT rfl dX8_isSingle_24
    · have hm := hm.2 c_13
      refine lv_aload_n hx hb dX8_isSingle_16 rfl (lv_at hl 0 rfl) ?_
      refine kg_X8_isSingle IH hC hN hK hT hm wq_1624 (by omega) hl.1 (Nat.le_of_ble_eq_true rfl) ⟨Nat.le_refl _, Nat.le_refl _⟩ dX8_isSingle_17 (fun r_17 N_17 P_17 H locs hm hT => ?_)
      refine lv_if_ne (tgt := 25) hx hb dX8_isSingle_20 (by decide) (fun c_20 => ?_) (fun c_20 => ?_)
      · have hm := hm.1 c_20
        refine lv_aload_n hx hb dX8_isSingle_25 rfl (lv_at hl 0 rfl) ?_
        refine lv_dup hx hb dX8_isSingle_26 rfl ?_
        refine gMP_mod_10 hC hK hT.1 wq_1429 dX8_isSingle_27 ?_
        refine lv_iconst (v := 1) hx hb dX8_isSingle_30 (by decide) ?_
        refine lv_isub hx hb dX8_isSingle_31 ?_
        refine pMP_mod_10 hC hK hT wq_1429 dX8_isSingle_32 (fun N_32 eN_32 H locs hT => ?_)
        have hm := hm N_32 eN_32
        refine lv_aload_n hx hb dX8_isSingle_35 rfl (lv_at hl 0 rfl) ?_
        refine lv_bipush (v := 28) hx hb dX8_isSingle_36 (by decide) ?_
        refine k_X8_put hC hN hK hT hm wq_1632 (by omega) hl.1 (Nat.le_of_ble_eq_true rfl) ⟨Nat.le_refl _, Nat.le_refl _⟩ dX8_isSingle_38 (fun N_38 P_38 H locs hm hT => ?_)
        refine lv_iconst (v := 1) hx hb dX8_isSingle_41 (by decide) ?_
        exact hret 42 _ _ _ _ (N_38, P_38) hm hT rfl dX8_isSingle_42
      · have hm := hm.2 c_20
        refine lv_iconst (v := 0) hx hb dX8_isSingle_23 (by decide) ?_
        exact hret 24 _ _ _ _ (N_17, P_17) hm hT rfl dX8_isSingle_24
set_option maxRecDepth 100000 in
set_option maxHeartbeats 4000000 in
theorem c_X8_isSum (d : Nat) (IH : gX8_IH d) (l : Launch) (D : va_G) (Z : Nat → ClassId) (q g : Nat → Nat) (pl sa aa : Nat) (N : M2) (P : M2) (sz : Nat) (K : Int32 → M2 → M2 → Prop) (hm : wp_X8_isSum (gX8 d) N P K) : Met l yX8_isSum (wy yX8_isSum cX8_isSum 2 (some .boolean)) (rk (10 + d) 0 0) (pre vwCl D Z (MP Z q g pl sa aa N P) sz [.ref (g 220)]) (poI vwCl D Z (fun u : M2 × M2 => MP Z q g pl sa aa u.1 u.2) (N, P) sz (fun (r : Int32) (u : M2 × M2) => K r u.1 u.2)) 0 0 (va_A (MP Z q g pl sa aa N P) sz) := by
  refine rw_of (ty := .boolean) (wsF := (fun u : M2 × M2 => MP Z q g pl sa aa u.1 u.2)) (u0 := (N, P)) (by decide +kernel) (Nat.le_of_ble_eq_true rfl) rfl ?_
  intro p e s m args below meth c Q A hC hN hsz hT hK hret ls hl
  have hx := hC.1
  have hb := hC.2.1
  have hl : lv_has ls 2 [(0, .ref (g 220))] := hl
  have hT : TS vwCl D (MP Z q g pl sa aa N P) A s.heap s.heap [] := hT
  have L9 : ∀ (n9 : Nat), ∀ (N : M2) (P : M2) (H : Heap) (locs : List Loc) (ls : Array Slot), wl_X8_isSum_9 (gX8 d) K n9 N P → TS vwCl D (MP Z q g pl sa aa N P) A s.heap H locs → lv_has ls 2 [(0, .ref (g 220))] → W p l e (rk (10 + d) 0 0) s m args below meth c H locs 0 0 Q (F0 m 9 ls []) := by
    intro n9
    induction n9 with
    | zero =>
      intro N P H locs ls hm hT hl
      exact False.elim hm
    | succ n9 ih9 =>
      have L43 : ∀ (N : M2) (P : M2) (q0 : Int32) (H : Heap) (locs : List Loc) (ls : Array Slot), wj_X8_isSum_43 (gX8 d) (wl_X8_isSum_9 (gX8 d) K n9) K N P q0 → TS vwCl D (MP Z q g pl sa aa N P) A s.heap H locs → lv_has ls 2 [(0, .ref (g 220))] → W p l e (rk (10 + d) 0 0) s m args below meth c H locs 0 0 Q (F0 m 43 ls [.int q0]) := by
        intro N P q0 H locs ls hm hT hl
        refine lv_istore_n (lv' := [(1, .int q0), (0, .ref (g 220))]) hx hb dX8_isSum_43 rfl hl (by decide) rfl (fun ls hl => ?_)
        refine lv_aload_n hx hb dX8_isSum_44 rfl (lv_at hl 1 rfl) ?_
        refine lv_dup hx hb dX8_isSum_45 rfl ?_
        refine gMP_mod_9 hC hK hT.1 wq_1428 dX8_isSum_46 ?_
        refine lv_iconst (v := 1) hx hb dX8_isSum_49 (by decide) ?_
        refine lv_iadd hx hb dX8_isSum_50 ?_
        refine pMP_mod_9 hC hK hT wq_1428 dX8_isSum_51 (fun N_51 eN_51 H locs hT => ?_)
        have hm := hm N_51 eN_51
        refine lv_aload_n hx hb dX8_isSum_54 rfl (lv_at hl 1 rfl) ?_
        refine kg_X8_isProduct IH hC hN hK hT hm wq_1652 (by omega) hl.1 (Nat.le_of_ble_eq_true rfl) ⟨Nat.le_refl _, Nat.le_refl _⟩ dX8_isSum_55 (fun r_55 N_55 P_55 H locs hm hT => ?_)
        refine lv_if_ne (tgt := 63) hx hb dX8_isSum_58 (by decide) (fun c_58 => ?_) (fun c_58 => ?_)
        · have hm := hm.1 c_58
          refine lv_aload_n hx hb dX8_isSum_63 rfl (lv_at hl 1 rfl) ?_
          refine lv_iload_n hx hb dX8_isSum_64 rfl (lv_at hl 0 rfl) ?_
          refine k_X8_put hC hN hK hT hm wq_1632 (by omega) hl.1 (Nat.le_of_ble_eq_true rfl) ⟨Nat.le_refl _, Nat.le_refl _⟩ dX8_isSum_65 (fun N_65 P_65 H locs hm hT => ?_)
          refine lv_goto (tgt := 9) hx hb dX8_isSum_68 (by decide) ?_
          exact ih9 _ _ _ _ _ hm hT (lv_sub hl [1] rfl)
        · have hm := hm.2 c_58
          refine lv_iconst (v := 0) hx hb dX8_isSum_61 (by decide) ?_
          exact hret 62 _ _ _ _ (N_55, P_55) hm hT rfl dX8_isSum_62
      intro N P H locs ls hm hT hl
      refine lv_aload_n hx hb dX8_isSum_9 rfl (lv_at hl 0 rfl) ?_
      refine lv_bipush (v := 43) hx hb dX8_isSum_10 (by decide) ?_
      refine k_X8_isSign hC hN hK hT.1 hT.D' hm wq_1636 (by omega) hl.1 (Nat.le_of_ble_eq_true rfl) ⟨Nat.le_refl _, Nat.le_refl _⟩ dX8_isSum_12 (fun r_12 hm => ?_)
      refine lv_if_ne (tgt := 27) hx hb dX8_isSum_15 (by decide) (fun c_15 => ?_) (fun c_15 => ?_)
      · have hm := hm.1 c_15
        refine lv_aload_n hx hb dX8_isSum_27 rfl (lv_at hl 0 rfl) ?_
        refine lv_bipush (v := 43) hx hb dX8_isSum_28 (by decide) ?_
        refine k_X8_isSign hC hN hK hT.1 hT.D' hm wq_1636 (by omega) hl.1 (Nat.le_of_ble_eq_true rfl) ⟨Nat.le_refl _, Nat.le_refl _⟩ dX8_isSum_30 (fun r_30 hm => ?_)
        refine lv_if_eq (tgt := 41) hx hb dX8_isSum_33 (by decide) (fun c_33 => ?_) (fun c_33 => ?_)
        · have hm := hm.1 c_33
          refine lv_bipush (v := 35) hx hb dX8_isSum_41 (by decide) ?_
          exact L43 _ _ _ _ _ _ hm hT (lv_sub hl [0] rfl)
        · have hm := hm.2 c_33
          refine lv_bipush (v := 34) hx hb dX8_isSum_36 (by decide) ?_
          refine lv_goto (tgt := 43) hx hb dX8_isSum_38 (by decide) ?_
          exact L43 _ _ _ _ _ _ hm hT (lv_sub hl [0] rfl)
      · have hm := hm.2 c_15
        refine lv_aload_n hx hb dX8_isSum_18 rfl (lv_at hl 0 rfl) ?_
        refine lv_bipush (v := 45) hx hb dX8_isSum_19 (by decide) ?_
        refine k_X8_isSign hC hN hK hT.1 hT.D' hm wq_1636 (by omega) hl.1 (Nat.le_of_ble_eq_true rfl) ⟨Nat.le_refl _, Nat.le_refl _⟩ dX8_isSum_21 (fun r_21 hm => ?_)
        refine lv_if_eq (tgt := 71) hx hb dX8_isSum_24 (by decide) (fun c_24 => ?_) (fun c_24 => ?_)
        · have hm := hm.1 c_24
          refine lv_iconst (v := 1) hx hb dX8_isSum_71 (by decide) ?_
          exact hret 72 _ _ _ _ (N, P) hm hT rfl dX8_isSum_72
        · have hm := hm.2 c_24
          refine lv_aload_n hx hb dX8_isSum_27 rfl (lv_at hl 0 rfl) ?_
          refine lv_bipush (v := 43) hx hb dX8_isSum_28 (by decide) ?_
          refine k_X8_isSign hC hN hK hT.1 hT.D' hm wq_1636 (by omega) hl.1 (Nat.le_of_ble_eq_true rfl) ⟨Nat.le_refl _, Nat.le_refl _⟩ dX8_isSum_30 (fun r_30 hm => ?_)
          refine lv_if_eq (tgt := 41) hx hb dX8_isSum_33 (by decide) (fun c_33 => ?_) (fun c_33 => ?_)
          · have hm := hm.1 c_33
            refine lv_bipush (v := 35) hx hb dX8_isSum_41 (by decide) ?_
            exact L43 _ _ _ _ _ _ hm hT (lv_sub hl [0] rfl)
          · have hm := hm.2 c_33
            refine lv_bipush (v := 34) hx hb dX8_isSum_36 (by decide) ?_
            refine lv_goto (tgt := 43) hx hb dX8_isSum_38 (by decide) ?_
            exact L43 _ _ _ _ _ _ hm hT (lv_sub hl [0] rfl)
  refine lv_aload_n hx hb dX8_isSum_0 rfl (lv_at hl 0 rfl) ?_
  refine kg_X8_isProduct IH hC hN hK hT hm wq_1652 (by omega) hl.1 (Nat.le_of_ble_eq_true rfl) ⟨Nat.le_refl _, Nat.le_refl _⟩ dX8_isSum_1 (fun r_1 N_1 P_1 H locs hm hT => ?_)
  refine lv_if_ne (tgt := 9) hx hb dX8_isSum_4 (by decide) (fun c_4 => ?_) (fun c_4 => ?_)
  · have hm := hm.1 c_4
    exact L9 _ _ _ _ _ _ hm hT (lv_sub hl [0] rfl)
  · have hm := hm.2 c_4
    refine lv_iconst (v := 0) hx hb dX8_isSum_7 (by decide) ?_
    exact hret 8 _ _ _ _ (N_1, P_1) hm hT rfl dX8_isSum_8
set_option maxRecDepth 100000 in
set_option maxHeartbeats 4000000 in
theorem c_X8_isProduct (d : Nat) (IH : gX8_IH d) (l : Launch) (D : va_G) (Z : Nat → ClassId) (q g : Nat → Nat) (pl sa aa : Nat) (N : M2) (P : M2) (sz : Nat) (K : Int32 → M2 → M2 → Prop) (hm : wp_X8_isProduct (gX8 d) N P K) : Met l yX8_isProduct (wy yX8_isProduct cX8_isProduct 2 (some .boolean)) (rk (10 + d) 0 0) (pre vwCl D Z (MP Z q g pl sa aa N P) sz [.ref (g 220)]) (poI vwCl D Z (fun u : M2 × M2 => MP Z q g pl sa aa u.1 u.2) (N, P) sz (fun (r : Int32) (u : M2 × M2) => K r u.1 u.2)) 0 0 (va_A (MP Z q g pl sa aa N P) sz) := by
  refine rw_of (ty := .boolean) (wsF := (fun u : M2 × M2 => MP Z q g pl sa aa u.1 u.2)) (u0 := (N, P)) (by decide +kernel) (Nat.le_of_ble_eq_true rfl) rfl ?_
  intro p e s m args below meth c Q A hC hN hsz hT hK hret ls hl
  have hx := hC.1
  have hb := hC.2.1
  have hl : lv_has ls 2 [(0, .ref (g 220))] := hl
  have hT : TS vwCl D (MP Z q g pl sa aa N P) A s.heap s.heap [] := hT
  have L9 : ∀ (n9 : Nat), ∀ (N : M2) (P : M2) (H : Heap) (locs : List Loc) (ls : Array Slot), wl_X8_isProduct_9 (gX8 d) K n9 N P → TS vwCl D (MP Z q g pl sa aa N P) A s.heap H locs → lv_has ls 2 [(0, .ref (g 220))] → W p l e (rk (10 + d) 0 0) s m args below meth c H locs 0 0 Q (F0 m 9 ls []) := by
    intro n9
    induction n9 with
    | zero =>
      intro N P H locs ls hm hT hl
      exact False.elim hm
    | succ n9 ih9 =>
      have L43 : ∀ (N : M2) (P : M2) (q0 : Int32) (H : Heap) (locs : List Loc) (ls : Array Slot), wj_X8_isProduct_43 (gX8 d) (wl_X8_isProduct_9 (gX8 d) K n9) K N P q0 → TS vwCl D (MP Z q g pl sa aa N P) A s.heap H locs → lv_has ls 2 [(0, .ref (g 220))] → W p l e (rk (10 + d) 0 0) s m args below meth c H locs 0 0 Q (F0 m 43 ls [.int q0]) := by
        intro N P q0 H locs ls hm hT hl
        refine lv_istore_n (lv' := [(1, .int q0), (0, .ref (g 220))]) hx hb dX8_isProduct_43 rfl hl (by decide) rfl (fun ls hl => ?_)
        refine lv_aload_n hx hb dX8_isProduct_44 rfl (lv_at hl 1 rfl) ?_
        refine lv_dup hx hb dX8_isProduct_45 rfl ?_
        refine gMP_mod_9 hC hK hT.1 wq_1428 dX8_isProduct_46 ?_
        refine lv_iconst (v := 1) hx hb dX8_isProduct_49 (by decide) ?_
        refine lv_iadd hx hb dX8_isProduct_50 ?_
        refine pMP_mod_9 hC hK hT wq_1428 dX8_isProduct_51 (fun N_51 eN_51 H locs hT => ?_)
        have hm := hm N_51 eN_51
        refine lv_aload_n hx hb dX8_isProduct_54 rfl (lv_at hl 1 rfl) ?_
        refine kg_X8_isValue IH hC hN hK hT hm wq_1656 (by omega) hl.1 (Nat.le_of_ble_eq_true rfl) ⟨Nat.le_refl _, Nat.le_refl _⟩ dX8_isProduct_55 (fun r_55 N_55 P_55 H locs hm hT => ?_)
        refine lv_if_ne (tgt := 63) hx hb dX8_isProduct_58 (by decide) (fun c_58 => ?_) (fun c_58 => ?_)
        · have hm := hm.1 c_58
          refine lv_aload_n hx hb dX8_isProduct_63 rfl (lv_at hl 1 rfl) ?_
          refine lv_iload_n hx hb dX8_isProduct_64 rfl (lv_at hl 0 rfl) ?_
          refine k_X8_put hC hN hK hT hm wq_1632 (by omega) hl.1 (Nat.le_of_ble_eq_true rfl) ⟨Nat.le_refl _, Nat.le_refl _⟩ dX8_isProduct_65 (fun N_65 P_65 H locs hm hT => ?_)
          refine lv_goto (tgt := 9) hx hb dX8_isProduct_68 (by decide) ?_
          exact ih9 _ _ _ _ _ hm hT (lv_sub hl [1] rfl)
        · have hm := hm.2 c_58
          refine lv_iconst (v := 0) hx hb dX8_isProduct_61 (by decide) ?_
          exact hret 62 _ _ _ _ (N_55, P_55) hm hT rfl dX8_isProduct_62
      intro N P H locs ls hm hT hl
      refine lv_aload_n hx hb dX8_isProduct_9 rfl (lv_at hl 0 rfl) ?_
      refine lv_bipush (v := 42) hx hb dX8_isProduct_10 (by decide) ?_
      refine k_X8_isSign hC hN hK hT.1 hT.D' hm wq_1636 (by omega) hl.1 (Nat.le_of_ble_eq_true rfl) ⟨Nat.le_refl _, Nat.le_refl _⟩ dX8_isProduct_12 (fun r_12 hm => ?_)
      refine lv_if_ne (tgt := 27) hx hb dX8_isProduct_15 (by decide) (fun c_15 => ?_) (fun c_15 => ?_)
      · have hm := hm.1 c_15
        refine lv_aload_n hx hb dX8_isProduct_27 rfl (lv_at hl 0 rfl) ?_
        refine lv_bipush (v := 42) hx hb dX8_isProduct_28 (by decide) ?_
        refine k_X8_isSign hC hN hK hT.1 hT.D' hm wq_1636 (by omega) hl.1 (Nat.le_of_ble_eq_true rfl) ⟨Nat.le_refl _, Nat.le_refl _⟩ dX8_isProduct_30 (fun r_30 hm => ?_)
        refine lv_if_eq (tgt := 41) hx hb dX8_isProduct_33 (by decide) (fun c_33 => ?_) (fun c_33 => ?_)
        · have hm := hm.1 c_33
          refine lv_bipush (v := 37) hx hb dX8_isProduct_41 (by decide) ?_
          exact L43 _ _ _ _ _ _ hm hT (lv_sub hl [0] rfl)
        · have hm := hm.2 c_33
          refine lv_bipush (v := 36) hx hb dX8_isProduct_36 (by decide) ?_
          refine lv_goto (tgt := 43) hx hb dX8_isProduct_38 (by decide) ?_
          exact L43 _ _ _ _ _ _ hm hT (lv_sub hl [0] rfl)
      · have hm := hm.2 c_15
        refine lv_aload_n hx hb dX8_isProduct_18 rfl (lv_at hl 0 rfl) ?_
        refine lv_bipush (v := 47) hx hb dX8_isProduct_19 (by decide) ?_
        refine k_X8_isSign hC hN hK hT.1 hT.D' hm wq_1636 (by omega) hl.1 (Nat.le_of_ble_eq_true rfl) ⟨Nat.le_refl _, Nat.le_refl _⟩ dX8_isProduct_21 (fun r_21 hm => ?_)
        refine lv_if_eq (tgt := 71) hx hb dX8_isProduct_24 (by decide) (fun c_24 => ?_) (fun c_24 => ?_)
        · have hm := hm.1 c_24
          refine lv_iconst (v := 1) hx hb dX8_isProduct_71 (by decide) ?_
          exact hret 72 _ _ _ _ (N, P) hm hT rfl dX8_isProduct_72
        · have hm := hm.2 c_24
          refine lv_aload_n hx hb dX8_isProduct_27 rfl (lv_at hl 0 rfl) ?_
          refine lv_bipush (v := 42) hx hb dX8_isProduct_28 (by decide) ?_
          refine k_X8_isSign hC hN hK hT.1 hT.D' hm wq_1636 (by omega) hl.1 (Nat.le_of_ble_eq_true rfl) ⟨Nat.le_refl _, Nat.le_refl _⟩ dX8_isProduct_30 (fun r_30 hm => ?_)
          refine lv_if_eq (tgt := 41) hx hb dX8_isProduct_33 (by decide) (fun c_33 => ?_) (fun c_33 => ?_)
          · have hm := hm.1 c_33
            refine lv_bipush (v := 37) hx hb dX8_isProduct_41 (by decide) ?_
            exact L43 _ _ _ _ _ _ hm hT (lv_sub hl [0] rfl)
          · have hm := hm.2 c_33
            refine lv_bipush (v := 36) hx hb dX8_isProduct_36 (by decide) ?_
            refine lv_goto (tgt := 43) hx hb dX8_isProduct_38 (by decide) ?_
            exact L43 _ _ _ _ _ _ hm hT (lv_sub hl [0] rfl)
  refine lv_aload_n hx hb dX8_isProduct_0 rfl (lv_at hl 0 rfl) ?_
  refine kg_X8_isValue IH hC hN hK hT hm wq_1656 (by omega) hl.1 (Nat.le_of_ble_eq_true rfl) ⟨Nat.le_refl _, Nat.le_refl _⟩ dX8_isProduct_1 (fun r_1 N_1 P_1 H locs hm hT => ?_)
  refine lv_if_ne (tgt := 9) hx hb dX8_isProduct_4 (by decide) (fun c_4 => ?_) (fun c_4 => ?_)
  · have hm := hm.1 c_4
    exact L9 _ _ _ _ _ _ hm hT (lv_sub hl [0] rfl)
  · have hm := hm.2 c_4
    refine lv_iconst (v := 0) hx hb dX8_isProduct_7 (by decide) ?_
    exact hret 8 _ _ _ _ (N_1, P_1) hm hT rfl dX8_isProduct_8
set_option maxRecDepth 100000 in
set_option maxHeartbeats 4000000 in
theorem c_X8_isValue (d : Nat) (IH : gX8_IH d) (l : Launch) (D : va_G) (Z : Nat → ClassId) (q g : Nat → Nat) (pl sa aa : Nat) (N : M2) (P : M2) (sz : Nat) (K : Int32 → M2 → M2 → Prop) (hm : wp_X8_isValue (gX8 d) N P K) : Met l yX8_isValue (wy yX8_isValue cX8_isValue 3 (some .boolean)) (rk (10 + d) 0 0) (pre vwCl D Z (MP Z q g pl sa aa N P) sz [.ref (g 220)]) (poI vwCl D Z (fun u : M2 × M2 => MP Z q g pl sa aa u.1 u.2) (N, P) sz (fun (r : Int32) (u : M2 × M2) => K r u.1 u.2)) 0 0 (va_A (MP Z q g pl sa aa N P) sz) := by
  refine rw_of (ty := .boolean) (wsF := (fun u : M2 × M2 => MP Z q g pl sa aa u.1 u.2)) (u0 := (N, P)) (by decide +kernel) (Nat.le_of_ble_eq_true rfl) rfl ?_
  intro p e s m args below meth c Q A hC hN hsz hT hK hret ls hl
  have hx := hC.1
  have hb := hC.2.1
  have hl : lv_has ls 3 [(0, .ref (g 220))] := hl
  have hT : TS vwCl D (MP Z q g pl sa aa N P) A s.heap s.heap [] := hT
  have L262 : ∀ (N : M2) (P : M2) (v1 : Int32) (q0 : Int32) (H : Heap) (locs : List Loc) (ls : Array Slot), wj_X8_isValue_262 (gX8 d) K N P v1 q0 → TS vwCl D (MP Z q g pl sa aa N P) A s.heap H locs → lv_has ls 3 [(0, .ref (g 220)), (1, .int v1)] → W p l e (rk (10 + d) 0 0) s m args below meth c H locs 0 0 Q (F0 m 262 ls [.int q0]) := by
    intro N P v1 q0 H locs ls hm hT hl
    refine lv_istore_n (lv' := [(2, .int q0), (0, .ref (g 220)), (1, .int v1)]) hx hb dX8_isValue_262 rfl hl (by decide) rfl (fun ls hl => ?_)
    refine lv_aload_n hx hb dX8_isValue_263 rfl (lv_at hl 1 rfl) ?_
    refine lv_iload_n hx hb dX8_isValue_264 rfl (lv_at hl 0 rfl) ?_
    refine lv_if_eq (tgt := 272) hx hb dX8_isValue_265 (by decide) (fun c_265 => ?_) (fun c_265 => ?_)
    · have hm := hm.1 c_265
      refine lv_iconst (v := (-1)) hx hb dX8_isValue_272 (by decide) ?_
      refine lv_iload_n hx hb dX8_isValue_273 rfl (lv_at hl 0 rfl) ?_
      refine kg_X8_isInside IH hC hN hK hT hm wq_1664 (by omega) hl.1 (Nat.le_of_ble_eq_true rfl) ⟨Nat.le_refl _, Nat.le_refl _⟩ dX8_isValue_274 (fun r_274 N_274 P_274 H locs hm hT => ?_)
      exact hret 277 _ _ _ _ (N_274, P_274) hm.2 hT hm.1 dX8_isValue_277
    · have hm := hm.2 c_265
      refine lv_iload_n hx hb dX8_isValue_268 rfl (lv_at hl 2 rfl) ?_
      refine lv_goto (tgt := 273) hx hb dX8_isValue_269 (by decide) ?_
      refine lv_iload_n hx hb dX8_isValue_273 rfl (lv_at hl 0 rfl) ?_
      refine kg_X8_isInside IH hC hN hK hT hm wq_1664 (by omega) hl.1 (Nat.le_of_ble_eq_true rfl) ⟨Nat.le_refl _, Nat.le_refl _⟩ dX8_isValue_274 (fun r_274 N_274 P_274 H locs hm hT => ?_)
      exact hret 277 _ _ _ _ (N_274, P_274) hm.2 hT hm.1 dX8_isValue_277
  have L158 : ∀ (N : M2) (P : M2) (H : Heap) (locs : List Loc) (ls : Array Slot), wj_X8_isValue_158 (gX8 d) K N P → TS vwCl D (MP Z q g pl sa aa N P) A s.heap H locs → lv_has ls 3 [(0, .ref (g 220))] → W p l e (rk (10 + d) 0 0) s m args below meth c H locs 0 0 Q (F0 m 158 ls []) := by
    intro N P H locs ls hm hT hl
    refine lv_aload_n hx hb dX8_isValue_158 rfl (lv_at hl 0 rfl) ?_
    refine lv_aload_n hx hb dX8_isValue_159 rfl (lv_at hl 0 rfl) ?_
    refine lv_bipush (v := 24) hx hb dX8_isValue_160 (by decide) ?_
    refine k_X8_is hC hN hK hT.1 hT.D' hm wq_1579 (by omega) hl.1 (Nat.le_of_ble_eq_true rfl) ⟨Nat.le_refl _, Nat.le_refl _⟩ dX8_isValue_162 (fun r_162 hm => ?_)
    refine lv_if_eq (tgt := 173) hx hb dX8_isValue_165 (by decide) (fun c_165 => ?_) (fun c_165 => ?_)
    · have hm := hm.1 c_165
      refine lv_bipush (v := 20) hx hb dX8_isValue_173 (by decide) ?_
      refine k_X8_isNamed hC hN hK hT hm wq_1644 (by omega) hl.1 (Nat.le_of_ble_eq_true rfl) ⟨Nat.le_refl _, Nat.le_refl _⟩ dX8_isValue_175 (fun r_175 N_175 P_175 H locs hm hT => ?_)
      exact hret 178 _ _ _ _ (N_175, P_175) hm.2 hT hm.1 dX8_isValue_178
    · have hm := hm.2 c_165
      refine lv_bipush (v := 21) hx hb dX8_isValue_168 (by decide) ?_
      refine lv_goto (tgt := 175) hx hb dX8_isValue_170 (by decide) ?_
      refine k_X8_isNamed hC hN hK hT hm wq_1644 (by omega) hl.1 (Nat.le_of_ble_eq_true rfl) ⟨Nat.le_refl _, Nat.le_refl _⟩ dX8_isValue_175 (fun r_175 N_175 P_175 H locs hm hT => ?_)
      exact hret 178 _ _ _ _ (N_175, P_175) hm.2 hT hm.1 dX8_isValue_178
  have L113 : ∀ (N : M2) (P : M2) (q0 : Int32) (H : Heap) (locs : List Loc) (ls : Array Slot), wj_X8_isValue_113 (gX8 d) K N P q0 → TS vwCl D (MP Z q g pl sa aa N P) A s.heap H locs → lv_has ls 3 [(0, .ref (g 220))] → W p l e (rk (10 + d) 0 0) s m args below meth c H locs 0 0 Q (F0 m 113 ls [.int q0, .ref (g 220)]) := by
    intro N P q0 H locs ls hm hT hl
    refine k_X8_put hC hN hK hT hm wq_1632 (by omega) hl.1 (Nat.le_of_ble_eq_true rfl) ⟨Nat.le_refl _, Nat.le_refl _⟩ dX8_isValue_113 (fun N_113 P_113 H locs hm hT => ?_)
    refine lv_aload_n hx hb dX8_isValue_116 rfl (lv_at hl 0 rfl) ?_
    refine lv_bipush (v := 12) hx hb dX8_isValue_117 (by decide) ?_
    refine k_X8_eat hC hN hK hT hm wq_1591 (by omega) hl.1 (Nat.le_of_ble_eq_true rfl) ⟨Nat.le_refl _, Nat.le_refl _⟩ dX8_isValue_119 (fun r_119 N_119 P_119 H locs hm hT => ?_)
    refine lv_if_ne (tgt := 134) hx hb dX8_isValue_122 (by decide) (fun c_122 => ?_) (fun c_122 => ?_)
    · have hm := hm.1 c_122
      refine lv_iconst (v := 1) hx hb dX8_isValue_134 (by decide) ?_
      refine lv_goto (tgt := 139) hx hb dX8_isValue_135 (by decide) ?_
      exact hret 139 _ _ _ _ (N_119, P_119) hm hT rfl dX8_isValue_139
    · have hm := hm.2 c_122
      refine lv_aload_n hx hb dX8_isValue_125 rfl (lv_at hl 0 rfl) ?_
      refine lv_bipush (v := 13) hx hb dX8_isValue_126 (by decide) ?_
      refine k_X8_eat hC hN hK hT hm wq_1591 (by omega) hl.1 (Nat.le_of_ble_eq_true rfl) ⟨Nat.le_refl _, Nat.le_refl _⟩ dX8_isValue_128 (fun r_128 N_128 P_128 H locs hm hT => ?_)
      refine lv_if_eq (tgt := 138) hx hb dX8_isValue_131 (by decide) (fun c_131 => ?_) (fun c_131 => ?_)
      · have hm := hm.1 c_131
        refine lv_iconst (v := 0) hx hb dX8_isValue_138 (by decide) ?_
        exact hret 139 _ _ _ _ (N_128, P_128) hm hT rfl dX8_isValue_139
      · have hm := hm.2 c_131
        refine lv_iconst (v := 1) hx hb dX8_isValue_134 (by decide) ?_
        refine lv_goto (tgt := 139) hx hb dX8_isValue_135 (by decide) ?_
        exact hret 139 _ _ _ _ (N_128, P_128) hm hT rfl dX8_isValue_139
  have L67 : ∀ (N : M2) (P : M2) (v1 : Int32) (H : Heap) (locs : List Loc) (ls : Array Slot), wj_X8_isValue_67 (gX8 d) K N P v1 → TS vwCl D (MP Z q g pl sa aa N P) A s.heap H locs → lv_has ls 3 [(0, .ref (g 220)), (1, .int v1)] → W p l e (rk (10 + d) 0 0) s m args below meth c H locs 0 0 Q (F0 m 67 ls []) := by
    intro N P v1 H locs ls hm hT hl
    refine lv_aload_n hx hb dX8_isValue_67 rfl (lv_at hl 0 rfl) ?_
    refine lv_iload_n hx hb dX8_isValue_68 rfl (lv_at hl 1 rfl) ?_
    refine k_X8_put hC hN hK hT hm wq_1632 (by omega) hl.1 (Nat.le_of_ble_eq_true rfl) ⟨Nat.le_refl _, Nat.le_refl _⟩ dX8_isValue_69 (fun N_69 P_69 H locs hm hT => ?_)
    refine lv_aload_n hx hb dX8_isValue_72 rfl (lv_at hl 0 rfl) ?_
    refine lv_dup hx hb dX8_isValue_73 rfl ?_
    refine gMP_mod_9 hC hK hT.1 wq_1428 dX8_isValue_74 ?_
    refine lv_iconst (v := 1) hx hb dX8_isValue_77 (by decide) ?_
    refine lv_iadd hx hb dX8_isValue_78 ?_
    refine pMP_mod_9 hC hK hT wq_1428 dX8_isValue_79 (fun N_79 eN_79 H locs hT => ?_)
    have hm := hm N_79 eN_79
    refine lv_iconst (v := 1) hx hb dX8_isValue_82 (by decide) ?_
    exact hret 83 _ _ _ _ (N_79, P_69) hm hT rfl dX8_isValue_83
  refine lv_aload_n hx hb dX8_isValue_0 rfl (lv_at hl 0 rfl) ?_
  refine gMP_mod_4 hC hK hT.1 wq_1423 dX8_isValue_1 ?_
  refine lv_aload_n hx hb dX8_isValue_4 rfl (lv_at hl 0 rfl) ?_
  refine gMP_mod_9 hC hK hT.1 wq_1428 dX8_isValue_5 ?_
  refine w_iald (q0 := 2) hC hK hT.1 rfl hm.1 dX8_isValue_8 ?_
  have hm := hm.2
  refine lv_topi (fun v1_9 ev1_9 => ?_)
  have hm := hm v1_9 ev1_9
  refine lv_istore_n (lv' := [(1, .int v1_9), (0, .ref (g 220))]) hx hb dX8_isValue_9 rfl hl (by decide) rfl (fun ls hl => ?_)
  refine lv_aload_n hx hb dX8_isValue_10 rfl (lv_at hl 1 rfl) ?_
  refine lv_bipush (v := 41) hx hb dX8_isValue_11 (by decide) ?_
  refine k_X8_is hC hN hK hT.1 hT.D' hm wq_1579 (by omega) hl.1 (Nat.le_of_ble_eq_true rfl) ⟨Nat.le_refl _, Nat.le_refl _⟩ dX8_isValue_13 (fun r_13 hm => ?_)
  refine lv_if_eq (tgt := 49) hx hb dX8_isValue_16 (by decide) (fun c_16 => ?_) (fun c_16 => ?_)
  · have hm := hm.1 c_16
    refine lv_aload_n hx hb dX8_isValue_49 rfl (lv_at hl 1 rfl) ?_
    refine lv_bipush (v := 20) hx hb dX8_isValue_50 (by decide) ?_
    refine k_X8_is hC hN hK hT.1 hT.D' hm wq_1579 (by omega) hl.1 (Nat.le_of_ble_eq_true rfl) ⟨Nat.le_refl _, Nat.le_refl _⟩ dX8_isValue_52 (fun r_52 hm => ?_)
    refine lv_if_ne (tgt := 67) hx hb dX8_isValue_55 (by decide) (fun c_55 => ?_) (fun c_55 => ?_)
    · have hm := hm.1 c_55
      exact L67 _ _ _ _ _ _ hm hT (lv_sub hl [1, 0] rfl)
    · have hm := hm.2 c_55
      refine lv_aload_n hx hb dX8_isValue_58 rfl (lv_at hl 1 rfl) ?_
      refine lv_bipush (v := 21) hx hb dX8_isValue_59 (by decide) ?_
      refine k_X8_is hC hN hK hT.1 hT.D' hm wq_1579 (by omega) hl.1 (Nat.le_of_ble_eq_true rfl) ⟨Nat.le_refl _, Nat.le_refl _⟩ dX8_isValue_61 (fun r_61 hm => ?_)
      refine lv_if_eq (tgt := 84) hx hb dX8_isValue_64 (by decide) (fun c_64 => ?_) (fun c_64 => ?_)
      · have hm := hm.1 c_64
        refine lv_aload_n hx hb dX8_isValue_84 rfl (lv_at hl 1 rfl) ?_
        refine lv_bipush (v := 25) hx hb dX8_isValue_85 (by decide) ?_
        refine k_X8_eat hC hN hK hT hm wq_1591 (by omega) hl.1 (Nat.le_of_ble_eq_true rfl) ⟨Nat.le_refl _, Nat.le_refl _⟩ dX8_isValue_87 (fun r_87 N_87 P_87 H locs hm hT => ?_)
        refine lv_if_eq (tgt := 140) hx hb dX8_isValue_90 (by decide) (fun c_90 => ?_) (fun c_90 => ?_)
        · have hm := hm.1 c_90
          refine lv_aload_n hx hb dX8_isValue_140 rfl (lv_at hl 1 rfl) ?_
          refine lv_bipush (v := 23) hx hb dX8_isValue_141 (by decide) ?_
          refine k_X8_is hC hN hK hT.1 hT.D' hm wq_1579 (by omega) hl.1 (Nat.le_of_ble_eq_true rfl) ⟨Nat.le_refl _, Nat.le_refl _⟩ dX8_isValue_143 (fun r_143 hm => ?_)
          refine lv_if_ne (tgt := 158) hx hb dX8_isValue_146 (by decide) (fun c_146 => ?_) (fun c_146 => ?_)
          · have hm := hm.1 c_146
            exact L158 _ _ _ _ _ hm hT (lv_sub hl [1] rfl)
          · have hm := hm.2 c_146
            refine lv_aload_n hx hb dX8_isValue_149 rfl (lv_at hl 1 rfl) ?_
            refine lv_bipush (v := 24) hx hb dX8_isValue_150 (by decide) ?_
            refine k_X8_is hC hN hK hT.1 hT.D' hm wq_1579 (by omega) hl.1 (Nat.le_of_ble_eq_true rfl) ⟨Nat.le_refl _, Nat.le_refl _⟩ dX8_isValue_152 (fun r_152 hm => ?_)
            refine lv_if_eq (tgt := 179) hx hb dX8_isValue_155 (by decide) (fun c_155 => ?_) (fun c_155 => ?_)
            · have hm := hm.1 c_155
              refine lv_aload_n hx hb dX8_isValue_179 rfl (lv_at hl 1 rfl) ?_
              refine lv_bipush (v := 45) hx hb dX8_isValue_180 (by decide) ?_
              refine k_X8_isSign hC hN hK hT.1 hT.D' hm wq_1636 (by omega) hl.1 (Nat.le_of_ble_eq_true rfl) ⟨Nat.le_refl _, Nat.le_refl _⟩ dX8_isValue_182 (fun r_182 hm => ?_)
              refine lv_if_eq (tgt := 222) hx hb dX8_isValue_185 (by decide) (fun c_185 => ?_) (fun c_185 => ?_)
              · have hm := hm.1 c_185
                refine lv_aload_n hx hb dX8_isValue_222 rfl (lv_at hl 1 rfl) ?_
                refine lv_bipush (v := 22) hx hb dX8_isValue_223 (by decide) ?_
                refine k_X8_eat hC hN hK hT hm wq_1591 (by omega) hl.1 (Nat.le_of_ble_eq_true rfl) ⟨Nat.le_refl _, Nat.le_refl _⟩ dX8_isValue_225 (fun r_225 N_225 P_225 H locs hm hT => ?_)
                refine lv_if_eq (tgt := 239) hx hb dX8_isValue_228 (by decide) (fun c_228 => ?_) (fun c_228 => ?_)
                · have hm := hm.1 c_228
                  refine lv_aload_n hx hb dX8_isValue_239 rfl (lv_at hl 1 rfl) ?_
                  refine lv_bipush (v := 30) hx hb dX8_isValue_240 (by decide) ?_
                  refine k_X8_eat hC hN hK hT hm wq_1591 (by omega) hl.1 (Nat.le_of_ble_eq_true rfl) ⟨Nat.le_refl _, Nat.le_refl _⟩ dX8_isValue_242 (fun r_242 N_242 P_242 H locs hm hT => ?_)
                  refine lv_if_ne (tgt := 257) hx hb dX8_isValue_245 (by decide) (fun c_245 => ?_) (fun c_245 => ?_)
                  · have hm := hm.1 c_245
                    refine lv_iconst (v := 1) hx hb dX8_isValue_257 (by decide) ?_
                    refine lv_goto (tgt := 262) hx hb dX8_isValue_258 (by decide) ?_
                    exact L262 _ _ _ _ _ _ _ hm hT (lv_sub hl [1, 0] rfl)
                  · have hm := hm.2 c_245
                    refine lv_aload_n hx hb dX8_isValue_248 rfl (lv_at hl 1 rfl) ?_
                    refine lv_bipush (v := 31) hx hb dX8_isValue_249 (by decide) ?_
                    refine k_X8_eat hC hN hK hT hm wq_1591 (by omega) hl.1 (Nat.le_of_ble_eq_true rfl) ⟨Nat.le_refl _, Nat.le_refl _⟩ dX8_isValue_251 (fun r_251 N_251 P_251 H locs hm hT => ?_)
                    refine lv_if_eq (tgt := 261) hx hb dX8_isValue_254 (by decide) (fun c_254 => ?_) (fun c_254 => ?_)
                    · have hm := hm.1 c_254
                      refine lv_iconst (v := 0) hx hb dX8_isValue_261 (by decide) ?_
                      exact L262 _ _ _ _ _ _ _ hm hT (lv_sub hl [1, 0] rfl)
                    · have hm := hm.2 c_254
                      refine lv_iconst (v := 1) hx hb dX8_isValue_257 (by decide) ?_
                      refine lv_goto (tgt := 262) hx hb dX8_isValue_258 (by decide) ?_
                      exact L262 _ _ _ _ _ _ _ hm hT (lv_sub hl [1, 0] rfl)
                · have hm := hm.2 c_228
                  refine lv_aload_n hx hb dX8_isValue_231 rfl (lv_at hl 1 rfl) ?_
                  refine lv_bipush (v := 22) hx hb dX8_isValue_232 (by decide) ?_
                  refine lv_iconst (v := 0) hx hb dX8_isValue_234 (by decide) ?_
                  refine kg_X8_isInside IH hC hN hK hT hm wq_1664 (by omega) hl.1 (Nat.le_of_ble_eq_true rfl) ⟨Nat.le_refl _, Nat.le_refl _⟩ dX8_isValue_235 (fun r_235 N_235 P_235 H locs hm hT => ?_)
                  exact hret 238 _ _ _ _ (N_235, P_235) hm.2 hT hm.1 dX8_isValue_238
              · have hm := hm.2 c_185
                refine lv_aload_n hx hb dX8_isValue_188 rfl (lv_at hl 1 rfl) ?_
                refine k_X8_isDeeper hC hN hK hT hm wq_1628 (by omega) hl.1 (Nat.le_of_ble_eq_true rfl) ⟨Nat.le_refl _, Nat.le_refl _⟩ dX8_isValue_189 (fun r_189 N_189 P_189 H locs hm hT => ?_)
                refine lv_if_eq (tgt := 202) hx hb dX8_isValue_192 (by decide) (fun c_192 => ?_) (fun c_192 => ?_)
                · have hm := hm.1 c_192
                  refine lv_iconst (v := 0) hx hb dX8_isValue_202 (by decide) ?_
                  exact hret 203 _ _ _ _ (N_189, P_189) hm hT rfl dX8_isValue_203
                · have hm := hm.2 c_192
                  refine lv_aload_n hx hb dX8_isValue_195 rfl (lv_at hl 1 rfl) ?_
                  refine kg_X8_isValue IH hC hN hK hT hm wq_1656 (by omega) hl.1 (Nat.le_of_ble_eq_true rfl) ⟨Nat.le_refl _, Nat.le_refl _⟩ dX8_isValue_196 (fun r_196 N_196 P_196 H locs hm hT => ?_)
                  refine lv_if_ne (tgt := 204) hx hb dX8_isValue_199 (by decide) (fun c_199 => ?_) (fun c_199 => ?_)
                  · have hm := hm.1 c_199
                    refine lv_aload_n hx hb dX8_isValue_204 rfl (lv_at hl 1 rfl) ?_
                    refine lv_dup hx hb dX8_isValue_205 rfl ?_
                    refine gMP_mod_10 hC hK hT.1 wq_1429 dX8_isValue_206 ?_
                    refine lv_iconst (v := 1) hx hb dX8_isValue_209 (by decide) ?_
                    refine lv_isub hx hb dX8_isValue_210 ?_
                    refine pMP_mod_10 hC hK hT wq_1429 dX8_isValue_211 (fun N_211 eN_211 H locs hT => ?_)
                    have hm := hm N_211 eN_211
                    refine lv_aload_n hx hb dX8_isValue_214 rfl (lv_at hl 1 rfl) ?_
                    refine lv_bipush (v := 33) hx hb dX8_isValue_215 (by decide) ?_
                    refine k_X8_put hC hN hK hT hm wq_1632 (by omega) hl.1 (Nat.le_of_ble_eq_true rfl) ⟨Nat.le_refl _, Nat.le_refl _⟩ dX8_isValue_217 (fun N_217 P_217 H locs hm hT => ?_)
                    refine lv_iconst (v := 1) hx hb dX8_isValue_220 (by decide) ?_
                    exact hret 221 _ _ _ _ (N_217, P_217) hm hT rfl dX8_isValue_221
                  · have hm := hm.2 c_199
                    refine lv_iconst (v := 0) hx hb dX8_isValue_202 (by decide) ?_
                    exact hret 203 _ _ _ _ (N_196, P_196) hm hT rfl dX8_isValue_203
            · have hm := hm.2 c_155
              exact L158 _ _ _ _ _ hm hT (lv_sub hl [1] rfl)
        · have hm := hm.2 c_90
          refine lv_aload_n hx hb dX8_isValue_93 rfl (lv_at hl 1 rfl) ?_
          refine lv_iload_n hx hb dX8_isValue_94 rfl (lv_at hl 0 rfl) ?_
          refine k_X8_put hC hN hK hT hm wq_1632 (by omega) hl.1 (Nat.le_of_ble_eq_true rfl) ⟨Nat.le_refl _, Nat.le_refl _⟩ dX8_isValue_95 (fun N_95 P_95 H locs hm hT => ?_)
          refine lv_aload_n hx hb dX8_isValue_98 rfl (lv_at hl 1 rfl) ?_
          refine lv_aload_n hx hb dX8_isValue_99 rfl (lv_at hl 1 rfl) ?_
          refine lv_bipush (v := 12) hx hb dX8_isValue_100 (by decide) ?_
          refine k_X8_is hC hN hK hT.1 hT.D' hm wq_1579 (by omega) hl.1 (Nat.le_of_ble_eq_true rfl) ⟨Nat.le_refl _, Nat.le_refl _⟩ dX8_isValue_102 (fun r_102 hm => ?_)
          refine lv_if_eq (tgt := 112) hx hb dX8_isValue_105 (by decide) (fun c_105 => ?_) (fun c_105 => ?_)
          · have hm := hm.1 c_105
            refine lv_iconst (v := 1) hx hb dX8_isValue_112 (by decide) ?_
            exact L113 _ _ _ _ _ _ hm hT (lv_sub hl [1] rfl)
          · have hm := hm.2 c_105
            refine lv_iconst (v := 0) hx hb dX8_isValue_108 (by decide) ?_
            refine lv_goto (tgt := 113) hx hb dX8_isValue_109 (by decide) ?_
            exact L113 _ _ _ _ _ _ hm hT (lv_sub hl [1] rfl)
      · have hm := hm.2 c_64
        exact L67 _ _ _ _ _ _ hm hT (lv_sub hl [1, 0] rfl)
  · have hm := hm.2 c_16
    refine lv_aload_n hx hb dX8_isValue_19 rfl (lv_at hl 1 rfl) ?_
    refine lv_bipush (v := 32) hx hb dX8_isValue_20 (by decide) ?_
    refine k_X8_put hC hN hK hT hm wq_1632 (by omega) hl.1 (Nat.le_of_ble_eq_true rfl) ⟨Nat.le_refl _, Nat.le_refl _⟩ dX8_isValue_22 (fun N_22 P_22 H locs hm hT => ?_)
    refine lv_aload_n hx hb dX8_isValue_25 rfl (lv_at hl 1 rfl) ?_
    refine lv_aload_n hx hb dX8_isValue_26 rfl (lv_at hl 1 rfl) ?_
    refine lv_aload_n hx hb dX8_isValue_27 rfl (lv_at hl 1 rfl) ?_
    refine gMP_mod_9 hC hK hT.1 wq_1428 dX8_isValue_28 ?_
    refine k_X8_numberAt hC hN hK hT.1 hT.D' hm wq_1660 (by omega) hl.1 (Nat.le_of_ble_eq_true rfl) ⟨Nat.le_refl _, Nat.le_refl _⟩ dX8_isValue_31 (fun r_31 hm => ?_)
    refine k_X8_put hC hN hK hT hm wq_1632 (by omega) hl.1 (Nat.le_of_ble_eq_true rfl) ⟨Nat.le_refl _, Nat.le_refl _⟩ dX8_isValue_34 (fun N_34 P_34 H locs hm hT => ?_)
    refine lv_aload_n hx hb dX8_isValue_37 rfl (lv_at hl 1 rfl) ?_
    refine lv_dup hx hb dX8_isValue_38 rfl ?_
    refine gMP_mod_9 hC hK hT.1 wq_1428 dX8_isValue_39 ?_
    refine lv_iconst (v := 1) hx hb dX8_isValue_42 (by decide) ?_
    refine lv_iadd hx hb dX8_isValue_43 ?_
    refine pMP_mod_9 hC hK hT wq_1428 dX8_isValue_44 (fun N_44 eN_44 H locs hT => ?_)
    have hm := hm N_44 eN_44
    refine lv_iconst (v := 1) hx hb dX8_isValue_47 (by decide) ?_
    exact hret 48 _ _ _ _ (N_44, P_34) hm hT rfl dX8_isValue_48
set_option maxRecDepth 100000 in
set_option maxHeartbeats 4000000 in
theorem c_X8_isInside (d : Nat) (IH : gX8_IH d) (l : Launch) (D : va_G) (Z : Nat → ClassId) (q g : Nat → Nat) (pl sa aa : Nat) (N : M2) (P : M2) (sz : Nat) (x1 : Int32) (x2 : Int32) (K : Int32 → M2 → M2 → Prop) (hm : wp_X8_isInside (gX8 d) N P x1 x2 K) : Met l yX8_isInside (wy yX8_isInside cX8_isInside 3 (some .boolean)) (rk (10 + d) 0 0) (pre vwCl D Z (MP Z q g pl sa aa N P) sz [.ref (g 220), .int x1, .int x2]) (poI vwCl D Z (fun u : M2 × M2 => MP Z q g pl sa aa u.1 u.2) (N, P) sz (fun (r : Int32) (u : M2 × M2) => K r u.1 u.2)) 0 0 (va_A (MP Z q g pl sa aa N P) sz) := by
  refine rw_of (ty := .boolean) (wsF := (fun u : M2 × M2 => MP Z q g pl sa aa u.1 u.2)) (u0 := (N, P)) (by decide +kernel) (Nat.le_of_ble_eq_true rfl) rfl ?_
  intro p e s m args below meth c Q A hC hN hsz hT hK hret ls hl
  have hx := hC.1
  have hb := hC.2.1
  have hl : lv_has ls 3 [(0, .ref (g 220)), (1, .int x1), (2, .int x2)] := hl
  have hT : TS vwCl D (MP Z q g pl sa aa N P) A s.heap s.heap [] := hT
  have L45 : ∀ (N : M2) (P : M2) (v1 : Int32) (H : Heap) (locs : List Loc) (ls : Array Slot), wj_X8_isInside_45 (gX8 d) K N P v1 → TS vwCl D (MP Z q g pl sa aa N P) A s.heap H locs → lv_has ls 3 [(0, .ref (g 220)), (1, .int v1)] → W p l e (rk (10 + d) 0 0) s m args below meth c H locs 0 0 Q (F0 m 45 ls []) := by
    intro N P v1 H locs ls hm hT hl
    refine lv_aload_n hx hb dX8_isInside_45 rfl (lv_at hl 0 rfl) ?_
    refine lv_dup hx hb dX8_isInside_46 rfl ?_
    refine gMP_mod_10 hC hK hT.1 wq_1429 dX8_isInside_47 ?_
    refine lv_iconst (v := 1) hx hb dX8_isInside_50 (by decide) ?_
    refine lv_isub hx hb dX8_isInside_51 ?_
    refine pMP_mod_10 hC hK hT wq_1429 dX8_isInside_52 (fun N_52 eN_52 H locs hT => ?_)
    have hm := hm N_52 eN_52
    refine lv_iload_n hx hb dX8_isInside_55 rfl (lv_at hl 1 rfl) ?_
    refine lv_iconst (v := (-1)) hx hb dX8_isInside_56 (by decide) ?_
    refine lv_icmp_eq (tgt := 65) hx hb dX8_isInside_57 (by decide) (fun c_57 => ?_) (fun c_57 => ?_)
    · have hm := hm.1 c_57
      refine lv_aload_n hx hb dX8_isInside_65 rfl (lv_at hl 0 rfl) ?_
      refine lv_bipush (v := 41) hx hb dX8_isInside_66 (by decide) ?_
      refine k_X8_eatSign hC hN hK hT hm wq_1640 (by omega) hl.1 (Nat.le_of_ble_eq_true rfl) ⟨Nat.le_refl _, Nat.le_refl _⟩ dX8_isInside_68 (fun r_68 N_68 P_68 H locs hm hT => ?_)
      exact hret 71 _ _ _ _ (N_68, P_68) hm.2 hT hm.1 dX8_isInside_71
    · have hm := hm.2 c_57
      refine lv_aload_n hx hb dX8_isInside_60 rfl (lv_at hl 0 rfl) ?_
      refine lv_iload_n hx hb dX8_isInside_61 rfl (lv_at hl 1 rfl) ?_
      refine k_X8_put hC hN hK hT hm wq_1632 (by omega) hl.1 (Nat.le_of_ble_eq_true rfl) ⟨Nat.le_refl _, Nat.le_refl _⟩ dX8_isInside_62 (fun N_62 P_62 H locs hm hT => ?_)
      refine lv_aload_n hx hb dX8_isInside_65 rfl (lv_at hl 0 rfl) ?_
      refine lv_bipush (v := 41) hx hb dX8_isInside_66 (by decide) ?_
      refine k_X8_eatSign hC hN hK hT hm wq_1640 (by omega) hl.1 (Nat.le_of_ble_eq_true rfl) ⟨Nat.le_refl _, Nat.le_refl _⟩ dX8_isInside_68 (fun r_68 N_68 P_68 H locs hm hT => ?_)
      exact hret 71 _ _ _ _ (N_68, P_68) hm.2 hT hm.1 dX8_isInside_71
  refine lv_aload_n hx hb dX8_isInside_0 rfl (lv_at hl 0 rfl) ?_
  refine lv_bipush (v := 40) hx hb dX8_isInside_1 (by decide) ?_
  refine k_X8_isSign hC hN hK hT.1 hT.D' hm wq_1636 (by omega) hl.1 (Nat.le_of_ble_eq_true rfl) ⟨Nat.le_refl _, Nat.le_refl _⟩ dX8_isInside_3 (fun r_3 hm => ?_)
  refine lv_if_eq (tgt := 43) hx hb dX8_isInside_6 (by decide) (fun c_6 => ?_) (fun c_6 => ?_)
  · have hm := hm.1 c_6
    refine lv_iconst (v := 0) hx hb dX8_isInside_43 (by decide) ?_
    exact hret 44 _ _ _ _ (N, P) hm hT rfl dX8_isInside_44
  · have hm := hm.2 c_6
    refine lv_aload_n hx hb dX8_isInside_9 rfl (lv_at hl 0 rfl) ?_
    refine k_X8_isDeeper hC hN hK hT hm wq_1628 (by omega) hl.1 (Nat.le_of_ble_eq_true rfl) ⟨Nat.le_refl _, Nat.le_refl _⟩ dX8_isInside_10 (fun r_10 N_10 P_10 H locs hm hT => ?_)
    refine lv_if_eq (tgt := 43) hx hb dX8_isInside_13 (by decide) (fun c_13 => ?_) (fun c_13 => ?_)
    · have hm := hm.1 c_13
      refine lv_iconst (v := 0) hx hb dX8_isInside_43 (by decide) ?_
      exact hret 44 _ _ _ _ (N_10, P_10) hm hT rfl dX8_isInside_44
    · have hm := hm.2 c_13
      refine lv_aload_n hx hb dX8_isInside_16 rfl (lv_at hl 0 rfl) ?_
      refine kg_X8_isSum IH hC hN hK hT hm wq_1648 (by omega) hl.1 (Nat.le_of_ble_eq_true rfl) ⟨Nat.le_refl _, Nat.le_refl _⟩ dX8_isInside_17 (fun r_17 N_17 P_17 H locs hm hT => ?_)
      refine lv_if_eq (tgt := 43) hx hb dX8_isInside_20 (by decide) (fun c_20 => ?_) (fun c_20 => ?_)
      · have hm := hm.1 c_20
        refine lv_iconst (v := 0) hx hb dX8_isInside_43 (by decide) ?_
        exact hret 44 _ _ _ _ (N_17, P_17) hm hT rfl dX8_isInside_44
      · have hm := hm.2 c_20
        refine lv_iload_n hx hb dX8_isInside_23 rfl (lv_at hl 2 rfl) ?_
        refine lv_if_eq (tgt := 45) hx hb dX8_isInside_24 (by decide) (fun c_24 => ?_) (fun c_24 => ?_)
        · have hm := hm.1 c_24
          exact L45 _ _ _ _ _ _ hm hT (lv_sub hl [0, 1] rfl)
        · have hm := hm.2 c_24
          refine lv_aload_n hx hb dX8_isInside_27 rfl (lv_at hl 0 rfl) ?_
          refine lv_bipush (v := 44) hx hb dX8_isInside_28 (by decide) ?_
          refine k_X8_eatSign hC hN hK hT hm wq_1640 (by omega) hl.1 (Nat.le_of_ble_eq_true rfl) ⟨Nat.le_refl _, Nat.le_refl _⟩ dX8_isInside_30 (fun r_30 N_30 P_30 H locs hm hT => ?_)
          refine lv_if_eq (tgt := 43) hx hb dX8_isInside_33 (by decide) (fun c_33 => ?_) (fun c_33 => ?_)
          · have hm := hm.1 c_33
            refine lv_iconst (v := 0) hx hb dX8_isInside_43 (by decide) ?_
            exact hret 44 _ _ _ _ (N_30, P_30) hm hT rfl dX8_isInside_44
          · have hm := hm.2 c_33
            refine lv_aload_n hx hb dX8_isInside_36 rfl (lv_at hl 0 rfl) ?_
            refine kg_X8_isSum IH hC hN hK hT hm wq_1648 (by omega) hl.1 (Nat.le_of_ble_eq_true rfl) ⟨Nat.le_refl _, Nat.le_refl _⟩ dX8_isInside_37 (fun r_37 N_37 P_37 H locs hm hT => ?_)
            refine lv_if_ne (tgt := 45) hx hb dX8_isInside_40 (by decide) (fun c_40 => ?_) (fun c_40 => ?_)
            · have hm := hm.1 c_40
              exact L45 _ _ _ _ _ _ hm hT (lv_sub hl [0, 1] rfl)
            · have hm := hm.2 c_40
              refine lv_iconst (v := 0) hx hb dX8_isInside_43 (by decide) ?_
              exact hret 44 _ _ _ _ (N_37, P_37) hm hT rfl dX8_isInside_44
theorem gX8_ih : ∀ d : Nat, gX8_IH d := by
  intro d
  induction d with
  | zero =>
    exact ⟨fun _ _ _ _ _ _ _ _ _ _ _ _ hm => False.elim hm, fun _ _ _ _ _ _ _ _ _ _ _ _ hm => False.elim hm, fun _ _ _ _ _ _ _ _ _ _ _ _ hm => False.elim hm, fun _ _ _ _ _ _ _ _ _ _ _ _ hm => False.elim hm, fun _ _ _ _ _ _ _ _ _ _ _ _ hm => False.elim hm, fun _ _ _ _ _ _ _ _ _ _ _ _ hm => False.elim hm, fun _ _ _ _ _ _ _ _ _ _ _ _ _ _ hm => False.elim hm⟩
  | succ d ih =>
    exact ⟨fun l D Z q g pl sa aa N P sz K hm => (show 9 + (d + 1) = 10 + d by omega) ▸ c_X8_isTest d ih l D Z q g pl sa aa N P sz K hm,
      fun l D Z q g pl sa aa N P sz K hm => (show 9 + (d + 1) = 10 + d by omega) ▸ c_X8_isBoth d ih l D Z q g pl sa aa N P sz K hm,
      fun l D Z q g pl sa aa N P sz K hm => (show 9 + (d + 1) = 10 + d by omega) ▸ c_X8_isSingle d ih l D Z q g pl sa aa N P sz K hm,
      fun l D Z q g pl sa aa N P sz K hm => (show 9 + (d + 1) = 10 + d by omega) ▸ c_X8_isSum d ih l D Z q g pl sa aa N P sz K hm,
      fun l D Z q g pl sa aa N P sz K hm => (show 9 + (d + 1) = 10 + d by omega) ▸ c_X8_isProduct d ih l D Z q g pl sa aa N P sz K hm,
      fun l D Z q g pl sa aa N P sz K hm => (show 9 + (d + 1) = 10 + d by omega) ▸ c_X8_isValue d ih l D Z q g pl sa aa N P sz K hm,
      fun l D Z q g pl sa aa N P sz x1 x2 K hm => (show 9 + (d + 1) = 10 + d by omega) ▸ c_X8_isInside d ih l D Z q g pl sa aa N P sz x1 x2 K hm⟩
section KgX8
variable {p : Program} {l : Launch} {e : Env} {s : State} {m : MethodId} {args : Array Value} {below : List Frame} {meth : Method} {c : Code} {H H0 : Heap} {locs : List Loc} {cells slots : Nat} {Q : State → Prop} {R : Room} {rn mcR msR : Nat}
variable {pc : Nat} {ls : Array Slot} {rest : List Value} {A : Nat → Prop} {D : va_G}
variable {cc : ByteArray} {nL index : Nat} {own host : String}
theorem k_X8_isTest {Z : Nat → ClassId} {q g : Nat → Nat} {pl sa aa : Nat} {N : M2} {P : M2} {K : Int32 → M2 → M2 → Prop} (hC : CallFix p m c cc nL s args lw_g own) (hN : NW s) (hK : va_K D vwCl (tysG Z) s) (hT : TS vwCl D (MP Z q g pl sa aa N P) A H0 H locs) (hm : wp_X8_isTest (gX8 120) N P K) (hl : Cond.methodLink own index yX8_isTest ∈ lw_g) (hlt : 10 + 120 < rn) (hsize : ls.size = nL) (hW : (rest.map fun v => v.category).sum ≤ 8) (hf : cells + 0 ≤ mcR ∧ slots + 0 ≤ msR) (hdg : decode cc pc = .ok (.invokevirtual index, 3)) (kk : ∀ (r : Int32) (N1 : M2) (P1 : M2) (H1 : Heap) (locs1 : List Loc), K r N1 P1 → TS vwCl D (MP Z q g pl sa aa N1 P1) A H0 H1 locs1 → W p l e (rk rn mcR msR) s m args below meth c H1 locs1 cells slots Q (F0 m (pc + 3) ls (.int r :: rest))) : W p l e (rk rn mcR msR) s m args below meth c H locs cells slots Q (F0 m pc ls (.ref (g 220) :: rest)) :=
  rw_go (wsF := (fun u : M2 × M2 => MP Z q g pl sa aa u.1 u.2)) (u0 := (N, P)) (wr := []) (isC := cutMP) (isR := []) (pm := cutMP) (ws' := (fun u : M2 × M2 => MP Z q g pl sa aa u.1 u.2)) (runV (As := []) hC hN (c_X8_isTest 120 (gX8_ih 120) l D Z q g pl sa aa N P H.size K hm) mi_X8_isTest hl wq_1618 wq_78 hlt hT.1 hT.D' hK (q0 := 0) rfl rfl rfl hsize rfl hW hdg hf) (cutOkMP Z q g pl sa aa N P) hT (fun r u H1 locs1 hk hT1 => kk r u.1 u.2 H1 locs1 hk hT1)
theorem k_X8_isBoth {Z : Nat → ClassId} {q g : Nat → Nat} {pl sa aa : Nat} {N : M2} {P : M2} {K : Int32 → M2 → M2 → Prop} (hC : CallFix p m c cc nL s args lw_g own) (hN : NW s) (hK : va_K D vwCl (tysG Z) s) (hT : TS vwCl D (MP Z q g pl sa aa N P) A H0 H locs) (hm : wp_X8_isBoth (gX8 120) N P K) (hl : Cond.methodLink own index yX8_isBoth ∈ lw_g) (hlt : 10 + 120 < rn) (hsize : ls.size = nL) (hW : (rest.map fun v => v.category).sum ≤ 8) (hf : cells + 0 ≤ mcR ∧ slots + 0 ≤ msR) (hdg : decode cc pc = .ok (.invokevirtual index, 3)) (kk : ∀ (r : Int32) (N1 : M2) (P1 : M2) (H1 : Heap) (locs1 : List Loc), K r N1 P1 → TS vwCl D (MP Z q g pl sa aa N1 P1) A H0 H1 locs1 → W p l e (rk rn mcR msR) s m args below meth c H1 locs1 cells slots Q (F0 m (pc + 3) ls (.int r :: rest))) : W p l e (rk rn mcR msR) s m args below meth c H locs cells slots Q (F0 m pc ls (.ref (g 220) :: rest)) :=
  rw_go (wsF := (fun u : M2 × M2 => MP Z q g pl sa aa u.1 u.2)) (u0 := (N, P)) (wr := []) (isC := cutMP) (isR := []) (pm := cutMP) (ws' := (fun u : M2 × M2 => MP Z q g pl sa aa u.1 u.2)) (runV (As := []) hC hN (c_X8_isBoth 120 (gX8_ih 120) l D Z q g pl sa aa N P H.size K hm) mi_X8_isBoth hl wq_1622 wq_79 hlt hT.1 hT.D' hK (q0 := 0) rfl rfl rfl hsize rfl hW hdg hf) (cutOkMP Z q g pl sa aa N P) hT (fun r u H1 locs1 hk hT1 => kk r u.1 u.2 H1 locs1 hk hT1)
theorem k_X8_isSingle {Z : Nat → ClassId} {q g : Nat → Nat} {pl sa aa : Nat} {N : M2} {P : M2} {K : Int32 → M2 → M2 → Prop} (hC : CallFix p m c cc nL s args lw_g own) (hN : NW s) (hK : va_K D vwCl (tysG Z) s) (hT : TS vwCl D (MP Z q g pl sa aa N P) A H0 H locs) (hm : wp_X8_isSingle (gX8 120) N P K) (hl : Cond.methodLink own index yX8_isSingle ∈ lw_g) (hlt : 10 + 120 < rn) (hsize : ls.size = nL) (hW : (rest.map fun v => v.category).sum ≤ 8) (hf : cells + 0 ≤ mcR ∧ slots + 0 ≤ msR) (hdg : decode cc pc = .ok (.invokevirtual index, 3)) (kk : ∀ (r : Int32) (N1 : M2) (P1 : M2) (H1 : Heap) (locs1 : List Loc), K r N1 P1 → TS vwCl D (MP Z q g pl sa aa N1 P1) A H0 H1 locs1 → W p l e (rk rn mcR msR) s m args below meth c H1 locs1 cells slots Q (F0 m (pc + 3) ls (.int r :: rest))) : W p l e (rk rn mcR msR) s m args below meth c H locs cells slots Q (F0 m pc ls (.ref (g 220) :: rest)) :=
  rw_go (wsF := (fun u : M2 × M2 => MP Z q g pl sa aa u.1 u.2)) (u0 := (N, P)) (wr := []) (isC := cutMP) (isR := []) (pm := cutMP) (ws' := (fun u : M2 × M2 => MP Z q g pl sa aa u.1 u.2)) (runV (As := []) hC hN (c_X8_isSingle 120 (gX8_ih 120) l D Z q g pl sa aa N P H.size K hm) mi_X8_isSingle hl wq_1626 wq_80 hlt hT.1 hT.D' hK (q0 := 0) rfl rfl rfl hsize rfl hW hdg hf) (cutOkMP Z q g pl sa aa N P) hT (fun r u H1 locs1 hk hT1 => kk r u.1 u.2 H1 locs1 hk hT1)
theorem k_X8_isSum {Z : Nat → ClassId} {q g : Nat → Nat} {pl sa aa : Nat} {N : M2} {P : M2} {K : Int32 → M2 → M2 → Prop} (hC : CallFix p m c cc nL s args lw_g own) (hN : NW s) (hK : va_K D vwCl (tysG Z) s) (hT : TS vwCl D (MP Z q g pl sa aa N P) A H0 H locs) (hm : wp_X8_isSum (gX8 120) N P K) (hl : Cond.methodLink own index yX8_isSum ∈ lw_g) (hlt : 10 + 120 < rn) (hsize : ls.size = nL) (hW : (rest.map fun v => v.category).sum ≤ 8) (hf : cells + 0 ≤ mcR ∧ slots + 0 ≤ msR) (hdg : decode cc pc = .ok (.invokevirtual index, 3)) (kk : ∀ (r : Int32) (N1 : M2) (P1 : M2) (H1 : Heap) (locs1 : List Loc), K r N1 P1 → TS vwCl D (MP Z q g pl sa aa N1 P1) A H0 H1 locs1 → W p l e (rk rn mcR msR) s m args below meth c H1 locs1 cells slots Q (F0 m (pc + 3) ls (.int r :: rest))) : W p l e (rk rn mcR msR) s m args below meth c H locs cells slots Q (F0 m pc ls (.ref (g 220) :: rest)) :=
  rw_go (wsF := (fun u : M2 × M2 => MP Z q g pl sa aa u.1 u.2)) (u0 := (N, P)) (wr := []) (isC := cutMP) (isR := []) (pm := cutMP) (ws' := (fun u : M2 × M2 => MP Z q g pl sa aa u.1 u.2)) (runV (As := []) hC hN (c_X8_isSum 120 (gX8_ih 120) l D Z q g pl sa aa N P H.size K hm) mi_X8_isSum hl wq_1650 wq_86 hlt hT.1 hT.D' hK (q0 := 0) rfl rfl rfl hsize rfl hW hdg hf) (cutOkMP Z q g pl sa aa N P) hT (fun r u H1 locs1 hk hT1 => kk r u.1 u.2 H1 locs1 hk hT1)
theorem k_X8_isProduct {Z : Nat → ClassId} {q g : Nat → Nat} {pl sa aa : Nat} {N : M2} {P : M2} {K : Int32 → M2 → M2 → Prop} (hC : CallFix p m c cc nL s args lw_g own) (hN : NW s) (hK : va_K D vwCl (tysG Z) s) (hT : TS vwCl D (MP Z q g pl sa aa N P) A H0 H locs) (hm : wp_X8_isProduct (gX8 120) N P K) (hl : Cond.methodLink own index yX8_isProduct ∈ lw_g) (hlt : 10 + 120 < rn) (hsize : ls.size = nL) (hW : (rest.map fun v => v.category).sum ≤ 8) (hf : cells + 0 ≤ mcR ∧ slots + 0 ≤ msR) (hdg : decode cc pc = .ok (.invokevirtual index, 3)) (kk : ∀ (r : Int32) (N1 : M2) (P1 : M2) (H1 : Heap) (locs1 : List Loc), K r N1 P1 → TS vwCl D (MP Z q g pl sa aa N1 P1) A H0 H1 locs1 → W p l e (rk rn mcR msR) s m args below meth c H1 locs1 cells slots Q (F0 m (pc + 3) ls (.int r :: rest))) : W p l e (rk rn mcR msR) s m args below meth c H locs cells slots Q (F0 m pc ls (.ref (g 220) :: rest)) :=
  rw_go (wsF := (fun u : M2 × M2 => MP Z q g pl sa aa u.1 u.2)) (u0 := (N, P)) (wr := []) (isC := cutMP) (isR := []) (pm := cutMP) (ws' := (fun u : M2 × M2 => MP Z q g pl sa aa u.1 u.2)) (runV (As := []) hC hN (c_X8_isProduct 120 (gX8_ih 120) l D Z q g pl sa aa N P H.size K hm) mi_X8_isProduct hl wq_1654 wq_87 hlt hT.1 hT.D' hK (q0 := 0) rfl rfl rfl hsize rfl hW hdg hf) (cutOkMP Z q g pl sa aa N P) hT (fun r u H1 locs1 hk hT1 => kk r u.1 u.2 H1 locs1 hk hT1)
theorem k_X8_isValue {Z : Nat → ClassId} {q g : Nat → Nat} {pl sa aa : Nat} {N : M2} {P : M2} {K : Int32 → M2 → M2 → Prop} (hC : CallFix p m c cc nL s args lw_g own) (hN : NW s) (hK : va_K D vwCl (tysG Z) s) (hT : TS vwCl D (MP Z q g pl sa aa N P) A H0 H locs) (hm : wp_X8_isValue (gX8 120) N P K) (hl : Cond.methodLink own index yX8_isValue ∈ lw_g) (hlt : 10 + 120 < rn) (hsize : ls.size = nL) (hW : (rest.map fun v => v.category).sum ≤ 8) (hf : cells + 0 ≤ mcR ∧ slots + 0 ≤ msR) (hdg : decode cc pc = .ok (.invokevirtual index, 3)) (kk : ∀ (r : Int32) (N1 : M2) (P1 : M2) (H1 : Heap) (locs1 : List Loc), K r N1 P1 → TS vwCl D (MP Z q g pl sa aa N1 P1) A H0 H1 locs1 → W p l e (rk rn mcR msR) s m args below meth c H1 locs1 cells slots Q (F0 m (pc + 3) ls (.int r :: rest))) : W p l e (rk rn mcR msR) s m args below meth c H locs cells slots Q (F0 m pc ls (.ref (g 220) :: rest)) :=
  rw_go (wsF := (fun u : M2 × M2 => MP Z q g pl sa aa u.1 u.2)) (u0 := (N, P)) (wr := []) (isC := cutMP) (isR := []) (pm := cutMP) (ws' := (fun u : M2 × M2 => MP Z q g pl sa aa u.1 u.2)) (runV (As := []) hC hN (c_X8_isValue 120 (gX8_ih 120) l D Z q g pl sa aa N P H.size K hm) mi_X8_isValue hl wq_1658 wq_88 hlt hT.1 hT.D' hK (q0 := 0) rfl rfl rfl hsize rfl hW hdg hf) (cutOkMP Z q g pl sa aa N P) hT (fun r u H1 locs1 hk hT1 => kk r u.1 u.2 H1 locs1 hk hT1)
theorem k_X8_isInside {Z : Nat → ClassId} {q g : Nat → Nat} {pl sa aa : Nat} {N : M2} {P : M2} {x1 : Int32} {x2 : Int32} {K : Int32 → M2 → M2 → Prop} (hC : CallFix p m c cc nL s args lw_g own) (hN : NW s) (hK : va_K D vwCl (tysG Z) s) (hT : TS vwCl D (MP Z q g pl sa aa N P) A H0 H locs) (hm : wp_X8_isInside (gX8 120) N P x1 x2 K) (hl : Cond.methodLink own index yX8_isInside ∈ lw_g) (hlt : 10 + 120 < rn) (hsize : ls.size = nL) (hW : (rest.map fun v => v.category).sum ≤ 8) (hf : cells + 0 ≤ mcR ∧ slots + 0 ≤ msR) (hdg : decode cc pc = .ok (.invokevirtual index, 3)) (kk : ∀ (r : Int32) (N1 : M2) (P1 : M2) (H1 : Heap) (locs1 : List Loc), K r N1 P1 → TS vwCl D (MP Z q g pl sa aa N1 P1) A H0 H1 locs1 → W p l e (rk rn mcR msR) s m args below meth c H1 locs1 cells slots Q (F0 m (pc + 3) ls (.int r :: rest))) : W p l e (rk rn mcR msR) s m args below meth c H locs cells slots Q (F0 m pc ls (.int x2 :: .int x1 :: .ref (g 220) :: rest)) :=
  rw_go (wsF := (fun u : M2 × M2 => MP Z q g pl sa aa u.1 u.2)) (u0 := (N, P)) (wr := []) (isC := cutMP) (isR := []) (pm := cutMP) (ws' := (fun u : M2 × M2 => MP Z q g pl sa aa u.1 u.2)) (runV (As := [.int x1, .int x2]) hC hN (c_X8_isInside 120 (gX8_ih 120) l D Z q g pl sa aa N P H.size x1 x2 K hm) mi_X8_isInside hl wq_1666 wq_90 hlt hT.1 hT.D' hK (q0 := 0) rfl rfl rfl hsize rfl hW hdg hf) (cutOkMP Z q g pl sa aa N P) hT (fun r u H1 locs1 hk hT1 => kk r u.1 u.2 H1 locs1 hk hT1)
end KgX8
