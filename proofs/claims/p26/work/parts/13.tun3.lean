theorem dX4_push_0 : decode cX4_push 0 = .ok (.aload_n 0, 1) := by decide +kernel
theorem dX4_push_1 : decode cX4_push 1 = .ok (.aload_n 0, 1) := by decide +kernel
theorem dX4_push_2 : decode cX4_push 2 = .ok (.getfield 55, 3) := by decide +kernel
theorem dX4_push_5 : decode cX4_push 5 = .ok (.getfield 166, 3) := by decide +kernel
theorem dX4_push_8 : decode cX4_push 8 = .ok (.iload_n 1, 1) := by decide +kernel
theorem dX4_push_9 : decode cX4_push 9 = .ok (.invokestatic 79, 3) := by decide +kernel
theorem dX4_push_12 : decode cX4_push 12 = .ok (.invokevirtual 197, 3) := by decide +kernel
theorem dX4_push_15 : decode cX4_push 15 = .ok (.aload_n 0, 1) := by decide +kernel
theorem dX4_push_16 : decode cX4_push 16 = .ok (.aload_n 0, 1) := by decide +kernel
theorem dX4_push_17 : decode cX4_push 17 = .ok (.getfield 55, 3) := by decide +kernel
theorem dX4_push_20 : decode cX4_push 20 = .ok (.getfield 172, 3) := by decide +kernel
theorem dX4_push_23 : decode cX4_push 23 = .ok (.iload_n 1, 1) := by decide +kernel
theorem dX4_push_24 : decode cX4_push 24 = .ok (.invokestatic 79, 3) := by decide +kernel
theorem dX4_push_27 : decode cX4_push 27 = .ok (.invokevirtual 197, 3) := by decide +kernel
theorem dX4_push_30 : decode cX4_push 30 = .ok (.iadd, 1) := by decide +kernel
theorem dX4_push_31 : decode cX4_push 31 = .ok (.istore_n 2, 1) := by decide +kernel
theorem dX4_push_32 : decode cX4_push 32 = .ok (.aload_n 0, 1) := by decide +kernel
theorem dX4_push_33 : decode cX4_push 33 = .ok (.getfield 55, 3) := by decide +kernel
theorem dX4_push_36 : decode cX4_push 36 = .ok (.getfield 200, 3) := by decide +kernel
theorem dX4_push_39 : decode cX4_push 39 = .ok (.iload_n 1, 1) := by decide +kernel
theorem dX4_push_40 : decode cX4_push 40 = .ok (.invokestatic 79, 3) := by decide +kernel
theorem dX4_push_43 : decode cX4_push 43 = .ok (.istore_n 3, 1) := by decide +kernel
theorem dX4_push_44 : decode cX4_push 44 = .ok (.aload_n 0, 1) := by decide +kernel
theorem dX4_push_45 : decode cX4_push 45 = .ok (.getfield 34, 3) := by decide +kernel
theorem dX4_push_48 : decode cX4_push 48 = .ok (.iload_n 1, 1) := by decide +kernel
theorem dX4_push_49 : decode cX4_push 49 = .ok (.invokestatic 79, 3) := by decide +kernel
theorem dX4_push_52 : decode cX4_push 52 = .ok (.ifCond .ne 15, 3) := by decide +kernel
theorem dX4_push_55 : decode cX4_push 55 = .ok (.aload_n 0, 1) := by decide +kernel
theorem dX4_push_56 : decode cX4_push 56 = .ok (.getfield 55, 3) := by decide +kernel
theorem dX4_push_59 : decode cX4_push 59 = .ok (.getfield 59, 3) := by decide +kernel
theorem dX4_push_62 : decode cX4_push 62 = .ok (.iconst 1, 1) := by decide +kernel
theorem dX4_push_63 : decode cX4_push 63 = .ok (.isub, 1) := by decide +kernel
theorem dX4_push_64 : decode cX4_push 64 = .ok (.goto 4, 3) := by decide +kernel
theorem dX4_push_67 : decode cX4_push 67 = .ok (.iconst 0, 1) := by decide +kernel
theorem dX4_push_68 : decode cX4_push 68 = .ok (.istore 4, 2) := by decide +kernel
theorem dX4_push_70 : decode cX4_push 70 = .ok (.aload_n 0, 1) := by decide +kernel
theorem dX4_push_71 : decode cX4_push 71 = .ok (.getfield 34, 3) := by decide +kernel
theorem dX4_push_74 : decode cX4_push 74 = .ok (.iload_n 1, 1) := by decide +kernel
theorem dX4_push_75 : decode cX4_push 75 = .ok (.invokestatic 79, 3) := by decide +kernel
theorem dX4_push_78 : decode cX4_push 78 = .ok (.ifCond .ne 7, 3) := by decide +kernel
theorem dX4_push_81 : decode cX4_push 81 = .ok (.iconst 1, 1) := by decide +kernel
theorem dX4_push_82 : decode cX4_push 82 = .ok (.goto 4, 3) := by decide +kernel
theorem dX4_push_85 : decode cX4_push 85 = .ok (.iconst (-1), 1) := by decide +kernel
theorem dX4_push_86 : decode cX4_push 86 = .ok (.istore 5, 2) := by decide +kernel
theorem dX4_push_88 : decode cX4_push 88 = .ok (.aload_n 0, 1) := by decide +kernel
theorem dX4_push_89 : decode cX4_push 89 = .ok (.getfield 46, 3) := by decide +kernel
theorem dX4_push_92 : decode cX4_push 92 = .ok (.iload_n 1, 1) := by decide +kernel
theorem dX4_push_93 : decode cX4_push 93 = .ok (.aload_n 0, 1) := by decide +kernel
theorem dX4_push_94 : decode cX4_push 94 = .ok (.getfield 46, 3) := by decide +kernel
theorem dX4_push_97 : decode cX4_push 97 = .ok (.iload_n 1, 1) := by decide +kernel
theorem dX4_push_98 : decode cX4_push 98 = .ok (.invokestatic 79, 3) := by decide +kernel
theorem dX4_push_101 : decode cX4_push 101 = .ok (.iload_n 2, 1) := by decide +kernel
theorem dX4_push_102 : decode cX4_push 102 = .ok (.aload_n 0, 1) := by decide +kernel
theorem dX4_push_103 : decode cX4_push 103 = .ok (.getfield 21, 3) := by decide +kernel
theorem dX4_push_106 : decode cX4_push 106 = .ok (.aload_n 0, 1) := by decide +kernel
theorem dX4_push_107 : decode cX4_push 107 = .ok (.getfield 43, 3) := by decide +kernel
theorem dX4_push_110 : decode cX4_push 110 = .ok (.iload_n 1, 1) := by decide +kernel
theorem dX4_push_111 : decode cX4_push 111 = .ok (.invokestatic 79, 3) := by decide +kernel
theorem dX4_push_114 : decode cX4_push 114 = .ok (.invokestatic 79, 3) := by decide +kernel
theorem dX4_push_117 : decode cX4_push 117 = .ok (.imul, 1) := by decide +kernel
theorem dX4_push_118 : decode cX4_push 118 = .ok (.bipush 100, 2) := by decide +kernel
theorem dX4_push_120 : decode cX4_push 120 = .ok (.idiv, 1) := by decide +kernel
theorem dX4_push_121 : decode cX4_push 121 = .ok (.iadd, 1) := by decide +kernel
theorem dX4_push_122 : decode cX4_push 122 = .ok (.invokestatic 64, 3) := by decide +kernel
theorem dX4_push_125 : decode cX4_push 125 = .ok (.iconst 0, 1) := by decide +kernel
theorem dX4_push_126 : decode cX4_push 126 = .ok (.istore 6, 2) := by decide +kernel
theorem dX4_push_128 : decode cX4_push 128 = .ok (.iload 6, 2) := by decide +kernel
theorem dX4_push_130 : decode cX4_push 130 = .ok (.bipush 60, 2) := by decide +kernel
theorem dX4_push_132 : decode cX4_push 132 = .ok (.if_icmp .gt 97, 3) := by decide +kernel
theorem dX4_push_135 : decode cX4_push 135 = .ok (.aload_n 0, 1) := by decide +kernel
theorem dX4_push_136 : decode cX4_push 136 = .ok (.getfield 46, 3) := by decide +kernel
theorem dX4_push_139 : decode cX4_push 139 = .ok (.iload_n 1, 1) := by decide +kernel
theorem dX4_push_140 : decode cX4_push 140 = .ok (.invokestatic 79, 3) := by decide +kernel
theorem dX4_push_143 : decode cX4_push 143 = .ok (.iload_n 3, 1) := by decide +kernel
theorem dX4_push_144 : decode cX4_push 144 = .ok (.if_icmp .lt 85, 3) := by decide +kernel
theorem dX4_push_147 : decode cX4_push 147 = .ok (.aload_n 0, 1) := by decide +kernel
theorem dX4_push_148 : decode cX4_push 148 = .ok (.getfield 43, 3) := by decide +kernel
theorem dX4_push_151 : decode cX4_push 151 = .ok (.iload_n 1, 1) := by decide +kernel
theorem dX4_push_152 : decode cX4_push 152 = .ok (.invokestatic 79, 3) := by decide +kernel
theorem dX4_push_155 : decode cX4_push 155 = .ok (.istore 7, 2) := by decide +kernel
theorem dX4_push_157 : decode cX4_push 157 = .ok (.iload 7, 2) := by decide +kernel
theorem dX4_push_159 : decode cX4_push 159 = .ok (.iload 4, 2) := by decide +kernel
theorem dX4_push_161 : decode cX4_push 161 = .ok (.if_icmp .ne 9, 3) := by decide +kernel
theorem dX4_push_164 : decode cX4_push 164 = .ok (.aload_n 0, 1) := by decide +kernel
theorem dX4_push_165 : decode cX4_push 165 = .ok (.iload_n 1, 1) := by decide +kernel
theorem dX4_push_166 : decode cX4_push 166 = .ok (.invokevirtual 203, 3) := by decide +kernel
theorem dX4_push_169 : decode cX4_push 169 = .ok (.return_, 1) := by decide +kernel
theorem dX4_push_170 : decode cX4_push 170 = .ok (.aload_n 0, 1) := by decide +kernel
theorem dX4_push_171 : decode cX4_push 171 = .ok (.iload 7, 2) := by decide +kernel
theorem dX4_push_173 : decode cX4_push 173 = .ok (.iload 5, 2) := by decide +kernel
theorem dX4_push_175 : decode cX4_push 175 = .ok (.iadd, 1) := by decide +kernel
theorem dX4_push_176 : decode cX4_push 176 = .ok (.invokevirtual 206, 3) := by decide +kernel
theorem dX4_push_179 : decode cX4_push 179 = .ok (.iconst (-1), 1) := by decide +kernel
theorem dX4_push_180 : decode cX4_push 180 = .ok (.if_icmp .eq 15, 3) := by decide +kernel
theorem dX4_push_183 : decode cX4_push 183 = .ok (.aload_n 0, 1) := by decide +kernel
theorem dX4_push_184 : decode cX4_push 184 = .ok (.getfield 46, 3) := by decide +kernel
theorem dX4_push_187 : decode cX4_push 187 = .ok (.iload_n 1, 1) := by decide +kernel
theorem dX4_push_188 : decode cX4_push 188 = .ok (.iconst 0, 1) := by decide +kernel
theorem dX4_push_189 : decode cX4_push 189 = .ok (.invokestatic 64, 3) := by decide +kernel
theorem dX4_push_192 : decode cX4_push 192 = .ok (.goto 31, 3) := by decide +kernel
theorem dX4_push_195 : decode cX4_push 195 = .ok (.aload_n 0, 1) := by decide +kernel
theorem dX4_push_196 : decode cX4_push 196 = .ok (.getfield 46, 3) := by decide +kernel
theorem dX4_push_199 : decode cX4_push 199 = .ok (.iload_n 1, 1) := by decide +kernel
theorem dX4_push_200 : decode cX4_push 200 = .ok (.aload_n 0, 1) := by decide +kernel
theorem dX4_push_201 : decode cX4_push 201 = .ok (.getfield 46, 3) := by decide +kernel
theorem dX4_push_204 : decode cX4_push 204 = .ok (.iload_n 1, 1) := by decide +kernel
theorem dX4_push_205 : decode cX4_push 205 = .ok (.invokestatic 79, 3) := by decide +kernel
theorem dX4_push_208 : decode cX4_push 208 = .ok (.iload_n 3, 1) := by decide +kernel
theorem dX4_push_209 : decode cX4_push 209 = .ok (.isub, 1) := by decide +kernel
theorem dX4_push_210 : decode cX4_push 210 = .ok (.invokestatic 64, 3) := by decide +kernel
theorem dX4_push_213 : decode cX4_push 213 = .ok (.aload_n 0, 1) := by decide +kernel
theorem dX4_push_214 : decode cX4_push 214 = .ok (.iload_n 1, 1) := by decide +kernel
theorem dX4_push_215 : decode cX4_push 215 = .ok (.iload 7, 2) := by decide +kernel
theorem dX4_push_217 : decode cX4_push 217 = .ok (.iload 5, 2) := by decide +kernel
theorem dX4_push_219 : decode cX4_push 219 = .ok (.iadd, 1) := by decide +kernel
theorem dX4_push_220 : decode cX4_push 220 = .ok (.invokevirtual 181, 3) := by decide +kernel
theorem dX4_push_223 : decode cX4_push 223 = .ok (.iinc 6 1, 3) := by decide +kernel
theorem dX4_push_226 : decode cX4_push 226 = .ok (.goto (-98), 3) := by decide +kernel
theorem dX4_push_229 : decode cX4_push 229 = .ok (.return_, 1) := by decide +kernel
theorem dX4_spoilAir_0 : decode cX4_spoilAir 0 = .ok (.iconst 0, 1) := by decide +kernel
theorem dX4_spoilAir_1 : decode cX4_spoilAir 1 = .ok (.istore_n 1, 1) := by decide +kernel
theorem dX4_spoilAir_2 : decode cX4_spoilAir 2 = .ok (.iload_n 1, 1) := by decide +kernel
theorem dX4_spoilAir_3 : decode cX4_spoilAir 3 = .ok (.aload_n 0, 1) := by decide +kernel
theorem dX4_spoilAir_4 : decode cX4_spoilAir 4 = .ok (.getfield 55, 3) := by decide +kernel
theorem dX4_spoilAir_7 : decode cX4_spoilAir 7 = .ok (.getfield 75, 3) := by decide +kernel
theorem dX4_spoilAir_10 : decode cX4_spoilAir 10 = .ok (.if_icmp .ge 58, 3) := by decide +kernel
theorem dX4_spoilAir_13 : decode cX4_spoilAir 13 = .ok (.aload_n 0, 1) := by decide +kernel
theorem dX4_spoilAir_14 : decode cX4_spoilAir 14 = .ok (.getfield 40, 3) := by decide +kernel
theorem dX4_spoilAir_17 : decode cX4_spoilAir 17 = .ok (.iload_n 1, 1) := by decide +kernel
theorem dX4_spoilAir_18 : decode cX4_spoilAir 18 = .ok (.invokestatic 79, 3) := by decide +kernel
theorem dX4_spoilAir_21 : decode cX4_spoilAir 21 = .ok (.iconst 1, 1) := by decide +kernel
theorem dX4_spoilAir_22 : decode cX4_spoilAir 22 = .ok (.if_icmp .ne 40, 3) := by decide +kernel
theorem dX4_spoilAir_25 : decode cX4_spoilAir 25 = .ok (.aload_n 0, 1) := by decide +kernel
theorem dX4_spoilAir_26 : decode cX4_spoilAir 26 = .ok (.getfield 21, 3) := by decide +kernel
theorem dX4_spoilAir_29 : decode cX4_spoilAir 29 = .ok (.aload_n 0, 1) := by decide +kernel
theorem dX4_spoilAir_30 : decode cX4_spoilAir 30 = .ok (.getfield 43, 3) := by decide +kernel
theorem dX4_spoilAir_33 : decode cX4_spoilAir 33 = .ok (.iload_n 1, 1) := by decide +kernel
theorem dX4_spoilAir_34 : decode cX4_spoilAir 34 = .ok (.invokestatic 79, 3) := by decide +kernel
theorem dX4_spoilAir_37 : decode cX4_spoilAir 37 = .ok (.iconst 0, 1) := by decide +kernel
theorem dX4_spoilAir_38 : decode cX4_spoilAir 38 = .ok (.aload_n 0, 1) := by decide +kernel
theorem dX4_spoilAir_39 : decode cX4_spoilAir 39 = .ok (.getfield 21, 3) := by decide +kernel
theorem dX4_spoilAir_42 : decode cX4_spoilAir 42 = .ok (.aload_n 0, 1) := by decide +kernel
theorem dX4_spoilAir_43 : decode cX4_spoilAir 43 = .ok (.getfield 43, 3) := by decide +kernel
theorem dX4_spoilAir_46 : decode cX4_spoilAir 46 = .ok (.iload_n 1, 1) := by decide +kernel
theorem dX4_spoilAir_47 : decode cX4_spoilAir 47 = .ok (.invokestatic 79, 3) := by decide +kernel
theorem dX4_spoilAir_50 : decode cX4_spoilAir 50 = .ok (.invokestatic 79, 3) := by decide +kernel
theorem dX4_spoilAir_53 : decode cX4_spoilAir 53 = .ok (.bipush 6, 2) := by decide +kernel
theorem dX4_spoilAir_55 : decode cX4_spoilAir 55 = .ok (.isub, 1) := by decide +kernel
theorem dX4_spoilAir_56 : decode cX4_spoilAir 56 = .ok (.invokestatic 209, 3) := by decide +kernel
theorem dX4_spoilAir_59 : decode cX4_spoilAir 59 = .ok (.invokestatic 64, 3) := by decide +kernel
theorem dX4_spoilAir_62 : decode cX4_spoilAir 62 = .ok (.iinc 1 1, 3) := by decide +kernel
theorem dX4_spoilAir_65 : decode cX4_spoilAir 65 = .ok (.goto (-63), 3) := by decide +kernel
theorem dX4_spoilAir_68 : decode cX4_spoilAir 68 = .ok (.return_, 1) := by decide +kernel
theorem dX4_breathe_0 : decode cX4_breathe 0 = .ok (.iconst 0, 1) := by decide +kernel
theorem dX4_breathe_1 : decode cX4_breathe 1 = .ok (.istore_n 1, 1) := by decide +kernel
theorem dX4_breathe_2 : decode cX4_breathe 2 = .ok (.iload_n 1, 1) := by decide +kernel
theorem dX4_breathe_3 : decode cX4_breathe 3 = .ok (.aload_n 0, 1) := by decide +kernel
theorem dX4_breathe_4 : decode cX4_breathe 4 = .ok (.getfield 55, 3) := by decide +kernel
theorem dX4_breathe_7 : decode cX4_breathe 7 = .ok (.getfield 68, 3) := by decide +kernel
theorem dX4_breathe_10 : decode cX4_breathe 10 = .ok (.if_icmp .ge 73, 3) := by decide +kernel
theorem dX4_breathe_13 : decode cX4_breathe 13 = .ok (.aload_n 0, 1) := by decide +kernel
theorem dX4_breathe_14 : decode cX4_breathe 14 = .ok (.iload_n 1, 1) := by decide +kernel
theorem dX4_breathe_15 : decode cX4_breathe 15 = .ok (.invokevirtual 178, 3) := by decide +kernel
theorem dX4_breathe_18 : decode cX4_breathe 18 = .ok (.istore_n 2, 1) := by decide +kernel
theorem dX4_breathe_19 : decode cX4_breathe 19 = .ok (.iload_n 2, 1) := by decide +kernel
theorem dX4_breathe_20 : decode cX4_breathe 20 = .ok (.iconst (-1), 1) := by decide +kernel
theorem dX4_breathe_21 : decode cX4_breathe 21 = .ok (.if_icmp .ne 7, 3) := by decide +kernel
theorem dX4_breathe_24 : decode cX4_breathe 24 = .ok (.iconst 2, 1) := by decide +kernel
theorem dX4_breathe_25 : decode cX4_breathe 25 = .ok (.goto 21, 3) := by decide +kernel
theorem dX4_breathe_28 : decode cX4_breathe 28 = .ok (.aload_n 0, 1) := by decide +kernel
theorem dX4_breathe_29 : decode cX4_breathe 29 = .ok (.getfield 21, 3) := by decide +kernel
theorem dX4_breathe_32 : decode cX4_breathe 32 = .ok (.aload_n 0, 1) := by decide +kernel
theorem dX4_breathe_33 : decode cX4_breathe 33 = .ok (.getfield 43, 3) := by decide +kernel
theorem dX4_breathe_36 : decode cX4_breathe 36 = .ok (.iload_n 2, 1) := by decide +kernel
theorem dX4_breathe_37 : decode cX4_breathe 37 = .ok (.invokestatic 79, 3) := by decide +kernel
theorem dX4_breathe_40 : decode cX4_breathe 40 = .ok (.invokestatic 79, 3) := by decide +kernel
theorem dX4_breathe_43 : decode cX4_breathe 43 = .ok (.invokestatic 214, 3) := by decide +kernel
theorem dX4_breathe_46 : decode cX4_breathe 46 = .ok (.istore_n 3, 1) := by decide +kernel
theorem dX4_breathe_47 : decode cX4_breathe 47 = .ok (.aload_n 0, 1) := by decide +kernel
theorem dX4_breathe_48 : decode cX4_breathe 48 = .ok (.getfield 25, 3) := by decide +kernel
theorem dX4_breathe_51 : decode cX4_breathe 51 = .ok (.iload_n 1, 1) := by decide +kernel
theorem dX4_breathe_52 : decode cX4_breathe 52 = .ok (.iconst 0, 1) := by decide +kernel
theorem dX4_breathe_53 : decode cX4_breathe 53 = .ok (.aload_n 0, 1) := by decide +kernel
theorem dX4_breathe_54 : decode cX4_breathe 54 = .ok (.iload_n 1, 1) := by decide +kernel
theorem dX4_breathe_55 : decode cX4_breathe 55 = .ok (.invokevirtual 71, 3) := by decide +kernel
theorem dX4_breathe_58 : decode cX4_breathe 58 = .ok (.aload_n 0, 1) := by decide +kernel
theorem dX4_breathe_59 : decode cX4_breathe 59 = .ok (.getfield 25, 3) := by decide +kernel
theorem dX4_breathe_62 : decode cX4_breathe 62 = .ok (.iload_n 1, 1) := by decide +kernel
theorem dX4_breathe_63 : decode cX4_breathe 63 = .ok (.invokestatic 79, 3) := by decide +kernel
theorem dX4_breathe_66 : decode cX4_breathe 66 = .ok (.iload_n 3, 1) := by decide +kernel
theorem dX4_breathe_67 : decode cX4_breathe 67 = .ok (.iadd, 1) := by decide +kernel
theorem dX4_breathe_68 : decode cX4_breathe 68 = .ok (.invokestatic 217, 3) := by decide +kernel
theorem dX4_breathe_71 : decode cX4_breathe 71 = .ok (.invokestatic 209, 3) := by decide +kernel
theorem dX4_breathe_74 : decode cX4_breathe 74 = .ok (.invokestatic 64, 3) := by decide +kernel
theorem dX4_breathe_77 : decode cX4_breathe 77 = .ok (.iinc 1 1, 3) := by decide +kernel
theorem dX4_breathe_80 : decode cX4_breathe 80 = .ok (.goto (-78), 3) := by decide +kernel
theorem dX4_breathe_83 : decode cX4_breathe 83 = .ok (.return_, 1) := by decide +kernel
theorem dX4_bringAirBy_0 : decode cX4_bringAirBy 0 = .ok (.iload_n 2, 1) := by decide +kernel
theorem dX4_bringAirBy_1 : decode cX4_bringAirBy 1 = .ok (.iconst 2, 1) := by decide +kernel
theorem dX4_bringAirBy_2 : decode cX4_bringAirBy 2 = .ok (.idiv, 1) := by decide +kernel
theorem dX4_bringAirBy_3 : decode cX4_bringAirBy 3 = .ok (.istore_n 3, 1) := by decide +kernel
theorem dX4_bringAirBy_4 : decode cX4_bringAirBy 4 = .ok (.iconst 0, 1) := by decide +kernel
theorem dX4_bringAirBy_5 : decode cX4_bringAirBy 5 = .ok (.iload_n 1, 1) := by decide +kernel
theorem dX4_bringAirBy_6 : decode cX4_bringAirBy 6 = .ok (.iload_n 3, 1) := by decide +kernel
theorem dX4_bringAirBy_7 : decode cX4_bringAirBy 7 = .ok (.isub, 1) := by decide +kernel
theorem dX4_bringAirBy_8 : decode cX4_bringAirBy 8 = .ok (.invokestatic 209, 3) := by decide +kernel
theorem dX4_bringAirBy_11 : decode cX4_bringAirBy 11 = .ok (.istore 4, 2) := by decide +kernel
theorem dX4_bringAirBy_13 : decode cX4_bringAirBy 13 = .ok (.iload 4, 2) := by decide +kernel
theorem dX4_bringAirBy_15 : decode cX4_bringAirBy 15 = .ok (.istore 5, 2) := by decide +kernel
theorem dX4_bringAirBy_17 : decode cX4_bringAirBy 17 = .ok (.iload 5, 2) := by decide +kernel
theorem dX4_bringAirBy_19 : decode cX4_bringAirBy 19 = .ok (.iload_n 1, 1) := by decide +kernel
theorem dX4_bringAirBy_20 : decode cX4_bringAirBy 20 = .ok (.iload_n 3, 1) := by decide +kernel
theorem dX4_bringAirBy_21 : decode cX4_bringAirBy 21 = .ok (.iadd, 1) := by decide +kernel
theorem dX4_bringAirBy_22 : decode cX4_bringAirBy 22 = .ok (.if_icmp .gt 62, 3) := by decide +kernel
theorem dX4_bringAirBy_25 : decode cX4_bringAirBy 25 = .ok (.iload 5, 2) := by decide +kernel
theorem dX4_bringAirBy_27 : decode cX4_bringAirBy 27 = .ok (.aload_n 0, 1) := by decide +kernel
theorem dX4_bringAirBy_28 : decode cX4_bringAirBy 28 = .ok (.getfield 55, 3) := by decide +kernel
theorem dX4_bringAirBy_31 : decode cX4_bringAirBy 31 = .ok (.getfield 59, 3) := by decide +kernel
theorem dX4_bringAirBy_34 : decode cX4_bringAirBy 34 = .ok (.if_icmp .ge 50, 3) := by decide +kernel
theorem dX4_bringAirBy_37 : decode cX4_bringAirBy 37 = .ok (.iload 5, 2) := by decide +kernel
theorem dX4_bringAirBy_39 : decode cX4_bringAirBy 39 = .ok (.aload_n 0, 1) := by decide +kernel
theorem dX4_bringAirBy_40 : decode cX4_bringAirBy 40 = .ok (.getfield 21, 3) := by decide +kernel
theorem dX4_bringAirBy_43 : decode cX4_bringAirBy 43 = .ok (.arraylength, 1) := by decide +kernel
theorem dX4_bringAirBy_44 : decode cX4_bringAirBy 44 = .ok (.if_icmp .ge 40, 3) := by decide +kernel
theorem dX4_bringAirBy_47 : decode cX4_bringAirBy 47 = .ok (.aload_n 0, 1) := by decide +kernel
theorem dX4_bringAirBy_48 : decode cX4_bringAirBy 48 = .ok (.getfield 21, 3) := by decide +kernel
theorem dX4_bringAirBy_51 : decode cX4_bringAirBy 51 = .ok (.iload 5, 2) := by decide +kernel
theorem dX4_bringAirBy_53 : decode cX4_bringAirBy 53 = .ok (.bipush 100, 2) := by decide +kernel
theorem dX4_bringAirBy_55 : decode cX4_bringAirBy 55 = .ok (.aload_n 0, 1) := by decide +kernel
theorem dX4_bringAirBy_56 : decode cX4_bringAirBy 56 = .ok (.getfield 21, 3) := by decide +kernel
theorem dX4_bringAirBy_59 : decode cX4_bringAirBy 59 = .ok (.iload 5, 2) := by decide +kernel
theorem dX4_bringAirBy_61 : decode cX4_bringAirBy 61 = .ok (.iaload, 1) := by decide +kernel
theorem dX4_bringAirBy_62 : decode cX4_bringAirBy 62 = .ok (.iload_n 2, 1) := by decide +kernel
theorem dX4_bringAirBy_63 : decode cX4_bringAirBy 63 = .ok (.iadd, 1) := by decide +kernel
theorem dX4_bringAirBy_64 : decode cX4_bringAirBy 64 = .ok (.iconst 2, 1) := by decide +kernel
theorem dX4_bringAirBy_65 : decode cX4_bringAirBy 65 = .ok (.iload 5, 2) := by decide +kernel
theorem dX4_bringAirBy_67 : decode cX4_bringAirBy 67 = .ok (.iload_n 1, 1) := by decide +kernel
theorem dX4_bringAirBy_68 : decode cX4_bringAirBy 68 = .ok (.isub, 1) := by decide +kernel
theorem dX4_bringAirBy_69 : decode cX4_bringAirBy 69 = .ok (.invokestatic 232, 3) := by decide +kernel
theorem dX4_bringAirBy_72 : decode cX4_bringAirBy 72 = .ok (.imul, 1) := by decide +kernel
theorem dX4_bringAirBy_73 : decode cX4_bringAirBy 73 = .ok (.isub, 1) := by decide +kernel
theorem dX4_bringAirBy_74 : decode cX4_bringAirBy 74 = .ok (.invokestatic 217, 3) := by decide +kernel
theorem dX4_bringAirBy_77 : decode cX4_bringAirBy 77 = .ok (.iastore, 1) := by decide +kernel
theorem dX4_bringAirBy_78 : decode cX4_bringAirBy 78 = .ok (.iinc 5 1, 3) := by decide +kernel
theorem dX4_bringAirBy_81 : decode cX4_bringAirBy 81 = .ok (.goto (-64), 3) := by decide +kernel
theorem dX4_bringAirBy_84 : decode cX4_bringAirBy 84 = .ok (.return_, 1) := by decide +kernel
theorem dX4_bringAir_0 : decode cX4_bringAir 0 = .ok (.iconst 0, 1) := by decide +kernel
theorem dX4_bringAir_1 : decode cX4_bringAir 1 = .ok (.istore_n 1, 1) := by decide +kernel
theorem dX4_bringAir_2 : decode cX4_bringAir 2 = .ok (.iload_n 1, 1) := by decide +kernel
theorem dX4_bringAir_3 : decode cX4_bringAir 3 = .ok (.aload_n 0, 1) := by decide +kernel
theorem dX4_bringAir_4 : decode cX4_bringAir 4 = .ok (.getfield 55, 3) := by decide +kernel
theorem dX4_bringAir_7 : decode cX4_bringAir 7 = .ok (.getfield 220, 3) := by decide +kernel
theorem dX4_bringAir_10 : decode cX4_bringAir 10 = .ok (.if_icmp .ge 35, 3) := by decide +kernel
theorem dX4_bringAir_13 : decode cX4_bringAir 13 = .ok (.aload_n 0, 1) := by decide +kernel
theorem dX4_bringAir_14 : decode cX4_bringAir 14 = .ok (.aload_n 0, 1) := by decide +kernel
theorem dX4_bringAir_15 : decode cX4_bringAir 15 = .ok (.getfield 55, 3) := by decide +kernel
theorem dX4_bringAir_18 : decode cX4_bringAir 18 = .ok (.getfield 223, 3) := by decide +kernel
theorem dX4_bringAir_21 : decode cX4_bringAir 21 = .ok (.iload_n 1, 1) := by decide +kernel
theorem dX4_bringAir_22 : decode cX4_bringAir 22 = .ok (.invokestatic 79, 3) := by decide +kernel
theorem dX4_bringAir_25 : decode cX4_bringAir 25 = .ok (.aload_n 0, 1) := by decide +kernel
theorem dX4_bringAir_26 : decode cX4_bringAir 26 = .ok (.getfield 55, 3) := by decide +kernel
theorem dX4_bringAir_29 : decode cX4_bringAir 29 = .ok (.getfield 226, 3) := by decide +kernel
theorem dX4_bringAir_32 : decode cX4_bringAir 32 = .ok (.iload_n 1, 1) := by decide +kernel
theorem dX4_bringAir_33 : decode cX4_bringAir 33 = .ok (.invokestatic 79, 3) := by decide +kernel
theorem dX4_bringAir_36 : decode cX4_bringAir 36 = .ok (.invokevirtual 229, 3) := by decide +kernel
theorem dX4_bringAir_39 : decode cX4_bringAir 39 = .ok (.iinc 1 1, 3) := by decide +kernel
theorem dX4_bringAir_42 : decode cX4_bringAir 42 = .ok (.goto (-40), 3) := by decide +kernel
theorem dX4_bringAir_45 : decode cX4_bringAir 45 = .ok (.return_, 1) := by decide +kernel
theorem dX4_walkBack_0 : decode cX4_walkBack 0 = .ok (.iconst 0, 1) := by decide +kernel
theorem dX4_walkBack_1 : decode cX4_walkBack 1 = .ok (.istore_n 1, 1) := by decide +kernel
theorem dX4_walkBack_2 : decode cX4_walkBack 2 = .ok (.iload_n 1, 1) := by decide +kernel
theorem dX4_walkBack_3 : decode cX4_walkBack 3 = .ok (.aload_n 0, 1) := by decide +kernel
theorem dX4_walkBack_4 : decode cX4_walkBack 4 = .ok (.getfield 55, 3) := by decide +kernel
theorem dX4_walkBack_7 : decode cX4_walkBack 7 = .ok (.getfield 68, 3) := by decide +kernel
theorem dX4_walkBack_10 : decode cX4_walkBack 10 = .ok (.if_icmp .ge 31, 3) := by decide +kernel
theorem dX4_walkBack_13 : decode cX4_walkBack 13 = .ok (.aload_n 0, 1) := by decide +kernel
theorem dX4_walkBack_14 : decode cX4_walkBack 14 = .ok (.getfield 28, 3) := by decide +kernel
theorem dX4_walkBack_17 : decode cX4_walkBack 17 = .ok (.iload_n 1, 1) := by decide +kernel
theorem dX4_walkBack_18 : decode cX4_walkBack 18 = .ok (.iconst 0, 1) := by decide +kernel
theorem dX4_walkBack_19 : decode cX4_walkBack 19 = .ok (.aload_n 0, 1) := by decide +kernel
theorem dX4_walkBack_20 : decode cX4_walkBack 20 = .ok (.getfield 28, 3) := by decide +kernel
theorem dX4_walkBack_23 : decode cX4_walkBack 23 = .ok (.iload_n 1, 1) := by decide +kernel
theorem dX4_walkBack_24 : decode cX4_walkBack 24 = .ok (.invokestatic 79, 3) := by decide +kernel
theorem dX4_walkBack_27 : decode cX4_walkBack 27 = .ok (.iconst 1, 1) := by decide +kernel
theorem dX4_walkBack_28 : decode cX4_walkBack 28 = .ok (.isub, 1) := by decide +kernel
theorem dX4_walkBack_29 : decode cX4_walkBack 29 = .ok (.invokestatic 209, 3) := by decide +kernel
theorem dX4_walkBack_32 : decode cX4_walkBack 32 = .ok (.invokestatic 64, 3) := by decide +kernel
theorem dX4_walkBack_35 : decode cX4_walkBack 35 = .ok (.iinc 1 1, 3) := by decide +kernel
theorem dX4_walkBack_38 : decode cX4_walkBack 38 = .ok (.goto (-36), 3) := by decide +kernel
theorem dX4_walkBack_41 : decode cX4_walkBack 41 = .ok (.return_, 1) := by decide +kernel
theorem dX4_run_0 : decode cX4_run 0 = .ok (.iconst 0, 1) := by decide +kernel
theorem dX4_run_1 : decode cX4_run 1 = .ok (.istore_n 2, 1) := by decide +kernel
theorem dX4_run_2 : decode cX4_run 2 = .ok (.iload_n 2, 1) := by decide +kernel
theorem dX4_run_3 : decode cX4_run 3 = .ok (.iload_n 1, 1) := by decide +kernel
theorem dX4_run_4 : decode cX4_run 4 = .ok (.if_icmp .ge 107, 3) := by decide +kernel
theorem dX4_run_7 : decode cX4_run 7 = .ok (.aload_n 0, 1) := by decide +kernel
theorem dX4_run_8 : decode cX4_run 8 = .ok (.invokevirtual 116, 3) := by decide +kernel
theorem dX4_run_11 : decode cX4_run 11 = .ok (.iconst 0, 1) := by decide +kernel
theorem dX4_run_12 : decode cX4_run 12 = .ok (.istore_n 3, 1) := by decide +kernel
theorem dX4_run_13 : decode cX4_run 13 = .ok (.iload_n 3, 1) := by decide +kernel
theorem dX4_run_14 : decode cX4_run 14 = .ok (.aload_n 0, 1) := by decide +kernel
theorem dX4_run_15 : decode cX4_run 15 = .ok (.getfield 55, 3) := by decide +kernel
theorem dX4_run_18 : decode cX4_run 18 = .ok (.getfield 75, 3) := by decide +kernel
theorem dX4_run_21 : decode cX4_run 21 = .ok (.if_icmp .ge 22, 3) := by decide +kernel
theorem dX4_run_24 : decode cX4_run 24 = .ok (.aload_n 0, 1) := by decide +kernel
theorem dX4_run_25 : decode cX4_run 25 = .ok (.iload_n 3, 1) := by decide +kernel
theorem dX4_run_26 : decode cX4_run 26 = .ok (.invokevirtual 119, 3) := by decide +kernel
theorem dX4_run_29 : decode cX4_run 29 = .ok (.ifCond .eq 8, 3) := by decide +kernel
theorem dX4_run_32 : decode cX4_run 32 = .ok (.aload_n 0, 1) := by decide +kernel
theorem dX4_run_33 : decode cX4_run 33 = .ok (.iload_n 3, 1) := by decide +kernel
theorem dX4_run_34 : decode cX4_run 34 = .ok (.invokevirtual 123, 3) := by decide +kernel
theorem dX4_run_37 : decode cX4_run 37 = .ok (.iinc 3 1, 3) := by decide +kernel
theorem dX4_run_40 : decode cX4_run 40 = .ok (.goto (-27), 3) := by decide +kernel
theorem dX4_run_43 : decode cX4_run 43 = .ok (.iconst 0, 1) := by decide +kernel
theorem dX4_run_44 : decode cX4_run 44 = .ok (.istore_n 3, 1) := by decide +kernel
theorem dX4_run_45 : decode cX4_run 45 = .ok (.iload_n 3, 1) := by decide +kernel
theorem dX4_run_46 : decode cX4_run 46 = .ok (.aload_n 0, 1) := by decide +kernel
theorem dX4_run_47 : decode cX4_run 47 = .ok (.getfield 55, 3) := by decide +kernel
theorem dX4_run_50 : decode cX4_run 50 = .ok (.getfield 75, 3) := by decide +kernel
theorem dX4_run_53 : decode cX4_run 53 = .ok (.if_icmp .ge 26, 3) := by decide +kernel
theorem dX4_run_56 : decode cX4_run 56 = .ok (.aload_n 0, 1) := by decide +kernel
theorem dX4_run_57 : decode cX4_run 57 = .ok (.getfield 40, 3) := by decide +kernel
theorem dX4_run_60 : decode cX4_run 60 = .ok (.iload_n 3, 1) := by decide +kernel
theorem dX4_run_61 : decode cX4_run 61 = .ok (.invokestatic 79, 3) := by decide +kernel
theorem dX4_run_64 : decode cX4_run 64 = .ok (.iconst 1, 1) := by decide +kernel
theorem dX4_run_65 : decode cX4_run 65 = .ok (.if_icmp .ne 8, 3) := by decide +kernel
theorem dX4_run_68 : decode cX4_run 68 = .ok (.aload_n 0, 1) := by decide +kernel
theorem dX4_run_69 : decode cX4_run 69 = .ok (.iload_n 3, 1) := by decide +kernel
theorem dX4_run_70 : decode cX4_run 70 = .ok (.invokevirtual 127, 3) := by decide +kernel
theorem dX4_run_73 : decode cX4_run 73 = .ok (.iinc 3 1, 3) := by decide +kernel
theorem dX4_run_76 : decode cX4_run 76 = .ok (.goto (-31), 3) := by decide +kernel
theorem dX4_run_79 : decode cX4_run 79 = .ok (.aload_n 0, 1) := by decide +kernel
theorem dX4_run_80 : decode cX4_run 80 = .ok (.invokevirtual 130, 3) := by decide +kernel
theorem dX4_run_83 : decode cX4_run 83 = .ok (.aload_n 0, 1) := by decide +kernel
theorem dX4_run_84 : decode cX4_run 84 = .ok (.invokevirtual 133, 3) := by decide +kernel
theorem dX4_run_87 : decode cX4_run 87 = .ok (.aload_n 0, 1) := by decide +kernel
theorem dX4_run_88 : decode cX4_run 88 = .ok (.invokevirtual 136, 3) := by decide +kernel
theorem dX4_run_91 : decode cX4_run 91 = .ok (.aload_n 0, 1) := by decide +kernel
theorem dX4_run_92 : decode cX4_run 92 = .ok (.invokevirtual 139, 3) := by decide +kernel
theorem dX4_run_95 : decode cX4_run 95 = .ok (.aload_n 0, 1) := by decide +kernel
theorem dX4_run_96 : decode cX4_run 96 = .ok (.dup, 1) := by decide +kernel
theorem dX4_run_97 : decode cX4_run 97 = .ok (.getfield 9, 3) := by decide +kernel
theorem dX4_run_100 : decode cX4_run 100 = .ok (.iconst 1, 1) := by decide +kernel
theorem dX4_run_101 : decode cX4_run 101 = .ok (.iadd, 1) := by decide +kernel
theorem dX4_run_102 : decode cX4_run 102 = .ok (.putfield 9, 3) := by decide +kernel
theorem dX4_run_105 : decode cX4_run 105 = .ok (.iinc 2 1, 3) := by decide +kernel
theorem dX4_run_108 : decode cX4_run 108 = .ok (.goto (-106), 3) := by decide +kernel
theorem dX4_run_111 : decode cX4_run 111 = .ok (.return_, 1) := by decide +kernel
theorem mi_X4_push : MInfo yX4_push cX4_push 8 none 1 := ⟨wq_752, wq_83, by decide, ⟨by decide +kernel, by decide +kernel, by decide +kernel⟩, by decide +kernel⟩
theorem mi_X4_spoilAir : MInfo yX4_spoilAir cX4_spoilAir 2 none 0 := ⟨wq_765, wq_83, by decide, ⟨by decide +kernel, by decide +kernel, by decide +kernel⟩, by decide +kernel⟩
theorem mi_X4_breathe : MInfo yX4_breathe cX4_breathe 4 none 0 := ⟨wq_769, wq_83, by decide, ⟨by decide +kernel, by decide +kernel, by decide +kernel⟩, by decide +kernel⟩
theorem mi_X4_bringAirBy : MInfo yX4_bringAirBy cX4_bringAirBy 6 none 2 := ⟨wq_784, wq_83, by decide, ⟨by decide +kernel, by decide +kernel, by decide +kernel⟩, by decide +kernel⟩
theorem mi_X4_bringAir : MInfo yX4_bringAir cX4_bringAir 2 none 0 := ⟨wq_780, wq_83, by decide, ⟨by decide +kernel, by decide +kernel, by decide +kernel⟩, by decide +kernel⟩
theorem mi_X4_walkBack : MInfo yX4_walkBack cX4_walkBack 2 none 0 := ⟨wq_791, wq_83, by decide, ⟨by decide +kernel, by decide +kernel, by decide +kernel⟩, by decide +kernel⟩
theorem mi_X4_run : MInfo yX4_run cX4_run 4 none 1 := ⟨wq_731, wq_83, by decide, ⟨by decide +kernel, by decide +kernel, by decide +kernel⟩, by decide +kernel⟩
def wl_X4_push_128 (P : M2) (K : M2 → Prop) : Nat → M2 → Int32 → Int32 → Int32 → Int32 → Int32 → Prop
  | 0, _, _, _, _, _, _ => False
  | n + 1, F, v1, v3, v4, v5, v6 => ((60 < v6 → K F) ∧ (¬ 60 < v6 → (((atv (F 12) 8 v1) < v3 → K F) ∧ (¬ (atv (F 12) 8 v1) < v3 → (∀ v7_155, v7_155 = atv (F 11) 8 v1 → ((¬ v7_155 = v4 → wp_X4_boatAt P F (v7_155 + v5) (fun r_176 => ((r_176 = ((-1)) → (∀ F_210 : M2, F_210 = up2 F 12 (putv (F 12) 8 v1 ((atv (F 12) 8 v1) - v3)) → wp_X4_comeTo P F_210 v1 (v7_155 + v5) (fun F_220 => (∀ v6_223 : Int32, v6_223 = v6 + 1 → wl_X4_push_128 P K n F_220 v1 v3 v4 v5 v6_223)))) ∧ (¬ r_176 = ((-1)) → (∀ F_189 : M2, F_189 = up2 F 12 (putv (F 12) 8 v1 0) → (∀ v6_223 : Int32, v6_223 = v6 + 1 → wl_X4_push_128 P K n F_189 v1 v3 v4 v5 v6_223)))))) ∧ (v7_155 = v4 → wp_X4_leave P F v1 (fun F_166 => K F_166))))))))
def wj_X4_push_86 (P : M2) (K : M2 → Prop) (F : M2) (v1 : Int32) (v2 : Int32) (v3 : Int32) (v4 : Int32) (q0 : Int32) : Prop := (∀ F_122 : M2, F_122 = up2 F 12 (putv (F 12) 8 v1 ((atv (F 12) 8 v1) + ((v2 * (atv (F 4) 60 (atv (F 11) 8 v1))) / 100))) → wl_X4_push_128 P K fK F_122 v1 v3 v4 q0 0)
def wj_X4_push_68 (P : M2) (K : M2 → Prop) (F : M2) (v1 : Int32) (v2 : Int32) (v3 : Int32) (q0 : Int32) : Prop := ((¬ (atv (F 8) 8 v1) = 0 → wj_X4_push_86 P K F v1 v2 v3 q0 ((-1))) ∧ ((atv (F 8) 8 v1) = 0 → wj_X4_push_86 P K F v1 v2 v3 q0 1))
def wp_X4_push (P : M2) (F : M2) (x1 : Int32) (K : M2 → Prop) : Prop := wp_X4_strengthFor P F (atv (P 36) 8 x1) (fun r_12 => wp_X4_strengthFor P F (atv (P 37) 8 x1) (fun r_27 => (∀ v2_31, v2_31 = r_12 + r_27 → (∀ v3_43, v3_43 = atv (P 33) 8 x1 → ((¬ (atv (F 8) 8 x1) = 0 → wj_X4_push_68 P K F x1 v2_31 v3_43 0) ∧ ((atv (F 8) 8 x1) = 0 → wj_X4_push_68 P K F x1 v2_31 v3_43 ((P 21 0) - 1)))))))
set_option maxRecDepth 100000 in
set_option maxHeartbeats 4000000 in
theorem c_X4_push (l : Launch) (D : va_G) (Z : Nat → ClassId) (a q : Nat → Nat) (P : M2) (F : M2) (sz : Nat) (x1 : Int32) (K : M2 → Prop) (hm : wp_X4_push P F x1 K) : Met l yX4_push (wy yX4_push cX4_push 8 none) (rk 3 0 0) (pre vwCl D Z (TW Z a q P F) sz [.ref (a 0), .int x1]) (poV vwCl D Z (TW Z a q P) F sz K) 0 0 (va_A (TW Z a q P F) sz) := by
  refine rwv_of (wsF := (TW Z a q P)) (u0 := F) (by decide +kernel) (Nat.le_of_ble_eq_true rfl) rfl ?_
  intro p e s m args below meth c Q A hC hN hsz hnm hT hK hret ls hl
  have hx := hC.1
  have hb := hC.2.1
  have hl : lv_has ls 8 [(0, .ref (a 0)), (1, .int x1)] := hl
  have hT : TS vwCl D (TW Z a q P F) A s.heap s.heap [] := hT
  have L128 : ∀ (n128 : Nat), ∀ (F : M2) (v1 : Int32) (v3 : Int32) (v4 : Int32) (v5 : Int32) (v6 : Int32) (H : Heap) (locs : List Loc) (ls : Array Slot), wl_X4_push_128 P K n128 F v1 v3 v4 v5 v6 → TS vwCl D (TW Z a q P F) A s.heap H locs → lv_has ls 8 [(0, .ref (a 0)), (1, .int v1), (3, .int v3), (4, .int v4), (5, .int v5), (6, .int v6)] → W p l e (rk 3 0 0) s m args below meth c H locs 0 0 Q (F0 m 128 ls []) := by
    intro n128
    induction n128 with
    | zero =>
      intro F v1 v3 v4 v5 v6 H locs ls hm hT hl
      exact False.elim hm
    | succ n128 ih128 =>
      intro F v1 v3 v4 v5 v6 H locs ls hm hT hl
      refine lv_iload hx hb dX4_push_128 (lv_at hl 5 rfl) ?_
      refine lv_bipush (v := 60) hx hb dX4_push_130 (by decide) ?_
      refine lv_icmp_gt (tgt := 229) hx hb dX4_push_132 (by decide) (fun c_132 => ?_) (fun c_132 => ?_)
      · have hm := hm.1 c_132
        exact hret 229 _ _ _ _ hm hT dX4_push_229
      · have hm := hm.2 c_132
        refine lv_aload_n hx hb dX4_push_135 rfl (lv_at hl 0 rfl) ?_
        refine gTW_tun_12 hC hK hT.1 wq_449 dX4_push_136 ?_
        refine lv_iload_n hx hb dX4_push_139 rfl (lv_at hl 1 rfl) ?_
        refine w_at (q0 := 9) hC hN hK hT.1 wn_519 rfl (by decide) (by decide) hl.1 (Nat.le_of_ble_eq_true rfl) ⟨Nat.le_refl _, Nat.le_refl _⟩ dX4_push_140 ?_
        refine lv_iload_n hx hb dX4_push_143 rfl (lv_at hl 2 rfl) ?_
        refine lv_icmp_lt (tgt := 229) hx hb dX4_push_144 (by decide) (fun c_144 => ?_) (fun c_144 => ?_)
        · have hm := hm.1 c_144
          exact hret 229 _ _ _ _ hm hT dX4_push_229
        · have hm := hm.2 c_144
          refine lv_aload_n hx hb dX4_push_147 rfl (lv_at hl 0 rfl) ?_
          refine gTW_tun_11 hC hK hT.1 wq_447 dX4_push_148 ?_
          refine lv_iload_n hx hb dX4_push_151 rfl (lv_at hl 1 rfl) ?_
          refine w_at (q0 := 8) hC hN hK hT.1 wn_519 rfl (by decide) (by decide) hl.1 (Nat.le_of_ble_eq_true rfl) ⟨Nat.le_refl _, Nat.le_refl _⟩ dX4_push_152 ?_
          refine lv_topi (fun v7_155 ev7_155 => ?_)
          have hm := hm v7_155 ev7_155
          refine lv_istore (lv' := [(7, .int v7_155), (0, .ref (a 0)), (1, .int v1), (3, .int v3), (4, .int v4), (5, .int v5), (6, .int v6)]) hx hb dX4_push_155 hl (by decide) rfl (fun ls hl => ?_)
          refine lv_iload hx hb dX4_push_157 (lv_at hl 0 rfl) ?_
          refine lv_iload hx hb dX4_push_159 (lv_at hl 4 rfl) ?_
          refine lv_icmp_ne (tgt := 170) hx hb dX4_push_161 (by decide) (fun c_161 => ?_) (fun c_161 => ?_)
          · have hm := hm.1 c_161
            refine lv_aload_n hx hb dX4_push_170 rfl (lv_at hl 1 rfl) ?_
            refine lv_iload hx hb dX4_push_171 (lv_at hl 0 rfl) ?_
            refine lv_iload hx hb dX4_push_173 (lv_at hl 5 rfl) ?_
            refine lv_iadd hx hb dX4_push_175 ?_
            refine k_X4_boatAt hC hN hK hT.1 hT.D' hm wq_761 (by decide) hl.1 (Nat.le_of_ble_eq_true rfl) ⟨Nat.le_refl _, Nat.le_refl _⟩ dX4_push_176 (fun r_176 hm => ?_)
            refine lv_iconst (v := (-1)) hx hb dX4_push_179 (by decide) ?_
            refine lv_icmp_eq (tgt := 195) hx hb dX4_push_180 (by decide) (fun c_180 => ?_) (fun c_180 => ?_)
            · have hm := hm.1 c_180
              refine lv_aload_n hx hb dX4_push_195 rfl (lv_at hl 1 rfl) ?_
              refine gTW_tun_12 hC hK hT.1 wq_449 dX4_push_196 ?_
              refine lv_iload_n hx hb dX4_push_199 rfl (lv_at hl 2 rfl) ?_
              refine lv_aload_n hx hb dX4_push_200 rfl (lv_at hl 1 rfl) ?_
              refine gTW_tun_12 hC hK hT.1 wq_449 dX4_push_201 ?_
              refine lv_iload_n hx hb dX4_push_204 rfl (lv_at hl 2 rfl) ?_
              refine w_at (q0 := 9) hC hN hK hT.1 wn_519 rfl (by decide) (by decide) hl.1 (Nat.le_of_ble_eq_true rfl) ⟨Nat.le_refl _, Nat.le_refl _⟩ dX4_push_205 ?_
              refine lv_iload_n hx hb dX4_push_208 rfl (lv_at hl 3 rfl) ?_
              refine lv_isub hx hb dX4_push_209 ?_
              refine uTW_Tpushed hC hN hK hT wn_684 (by decide) hl.1 (Nat.le_of_ble_eq_true rfl) ⟨Nat.le_refl _, Nat.le_refl _⟩ dX4_push_210 (fun F_210 eF_210 H locs hT => ?_)
              have hm := hm F_210 eF_210
              refine lv_aload_n hx hb dX4_push_213 rfl (lv_at hl 1 rfl) ?_
              refine lv_iload_n hx hb dX4_push_214 rfl (lv_at hl 2 rfl) ?_
              refine lv_iload hx hb dX4_push_215 (lv_at hl 0 rfl) ?_
              refine lv_iload hx hb dX4_push_217 (lv_at hl 5 rfl) ?_
              refine lv_iadd hx hb dX4_push_219 ?_
              refine k_X4_comeTo hC hN hK hT hm wq_741 (by decide) hl.1 (Nat.le_of_ble_eq_true rfl) ⟨Nat.le_refl _, Nat.le_refl _⟩ dX4_push_220 (fun F_220 H locs hm hT => ?_)
              obtain ⟨v6_223, ev6_223⟩ : ∃ y : Int32, y = v6 + 1 := ⟨_, rfl⟩
              have hm := hm v6_223 ev6_223
              refine lv_iinc (v := v6_223) (lv' := [(6, .int v6_223), (7, .int v7_155), (0, .ref (a 0)), (1, .int v1), (3, .int v3), (4, .int v4), (5, .int v5)]) hx hb dX4_push_223 hl (k := 6) rfl (by rw [ev6_223]; rfl) (by decide) rfl (fun ls hl => ?_)
              refine lv_goto (tgt := 128) hx hb dX4_push_226 (by decide) ?_
              exact ih128 _ _ _ _ _ _ _ _ _ hm hT (lv_sub hl [2, 3, 4, 5, 6, 0] rfl)
            · have hm := hm.2 c_180
              refine lv_aload_n hx hb dX4_push_183 rfl (lv_at hl 1 rfl) ?_
              refine gTW_tun_12 hC hK hT.1 wq_449 dX4_push_184 ?_
              refine lv_iload_n hx hb dX4_push_187 rfl (lv_at hl 2 rfl) ?_
              refine lv_iconst (v := 0) hx hb dX4_push_188 (by decide) ?_
              refine uTW_Tpushed hC hN hK hT wn_684 (by decide) hl.1 (Nat.le_of_ble_eq_true rfl) ⟨Nat.le_refl _, Nat.le_refl _⟩ dX4_push_189 (fun F_189 eF_189 H locs hT => ?_)
              have hm := hm F_189 eF_189
              refine lv_goto (tgt := 223) hx hb dX4_push_192 (by decide) ?_
              obtain ⟨v6_223, ev6_223⟩ : ∃ y : Int32, y = v6 + 1 := ⟨_, rfl⟩
              have hm := hm v6_223 ev6_223
              refine lv_iinc (v := v6_223) (lv' := [(6, .int v6_223), (7, .int v7_155), (0, .ref (a 0)), (1, .int v1), (3, .int v3), (4, .int v4), (5, .int v5)]) hx hb dX4_push_223 hl (k := 6) rfl (by rw [ev6_223]; rfl) (by decide) rfl (fun ls hl => ?_)
              refine lv_goto (tgt := 128) hx hb dX4_push_226 (by decide) ?_
              exact ih128 _ _ _ _ _ _ _ _ _ hm hT (lv_sub hl [2, 3, 4, 5, 6, 0] rfl)
          · have hm := hm.2 c_161
            refine lv_aload_n hx hb dX4_push_164 rfl (lv_at hl 1 rfl) ?_
            refine lv_iload_n hx hb dX4_push_165 rfl (lv_at hl 2 rfl) ?_
            refine k_X4_leave hC hN hK hT hm wq_757 (by decide) hl.1 (Nat.le_of_ble_eq_true rfl) ⟨Nat.le_refl _, Nat.le_refl _⟩ dX4_push_166 (fun F_166 H locs hm hT => ?_)
            exact hret 169 _ _ _ _ hm hT dX4_push_169
  have L86 : ∀ (F : M2) (v1 : Int32) (v2 : Int32) (v3 : Int32) (v4 : Int32) (q0 : Int32) (H : Heap) (locs : List Loc) (ls : Array Slot), wj_X4_push_86 P K F v1 v2 v3 v4 q0 → TS vwCl D (TW Z a q P F) A s.heap H locs → lv_has ls 8 [(0, .ref (a 0)), (1, .int v1), (2, .int v2), (3, .int v3), (4, .int v4)] → W p l e (rk 3 0 0) s m args below meth c H locs 0 0 Q (F0 m 86 ls [.int q0]) := by
    intro F v1 v2 v3 v4 q0 H locs ls hm hT hl
    refine lv_istore (lv' := [(5, .int q0), (0, .ref (a 0)), (1, .int v1), (2, .int v2), (3, .int v3), (4, .int v4)]) hx hb dX4_push_86 hl (by decide) rfl (fun ls hl => ?_)
    refine lv_aload_n hx hb dX4_push_88 rfl (lv_at hl 1 rfl) ?_
    refine gTW_tun_12 hC hK hT.1 wq_449 dX4_push_89 ?_
    refine lv_iload_n hx hb dX4_push_92 rfl (lv_at hl 2 rfl) ?_
    refine lv_aload_n hx hb dX4_push_93 rfl (lv_at hl 1 rfl) ?_
    refine gTW_tun_12 hC hK hT.1 wq_449 dX4_push_94 ?_
    refine lv_iload_n hx hb dX4_push_97 rfl (lv_at hl 2 rfl) ?_
    refine w_at (q0 := 9) hC hN hK hT.1 wn_519 rfl (by decide) (by decide) hl.1 (Nat.le_of_ble_eq_true rfl) ⟨Nat.le_refl _, Nat.le_refl _⟩ dX4_push_98 ?_
    refine lv_iload_n hx hb dX4_push_101 rfl (lv_at hl 3 rfl) ?_
    refine lv_aload_n hx hb dX4_push_102 rfl (lv_at hl 1 rfl) ?_
    refine gTW_tun_4 hC hK hT.1 wq_433 dX4_push_103 ?_
    refine lv_aload_n hx hb dX4_push_106 rfl (lv_at hl 1 rfl) ?_
    refine gTW_tun_11 hC hK hT.1 wq_447 dX4_push_107 ?_
    refine lv_iload_n hx hb dX4_push_110 rfl (lv_at hl 2 rfl) ?_
    refine w_at (q0 := 8) hC hN hK hT.1 wn_519 rfl (by decide) (by decide) hl.1 (Nat.le_of_ble_eq_true rfl) ⟨Nat.le_refl _, Nat.le_refl _⟩ dX4_push_111 ?_
    refine w_at (q0 := 1) hC hN hK hT.1 wn_519 rfl (by decide) (by decide) hl.1 (Nat.le_of_ble_eq_true rfl) ⟨Nat.le_refl _, Nat.le_refl _⟩ dX4_push_114 ?_
    refine lv_imul hx hb dX4_push_117 ?_
    refine lv_bipush (v := 100) hx hb dX4_push_118 (by decide) ?_
    refine lv_idiv hx hb dX4_push_120 (by decide) ?_
    refine lv_iadd hx hb dX4_push_121 ?_
    refine uTW_Tpushed hC hN hK hT wn_684 (by decide) hl.1 (Nat.le_of_ble_eq_true rfl) ⟨Nat.le_refl _, Nat.le_refl _⟩ dX4_push_122 (fun F_122 eF_122 H locs hT => ?_)
    have hm := hm F_122 eF_122
    refine lv_iconst (v := 0) hx hb dX4_push_125 (by decide) ?_
    refine lv_istore (lv' := [(6, .int 0), (5, .int q0), (0, .ref (a 0)), (1, .int v1), (2, .int v2), (3, .int v3), (4, .int v4)]) hx hb dX4_push_126 hl (by decide) rfl (fun ls hl => ?_)
    exact L128 _ _ _ _ _ _ _ _ _ _ hm hT (lv_sub hl [2, 3, 5, 6, 1, 0] rfl)
  have L68 : ∀ (F : M2) (v1 : Int32) (v2 : Int32) (v3 : Int32) (q0 : Int32) (H : Heap) (locs : List Loc) (ls : Array Slot), wj_X4_push_68 P K F v1 v2 v3 q0 → TS vwCl D (TW Z a q P F) A s.heap H locs → lv_has ls 8 [(0, .ref (a 0)), (1, .int v1), (2, .int v2), (3, .int v3)] → W p l e (rk 3 0 0) s m args below meth c H locs 0 0 Q (F0 m 68 ls [.int q0]) := by
    intro F v1 v2 v3 q0 H locs ls hm hT hl
    refine lv_istore (lv' := [(4, .int q0), (0, .ref (a 0)), (1, .int v1), (2, .int v2), (3, .int v3)]) hx hb dX4_push_68 hl (by decide) rfl (fun ls hl => ?_)
    refine lv_aload_n hx hb dX4_push_70 rfl (lv_at hl 1 rfl) ?_
    refine gTW_tun_8 hC hK hT.1 wq_441 dX4_push_71 ?_
    refine lv_iload_n hx hb dX4_push_74 rfl (lv_at hl 2 rfl) ?_
    refine w_at (q0 := 5) hC hN hK hT.1 wn_519 rfl (by decide) (by decide) hl.1 (Nat.le_of_ble_eq_true rfl) ⟨Nat.le_refl _, Nat.le_refl _⟩ dX4_push_75 ?_
    refine lv_if_ne (tgt := 85) hx hb dX4_push_78 (by decide) (fun c_78 => ?_) (fun c_78 => ?_)
    · have hm := hm.1 c_78
      refine lv_iconst (v := (-1)) hx hb dX4_push_85 (by decide) ?_
      exact L86 _ _ _ _ _ _ _ _ _ hm hT (lv_sub hl [1, 2, 3, 4, 0] rfl)
    · have hm := hm.2 c_78
      refine lv_iconst (v := 1) hx hb dX4_push_81 (by decide) ?_
      refine lv_goto (tgt := 86) hx hb dX4_push_82 (by decide) ?_
      exact L86 _ _ _ _ _ _ _ _ _ hm hT (lv_sub hl [1, 2, 3, 4, 0] rfl)
  refine lv_aload_n hx hb dX4_push_0 rfl (lv_at hl 0 rfl) ?_
  refine lv_aload_n hx hb dX4_push_1 rfl (lv_at hl 0 rfl) ?_
  refine gTW_tun_0 hC hK hT.1 wq_425 dX4_push_2 ?_
  refine gTW_plan_16 hC hK hT.1 wq_338 dX4_push_5 ?_
  refine lv_iload_n hx hb dX4_push_8 rfl (lv_at hl 1 rfl) ?_
  refine w_at (q0 := 24) hC hN hK hT.1 wn_519 rfl (by decide) (by decide) hl.1 (Nat.le_of_ble_eq_true rfl) ⟨Nat.le_refl _, Nat.le_refl _⟩ dX4_push_9 ?_
  refine k_X4_strengthFor hC hN hK hT.1 hT.D' hm wq_753 (by decide) hl.1 (Nat.le_of_ble_eq_true rfl) ⟨Nat.le_refl _, Nat.le_refl _⟩ dX4_push_12 (fun r_12 hm => ?_)
  refine lv_aload_n hx hb dX4_push_15 rfl (lv_at hl 0 rfl) ?_
  refine lv_aload_n hx hb dX4_push_16 rfl (lv_at hl 0 rfl) ?_
  refine gTW_tun_0 hC hK hT.1 wq_425 dX4_push_17 ?_
  refine gTW_plan_17 hC hK hT.1 wq_341 dX4_push_20 ?_
  refine lv_iload_n hx hb dX4_push_23 rfl (lv_at hl 1 rfl) ?_
  refine w_at (q0 := 25) hC hN hK hT.1 wn_519 rfl (by decide) (by decide) hl.1 (Nat.le_of_ble_eq_true rfl) ⟨Nat.le_refl _, Nat.le_refl _⟩ dX4_push_24 ?_
  refine k_X4_strengthFor hC hN hK hT.1 hT.D' hm wq_753 (by decide) hl.1 (Nat.le_of_ble_eq_true rfl) ⟨Nat.le_refl _, Nat.le_refl _⟩ dX4_push_27 (fun r_27 hm => ?_)
  refine lv_iadd hx hb dX4_push_30 ?_
  refine lv_topi (fun v2_31 ev2_31 => ?_)
  have hm := hm v2_31 ev2_31
  refine lv_istore_n (lv' := [(2, .int v2_31), (0, .ref (a 0)), (1, .int x1)]) hx hb dX4_push_31 rfl hl (by decide) rfl (fun ls hl => ?_)
  refine lv_aload_n hx hb dX4_push_32 rfl (lv_at hl 1 rfl) ?_
  refine gTW_tun_0 hC hK hT.1 wq_425 dX4_push_33 ?_
  refine gTW_plan_13 hC hK hT.1 wq_331 dX4_push_36 ?_
  refine lv_iload_n hx hb dX4_push_39 rfl (lv_at hl 2 rfl) ?_
  refine w_at (q0 := 21) hC hN hK hT.1 wn_519 rfl (by decide) (by decide) hl.1 (Nat.le_of_ble_eq_true rfl) ⟨Nat.le_refl _, Nat.le_refl _⟩ dX4_push_40 ?_
  refine lv_topi (fun v3_43 ev3_43 => ?_)
  have hm := hm v3_43 ev3_43
  refine lv_istore_n (lv' := [(3, .int v3_43), (2, .int v2_31), (0, .ref (a 0)), (1, .int x1)]) hx hb dX4_push_43 rfl hl (by decide) rfl (fun ls hl => ?_)
  refine lv_aload_n hx hb dX4_push_44 rfl (lv_at hl 2 rfl) ?_
  refine gTW_tun_8 hC hK hT.1 wq_441 dX4_push_45 ?_
  refine lv_iload_n hx hb dX4_push_48 rfl (lv_at hl 3 rfl) ?_
  refine w_at (q0 := 5) hC hN hK hT.1 wn_519 rfl (by decide) (by decide) hl.1 (Nat.le_of_ble_eq_true rfl) ⟨Nat.le_refl _, Nat.le_refl _⟩ dX4_push_49 ?_
  refine lv_if_ne (tgt := 67) hx hb dX4_push_52 (by decide) (fun c_52 => ?_) (fun c_52 => ?_)
  · have hm := hm.1 c_52
    refine lv_iconst (v := 0) hx hb dX4_push_67 (by decide) ?_
    exact L68 _ _ _ _ _ _ _ _ hm hT (lv_sub hl [2, 3, 1, 0] rfl)
  · have hm := hm.2 c_52
    refine lv_aload_n hx hb dX4_push_55 rfl (lv_at hl 2 rfl) ?_
    refine gTW_tun_0 hC hK hT.1 wq_425 dX4_push_56 ?_
    refine gTW_plan_1 hC hK hT.1 wq_292 dX4_push_59 ?_
    refine lv_iconst (v := 1) hx hb dX4_push_62 (by decide) ?_
    refine lv_isub hx hb dX4_push_63 ?_
    refine lv_goto (tgt := 68) hx hb dX4_push_64 (by decide) ?_
    exact L68 _ _ _ _ _ _ _ _ hm hT (lv_sub hl [2, 3, 1, 0] rfl)
section KX4_push
variable {p : Program} {l : Launch} {e : Env} {s : State} {m : MethodId} {args : Array Value} {below : List Frame} {meth : Method} {c : Code} {H H0 : Heap} {locs : List Loc} {cells slots : Nat} {Q : State → Prop} {R : Room} {rn mcR msR : Nat}
variable {pc : Nat} {ls : Array Slot} {rest : List Value} {A : Nat → Prop} {D : va_G}
variable {cc : ByteArray} {nL index : Nat} {own host : String}
theorem k_X4_push {Z : Nat → ClassId} {a q : Nat → Nat} {P : M2} {F : M2} {x1 : Int32} {K : M2 → Prop} (hC : CallFix p m c cc nL s args lw_g own) (hN : NW s) (hK : va_K D vwCl (tysG Z) s) (hT : TS vwCl D (TW Z a q P F) A H0 H locs) (hm : wp_X4_push P F x1 K) (hl : Cond.methodLink own index yX4_push ∈ lw_g) (hlt : 3 < rn) (hsize : ls.size = nL) (hW : (rest.map fun v => v.category).sum ≤ 8) (hf : cells + 0 ≤ mcR ∧ slots + 0 ≤ msR) (hdg : decode cc pc = .ok (.invokevirtual index, 3)) (kk : ∀ (F1 : M2) (H1 : Heap) (locs1 : List Loc), K F1 → TS vwCl D (TW Z a q P F1) A H0 H1 locs1 → W p l e (rk rn mcR msR) s m args below meth c H1 locs1 cells slots Q (F0 m (pc + 3) ls (rest))) : W p l e (rk rn mcR msR) s m args below meth c H locs cells slots Q (F0 m pc ls (.int x1 :: .ref (a 0) :: rest)) :=
  rwv_go (wsF := (TW Z a q P)) (u0 := F) (wr := []) (isC := cutTW) (isR := []) (pm := cutTW) (ws' := (TW Z a q P)) (runV (As := [.int x1]) hC hN (c_X4_push l D Z a q P F H.size x1 K hm) mi_X4_push hl wq_751 wq_17 hlt hT.1 hT.D' hK (q0 := 0) rfl rfl rfl hsize rfl hW hdg hf) (cutOkTW Z a q P F) hT (fun u H1 locs1 hk hT1 => kk u H1 locs1 hk hT1)
end KX4_push
def wl_X4_spoilAir_2 (P : M2) (K : M2 → Prop) : Nat → M2 → Int32 → Prop
  | 0, _, _ => False
  | n + 1, F, v1 => (((P 24 0) ≤ v1 → K F) ∧ (¬ (P 24 0) ≤ v1 → ((¬ (atv (F 10) 8 v1) = 1 → (∀ v1_62 : Int32, v1_62 = v1 + 1 → wl_X4_spoilAir_2 P K n F v1_62)) ∧ ((atv (F 10) 8 v1) = 1 → (∀ F_59 : M2, F_59 = up2 F 4 (putv (F 4) 60 (atv (F 11) 8 v1) (mxv 0 ((atv (F 4) 60 (atv (F 11) 8 v1)) - 6))) → (∀ v1_62 : Int32, v1_62 = v1 + 1 → wl_X4_spoilAir_2 P K n F_59 v1_62))))))
def wp_X4_spoilAir (P : M2) (F : M2) (K : M2 → Prop) : Prop := wl_X4_spoilAir_2 P K fK F 0
set_option maxRecDepth 100000 in
set_option maxHeartbeats 4000000 in
theorem c_X4_spoilAir (l : Launch) (D : va_G) (Z : Nat → ClassId) (a q : Nat → Nat) (P : M2) (F : M2) (sz : Nat) (K : M2 → Prop) (hm : wp_X4_spoilAir P F K) : Met l yX4_spoilAir (wy yX4_spoilAir cX4_spoilAir 2 none) (rk 1 0 0) (pre vwCl D Z (TW Z a q P F) sz [.ref (a 0)]) (poV vwCl D Z (TW Z a q P) F sz K) 0 0 (va_A (TW Z a q P F) sz) := by
  refine rwv_of (wsF := (TW Z a q P)) (u0 := F) (by decide +kernel) (Nat.le_of_ble_eq_true rfl) rfl ?_
  intro p e s m args below meth c Q A hC hN hsz hnm hT hK hret ls hl
  have hx := hC.1
  have hb := hC.2.1
  have hl : lv_has ls 2 [(0, .ref (a 0))] := hl
  have hT : TS vwCl D (TW Z a q P F) A s.heap s.heap [] := hT
  have L2 : ∀ (n2 : Nat), ∀ (F : M2) (v1 : Int32) (H : Heap) (locs : List Loc) (ls : Array Slot), wl_X4_spoilAir_2 P K n2 F v1 → TS vwCl D (TW Z a q P F) A s.heap H locs → lv_has ls 2 [(0, .ref (a 0)), (1, .int v1)] → W p l e (rk 1 0 0) s m args below meth c H locs 0 0 Q (F0 m 2 ls []) := by
    intro n2
    induction n2 with
    | zero =>
      intro F v1 H locs ls hm hT hl
      exact False.elim hm
    | succ n2 ih2 =>
      intro F v1 H locs ls hm hT hl
      refine lv_iload_n hx hb dX4_spoilAir_2 rfl (lv_at hl 1 rfl) ?_
      refine lv_aload_n hx hb dX4_spoilAir_3 rfl (lv_at hl 0 rfl) ?_
      refine gTW_tun_0 hC hK hT.1 wq_425 dX4_spoilAir_4 ?_
      refine gTW_plan_4 hC hK hT.1 wq_304 dX4_spoilAir_7 ?_
      refine lv_icmp_ge (tgt := 68) hx hb dX4_spoilAir_10 (by decide) (fun c_10 => ?_) (fun c_10 => ?_)
      · have hm := hm.1 c_10
        exact hret 68 _ _ _ _ hm hT dX4_spoilAir_68
      · have hm := hm.2 c_10
        refine lv_aload_n hx hb dX4_spoilAir_13 rfl (lv_at hl 0 rfl) ?_
        refine gTW_tun_10 hC hK hT.1 wq_445 dX4_spoilAir_14 ?_
        refine lv_iload_n hx hb dX4_spoilAir_17 rfl (lv_at hl 1 rfl) ?_
        refine w_at (q0 := 7) hC hN hK hT.1 wn_519 rfl (by decide) (by decide) hl.1 (Nat.le_of_ble_eq_true rfl) ⟨Nat.le_refl _, Nat.le_refl _⟩ dX4_spoilAir_18 ?_
        refine lv_iconst (v := 1) hx hb dX4_spoilAir_21 (by decide) ?_
        refine lv_icmp_ne (tgt := 62) hx hb dX4_spoilAir_22 (by decide) (fun c_22 => ?_) (fun c_22 => ?_)
        · have hm := hm.1 c_22
          obtain ⟨v1_62, ev1_62⟩ : ∃ y : Int32, y = v1 + 1 := ⟨_, rfl⟩
          have hm := hm v1_62 ev1_62
          refine lv_iinc (v := v1_62) (lv' := [(1, .int v1_62), (0, .ref (a 0))]) hx hb dX4_spoilAir_62 hl (k := 1) rfl (by rw [ev1_62]; rfl) (by decide) rfl (fun ls hl => ?_)
          refine lv_goto (tgt := 2) hx hb dX4_spoilAir_65 (by decide) ?_
          exact ih2 _ _ _ _ _ hm hT (lv_sub hl [1, 0] rfl)
        · have hm := hm.2 c_22
          refine lv_aload_n hx hb dX4_spoilAir_25 rfl (lv_at hl 0 rfl) ?_
          refine gTW_tun_4 hC hK hT.1 wq_433 dX4_spoilAir_26 ?_
          refine lv_aload_n hx hb dX4_spoilAir_29 rfl (lv_at hl 0 rfl) ?_
          refine gTW_tun_11 hC hK hT.1 wq_447 dX4_spoilAir_30 ?_
          refine lv_iload_n hx hb dX4_spoilAir_33 rfl (lv_at hl 1 rfl) ?_
          refine w_at (q0 := 8) hC hN hK hT.1 wn_519 rfl (by decide) (by decide) hl.1 (Nat.le_of_ble_eq_true rfl) ⟨Nat.le_refl _, Nat.le_refl _⟩ dX4_spoilAir_34 ?_
          refine lv_iconst (v := 0) hx hb dX4_spoilAir_37 (by decide) ?_
          refine lv_aload_n hx hb dX4_spoilAir_38 rfl (lv_at hl 0 rfl) ?_
          refine gTW_tun_4 hC hK hT.1 wq_433 dX4_spoilAir_39 ?_
          refine lv_aload_n hx hb dX4_spoilAir_42 rfl (lv_at hl 0 rfl) ?_
          refine gTW_tun_11 hC hK hT.1 wq_447 dX4_spoilAir_43 ?_
          refine lv_iload_n hx hb dX4_spoilAir_46 rfl (lv_at hl 1 rfl) ?_
          refine w_at (q0 := 8) hC hN hK hT.1 wn_519 rfl (by decide) (by decide) hl.1 (Nat.le_of_ble_eq_true rfl) ⟨Nat.le_refl _, Nat.le_refl _⟩ dX4_spoilAir_47 ?_
          refine w_at (q0 := 1) hC hN hK hT.1 wn_519 rfl (by decide) (by decide) hl.1 (Nat.le_of_ble_eq_true rfl) ⟨Nat.le_refl _, Nat.le_refl _⟩ dX4_spoilAir_50 ?_
          refine lv_bipush (v := 6) hx hb dX4_spoilAir_53 (by decide) ?_
          refine lv_isub hx hb dX4_spoilAir_55 ?_
          refine w_max hC wq_698 (by decide) (Nat.le_of_ble_eq_true rfl) hl.1 ⟨Nat.le_refl _, Nat.le_refl _⟩ dX4_spoilAir_56 ?_
          refine uTW_Tair hC hN hK hT wn_684 (by decide) hl.1 (Nat.le_of_ble_eq_true rfl) ⟨Nat.le_refl _, Nat.le_refl _⟩ dX4_spoilAir_59 (fun F_59 eF_59 H locs hT => ?_)
          have hm := hm F_59 eF_59
          obtain ⟨v1_62, ev1_62⟩ : ∃ y : Int32, y = v1 + 1 := ⟨_, rfl⟩
          have hm := hm v1_62 ev1_62
          refine lv_iinc (v := v1_62) (lv' := [(1, .int v1_62), (0, .ref (a 0))]) hx hb dX4_spoilAir_62 hl (k := 1) rfl (by rw [ev1_62]; rfl) (by decide) rfl (fun ls hl => ?_)
          refine lv_goto (tgt := 2) hx hb dX4_spoilAir_65 (by decide) ?_
          exact ih2 _ _ _ _ _ hm hT (lv_sub hl [1, 0] rfl)
  refine lv_iconst (v := 0) hx hb dX4_spoilAir_0 (by decide) ?_
  refine lv_istore_n (lv' := [(1, .int 0), (0, .ref (a 0))]) hx hb dX4_spoilAir_1 rfl hl (by decide) rfl (fun ls hl => ?_)
  exact L2 _ _ _ _ _ _ hm hT (lv_sub hl [1, 0] rfl)
section KX4_spoilAir
variable {p : Program} {l : Launch} {e : Env} {s : State} {m : MethodId} {args : Array Value} {below : List Frame} {meth : Method} {c : Code} {H H0 : Heap} {locs : List Loc} {cells slots : Nat} {Q : State → Prop} {R : Room} {rn mcR msR : Nat}
variable {pc : Nat} {ls : Array Slot} {rest : List Value} {A : Nat → Prop} {D : va_G}
variable {cc : ByteArray} {nL index : Nat} {own host : String}
theorem k_X4_spoilAir {Z : Nat → ClassId} {a q : Nat → Nat} {P : M2} {F : M2} {K : M2 → Prop} (hC : CallFix p m c cc nL s args lw_g own) (hN : NW s) (hK : va_K D vwCl (tysG Z) s) (hT : TS vwCl D (TW Z a q P F) A H0 H locs) (hm : wp_X4_spoilAir P F K) (hl : Cond.methodLink own index yX4_spoilAir ∈ lw_g) (hlt : 1 < rn) (hsize : ls.size = nL) (hW : (rest.map fun v => v.category).sum ≤ 8) (hf : cells + 0 ≤ mcR ∧ slots + 0 ≤ msR) (hdg : decode cc pc = .ok (.invokevirtual index, 3)) (kk : ∀ (F1 : M2) (H1 : Heap) (locs1 : List Loc), K F1 → TS vwCl D (TW Z a q P F1) A H0 H1 locs1 → W p l e (rk rn mcR msR) s m args below meth c H1 locs1 cells slots Q (F0 m (pc + 3) ls (rest))) : W p l e (rk rn mcR msR) s m args below meth c H locs cells slots Q (F0 m pc ls (.ref (a 0) :: rest)) :=
  rwv_go (wsF := (TW Z a q P)) (u0 := F) (wr := []) (isC := cutTW) (isR := []) (pm := cutTW) (ws' := (TW Z a q P)) (runV (As := []) hC hN (c_X4_spoilAir l D Z a q P F H.size K hm) mi_X4_spoilAir hl wq_764 wq_20 hlt hT.1 hT.D' hK (q0 := 0) rfl rfl rfl hsize rfl hW hdg hf) (cutOkTW Z a q P F) hT (fun u H1 locs1 hk hT1 => kk u H1 locs1 hk hT1)
end KX4_spoilAir
def wj_X4_breathe_46 (P : M2) (C2 : M2 → Int32 → Prop) (K : M2 → Prop) (F : M2) (v1 : Int32) (q0 : Int32) : Prop := wp_X4_mostBreath P F v1 (fun r_55 => (∀ F_74 : M2, F_74 = up2 F 5 (putv (F 5) 6 v1 (mxv 0 (mnv r_55 ((atv (F 5) 6 v1) + q0)))) → (∀ v1_77 : Int32, v1_77 = v1 + 1 → C2 F_74 v1_77)))
def wl_X4_breathe_2 (P : M2) (K : M2 → Prop) : Nat → M2 → Int32 → Prop
  | 0, _, _ => False
  | n + 1, F, v1 => (((P 23 0) ≤ v1 → K F) ∧ (¬ (P 23 0) ≤ v1 → wp_X4_boatOf P F v1 (fun r_15 => ((¬ r_15 = ((-1)) → wp_X4_breathIn P F (atv (F 4) 60 (atv (F 11) 8 r_15)) (fun r_43 => wj_X4_breathe_46 P (wl_X4_breathe_2 P K n) K F v1 r_43)) ∧ (r_15 = ((-1)) → wj_X4_breathe_46 P (wl_X4_breathe_2 P K n) K F v1 2)))))
def wp_X4_breathe (P : M2) (F : M2) (K : M2 → Prop) : Prop := wl_X4_breathe_2 P K fK F 0
set_option maxRecDepth 100000 in
set_option maxHeartbeats 4000000 in
theorem c_X4_breathe (l : Launch) (D : va_G) (Z : Nat → ClassId) (a q : Nat → Nat) (P : M2) (F : M2) (sz : Nat) (K : M2 → Prop) (hm : wp_X4_breathe P F K) : Met l yX4_breathe (wy yX4_breathe cX4_breathe 4 none) (rk 3 0 0) (pre vwCl D Z (TW Z a q P F) sz [.ref (a 0)]) (poV vwCl D Z (TW Z a q P) F sz K) 0 0 (va_A (TW Z a q P F) sz) := by
  refine rwv_of (wsF := (TW Z a q P)) (u0 := F) (by decide +kernel) (Nat.le_of_ble_eq_true rfl) rfl ?_
  intro p e s m args below meth c Q A hC hN hsz hnm hT hK hret ls hl
  have hx := hC.1
  have hb := hC.2.1
  have hl : lv_has ls 4 [(0, .ref (a 0))] := hl
  have hT : TS vwCl D (TW Z a q P F) A s.heap s.heap [] := hT
  have L2 : ∀ (n2 : Nat), ∀ (F : M2) (v1 : Int32) (H : Heap) (locs : List Loc) (ls : Array Slot), wl_X4_breathe_2 P K n2 F v1 → TS vwCl D (TW Z a q P F) A s.heap H locs → lv_has ls 4 [(0, .ref (a 0)), (1, .int v1)] → W p l e (rk 3 0 0) s m args below meth c H locs 0 0 Q (F0 m 2 ls []) := by
    intro n2
    induction n2 with
    | zero =>
      intro F v1 H locs ls hm hT hl
      exact False.elim hm
    | succ n2 ih2 =>
      have L46 : ∀ (F : M2) (v1 : Int32) (q0 : Int32) (H : Heap) (locs : List Loc) (ls : Array Slot), wj_X4_breathe_46 P (wl_X4_breathe_2 P K n2) K F v1 q0 → TS vwCl D (TW Z a q P F) A s.heap H locs → lv_has ls 4 [(0, .ref (a 0)), (1, .int v1)] → W p l e (rk 3 0 0) s m args below meth c H locs 0 0 Q (F0 m 46 ls [.int q0]) := by
        intro F v1 q0 H locs ls hm hT hl
        refine lv_istore_n (lv' := [(3, .int q0), (0, .ref (a 0)), (1, .int v1)]) hx hb dX4_breathe_46 rfl hl (by decide) rfl (fun ls hl => ?_)
        refine lv_aload_n hx hb dX4_breathe_47 rfl (lv_at hl 1 rfl) ?_
        refine gTW_tun_5 hC hK hT.1 wq_435 dX4_breathe_48 ?_
        refine lv_iload_n hx hb dX4_breathe_51 rfl (lv_at hl 2 rfl) ?_
        refine lv_iconst (v := 0) hx hb dX4_breathe_52 (by decide) ?_
        refine lv_aload_n hx hb dX4_breathe_53 rfl (lv_at hl 1 rfl) ?_
        refine lv_iload_n hx hb dX4_breathe_54 rfl (lv_at hl 2 rfl) ?_
        refine k_X4_mostBreath hC hN hK hT.1 hT.D' hm wq_773 (by decide) hl.1 (Nat.le_of_ble_eq_true rfl) ⟨Nat.le_refl _, Nat.le_refl _⟩ dX4_breathe_55 (fun r_55 hm => ?_)
        refine lv_aload_n hx hb dX4_breathe_58 rfl (lv_at hl 1 rfl) ?_
        refine gTW_tun_5 hC hK hT.1 wq_435 dX4_breathe_59 ?_
        refine lv_iload_n hx hb dX4_breathe_62 rfl (lv_at hl 2 rfl) ?_
        refine w_at (q0 := 2) hC hN hK hT.1 wn_519 rfl (by decide) (by decide) hl.1 (Nat.le_of_ble_eq_true rfl) ⟨Nat.le_refl _, Nat.le_refl _⟩ dX4_breathe_63 ?_
        refine lv_iload_n hx hb dX4_breathe_66 rfl (lv_at hl 0 rfl) ?_
        refine lv_iadd hx hb dX4_breathe_67 ?_
        refine w_min hC wq_695 (by decide) (Nat.le_of_ble_eq_true rfl) hl.1 ⟨Nat.le_refl _, Nat.le_refl _⟩ dX4_breathe_68 ?_
        refine w_max hC wq_698 (by decide) (Nat.le_of_ble_eq_true rfl) hl.1 ⟨Nat.le_refl _, Nat.le_refl _⟩ dX4_breathe_71 ?_
        refine uTW_Tbreath hC hN hK hT wn_684 (by decide) hl.1 (Nat.le_of_ble_eq_true rfl) ⟨Nat.le_refl _, Nat.le_refl _⟩ dX4_breathe_74 (fun F_74 eF_74 H locs hT => ?_)
        have hm := hm F_74 eF_74
        obtain ⟨v1_77, ev1_77⟩ : ∃ y : Int32, y = v1 + 1 := ⟨_, rfl⟩
        have hm := hm v1_77 ev1_77
        refine lv_iinc (v := v1_77) (lv' := [(1, .int v1_77), (3, .int q0), (0, .ref (a 0))]) hx hb dX4_breathe_77 hl (k := 2) rfl (by rw [ev1_77]; rfl) (by decide) rfl (fun ls hl => ?_)
        refine lv_goto (tgt := 2) hx hb dX4_breathe_80 (by decide) ?_
        exact ih2 _ _ _ _ _ hm hT (lv_sub hl [2, 0] rfl)
      intro F v1 H locs ls hm hT hl
      refine lv_iload_n hx hb dX4_breathe_2 rfl (lv_at hl 1 rfl) ?_
      refine lv_aload_n hx hb dX4_breathe_3 rfl (lv_at hl 0 rfl) ?_
      refine gTW_tun_0 hC hK hT.1 wq_425 dX4_breathe_4 ?_
      refine gTW_plan_3 hC hK hT.1 wq_300 dX4_breathe_7 ?_
      refine lv_icmp_ge (tgt := 83) hx hb dX4_breathe_10 (by decide) (fun c_10 => ?_) (fun c_10 => ?_)
      · have hm := hm.1 c_10
        exact hret 83 _ _ _ _ hm hT dX4_breathe_83
      · have hm := hm.2 c_10
        refine lv_aload_n hx hb dX4_breathe_13 rfl (lv_at hl 0 rfl) ?_
        refine lv_iload_n hx hb dX4_breathe_14 rfl (lv_at hl 1 rfl) ?_
        refine k_X4_boatOf hC hN hK hT.1 hT.D' hm wq_667 (by decide) hl.1 (Nat.le_of_ble_eq_true rfl) ⟨Nat.le_refl _, Nat.le_refl _⟩ dX4_breathe_15 (fun r_15 hm => ?_)
        refine lv_istore_n (lv' := [(2, .int r_15), (0, .ref (a 0)), (1, .int v1)]) hx hb dX4_breathe_18 rfl hl (by decide) rfl (fun ls hl => ?_)
        refine lv_iload_n hx hb dX4_breathe_19 rfl (lv_at hl 0 rfl) ?_
        refine lv_iconst (v := (-1)) hx hb dX4_breathe_20 (by decide) ?_
        refine lv_icmp_ne (tgt := 28) hx hb dX4_breathe_21 (by decide) (fun c_21 => ?_) (fun c_21 => ?_)
        · have hm := hm.1 c_21
          refine lv_aload_n hx hb dX4_breathe_28 rfl (lv_at hl 1 rfl) ?_
          refine gTW_tun_4 hC hK hT.1 wq_433 dX4_breathe_29 ?_
          refine lv_aload_n hx hb dX4_breathe_32 rfl (lv_at hl 1 rfl) ?_
          refine gTW_tun_11 hC hK hT.1 wq_447 dX4_breathe_33 ?_
          refine lv_iload_n hx hb dX4_breathe_36 rfl (lv_at hl 0 rfl) ?_
          refine w_at (q0 := 8) hC hN hK hT.1 wn_519 rfl (by decide) (by decide) hl.1 (Nat.le_of_ble_eq_true rfl) ⟨Nat.le_refl _, Nat.le_refl _⟩ dX4_breathe_37 ?_
          refine w_at (q0 := 1) hC hN hK hT.1 wn_519 rfl (by decide) (by decide) hl.1 (Nat.le_of_ble_eq_true rfl) ⟨Nat.le_refl _, Nat.le_refl _⟩ dX4_breathe_40 ?_
          refine k_X4_breathIn hC hN hK hT.1 hT.D' hm wq_770 (by decide) hl.1 (Nat.le_of_ble_eq_true rfl) ⟨Nat.le_refl _, Nat.le_refl _⟩ dX4_breathe_43 (fun r_43 hm => ?_)
          exact L46 _ _ _ _ _ _ hm hT (lv_sub hl [1, 2] rfl)
        · have hm := hm.2 c_21
          refine lv_iconst (v := 2) hx hb dX4_breathe_24 (by decide) ?_
          refine lv_goto (tgt := 46) hx hb dX4_breathe_25 (by decide) ?_
          exact L46 _ _ _ _ _ _ hm hT (lv_sub hl [1, 2] rfl)
  refine lv_iconst (v := 0) hx hb dX4_breathe_0 (by decide) ?_
  refine lv_istore_n (lv' := [(1, .int 0), (0, .ref (a 0))]) hx hb dX4_breathe_1 rfl hl (by decide) rfl (fun ls hl => ?_)
  exact L2 _ _ _ _ _ _ hm hT (lv_sub hl [1, 0] rfl)
section KX4_breathe
variable {p : Program} {l : Launch} {e : Env} {s : State} {m : MethodId} {args : Array Value} {below : List Frame} {meth : Method} {c : Code} {H H0 : Heap} {locs : List Loc} {cells slots : Nat} {Q : State → Prop} {R : Room} {rn mcR msR : Nat}
variable {pc : Nat} {ls : Array Slot} {rest : List Value} {A : Nat → Prop} {D : va_G}
variable {cc : ByteArray} {nL index : Nat} {own host : String}
theorem k_X4_breathe {Z : Nat → ClassId} {a q : Nat → Nat} {P : M2} {F : M2} {K : M2 → Prop} (hC : CallFix p m c cc nL s args lw_g own) (hN : NW s) (hK : va_K D vwCl (tysG Z) s) (hT : TS vwCl D (TW Z a q P F) A H0 H locs) (hm : wp_X4_breathe P F K) (hl : Cond.methodLink own index yX4_breathe ∈ lw_g) (hlt : 3 < rn) (hsize : ls.size = nL) (hW : (rest.map fun v => v.category).sum ≤ 8) (hf : cells + 0 ≤ mcR ∧ slots + 0 ≤ msR) (hdg : decode cc pc = .ok (.invokevirtual index, 3)) (kk : ∀ (F1 : M2) (H1 : Heap) (locs1 : List Loc), K F1 → TS vwCl D (TW Z a q P F1) A H0 H1 locs1 → W p l e (rk rn mcR msR) s m args below meth c H1 locs1 cells slots Q (F0 m (pc + 3) ls (rest))) : W p l e (rk rn mcR msR) s m args below meth c H locs cells slots Q (F0 m pc ls (.ref (a 0) :: rest)) :=
  rwv_go (wsF := (TW Z a q P)) (u0 := F) (wr := []) (isC := cutTW) (isR := []) (pm := cutTW) (ws' := (TW Z a q P)) (runV (As := []) hC hN (c_X4_breathe l D Z a q P F H.size K hm) mi_X4_breathe hl wq_768 wq_21 hlt hT.1 hT.D' hK (q0 := 0) rfl rfl rfl hsize rfl hW hdg hf) (cutOkTW Z a q P F) hT (fun u H1 locs1 hk hT1 => kk u H1 locs1 hk hT1)
end KX4_breathe
def wl_X4_bringAirBy_17 (P : M2) (K : M2 → Prop) : Nat → M2 → Int32 → Int32 → Int32 → Int32 → Prop
  | 0, _, _, _, _, _ => False
  | n + 1, F, v1, v2, v3, v5 => (((v1 + v3) < v5 → K F) ∧ (¬ (v1 + v3) < v5 → (((P 21 0) ≤ v5 → K F) ∧ (¬ (P 21 0) ≤ v5 → (((Int32.ofNat 60) ≤ v5 → K F) ∧ (¬ (Int32.ofNat 60) ≤ v5 → (inb v5 60 ∧ (inb v5 60 ∧ ∀ F_77 : M2, F_77 = up2 F 4 (upd (F 4) v5.toInt.toNat (mnv 100 (((F 4 v5.toInt.toNat) + v2) - (2 * (abv (v5 - v1)))))) → (∀ v5_78 : Int32, v5_78 = v5 + 1 → wl_X4_bringAirBy_17 P K n F_77 v1 v2 v3 v5_78)))))))))
def wp_X4_bringAirBy (P : M2) (F : M2) (x1 : Int32) (x2 : Int32) (K : M2 → Prop) : Prop := (∀ v3_3, v3_3 = x2 / 2 → (∀ v4_11, v4_11 = mxv 0 (x1 - v3_3) → wl_X4_bringAirBy_17 P K fK F x1 x2 v3_3 v4_11))
set_option maxRecDepth 100000 in
set_option maxHeartbeats 4000000 in
theorem c_X4_bringAirBy (l : Launch) (D : va_G) (Z : Nat → ClassId) (a q : Nat → Nat) (P : M2) (F : M2) (sz : Nat) (x1 : Int32) (x2 : Int32) (K : M2 → Prop) (hm : wp_X4_bringAirBy P F x1 x2 K) : Met l yX4_bringAirBy (wy yX4_bringAirBy cX4_bringAirBy 6 none) (rk 1 0 0) (pre vwCl D Z (TW Z a q P F) sz [.ref (a 0), .int x1, .int x2]) (poV vwCl D Z (TW Z a q P) F sz K) 0 0 (va_A (TW Z a q P F) sz) := by
  refine rwv_of (wsF := (TW Z a q P)) (u0 := F) (by decide +kernel) (Nat.le_of_ble_eq_true rfl) rfl ?_
  intro p e s m args below meth c Q A hC hN hsz hnm hT hK hret ls hl
  have hx := hC.1
  have hb := hC.2.1
  have hl : lv_has ls 6 [(0, .ref (a 0)), (1, .int x1), (2, .int x2)] := hl
  have hT : TS vwCl D (TW Z a q P F) A s.heap s.heap [] := hT
  have L17 : ∀ (n17 : Nat), ∀ (F : M2) (v1 : Int32) (v2 : Int32) (v3 : Int32) (v5 : Int32) (H : Heap) (locs : List Loc) (ls : Array Slot), wl_X4_bringAirBy_17 P K n17 F v1 v2 v3 v5 → TS vwCl D (TW Z a q P F) A s.heap H locs → lv_has ls 6 [(0, .ref (a 0)), (1, .int v1), (2, .int v2), (3, .int v3), (5, .int v5)] → W p l e (rk 1 0 0) s m args below meth c H locs 0 0 Q (F0 m 17 ls []) := by
    intro n17
    induction n17 with
    | zero =>
      intro F v1 v2 v3 v5 H locs ls hm hT hl
      exact False.elim hm
    | succ n17 ih17 =>
      intro F v1 v2 v3 v5 H locs ls hm hT hl
      refine lv_iload hx hb dX4_bringAirBy_17 (lv_at hl 4 rfl) ?_
      refine lv_iload_n hx hb dX4_bringAirBy_19 rfl (lv_at hl 1 rfl) ?_
      refine lv_iload_n hx hb dX4_bringAirBy_20 rfl (lv_at hl 3 rfl) ?_
      refine lv_iadd hx hb dX4_bringAirBy_21 ?_
      refine lv_icmp_gt (tgt := 84) hx hb dX4_bringAirBy_22 (by decide) (fun c_22 => ?_) (fun c_22 => ?_)
      · have hm := hm.1 c_22
        exact hret 84 _ _ _ _ hm hT dX4_bringAirBy_84
      · have hm := hm.2 c_22
        refine lv_iload hx hb dX4_bringAirBy_25 (lv_at hl 4 rfl) ?_
        refine lv_aload_n hx hb dX4_bringAirBy_27 rfl (lv_at hl 0 rfl) ?_
        refine gTW_tun_0 hC hK hT.1 wq_425 dX4_bringAirBy_28 ?_
        refine gTW_plan_1 hC hK hT.1 wq_292 dX4_bringAirBy_31 ?_
        refine lv_icmp_ge (tgt := 84) hx hb dX4_bringAirBy_34 (by decide) (fun c_34 => ?_) (fun c_34 => ?_)
        · have hm := hm.1 c_34
          exact hret 84 _ _ _ _ hm hT dX4_bringAirBy_84
        · have hm := hm.2 c_34
          refine lv_iload hx hb dX4_bringAirBy_37 (lv_at hl 4 rfl) ?_
          refine lv_aload_n hx hb dX4_bringAirBy_39 rfl (lv_at hl 0 rfl) ?_
          refine gTW_tun_4 hC hK hT.1 wq_433 dX4_bringAirBy_40 ?_
          refine w_alen (q0 := 1) (t0 := 0) hC hK hT.1 rfl rfl dX4_bringAirBy_43 ?_
          refine lv_icmp_ge (tgt := 84) hx hb dX4_bringAirBy_44 (by decide) (fun c_44 => ?_) (fun c_44 => ?_)
          · have hm := hm.1 c_44
            exact hret 84 _ _ _ _ hm hT dX4_bringAirBy_84
          · have hm := hm.2 c_44
            refine lv_aload_n hx hb dX4_bringAirBy_47 rfl (lv_at hl 0 rfl) ?_
            refine gTW_tun_4 hC hK hT.1 wq_433 dX4_bringAirBy_48 ?_
            refine lv_iload hx hb dX4_bringAirBy_51 (lv_at hl 4 rfl) ?_
            refine lv_bipush (v := 100) hx hb dX4_bringAirBy_53 (by decide) ?_
            refine lv_aload_n hx hb dX4_bringAirBy_55 rfl (lv_at hl 0 rfl) ?_
            refine gTW_tun_4 hC hK hT.1 wq_433 dX4_bringAirBy_56 ?_
            refine lv_iload hx hb dX4_bringAirBy_59 (lv_at hl 4 rfl) ?_
            refine w_iald (q0 := 1) hC hK hT.1 rfl hm.1 dX4_bringAirBy_61 ?_
            have hm := hm.2
            refine lv_iload_n hx hb dX4_bringAirBy_62 rfl (lv_at hl 2 rfl) ?_
            refine lv_iadd hx hb dX4_bringAirBy_63 ?_
            refine lv_iconst (v := 2) hx hb dX4_bringAirBy_64 (by decide) ?_
            refine lv_iload hx hb dX4_bringAirBy_65 (lv_at hl 4 rfl) ?_
            refine lv_iload_n hx hb dX4_bringAirBy_67 rfl (lv_at hl 1 rfl) ?_
            refine lv_isub hx hb dX4_bringAirBy_68 ?_
            refine w_abs hC wq_785 (by decide) (Nat.le_of_ble_eq_true rfl) hl.1 ⟨Nat.le_refl _, Nat.le_refl _⟩ dX4_bringAirBy_69 ?_
            refine lv_imul hx hb dX4_bringAirBy_72 ?_
            refine lv_isub hx hb dX4_bringAirBy_73 ?_
            refine w_min hC wq_695 (by decide) (Nat.le_of_ble_eq_true rfl) hl.1 ⟨Nat.le_refl _, Nat.le_refl _⟩ dX4_bringAirBy_74 ?_
            refine sTW_Tair hC hK hT hm.1 dX4_bringAirBy_77 (fun F_77 eF_77 H locs hT => ?_)
            have hm := hm.2 F_77 eF_77
            obtain ⟨v5_78, ev5_78⟩ : ∃ y : Int32, y = v5 + 1 := ⟨_, rfl⟩
            have hm := hm v5_78 ev5_78
            refine lv_iinc (v := v5_78) (lv' := [(5, .int v5_78), (0, .ref (a 0)), (1, .int v1), (2, .int v2), (3, .int v3)]) hx hb dX4_bringAirBy_78 hl (k := 4) rfl (by rw [ev5_78]; rfl) (by decide) rfl (fun ls hl => ?_)
            refine lv_goto (tgt := 17) hx hb dX4_bringAirBy_81 (by decide) ?_
            exact ih17 _ _ _ _ _ _ _ _ hm hT (lv_sub hl [1, 2, 3, 4, 0] rfl)
  refine lv_iload_n hx hb dX4_bringAirBy_0 rfl (lv_at hl 2 rfl) ?_
  refine lv_iconst (v := 2) hx hb dX4_bringAirBy_1 (by decide) ?_
  refine lv_idiv hx hb dX4_bringAirBy_2 (by decide) ?_
  refine lv_topi (fun v3_3 ev3_3 => ?_)
  have hm := hm v3_3 ev3_3
  refine lv_istore_n (lv' := [(3, .int v3_3), (0, .ref (a 0)), (1, .int x1), (2, .int x2)]) hx hb dX4_bringAirBy_3 rfl hl (by decide) rfl (fun ls hl => ?_)
  refine lv_iconst (v := 0) hx hb dX4_bringAirBy_4 (by decide) ?_
  refine lv_iload_n hx hb dX4_bringAirBy_5 rfl (lv_at hl 2 rfl) ?_
  refine lv_iload_n hx hb dX4_bringAirBy_6 rfl (lv_at hl 0 rfl) ?_
  refine lv_isub hx hb dX4_bringAirBy_7 ?_
  refine w_max hC wq_698 (by decide) (Nat.le_of_ble_eq_true rfl) hl.1 ⟨Nat.le_refl _, Nat.le_refl _⟩ dX4_bringAirBy_8 ?_
  refine lv_topi (fun v4_11 ev4_11 => ?_)
  have hm := hm v4_11 ev4_11
  refine lv_istore (lv' := [(4, .int v4_11), (3, .int v3_3), (0, .ref (a 0)), (1, .int x1), (2, .int x2)]) hx hb dX4_bringAirBy_11 hl (by decide) rfl (fun ls hl => ?_)
  refine lv_iload hx hb dX4_bringAirBy_13 (lv_at hl 0 rfl) ?_
  refine lv_istore (lv' := [(5, .int v4_11), (4, .int v4_11), (3, .int v3_3), (0, .ref (a 0)), (1, .int x1), (2, .int x2)]) hx hb dX4_bringAirBy_15 hl (by decide) rfl (fun ls hl => ?_)
  exact L17 _ _ _ _ _ _ _ _ _ hm hT (lv_sub hl [3, 4, 5, 2, 0] rfl)
section KX4_bringAirBy
variable {p : Program} {l : Launch} {e : Env} {s : State} {m : MethodId} {args : Array Value} {below : List Frame} {meth : Method} {c : Code} {H H0 : Heap} {locs : List Loc} {cells slots : Nat} {Q : State → Prop} {R : Room} {rn mcR msR : Nat}
variable {pc : Nat} {ls : Array Slot} {rest : List Value} {A : Nat → Prop} {D : va_G}
variable {cc : ByteArray} {nL index : Nat} {own host : String}
theorem k_X4_bringAirBy {Z : Nat → ClassId} {a q : Nat → Nat} {P : M2} {F : M2} {x1 : Int32} {x2 : Int32} {K : M2 → Prop} (hC : CallFix p m c cc nL s args lw_g own) (hN : NW s) (hK : va_K D vwCl (tysG Z) s) (hT : TS vwCl D (TW Z a q P F) A H0 H locs) (hm : wp_X4_bringAirBy P F x1 x2 K) (hl : Cond.methodLink own index yX4_bringAirBy ∈ lw_g) (hlt : 1 < rn) (hsize : ls.size = nL) (hW : (rest.map fun v => v.category).sum ≤ 8) (hf : cells + 0 ≤ mcR ∧ slots + 0 ≤ msR) (hdg : decode cc pc = .ok (.invokevirtual index, 3)) (kk : ∀ (F1 : M2) (H1 : Heap) (locs1 : List Loc), K F1 → TS vwCl D (TW Z a q P F1) A H0 H1 locs1 → W p l e (rk rn mcR msR) s m args below meth c H1 locs1 cells slots Q (F0 m (pc + 3) ls (rest))) : W p l e (rk rn mcR msR) s m args below meth c H locs cells slots Q (F0 m pc ls (.int x2 :: .int x1 :: .ref (a 0) :: rest)) :=
  rwv_go (wsF := (TW Z a q P)) (u0 := F) (wr := []) (isC := cutTW) (isR := []) (pm := cutTW) (ws' := (TW Z a q P)) (runV (As := [.int x1, .int x2]) hC hN (c_X4_bringAirBy l D Z a q P F H.size x1 x2 K hm) mi_X4_bringAirBy hl wq_783 wq_24 hlt hT.1 hT.D' hK (q0 := 0) rfl rfl rfl hsize rfl hW hdg hf) (cutOkTW Z a q P F) hT (fun u H1 locs1 hk hT1 => kk u H1 locs1 hk hT1)
end KX4_bringAirBy
def wl_X4_bringAir_2 (P : M2) (K : M2 → Prop) : Nat → M2 → Int32 → Prop
  | 0, _, _ => False
  | n + 1, F, v1 => (((P 22 0) ≤ v1 → K F) ∧ (¬ (P 22 0) ≤ v1 → wp_X4_bringAirBy P F (atv (P 29) 4 v1) (atv (P 30) 4 v1) (fun F_36 => (∀ v1_39 : Int32, v1_39 = v1 + 1 → wl_X4_bringAir_2 P K n F_36 v1_39))))
def wp_X4_bringAir (P : M2) (F : M2) (K : M2 → Prop) : Prop := wl_X4_bringAir_2 P K fK F 0
set_option maxRecDepth 100000 in
set_option maxHeartbeats 4000000 in
theorem c_X4_bringAir (l : Launch) (D : va_G) (Z : Nat → ClassId) (a q : Nat → Nat) (P : M2) (F : M2) (sz : Nat) (K : M2 → Prop) (hm : wp_X4_bringAir P F K) : Met l yX4_bringAir (wy yX4_bringAir cX4_bringAir 2 none) (rk 2 0 0) (pre vwCl D Z (TW Z a q P F) sz [.ref (a 0)]) (poV vwCl D Z (TW Z a q P) F sz K) 0 0 (va_A (TW Z a q P F) sz) := by
  refine rwv_of (wsF := (TW Z a q P)) (u0 := F) (by decide +kernel) (Nat.le_of_ble_eq_true rfl) rfl ?_
  intro p e s m args below meth c Q A hC hN hsz hnm hT hK hret ls hl
  have hx := hC.1
  have hb := hC.2.1
  have hl : lv_has ls 2 [(0, .ref (a 0))] := hl
  have hT : TS vwCl D (TW Z a q P F) A s.heap s.heap [] := hT
  have L2 : ∀ (n2 : Nat), ∀ (F : M2) (v1 : Int32) (H : Heap) (locs : List Loc) (ls : Array Slot), wl_X4_bringAir_2 P K n2 F v1 → TS vwCl D (TW Z a q P F) A s.heap H locs → lv_has ls 2 [(0, .ref (a 0)), (1, .int v1)] → W p l e (rk 2 0 0) s m args below meth c H locs 0 0 Q (F0 m 2 ls []) := by
    intro n2
    induction n2 with
    | zero =>
      intro F v1 H locs ls hm hT hl
      exact False.elim hm
    | succ n2 ih2 =>
      intro F v1 H locs ls hm hT hl
      refine lv_iload_n hx hb dX4_bringAir_2 rfl (lv_at hl 1 rfl) ?_
      refine lv_aload_n hx hb dX4_bringAir_3 rfl (lv_at hl 0 rfl) ?_
      refine gTW_tun_0 hC hK hT.1 wq_425 dX4_bringAir_4 ?_
      refine gTW_plan_2 hC hK hT.1 wq_298 dX4_bringAir_7 ?_
      refine lv_icmp_ge (tgt := 45) hx hb dX4_bringAir_10 (by decide) (fun c_10 => ?_) (fun c_10 => ?_)
      · have hm := hm.1 c_10
        exact hret 45 _ _ _ _ hm hT dX4_bringAir_45
      · have hm := hm.2 c_10
        refine lv_aload_n hx hb dX4_bringAir_13 rfl (lv_at hl 0 rfl) ?_
        refine lv_aload_n hx hb dX4_bringAir_14 rfl (lv_at hl 0 rfl) ?_
        refine gTW_tun_0 hC hK hT.1 wq_425 dX4_bringAir_15 ?_
        refine gTW_plan_9 hC hK hT.1 wq_320 dX4_bringAir_18 ?_
        refine lv_iload_n hx hb dX4_bringAir_21 rfl (lv_at hl 1 rfl) ?_
        refine w_at (q0 := 17) hC hN hK hT.1 wn_519 rfl (by decide) (by decide) hl.1 (Nat.le_of_ble_eq_true rfl) ⟨Nat.le_refl _, Nat.le_refl _⟩ dX4_bringAir_22 ?_
        refine lv_aload_n hx hb dX4_bringAir_25 rfl (lv_at hl 0 rfl) ?_
        refine gTW_tun_0 hC hK hT.1 wq_425 dX4_bringAir_26 ?_
        refine gTW_plan_10 hC hK hT.1 wq_322 dX4_bringAir_29 ?_
        refine lv_iload_n hx hb dX4_bringAir_32 rfl (lv_at hl 1 rfl) ?_
        refine w_at (q0 := 18) hC hN hK hT.1 wn_519 rfl (by decide) (by decide) hl.1 (Nat.le_of_ble_eq_true rfl) ⟨Nat.le_refl _, Nat.le_refl _⟩ dX4_bringAir_33 ?_
        refine k_X4_bringAirBy hC hN hK hT hm wq_781 (by decide) hl.1 (Nat.le_of_ble_eq_true rfl) ⟨Nat.le_refl _, Nat.le_refl _⟩ dX4_bringAir_36 (fun F_36 H locs hm hT => ?_)
        obtain ⟨v1_39, ev1_39⟩ : ∃ y : Int32, y = v1 + 1 := ⟨_, rfl⟩
        have hm := hm v1_39 ev1_39
        refine lv_iinc (v := v1_39) (lv' := [(1, .int v1_39), (0, .ref (a 0))]) hx hb dX4_bringAir_39 hl (k := 1) rfl (by rw [ev1_39]; rfl) (by decide) rfl (fun ls hl => ?_)
        refine lv_goto (tgt := 2) hx hb dX4_bringAir_42 (by decide) ?_
        exact ih2 _ _ _ _ _ hm hT (lv_sub hl [1, 0] rfl)
  refine lv_iconst (v := 0) hx hb dX4_bringAir_0 (by decide) ?_
  refine lv_istore_n (lv' := [(1, .int 0), (0, .ref (a 0))]) hx hb dX4_bringAir_1 rfl hl (by decide) rfl (fun ls hl => ?_)
  exact L2 _ _ _ _ _ _ hm hT (lv_sub hl [1, 0] rfl)
section KX4_bringAir
variable {p : Program} {l : Launch} {e : Env} {s : State} {m : MethodId} {args : Array Value} {below : List Frame} {meth : Method} {c : Code} {H H0 : Heap} {locs : List Loc} {cells slots : Nat} {Q : State → Prop} {R : Room} {rn mcR msR : Nat}
variable {pc : Nat} {ls : Array Slot} {rest : List Value} {A : Nat → Prop} {D : va_G}
variable {cc : ByteArray} {nL index : Nat} {own host : String}
theorem k_X4_bringAir {Z : Nat → ClassId} {a q : Nat → Nat} {P : M2} {F : M2} {K : M2 → Prop} (hC : CallFix p m c cc nL s args lw_g own) (hN : NW s) (hK : va_K D vwCl (tysG Z) s) (hT : TS vwCl D (TW Z a q P F) A H0 H locs) (hm : wp_X4_bringAir P F K) (hl : Cond.methodLink own index yX4_bringAir ∈ lw_g) (hlt : 2 < rn) (hsize : ls.size = nL) (hW : (rest.map fun v => v.category).sum ≤ 8) (hf : cells + 0 ≤ mcR ∧ slots + 0 ≤ msR) (hdg : decode cc pc = .ok (.invokevirtual index, 3)) (kk : ∀ (F1 : M2) (H1 : Heap) (locs1 : List Loc), K F1 → TS vwCl D (TW Z a q P F1) A H0 H1 locs1 → W p l e (rk rn mcR msR) s m args below meth c H1 locs1 cells slots Q (F0 m (pc + 3) ls (rest))) : W p l e (rk rn mcR msR) s m args below meth c H locs cells slots Q (F0 m pc ls (.ref (a 0) :: rest)) :=
  rwv_go (wsF := (TW Z a q P)) (u0 := F) (wr := []) (isC := cutTW) (isR := []) (pm := cutTW) (ws' := (TW Z a q P)) (runV (As := []) hC hN (c_X4_bringAir l D Z a q P F H.size K hm) mi_X4_bringAir hl wq_779 wq_23 hlt hT.1 hT.D' hK (q0 := 0) rfl rfl rfl hsize rfl hW hdg hf) (cutOkTW Z a q P F) hT (fun u H1 locs1 hk hT1 => kk u H1 locs1 hk hT1)
end KX4_bringAir
def wl_X4_walkBack_2 (P : M2) (K : M2 → Prop) : Nat → M2 → Int32 → Prop
  | 0, _, _ => False
  | n + 1, F, v1 => (((P 23 0) ≤ v1 → K F) ∧ (¬ (P 23 0) ≤ v1 → (∀ F_32 : M2, F_32 = up2 F 6 (putv (F 6) 6 v1 (mxv 0 ((atv (F 6) 6 v1) - 1))) → (∀ v1_35 : Int32, v1_35 = v1 + 1 → wl_X4_walkBack_2 P K n F_32 v1_35))))
def wp_X4_walkBack (P : M2) (F : M2) (K : M2 → Prop) : Prop := wl_X4_walkBack_2 P K fK F 0
set_option maxRecDepth 100000 in
set_option maxHeartbeats 4000000 in
theorem c_X4_walkBack (l : Launch) (D : va_G) (Z : Nat → ClassId) (a q : Nat → Nat) (P : M2) (F : M2) (sz : Nat) (K : M2 → Prop) (hm : wp_X4_walkBack P F K) : Met l yX4_walkBack (wy yX4_walkBack cX4_walkBack 2 none) (rk 1 0 0) (pre vwCl D Z (TW Z a q P F) sz [.ref (a 0)]) (poV vwCl D Z (TW Z a q P) F sz K) 0 0 (va_A (TW Z a q P F) sz) := by
  refine rwv_of (wsF := (TW Z a q P)) (u0 := F) (by decide +kernel) (Nat.le_of_ble_eq_true rfl) rfl ?_
  intro p e s m args below meth c Q A hC hN hsz hnm hT hK hret ls hl
  have hx := hC.1
  have hb := hC.2.1
  have hl : lv_has ls 2 [(0, .ref (a 0))] := hl
  have hT : TS vwCl D (TW Z a q P F) A s.heap s.heap [] := hT
  have L2 : ∀ (n2 : Nat), ∀ (F : M2) (v1 : Int32) (H : Heap) (locs : List Loc) (ls : Array Slot), wl_X4_walkBack_2 P K n2 F v1 → TS vwCl D (TW Z a q P F) A s.heap H locs → lv_has ls 2 [(0, .ref (a 0)), (1, .int v1)] → W p l e (rk 1 0 0) s m args below meth c H locs 0 0 Q (F0 m 2 ls []) := by
    intro n2
    induction n2 with
    | zero =>
      intro F v1 H locs ls hm hT hl
      exact False.elim hm
    | succ n2 ih2 =>
      intro F v1 H locs ls hm hT hl
      refine lv_iload_n hx hb dX4_walkBack_2 rfl (lv_at hl 1 rfl) ?_
      refine lv_aload_n hx hb dX4_walkBack_3 rfl (lv_at hl 0 rfl) ?_
      refine gTW_tun_0 hC hK hT.1 wq_425 dX4_walkBack_4 ?_
      refine gTW_plan_3 hC hK hT.1 wq_300 dX4_walkBack_7 ?_
      refine lv_icmp_ge (tgt := 41) hx hb dX4_walkBack_10 (by decide) (fun c_10 => ?_) (fun c_10 => ?_)
      · have hm := hm.1 c_10
        exact hret 41 _ _ _ _ hm hT dX4_walkBack_41
      · have hm := hm.2 c_10
        refine lv_aload_n hx hb dX4_walkBack_13 rfl (lv_at hl 0 rfl) ?_
        refine gTW_tun_6 hC hK hT.1 wq_437 dX4_walkBack_14 ?_
        refine lv_iload_n hx hb dX4_walkBack_17 rfl (lv_at hl 1 rfl) ?_
        refine lv_iconst (v := 0) hx hb dX4_walkBack_18 (by decide) ?_
        refine lv_aload_n hx hb dX4_walkBack_19 rfl (lv_at hl 0 rfl) ?_
        refine gTW_tun_6 hC hK hT.1 wq_437 dX4_walkBack_20 ?_
        refine lv_iload_n hx hb dX4_walkBack_23 rfl (lv_at hl 1 rfl) ?_
        refine w_at (q0 := 3) hC hN hK hT.1 wn_519 rfl (by decide) (by decide) hl.1 (Nat.le_of_ble_eq_true rfl) ⟨Nat.le_refl _, Nat.le_refl _⟩ dX4_walkBack_24 ?_
        refine lv_iconst (v := 1) hx hb dX4_walkBack_27 (by decide) ?_
        refine lv_isub hx hb dX4_walkBack_28 ?_
        refine w_max hC wq_698 (by decide) (Nat.le_of_ble_eq_true rfl) hl.1 ⟨Nat.le_refl _, Nat.le_refl _⟩ dX4_walkBack_29 ?_
        refine uTW_Twalk hC hN hK hT wn_684 (by decide) hl.1 (Nat.le_of_ble_eq_true rfl) ⟨Nat.le_refl _, Nat.le_refl _⟩ dX4_walkBack_32 (fun F_32 eF_32 H locs hT => ?_)
        have hm := hm F_32 eF_32
        obtain ⟨v1_35, ev1_35⟩ : ∃ y : Int32, y = v1 + 1 := ⟨_, rfl⟩
        have hm := hm v1_35 ev1_35
        refine lv_iinc (v := v1_35) (lv' := [(1, .int v1_35), (0, .ref (a 0))]) hx hb dX4_walkBack_35 hl (k := 1) rfl (by rw [ev1_35]; rfl) (by decide) rfl (fun ls hl => ?_)
        refine lv_goto (tgt := 2) hx hb dX4_walkBack_38 (by decide) ?_
        exact ih2 _ _ _ _ _ hm hT (lv_sub hl [1, 0] rfl)
  refine lv_iconst (v := 0) hx hb dX4_walkBack_0 (by decide) ?_
  refine lv_istore_n (lv' := [(1, .int 0), (0, .ref (a 0))]) hx hb dX4_walkBack_1 rfl hl (by decide) rfl (fun ls hl => ?_)
  exact L2 _ _ _ _ _ _ hm hT (lv_sub hl [1, 0] rfl)
section KX4_walkBack
variable {p : Program} {l : Launch} {e : Env} {s : State} {m : MethodId} {args : Array Value} {below : List Frame} {meth : Method} {c : Code} {H H0 : Heap} {locs : List Loc} {cells slots : Nat} {Q : State → Prop} {R : Room} {rn mcR msR : Nat}
variable {pc : Nat} {ls : Array Slot} {rest : List Value} {A : Nat → Prop} {D : va_G}
variable {cc : ByteArray} {nL index : Nat} {own host : String}
theorem k_X4_walkBack {Z : Nat → ClassId} {a q : Nat → Nat} {P : M2} {F : M2} {K : M2 → Prop} (hC : CallFix p m c cc nL s args lw_g own) (hN : NW s) (hK : va_K D vwCl (tysG Z) s) (hT : TS vwCl D (TW Z a q P F) A H0 H locs) (hm : wp_X4_walkBack P F K) (hl : Cond.methodLink own index yX4_walkBack ∈ lw_g) (hlt : 1 < rn) (hsize : ls.size = nL) (hW : (rest.map fun v => v.category).sum ≤ 8) (hf : cells + 0 ≤ mcR ∧ slots + 0 ≤ msR) (hdg : decode cc pc = .ok (.invokevirtual index, 3)) (kk : ∀ (F1 : M2) (H1 : Heap) (locs1 : List Loc), K F1 → TS vwCl D (TW Z a q P F1) A H0 H1 locs1 → W p l e (rk rn mcR msR) s m args below meth c H1 locs1 cells slots Q (F0 m (pc + 3) ls (rest))) : W p l e (rk rn mcR msR) s m args below meth c H locs cells slots Q (F0 m pc ls (.ref (a 0) :: rest)) :=
  rwv_go (wsF := (TW Z a q P)) (u0 := F) (wr := []) (isC := cutTW) (isR := []) (pm := cutTW) (ws' := (TW Z a q P)) (runV (As := []) hC hN (c_X4_walkBack l D Z a q P F H.size K hm) mi_X4_walkBack hl wq_790 wq_25 hlt hT.1 hT.D' hK (q0 := 0) rfl rfl rfl hsize rfl hW hdg hf) (cutOkTW Z a q P F) hT (fun u H1 locs1 hk hT1 => kk u H1 locs1 hk hT1)
end KX4_walkBack
def wl_X4_run_45 (P : M2) (C2 : M2 → Int32 → Int32 → Prop) (K : M2 → Prop) : Nat → M2 → Int32 → Int32 → Int32 → Prop
  | 0, _, _, _, _ => False
  | n + 1, F, v1, v2, v3 => (((P 24 0) ≤ v3 → wp_X4_spoilAir P F (fun F_80 => wp_X4_breathe P F_80 (fun F_84 => wp_X4_bringAir P F_84 (fun F_88 => wp_X4_walkBack P F_88 (fun F_92 => (∀ F_102 : M2, F_102 = up2 F_92 1 (fun _ => (F_92 1 0) + 1) → (∀ v2_105 : Int32, v2_105 = v2 + 1 → C2 F_102 v1 v2_105))))))) ∧ (¬ (P 24 0) ≤ v3 → ((¬ (atv (F 10) 8 v3) = 1 → (∀ v3_73 : Int32, v3_73 = v3 + 1 → wl_X4_run_45 P C2 K n F v1 v2 v3_73)) ∧ ((atv (F 10) 8 v3) = 1 → wp_X4_push P F v3 (fun F_70 => (∀ v3_73 : Int32, v3_73 = v3 + 1 → wl_X4_run_45 P C2 K n F_70 v1 v2 v3_73))))))
def wl_X4_run_13 (P : M2) (C2 : M2 → Int32 → Int32 → Prop) (K : M2 → Prop) : Nat → M2 → Int32 → Int32 → Int32 → Prop
  | 0, _, _, _, _ => False
  | n + 1, F, v1, v2, v3 => (((P 24 0) ≤ v3 → wl_X4_run_45 P C2 K fK F v1 v2 0) ∧ (¬ (P 24 0) ≤ v3 → wp_X4_goesIn P F v3 (fun r_26 F_26 => ((r_26 = 0 → (∀ v3_37 : Int32, v3_37 = v3 + 1 → wl_X4_run_13 P C2 K n F_26 v1 v2 v3_37)) ∧ (¬ r_26 = 0 → wp_X4_enter P F_26 v3 (fun F_34 => (∀ v3_37 : Int32, v3_37 = v3 + 1 → wl_X4_run_13 P C2 K n F_34 v1 v2 v3_37)))))))
def wl_X4_run_2 (P : M2) (K : M2 → Prop) : Nat → M2 → Int32 → Int32 → Prop
  | 0, _, _, _ => False
  | n + 1, F, v1, v2 => ((v1 ≤ v2 → K F) ∧ (¬ v1 ≤ v2 → wp_X4_chooseTurn P F (fun F_8 => wl_X4_run_13 P (wl_X4_run_2 P K n) K fK F_8 v1 v2 0)))
def wp_X4_run (P : M2) (F : M2) (x1 : Int32) (K : M2 → Prop) : Prop := wl_X4_run_2 P K fK F x1 0
set_option maxRecDepth 100000 in
set_option maxHeartbeats 4000000 in
theorem c_X4_run (l : Launch) (D : va_G) (Z : Nat → ClassId) (a q : Nat → Nat) (P : M2) (F : M2) (sz : Nat) (x1 : Int32) (K : M2 → Prop) (hm : wp_X4_run P F x1 K) : Met l yX4_run (wy yX4_run cX4_run 4 none) (rk 6 0 0) (pre vwCl D Z (TW Z a q P F) sz [.ref (a 0), .int x1]) (poV vwCl D Z (TW Z a q P) F sz K) 0 0 (va_A (TW Z a q P F) sz) := by
  refine rwv_of (wsF := (TW Z a q P)) (u0 := F) (by decide +kernel) (Nat.le_of_ble_eq_true rfl) rfl ?_
  intro p e s m args below meth c Q A hC hN hsz hnm hT hK hret ls hl
  have hx := hC.1
  have hb := hC.2.1
  have hl : lv_has ls 4 [(0, .ref (a 0)), (1, .int x1)] := hl
  have hT : TS vwCl D (TW Z a q P F) A s.heap s.heap [] := hT
  have L2 : ∀ (n2 : Nat), ∀ (F : M2) (v1 : Int32) (v2 : Int32) (H : Heap) (locs : List Loc) (ls : Array Slot), wl_X4_run_2 P K n2 F v1 v2 → TS vwCl D (TW Z a q P F) A s.heap H locs → lv_has ls 4 [(0, .ref (a 0)), (1, .int v1), (2, .int v2)] → W p l e (rk 6 0 0) s m args below meth c H locs 0 0 Q (F0 m 2 ls []) := by
    intro n2
    induction n2 with
    | zero =>
      intro F v1 v2 H locs ls hm hT hl
      exact False.elim hm
    | succ n2 ih2 =>
      have L45 : ∀ (n45 : Nat), ∀ (F : M2) (v1 : Int32) (v2 : Int32) (v3 : Int32) (H : Heap) (locs : List Loc) (ls : Array Slot), wl_X4_run_45 P (wl_X4_run_2 P K n2) K n45 F v1 v2 v3 → TS vwCl D (TW Z a q P F) A s.heap H locs → lv_has ls 4 [(0, .ref (a 0)), (1, .int v1), (2, .int v2), (3, .int v3)] → W p l e (rk 6 0 0) s m args below meth c H locs 0 0 Q (F0 m 45 ls []) := by
        intro n45
        induction n45 with
        | zero =>
          intro F v1 v2 v3 H locs ls hm hT hl
          exact False.elim hm
        | succ n45 ih45 =>
          intro F v1 v2 v3 H locs ls hm hT hl
          refine lv_iload_n hx hb dX4_run_45 rfl (lv_at hl 3 rfl) ?_
          refine lv_aload_n hx hb dX4_run_46 rfl (lv_at hl 0 rfl) ?_
          refine gTW_tun_0 hC hK hT.1 wq_425 dX4_run_47 ?_
          refine gTW_plan_4 hC hK hT.1 wq_304 dX4_run_50 ?_
          refine lv_icmp_ge (tgt := 79) hx hb dX4_run_53 (by decide) (fun c_53 => ?_) (fun c_53 => ?_)
          · have hm := hm.1 c_53
            refine lv_aload_n hx hb dX4_run_79 rfl (lv_at hl 0 rfl) ?_
            refine k_X4_spoilAir hC hN hK hT hm wq_762 (by decide) hl.1 (Nat.le_of_ble_eq_true rfl) ⟨Nat.le_refl _, Nat.le_refl _⟩ dX4_run_80 (fun F_80 H locs hm hT => ?_)
            refine lv_aload_n hx hb dX4_run_83 rfl (lv_at hl 0 rfl) ?_
            refine k_X4_breathe hC hN hK hT hm wq_766 (by decide) hl.1 (Nat.le_of_ble_eq_true rfl) ⟨Nat.le_refl _, Nat.le_refl _⟩ dX4_run_84 (fun F_84 H locs hm hT => ?_)
            refine lv_aload_n hx hb dX4_run_87 rfl (lv_at hl 0 rfl) ?_
            refine k_X4_bringAir hC hN hK hT hm wq_777 (by decide) hl.1 (Nat.le_of_ble_eq_true rfl) ⟨Nat.le_refl _, Nat.le_refl _⟩ dX4_run_88 (fun F_88 H locs hm hT => ?_)
            refine lv_aload_n hx hb dX4_run_91 rfl (lv_at hl 0 rfl) ?_
            refine k_X4_walkBack hC hN hK hT hm wq_788 (by decide) hl.1 (Nat.le_of_ble_eq_true rfl) ⟨Nat.le_refl _, Nat.le_refl _⟩ dX4_run_92 (fun F_92 H locs hm hT => ?_)
            refine lv_aload_n hx hb dX4_run_95 rfl (lv_at hl 0 rfl) ?_
            refine lv_dup hx hb dX4_run_96 rfl ?_
            refine gTW_tun_1 hC hK hT.1 wq_427 dX4_run_97 ?_
            refine lv_iconst (v := 1) hx hb dX4_run_100 (by decide) ?_
            refine lv_iadd hx hb dX4_run_101 ?_
            refine pTW_tun_1 hC hK hT wq_427 dX4_run_102 (fun F_102 eF_102 H locs hT => ?_)
            have hm := hm F_102 eF_102
            obtain ⟨v2_105, ev2_105⟩ : ∃ y : Int32, y = v2 + 1 := ⟨_, rfl⟩
            have hm := hm v2_105 ev2_105
            refine lv_iinc (v := v2_105) (lv' := [(2, .int v2_105), (0, .ref (a 0)), (1, .int v1), (3, .int v3)]) hx hb dX4_run_105 hl (k := 2) rfl (by rw [ev2_105]; rfl) (by decide) rfl (fun ls hl => ?_)
            refine lv_goto (tgt := 2) hx hb dX4_run_108 (by decide) ?_
            exact ih2 _ _ _ _ _ _ hm hT (lv_sub hl [1, 2, 0] rfl)
          · have hm := hm.2 c_53
            refine lv_aload_n hx hb dX4_run_56 rfl (lv_at hl 0 rfl) ?_
            refine gTW_tun_10 hC hK hT.1 wq_445 dX4_run_57 ?_
            refine lv_iload_n hx hb dX4_run_60 rfl (lv_at hl 3 rfl) ?_
            refine w_at (q0 := 7) hC hN hK hT.1 wn_519 rfl (by decide) (by decide) hl.1 (Nat.le_of_ble_eq_true rfl) ⟨Nat.le_refl _, Nat.le_refl _⟩ dX4_run_61 ?_
            refine lv_iconst (v := 1) hx hb dX4_run_64 (by decide) ?_
            refine lv_icmp_ne (tgt := 73) hx hb dX4_run_65 (by decide) (fun c_65 => ?_) (fun c_65 => ?_)
            · have hm := hm.1 c_65
              obtain ⟨v3_73, ev3_73⟩ : ∃ y : Int32, y = v3 + 1 := ⟨_, rfl⟩
              have hm := hm v3_73 ev3_73
              refine lv_iinc (v := v3_73) (lv' := [(3, .int v3_73), (0, .ref (a 0)), (1, .int v1), (2, .int v2)]) hx hb dX4_run_73 hl (k := 3) rfl (by rw [ev3_73]; rfl) (by decide) rfl (fun ls hl => ?_)
              refine lv_goto (tgt := 45) hx hb dX4_run_76 (by decide) ?_
              exact ih45 _ _ _ _ _ _ _ hm hT (lv_sub hl [1, 2, 3, 0] rfl)
            · have hm := hm.2 c_65
              refine lv_aload_n hx hb dX4_run_68 rfl (lv_at hl 0 rfl) ?_
              refine lv_iload_n hx hb dX4_run_69 rfl (lv_at hl 3 rfl) ?_
              refine k_X4_push hC hN hK hT hm wq_749 (by decide) hl.1 (Nat.le_of_ble_eq_true rfl) ⟨Nat.le_refl _, Nat.le_refl _⟩ dX4_run_70 (fun F_70 H locs hm hT => ?_)
              obtain ⟨v3_73, ev3_73⟩ : ∃ y : Int32, y = v3 + 1 := ⟨_, rfl⟩
              have hm := hm v3_73 ev3_73
              refine lv_iinc (v := v3_73) (lv' := [(3, .int v3_73), (0, .ref (a 0)), (1, .int v1), (2, .int v2)]) hx hb dX4_run_73 hl (k := 3) rfl (by rw [ev3_73]; rfl) (by decide) rfl (fun ls hl => ?_)
              refine lv_goto (tgt := 45) hx hb dX4_run_76 (by decide) ?_
              exact ih45 _ _ _ _ _ _ _ hm hT (lv_sub hl [1, 2, 3, 0] rfl)
      have L13 : ∀ (n13 : Nat), ∀ (F : M2) (v1 : Int32) (v2 : Int32) (v3 : Int32) (H : Heap) (locs : List Loc) (ls : Array Slot), wl_X4_run_13 P (wl_X4_run_2 P K n2) K n13 F v1 v2 v3 → TS vwCl D (TW Z a q P F) A s.heap H locs → lv_has ls 4 [(0, .ref (a 0)), (1, .int v1), (2, .int v2), (3, .int v3)] → W p l e (rk 6 0 0) s m args below meth c H locs 0 0 Q (F0 m 13 ls []) := by
        intro n13
        induction n13 with
        | zero =>
          intro F v1 v2 v3 H locs ls hm hT hl
          exact False.elim hm
        | succ n13 ih13 =>
          intro F v1 v2 v3 H locs ls hm hT hl
          refine lv_iload_n hx hb dX4_run_13 rfl (lv_at hl 3 rfl) ?_
          refine lv_aload_n hx hb dX4_run_14 rfl (lv_at hl 0 rfl) ?_
          refine gTW_tun_0 hC hK hT.1 wq_425 dX4_run_15 ?_
          refine gTW_plan_4 hC hK hT.1 wq_304 dX4_run_18 ?_
          refine lv_icmp_ge (tgt := 43) hx hb dX4_run_21 (by decide) (fun c_21 => ?_) (fun c_21 => ?_)
          · have hm := hm.1 c_21
            refine lv_iconst (v := 0) hx hb dX4_run_43 (by decide) ?_
            refine lv_istore_n (lv' := [(3, .int 0), (0, .ref (a 0)), (1, .int v1), (2, .int v2)]) hx hb dX4_run_44 rfl hl (by decide) rfl (fun ls hl => ?_)
            exact L45 _ _ _ _ _ _ _ _ hm hT (lv_sub hl [1, 2, 3, 0] rfl)
          · have hm := hm.2 c_21
            refine lv_aload_n hx hb dX4_run_24 rfl (lv_at hl 0 rfl) ?_
            refine lv_iload_n hx hb dX4_run_25 rfl (lv_at hl 3 rfl) ?_
            refine k_X4_goesIn hC hN hK hT hm wq_736 (by decide) hl.1 (Nat.le_of_ble_eq_true rfl) ⟨Nat.le_refl _, Nat.le_refl _⟩ dX4_run_26 (fun r_26 F_26 H locs hm hT => ?_)
            refine lv_if_eq (tgt := 37) hx hb dX4_run_29 (by decide) (fun c_29 => ?_) (fun c_29 => ?_)
            · have hm := hm.1 c_29
              obtain ⟨v3_37, ev3_37⟩ : ∃ y : Int32, y = v3 + 1 := ⟨_, rfl⟩
              have hm := hm v3_37 ev3_37
              refine lv_iinc (v := v3_37) (lv' := [(3, .int v3_37), (0, .ref (a 0)), (1, .int v1), (2, .int v2)]) hx hb dX4_run_37 hl (k := 3) rfl (by rw [ev3_37]; rfl) (by decide) rfl (fun ls hl => ?_)
              refine lv_goto (tgt := 13) hx hb dX4_run_40 (by decide) ?_
              exact ih13 _ _ _ _ _ _ _ hm hT (lv_sub hl [1, 2, 3, 0] rfl)
            · have hm := hm.2 c_29
              refine lv_aload_n hx hb dX4_run_32 rfl (lv_at hl 0 rfl) ?_
              refine lv_iload_n hx hb dX4_run_33 rfl (lv_at hl 3 rfl) ?_
              refine k_X4_enter hC hN hK hT hm wq_737 (by decide) hl.1 (Nat.le_of_ble_eq_true rfl) ⟨Nat.le_refl _, Nat.le_refl _⟩ dX4_run_34 (fun F_34 H locs hm hT => ?_)
              obtain ⟨v3_37, ev3_37⟩ : ∃ y : Int32, y = v3 + 1 := ⟨_, rfl⟩
              have hm := hm v3_37 ev3_37
              refine lv_iinc (v := v3_37) (lv' := [(3, .int v3_37), (0, .ref (a 0)), (1, .int v1), (2, .int v2)]) hx hb dX4_run_37 hl (k := 3) rfl (by rw [ev3_37]; rfl) (by decide) rfl (fun ls hl => ?_)
              refine lv_goto (tgt := 13) hx hb dX4_run_40 (by decide) ?_
              exact ih13 _ _ _ _ _ _ _ hm hT (lv_sub hl [1, 2, 3, 0] rfl)
      intro F v1 v2 H locs ls hm hT hl
      refine lv_iload_n hx hb dX4_run_2 rfl (lv_at hl 2 rfl) ?_
      refine lv_iload_n hx hb dX4_run_3 rfl (lv_at hl 1 rfl) ?_
      refine lv_icmp_ge (tgt := 111) hx hb dX4_run_4 (by decide) (fun c_4 => ?_) (fun c_4 => ?_)
      · have hm := hm.1 c_4
        exact hret 111 _ _ _ _ hm hT dX4_run_111
      · have hm := hm.2 c_4
        refine lv_aload_n hx hb dX4_run_7 rfl (lv_at hl 0 rfl) ?_
        refine k_X4_chooseTurn hC hN hK hT hm wq_732 (by decide) hl.1 (Nat.le_of_ble_eq_true rfl) ⟨Nat.le_refl _, Nat.le_refl _⟩ dX4_run_8 (fun F_8 H locs hm hT => ?_)
        refine lv_iconst (v := 0) hx hb dX4_run_11 (by decide) ?_
        refine lv_istore_n (lv' := [(3, .int 0), (0, .ref (a 0)), (1, .int v1), (2, .int v2)]) hx hb dX4_run_12 rfl hl (by decide) rfl (fun ls hl => ?_)
        exact L13 _ _ _ _ _ _ _ _ hm hT (lv_sub hl [1, 2, 3, 0] rfl)
  refine lv_iconst (v := 0) hx hb dX4_run_0 (by decide) ?_
  refine lv_istore_n (lv' := [(2, .int 0), (0, .ref (a 0)), (1, .int x1)]) hx hb dX4_run_1 rfl hl (by decide) rfl (fun ls hl => ?_)
  exact L2 _ _ _ _ _ _ _ hm hT (lv_sub hl [1, 2, 0] rfl)
section KX4_run
variable {p : Program} {l : Launch} {e : Env} {s : State} {m : MethodId} {args : Array Value} {below : List Frame} {meth : Method} {c : Code} {H H0 : Heap} {locs : List Loc} {cells slots : Nat} {Q : State → Prop} {R : Room} {rn mcR msR : Nat}
variable {pc : Nat} {ls : Array Slot} {rest : List Value} {A : Nat → Prop} {D : va_G}
variable {cc : ByteArray} {nL index : Nat} {own host : String}
end KX4_run
