theorem dX7_leave_0 : decode cX7_leave 0 = .ok (.aload_n 0, 1) := by decide +kernel
theorem dX7_leave_1 : decode cX7_leave 1 = .ok (.getfield 28, 3) := by decide +kernel
theorem dX7_leave_4 : decode cX7_leave 4 = .ok (.iload_n 1, 1) := by decide +kernel
theorem dX7_leave_5 : decode cX7_leave 5 = .ok (.iconst 2, 1) := by decide +kernel
theorem dX7_leave_6 : decode cX7_leave 6 = .ok (.iastore, 1) := by decide +kernel
theorem dX7_leave_7 : decode cX7_leave 7 = .ok (.aload_n 0, 1) := by decide +kernel
theorem dX7_leave_8 : decode cX7_leave 8 = .ok (.getfield 37, 3) := by decide +kernel
theorem dX7_leave_11 : decode cX7_leave 11 = .ok (.iload_n 1, 1) := by decide +kernel
theorem dX7_leave_12 : decode cX7_leave 12 = .ok (.iconst (-1), 1) := by decide +kernel
theorem dX7_leave_13 : decode cX7_leave 13 = .ok (.iastore, 1) := by decide +kernel
theorem dX7_leave_14 : decode cX7_leave 14 = .ok (.aload_n 0, 1) := by decide +kernel
theorem dX7_leave_15 : decode cX7_leave 15 = .ok (.getfield 40, 3) := by decide +kernel
theorem dX7_leave_18 : decode cX7_leave 18 = .ok (.iload_n 1, 1) := by decide +kernel
theorem dX7_leave_19 : decode cX7_leave 19 = .ok (.iconst 0, 1) := by decide +kernel
theorem dX7_leave_20 : decode cX7_leave 20 = .ok (.iastore, 1) := by decide +kernel
theorem dX7_leave_21 : decode cX7_leave 21 = .ok (.aload_n 0, 1) := by decide +kernel
theorem dX7_leave_22 : decode cX7_leave 22 = .ok (.getfield 43, 3) := by decide +kernel
theorem dX7_leave_25 : decode cX7_leave 25 = .ok (.iload_n 1, 1) := by decide +kernel
theorem dX7_leave_26 : decode cX7_leave 26 = .ok (.aload_n 0, 1) := by decide +kernel
theorem dX7_leave_27 : decode cX7_leave 27 = .ok (.getfield 59, 3) := by decide +kernel
theorem dX7_leave_30 : decode cX7_leave 30 = .ok (.iastore, 1) := by decide +kernel
theorem dX7_leave_31 : decode cX7_leave 31 = .ok (.aload_n 0, 1) := by decide +kernel
theorem dX7_leave_32 : decode cX7_leave 32 = .ok (.getfield 3, 3) := by decide +kernel
theorem dX7_leave_35 : decode cX7_leave 35 = .ok (.getfield 69, 3) := by decide +kernel
theorem dX7_leave_38 : decode cX7_leave 38 = .ok (.getfield 86, 3) := by decide +kernel
theorem dX7_leave_41 : decode cX7_leave 41 = .ok (.iload_n 1, 1) := by decide +kernel
theorem dX7_leave_42 : decode cX7_leave 42 = .ok (.aaload, 1) := by decide +kernel
theorem dX7_leave_43 : decode cX7_leave 43 = .ok (.astore_n 2, 1) := by decide +kernel
theorem dX7_leave_44 : decode cX7_leave 44 = .ok (.aload_n 2, 1) := by decide +kernel
theorem dX7_leave_45 : decode cX7_leave 45 = .ok (.arraylength, 1) := by decide +kernel
theorem dX7_leave_46 : decode cX7_leave 46 = .ok (.istore_n 3, 1) := by decide +kernel
theorem dX7_leave_47 : decode cX7_leave 47 = .ok (.iconst 0, 1) := by decide +kernel
theorem dX7_leave_48 : decode cX7_leave 48 = .ok (.istore 4, 2) := by decide +kernel
theorem dX7_leave_50 : decode cX7_leave 50 = .ok (.iload 4, 2) := by decide +kernel
theorem dX7_leave_52 : decode cX7_leave 52 = .ok (.iload_n 3, 1) := by decide +kernel
theorem dX7_leave_53 : decode cX7_leave 53 = .ok (.if_icmp .ge 24, 3) := by decide +kernel
theorem dX7_leave_56 : decode cX7_leave 56 = .ok (.aload_n 2, 1) := by decide +kernel
theorem dX7_leave_57 : decode cX7_leave 57 = .ok (.iload 4, 2) := by decide +kernel
theorem dX7_leave_59 : decode cX7_leave 59 = .ok (.iaload, 1) := by decide +kernel
theorem dX7_leave_60 : decode cX7_leave 60 = .ok (.istore 5, 2) := by decide +kernel
theorem dX7_leave_62 : decode cX7_leave 62 = .ok (.aload_n 0, 1) := by decide +kernel
theorem dX7_leave_63 : decode cX7_leave 63 = .ok (.getfield 25, 3) := by decide +kernel
theorem dX7_leave_66 : decode cX7_leave 66 = .ok (.iload 5, 2) := by decide +kernel
theorem dX7_leave_68 : decode cX7_leave 68 = .ok (.bipush 10, 2) := by decide +kernel
theorem dX7_leave_70 : decode cX7_leave 70 = .ok (.iastore, 1) := by decide +kernel
theorem dX7_leave_71 : decode cX7_leave 71 = .ok (.iinc 4 1, 3) := by decide +kernel
theorem dX7_leave_74 : decode cX7_leave 74 = .ok (.goto (-24), 3) := by decide +kernel
theorem dX7_leave_77 : decode cX7_leave 77 = .ok (.return_, 1) := by decide +kernel
theorem dX7_push_0 : decode cX7_push 0 = .ok (.iconst 0, 1) := by decide +kernel
theorem dX7_push_1 : decode cX7_push 1 = .ok (.istore_n 2, 1) := by decide +kernel
theorem dX7_push_2 : decode cX7_push 2 = .ok (.aload_n 0, 1) := by decide +kernel
theorem dX7_push_3 : decode cX7_push 3 = .ok (.getfield 3, 3) := by decide +kernel
theorem dX7_push_6 : decode cX7_push 6 = .ok (.getfield 69, 3) := by decide +kernel
theorem dX7_push_9 : decode cX7_push 9 = .ok (.getfield 86, 3) := by decide +kernel
theorem dX7_push_12 : decode cX7_push 12 = .ok (.iload_n 1, 1) := by decide +kernel
theorem dX7_push_13 : decode cX7_push 13 = .ok (.aaload, 1) := by decide +kernel
theorem dX7_push_14 : decode cX7_push 14 = .ok (.astore_n 3, 1) := by decide +kernel
theorem dX7_push_15 : decode cX7_push 15 = .ok (.aload_n 3, 1) := by decide +kernel
theorem dX7_push_16 : decode cX7_push 16 = .ok (.arraylength, 1) := by decide +kernel
theorem dX7_push_17 : decode cX7_push 17 = .ok (.istore 4, 2) := by decide +kernel
theorem dX7_push_19 : decode cX7_push 19 = .ok (.iconst 0, 1) := by decide +kernel
theorem dX7_push_20 : decode cX7_push 20 = .ok (.istore 5, 2) := by decide +kernel
theorem dX7_push_22 : decode cX7_push 22 = .ok (.iload 5, 2) := by decide +kernel
theorem dX7_push_24 : decode cX7_push 24 = .ok (.iload 4, 2) := by decide +kernel
theorem dX7_push_26 : decode cX7_push 26 = .ok (.if_icmp .ge 54, 3) := by decide +kernel
theorem dX7_push_29 : decode cX7_push 29 = .ok (.aload_n 3, 1) := by decide +kernel
theorem dX7_push_30 : decode cX7_push 30 = .ok (.iload 5, 2) := by decide +kernel
theorem dX7_push_32 : decode cX7_push 32 = .ok (.iaload, 1) := by decide +kernel
theorem dX7_push_33 : decode cX7_push 33 = .ok (.istore 6, 2) := by decide +kernel
theorem dX7_push_35 : decode cX7_push 35 = .ok (.iload_n 2, 1) := by decide +kernel
theorem dX7_push_36 : decode cX7_push 36 = .ok (.aload_n 0, 1) := by decide +kernel
theorem dX7_push_37 : decode cX7_push 37 = .ok (.getfield 19, 3) := by decide +kernel
theorem dX7_push_40 : decode cX7_push 40 = .ok (.iload 6, 2) := by decide +kernel
theorem dX7_push_42 : decode cX7_push 42 = .ok (.iaload, 1) := by decide +kernel
theorem dX7_push_43 : decode cX7_push 43 = .ok (.ifCond .le 28, 3) := by decide +kernel
theorem dX7_push_46 : decode cX7_push 46 = .ok (.iload 6, 2) := by decide +kernel
theorem dX7_push_48 : decode cX7_push 48 = .ok (.aload_n 0, 1) := by decide +kernel
theorem dX7_push_49 : decode cX7_push 49 = .ok (.getfield 46, 3) := by decide +kernel
theorem dX7_push_52 : decode cX7_push 52 = .ok (.if_icmp .eq 19, 3) := by decide +kernel
theorem dX7_push_55 : decode cX7_push 55 = .ok (.aload_n 0, 1) := by decide +kernel
theorem dX7_push_56 : decode cX7_push 56 = .ok (.getfield 3, 3) := by decide +kernel
theorem dX7_push_59 : decode cX7_push 59 = .ok (.getfield 69, 3) := by decide +kernel
theorem dX7_push_62 : decode cX7_push 62 = .ok (.getfield 136, 3) := by decide +kernel
theorem dX7_push_65 : decode cX7_push 65 = .ok (.iload 6, 2) := by decide +kernel
theorem dX7_push_67 : decode cX7_push 67 = .ok (.iaload, 1) := by decide +kernel
theorem dX7_push_68 : decode cX7_push 68 = .ok (.goto 4, 3) := by decide +kernel
theorem dX7_push_71 : decode cX7_push 71 = .ok (.iconst 0, 1) := by decide +kernel
theorem dX7_push_72 : decode cX7_push 72 = .ok (.iadd, 1) := by decide +kernel
theorem dX7_push_73 : decode cX7_push 73 = .ok (.istore_n 2, 1) := by decide +kernel
theorem dX7_push_74 : decode cX7_push 74 = .ok (.iinc 5 1, 3) := by decide +kernel
theorem dX7_push_77 : decode cX7_push 77 = .ok (.goto (-55), 3) := by decide +kernel
theorem dX7_push_80 : decode cX7_push 80 = .ok (.aload_n 0, 1) := by decide +kernel
theorem dX7_push_81 : decode cX7_push 81 = .ok (.getfield 40, 3) := by decide +kernel
theorem dX7_push_84 : decode cX7_push 84 = .ok (.iload_n 1, 1) := by decide +kernel
theorem dX7_push_85 : decode cX7_push 85 = .ok (.dup2, 1) := by decide +kernel
theorem dX7_push_86 : decode cX7_push 86 = .ok (.iaload, 1) := by decide +kernel
theorem dX7_push_87 : decode cX7_push 87 = .ok (.iload_n 2, 1) := by decide +kernel
theorem dX7_push_88 : decode cX7_push 88 = .ok (.aload_n 0, 1) := by decide +kernel
theorem dX7_push_89 : decode cX7_push 89 = .ok (.getfield 15, 3) := by decide +kernel
theorem dX7_push_92 : decode cX7_push 92 = .ok (.aload_n 0, 1) := by decide +kernel
theorem dX7_push_93 : decode cX7_push 93 = .ok (.getfield 37, 3) := by decide +kernel
theorem dX7_push_96 : decode cX7_push 96 = .ok (.iload_n 1, 1) := by decide +kernel
theorem dX7_push_97 : decode cX7_push 97 = .ok (.iaload, 1) := by decide +kernel
theorem dX7_push_98 : decode cX7_push 98 = .ok (.iaload, 1) := by decide +kernel
theorem dX7_push_99 : decode cX7_push 99 = .ok (.imul, 1) := by decide +kernel
theorem dX7_push_100 : decode cX7_push 100 = .ok (.bipush 100, 2) := by decide +kernel
theorem dX7_push_102 : decode cX7_push 102 = .ok (.idiv, 1) := by decide +kernel
theorem dX7_push_103 : decode cX7_push 103 = .ok (.iadd, 1) := by decide +kernel
theorem dX7_push_104 : decode cX7_push 104 = .ok (.iastore, 1) := by decide +kernel
theorem dX7_push_105 : decode cX7_push 105 = .ok (.aload_n 0, 1) := by decide +kernel
theorem dX7_push_106 : decode cX7_push 106 = .ok (.getfield 28, 3) := by decide +kernel
theorem dX7_push_109 : decode cX7_push 109 = .ok (.iload_n 1, 1) := by decide +kernel
theorem dX7_push_110 : decode cX7_push 110 = .ok (.iaload, 1) := by decide +kernel
theorem dX7_push_111 : decode cX7_push 111 = .ok (.iconst 1, 1) := by decide +kernel
theorem dX7_push_112 : decode cX7_push 112 = .ok (.if_icmp .ne 121, 3) := by decide +kernel
theorem dX7_push_115 : decode cX7_push 115 = .ok (.aload_n 0, 1) := by decide +kernel
theorem dX7_push_116 : decode cX7_push 116 = .ok (.getfield 40, 3) := by decide +kernel
theorem dX7_push_119 : decode cX7_push 119 = .ok (.iload_n 1, 1) := by decide +kernel
theorem dX7_push_120 : decode cX7_push 120 = .ok (.iaload, 1) := by decide +kernel
theorem dX7_push_121 : decode cX7_push 121 = .ok (.aload_n 0, 1) := by decide +kernel
theorem dX7_push_122 : decode cX7_push 122 = .ok (.getfield 3, 3) := by decide +kernel
theorem dX7_push_125 : decode cX7_push 125 = .ok (.getfield 69, 3) := by decide +kernel
theorem dX7_push_128 : decode cX7_push 128 = .ok (.getfield 146, 3) := by decide +kernel
theorem dX7_push_131 : decode cX7_push 131 = .ok (.iload_n 1, 1) := by decide +kernel
theorem dX7_push_132 : decode cX7_push 132 = .ok (.iaload, 1) := by decide +kernel
theorem dX7_push_133 : decode cX7_push 133 = .ok (.if_icmp .lt 100, 3) := by decide +kernel
theorem dX7_push_136 : decode cX7_push 136 = .ok (.aload_n 0, 1) := by decide +kernel
theorem dX7_push_137 : decode cX7_push 137 = .ok (.getfield 37, 3) := by decide +kernel
theorem dX7_push_140 : decode cX7_push 140 = .ok (.iload_n 1, 1) := by decide +kernel
theorem dX7_push_141 : decode cX7_push 141 = .ok (.iaload, 1) := by decide +kernel
theorem dX7_push_142 : decode cX7_push 142 = .ok (.aload_n 0, 1) := by decide +kernel
theorem dX7_push_143 : decode cX7_push 143 = .ok (.getfield 31, 3) := by decide +kernel
theorem dX7_push_146 : decode cX7_push 146 = .ok (.iload_n 1, 1) := by decide +kernel
theorem dX7_push_147 : decode cX7_push 147 = .ok (.iaload, 1) := by decide +kernel
theorem dX7_push_148 : decode cX7_push 148 = .ok (.ifCond .ne 7, 3) := by decide +kernel
theorem dX7_push_151 : decode cX7_push 151 = .ok (.iconst 1, 1) := by decide +kernel
theorem dX7_push_152 : decode cX7_push 152 = .ok (.goto 4, 3) := by decide +kernel
theorem dX7_push_155 : decode cX7_push 155 = .ok (.iconst (-1), 1) := by decide +kernel
theorem dX7_push_156 : decode cX7_push 156 = .ok (.iadd, 1) := by decide +kernel
theorem dX7_push_157 : decode cX7_push 157 = .ok (.istore_n 3, 1) := by decide +kernel
theorem dX7_push_158 : decode cX7_push 158 = .ok (.iload_n 3, 1) := by decide +kernel
theorem dX7_push_159 : decode cX7_push 159 = .ok (.ifCond .lt 17, 3) := by decide +kernel
theorem dX7_push_162 : decode cX7_push 162 = .ok (.iload_n 3, 1) := by decide +kernel
theorem dX7_push_163 : decode cX7_push 163 = .ok (.aload_n 0, 1) := by decide +kernel
theorem dX7_push_164 : decode cX7_push 164 = .ok (.getfield 3, 3) := by decide +kernel
theorem dX7_push_167 : decode cX7_push 167 = .ok (.getfield 69, 3) := by decide +kernel
theorem dX7_push_170 : decode cX7_push 170 = .ok (.getfield 73, 3) := by decide +kernel
theorem dX7_push_173 : decode cX7_push 173 = .ok (.if_icmp .ne 11, 3) := by decide +kernel
theorem dX7_push_176 : decode cX7_push 176 = .ok (.aload_n 0, 1) := by decide +kernel
theorem dX7_push_177 : decode cX7_push 177 = .ok (.iload_n 1, 1) := by decide +kernel
theorem dX7_push_178 : decode cX7_push 178 = .ok (.invokevirtual 149, 3) := by decide +kernel
theorem dX7_push_181 : decode cX7_push 181 = .ok (.goto 49, 3) := by decide +kernel
theorem dX7_push_184 : decode cX7_push 184 = .ok (.aload_n 0, 1) := by decide +kernel
theorem dX7_push_185 : decode cX7_push 185 = .ok (.iload_n 3, 1) := by decide +kernel
theorem dX7_push_186 : decode cX7_push 186 = .ok (.invokevirtual 153, 3) := by decide +kernel
theorem dX7_push_189 : decode cX7_push 189 = .ok (.iconst (-1), 1) := by decide +kernel
theorem dX7_push_190 : decode cX7_push 190 = .ok (.if_icmp .eq 13, 3) := by decide +kernel
theorem dX7_push_193 : decode cX7_push 193 = .ok (.aload_n 0, 1) := by decide +kernel
theorem dX7_push_194 : decode cX7_push 194 = .ok (.getfield 40, 3) := by decide +kernel
theorem dX7_push_197 : decode cX7_push 197 = .ok (.iload_n 1, 1) := by decide +kernel
theorem dX7_push_198 : decode cX7_push 198 = .ok (.iconst 0, 1) := by decide +kernel
theorem dX7_push_199 : decode cX7_push 199 = .ok (.iastore, 1) := by decide +kernel
theorem dX7_push_200 : decode cX7_push 200 = .ok (.goto 30, 3) := by decide +kernel
theorem dX7_push_203 : decode cX7_push 203 = .ok (.aload_n 0, 1) := by decide +kernel
theorem dX7_push_204 : decode cX7_push 204 = .ok (.getfield 40, 3) := by decide +kernel
theorem dX7_push_207 : decode cX7_push 207 = .ok (.iload_n 1, 1) := by decide +kernel
theorem dX7_push_208 : decode cX7_push 208 = .ok (.dup2, 1) := by decide +kernel
theorem dX7_push_209 : decode cX7_push 209 = .ok (.iaload, 1) := by decide +kernel
theorem dX7_push_210 : decode cX7_push 210 = .ok (.aload_n 0, 1) := by decide +kernel
theorem dX7_push_211 : decode cX7_push 211 = .ok (.getfield 3, 3) := by decide +kernel
theorem dX7_push_214 : decode cX7_push 214 = .ok (.getfield 69, 3) := by decide +kernel
theorem dX7_push_217 : decode cX7_push 217 = .ok (.getfield 146, 3) := by decide +kernel
theorem dX7_push_220 : decode cX7_push 220 = .ok (.iload_n 1, 1) := by decide +kernel
theorem dX7_push_221 : decode cX7_push 221 = .ok (.iaload, 1) := by decide +kernel
theorem dX7_push_222 : decode cX7_push 222 = .ok (.isub, 1) := by decide +kernel
theorem dX7_push_223 : decode cX7_push 223 = .ok (.iastore, 1) := by decide +kernel
theorem dX7_push_224 : decode cX7_push 224 = .ok (.aload_n 0, 1) := by decide +kernel
theorem dX7_push_225 : decode cX7_push 225 = .ok (.iload_n 1, 1) := by decide +kernel
theorem dX7_push_226 : decode cX7_push 226 = .ok (.iload_n 3, 1) := by decide +kernel
theorem dX7_push_227 : decode cX7_push 227 = .ok (.invokevirtual 142, 3) := by decide +kernel
theorem dX7_push_230 : decode cX7_push 230 = .ok (.goto (-125), 3) := by decide +kernel
theorem dX7_push_233 : decode cX7_push 233 = .ok (.return_, 1) := by decide +kernel
theorem dX7_breathe_0 : decode cX7_breathe 0 = .ok (.iconst 0, 1) := by decide +kernel
theorem dX7_breathe_1 : decode cX7_breathe 1 = .ok (.istore_n 1, 1) := by decide +kernel
theorem dX7_breathe_2 : decode cX7_breathe 2 = .ok (.iload_n 1, 1) := by decide +kernel
theorem dX7_breathe_3 : decode cX7_breathe 3 = .ok (.aload_n 0, 1) := by decide +kernel
theorem dX7_breathe_4 : decode cX7_breathe 4 = .ok (.getfield 3, 3) := by decide +kernel
theorem dX7_breathe_7 : decode cX7_breathe 7 = .ok (.getfield 69, 3) := by decide +kernel
theorem dX7_breathe_10 : decode cX7_breathe 10 = .ok (.getfield 83, 3) := by decide +kernel
theorem dX7_breathe_13 : decode cX7_breathe 13 = .ok (.if_icmp .ge 131, 3) := by decide +kernel
theorem dX7_breathe_16 : decode cX7_breathe 16 = .ok (.aload_n 0, 1) := by decide +kernel
theorem dX7_breathe_17 : decode cX7_breathe 17 = .ok (.getfield 28, 3) := by decide +kernel
theorem dX7_breathe_20 : decode cX7_breathe 20 = .ok (.iload_n 1, 1) := by decide +kernel
theorem dX7_breathe_21 : decode cX7_breathe 21 = .ok (.iaload, 1) := by decide +kernel
theorem dX7_breathe_22 : decode cX7_breathe 22 = .ok (.iconst 1, 1) := by decide +kernel
theorem dX7_breathe_23 : decode cX7_breathe 23 = .ok (.if_icmp .eq 6, 3) := by decide +kernel
theorem dX7_breathe_26 : decode cX7_breathe 26 = .ok (.goto 112, 3) := by decide +kernel
theorem dX7_breathe_29 : decode cX7_breathe 29 = .ok (.aload_n 0, 1) := by decide +kernel
theorem dX7_breathe_30 : decode cX7_breathe 30 = .ok (.getfield 37, 3) := by decide +kernel
theorem dX7_breathe_33 : decode cX7_breathe 33 = .ok (.iload_n 1, 1) := by decide +kernel
theorem dX7_breathe_34 : decode cX7_breathe 34 = .ok (.iaload, 1) := by decide +kernel
theorem dX7_breathe_35 : decode cX7_breathe 35 = .ok (.istore_n 2, 1) := by decide +kernel
theorem dX7_breathe_36 : decode cX7_breathe 36 = .ok (.aload_n 0, 1) := by decide +kernel
theorem dX7_breathe_37 : decode cX7_breathe 37 = .ok (.getfield 15, 3) := by decide +kernel
theorem dX7_breathe_40 : decode cX7_breathe 40 = .ok (.iload_n 2, 1) := by decide +kernel
theorem dX7_breathe_41 : decode cX7_breathe 41 = .ok (.iconst 0, 1) := by decide +kernel
theorem dX7_breathe_42 : decode cX7_breathe 42 = .ok (.aload_n 0, 1) := by decide +kernel
theorem dX7_breathe_43 : decode cX7_breathe 43 = .ok (.getfield 15, 3) := by decide +kernel
theorem dX7_breathe_46 : decode cX7_breathe 46 = .ok (.iload_n 2, 1) := by decide +kernel
theorem dX7_breathe_47 : decode cX7_breathe 47 = .ok (.iaload, 1) := by decide +kernel
theorem dX7_breathe_48 : decode cX7_breathe 48 = .ok (.bipush 6, 2) := by decide +kernel
theorem dX7_breathe_50 : decode cX7_breathe 50 = .ok (.isub, 1) := by decide +kernel
theorem dX7_breathe_51 : decode cX7_breathe 51 = .ok (.invokestatic 156, 3) := by decide +kernel
theorem dX7_breathe_54 : decode cX7_breathe 54 = .ok (.iastore, 1) := by decide +kernel
theorem dX7_breathe_55 : decode cX7_breathe 55 = .ok (.aload_n 0, 1) := by decide +kernel
theorem dX7_breathe_56 : decode cX7_breathe 56 = .ok (.getfield 15, 3) := by decide +kernel
theorem dX7_breathe_59 : decode cX7_breathe 59 = .ok (.iload_n 2, 1) := by decide +kernel
theorem dX7_breathe_60 : decode cX7_breathe 60 = .ok (.iaload, 1) := by decide +kernel
theorem dX7_breathe_61 : decode cX7_breathe 61 = .ok (.bipush 40, 2) := by decide +kernel
theorem dX7_breathe_63 : decode cX7_breathe 63 = .ok (.if_icmp .ge 20, 3) := by decide +kernel
theorem dX7_breathe_66 : decode cX7_breathe 66 = .ok (.iconst (-1), 1) := by decide +kernel
theorem dX7_breathe_67 : decode cX7_breathe 67 = .ok (.bipush 40, 2) := by decide +kernel
theorem dX7_breathe_69 : decode cX7_breathe 69 = .ok (.aload_n 0, 1) := by decide +kernel
theorem dX7_breathe_70 : decode cX7_breathe 70 = .ok (.getfield 15, 3) := by decide +kernel
theorem dX7_breathe_73 : decode cX7_breathe 73 = .ok (.iload_n 2, 1) := by decide +kernel
theorem dX7_breathe_74 : decode cX7_breathe 74 = .ok (.iaload, 1) := by decide +kernel
theorem dX7_breathe_75 : decode cX7_breathe 75 = .ok (.isub, 1) := by decide +kernel
theorem dX7_breathe_76 : decode cX7_breathe 76 = .ok (.bipush 10, 2) := by decide +kernel
theorem dX7_breathe_78 : decode cX7_breathe 78 = .ok (.idiv, 1) := by decide +kernel
theorem dX7_breathe_79 : decode cX7_breathe 79 = .ok (.isub, 1) := by decide +kernel
theorem dX7_breathe_80 : decode cX7_breathe 80 = .ok (.goto 4, 3) := by decide +kernel
theorem dX7_breathe_83 : decode cX7_breathe 83 = .ok (.iconst 1, 1) := by decide +kernel
theorem dX7_breathe_84 : decode cX7_breathe 84 = .ok (.istore_n 3, 1) := by decide +kernel
theorem dX7_breathe_85 : decode cX7_breathe 85 = .ok (.aload_n 0, 1) := by decide +kernel
theorem dX7_breathe_86 : decode cX7_breathe 86 = .ok (.getfield 3, 3) := by decide +kernel
theorem dX7_breathe_89 : decode cX7_breathe 89 = .ok (.getfield 69, 3) := by decide +kernel
theorem dX7_breathe_92 : decode cX7_breathe 92 = .ok (.getfield 86, 3) := by decide +kernel
theorem dX7_breathe_95 : decode cX7_breathe 95 = .ok (.iload_n 1, 1) := by decide +kernel
theorem dX7_breathe_96 : decode cX7_breathe 96 = .ok (.aaload, 1) := by decide +kernel
theorem dX7_breathe_97 : decode cX7_breathe 97 = .ok (.astore 4, 2) := by decide +kernel
theorem dX7_breathe_99 : decode cX7_breathe 99 = .ok (.aload 4, 2) := by decide +kernel
theorem dX7_breathe_101 : decode cX7_breathe 101 = .ok (.arraylength, 1) := by decide +kernel
theorem dX7_breathe_102 : decode cX7_breathe 102 = .ok (.istore 5, 2) := by decide +kernel
theorem dX7_breathe_104 : decode cX7_breathe 104 = .ok (.iconst 0, 1) := by decide +kernel
theorem dX7_breathe_105 : decode cX7_breathe 105 = .ok (.istore 6, 2) := by decide +kernel
theorem dX7_breathe_107 : decode cX7_breathe 107 = .ok (.iload 6, 2) := by decide +kernel
theorem dX7_breathe_109 : decode cX7_breathe 109 = .ok (.iload 5, 2) := by decide +kernel
theorem dX7_breathe_111 : decode cX7_breathe 111 = .ok (.if_icmp .ge 27, 3) := by decide +kernel
theorem dX7_breathe_114 : decode cX7_breathe 114 = .ok (.aload 4, 2) := by decide +kernel
theorem dX7_breathe_116 : decode cX7_breathe 116 = .ok (.iload 6, 2) := by decide +kernel
theorem dX7_breathe_118 : decode cX7_breathe 118 = .ok (.iaload, 1) := by decide +kernel
theorem dX7_breathe_119 : decode cX7_breathe 119 = .ok (.istore 7, 2) := by decide +kernel
theorem dX7_breathe_121 : decode cX7_breathe 121 = .ok (.aload_n 0, 1) := by decide +kernel
theorem dX7_breathe_122 : decode cX7_breathe 122 = .ok (.getfield 19, 3) := by decide +kernel
theorem dX7_breathe_125 : decode cX7_breathe 125 = .ok (.iload 7, 2) := by decide +kernel
theorem dX7_breathe_127 : decode cX7_breathe 127 = .ok (.dup2, 1) := by decide +kernel
theorem dX7_breathe_128 : decode cX7_breathe 128 = .ok (.iaload, 1) := by decide +kernel
theorem dX7_breathe_129 : decode cX7_breathe 129 = .ok (.iload_n 3, 1) := by decide +kernel
theorem dX7_breathe_130 : decode cX7_breathe 130 = .ok (.iadd, 1) := by decide +kernel
theorem dX7_breathe_131 : decode cX7_breathe 131 = .ok (.iastore, 1) := by decide +kernel
theorem dX7_breathe_132 : decode cX7_breathe 132 = .ok (.iinc 6 1, 3) := by decide +kernel
theorem dX7_breathe_135 : decode cX7_breathe 135 = .ok (.goto (-28), 3) := by decide +kernel
theorem dX7_breathe_138 : decode cX7_breathe 138 = .ok (.iinc 1 1, 3) := by decide +kernel
theorem dX7_breathe_141 : decode cX7_breathe 141 = .ok (.goto (-139), 3) := by decide +kernel
theorem dX7_breathe_144 : decode cX7_breathe 144 = .ok (.iconst 0, 1) := by decide +kernel
theorem dX7_breathe_145 : decode cX7_breathe 145 = .ok (.istore_n 1, 1) := by decide +kernel
theorem dX7_breathe_146 : decode cX7_breathe 146 = .ok (.iload_n 1, 1) := by decide +kernel
theorem dX7_breathe_147 : decode cX7_breathe 147 = .ok (.aload_n 0, 1) := by decide +kernel
theorem dX7_breathe_148 : decode cX7_breathe 148 = .ok (.getfield 3, 3) := by decide +kernel
theorem dX7_breathe_151 : decode cX7_breathe 151 = .ok (.getfield 69, 3) := by decide +kernel
theorem dX7_breathe_154 : decode cX7_breathe 154 = .ok (.getfield 94, 3) := by decide +kernel
theorem dX7_breathe_157 : decode cX7_breathe 157 = .ok (.if_icmp .ge 66, 3) := by decide +kernel
theorem dX7_breathe_160 : decode cX7_breathe 160 = .ok (.aload_n 0, 1) := by decide +kernel
theorem dX7_breathe_161 : decode cX7_breathe 161 = .ok (.getfield 19, 3) := by decide +kernel
theorem dX7_breathe_164 : decode cX7_breathe 164 = .ok (.iload_n 1, 1) := by decide +kernel
theorem dX7_breathe_165 : decode cX7_breathe 165 = .ok (.dup2, 1) := by decide +kernel
theorem dX7_breathe_166 : decode cX7_breathe 166 = .ok (.iaload, 1) := by decide +kernel
theorem dX7_breathe_167 : decode cX7_breathe 167 = .ok (.aload_n 0, 1) := by decide +kernel
theorem dX7_breathe_168 : decode cX7_breathe 168 = .ok (.iload_n 1, 1) := by decide +kernel
theorem dX7_breathe_169 : decode cX7_breathe 169 = .ok (.invokevirtual 120, 3) := by decide +kernel
theorem dX7_breathe_172 : decode cX7_breathe 172 = .ok (.iconst (-1), 1) := by decide +kernel
theorem dX7_breathe_173 : decode cX7_breathe 173 = .ok (.if_icmp .ne 7, 3) := by decide +kernel
theorem dX7_breathe_176 : decode cX7_breathe 176 = .ok (.iconst 2, 1) := by decide +kernel
theorem dX7_breathe_177 : decode cX7_breathe 177 = .ok (.goto 4, 3) := by decide +kernel
theorem dX7_breathe_180 : decode cX7_breathe 180 = .ok (.iconst 0, 1) := by decide +kernel
theorem dX7_breathe_181 : decode cX7_breathe 181 = .ok (.iadd, 1) := by decide +kernel
theorem dX7_breathe_182 : decode cX7_breathe 182 = .ok (.iastore, 1) := by decide +kernel
theorem dX7_breathe_183 : decode cX7_breathe 183 = .ok (.aload_n 0, 1) := by decide +kernel
theorem dX7_breathe_184 : decode cX7_breathe 184 = .ok (.getfield 19, 3) := by decide +kernel
theorem dX7_breathe_187 : decode cX7_breathe 187 = .ok (.iload_n 1, 1) := by decide +kernel
theorem dX7_breathe_188 : decode cX7_breathe 188 = .ok (.iconst 0, 1) := by decide +kernel
theorem dX7_breathe_189 : decode cX7_breathe 189 = .ok (.bipush 10, 2) := by decide +kernel
theorem dX7_breathe_191 : decode cX7_breathe 191 = .ok (.aload_n 0, 1) := by decide +kernel
theorem dX7_breathe_192 : decode cX7_breathe 192 = .ok (.getfield 3, 3) := by decide +kernel
theorem dX7_breathe_195 : decode cX7_breathe 195 = .ok (.getfield 69, 3) := by decide +kernel
theorem dX7_breathe_198 : decode cX7_breathe 198 = .ok (.getfield 78, 3) := by decide +kernel
theorem dX7_breathe_201 : decode cX7_breathe 201 = .ok (.iload_n 1, 1) := by decide +kernel
theorem dX7_breathe_202 : decode cX7_breathe 202 = .ok (.iaload, 1) := by decide +kernel
theorem dX7_breathe_203 : decode cX7_breathe 203 = .ok (.imul, 1) := by decide +kernel
theorem dX7_breathe_204 : decode cX7_breathe 204 = .ok (.aload_n 0, 1) := by decide +kernel
theorem dX7_breathe_205 : decode cX7_breathe 205 = .ok (.getfield 19, 3) := by decide +kernel
theorem dX7_breathe_208 : decode cX7_breathe 208 = .ok (.iload_n 1, 1) := by decide +kernel
theorem dX7_breathe_209 : decode cX7_breathe 209 = .ok (.iaload, 1) := by decide +kernel
theorem dX7_breathe_210 : decode cX7_breathe 210 = .ok (.invokestatic 161, 3) := by decide +kernel
theorem dX7_breathe_213 : decode cX7_breathe 213 = .ok (.invokestatic 156, 3) := by decide +kernel
theorem dX7_breathe_216 : decode cX7_breathe 216 = .ok (.iastore, 1) := by decide +kernel
theorem dX7_breathe_217 : decode cX7_breathe 217 = .ok (.iinc 1 1, 3) := by decide +kernel
theorem dX7_breathe_220 : decode cX7_breathe 220 = .ok (.goto (-74), 3) := by decide +kernel
theorem dX7_breathe_223 : decode cX7_breathe 223 = .ok (.return_, 1) := by decide +kernel
theorem dX7_draw_0 : decode cX7_draw 0 = .ok (.iconst 0, 1) := by decide +kernel
theorem dX7_draw_1 : decode cX7_draw 1 = .ok (.istore_n 2, 1) := by decide +kernel
theorem dX7_draw_2 : decode cX7_draw 2 = .ok (.iload_n 2, 1) := by decide +kernel
theorem dX7_draw_3 : decode cX7_draw 3 = .ok (.aload_n 0, 1) := by decide +kernel
theorem dX7_draw_4 : decode cX7_draw 4 = .ok (.getfield 3, 3) := by decide +kernel
theorem dX7_draw_7 : decode cX7_draw 7 = .ok (.getfield 69, 3) := by decide +kernel
theorem dX7_draw_10 : decode cX7_draw 10 = .ok (.getfield 73, 3) := by decide +kernel
theorem dX7_draw_13 : decode cX7_draw 13 = .ok (.if_icmp .ge 65, 3) := by decide +kernel
theorem dX7_draw_16 : decode cX7_draw 16 = .ok (.aload_n 0, 1) := by decide +kernel
theorem dX7_draw_17 : decode cX7_draw 17 = .ok (.getfield 3, 3) := by decide +kernel
theorem dX7_draw_20 : decode cX7_draw 20 = .ok (.getfield 69, 3) := by decide +kernel
theorem dX7_draw_23 : decode cX7_draw 23 = .ok (.getfield 164, 3) := by decide +kernel
theorem dX7_draw_26 : decode cX7_draw 26 = .ok (.iload_n 1, 1) := by decide +kernel
theorem dX7_draw_27 : decode cX7_draw 27 = .ok (.iaload, 1) := by decide +kernel
theorem dX7_draw_28 : decode cX7_draw 28 = .ok (.iconst 2, 1) := by decide +kernel
theorem dX7_draw_29 : decode cX7_draw 29 = .ok (.iload_n 2, 1) := by decide +kernel
theorem dX7_draw_30 : decode cX7_draw 30 = .ok (.aload_n 0, 1) := by decide +kernel
theorem dX7_draw_31 : decode cX7_draw 31 = .ok (.getfield 3, 3) := by decide +kernel
theorem dX7_draw_34 : decode cX7_draw 34 = .ok (.getfield 69, 3) := by decide +kernel
theorem dX7_draw_37 : decode cX7_draw 37 = .ok (.getfield 167, 3) := by decide +kernel
theorem dX7_draw_40 : decode cX7_draw 40 = .ok (.iload_n 1, 1) := by decide +kernel
theorem dX7_draw_41 : decode cX7_draw 41 = .ok (.iaload, 1) := by decide +kernel
theorem dX7_draw_42 : decode cX7_draw 42 = .ok (.isub, 1) := by decide +kernel
theorem dX7_draw_43 : decode cX7_draw 43 = .ok (.invokestatic 170, 3) := by decide +kernel
theorem dX7_draw_46 : decode cX7_draw 46 = .ok (.imul, 1) := by decide +kernel
theorem dX7_draw_47 : decode cX7_draw 47 = .ok (.isub, 1) := by decide +kernel
theorem dX7_draw_48 : decode cX7_draw 48 = .ok (.istore_n 3, 1) := by decide +kernel
theorem dX7_draw_49 : decode cX7_draw 49 = .ok (.iload_n 3, 1) := by decide +kernel
theorem dX7_draw_50 : decode cX7_draw 50 = .ok (.ifCond .le 22, 3) := by decide +kernel
theorem dX7_draw_53 : decode cX7_draw 53 = .ok (.aload_n 0, 1) := by decide +kernel
theorem dX7_draw_54 : decode cX7_draw 54 = .ok (.getfield 15, 3) := by decide +kernel
theorem dX7_draw_57 : decode cX7_draw 57 = .ok (.iload_n 2, 1) := by decide +kernel
theorem dX7_draw_58 : decode cX7_draw 58 = .ok (.bipush 100, 2) := by decide +kernel
theorem dX7_draw_60 : decode cX7_draw 60 = .ok (.aload_n 0, 1) := by decide +kernel
theorem dX7_draw_61 : decode cX7_draw 61 = .ok (.getfield 15, 3) := by decide +kernel
theorem dX7_draw_64 : decode cX7_draw 64 = .ok (.iload_n 2, 1) := by decide +kernel
theorem dX7_draw_65 : decode cX7_draw 65 = .ok (.iaload, 1) := by decide +kernel
theorem dX7_draw_66 : decode cX7_draw 66 = .ok (.iload_n 3, 1) := by decide +kernel
theorem dX7_draw_67 : decode cX7_draw 67 = .ok (.iadd, 1) := by decide +kernel
theorem dX7_draw_68 : decode cX7_draw 68 = .ok (.invokestatic 161, 3) := by decide +kernel
theorem dX7_draw_71 : decode cX7_draw 71 = .ok (.iastore, 1) := by decide +kernel
theorem dX7_draw_72 : decode cX7_draw 72 = .ok (.iinc 2 1, 3) := by decide +kernel
theorem dX7_draw_75 : decode cX7_draw 75 = .ok (.goto (-73), 3) := by decide +kernel
theorem dX7_draw_78 : decode cX7_draw 78 = .ok (.return_, 1) := by decide +kernel
theorem dX7_pass_0 : decode cX7_pass 0 = .ok (.aload_n 0, 1) := by decide +kernel
theorem dX7_pass_1 : decode cX7_pass 1 = .ok (.invokevirtual 173, 3) := by decide +kernel
theorem dX7_pass_4 : decode cX7_pass 4 = .ok (.iconst 0, 1) := by decide +kernel
theorem dX7_pass_5 : decode cX7_pass 5 = .ok (.istore_n 1, 1) := by decide +kernel
theorem dX7_pass_6 : decode cX7_pass 6 = .ok (.iload_n 1, 1) := by decide +kernel
theorem dX7_pass_7 : decode cX7_pass 7 = .ok (.aload_n 0, 1) := by decide +kernel
theorem dX7_pass_8 : decode cX7_pass 8 = .ok (.getfield 3, 3) := by decide +kernel
theorem dX7_pass_11 : decode cX7_pass 11 = .ok (.getfield 69, 3) := by decide +kernel
theorem dX7_pass_14 : decode cX7_pass 14 = .ok (.getfield 83, 3) := by decide +kernel
theorem dX7_pass_17 : decode cX7_pass 17 = .ok (.if_icmp .ge 14, 3) := by decide +kernel
theorem dX7_pass_20 : decode cX7_pass 20 = .ok (.aload_n 0, 1) := by decide +kernel
theorem dX7_pass_21 : decode cX7_pass 21 = .ok (.iload_n 1, 1) := by decide +kernel
theorem dX7_pass_22 : decode cX7_pass 22 = .ok (.invokevirtual 176, 3) := by decide +kernel
theorem dX7_pass_25 : decode cX7_pass 25 = .ok (.iinc 1 1, 3) := by decide +kernel
theorem dX7_pass_28 : decode cX7_pass 28 = .ok (.goto (-22), 3) := by decide +kernel
theorem dX7_pass_31 : decode cX7_pass 31 = .ok (.iconst 0, 1) := by decide +kernel
theorem dX7_pass_32 : decode cX7_pass 32 = .ok (.istore_n 1, 1) := by decide +kernel
theorem dX7_pass_33 : decode cX7_pass 33 = .ok (.iload_n 1, 1) := by decide +kernel
theorem dX7_pass_34 : decode cX7_pass 34 = .ok (.aload_n 0, 1) := by decide +kernel
theorem dX7_pass_35 : decode cX7_pass 35 = .ok (.getfield 3, 3) := by decide +kernel
theorem dX7_pass_38 : decode cX7_pass 38 = .ok (.getfield 69, 3) := by decide +kernel
theorem dX7_pass_41 : decode cX7_pass 41 = .ok (.getfield 83, 3) := by decide +kernel
theorem dX7_pass_44 : decode cX7_pass 44 = .ok (.if_icmp .ge 24, 3) := by decide +kernel
theorem dX7_pass_47 : decode cX7_pass 47 = .ok (.aload_n 0, 1) := by decide +kernel
theorem dX7_pass_48 : decode cX7_pass 48 = .ok (.getfield 28, 3) := by decide +kernel
theorem dX7_pass_51 : decode cX7_pass 51 = .ok (.iload_n 1, 1) := by decide +kernel
theorem dX7_pass_52 : decode cX7_pass 52 = .ok (.iaload, 1) := by decide +kernel
theorem dX7_pass_53 : decode cX7_pass 53 = .ok (.iconst 1, 1) := by decide +kernel
theorem dX7_pass_54 : decode cX7_pass 54 = .ok (.if_icmp .ne 8, 3) := by decide +kernel
theorem dX7_pass_57 : decode cX7_pass 57 = .ok (.aload_n 0, 1) := by decide +kernel
theorem dX7_pass_58 : decode cX7_pass 58 = .ok (.iload_n 1, 1) := by decide +kernel
theorem dX7_pass_59 : decode cX7_pass 59 = .ok (.invokevirtual 179, 3) := by decide +kernel
theorem dX7_pass_62 : decode cX7_pass 62 = .ok (.iinc 1 1, 3) := by decide +kernel
theorem dX7_pass_65 : decode cX7_pass 65 = .ok (.goto (-32), 3) := by decide +kernel
theorem dX7_pass_68 : decode cX7_pass 68 = .ok (.aload_n 0, 1) := by decide +kernel
theorem dX7_pass_69 : decode cX7_pass 69 = .ok (.invokevirtual 182, 3) := by decide +kernel
theorem dX7_pass_72 : decode cX7_pass 72 = .ok (.iconst 0, 1) := by decide +kernel
theorem dX7_pass_73 : decode cX7_pass 73 = .ok (.istore_n 1, 1) := by decide +kernel
theorem dX7_pass_74 : decode cX7_pass 74 = .ok (.iload_n 1, 1) := by decide +kernel
theorem dX7_pass_75 : decode cX7_pass 75 = .ok (.aload_n 0, 1) := by decide +kernel
theorem dX7_pass_76 : decode cX7_pass 76 = .ok (.getfield 3, 3) := by decide +kernel
theorem dX7_pass_79 : decode cX7_pass 79 = .ok (.getfield 69, 3) := by decide +kernel
theorem dX7_pass_82 : decode cX7_pass 82 = .ok (.getfield 185, 3) := by decide +kernel
theorem dX7_pass_85 : decode cX7_pass 85 = .ok (.if_icmp .ge 14, 3) := by decide +kernel
theorem dX7_pass_88 : decode cX7_pass 88 = .ok (.aload_n 0, 1) := by decide +kernel
theorem dX7_pass_89 : decode cX7_pass 89 = .ok (.iload_n 1, 1) := by decide +kernel
theorem dX7_pass_90 : decode cX7_pass 90 = .ok (.invokevirtual 188, 3) := by decide +kernel
theorem dX7_pass_93 : decode cX7_pass 93 = .ok (.iinc 1 1, 3) := by decide +kernel
theorem dX7_pass_96 : decode cX7_pass 96 = .ok (.goto (-22), 3) := by decide +kernel
theorem dX7_pass_99 : decode cX7_pass 99 = .ok (.iconst 0, 1) := by decide +kernel
theorem dX7_pass_100 : decode cX7_pass 100 = .ok (.istore_n 1, 1) := by decide +kernel
theorem dX7_pass_101 : decode cX7_pass 101 = .ok (.iload_n 1, 1) := by decide +kernel
theorem dX7_pass_102 : decode cX7_pass 102 = .ok (.aload_n 0, 1) := by decide +kernel
theorem dX7_pass_103 : decode cX7_pass 103 = .ok (.getfield 3, 3) := by decide +kernel
theorem dX7_pass_106 : decode cX7_pass 106 = .ok (.getfield 69, 3) := by decide +kernel
theorem dX7_pass_109 : decode cX7_pass 109 = .ok (.getfield 94, 3) := by decide +kernel
theorem dX7_pass_112 : decode cX7_pass 112 = .ok (.if_icmp .ge 27, 3) := by decide +kernel
theorem dX7_pass_115 : decode cX7_pass 115 = .ok (.aload_n 0, 1) := by decide +kernel
theorem dX7_pass_116 : decode cX7_pass 116 = .ok (.getfield 25, 3) := by decide +kernel
theorem dX7_pass_119 : decode cX7_pass 119 = .ok (.iload_n 1, 1) := by decide +kernel
theorem dX7_pass_120 : decode cX7_pass 120 = .ok (.iconst 0, 1) := by decide +kernel
theorem dX7_pass_121 : decode cX7_pass 121 = .ok (.aload_n 0, 1) := by decide +kernel
theorem dX7_pass_122 : decode cX7_pass 122 = .ok (.getfield 25, 3) := by decide +kernel
theorem dX7_pass_125 : decode cX7_pass 125 = .ok (.iload_n 1, 1) := by decide +kernel
theorem dX7_pass_126 : decode cX7_pass 126 = .ok (.iaload, 1) := by decide +kernel
theorem dX7_pass_127 : decode cX7_pass 127 = .ok (.iconst 1, 1) := by decide +kernel
theorem dX7_pass_128 : decode cX7_pass 128 = .ok (.isub, 1) := by decide +kernel
theorem dX7_pass_129 : decode cX7_pass 129 = .ok (.invokestatic 156, 3) := by decide +kernel
theorem dX7_pass_132 : decode cX7_pass 132 = .ok (.iastore, 1) := by decide +kernel
theorem dX7_pass_133 : decode cX7_pass 133 = .ok (.iinc 1 1, 3) := by decide +kernel
theorem dX7_pass_136 : decode cX7_pass 136 = .ok (.goto (-35), 3) := by decide +kernel
theorem dX7_pass_139 : decode cX7_pass 139 = .ok (.aload_n 0, 1) := by decide +kernel
theorem dX7_pass_140 : decode cX7_pass 140 = .ok (.dup, 1) := by decide +kernel
theorem dX7_pass_141 : decode cX7_pass 141 = .ok (.getfield 59, 3) := by decide +kernel
theorem dX7_pass_144 : decode cX7_pass 144 = .ok (.iconst 1, 1) := by decide +kernel
theorem dX7_pass_145 : decode cX7_pass 145 = .ok (.iadd, 1) := by decide +kernel
theorem dX7_pass_146 : decode cX7_pass 146 = .ok (.putfield 59, 3) := by decide +kernel
theorem dX7_pass_149 : decode cX7_pass 149 = .ok (.return_, 1) := by decide +kernel
theorem dX7_pass__0 : decode cX7_pass_ 0 = .ok (.iconst 0, 1) := by decide +kernel
theorem dX7_pass__1 : decode cX7_pass_ 1 = .ok (.istore_n 2, 1) := by decide +kernel
theorem dX7_pass__2 : decode cX7_pass_ 2 = .ok (.iload_n 2, 1) := by decide +kernel
theorem dX7_pass__3 : decode cX7_pass_ 3 = .ok (.iload_n 1, 1) := by decide +kernel
theorem dX7_pass__4 : decode cX7_pass_ 4 = .ok (.if_icmp .ge 13, 3) := by decide +kernel
theorem dX7_pass__7 : decode cX7_pass_ 7 = .ok (.aload_n 0, 1) := by decide +kernel
theorem dX7_pass__8 : decode cX7_pass_ 8 = .ok (.invokevirtual 191, 3) := by decide +kernel
theorem dX7_pass__11 : decode cX7_pass_ 11 = .ok (.iinc 2 1, 3) := by decide +kernel
theorem dX7_pass__14 : decode cX7_pass_ 14 = .ok (.goto (-12), 3) := by decide +kernel
theorem dX7_pass__17 : decode cX7_pass_ 17 = .ok (.aload_n 0, 1) := by decide +kernel
theorem dX7_pass__18 : decode cX7_pass_ 18 = .ok (.areturn, 1) := by decide +kernel
theorem dX7_counted_0 : decode cX7_counted 0 = .ok (.iload_n 1, 1) := by decide +kernel
theorem dX7_counted_1 : decode cX7_counted 1 = .ok (.tableswitch 54 8 11 #[31, 37, 43, 49], 31) := by decide +kernel
theorem dX7_counted_32 : decode cX7_counted 32 = .ok (.aload_n 0, 1) := by decide +kernel
theorem dX7_counted_33 : decode cX7_counted 33 = .ok (.iconst 0, 1) := by decide +kernel
theorem dX7_counted_34 : decode cX7_counted 34 = .ok (.invokevirtual 194, 3) := by decide +kernel
theorem dX7_counted_37 : decode cX7_counted 37 = .ok (.ireturn, 1) := by decide +kernel
theorem dX7_counted_38 : decode cX7_counted 38 = .ok (.aload_n 0, 1) := by decide +kernel
theorem dX7_counted_39 : decode cX7_counted 39 = .ok (.iconst 1, 1) := by decide +kernel
theorem dX7_counted_40 : decode cX7_counted 40 = .ok (.invokevirtual 194, 3) := by decide +kernel
theorem dX7_counted_43 : decode cX7_counted 43 = .ok (.ireturn, 1) := by decide +kernel
theorem dX7_counted_44 : decode cX7_counted 44 = .ok (.aload_n 0, 1) := by decide +kernel
theorem dX7_counted_45 : decode cX7_counted 45 = .ok (.iconst 2, 1) := by decide +kernel
theorem dX7_counted_46 : decode cX7_counted 46 = .ok (.invokevirtual 194, 3) := by decide +kernel
theorem dX7_counted_49 : decode cX7_counted 49 = .ok (.ireturn, 1) := by decide +kernel
theorem dX7_counted_50 : decode cX7_counted 50 = .ok (.aload_n 0, 1) := by decide +kernel
theorem dX7_counted_51 : decode cX7_counted 51 = .ok (.invokevirtual 197, 3) := by decide +kernel
theorem dX7_counted_54 : decode cX7_counted 54 = .ok (.ireturn, 1) := by decide +kernel
theorem dX7_counted_55 : decode cX7_counted 55 = .ok (.aload_n 0, 1) := by decide +kernel
theorem dX7_counted_56 : decode cX7_counted 56 = .ok (.getfield 3, 3) := by decide +kernel
theorem dX7_counted_59 : decode cX7_counted 59 = .ok (.getfield 69, 3) := by decide +kernel
theorem dX7_counted_62 : decode cX7_counted 62 = .ok (.getfield 94, 3) := by decide +kernel
theorem dX7_counted_65 : decode cX7_counted 65 = .ok (.aload_n 0, 1) := by decide +kernel
theorem dX7_counted_66 : decode cX7_counted 66 = .ok (.iconst (-1), 1) := by decide +kernel
theorem dX7_counted_67 : decode cX7_counted 67 = .ok (.invokevirtual 201, 3) := by decide +kernel
theorem dX7_counted_70 : decode cX7_counted 70 = .ok (.isub, 1) := by decide +kernel
theorem dX7_counted_71 : decode cX7_counted 71 = .ok (.ireturn, 1) := by decide +kernel
theorem mi_X7_leave : MInfo yX7_leave cX7_leave 6 none 1 := ⟨wq_1904, wq_137, by decide, ⟨by decide +kernel, by decide +kernel, by decide +kernel⟩, by decide +kernel⟩
theorem mi_X7_push : MInfo yX7_push cX7_push 7 none 1 := ⟨wq_1900, wq_137, by decide, ⟨by decide +kernel, by decide +kernel, by decide +kernel⟩, by decide +kernel⟩
theorem mi_X7_breathe : MInfo yX7_breathe cX7_breathe 8 none 0 := ⟨wq_1909, wq_137, by decide, ⟨by decide +kernel, by decide +kernel, by decide +kernel⟩, by decide +kernel⟩
theorem mi_X7_draw : MInfo yX7_draw cX7_draw 4 none 1 := ⟨wq_1915, wq_137, by decide, ⟨by decide +kernel, by decide +kernel, by decide +kernel⟩, by decide +kernel⟩
theorem mi_X7_pass : MInfo yX7_pass cX7_pass 2 none 0 := ⟨wq_1883, wq_137, by decide, ⟨by decide +kernel, by decide +kernel, by decide +kernel⟩, by decide +kernel⟩
theorem mi_X7_pass_ : MInfo yX7_pass_ cX7_pass_ 3 (some (.object "TunnelLeggersModel$State")) 1 := ⟨wq_1879, wq_137, by decide, ⟨by decide +kernel, by decide +kernel, by decide +kernel⟩, by decide +kernel⟩
theorem mi_X7_counted : MInfo yX7_counted cX7_counted 2 (some .int) 1 := ⟨wq_1727, wq_137, by decide, ⟨by decide +kernel, by decide +kernel, by decide +kernel⟩, by decide +kernel⟩
def wl_X7_leave_50 (N : M2) (P : M2) (K : M2 → Prop) : Nat → M2 → Int32 → Int32 → Int32 → Prop
  | 0, _, _, _, _ => False
  | n + 1, S, v2, v3, v4 => ((v3 ≤ v4 → K S) ∧ (¬ v3 ≤ v4 → (inb v2 8 ∧ inb v4 2 ∧ (∀ v5_60, v5_60 = P (310 + v2.toInt.toNat) v4.toInt.toNat → (inb v5_60 6 ∧ ∀ S_70 : M2, S_70 = up2 S 205 (upd (S 205) v5_60.toInt.toNat 10) → (∀ v4_71 : Int32, v4_71 = v4 + 1 → wl_X7_leave_50 N P K n S_70 v2 v3 v4_71))))))
def wp_X7_leave (N : M2) (P : M2) (S : M2) (x1 : Int32) (K : M2 → Prop) : Prop := (inb x1 8 ∧ ∀ S_6 : M2, S_6 = up2 S 206 (upd (S 206) x1.toInt.toNat 2) → (inb x1 8 ∧ ∀ S_13 : M2, S_13 = up2 S_6 209 (upd (S_6 209) x1.toInt.toNat ((-1))) → (inb x1 8 ∧ ∀ S_20 : M2, S_20 = up2 S_13 210 (upd (S_13 210) x1.toInt.toNat 0) → (inb x1 8 ∧ ∀ S_30 : M2, S_30 = up2 S_20 211 (upd (S_20 211) x1.toInt.toNat (S_20 200 0)) → (inb x1 8 ∧ (inb x1 8 ∧ (∀ v3_46, v3_46 = Int32.ofNat 2 → wl_X7_leave_50 N P K fK S_30 x1 v3_46 0)))))))
set_option maxRecDepth 100000 in
set_option maxHeartbeats 4000000 in
theorem c_X7_leave (l : Launch) (D : va_G) (Z : Nat → ClassId) (a q g : Nat → Nat) (rg sa aa : Nat) (N P : M2) (S : M2) (sz : Nat) (x1 : Int32) (K : M2 → Prop) (hm : wp_X7_leave N P S x1 K) : Met l yX7_leave (wy yX7_leave cX7_leave 6 none) (rk 1 0 0) (pre vwCl D Z (SW Z a q g rg sa aa N P S) sz [.ref (a 200), .int x1]) (poV vwCl D Z (SW Z a q g rg sa aa N P) S sz K) 0 0 (va_A (SW Z a q g rg sa aa N P S) sz) := by
  refine rwv_of (wsF := (SW Z a q g rg sa aa N P)) (u0 := S) (by decide +kernel) (Nat.le_of_ble_eq_true rfl) rfl ?_
  intro p e s m args below meth c Q A hC hN hsz hnm hT hK hret ls hl
  have hx := hC.1
  have hb := hC.2.1
  have hl : lv_has ls 6 [(0, .ref (a 200)), (1, .int x1)] := hl
  have hT : TS vwCl D (SW Z a q g rg sa aa N P S) A s.heap s.heap [] := hT
  have L50 : ∀ (n50 : Nat), ∀ (S : M2) (v2 : Int32) (v3 : Int32) (v4 : Int32) (H : Heap) (locs : List Loc) (ls : Array Slot), wl_X7_leave_50 N P K n50 S v2 v3 v4 → TS vwCl D (SW Z a q g rg sa aa N P S) A s.heap H locs → lv_has ls 6 [(0, .ref (a 200)), (2, .ref (q (310 + v2.toInt.toNat))), (3, .int v3), (4, .int v4)] → W p l e (rk 1 0 0) s m args below meth c H locs 0 0 Q (F0 m 50 ls []) := by
    intro n50
    induction n50 with
    | zero =>
      intro S v2 v3 v4 H locs ls hm hT hl
      exact False.elim hm
    | succ n50 ih50 =>
      intro S v2 v3 v4 H locs ls hm hT hl
      refine lv_iload hx hb dX7_leave_50 (lv_at hl 3 rfl) ?_
      refine lv_iload_n hx hb dX7_leave_52 rfl (lv_at hl 2 rfl) ?_
      refine lv_icmp_ge (tgt := 77) hx hb dX7_leave_53 (by decide) (fun c_53 => ?_) (fun c_53 => ?_)
      · have hm := hm.1 c_53
        exact hret 77 _ _ _ _ hm hT dX7_leave_77
      · have hm := hm.2 c_53
        refine lv_aload_n hx hb dX7_leave_56 rfl (lv_at hl 1 rfl) ?_
        refine lv_iload hx hb dX7_leave_57 (lv_at hl 3 rfl) ?_
        refine wrl_SW hC hK hT.1 hm.1 hm.2.1 dX7_leave_59 ?_
        have hm := hm.2.2
        refine lv_topi (fun v5_60 ev5_60 => ?_)
        have hm := hm v5_60 ev5_60
        refine lv_istore (lv' := [(5, .int v5_60), (0, .ref (a 200)), (2, .ref (q (310 + v2.toInt.toNat))), (3, .int v3), (4, .int v4)]) hx hb dX7_leave_60 hl (by decide) rfl (fun ls hl => ?_)
        refine lv_aload_n hx hb dX7_leave_62 rfl (lv_at hl 1 rfl) ?_
        refine gSW_st_5 hC hK hT.1 wq_1366 dX7_leave_63 ?_
        refine lv_iload hx hb dX7_leave_66 (lv_at hl 0 rfl) ?_
        refine lv_bipush (v := 10) hx hb dX7_leave_68 (by decide) ?_
        refine sSW_walks hC hK hT hm.1 dX7_leave_70 (fun S_70 eS_70 H locs hT => ?_)
        have hm := hm.2 S_70 eS_70
        obtain ⟨v4_71, ev4_71⟩ : ∃ y : Int32, y = v4 + 1 := ⟨_, rfl⟩
        have hm := hm v4_71 ev4_71
        refine lv_iinc (v := v4_71) (lv' := [(4, .int v4_71), (5, .int v5_60), (0, .ref (a 200)), (2, .ref (q (310 + v2.toInt.toNat))), (3, .int v3)]) hx hb dX7_leave_71 hl (k := 4) rfl (by rw [ev4_71]; rfl) (by decide) rfl (fun ls hl => ?_)
        refine lv_goto (tgt := 50) hx hb dX7_leave_74 (by decide) ?_
        exact ih50 _ _ _ _ _ _ _ hm hT (lv_sub hl [2, 3, 4, 0] rfl)
  refine lv_aload_n hx hb dX7_leave_0 rfl (lv_at hl 0 rfl) ?_
  refine gSW_st_6 hC hK hT.1 wq_1368 dX7_leave_1 ?_
  refine lv_iload_n hx hb dX7_leave_4 rfl (lv_at hl 1 rfl) ?_
  refine lv_iconst (v := 2) hx hb dX7_leave_5 (by decide) ?_
  refine sSW_is hC hK hT hm.1 dX7_leave_6 (fun S_6 eS_6 H locs hT => ?_)
  have hm := hm.2 S_6 eS_6
  refine lv_aload_n hx hb dX7_leave_7 rfl (lv_at hl 0 rfl) ?_
  refine gSW_st_9 hC hK hT.1 wq_1374 dX7_leave_8 ?_
  refine lv_iload_n hx hb dX7_leave_11 rfl (lv_at hl 1 rfl) ?_
  refine lv_iconst (v := (-1)) hx hb dX7_leave_12 (by decide) ?_
  refine sSW_at hC hK hT hm.1 dX7_leave_13 (fun S_13 eS_13 H locs hT => ?_)
  have hm := hm.2 S_13 eS_13
  refine lv_aload_n hx hb dX7_leave_14 rfl (lv_at hl 0 rfl) ?_
  refine gSW_st_10 hC hK hT.1 wq_1376 dX7_leave_15 ?_
  refine lv_iload_n hx hb dX7_leave_18 rfl (lv_at hl 1 rfl) ?_
  refine lv_iconst (v := 0) hx hb dX7_leave_19 (by decide) ?_
  refine sSW_spushed hC hK hT hm.1 dX7_leave_20 (fun S_20 eS_20 H locs hT => ?_)
  have hm := hm.2 S_20 eS_20
  refine lv_aload_n hx hb dX7_leave_21 rfl (lv_at hl 0 rfl) ?_
  refine gSW_st_11 hC hK hT.1 wq_1378 dX7_leave_22 ?_
  refine lv_iload_n hx hb dX7_leave_25 rfl (lv_at hl 1 rfl) ?_
  refine lv_aload_n hx hb dX7_leave_26 rfl (lv_at hl 0 rfl) ?_
  refine gSW_st_0 hC hK hT.1 wq_1356 dX7_leave_27 ?_
  refine sSW_out hC hK hT hm.1 dX7_leave_30 (fun S_30 eS_30 H locs hT => ?_)
  have hm := hm.2 S_30 eS_30
  refine lv_aload_n hx hb dX7_leave_31 rfl (lv_at hl 0 rfl) ?_
  refine gSW_st_14 hC hK hT.1 wq_1383 dX7_leave_32 ?_
  refine gNSW_mod_11 hC hN hK hT.1 wn_1431 dX7_leave_35 ?_
  refine gNSW_plan_16 hC hN hK hT.1 wn_1271 dX7_leave_38 ?_
  refine lv_iload_n hx hb dX7_leave_41 rfl (lv_at hl 1 rfl) ?_
  refine w_aaldR (q0 := 25) hC hK hT.1 rfl hm.1 dX7_leave_42 ?_
  have hm := hm.2
  refine lv_astore_n (lv' := [(2, .ref (q (310 + x1.toInt.toNat))), (0, .ref (a 200)), (1, .int x1)]) hx hb dX7_leave_43 rfl hl (by decide) rfl (fun ls hl => ?_)
  refine lv_aload_n hx hb dX7_leave_44 rfl (lv_at hl 0 rfl) ?_
  refine wrn_SW hC hK hT.1 hm.1 dX7_leave_45 ?_
  have hm := hm.2
  refine lv_topi (fun v3_46 ev3_46 => ?_)
  have hm := hm v3_46 ev3_46
  refine lv_istore_n (lv' := [(3, .int v3_46), (2, .ref (q (310 + x1.toInt.toNat))), (0, .ref (a 200)), (1, .int x1)]) hx hb dX7_leave_46 rfl hl (by decide) rfl (fun ls hl => ?_)
  refine lv_iconst (v := 0) hx hb dX7_leave_47 (by decide) ?_
  refine lv_istore (lv' := [(4, .int 0), (3, .int v3_46), (2, .ref (q (310 + x1.toInt.toNat))), (0, .ref (a 200)), (1, .int x1)]) hx hb dX7_leave_48 hl (by decide) rfl (fun ls hl => ?_)
  exact L50 _ _ _ _ _ _ _ _ hm hT (lv_sub hl [3, 2, 1, 0] rfl)
section KX7_leave
variable {p : Program} {l : Launch} {e : Env} {s : State} {m : MethodId} {args : Array Value} {below : List Frame} {meth : Method} {c : Code} {H H0 : Heap} {locs : List Loc} {cells slots : Nat} {Q : State → Prop} {R : Room} {rn mcR msR : Nat}
variable {pc : Nat} {ls : Array Slot} {rest : List Value} {A : Nat → Prop} {D : va_G}
variable {cc : ByteArray} {nL index : Nat} {own host : String}
theorem k_X7_leave {Z : Nat → ClassId} {a q g : Nat → Nat} {rg sa aa : Nat} {N P : M2} {S : M2} {x1 : Int32} {K : M2 → Prop} (hC : CallFix p m c cc nL s args lw_g own) (hN : NW s) (hK : va_K D vwCl (tysG Z) s) (hT : TS vwCl D (SW Z a q g rg sa aa N P S) A H0 H locs) (hm : wp_X7_leave N P S x1 K) (hl : Cond.methodLink own index yX7_leave ∈ lw_g) (hlt : 1 < rn) (hsize : ls.size = nL) (hW : (rest.map fun v => v.category).sum ≤ 8) (hf : cells + 0 ≤ mcR ∧ slots + 0 ≤ msR) (hdg : decode cc pc = .ok (.invokevirtual index, 3)) (kk : ∀ (S1 : M2) (H1 : Heap) (locs1 : List Loc), K S1 → TS vwCl D (SW Z a q g rg sa aa N P S1) A H0 H1 locs1 → W p l e (rk rn mcR msR) s m args below meth c H1 locs1 cells slots Q (F0 m (pc + 3) ls (rest))) : W p l e (rk rn mcR msR) s m args below meth c H locs cells slots Q (F0 m pc ls (.int x1 :: .ref (a 200) :: rest)) :=
  rwv_go (wsF := (SW Z a q g rg sa aa N P)) (u0 := S) (wr := []) (isC := cutSW) (isR := []) (pm := cutSW) (ws' := (SW Z a q g rg sa aa N P)) (runV (As := [.int x1]) hC hN (c_X7_leave l D Z a q g rg sa aa N P S H.size x1 K hm) mi_X7_leave hl wq_1903 wq_120 hlt hT.1 hT.D' hK (q0 := 0) rfl rfl rfl hsize rfl hW hdg hf) (cutOkSW Z a q g rg sa aa N P S) hT (fun u H1 locs1 hk hT1 => kk u H1 locs1 hk hT1)
end KX7_leave
def wj_X7_push_156 (N : M2) (P : M2) (C105 : M2 → Int32 → Prop) (K : M2 → Prop) (S : M2) (v1 : Int32) (q0 : Int32) (q1 : Int32) : Prop := (∀ v3_157, v3_157 = q1 + q0 → ((v3_157 < 0 → wp_X7_leave N P S v1 (fun S_178 => C105 S_178 v1)) ∧ (¬ v3_157 < 0 → ((¬ v3_157 = (P 241 0) → wp_X7_boatAt N P S v3_157 (fun r_186 => ((r_186 = ((-1)) → (inb v1 8 ∧ (inb v1 8 ∧ (inb v1 8 ∧ ∀ S_223 : M2, S_223 = up2 S 210 (upd (S 210) v1.toInt.toNat ((S 210 v1.toInt.toNat) - (P 253 v1.toInt.toNat))) → wp_X7_comeTo N P S_223 v1 v3_157 (fun S_227 => C105 S_227 v1))))) ∧ (¬ r_186 = ((-1)) → (inb v1 8 ∧ ∀ S_199 : M2, S_199 = up2 S 210 (upd (S 210) v1.toInt.toNat 0) → C105 S_199 v1))))) ∧ (v3_157 = (P 241 0) → wp_X7_leave N P S v1 (fun S_178 => C105 S_178 v1))))))
def wl_X7_push_105 (N : M2) (P : M2) (K : M2 → Prop) : Nat → M2 → Int32 → Prop
  | 0, _, _ => False
  | n + 1, S, v1 => (inb v1 8 ∧ ((¬ (S 206 v1.toInt.toNat) = 1 → K S) ∧ ((S 206 v1.toInt.toNat) = 1 → (inb v1 8 ∧ (inb v1 8 ∧ (((S 210 v1.toInt.toNat) < (P 253 v1.toInt.toNat) → K S) ∧ (¬ (S 210 v1.toInt.toNat) < (P 253 v1.toInt.toNat) → (inb v1 8 ∧ (inb v1 8 ∧ ((¬ (S 207 v1.toInt.toNat) = 0 → wj_X7_push_156 N P (wl_X7_push_105 N P K n) K S v1 ((-1)) (S 209 v1.toInt.toNat)) ∧ ((S 207 v1.toInt.toNat) = 0 → wj_X7_push_156 N P (wl_X7_push_105 N P K n) K S v1 1 (S 209 v1.toInt.toNat))))))))))))
def wl_X7_push_22 (N : M2) (P : M2) (K : M2 → Prop) : Nat → M2 → Int32 → Int32 → Int32 → Int32 → Int32 → Prop
  | 0, _, _, _, _, _, _ => False
  | n + 1, S, v1, v2, v3, v4, v5 => ((v4 ≤ v5 → (inb v1 8 ∧ (inb v1 8 ∧ (inb (S 209 v1.toInt.toNat) 60 ∧ (inb v1 8 ∧ ∀ S_104 : M2, S_104 = up2 S 210 (upd (S 210) v1.toInt.toNat ((S 210 v1.toInt.toNat) + ((v2 * (S 202 (S 209 v1.toInt.toNat).toInt.toNat)) / 100))) → wl_X7_push_105 N P K fK S_104 v1))))) ∧ (¬ v4 ≤ v5 → (inb v3 8 ∧ inb v5 2 ∧ (∀ v6_33, v6_33 = P (310 + v3.toInt.toNat) v5.toInt.toNat → (inb v6_33 6 ∧ (((S 203 v6_33.toInt.toNat) ≤ 0 → (∀ v2_73, v2_73 = v2 + 0 → (∀ v5_74 : Int32, v5_74 = v5 + 1 → wl_X7_push_22 N P K n S v1 v2_73 v3 v4 v5_74))) ∧ (¬ (S 203 v6_33.toInt.toNat) ≤ 0 → ((v6_33 = (S 212 0) → (∀ v2_73, v2_73 = v2 + 0 → (∀ v5_74 : Int32, v5_74 = v5 + 1 → wl_X7_push_22 N P K n S v1 v2_73 v3 v4 v5_74))) ∧ (¬ v6_33 = (S 212 0) → (inb v6_33 6 ∧ (∀ v2_73, v2_73 = v2 + (P 250 v6_33.toInt.toNat) → (∀ v5_74 : Int32, v5_74 = v5 + 1 → wl_X7_push_22 N P K n S v1 v2_73 v3 v4 v5_74))))))))))))
def wp_X7_push (N : M2) (P : M2) (S : M2) (x1 : Int32) (K : M2 → Prop) : Prop := (inb x1 8 ∧ (inb x1 8 ∧ (∀ v4_17, v4_17 = Int32.ofNat 2 → wl_X7_push_22 N P K fK S x1 0 x1 v4_17 0)))
set_option maxRecDepth 100000 in
set_option maxHeartbeats 4000000 in
theorem c_X7_push (l : Launch) (D : va_G) (Z : Nat → ClassId) (a q g : Nat → Nat) (rg sa aa : Nat) (N P : M2) (S : M2) (sz : Nat) (x1 : Int32) (K : M2 → Prop) (hm : wp_X7_push N P S x1 K) : Met l yX7_push (wy yX7_push cX7_push 7 none) (rk 2 0 0) (pre vwCl D Z (SW Z a q g rg sa aa N P S) sz [.ref (a 200), .int x1]) (poV vwCl D Z (SW Z a q g rg sa aa N P) S sz K) 0 0 (va_A (SW Z a q g rg sa aa N P S) sz) := by
  refine rwv_of (wsF := (SW Z a q g rg sa aa N P)) (u0 := S) (by decide +kernel) (Nat.le_of_ble_eq_true rfl) rfl ?_
  intro p e s m args below meth c Q A hC hN hsz hnm hT hK hret ls hl
  have hx := hC.1
  have hb := hC.2.1
  have hl : lv_has ls 7 [(0, .ref (a 200)), (1, .int x1)] := hl
  have hT : TS vwCl D (SW Z a q g rg sa aa N P S) A s.heap s.heap [] := hT
  have L105 : ∀ (n105 : Nat), ∀ (S : M2) (v1 : Int32) (H : Heap) (locs : List Loc) (ls : Array Slot), wl_X7_push_105 N P K n105 S v1 → TS vwCl D (SW Z a q g rg sa aa N P S) A s.heap H locs → lv_has ls 7 [(0, .ref (a 200)), (1, .int v1)] → W p l e (rk 2 0 0) s m args below meth c H locs 0 0 Q (F0 m 105 ls []) := by
    intro n105
    induction n105 with
    | zero =>
      intro S v1 H locs ls hm hT hl
      exact False.elim hm
    | succ n105 ih105 =>
      have L156 : ∀ (S : M2) (v1 : Int32) (q0 : Int32) (q1 : Int32) (H : Heap) (locs : List Loc) (ls : Array Slot), wj_X7_push_156 N P (wl_X7_push_105 N P K n105) K S v1 q0 q1 → TS vwCl D (SW Z a q g rg sa aa N P S) A s.heap H locs → lv_has ls 7 [(0, .ref (a 200)), (1, .int v1)] → W p l e (rk 2 0 0) s m args below meth c H locs 0 0 Q (F0 m 156 ls [.int q0, .int q1]) := by
        intro S v1 q0 q1 H locs ls hm hT hl
        refine lv_iadd hx hb dX7_push_156 ?_
        refine lv_topi (fun v3_157 ev3_157 => ?_)
        have hm := hm v3_157 ev3_157
        refine lv_istore_n (lv' := [(3, .int v3_157), (0, .ref (a 200)), (1, .int v1)]) hx hb dX7_push_157 rfl hl (by decide) rfl (fun ls hl => ?_)
        refine lv_iload_n hx hb dX7_push_158 rfl (lv_at hl 0 rfl) ?_
        refine lv_if_lt (tgt := 176) hx hb dX7_push_159 (by decide) (fun c_159 => ?_) (fun c_159 => ?_)
        · have hm := hm.1 c_159
          refine lv_aload_n hx hb dX7_push_176 rfl (lv_at hl 1 rfl) ?_
          refine lv_iload_n hx hb dX7_push_177 rfl (lv_at hl 2 rfl) ?_
          refine k_X7_leave hC hN hK hT hm wq_1901 (by decide) hl.1 (Nat.le_of_ble_eq_true rfl) ⟨Nat.le_refl _, Nat.le_refl _⟩ dX7_push_178 (fun S_178 H locs hm hT => ?_)
          refine lv_goto (tgt := 230) hx hb dX7_push_181 (by decide) ?_
          refine lv_goto (tgt := 105) hx hb dX7_push_230 (by decide) ?_
          exact ih105 _ _ _ _ _ hm hT (lv_sub hl [1, 2] rfl)
        · have hm := hm.2 c_159
          refine lv_iload_n hx hb dX7_push_162 rfl (lv_at hl 0 rfl) ?_
          refine lv_aload_n hx hb dX7_push_163 rfl (lv_at hl 1 rfl) ?_
          refine gSW_st_14 hC hK hT.1 wq_1383 dX7_push_164 ?_
          refine gNSW_mod_11 hC hN hK hT.1 wn_1431 dX7_push_167 ?_
          refine gNSW_plan_1 hC hN hK hT.1 wn_1231 dX7_push_170 ?_
          refine lv_icmp_ne (tgt := 184) hx hb dX7_push_173 (by decide) (fun c_173 => ?_) (fun c_173 => ?_)
          · have hm := hm.1 c_173
            refine lv_aload_n hx hb dX7_push_184 rfl (lv_at hl 1 rfl) ?_
            refine lv_iload_n hx hb dX7_push_185 rfl (lv_at hl 0 rfl) ?_
            refine k_X7_boatAt hC hN hK hT.1 hT.D' hm wq_1905 (by decide) hl.1 (Nat.le_of_ble_eq_true rfl) ⟨Nat.le_refl _, Nat.le_refl _⟩ dX7_push_186 (fun r_186 hm => ?_)
            refine lv_iconst (v := (-1)) hx hb dX7_push_189 (by decide) ?_
            refine lv_icmp_eq (tgt := 203) hx hb dX7_push_190 (by decide) (fun c_190 => ?_) (fun c_190 => ?_)
            · have hm := hm.1 c_190
              refine lv_aload_n hx hb dX7_push_203 rfl (lv_at hl 1 rfl) ?_
              refine gSW_st_10 hC hK hT.1 wq_1376 dX7_push_204 ?_
              refine lv_iload_n hx hb dX7_push_207 rfl (lv_at hl 2 rfl) ?_
              refine lv_dup2_11 hx hb dX7_push_208 rfl rfl ?_
              refine w_iald (q0 := 9) hC hK hT.1 rfl hm.1 dX7_push_209 ?_
              have hm := hm.2
              refine lv_aload_n hx hb dX7_push_210 rfl (lv_at hl 1 rfl) ?_
              refine gSW_st_14 hC hK hT.1 wq_1383 dX7_push_211 ?_
              refine gNSW_mod_11 hC hN hK hT.1 wn_1431 dX7_push_214 ?_
              refine gNSW_plan_13 hC hN hK hT.1 wn_1262 dX7_push_217 ?_
              refine lv_iload_n hx hb dX7_push_220 rfl (lv_at hl 2 rfl) ?_
              refine w_iald (q0 := 22) hC hK hT.1 rfl hm.1 dX7_push_221 ?_
              have hm := hm.2
              refine lv_isub hx hb dX7_push_222 ?_
              refine sSW_spushed hC hK hT hm.1 dX7_push_223 (fun S_223 eS_223 H locs hT => ?_)
              have hm := hm.2 S_223 eS_223
              refine lv_aload_n hx hb dX7_push_224 rfl (lv_at hl 1 rfl) ?_
              refine lv_iload_n hx hb dX7_push_225 rfl (lv_at hl 2 rfl) ?_
              refine lv_iload_n hx hb dX7_push_226 rfl (lv_at hl 0 rfl) ?_
              refine k_X7_comeTo hC hN hK hT hm wq_1893 (by decide) hl.1 (Nat.le_of_ble_eq_true rfl) ⟨Nat.le_refl _, Nat.le_refl _⟩ dX7_push_227 (fun S_227 H locs hm hT => ?_)
              refine lv_goto (tgt := 105) hx hb dX7_push_230 (by decide) ?_
              exact ih105 _ _ _ _ _ hm hT (lv_sub hl [1, 2] rfl)
            · have hm := hm.2 c_190
              refine lv_aload_n hx hb dX7_push_193 rfl (lv_at hl 1 rfl) ?_
              refine gSW_st_10 hC hK hT.1 wq_1376 dX7_push_194 ?_
              refine lv_iload_n hx hb dX7_push_197 rfl (lv_at hl 2 rfl) ?_
              refine lv_iconst (v := 0) hx hb dX7_push_198 (by decide) ?_
              refine sSW_spushed hC hK hT hm.1 dX7_push_199 (fun S_199 eS_199 H locs hT => ?_)
              have hm := hm.2 S_199 eS_199
              refine lv_goto (tgt := 230) hx hb dX7_push_200 (by decide) ?_
              refine lv_goto (tgt := 105) hx hb dX7_push_230 (by decide) ?_
              exact ih105 _ _ _ _ _ hm hT (lv_sub hl [1, 2] rfl)
          · have hm := hm.2 c_173
            refine lv_aload_n hx hb dX7_push_176 rfl (lv_at hl 1 rfl) ?_
            refine lv_iload_n hx hb dX7_push_177 rfl (lv_at hl 2 rfl) ?_
            refine k_X7_leave hC hN hK hT hm wq_1901 (by decide) hl.1 (Nat.le_of_ble_eq_true rfl) ⟨Nat.le_refl _, Nat.le_refl _⟩ dX7_push_178 (fun S_178 H locs hm hT => ?_)
            refine lv_goto (tgt := 230) hx hb dX7_push_181 (by decide) ?_
            refine lv_goto (tgt := 105) hx hb dX7_push_230 (by decide) ?_
            exact ih105 _ _ _ _ _ hm hT (lv_sub hl [1, 2] rfl)
      intro S v1 H locs ls hm hT hl
      refine lv_aload_n hx hb dX7_push_105 rfl (lv_at hl 0 rfl) ?_
      refine gSW_st_6 hC hK hT.1 wq_1368 dX7_push_106 ?_
      refine lv_iload_n hx hb dX7_push_109 rfl (lv_at hl 1 rfl) ?_
      refine w_iald (q0 := 5) hC hK hT.1 rfl hm.1 dX7_push_110 ?_
      have hm := hm.2
      refine lv_iconst (v := 1) hx hb dX7_push_111 (by decide) ?_
      refine lv_icmp_ne (tgt := 233) hx hb dX7_push_112 (by decide) (fun c_112 => ?_) (fun c_112 => ?_)
      · have hm := hm.1 c_112
        exact hret 233 _ _ _ _ hm hT dX7_push_233
      · have hm := hm.2 c_112
        refine lv_aload_n hx hb dX7_push_115 rfl (lv_at hl 0 rfl) ?_
        refine gSW_st_10 hC hK hT.1 wq_1376 dX7_push_116 ?_
        refine lv_iload_n hx hb dX7_push_119 rfl (lv_at hl 1 rfl) ?_
        refine w_iald (q0 := 9) hC hK hT.1 rfl hm.1 dX7_push_120 ?_
        have hm := hm.2
        refine lv_aload_n hx hb dX7_push_121 rfl (lv_at hl 0 rfl) ?_
        refine gSW_st_14 hC hK hT.1 wq_1383 dX7_push_122 ?_
        refine gNSW_mod_11 hC hN hK hT.1 wn_1431 dX7_push_125 ?_
        refine gNSW_plan_13 hC hN hK hT.1 wn_1262 dX7_push_128 ?_
        refine lv_iload_n hx hb dX7_push_131 rfl (lv_at hl 1 rfl) ?_
        refine w_iald (q0 := 22) hC hK hT.1 rfl hm.1 dX7_push_132 ?_
        have hm := hm.2
        refine lv_icmp_lt (tgt := 233) hx hb dX7_push_133 (by decide) (fun c_133 => ?_) (fun c_133 => ?_)
        · have hm := hm.1 c_133
          exact hret 233 _ _ _ _ hm hT dX7_push_233
        · have hm := hm.2 c_133
          refine lv_aload_n hx hb dX7_push_136 rfl (lv_at hl 0 rfl) ?_
          refine gSW_st_9 hC hK hT.1 wq_1374 dX7_push_137 ?_
          refine lv_iload_n hx hb dX7_push_140 rfl (lv_at hl 1 rfl) ?_
          refine w_iald (q0 := 8) hC hK hT.1 rfl hm.1 dX7_push_141 ?_
          have hm := hm.2
          refine lv_aload_n hx hb dX7_push_142 rfl (lv_at hl 0 rfl) ?_
          refine gSW_st_7 hC hK hT.1 wq_1370 dX7_push_143 ?_
          refine lv_iload_n hx hb dX7_push_146 rfl (lv_at hl 1 rfl) ?_
          refine w_iald (q0 := 6) hC hK hT.1 rfl hm.1 dX7_push_147 ?_
          have hm := hm.2
          refine lv_if_ne (tgt := 155) hx hb dX7_push_148 (by decide) (fun c_148 => ?_) (fun c_148 => ?_)
          · have hm := hm.1 c_148
            refine lv_iconst (v := (-1)) hx hb dX7_push_155 (by decide) ?_
            exact L156 _ _ _ _ _ _ _ hm hT (lv_sub hl [0, 1] rfl)
          · have hm := hm.2 c_148
            refine lv_iconst (v := 1) hx hb dX7_push_151 (by decide) ?_
            refine lv_goto (tgt := 156) hx hb dX7_push_152 (by decide) ?_
            exact L156 _ _ _ _ _ _ _ hm hT (lv_sub hl [0, 1] rfl)
  have L22 : ∀ (n22 : Nat), ∀ (S : M2) (v1 : Int32) (v2 : Int32) (v3 : Int32) (v4 : Int32) (v5 : Int32) (H : Heap) (locs : List Loc) (ls : Array Slot), wl_X7_push_22 N P K n22 S v1 v2 v3 v4 v5 → TS vwCl D (SW Z a q g rg sa aa N P S) A s.heap H locs → lv_has ls 7 [(0, .ref (a 200)), (1, .int v1), (2, .int v2), (3, .ref (q (310 + v3.toInt.toNat))), (4, .int v4), (5, .int v5)] → W p l e (rk 2 0 0) s m args below meth c H locs 0 0 Q (F0 m 22 ls []) := by
    intro n22
    induction n22 with
    | zero =>
      intro S v1 v2 v3 v4 v5 H locs ls hm hT hl
      exact False.elim hm
    | succ n22 ih22 =>
      intro S v1 v2 v3 v4 v5 H locs ls hm hT hl
      refine lv_iload hx hb dX7_push_22 (lv_at hl 5 rfl) ?_
      refine lv_iload hx hb dX7_push_24 (lv_at hl 4 rfl) ?_
      refine lv_icmp_ge (tgt := 80) hx hb dX7_push_26 (by decide) (fun c_26 => ?_) (fun c_26 => ?_)
      · have hm := hm.1 c_26
        refine lv_aload_n hx hb dX7_push_80 rfl (lv_at hl 0 rfl) ?_
        refine gSW_st_10 hC hK hT.1 wq_1376 dX7_push_81 ?_
        refine lv_iload_n hx hb dX7_push_84 rfl (lv_at hl 1 rfl) ?_
        refine lv_dup2_11 hx hb dX7_push_85 rfl rfl ?_
        refine w_iald (q0 := 9) hC hK hT.1 rfl hm.1 dX7_push_86 ?_
        have hm := hm.2
        refine lv_iload_n hx hb dX7_push_87 rfl (lv_at hl 2 rfl) ?_
        refine lv_aload_n hx hb dX7_push_88 rfl (lv_at hl 0 rfl) ?_
        refine gSW_st_2 hC hK hT.1 wq_1360 dX7_push_89 ?_
        refine lv_aload_n hx hb dX7_push_92 rfl (lv_at hl 0 rfl) ?_
        refine gSW_st_9 hC hK hT.1 wq_1374 dX7_push_93 ?_
        refine lv_iload_n hx hb dX7_push_96 rfl (lv_at hl 1 rfl) ?_
        refine w_iald (q0 := 8) hC hK hT.1 rfl hm.1 dX7_push_97 ?_
        have hm := hm.2
        refine w_iald (q0 := 1) hC hK hT.1 rfl hm.1 dX7_push_98 ?_
        have hm := hm.2
        refine lv_imul hx hb dX7_push_99 ?_
        refine lv_bipush (v := 100) hx hb dX7_push_100 (by decide) ?_
        refine lv_idiv hx hb dX7_push_102 (by decide) ?_
        refine lv_iadd hx hb dX7_push_103 ?_
        refine sSW_spushed hC hK hT hm.1 dX7_push_104 (fun S_104 eS_104 H locs hT => ?_)
        have hm := hm.2 S_104 eS_104
        exact L105 _ _ _ _ _ _ hm hT (lv_sub hl [0, 1] rfl)
      · have hm := hm.2 c_26
        refine lv_aload_n hx hb dX7_push_29 rfl (lv_at hl 3 rfl) ?_
        refine lv_iload hx hb dX7_push_30 (lv_at hl 5 rfl) ?_
        refine wrl_SW hC hK hT.1 hm.1 hm.2.1 dX7_push_32 ?_
        have hm := hm.2.2
        refine lv_topi (fun v6_33 ev6_33 => ?_)
        have hm := hm v6_33 ev6_33
        refine lv_istore (lv' := [(6, .int v6_33), (0, .ref (a 200)), (1, .int v1), (2, .int v2), (3, .ref (q (310 + v3.toInt.toNat))), (4, .int v4), (5, .int v5)]) hx hb dX7_push_33 hl (by decide) rfl (fun ls hl => ?_)
        refine lv_iload_n hx hb dX7_push_35 rfl (lv_at hl 3 rfl) ?_
        refine lv_aload_n hx hb dX7_push_36 rfl (lv_at hl 1 rfl) ?_
        refine gSW_st_3 hC hK hT.1 wq_1362 dX7_push_37 ?_
        refine lv_iload hx hb dX7_push_40 (lv_at hl 0 rfl) ?_
        refine w_iald (q0 := 2) hC hK hT.1 rfl hm.1 dX7_push_42 ?_
        have hm := hm.2
        refine lv_if_le (tgt := 71) hx hb dX7_push_43 (by decide) (fun c_43 => ?_) (fun c_43 => ?_)
        · have hm := hm.1 c_43
          refine lv_iconst (v := 0) hx hb dX7_push_71 (by decide) ?_
          refine lv_iadd hx hb dX7_push_72 ?_
          refine lv_topi (fun v2_73 ev2_73 => ?_)
          have hm := hm v2_73 ev2_73
          refine lv_istore_n (lv' := [(2, .int v2_73), (6, .int v6_33), (0, .ref (a 200)), (1, .int v1), (3, .ref (q (310 + v3.toInt.toNat))), (4, .int v4), (5, .int v5)]) hx hb dX7_push_73 rfl hl (by decide) rfl (fun ls hl => ?_)
          obtain ⟨v5_74, ev5_74⟩ : ∃ y : Int32, y = v5 + 1 := ⟨_, rfl⟩
          have hm := hm v5_74 ev5_74
          refine lv_iinc (v := v5_74) (lv' := [(5, .int v5_74), (2, .int v2_73), (6, .int v6_33), (0, .ref (a 200)), (1, .int v1), (3, .ref (q (310 + v3.toInt.toNat))), (4, .int v4)]) hx hb dX7_push_74 hl (k := 6) rfl (by rw [ev5_74]; rfl) (by decide) rfl (fun ls hl => ?_)
          refine lv_goto (tgt := 22) hx hb dX7_push_77 (by decide) ?_
          exact ih22 _ _ _ _ _ _ _ _ _ hm hT (lv_sub hl [3, 4, 1, 5, 6, 0] rfl)
        · have hm := hm.2 c_43
          refine lv_iload hx hb dX7_push_46 (lv_at hl 0 rfl) ?_
          refine lv_aload_n hx hb dX7_push_48 rfl (lv_at hl 1 rfl) ?_
          refine gSW_st_12 hC hK hT.1 wq_1380 dX7_push_49 ?_
          refine lv_icmp_eq (tgt := 71) hx hb dX7_push_52 (by decide) (fun c_52 => ?_) (fun c_52 => ?_)
          · have hm := hm.1 c_52
            refine lv_iconst (v := 0) hx hb dX7_push_71 (by decide) ?_
            refine lv_iadd hx hb dX7_push_72 ?_
            refine lv_topi (fun v2_73 ev2_73 => ?_)
            have hm := hm v2_73 ev2_73
            refine lv_istore_n (lv' := [(2, .int v2_73), (6, .int v6_33), (0, .ref (a 200)), (1, .int v1), (3, .ref (q (310 + v3.toInt.toNat))), (4, .int v4), (5, .int v5)]) hx hb dX7_push_73 rfl hl (by decide) rfl (fun ls hl => ?_)
            obtain ⟨v5_74, ev5_74⟩ : ∃ y : Int32, y = v5 + 1 := ⟨_, rfl⟩
            have hm := hm v5_74 ev5_74
            refine lv_iinc (v := v5_74) (lv' := [(5, .int v5_74), (2, .int v2_73), (6, .int v6_33), (0, .ref (a 200)), (1, .int v1), (3, .ref (q (310 + v3.toInt.toNat))), (4, .int v4)]) hx hb dX7_push_74 hl (k := 6) rfl (by rw [ev5_74]; rfl) (by decide) rfl (fun ls hl => ?_)
            refine lv_goto (tgt := 22) hx hb dX7_push_77 (by decide) ?_
            exact ih22 _ _ _ _ _ _ _ _ _ hm hT (lv_sub hl [3, 4, 1, 5, 6, 0] rfl)
          · have hm := hm.2 c_52
            refine lv_aload_n hx hb dX7_push_55 rfl (lv_at hl 1 rfl) ?_
            refine gSW_st_14 hC hK hT.1 wq_1383 dX7_push_56 ?_
            refine gNSW_mod_11 hC hN hK hT.1 wn_1431 dX7_push_59 ?_
            refine gNSW_plan_10 hC hN hK hT.1 wn_1254 dX7_push_62 ?_
            refine lv_iload hx hb dX7_push_65 (lv_at hl 0 rfl) ?_
            refine w_iald (q0 := 20) hC hK hT.1 rfl hm.1 dX7_push_67 ?_
            have hm := hm.2
            refine lv_goto (tgt := 72) hx hb dX7_push_68 (by decide) ?_
            refine lv_iadd hx hb dX7_push_72 ?_
            refine lv_topi (fun v2_73 ev2_73 => ?_)
            have hm := hm v2_73 ev2_73
            refine lv_istore_n (lv' := [(2, .int v2_73), (6, .int v6_33), (0, .ref (a 200)), (1, .int v1), (3, .ref (q (310 + v3.toInt.toNat))), (4, .int v4), (5, .int v5)]) hx hb dX7_push_73 rfl hl (by decide) rfl (fun ls hl => ?_)
            obtain ⟨v5_74, ev5_74⟩ : ∃ y : Int32, y = v5 + 1 := ⟨_, rfl⟩
            have hm := hm v5_74 ev5_74
            refine lv_iinc (v := v5_74) (lv' := [(5, .int v5_74), (2, .int v2_73), (6, .int v6_33), (0, .ref (a 200)), (1, .int v1), (3, .ref (q (310 + v3.toInt.toNat))), (4, .int v4)]) hx hb dX7_push_74 hl (k := 6) rfl (by rw [ev5_74]; rfl) (by decide) rfl (fun ls hl => ?_)
            refine lv_goto (tgt := 22) hx hb dX7_push_77 (by decide) ?_
            exact ih22 _ _ _ _ _ _ _ _ _ hm hT (lv_sub hl [3, 4, 1, 5, 6, 0] rfl)
  refine lv_iconst (v := 0) hx hb dX7_push_0 (by decide) ?_
  refine lv_istore_n (lv' := [(2, .int 0), (0, .ref (a 200)), (1, .int x1)]) hx hb dX7_push_1 rfl hl (by decide) rfl (fun ls hl => ?_)
  refine lv_aload_n hx hb dX7_push_2 rfl (lv_at hl 1 rfl) ?_
  refine gSW_st_14 hC hK hT.1 wq_1383 dX7_push_3 ?_
  refine gNSW_mod_11 hC hN hK hT.1 wn_1431 dX7_push_6 ?_
  refine gNSW_plan_16 hC hN hK hT.1 wn_1271 dX7_push_9 ?_
  refine lv_iload_n hx hb dX7_push_12 rfl (lv_at hl 2 rfl) ?_
  refine w_aaldR (q0 := 25) hC hK hT.1 rfl hm.1 dX7_push_13 ?_
  have hm := hm.2
  refine lv_astore_n (lv' := [(3, .ref (q (310 + x1.toInt.toNat))), (2, .int 0), (0, .ref (a 200)), (1, .int x1)]) hx hb dX7_push_14 rfl hl (by decide) rfl (fun ls hl => ?_)
  refine lv_aload_n hx hb dX7_push_15 rfl (lv_at hl 0 rfl) ?_
  refine wrn_SW hC hK hT.1 hm.1 dX7_push_16 ?_
  have hm := hm.2
  refine lv_topi (fun v4_17 ev4_17 => ?_)
  have hm := hm v4_17 ev4_17
  refine lv_istore (lv' := [(4, .int v4_17), (3, .ref (q (310 + x1.toInt.toNat))), (2, .int 0), (0, .ref (a 200)), (1, .int x1)]) hx hb dX7_push_17 hl (by decide) rfl (fun ls hl => ?_)
  refine lv_iconst (v := 0) hx hb dX7_push_19 (by decide) ?_
  refine lv_istore (lv' := [(5, .int 0), (4, .int v4_17), (3, .ref (q (310 + x1.toInt.toNat))), (2, .int 0), (0, .ref (a 200)), (1, .int x1)]) hx hb dX7_push_20 hl (by decide) rfl (fun ls hl => ?_)
  exact L22 _ _ _ _ _ _ _ _ _ _ hm hT (lv_sub hl [4, 5, 3, 2, 1, 0] rfl)
section KX7_push
variable {p : Program} {l : Launch} {e : Env} {s : State} {m : MethodId} {args : Array Value} {below : List Frame} {meth : Method} {c : Code} {H H0 : Heap} {locs : List Loc} {cells slots : Nat} {Q : State → Prop} {R : Room} {rn mcR msR : Nat}
variable {pc : Nat} {ls : Array Slot} {rest : List Value} {A : Nat → Prop} {D : va_G}
variable {cc : ByteArray} {nL index : Nat} {own host : String}
theorem k_X7_push {Z : Nat → ClassId} {a q g : Nat → Nat} {rg sa aa : Nat} {N P : M2} {S : M2} {x1 : Int32} {K : M2 → Prop} (hC : CallFix p m c cc nL s args lw_g own) (hN : NW s) (hK : va_K D vwCl (tysG Z) s) (hT : TS vwCl D (SW Z a q g rg sa aa N P S) A H0 H locs) (hm : wp_X7_push N P S x1 K) (hl : Cond.methodLink own index yX7_push ∈ lw_g) (hlt : 2 < rn) (hsize : ls.size = nL) (hW : (rest.map fun v => v.category).sum ≤ 8) (hf : cells + 0 ≤ mcR ∧ slots + 0 ≤ msR) (hdg : decode cc pc = .ok (.invokevirtual index, 3)) (kk : ∀ (S1 : M2) (H1 : Heap) (locs1 : List Loc), K S1 → TS vwCl D (SW Z a q g rg sa aa N P S1) A H0 H1 locs1 → W p l e (rk rn mcR msR) s m args below meth c H1 locs1 cells slots Q (F0 m (pc + 3) ls (rest))) : W p l e (rk rn mcR msR) s m args below meth c H locs cells slots Q (F0 m pc ls (.int x1 :: .ref (a 200) :: rest)) :=
  rwv_go (wsF := (SW Z a q g rg sa aa N P)) (u0 := S) (wr := []) (isC := cutSW) (isR := []) (pm := cutSW) (ws' := (SW Z a q g rg sa aa N P)) (runV (As := [.int x1]) hC hN (c_X7_push l D Z a q g rg sa aa N P S H.size x1 K hm) mi_X7_push hl wq_1899 wq_119 hlt hT.1 hT.D' hK (q0 := 0) rfl rfl rfl hsize rfl hW hdg hf) (cutOkSW Z a q g rg sa aa N P S) hT (fun u H1 locs1 hk hT1 => kk u H1 locs1 hk hT1)
end KX7_push
def wj_X7_breathe_181 (N : M2) (P : M2) (C146 : M2 → Int32 → Prop) (K : M2 → Prop) (S : M2) (v1 : Int32) (q0 : Int32) (q1 : Int32) (q2 : Int32) : Prop := (inb q2 6 ∧ ∀ S_182 : M2, S_182 = up2 S 203 (upd (S 203) q2.toInt.toNat (q1 + q0)) → (inb v1 6 ∧ (inb v1 6 ∧ (inb v1 6 ∧ ∀ S_216 : M2, S_216 = up2 S_182 203 (upd (S_182 203) v1.toInt.toNat (mxv 0 (mnv (10 * (P 251 v1.toInt.toNat)) (S_182 203 v1.toInt.toNat)))) → (∀ v1_217 : Int32, v1_217 = v1 + 1 → C146 S_216 v1_217)))))
def wl_X7_breathe_146 (N : M2) (P : M2) (K : M2 → Prop) : Nat → M2 → Int32 → Prop
  | 0, _, _ => False
  | n + 1, S, v1 => (((P 249 0) ≤ v1 → K S) ∧ (¬ (P 249 0) ≤ v1 → (inb v1 6 ∧ wp_X7_boatOf N P S v1 (fun r_169 => ((¬ r_169 = ((-1)) → wj_X7_breathe_181 N P (wl_X7_breathe_146 N P K n) K S v1 0 (S 203 v1.toInt.toNat) v1) ∧ (r_169 = ((-1)) → wj_X7_breathe_181 N P (wl_X7_breathe_146 N P K n) K S v1 2 (S 203 v1.toInt.toNat) v1))))))
def wl_X7_breathe_107 (N : M2) (P : M2) (C2 : M2 → Int32 → Prop) (K : M2 → Prop) : Nat → M2 → Int32 → Int32 → Int32 → Int32 → Int32 → Prop
  | 0, _, _, _, _, _, _ => False
  | n + 1, S, v1, v3, v4, v5, v6 => ((v5 ≤ v6 → (∀ v1_138 : Int32, v1_138 = v1 + 1 → C2 S v1_138)) ∧ (¬ v5 ≤ v6 → (inb v4 8 ∧ inb v6 2 ∧ (∀ v7_119, v7_119 = P (310 + v4.toInt.toNat) v6.toInt.toNat → (inb v7_119 6 ∧ (inb v7_119 6 ∧ ∀ S_131 : M2, S_131 = up2 S 203 (upd (S 203) v7_119.toInt.toNat ((S 203 v7_119.toInt.toNat) + v3)) → (∀ v6_132 : Int32, v6_132 = v6 + 1 → wl_X7_breathe_107 N P C2 K n S_131 v1 v3 v4 v5 v6_132)))))))
def wj_X7_breathe_84 (N : M2) (P : M2) (C2 : M2 → Int32 → Prop) (K : M2 → Prop) (S : M2) (v1 : Int32) (q0 : Int32) : Prop := (inb v1 8 ∧ (inb v1 8 ∧ (∀ v5_102, v5_102 = Int32.ofNat 2 → wl_X7_breathe_107 N P C2 K fK S v1 q0 v1 v5_102 0)))
def wl_X7_breathe_2 (N : M2) (P : M2) (K : M2 → Prop) : Nat → M2 → Int32 → Prop
  | 0, _, _ => False
  | n + 1, S, v1 => (((P 252 0) ≤ v1 → wl_X7_breathe_146 N P K fK S 0) ∧ (¬ (P 252 0) ≤ v1 → (inb v1 8 ∧ (((S 206 v1.toInt.toNat) = 1 → (inb v1 8 ∧ (∀ v2_35, v2_35 = S 209 v1.toInt.toNat → (inb v2_35 60 ∧ (inb v2_35 60 ∧ ∀ S_54 : M2, S_54 = up2 S 202 (upd (S 202) v2_35.toInt.toNat (mxv 0 ((S 202 v2_35.toInt.toNat) - 6))) → (inb v2_35 60 ∧ ((40 ≤ (S_54 202 v2_35.toInt.toNat) → wj_X7_breathe_84 N P (wl_X7_breathe_2 N P K n) K S_54 v1 1) ∧ (¬ 40 ≤ (S_54 202 v2_35.toInt.toNat) → (inb v2_35 60 ∧ wj_X7_breathe_84 N P (wl_X7_breathe_2 N P K n) K S_54 v1 (((-1)) - ((40 - (S_54 202 v2_35.toInt.toNat)) / 10))))))))))) ∧ (¬ (S 206 v1.toInt.toNat) = 1 → (∀ v1_138 : Int32, v1_138 = v1 + 1 → wl_X7_breathe_2 N P K n S v1_138))))))
def wp_X7_breathe (N : M2) (P : M2) (S : M2) (K : M2 → Prop) : Prop := wl_X7_breathe_2 N P K fK S 0
set_option maxRecDepth 100000 in
set_option maxHeartbeats 4000000 in
theorem c_X7_breathe (l : Launch) (D : va_G) (Z : Nat → ClassId) (a q g : Nat → Nat) (rg sa aa : Nat) (N P : M2) (S : M2) (sz : Nat) (K : M2 → Prop) (hm : wp_X7_breathe N P S K) : Met l yX7_breathe (wy yX7_breathe cX7_breathe 8 none) (rk 2 0 0) (pre vwCl D Z (SW Z a q g rg sa aa N P S) sz [.ref (a 200)]) (poV vwCl D Z (SW Z a q g rg sa aa N P) S sz K) 0 0 (va_A (SW Z a q g rg sa aa N P S) sz) := by
  refine rwv_of (wsF := (SW Z a q g rg sa aa N P)) (u0 := S) (by decide +kernel) (Nat.le_of_ble_eq_true rfl) rfl ?_
  intro p e s m args below meth c Q A hC hN hsz hnm hT hK hret ls hl
  have hx := hC.1
  have hb := hC.2.1
  have hl : lv_has ls 8 [(0, .ref (a 200))] := hl
  have hT : TS vwCl D (SW Z a q g rg sa aa N P S) A s.heap s.heap [] := hT
  have L146 : ∀ (n146 : Nat), ∀ (S : M2) (v1 : Int32) (H : Heap) (locs : List Loc) (ls : Array Slot), wl_X7_breathe_146 N P K n146 S v1 → TS vwCl D (SW Z a q g rg sa aa N P S) A s.heap H locs → lv_has ls 8 [(0, .ref (a 200)), (1, .int v1)] → W p l e (rk 2 0 0) s m args below meth c H locs 0 0 Q (F0 m 146 ls []) := by
    intro n146
    induction n146 with
    | zero =>
      intro S v1 H locs ls hm hT hl
      exact False.elim hm
    | succ n146 ih146 =>
      have L181 : ∀ (S : M2) (v1 : Int32) (q0 : Int32) (q1 : Int32) (q2 : Int32) (H : Heap) (locs : List Loc) (ls : Array Slot), wj_X7_breathe_181 N P (wl_X7_breathe_146 N P K n146) K S v1 q0 q1 q2 → TS vwCl D (SW Z a q g rg sa aa N P S) A s.heap H locs → lv_has ls 8 [(0, .ref (a 200)), (1, .int v1)] → W p l e (rk 2 0 0) s m args below meth c H locs 0 0 Q (F0 m 181 ls [.int q0, .int q1, .int q2, .ref (a 203)]) := by
        intro S v1 q0 q1 q2 H locs ls hm hT hl
        refine lv_iadd hx hb dX7_breathe_181 ?_
        refine sSW_breath hC hK hT hm.1 dX7_breathe_182 (fun S_182 eS_182 H locs hT => ?_)
        have hm := hm.2 S_182 eS_182
        refine lv_aload_n hx hb dX7_breathe_183 rfl (lv_at hl 0 rfl) ?_
        refine gSW_st_3 hC hK hT.1 wq_1362 dX7_breathe_184 ?_
        refine lv_iload_n hx hb dX7_breathe_187 rfl (lv_at hl 1 rfl) ?_
        refine lv_iconst (v := 0) hx hb dX7_breathe_188 (by decide) ?_
        refine lv_bipush (v := 10) hx hb dX7_breathe_189 (by decide) ?_
        refine lv_aload_n hx hb dX7_breathe_191 rfl (lv_at hl 0 rfl) ?_
        refine gSW_st_14 hC hK hT.1 wq_1383 dX7_breathe_192 ?_
        refine gNSW_mod_11 hC hN hK hT.1 wn_1431 dX7_breathe_195 ?_
        refine gNSW_plan_11 hC hN hK hT.1 wn_1257 dX7_breathe_198 ?_
        refine lv_iload_n hx hb dX7_breathe_201 rfl (lv_at hl 1 rfl) ?_
        refine w_iald (q0 := 21) hC hK hT.1 rfl hm.1 dX7_breathe_202 ?_
        have hm := hm.2
        refine lv_imul hx hb dX7_breathe_203 ?_
        refine lv_aload_n hx hb dX7_breathe_204 rfl (lv_at hl 0 rfl) ?_
        refine gSW_st_3 hC hK hT.1 wq_1362 dX7_breathe_205 ?_
        refine lv_iload_n hx hb dX7_breathe_208 rfl (lv_at hl 1 rfl) ?_
        refine w_iald (q0 := 2) hC hK hT.1 rfl hm.1 dX7_breathe_209 ?_
        have hm := hm.2
        refine w_min hC wq_1911 (by decide) (Nat.le_of_ble_eq_true rfl) hl.1 ⟨Nat.le_refl _, Nat.le_refl _⟩ dX7_breathe_210 ?_
        refine w_max hC wq_1910 (by decide) (Nat.le_of_ble_eq_true rfl) hl.1 ⟨Nat.le_refl _, Nat.le_refl _⟩ dX7_breathe_213 ?_
        refine sSW_breath hC hK hT hm.1 dX7_breathe_216 (fun S_216 eS_216 H locs hT => ?_)
        have hm := hm.2 S_216 eS_216
        obtain ⟨v1_217, ev1_217⟩ : ∃ y : Int32, y = v1 + 1 := ⟨_, rfl⟩
        have hm := hm v1_217 ev1_217
        refine lv_iinc (v := v1_217) (lv' := [(1, .int v1_217), (0, .ref (a 200))]) hx hb dX7_breathe_217 hl (k := 1) rfl (by rw [ev1_217]; rfl) (by decide) rfl (fun ls hl => ?_)
        refine lv_goto (tgt := 146) hx hb dX7_breathe_220 (by decide) ?_
        exact ih146 _ _ _ _ _ hm hT (lv_sub hl [1, 0] rfl)
      intro S v1 H locs ls hm hT hl
      refine lv_iload_n hx hb dX7_breathe_146 rfl (lv_at hl 1 rfl) ?_
      refine lv_aload_n hx hb dX7_breathe_147 rfl (lv_at hl 0 rfl) ?_
      refine gSW_st_14 hC hK hT.1 wq_1383 dX7_breathe_148 ?_
      refine gNSW_mod_11 hC hN hK hT.1 wn_1431 dX7_breathe_151 ?_
      refine gNSW_plan_9 hC hN hK hT.1 wn_1252 dX7_breathe_154 ?_
      refine lv_icmp_ge (tgt := 223) hx hb dX7_breathe_157 (by decide) (fun c_157 => ?_) (fun c_157 => ?_)
      · have hm := hm.1 c_157
        exact hret 223 _ _ _ _ hm hT dX7_breathe_223
      · have hm := hm.2 c_157
        refine lv_aload_n hx hb dX7_breathe_160 rfl (lv_at hl 0 rfl) ?_
        refine gSW_st_3 hC hK hT.1 wq_1362 dX7_breathe_161 ?_
        refine lv_iload_n hx hb dX7_breathe_164 rfl (lv_at hl 1 rfl) ?_
        refine lv_dup2_11 hx hb dX7_breathe_165 rfl rfl ?_
        refine w_iald (q0 := 2) hC hK hT.1 rfl hm.1 dX7_breathe_166 ?_
        have hm := hm.2
        refine lv_aload_n hx hb dX7_breathe_167 rfl (lv_at hl 0 rfl) ?_
        refine lv_iload_n hx hb dX7_breathe_168 rfl (lv_at hl 1 rfl) ?_
        refine k_X7_boatOf hC hN hK hT.1 hT.D' hm wq_1817 (by decide) hl.1 (Nat.le_of_ble_eq_true rfl) ⟨Nat.le_refl _, Nat.le_refl _⟩ dX7_breathe_169 (fun r_169 hm => ?_)
        refine lv_iconst (v := (-1)) hx hb dX7_breathe_172 (by decide) ?_
        refine lv_icmp_ne (tgt := 180) hx hb dX7_breathe_173 (by decide) (fun c_173 => ?_) (fun c_173 => ?_)
        · have hm := hm.1 c_173
          refine lv_iconst (v := 0) hx hb dX7_breathe_180 (by decide) ?_
          exact L181 _ _ _ _ _ _ _ _ hm hT (lv_sub hl [0, 1] rfl)
        · have hm := hm.2 c_173
          refine lv_iconst (v := 2) hx hb dX7_breathe_176 (by decide) ?_
          refine lv_goto (tgt := 181) hx hb dX7_breathe_177 (by decide) ?_
          exact L181 _ _ _ _ _ _ _ _ hm hT (lv_sub hl [0, 1] rfl)
  have L2 : ∀ (n2 : Nat), ∀ (S : M2) (v1 : Int32) (H : Heap) (locs : List Loc) (ls : Array Slot), wl_X7_breathe_2 N P K n2 S v1 → TS vwCl D (SW Z a q g rg sa aa N P S) A s.heap H locs → lv_has ls 8 [(0, .ref (a 200)), (1, .int v1)] → W p l e (rk 2 0 0) s m args below meth c H locs 0 0 Q (F0 m 2 ls []) := by
    intro n2
    induction n2 with
    | zero =>
      intro S v1 H locs ls hm hT hl
      exact False.elim hm
    | succ n2 ih2 =>
      have L107 : ∀ (n107 : Nat), ∀ (S : M2) (v1 : Int32) (v3 : Int32) (v4 : Int32) (v5 : Int32) (v6 : Int32) (H : Heap) (locs : List Loc) (ls : Array Slot), wl_X7_breathe_107 N P (wl_X7_breathe_2 N P K n2) K n107 S v1 v3 v4 v5 v6 → TS vwCl D (SW Z a q g rg sa aa N P S) A s.heap H locs → lv_has ls 8 [(0, .ref (a 200)), (1, .int v1), (3, .int v3), (4, .ref (q (310 + v4.toInt.toNat))), (5, .int v5), (6, .int v6)] → W p l e (rk 2 0 0) s m args below meth c H locs 0 0 Q (F0 m 107 ls []) := by
        intro n107
        induction n107 with
        | zero =>
          intro S v1 v3 v4 v5 v6 H locs ls hm hT hl
          exact False.elim hm
        | succ n107 ih107 =>
          intro S v1 v3 v4 v5 v6 H locs ls hm hT hl
          refine lv_iload hx hb dX7_breathe_107 (lv_at hl 5 rfl) ?_
          refine lv_iload hx hb dX7_breathe_109 (lv_at hl 4 rfl) ?_
          refine lv_icmp_ge (tgt := 138) hx hb dX7_breathe_111 (by decide) (fun c_111 => ?_) (fun c_111 => ?_)
          · have hm := hm.1 c_111
            obtain ⟨v1_138, ev1_138⟩ : ∃ y : Int32, y = v1 + 1 := ⟨_, rfl⟩
            have hm := hm v1_138 ev1_138
            refine lv_iinc (v := v1_138) (lv' := [(1, .int v1_138), (0, .ref (a 200)), (3, .int v3), (4, .ref (q (310 + v4.toInt.toNat))), (5, .int v5), (6, .int v6)]) hx hb dX7_breathe_138 hl (k := 1) rfl (by rw [ev1_138]; rfl) (by decide) rfl (fun ls hl => ?_)
            refine lv_goto (tgt := 2) hx hb dX7_breathe_141 (by decide) ?_
            exact ih2 _ _ _ _ _ hm hT (lv_sub hl [1, 0] rfl)
          · have hm := hm.2 c_111
            refine lv_aload hx hb dX7_breathe_114 (lv_at hl 3 rfl) ?_
            refine lv_iload hx hb dX7_breathe_116 (lv_at hl 5 rfl) ?_
            refine wrl_SW hC hK hT.1 hm.1 hm.2.1 dX7_breathe_118 ?_
            have hm := hm.2.2
            refine lv_topi (fun v7_119 ev7_119 => ?_)
            have hm := hm v7_119 ev7_119
            refine lv_istore (lv' := [(7, .int v7_119), (0, .ref (a 200)), (1, .int v1), (3, .int v3), (4, .ref (q (310 + v4.toInt.toNat))), (5, .int v5), (6, .int v6)]) hx hb dX7_breathe_119 hl (by decide) rfl (fun ls hl => ?_)
            refine lv_aload_n hx hb dX7_breathe_121 rfl (lv_at hl 1 rfl) ?_
            refine gSW_st_3 hC hK hT.1 wq_1362 dX7_breathe_122 ?_
            refine lv_iload hx hb dX7_breathe_125 (lv_at hl 0 rfl) ?_
            refine lv_dup2_11 hx hb dX7_breathe_127 rfl rfl ?_
            refine w_iald (q0 := 2) hC hK hT.1 rfl hm.1 dX7_breathe_128 ?_
            have hm := hm.2
            refine lv_iload_n hx hb dX7_breathe_129 rfl (lv_at hl 3 rfl) ?_
            refine lv_iadd hx hb dX7_breathe_130 ?_
            refine sSW_breath hC hK hT hm.1 dX7_breathe_131 (fun S_131 eS_131 H locs hT => ?_)
            have hm := hm.2 S_131 eS_131
            obtain ⟨v6_132, ev6_132⟩ : ∃ y : Int32, y = v6 + 1 := ⟨_, rfl⟩
            have hm := hm v6_132 ev6_132
            refine lv_iinc (v := v6_132) (lv' := [(6, .int v6_132), (7, .int v7_119), (0, .ref (a 200)), (1, .int v1), (3, .int v3), (4, .ref (q (310 + v4.toInt.toNat))), (5, .int v5)]) hx hb dX7_breathe_132 hl (k := 6) rfl (by rw [ev6_132]; rfl) (by decide) rfl (fun ls hl => ?_)
            refine lv_goto (tgt := 107) hx hb dX7_breathe_135 (by decide) ?_
            exact ih107 _ _ _ _ _ _ _ _ _ hm hT (lv_sub hl [2, 3, 4, 5, 6, 0] rfl)
      have L84 : ∀ (S : M2) (v1 : Int32) (q0 : Int32) (H : Heap) (locs : List Loc) (ls : Array Slot), wj_X7_breathe_84 N P (wl_X7_breathe_2 N P K n2) K S v1 q0 → TS vwCl D (SW Z a q g rg sa aa N P S) A s.heap H locs → lv_has ls 8 [(0, .ref (a 200)), (1, .int v1)] → W p l e (rk 2 0 0) s m args below meth c H locs 0 0 Q (F0 m 84 ls [.int q0]) := by
        intro S v1 q0 H locs ls hm hT hl
        refine lv_istore_n (lv' := [(3, .int q0), (0, .ref (a 200)), (1, .int v1)]) hx hb dX7_breathe_84 rfl hl (by decide) rfl (fun ls hl => ?_)
        refine lv_aload_n hx hb dX7_breathe_85 rfl (lv_at hl 1 rfl) ?_
        refine gSW_st_14 hC hK hT.1 wq_1383 dX7_breathe_86 ?_
        refine gNSW_mod_11 hC hN hK hT.1 wn_1431 dX7_breathe_89 ?_
        refine gNSW_plan_16 hC hN hK hT.1 wn_1271 dX7_breathe_92 ?_
        refine lv_iload_n hx hb dX7_breathe_95 rfl (lv_at hl 2 rfl) ?_
        refine w_aaldR (q0 := 25) hC hK hT.1 rfl hm.1 dX7_breathe_96 ?_
        have hm := hm.2
        refine lv_astore (lv' := [(4, .ref (q (310 + v1.toInt.toNat))), (3, .int q0), (0, .ref (a 200)), (1, .int v1)]) hx hb dX7_breathe_97 hl (by decide) rfl (fun ls hl => ?_)
        refine lv_aload hx hb dX7_breathe_99 (lv_at hl 0 rfl) ?_
        refine wrn_SW hC hK hT.1 hm.1 dX7_breathe_101 ?_
        have hm := hm.2
        refine lv_topi (fun v5_102 ev5_102 => ?_)
        have hm := hm v5_102 ev5_102
        refine lv_istore (lv' := [(5, .int v5_102), (4, .ref (q (310 + v1.toInt.toNat))), (3, .int q0), (0, .ref (a 200)), (1, .int v1)]) hx hb dX7_breathe_102 hl (by decide) rfl (fun ls hl => ?_)
        refine lv_iconst (v := 0) hx hb dX7_breathe_104 (by decide) ?_
        refine lv_istore (lv' := [(6, .int 0), (5, .int v5_102), (4, .ref (q (310 + v1.toInt.toNat))), (3, .int q0), (0, .ref (a 200)), (1, .int v1)]) hx hb dX7_breathe_105 hl (by decide) rfl (fun ls hl => ?_)
        exact L107 _ _ _ _ _ _ _ _ _ _ hm hT (lv_sub hl [4, 5, 3, 2, 1, 0] rfl)
      intro S v1 H locs ls hm hT hl
      refine lv_iload_n hx hb dX7_breathe_2 rfl (lv_at hl 1 rfl) ?_
      refine lv_aload_n hx hb dX7_breathe_3 rfl (lv_at hl 0 rfl) ?_
      refine gSW_st_14 hC hK hT.1 wq_1383 dX7_breathe_4 ?_
      refine gNSW_mod_11 hC hN hK hT.1 wn_1431 dX7_breathe_7 ?_
      refine gNSW_plan_12 hC hN hK hT.1 wn_1259 dX7_breathe_10 ?_
      refine lv_icmp_ge (tgt := 144) hx hb dX7_breathe_13 (by decide) (fun c_13 => ?_) (fun c_13 => ?_)
      · have hm := hm.1 c_13
        refine lv_iconst (v := 0) hx hb dX7_breathe_144 (by decide) ?_
        refine lv_istore_n (lv' := [(1, .int 0), (0, .ref (a 200))]) hx hb dX7_breathe_145 rfl hl (by decide) rfl (fun ls hl => ?_)
        exact L146 _ _ _ _ _ _ hm hT (lv_sub hl [1, 0] rfl)
      · have hm := hm.2 c_13
        refine lv_aload_n hx hb dX7_breathe_16 rfl (lv_at hl 0 rfl) ?_
        refine gSW_st_6 hC hK hT.1 wq_1368 dX7_breathe_17 ?_
        refine lv_iload_n hx hb dX7_breathe_20 rfl (lv_at hl 1 rfl) ?_
        refine w_iald (q0 := 5) hC hK hT.1 rfl hm.1 dX7_breathe_21 ?_
        have hm := hm.2
        refine lv_iconst (v := 1) hx hb dX7_breathe_22 (by decide) ?_
        refine lv_icmp_eq (tgt := 29) hx hb dX7_breathe_23 (by decide) (fun c_23 => ?_) (fun c_23 => ?_)
        · have hm := hm.1 c_23
          refine lv_aload_n hx hb dX7_breathe_29 rfl (lv_at hl 0 rfl) ?_
          refine gSW_st_9 hC hK hT.1 wq_1374 dX7_breathe_30 ?_
          refine lv_iload_n hx hb dX7_breathe_33 rfl (lv_at hl 1 rfl) ?_
          refine w_iald (q0 := 8) hC hK hT.1 rfl hm.1 dX7_breathe_34 ?_
          have hm := hm.2
          refine lv_topi (fun v2_35 ev2_35 => ?_)
          have hm := hm v2_35 ev2_35
          refine lv_istore_n (lv' := [(2, .int v2_35), (0, .ref (a 200)), (1, .int v1)]) hx hb dX7_breathe_35 rfl hl (by decide) rfl (fun ls hl => ?_)
          refine lv_aload_n hx hb dX7_breathe_36 rfl (lv_at hl 1 rfl) ?_
          refine gSW_st_2 hC hK hT.1 wq_1360 dX7_breathe_37 ?_
          refine lv_iload_n hx hb dX7_breathe_40 rfl (lv_at hl 0 rfl) ?_
          refine lv_iconst (v := 0) hx hb dX7_breathe_41 (by decide) ?_
          refine lv_aload_n hx hb dX7_breathe_42 rfl (lv_at hl 1 rfl) ?_
          refine gSW_st_2 hC hK hT.1 wq_1360 dX7_breathe_43 ?_
          refine lv_iload_n hx hb dX7_breathe_46 rfl (lv_at hl 0 rfl) ?_
          refine w_iald (q0 := 1) hC hK hT.1 rfl hm.1 dX7_breathe_47 ?_
          have hm := hm.2
          refine lv_bipush (v := 6) hx hb dX7_breathe_48 (by decide) ?_
          refine lv_isub hx hb dX7_breathe_50 ?_
          refine w_max hC wq_1910 (by decide) (Nat.le_of_ble_eq_true rfl) hl.1 ⟨Nat.le_refl _, Nat.le_refl _⟩ dX7_breathe_51 ?_
          refine sSW_air hC hK hT hm.1 dX7_breathe_54 (fun S_54 eS_54 H locs hT => ?_)
          have hm := hm.2 S_54 eS_54
          refine lv_aload_n hx hb dX7_breathe_55 rfl (lv_at hl 1 rfl) ?_
          refine gSW_st_2 hC hK hT.1 wq_1360 dX7_breathe_56 ?_
          refine lv_iload_n hx hb dX7_breathe_59 rfl (lv_at hl 0 rfl) ?_
          refine w_iald (q0 := 1) hC hK hT.1 rfl hm.1 dX7_breathe_60 ?_
          have hm := hm.2
          refine lv_bipush (v := 40) hx hb dX7_breathe_61 (by decide) ?_
          refine lv_icmp_ge (tgt := 83) hx hb dX7_breathe_63 (by decide) (fun c_63 => ?_) (fun c_63 => ?_)
          · have hm := hm.1 c_63
            refine lv_iconst (v := 1) hx hb dX7_breathe_83 (by decide) ?_
            exact L84 _ _ _ _ _ _ hm hT (lv_sub hl [1, 2] rfl)
          · have hm := hm.2 c_63
            refine lv_iconst (v := (-1)) hx hb dX7_breathe_66 (by decide) ?_
            refine lv_bipush (v := 40) hx hb dX7_breathe_67 (by decide) ?_
            refine lv_aload_n hx hb dX7_breathe_69 rfl (lv_at hl 1 rfl) ?_
            refine gSW_st_2 hC hK hT.1 wq_1360 dX7_breathe_70 ?_
            refine lv_iload_n hx hb dX7_breathe_73 rfl (lv_at hl 0 rfl) ?_
            refine w_iald (q0 := 1) hC hK hT.1 rfl hm.1 dX7_breathe_74 ?_
            have hm := hm.2
            refine lv_isub hx hb dX7_breathe_75 ?_
            refine lv_bipush (v := 10) hx hb dX7_breathe_76 (by decide) ?_
            refine lv_idiv hx hb dX7_breathe_78 (by decide) ?_
            refine lv_isub hx hb dX7_breathe_79 ?_
            refine lv_goto (tgt := 84) hx hb dX7_breathe_80 (by decide) ?_
            exact L84 _ _ _ _ _ _ hm hT (lv_sub hl [1, 2] rfl)
        · have hm := hm.2 c_23
          refine lv_goto (tgt := 138) hx hb dX7_breathe_26 (by decide) ?_
          obtain ⟨v1_138, ev1_138⟩ : ∃ y : Int32, y = v1 + 1 := ⟨_, rfl⟩
          have hm := hm v1_138 ev1_138
          refine lv_iinc (v := v1_138) (lv' := [(1, .int v1_138), (0, .ref (a 200))]) hx hb dX7_breathe_138 hl (k := 1) rfl (by rw [ev1_138]; rfl) (by decide) rfl (fun ls hl => ?_)
          refine lv_goto (tgt := 2) hx hb dX7_breathe_141 (by decide) ?_
          exact ih2 _ _ _ _ _ hm hT (lv_sub hl [1, 0] rfl)
  refine lv_iconst (v := 0) hx hb dX7_breathe_0 (by decide) ?_
  refine lv_istore_n (lv' := [(1, .int 0), (0, .ref (a 200))]) hx hb dX7_breathe_1 rfl hl (by decide) rfl (fun ls hl => ?_)
  exact L2 _ _ _ _ _ _ hm hT (lv_sub hl [1, 0] rfl)
section KX7_breathe
variable {p : Program} {l : Launch} {e : Env} {s : State} {m : MethodId} {args : Array Value} {below : List Frame} {meth : Method} {c : Code} {H H0 : Heap} {locs : List Loc} {cells slots : Nat} {Q : State → Prop} {R : Room} {rn mcR msR : Nat}
variable {pc : Nat} {ls : Array Slot} {rest : List Value} {A : Nat → Prop} {D : va_G}
variable {cc : ByteArray} {nL index : Nat} {own host : String}
theorem k_X7_breathe {Z : Nat → ClassId} {a q g : Nat → Nat} {rg sa aa : Nat} {N P : M2} {S : M2} {K : M2 → Prop} (hC : CallFix p m c cc nL s args lw_g own) (hN : NW s) (hK : va_K D vwCl (tysG Z) s) (hT : TS vwCl D (SW Z a q g rg sa aa N P S) A H0 H locs) (hm : wp_X7_breathe N P S K) (hl : Cond.methodLink own index yX7_breathe ∈ lw_g) (hlt : 2 < rn) (hsize : ls.size = nL) (hW : (rest.map fun v => v.category).sum ≤ 8) (hf : cells + 0 ≤ mcR ∧ slots + 0 ≤ msR) (hdg : decode cc pc = .ok (.invokevirtual index, 3)) (kk : ∀ (S1 : M2) (H1 : Heap) (locs1 : List Loc), K S1 → TS vwCl D (SW Z a q g rg sa aa N P S1) A H0 H1 locs1 → W p l e (rk rn mcR msR) s m args below meth c H1 locs1 cells slots Q (F0 m (pc + 3) ls (rest))) : W p l e (rk rn mcR msR) s m args below meth c H locs cells slots Q (F0 m pc ls (.ref (a 200) :: rest)) :=
  rwv_go (wsF := (SW Z a q g rg sa aa N P)) (u0 := S) (wr := []) (isC := cutSW) (isR := []) (pm := cutSW) (ws' := (SW Z a q g rg sa aa N P)) (runV (As := []) hC hN (c_X7_breathe l D Z a q g rg sa aa N P S H.size K hm) mi_X7_breathe hl wq_1908 wq_121 hlt hT.1 hT.D' hK (q0 := 0) rfl rfl rfl hsize rfl hW hdg hf) (cutOkSW Z a q g rg sa aa N P S) hT (fun u H1 locs1 hk hT1 => kk u H1 locs1 hk hT1)
end KX7_breathe
def wl_X7_draw_2 (N : M2) (P : M2) (K : M2 → Prop) : Nat → M2 → Int32 → Int32 → Prop
  | 0, _, _, _ => False
  | n + 1, S, v1, v2 => (((P 241 0) ≤ v2 → K S) ∧ (¬ (P 241 0) ≤ v2 → (inb v1 4 ∧ (inb v1 4 ∧ (∀ v3_48, v3_48 = (P 248 v1.toInt.toNat) - (2 * (abv (v2 - (P 247 v1.toInt.toNat)))) → ((v3_48 ≤ 0 → (∀ v2_72 : Int32, v2_72 = v2 + 1 → wl_X7_draw_2 N P K n S v1 v2_72)) ∧ (¬ v3_48 ≤ 0 → (inb v2 60 ∧ (inb v2 60 ∧ ∀ S_71 : M2, S_71 = up2 S 202 (upd (S 202) v2.toInt.toNat (mnv 100 ((S 202 v2.toInt.toNat) + v3_48))) → (∀ v2_72 : Int32, v2_72 = v2 + 1 → wl_X7_draw_2 N P K n S_71 v1 v2_72))))))))))
def wp_X7_draw (N : M2) (P : M2) (S : M2) (x1 : Int32) (K : M2 → Prop) : Prop := wl_X7_draw_2 N P K fK S x1 0
set_option maxRecDepth 100000 in
set_option maxHeartbeats 4000000 in
theorem c_X7_draw (l : Launch) (D : va_G) (Z : Nat → ClassId) (a q g : Nat → Nat) (rg sa aa : Nat) (N P : M2) (S : M2) (sz : Nat) (x1 : Int32) (K : M2 → Prop) (hm : wp_X7_draw N P S x1 K) : Met l yX7_draw (wy yX7_draw cX7_draw 4 none) (rk 1 0 0) (pre vwCl D Z (SW Z a q g rg sa aa N P S) sz [.ref (a 200), .int x1]) (poV vwCl D Z (SW Z a q g rg sa aa N P) S sz K) 0 0 (va_A (SW Z a q g rg sa aa N P S) sz) := by
  refine rwv_of (wsF := (SW Z a q g rg sa aa N P)) (u0 := S) (by decide +kernel) (Nat.le_of_ble_eq_true rfl) rfl ?_
  intro p e s m args below meth c Q A hC hN hsz hnm hT hK hret ls hl
  have hx := hC.1
  have hb := hC.2.1
  have hl : lv_has ls 4 [(0, .ref (a 200)), (1, .int x1)] := hl
  have hT : TS vwCl D (SW Z a q g rg sa aa N P S) A s.heap s.heap [] := hT
  have L2 : ∀ (n2 : Nat), ∀ (S : M2) (v1 : Int32) (v2 : Int32) (H : Heap) (locs : List Loc) (ls : Array Slot), wl_X7_draw_2 N P K n2 S v1 v2 → TS vwCl D (SW Z a q g rg sa aa N P S) A s.heap H locs → lv_has ls 4 [(0, .ref (a 200)), (1, .int v1), (2, .int v2)] → W p l e (rk 1 0 0) s m args below meth c H locs 0 0 Q (F0 m 2 ls []) := by
    intro n2
    induction n2 with
    | zero =>
      intro S v1 v2 H locs ls hm hT hl
      exact False.elim hm
    | succ n2 ih2 =>
      intro S v1 v2 H locs ls hm hT hl
      refine lv_iload_n hx hb dX7_draw_2 rfl (lv_at hl 2 rfl) ?_
      refine lv_aload_n hx hb dX7_draw_3 rfl (lv_at hl 0 rfl) ?_
      refine gSW_st_14 hC hK hT.1 wq_1383 dX7_draw_4 ?_
      refine gNSW_mod_11 hC hN hK hT.1 wn_1431 dX7_draw_7 ?_
      refine gNSW_plan_1 hC hN hK hT.1 wn_1231 dX7_draw_10 ?_
      refine lv_icmp_ge (tgt := 78) hx hb dX7_draw_13 (by decide) (fun c_13 => ?_) (fun c_13 => ?_)
      · have hm := hm.1 c_13
        exact hret 78 _ _ _ _ hm hT dX7_draw_78
      · have hm := hm.2 c_13
        refine lv_aload_n hx hb dX7_draw_16 rfl (lv_at hl 0 rfl) ?_
        refine gSW_st_14 hC hK hT.1 wq_1383 dX7_draw_17 ?_
        refine gNSW_mod_11 hC hN hK hT.1 wn_1431 dX7_draw_20 ?_
        refine gNSW_plan_8 hC hN hK hT.1 wn_1249 dX7_draw_23 ?_
        refine lv_iload_n hx hb dX7_draw_26 rfl (lv_at hl 1 rfl) ?_
        refine w_iald (q0 := 19) hC hK hT.1 rfl hm.1 dX7_draw_27 ?_
        have hm := hm.2
        refine lv_iconst (v := 2) hx hb dX7_draw_28 (by decide) ?_
        refine lv_iload_n hx hb dX7_draw_29 rfl (lv_at hl 2 rfl) ?_
        refine lv_aload_n hx hb dX7_draw_30 rfl (lv_at hl 0 rfl) ?_
        refine gSW_st_14 hC hK hT.1 wq_1383 dX7_draw_31 ?_
        refine gNSW_mod_11 hC hN hK hT.1 wn_1431 dX7_draw_34 ?_
        refine gNSW_plan_7 hC hN hK hT.1 wn_1246 dX7_draw_37 ?_
        refine lv_iload_n hx hb dX7_draw_40 rfl (lv_at hl 1 rfl) ?_
        refine w_iald (q0 := 18) hC hK hT.1 rfl hm.1 dX7_draw_41 ?_
        have hm := hm.2
        refine lv_isub hx hb dX7_draw_42 ?_
        refine w_abs hC wq_1916 (by decide) (Nat.le_of_ble_eq_true rfl) hl.1 ⟨Nat.le_refl _, Nat.le_refl _⟩ dX7_draw_43 ?_
        refine lv_imul hx hb dX7_draw_46 ?_
        refine lv_isub hx hb dX7_draw_47 ?_
        refine lv_topi (fun v3_48 ev3_48 => ?_)
        have hm := hm v3_48 ev3_48
        refine lv_istore_n (lv' := [(3, .int v3_48), (0, .ref (a 200)), (1, .int v1), (2, .int v2)]) hx hb dX7_draw_48 rfl hl (by decide) rfl (fun ls hl => ?_)
        refine lv_iload_n hx hb dX7_draw_49 rfl (lv_at hl 0 rfl) ?_
        refine lv_if_le (tgt := 72) hx hb dX7_draw_50 (by decide) (fun c_50 => ?_) (fun c_50 => ?_)
        · have hm := hm.1 c_50
          obtain ⟨v2_72, ev2_72⟩ : ∃ y : Int32, y = v2 + 1 := ⟨_, rfl⟩
          have hm := hm v2_72 ev2_72
          refine lv_iinc (v := v2_72) (lv' := [(2, .int v2_72), (3, .int v3_48), (0, .ref (a 200)), (1, .int v1)]) hx hb dX7_draw_72 hl (k := 3) rfl (by rw [ev2_72]; rfl) (by decide) rfl (fun ls hl => ?_)
          refine lv_goto (tgt := 2) hx hb dX7_draw_75 (by decide) ?_
          exact ih2 _ _ _ _ _ _ hm hT (lv_sub hl [2, 3, 0] rfl)
        · have hm := hm.2 c_50
          refine lv_aload_n hx hb dX7_draw_53 rfl (lv_at hl 1 rfl) ?_
          refine gSW_st_2 hC hK hT.1 wq_1360 dX7_draw_54 ?_
          refine lv_iload_n hx hb dX7_draw_57 rfl (lv_at hl 3 rfl) ?_
          refine lv_bipush (v := 100) hx hb dX7_draw_58 (by decide) ?_
          refine lv_aload_n hx hb dX7_draw_60 rfl (lv_at hl 1 rfl) ?_
          refine gSW_st_2 hC hK hT.1 wq_1360 dX7_draw_61 ?_
          refine lv_iload_n hx hb dX7_draw_64 rfl (lv_at hl 3 rfl) ?_
          refine w_iald (q0 := 1) hC hK hT.1 rfl hm.1 dX7_draw_65 ?_
          have hm := hm.2
          refine lv_iload_n hx hb dX7_draw_66 rfl (lv_at hl 0 rfl) ?_
          refine lv_iadd hx hb dX7_draw_67 ?_
          refine w_min hC wq_1911 (by decide) (Nat.le_of_ble_eq_true rfl) hl.1 ⟨Nat.le_refl _, Nat.le_refl _⟩ dX7_draw_68 ?_
          refine sSW_air hC hK hT hm.1 dX7_draw_71 (fun S_71 eS_71 H locs hT => ?_)
          have hm := hm.2 S_71 eS_71
          obtain ⟨v2_72, ev2_72⟩ : ∃ y : Int32, y = v2 + 1 := ⟨_, rfl⟩
          have hm := hm v2_72 ev2_72
          refine lv_iinc (v := v2_72) (lv' := [(2, .int v2_72), (3, .int v3_48), (0, .ref (a 200)), (1, .int v1)]) hx hb dX7_draw_72 hl (k := 3) rfl (by rw [ev2_72]; rfl) (by decide) rfl (fun ls hl => ?_)
          refine lv_goto (tgt := 2) hx hb dX7_draw_75 (by decide) ?_
          exact ih2 _ _ _ _ _ _ hm hT (lv_sub hl [2, 3, 0] rfl)
  refine lv_iconst (v := 0) hx hb dX7_draw_0 (by decide) ?_
  refine lv_istore_n (lv' := [(2, .int 0), (0, .ref (a 200)), (1, .int x1)]) hx hb dX7_draw_1 rfl hl (by decide) rfl (fun ls hl => ?_)
  exact L2 _ _ _ _ _ _ _ hm hT (lv_sub hl [1, 2, 0] rfl)
section KX7_draw
variable {p : Program} {l : Launch} {e : Env} {s : State} {m : MethodId} {args : Array Value} {below : List Frame} {meth : Method} {c : Code} {H H0 : Heap} {locs : List Loc} {cells slots : Nat} {Q : State → Prop} {R : Room} {rn mcR msR : Nat}
variable {pc : Nat} {ls : Array Slot} {rest : List Value} {A : Nat → Prop} {D : va_G}
variable {cc : ByteArray} {nL index : Nat} {own host : String}
theorem k_X7_draw {Z : Nat → ClassId} {a q g : Nat → Nat} {rg sa aa : Nat} {N P : M2} {S : M2} {x1 : Int32} {K : M2 → Prop} (hC : CallFix p m c cc nL s args lw_g own) (hN : NW s) (hK : va_K D vwCl (tysG Z) s) (hT : TS vwCl D (SW Z a q g rg sa aa N P S) A H0 H locs) (hm : wp_X7_draw N P S x1 K) (hl : Cond.methodLink own index yX7_draw ∈ lw_g) (hlt : 1 < rn) (hsize : ls.size = nL) (hW : (rest.map fun v => v.category).sum ≤ 8) (hf : cells + 0 ≤ mcR ∧ slots + 0 ≤ msR) (hdg : decode cc pc = .ok (.invokevirtual index, 3)) (kk : ∀ (S1 : M2) (H1 : Heap) (locs1 : List Loc), K S1 → TS vwCl D (SW Z a q g rg sa aa N P S1) A H0 H1 locs1 → W p l e (rk rn mcR msR) s m args below meth c H1 locs1 cells slots Q (F0 m (pc + 3) ls (rest))) : W p l e (rk rn mcR msR) s m args below meth c H locs cells slots Q (F0 m pc ls (.int x1 :: .ref (a 200) :: rest)) :=
  rwv_go (wsF := (SW Z a q g rg sa aa N P)) (u0 := S) (wr := []) (isC := cutSW) (isR := []) (pm := cutSW) (ws' := (SW Z a q g rg sa aa N P)) (runV (As := [.int x1]) hC hN (c_X7_draw l D Z a q g rg sa aa N P S H.size x1 K hm) mi_X7_draw hl wq_1914 wq_122 hlt hT.1 hT.D' hK (q0 := 0) rfl rfl rfl hsize rfl hW hdg hf) (cutOkSW Z a q g rg sa aa N P S) hT (fun u H1 locs1 hk hT1 => kk u H1 locs1 hk hT1)
end KX7_draw
def wl_X7_pass_101 (N : M2) (P : M2) (K : M2 → Prop) : Nat → M2 → Int32 → Prop
  | 0, _, _ => False
  | n + 1, S, v1 => (((P 249 0) ≤ v1 → (∀ S_146 : M2, S_146 = up2 S 200 (fun _ => (S 200 0) + 1) → K S_146)) ∧ (¬ (P 249 0) ≤ v1 → (inb v1 6 ∧ (inb v1 6 ∧ ∀ S_132 : M2, S_132 = up2 S 205 (upd (S 205) v1.toInt.toNat (mxv 0 ((S 205 v1.toInt.toNat) - 1))) → (∀ v1_133 : Int32, v1_133 = v1 + 1 → wl_X7_pass_101 N P K n S_132 v1_133)))))
def wl_X7_pass_74 (N : M2) (P : M2) (K : M2 → Prop) : Nat → M2 → Int32 → Prop
  | 0, _, _ => False
  | n + 1, S, v1 => (((P 246 0) ≤ v1 → wl_X7_pass_101 N P K fK S 0) ∧ (¬ (P 246 0) ≤ v1 → wp_X7_draw N P S v1 (fun S_90 => (∀ v1_93 : Int32, v1_93 = v1 + 1 → wl_X7_pass_74 N P K n S_90 v1_93))))
def wl_X7_pass_33 (N : M2) (P : M2) (K : M2 → Prop) : Nat → M2 → Int32 → Prop
  | 0, _, _ => False
  | n + 1, S, v1 => (((P 252 0) ≤ v1 → wp_X7_breathe N P S (fun S_69 => wl_X7_pass_74 N P K fK S_69 0)) ∧ (¬ (P 252 0) ≤ v1 → (inb v1 8 ∧ ((¬ (S 206 v1.toInt.toNat) = 1 → (∀ v1_62 : Int32, v1_62 = v1 + 1 → wl_X7_pass_33 N P K n S v1_62)) ∧ ((S 206 v1.toInt.toNat) = 1 → wp_X7_push N P S v1 (fun S_59 => (∀ v1_62 : Int32, v1_62 = v1 + 1 → wl_X7_pass_33 N P K n S_59 v1_62)))))))
def wl_X7_pass_6 (N : M2) (P : M2) (K : M2 → Prop) : Nat → M2 → Int32 → Prop
  | 0, _, _ => False
  | n + 1, S, v1 => (((P 252 0) ≤ v1 → wl_X7_pass_33 N P K fK S 0) ∧ (¬ (P 252 0) ≤ v1 → wp_X7_enter N P S v1 (fun S_22 => (∀ v1_25 : Int32, v1_25 = v1 + 1 → wl_X7_pass_6 N P K n S_22 v1_25))))
def wp_X7_pass (N : M2) (P : M2) (S : M2) (K : M2 → Prop) : Prop := wp_X7_blow N P S (fun S_1 => wl_X7_pass_6 N P K fK S_1 0)
set_option maxRecDepth 100000 in
set_option maxHeartbeats 4000000 in
theorem c_X7_pass (l : Launch) (D : va_G) (Z : Nat → ClassId) (a q g : Nat → Nat) (rg sa aa : Nat) (N P : M2) (S : M2) (sz : Nat) (K : M2 → Prop) (hm : wp_X7_pass N P S K) : Met l yX7_pass (wy yX7_pass cX7_pass 2 none) (rk 9 0 0) (pre vwCl D Z (SW Z a q g rg sa aa N P S) sz [.ref (a 200)]) (poV vwCl D Z (SW Z a q g rg sa aa N P) S sz K) 0 0 (va_A (SW Z a q g rg sa aa N P S) sz) := by
  refine rwv_of (wsF := (SW Z a q g rg sa aa N P)) (u0 := S) (by decide +kernel) (Nat.le_of_ble_eq_true rfl) rfl ?_
  intro p e s m args below meth c Q A hC hN hsz hnm hT hK hret ls hl
  have hx := hC.1
  have hb := hC.2.1
  have hl : lv_has ls 2 [(0, .ref (a 200))] := hl
  have hT : TS vwCl D (SW Z a q g rg sa aa N P S) A s.heap s.heap [] := hT
  have L101 : ∀ (n101 : Nat), ∀ (S : M2) (v1 : Int32) (H : Heap) (locs : List Loc) (ls : Array Slot), wl_X7_pass_101 N P K n101 S v1 → TS vwCl D (SW Z a q g rg sa aa N P S) A s.heap H locs → lv_has ls 2 [(0, .ref (a 200)), (1, .int v1)] → W p l e (rk 9 0 0) s m args below meth c H locs 0 0 Q (F0 m 101 ls []) := by
    intro n101
    induction n101 with
    | zero =>
      intro S v1 H locs ls hm hT hl
      exact False.elim hm
    | succ n101 ih101 =>
      intro S v1 H locs ls hm hT hl
      refine lv_iload_n hx hb dX7_pass_101 rfl (lv_at hl 1 rfl) ?_
      refine lv_aload_n hx hb dX7_pass_102 rfl (lv_at hl 0 rfl) ?_
      refine gSW_st_14 hC hK hT.1 wq_1383 dX7_pass_103 ?_
      refine gNSW_mod_11 hC hN hK hT.1 wn_1431 dX7_pass_106 ?_
      refine gNSW_plan_9 hC hN hK hT.1 wn_1252 dX7_pass_109 ?_
      refine lv_icmp_ge (tgt := 139) hx hb dX7_pass_112 (by decide) (fun c_112 => ?_) (fun c_112 => ?_)
      · have hm := hm.1 c_112
        refine lv_aload_n hx hb dX7_pass_139 rfl (lv_at hl 0 rfl) ?_
        refine lv_dup hx hb dX7_pass_140 rfl ?_
        refine gSW_st_0 hC hK hT.1 wq_1356 dX7_pass_141 ?_
        refine lv_iconst (v := 1) hx hb dX7_pass_144 (by decide) ?_
        refine lv_iadd hx hb dX7_pass_145 ?_
        refine pSW_st_0 hC hK hT wq_1356 dX7_pass_146 (fun S_146 eS_146 H locs hT => ?_)
        have hm := hm S_146 eS_146
        exact hret 149 _ _ _ _ hm hT dX7_pass_149
      · have hm := hm.2 c_112
        refine lv_aload_n hx hb dX7_pass_115 rfl (lv_at hl 0 rfl) ?_
        refine gSW_st_5 hC hK hT.1 wq_1366 dX7_pass_116 ?_
        refine lv_iload_n hx hb dX7_pass_119 rfl (lv_at hl 1 rfl) ?_
        refine lv_iconst (v := 0) hx hb dX7_pass_120 (by decide) ?_
        refine lv_aload_n hx hb dX7_pass_121 rfl (lv_at hl 0 rfl) ?_
        refine gSW_st_5 hC hK hT.1 wq_1366 dX7_pass_122 ?_
        refine lv_iload_n hx hb dX7_pass_125 rfl (lv_at hl 1 rfl) ?_
        refine w_iald (q0 := 4) hC hK hT.1 rfl hm.1 dX7_pass_126 ?_
        have hm := hm.2
        refine lv_iconst (v := 1) hx hb dX7_pass_127 (by decide) ?_
        refine lv_isub hx hb dX7_pass_128 ?_
        refine w_max hC wq_1910 (by decide) (Nat.le_of_ble_eq_true rfl) hl.1 ⟨Nat.le_refl _, Nat.le_refl _⟩ dX7_pass_129 ?_
        refine sSW_walks hC hK hT hm.1 dX7_pass_132 (fun S_132 eS_132 H locs hT => ?_)
        have hm := hm.2 S_132 eS_132
        obtain ⟨v1_133, ev1_133⟩ : ∃ y : Int32, y = v1 + 1 := ⟨_, rfl⟩
        have hm := hm v1_133 ev1_133
        refine lv_iinc (v := v1_133) (lv' := [(1, .int v1_133), (0, .ref (a 200))]) hx hb dX7_pass_133 hl (k := 1) rfl (by rw [ev1_133]; rfl) (by decide) rfl (fun ls hl => ?_)
        refine lv_goto (tgt := 101) hx hb dX7_pass_136 (by decide) ?_
        exact ih101 _ _ _ _ _ hm hT (lv_sub hl [1, 0] rfl)
  have L74 : ∀ (n74 : Nat), ∀ (S : M2) (v1 : Int32) (H : Heap) (locs : List Loc) (ls : Array Slot), wl_X7_pass_74 N P K n74 S v1 → TS vwCl D (SW Z a q g rg sa aa N P S) A s.heap H locs → lv_has ls 2 [(0, .ref (a 200)), (1, .int v1)] → W p l e (rk 9 0 0) s m args below meth c H locs 0 0 Q (F0 m 74 ls []) := by
    intro n74
    induction n74 with
    | zero =>
      intro S v1 H locs ls hm hT hl
      exact False.elim hm
    | succ n74 ih74 =>
      intro S v1 H locs ls hm hT hl
      refine lv_iload_n hx hb dX7_pass_74 rfl (lv_at hl 1 rfl) ?_
      refine lv_aload_n hx hb dX7_pass_75 rfl (lv_at hl 0 rfl) ?_
      refine gSW_st_14 hC hK hT.1 wq_1383 dX7_pass_76 ?_
      refine gNSW_mod_11 hC hN hK hT.1 wn_1431 dX7_pass_79 ?_
      refine gNSW_plan_6 hC hN hK hT.1 wn_1243 dX7_pass_82 ?_
      refine lv_icmp_ge (tgt := 99) hx hb dX7_pass_85 (by decide) (fun c_85 => ?_) (fun c_85 => ?_)
      · have hm := hm.1 c_85
        refine lv_iconst (v := 0) hx hb dX7_pass_99 (by decide) ?_
        refine lv_istore_n (lv' := [(1, .int 0), (0, .ref (a 200))]) hx hb dX7_pass_100 rfl hl (by decide) rfl (fun ls hl => ?_)
        exact L101 _ _ _ _ _ _ hm hT (lv_sub hl [1, 0] rfl)
      · have hm := hm.2 c_85
        refine lv_aload_n hx hb dX7_pass_88 rfl (lv_at hl 0 rfl) ?_
        refine lv_iload_n hx hb dX7_pass_89 rfl (lv_at hl 1 rfl) ?_
        refine k_X7_draw hC hN hK hT hm wq_1912 (by decide) hl.1 (Nat.le_of_ble_eq_true rfl) ⟨Nat.le_refl _, Nat.le_refl _⟩ dX7_pass_90 (fun S_90 H locs hm hT => ?_)
        obtain ⟨v1_93, ev1_93⟩ : ∃ y : Int32, y = v1 + 1 := ⟨_, rfl⟩
        have hm := hm v1_93 ev1_93
        refine lv_iinc (v := v1_93) (lv' := [(1, .int v1_93), (0, .ref (a 200))]) hx hb dX7_pass_93 hl (k := 1) rfl (by rw [ev1_93]; rfl) (by decide) rfl (fun ls hl => ?_)
        refine lv_goto (tgt := 74) hx hb dX7_pass_96 (by decide) ?_
        exact ih74 _ _ _ _ _ hm hT (lv_sub hl [1, 0] rfl)
  have L33 : ∀ (n33 : Nat), ∀ (S : M2) (v1 : Int32) (H : Heap) (locs : List Loc) (ls : Array Slot), wl_X7_pass_33 N P K n33 S v1 → TS vwCl D (SW Z a q g rg sa aa N P S) A s.heap H locs → lv_has ls 2 [(0, .ref (a 200)), (1, .int v1)] → W p l e (rk 9 0 0) s m args below meth c H locs 0 0 Q (F0 m 33 ls []) := by
    intro n33
    induction n33 with
    | zero =>
      intro S v1 H locs ls hm hT hl
      exact False.elim hm
    | succ n33 ih33 =>
      intro S v1 H locs ls hm hT hl
      refine lv_iload_n hx hb dX7_pass_33 rfl (lv_at hl 1 rfl) ?_
      refine lv_aload_n hx hb dX7_pass_34 rfl (lv_at hl 0 rfl) ?_
      refine gSW_st_14 hC hK hT.1 wq_1383 dX7_pass_35 ?_
      refine gNSW_mod_11 hC hN hK hT.1 wn_1431 dX7_pass_38 ?_
      refine gNSW_plan_12 hC hN hK hT.1 wn_1259 dX7_pass_41 ?_
      refine lv_icmp_ge (tgt := 68) hx hb dX7_pass_44 (by decide) (fun c_44 => ?_) (fun c_44 => ?_)
      · have hm := hm.1 c_44
        refine lv_aload_n hx hb dX7_pass_68 rfl (lv_at hl 0 rfl) ?_
        refine k_X7_breathe hC hN hK hT hm wq_1906 (by decide) hl.1 (Nat.le_of_ble_eq_true rfl) ⟨Nat.le_refl _, Nat.le_refl _⟩ dX7_pass_69 (fun S_69 H locs hm hT => ?_)
        refine lv_iconst (v := 0) hx hb dX7_pass_72 (by decide) ?_
        refine lv_istore_n (lv' := [(1, .int 0), (0, .ref (a 200))]) hx hb dX7_pass_73 rfl hl (by decide) rfl (fun ls hl => ?_)
        exact L74 _ _ _ _ _ _ hm hT (lv_sub hl [1, 0] rfl)
      · have hm := hm.2 c_44
        refine lv_aload_n hx hb dX7_pass_47 rfl (lv_at hl 0 rfl) ?_
        refine gSW_st_6 hC hK hT.1 wq_1368 dX7_pass_48 ?_
        refine lv_iload_n hx hb dX7_pass_51 rfl (lv_at hl 1 rfl) ?_
        refine w_iald (q0 := 5) hC hK hT.1 rfl hm.1 dX7_pass_52 ?_
        have hm := hm.2
        refine lv_iconst (v := 1) hx hb dX7_pass_53 (by decide) ?_
        refine lv_icmp_ne (tgt := 62) hx hb dX7_pass_54 (by decide) (fun c_54 => ?_) (fun c_54 => ?_)
        · have hm := hm.1 c_54
          obtain ⟨v1_62, ev1_62⟩ : ∃ y : Int32, y = v1 + 1 := ⟨_, rfl⟩
          have hm := hm v1_62 ev1_62
          refine lv_iinc (v := v1_62) (lv' := [(1, .int v1_62), (0, .ref (a 200))]) hx hb dX7_pass_62 hl (k := 1) rfl (by rw [ev1_62]; rfl) (by decide) rfl (fun ls hl => ?_)
          refine lv_goto (tgt := 33) hx hb dX7_pass_65 (by decide) ?_
          exact ih33 _ _ _ _ _ hm hT (lv_sub hl [1, 0] rfl)
        · have hm := hm.2 c_54
          refine lv_aload_n hx hb dX7_pass_57 rfl (lv_at hl 0 rfl) ?_
          refine lv_iload_n hx hb dX7_pass_58 rfl (lv_at hl 1 rfl) ?_
          refine k_X7_push hC hN hK hT hm wq_1897 (by decide) hl.1 (Nat.le_of_ble_eq_true rfl) ⟨Nat.le_refl _, Nat.le_refl _⟩ dX7_pass_59 (fun S_59 H locs hm hT => ?_)
          obtain ⟨v1_62, ev1_62⟩ : ∃ y : Int32, y = v1 + 1 := ⟨_, rfl⟩
          have hm := hm v1_62 ev1_62
          refine lv_iinc (v := v1_62) (lv' := [(1, .int v1_62), (0, .ref (a 200))]) hx hb dX7_pass_62 hl (k := 1) rfl (by rw [ev1_62]; rfl) (by decide) rfl (fun ls hl => ?_)
          refine lv_goto (tgt := 33) hx hb dX7_pass_65 (by decide) ?_
          exact ih33 _ _ _ _ _ hm hT (lv_sub hl [1, 0] rfl)
  have L6 : ∀ (n6 : Nat), ∀ (S : M2) (v1 : Int32) (H : Heap) (locs : List Loc) (ls : Array Slot), wl_X7_pass_6 N P K n6 S v1 → TS vwCl D (SW Z a q g rg sa aa N P S) A s.heap H locs → lv_has ls 2 [(0, .ref (a 200)), (1, .int v1)] → W p l e (rk 9 0 0) s m args below meth c H locs 0 0 Q (F0 m 6 ls []) := by
    intro n6
    induction n6 with
    | zero =>
      intro S v1 H locs ls hm hT hl
      exact False.elim hm
    | succ n6 ih6 =>
      intro S v1 H locs ls hm hT hl
      refine lv_iload_n hx hb dX7_pass_6 rfl (lv_at hl 1 rfl) ?_
      refine lv_aload_n hx hb dX7_pass_7 rfl (lv_at hl 0 rfl) ?_
      refine gSW_st_14 hC hK hT.1 wq_1383 dX7_pass_8 ?_
      refine gNSW_mod_11 hC hN hK hT.1 wn_1431 dX7_pass_11 ?_
      refine gNSW_plan_12 hC hN hK hT.1 wn_1259 dX7_pass_14 ?_
      refine lv_icmp_ge (tgt := 31) hx hb dX7_pass_17 (by decide) (fun c_17 => ?_) (fun c_17 => ?_)
      · have hm := hm.1 c_17
        refine lv_iconst (v := 0) hx hb dX7_pass_31 (by decide) ?_
        refine lv_istore_n (lv' := [(1, .int 0), (0, .ref (a 200))]) hx hb dX7_pass_32 rfl hl (by decide) rfl (fun ls hl => ?_)
        exact L33 _ _ _ _ _ _ hm hT (lv_sub hl [1, 0] rfl)
      · have hm := hm.2 c_17
        refine lv_aload_n hx hb dX7_pass_20 rfl (lv_at hl 0 rfl) ?_
        refine lv_iload_n hx hb dX7_pass_21 rfl (lv_at hl 1 rfl) ?_
        refine k_X7_enter hC hN hK hT hm wq_1888 (by decide) hl.1 (Nat.le_of_ble_eq_true rfl) ⟨Nat.le_refl _, Nat.le_refl _⟩ dX7_pass_22 (fun S_22 H locs hm hT => ?_)
        obtain ⟨v1_25, ev1_25⟩ : ∃ y : Int32, y = v1 + 1 := ⟨_, rfl⟩
        have hm := hm v1_25 ev1_25
        refine lv_iinc (v := v1_25) (lv' := [(1, .int v1_25), (0, .ref (a 200))]) hx hb dX7_pass_25 hl (k := 1) rfl (by rw [ev1_25]; rfl) (by decide) rfl (fun ls hl => ?_)
        refine lv_goto (tgt := 6) hx hb dX7_pass_28 (by decide) ?_
        exact ih6 _ _ _ _ _ hm hT (lv_sub hl [1, 0] rfl)
  refine lv_aload_n hx hb dX7_pass_0 rfl (lv_at hl 0 rfl) ?_
  refine k_X7_blow hC hN hK hT hm wq_1884 (by decide) hl.1 (Nat.le_of_ble_eq_true rfl) ⟨Nat.le_refl _, Nat.le_refl _⟩ dX7_pass_1 (fun S_1 H locs hm hT => ?_)
  refine lv_iconst (v := 0) hx hb dX7_pass_4 (by decide) ?_
  refine lv_istore_n (lv' := [(1, .int 0), (0, .ref (a 200))]) hx hb dX7_pass_5 rfl hl (by decide) rfl (fun ls hl => ?_)
  exact L6 _ _ _ _ _ _ hm hT (lv_sub hl [1, 0] rfl)
section KX7_pass
variable {p : Program} {l : Launch} {e : Env} {s : State} {m : MethodId} {args : Array Value} {below : List Frame} {meth : Method} {c : Code} {H H0 : Heap} {locs : List Loc} {cells slots : Nat} {Q : State → Prop} {R : Room} {rn mcR msR : Nat}
variable {pc : Nat} {ls : Array Slot} {rest : List Value} {A : Nat → Prop} {D : va_G}
variable {cc : ByteArray} {nL index : Nat} {own host : String}
theorem k_X7_pass {Z : Nat → ClassId} {a q g : Nat → Nat} {rg sa aa : Nat} {N P : M2} {S : M2} {K : M2 → Prop} (hC : CallFix p m c cc nL s args lw_g own) (hN : NW s) (hK : va_K D vwCl (tysG Z) s) (hT : TS vwCl D (SW Z a q g rg sa aa N P S) A H0 H locs) (hm : wp_X7_pass N P S K) (hl : Cond.methodLink own index yX7_pass ∈ lw_g) (hlt : 9 < rn) (hsize : ls.size = nL) (hW : (rest.map fun v => v.category).sum ≤ 8) (hf : cells + 0 ≤ mcR ∧ slots + 0 ≤ msR) (hdg : decode cc pc = .ok (.invokevirtual index, 3)) (kk : ∀ (S1 : M2) (H1 : Heap) (locs1 : List Loc), K S1 → TS vwCl D (SW Z a q g rg sa aa N P S1) A H0 H1 locs1 → W p l e (rk rn mcR msR) s m args below meth c H1 locs1 cells slots Q (F0 m (pc + 3) ls (rest))) : W p l e (rk rn mcR msR) s m args below meth c H locs cells slots Q (F0 m pc ls (.ref (a 200) :: rest)) :=
  rwv_go (wsF := (SW Z a q g rg sa aa N P)) (u0 := S) (wr := []) (isC := cutSW) (isR := []) (pm := cutSW) (ws' := (SW Z a q g rg sa aa N P)) (runV (As := []) hC hN (c_X7_pass l D Z a q g rg sa aa N P S H.size K hm) mi_X7_pass hl wq_1881 wq_1882 hlt hT.1 hT.D' hK (q0 := 0) rfl rfl rfl hsize rfl hW hdg hf) (cutOkSW Z a q g rg sa aa N P S) hT (fun u H1 locs1 hk hT1 => kk u H1 locs1 hk hT1)
end KX7_pass
def wl_X7_pass__2 (N : M2) (P : M2) (K : M2 → Prop) : Nat → M2 → Int32 → Int32 → Prop
  | 0, _, _, _ => False
  | n + 1, S, v1, v2 => ((v1 ≤ v2 → K S) ∧ (¬ v1 ≤ v2 → wp_X7_pass N P S (fun S_8 => (∀ v2_11 : Int32, v2_11 = v2 + 1 → wl_X7_pass__2 N P K n S_8 v1 v2_11))))
def wp_X7_pass_ (N : M2) (P : M2) (S : M2) (x1 : Int32) (K : M2 → Prop) : Prop := wl_X7_pass__2 N P K fK S x1 0
set_option maxRecDepth 100000 in
set_option maxHeartbeats 4000000 in
theorem c_X7_pass_ (l : Launch) (D : va_G) (Z : Nat → ClassId) (a q g : Nat → Nat) (rg sa aa : Nat) (N P : M2) (S : M2) (sz : Nat) (x1 : Int32) (K : M2 → Prop) (hm : wp_X7_pass_ N P S x1 K) : Met l yX7_pass_ (wy yX7_pass_ cX7_pass_ 3 (some (.object "TunnelLeggersModel$State"))) (rk 10 0 0) (pre vwCl D Z (SW Z a q g rg sa aa N P S) sz [.ref (a 200), .int x1]) (poR vwCl D Z (SW Z a q g rg sa aa N P) S sz (a 200) K) 0 0 (va_A (SW Z a q g rg sa aa N P S) sz) := by
  refine rwr_of (C := "TunnelLeggersModel$State") (a0 := a 200) (wsF := (SW Z a q g rg sa aa N P)) (u0 := S) (by decide +kernel) (Nat.le_of_ble_eq_true rfl) rfl ?_
  intro p e s m args below meth c Q A hC hN hsz hT hK hret ls hl
  have hx := hC.1
  have hb := hC.2.1
  have hl : lv_has ls 3 [(0, .ref (a 200)), (1, .int x1)] := hl
  have hT : TS vwCl D (SW Z a q g rg sa aa N P S) A s.heap s.heap [] := hT
  have L2 : ∀ (n2 : Nat), ∀ (S : M2) (v1 : Int32) (v2 : Int32) (H : Heap) (locs : List Loc) (ls : Array Slot), wl_X7_pass__2 N P K n2 S v1 v2 → TS vwCl D (SW Z a q g rg sa aa N P S) A s.heap H locs → lv_has ls 3 [(0, .ref (a 200)), (1, .int v1), (2, .int v2)] → W p l e (rk 10 0 0) s m args below meth c H locs 0 0 Q (F0 m 2 ls []) := by
    intro n2
    induction n2 with
    | zero =>
      intro S v1 v2 H locs ls hm hT hl
      exact False.elim hm
    | succ n2 ih2 =>
      intro S v1 v2 H locs ls hm hT hl
      refine lv_iload_n hx hb dX7_pass__2 rfl (lv_at hl 2 rfl) ?_
      refine lv_iload_n hx hb dX7_pass__3 rfl (lv_at hl 1 rfl) ?_
      refine lv_icmp_ge (tgt := 17) hx hb dX7_pass__4 (by decide) (fun c_4 => ?_) (fun c_4 => ?_)
      · have hm := hm.1 c_4
        refine lv_aload_n hx hb dX7_pass__17 rfl (lv_at hl 0 rfl) ?_
        exact hret 18 _ _ _ _ hm hT dX7_pass__18
      · have hm := hm.2 c_4
        refine lv_aload_n hx hb dX7_pass__7 rfl (lv_at hl 0 rfl) ?_
        refine k_X7_pass hC hN hK hT hm wq_1880 (by decide) hl.1 (Nat.le_of_ble_eq_true rfl) ⟨Nat.le_refl _, Nat.le_refl _⟩ dX7_pass__8 (fun S_8 H locs hm hT => ?_)
        obtain ⟨v2_11, ev2_11⟩ : ∃ y : Int32, y = v2 + 1 := ⟨_, rfl⟩
        have hm := hm v2_11 ev2_11
        refine lv_iinc (v := v2_11) (lv' := [(2, .int v2_11), (0, .ref (a 200)), (1, .int v1)]) hx hb dX7_pass__11 hl (k := 2) rfl (by rw [ev2_11]; rfl) (by decide) rfl (fun ls hl => ?_)
        refine lv_goto (tgt := 2) hx hb dX7_pass__14 (by decide) ?_
        exact ih2 _ _ _ _ _ _ hm hT (lv_sub hl [1, 2, 0] rfl)
  refine lv_iconst (v := 0) hx hb dX7_pass__0 (by decide) ?_
  refine lv_istore_n (lv' := [(2, .int 0), (0, .ref (a 200)), (1, .int x1)]) hx hb dX7_pass__1 rfl hl (by decide) rfl (fun ls hl => ?_)
  exact L2 _ _ _ _ _ _ _ hm hT (lv_sub hl [1, 2, 0] rfl)
section KX7_pass_
variable {p : Program} {l : Launch} {e : Env} {s : State} {m : MethodId} {args : Array Value} {below : List Frame} {meth : Method} {c : Code} {H H0 : Heap} {locs : List Loc} {cells slots : Nat} {Q : State → Prop} {R : Room} {rn mcR msR : Nat}
variable {pc : Nat} {ls : Array Slot} {rest : List Value} {A : Nat → Prop} {D : va_G}
variable {cc : ByteArray} {nL index : Nat} {own host : String}
end KX7_pass_
def wp_X7_counted (N : M2) (P : M2) (S : M2) (x1 : Int32) (K : Int32 → Prop) : Prop := ((x1 = 8 → wp_X7_those N P S 0 (fun r_34 => K r_34)) ∧ (x1 = 9 → wp_X7_those N P S 1 (fun r_40 => K r_40)) ∧ (x1 = 10 → wp_X7_those N P S 2 (fun r_46 => K r_46)) ∧ (x1 = 11 → wp_X7_allAir N P S (fun r_51 => K r_51)) ∧ (¬ x1 = 8 → ¬ x1 = 9 → ¬ x1 = 10 → ¬ x1 = 11 → wp_X7_capsAt N P S ((-1)) (fun r_67 => K ((P 249 0) - r_67))))
set_option maxRecDepth 100000 in
set_option maxHeartbeats 4000000 in
theorem c_X7_counted (l : Launch) (D : va_G) (Z : Nat → ClassId) (a q g : Nat → Nat) (rg sa aa : Nat) (N P : M2) (S : M2) (sz : Nat) (x1 : Int32) (K : Int32 → Prop) (hm : wp_X7_counted N P S x1 K) : Met l yX7_counted (wy yX7_counted cX7_counted 2 (some .int)) (rk 2 0 0) (pre vwCl D Z (SW Z a q g rg sa aa N P S) sz [.ref (a 200), .int x1]) (vp_Si K) 0 0 (fun _ => False) := by
  refine ro_of (ty := .int) (by decide +kernel) (Nat.le_of_ble_eq_true rfl) rfl ?_
  intro p e s m args below meth c Q hC hN hsz hP hD hK hret ls hl
  have hx := hC.1
  have hb := hC.2.1
  have hl : lv_has ls 2 [(0, .ref (a 200)), (1, .int x1)] := hl
  refine lv_iload_n hx hb dX7_counted_0 rfl (lv_at hl 1 rfl) ?_
  by_cases s1_0 : x1 = 8
  · have hm := hm.1 s1_0
    refine w_swi (off := 31) (tgt := 32) 8 hx hb dX7_counted_1 s1_0 (by decide) (by decide) (by decide) (by decide) ?_
    refine lv_aload_n hx hb dX7_counted_32 rfl (lv_at hl 0 rfl) ?_
    refine lv_iconst (v := 0) hx hb dX7_counted_33 (by decide) ?_
    refine k_X7_those hC hN hK hP hD hm wq_1728 (by decide) hl.1 (Nat.le_of_ble_eq_true rfl) ⟨Nat.le_refl _, Nat.le_refl _⟩ dX7_counted_34 (fun r_34 hm => ?_)
    exact hret 37 _ _ hm rfl dX7_counted_37
  have hm := hm.2
  by_cases s1_1 : x1 = 9
  · have hm := hm.1 s1_1
    refine w_swi (off := 37) (tgt := 38) 9 hx hb dX7_counted_1 s1_1 (by decide) (by decide) (by decide) (by decide) ?_
    refine lv_aload_n hx hb dX7_counted_38 rfl (lv_at hl 0 rfl) ?_
    refine lv_iconst (v := 1) hx hb dX7_counted_39 (by decide) ?_
    refine k_X7_those hC hN hK hP hD hm wq_1728 (by decide) hl.1 (Nat.le_of_ble_eq_true rfl) ⟨Nat.le_refl _, Nat.le_refl _⟩ dX7_counted_40 (fun r_40 hm => ?_)
    exact hret 43 _ _ hm rfl dX7_counted_43
  have hm := hm.2
  by_cases s1_2 : x1 = 10
  · have hm := hm.1 s1_2
    refine w_swi (off := 43) (tgt := 44) 10 hx hb dX7_counted_1 s1_2 (by decide) (by decide) (by decide) (by decide) ?_
    refine lv_aload_n hx hb dX7_counted_44 rfl (lv_at hl 0 rfl) ?_
    refine lv_iconst (v := 2) hx hb dX7_counted_45 (by decide) ?_
    refine k_X7_those hC hN hK hP hD hm wq_1728 (by decide) hl.1 (Nat.le_of_ble_eq_true rfl) ⟨Nat.le_refl _, Nat.le_refl _⟩ dX7_counted_46 (fun r_46 hm => ?_)
    exact hret 49 _ _ hm rfl dX7_counted_49
  have hm := hm.2
  by_cases s1_3 : x1 = 11
  · have hm := hm.1 s1_3
    refine w_swi (off := 49) (tgt := 50) 11 hx hb dX7_counted_1 s1_3 (by decide) (by decide) (by decide) (by decide) ?_
    refine lv_aload_n hx hb dX7_counted_50 rfl (lv_at hl 0 rfl) ?_
    refine k_X7_allAir hC hN hK hP hD hm wq_1732 (by decide) hl.1 (Nat.le_of_ble_eq_true rfl) ⟨Nat.le_refl _, Nat.le_refl _⟩ dX7_counted_51 (fun r_51 hm => ?_)
    exact hret 54 _ _ hm rfl dX7_counted_54
  have hm := hm.2
  have hm := hm s1_0 s1_1 s1_2 s1_3
  refine w_swd (tgt := 55) [8, 9, 10, 11] hx hb dX7_counted_1 (by decide) (by decide) (fun k hk => ?_) (by decide) ?_
  · simp only [List.mem_cons, List.not_mem_nil, or_false] at hk
    rcases hk with rfl | rfl | rfl | rfl
    · exact eq_toInt s1_0
    · exact eq_toInt s1_1
    · exact eq_toInt s1_2
    · exact eq_toInt s1_3
  · refine lv_aload_n hx hb dX7_counted_55 rfl (lv_at hl 0 rfl) ?_
    refine gSW_st_14 hC hK hP wq_1383 dX7_counted_56 ?_
    refine gNSW_mod_11 hC hN hK hP wn_1431 dX7_counted_59 ?_
    refine gNSW_plan_9 hC hN hK hP wn_1252 dX7_counted_62 ?_
    refine lv_aload_n hx hb dX7_counted_65 rfl (lv_at hl 0 rfl) ?_
    refine lv_iconst (v := (-1)) hx hb dX7_counted_66 (by decide) ?_
    refine k_X7_capsAt hC hN hK hP hD hm wq_1736 (by decide) hl.1 (Nat.le_of_ble_eq_true rfl) ⟨Nat.le_refl _, Nat.le_refl _⟩ dX7_counted_67 (fun r_67 hm => ?_)
    refine lv_isub hx hb dX7_counted_70 ?_
    exact hret 71 _ _ hm rfl dX7_counted_71
section KX7_counted
variable {p : Program} {l : Launch} {e : Env} {s : State} {m : MethodId} {args : Array Value} {below : List Frame} {meth : Method} {c : Code} {H H0 : Heap} {locs : List Loc} {cells slots : Nat} {Q : State → Prop} {R : Room} {rn mcR msR : Nat}
variable {pc : Nat} {ls : Array Slot} {rest : List Value} {A : Nat → Prop} {D : va_G}
variable {cc : ByteArray} {nL index : Nat} {own host : String}
end KX7_counted
