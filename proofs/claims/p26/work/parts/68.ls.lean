theorem wq_901 : Cond.methodLink RL 96 yL_cell ∈ lw_g := lw_g_mk (tb_4 (List.mem_of_getElem? (i := 117) rfl)) rfl
theorem wq_1201 : Cond.classLink RL 106 "[I" ∈ lw_g := lw_g_mk (tb_5 (List.mem_of_getElem? (i := 177) rfl)) rfl
theorem wq_1170 : Cond.fieldLink RL 108 RX6 "bores" "[[I" ∈ lw_g := lw_g_mk (tb_5 (List.mem_of_getElem? (i := 146) rfl)) rfl
theorem wq_1174 : Cond.fieldLink RL 122 RX6 "shafts" "[[I" ∈ lw_g := lw_g_mk (tb_5 (List.mem_of_getElem? (i := 150) rfl)) rfl
theorem wq_1180 : Cond.fieldLink RL 155 RX6 "orders" "[[I" ∈ lw_g := lw_g_mk (tb_5 (List.mem_of_getElem? (i := 156) rfl)) rfl
theorem wq_1434 : Cond.methodLink RL 166 yL_test ∈ lw_g := lw_g_mk (tb_6 (List.mem_of_getElem? (i := 170) rfl)) rfl
theorem wq_1435 : Cond.static yL_test ∈ lw_g := lw_g_mk (tb_6 (List.mem_of_getElem? (i := 171) rfl)) rfl
theorem wq_1157 : Cond.code yL_list cL_list 8 (some (.object "TunnelLeggersLaw$Sim")) ∈ lw_g := lw_g_mk (tb_5 (List.mem_of_getElem? (i := 133) rfl)) rfl
theorem wq_1158 : Cond.classLink RL 42 RX6 ∈ lw_g := lw_g_mk (tb_5 (List.mem_of_getElem? (i := 134) rfl)) rfl
theorem wq_864 : Cond.instantiable RX6 9 ∈ lw_g := lw_g_mk (tb_4 (List.mem_of_getElem? (i := 80) rfl)) rfl
theorem wn_1159 : Cond.methodLinkNest RL 95 yX6_init RL ∈ lw_n := lw_n_mk (tb_5 (List.mem_of_getElem? (i := 135) rfl)) rfl
theorem wq_1160 : Cond.instanceMethod yX6_init ∈ lw_g := lw_g_mk (tb_5 (List.mem_of_getElem? (i := 136) rfl)) rfl
theorem dL_list_0 : decode cL_list 0 = .ok (.new 42, 3) := by decide +kernel
theorem dL_list_3 : decode cL_list 3 = .ok (.dup, 1) := by decide +kernel
theorem dL_list_4 : decode cL_list 4 = .ok (.invokespecial 95, 3) := by decide +kernel
theorem dL_list_7 : decode cL_list 7 = .ok (.astore_n 2, 1) := by decide +kernel
theorem dL_list_8 : decode cL_list 8 = .ok (.aload_n 2, 1) := by decide +kernel
theorem dL_list_9 : decode cL_list 9 = .ok (.iconst 1, 1) := by decide +kernel
theorem dL_list_10 : decode cL_list 10 = .ok (.aload_n 0, 1) := by decide +kernel
theorem dL_list_11 : decode cL_list 11 = .ok (.iconst 0, 1) := by decide +kernel
theorem dL_list_12 : decode cL_list 12 = .ok (.invokestatic 96, 3) := by decide +kernel
theorem dL_list_15 : decode cL_list 15 = .ok (.iconst 3, 1) := by decide +kernel
theorem dL_list_16 : decode cL_list 16 = .ok (.invokestatic 102, 3) := by decide +kernel
theorem dL_list_19 : decode cL_list 19 = .ok (.iadd, 1) := by decide +kernel
theorem dL_list_20 : decode cL_list 20 = .ok (.anewarray 106, 3) := by decide +kernel
theorem dL_list_23 : decode cL_list 23 = .ok (.putfield 108, 3) := by decide +kernel
theorem dL_list_26 : decode cL_list 26 = .ok (.iconst 0, 1) := by decide +kernel
theorem dL_list_27 : decode cL_list 27 = .ok (.istore_n 3, 1) := by decide +kernel
theorem dL_list_28 : decode cL_list 28 = .ok (.iconst 0, 1) := by decide +kernel
theorem dL_list_29 : decode cL_list 29 = .ok (.istore 4, 2) := by decide +kernel
theorem dL_list_31 : decode cL_list 31 = .ok (.iload 4, 2) := by decide +kernel
theorem dL_list_33 : decode cL_list 33 = .ok (.aload_n 2, 1) := by decide +kernel
theorem dL_list_34 : decode cL_list 34 = .ok (.getfield 108, 3) := by decide +kernel
theorem dL_list_37 : decode cL_list 37 = .ok (.arraylength, 1) := by decide +kernel
theorem dL_list_38 : decode cL_list 38 = .ok (.if_icmp .ge 136, 3) := by decide +kernel
theorem dL_list_41 : decode cL_list 41 = .ok (.aload_n 0, 1) := by decide +kernel
theorem dL_list_42 : decode cL_list 42 = .ok (.iconst 1, 1) := by decide +kernel
theorem dL_list_43 : decode cL_list 43 = .ok (.iload 4, 2) := by decide +kernel
theorem dL_list_45 : decode cL_list 45 = .ok (.iadd, 1) := by decide +kernel
theorem dL_list_46 : decode cL_list 46 = .ok (.invokestatic 96, 3) := by decide +kernel
theorem dL_list_49 : decode cL_list 49 = .ok (.istore 5, 2) := by decide +kernel
theorem dL_list_51 : decode cL_list 51 = .ok (.aload_n 2, 1) := by decide +kernel
theorem dL_list_52 : decode cL_list 52 = .ok (.getfield 108, 3) := by decide +kernel
theorem dL_list_55 : decode cL_list 55 = .ok (.iload 4, 2) := by decide +kernel
theorem dL_list_57 : decode cL_list 57 = .ok (.iconst 3, 1) := by decide +kernel
theorem dL_list_58 : decode cL_list 58 = .ok (.newarray .int, 2) := by decide +kernel
theorem dL_list_60 : decode cL_list 60 = .ok (.dup, 1) := by decide +kernel
theorem dL_list_61 : decode cL_list 61 = .ok (.iconst 0, 1) := by decide +kernel
theorem dL_list_62 : decode cL_list 62 = .ok (.iconst 1, 1) := by decide +kernel
theorem dL_list_63 : decode cL_list 63 = .ok (.iload 5, 2) := by decide +kernel
theorem dL_list_65 : decode cL_list 65 = .ok (.iload 5, 2) := by decide +kernel
theorem dL_list_67 : decode cL_list 67 = .ok (.bipush 8, 2) := by decide +kernel
theorem dL_list_69 : decode cL_list 69 = .ok (.ishr, 1) := by decide +kernel
theorem dL_list_70 : decode cL_list 70 = .ok (.iconst 3, 1) := by decide +kernel
theorem dL_list_71 : decode cL_list 71 = .ok (.invokestatic 102, 3) := by decide +kernel
theorem dL_list_74 : decode cL_list 74 = .ok (.ifCond .ne 8, 3) := by decide +kernel
theorem dL_list_77 : decode cL_list 77 = .ok (.bipush 12, 2) := by decide +kernel
theorem dL_list_79 : decode cL_list 79 = .ok (.goto 4, 3) := by decide +kernel
theorem dL_list_82 : decode cL_list 82 = .ok (.iconst 4, 1) := by decide +kernel
theorem dL_list_83 : decode cL_list 83 = .ok (.invokestatic 102, 3) := by decide +kernel
theorem dL_list_86 : decode cL_list 86 = .ok (.iadd, 1) := by decide +kernel
theorem dL_list_87 : decode cL_list 87 = .ok (.iastore, 1) := by decide +kernel
theorem dL_list_88 : decode cL_list 88 = .ok (.dup, 1) := by decide +kernel
theorem dL_list_89 : decode cL_list 89 = .ok (.iconst 1, 1) := by decide +kernel
theorem dL_list_90 : decode cL_list 90 = .ok (.iload 5, 2) := by decide +kernel
theorem dL_list_92 : decode cL_list 92 = .ok (.iconst 4, 1) := by decide +kernel
theorem dL_list_93 : decode cL_list 93 = .ok (.ishr, 1) := by decide +kernel
theorem dL_list_94 : decode cL_list 94 = .ok (.bipush 10, 2) := by decide +kernel
theorem dL_list_96 : decode cL_list 96 = .ok (.invokestatic 102, 3) := by decide +kernel
theorem dL_list_99 : decode cL_list 99 = .ok (.iastore, 1) := by decide +kernel
theorem dL_list_100 : decode cL_list 100 = .ok (.dup, 1) := by decide +kernel
theorem dL_list_101 : decode cL_list 101 = .ok (.iconst 2, 1) := by decide +kernel
theorem dL_list_102 : decode cL_list 102 = .ok (.iload_n 3, 1) := by decide +kernel
theorem dL_list_103 : decode cL_list 103 = .ok (.iastore, 1) := by decide +kernel
theorem dL_list_104 : decode cL_list 104 = .ok (.aastore, 1) := by decide +kernel
theorem dL_list_105 : decode cL_list 105 = .ok (.iload_n 3, 1) := by decide +kernel
theorem dL_list_106 : decode cL_list 106 = .ok (.aload_n 2, 1) := by decide +kernel
theorem dL_list_107 : decode cL_list 107 = .ok (.getfield 108, 3) := by decide +kernel
theorem dL_list_110 : decode cL_list 110 = .ok (.iload 4, 2) := by decide +kernel
theorem dL_list_112 : decode cL_list 112 = .ok (.aaload, 1) := by decide +kernel
theorem dL_list_113 : decode cL_list 113 = .ok (.iconst 0, 1) := by decide +kernel
theorem dL_list_114 : decode cL_list 114 = .ok (.iaload, 1) := by decide +kernel
theorem dL_list_115 : decode cL_list 115 = .ok (.iadd, 1) := by decide +kernel
theorem dL_list_116 : decode cL_list 116 = .ok (.istore_n 3, 1) := by decide +kernel
theorem dL_list_117 : decode cL_list 117 = .ok (.aload_n 1, 1) := by decide +kernel
theorem dL_list_118 : decode cL_list 118 = .ok (.ldc 111, 2) := by decide +kernel
theorem dL_list_120 : decode cL_list 120 = .ok (.invokevirtual 37, 3) := by decide +kernel
theorem dL_list_123 : decode cL_list 123 = .ok (.iload 4, 2) := by decide +kernel
theorem dL_list_125 : decode cL_list 125 = .ok (.invokevirtual 47, 3) := by decide +kernel
theorem dL_list_128 : decode cL_list 128 = .ok (.ldc 113, 2) := by decide +kernel
theorem dL_list_130 : decode cL_list 130 = .ok (.invokevirtual 37, 3) := by decide +kernel
theorem dL_list_133 : decode cL_list 133 = .ok (.aload_n 2, 1) := by decide +kernel
theorem dL_list_134 : decode cL_list 134 = .ok (.getfield 108, 3) := by decide +kernel
theorem dL_list_137 : decode cL_list 137 = .ok (.iload 4, 2) := by decide +kernel
theorem dL_list_139 : decode cL_list 139 = .ok (.aaload, 1) := by decide +kernel
theorem dL_list_140 : decode cL_list 140 = .ok (.iconst 0, 1) := by decide +kernel
theorem dL_list_141 : decode cL_list 141 = .ok (.iaload, 1) := by decide +kernel
theorem dL_list_142 : decode cL_list 142 = .ok (.invokevirtual 47, 3) := by decide +kernel
theorem dL_list_145 : decode cL_list 145 = .ok (.ldc 115, 2) := by decide +kernel
theorem dL_list_147 : decode cL_list 147 = .ok (.invokevirtual 37, 3) := by decide +kernel
theorem dL_list_150 : decode cL_list 150 = .ok (.aload_n 2, 1) := by decide +kernel
theorem dL_list_151 : decode cL_list 151 = .ok (.getfield 108, 3) := by decide +kernel
theorem dL_list_154 : decode cL_list 154 = .ok (.iload 4, 2) := by decide +kernel
theorem dL_list_156 : decode cL_list 156 = .ok (.aaload, 1) := by decide +kernel
theorem dL_list_157 : decode cL_list 157 = .ok (.iconst 1, 1) := by decide +kernel
theorem dL_list_158 : decode cL_list 158 = .ok (.iaload, 1) := by decide +kernel
theorem dL_list_159 : decode cL_list 159 = .ok (.invokevirtual 47, 3) := by decide +kernel
theorem dL_list_162 : decode cL_list 162 = .ok (.ldc 117, 2) := by decide +kernel
theorem dL_list_164 : decode cL_list 164 = .ok (.invokevirtual 37, 3) := by decide +kernel
theorem dL_list_167 : decode cL_list 167 = .ok (.pop, 1) := by decide +kernel
theorem dL_list_168 : decode cL_list 168 = .ok (.iinc 4 1, 3) := by decide +kernel
theorem dL_list_171 : decode cL_list 171 = .ok (.goto (-140), 3) := by decide +kernel
theorem dL_list_174 : decode cL_list 174 = .ok (.aload_n 2, 1) := by decide +kernel
theorem dL_list_175 : decode cL_list 175 = .ok (.iload_n 3, 1) := by decide +kernel
theorem dL_list_176 : decode cL_list 176 = .ok (.anewarray 106, 3) := by decide +kernel
theorem dL_list_179 : decode cL_list 179 = .ok (.putfield 119, 3) := by decide +kernel
theorem dL_list_182 : decode cL_list 182 = .ok (.iconst 0, 1) := by decide +kernel
theorem dL_list_183 : decode cL_list 183 = .ok (.istore 4, 2) := by decide +kernel
theorem dL_list_185 : decode cL_list 185 = .ok (.iload 4, 2) := by decide +kernel
theorem dL_list_187 : decode cL_list 187 = .ok (.aload_n 2, 1) := by decide +kernel
theorem dL_list_188 : decode cL_list 188 = .ok (.getfield 108, 3) := by decide +kernel
theorem dL_list_191 : decode cL_list 191 = .ok (.arraylength, 1) := by decide +kernel
theorem dL_list_192 : decode cL_list 192 = .ok (.if_icmp .ge 62, 3) := by decide +kernel
theorem dL_list_195 : decode cL_list 195 = .ok (.iconst 0, 1) := by decide +kernel
theorem dL_list_196 : decode cL_list 196 = .ok (.istore 5, 2) := by decide +kernel
theorem dL_list_198 : decode cL_list 198 = .ok (.iload 5, 2) := by decide +kernel
theorem dL_list_200 : decode cL_list 200 = .ok (.aload_n 2, 1) := by decide +kernel
theorem dL_list_201 : decode cL_list 201 = .ok (.getfield 108, 3) := by decide +kernel
theorem dL_list_204 : decode cL_list 204 = .ok (.iload 4, 2) := by decide +kernel
theorem dL_list_206 : decode cL_list 206 = .ok (.aaload, 1) := by decide +kernel
theorem dL_list_207 : decode cL_list 207 = .ok (.iconst 0, 1) := by decide +kernel
theorem dL_list_208 : decode cL_list 208 = .ok (.iaload, 1) := by decide +kernel
theorem dL_list_209 : decode cL_list 209 = .ok (.if_icmp .ge 39, 3) := by decide +kernel
theorem dL_list_212 : decode cL_list 212 = .ok (.aload_n 2, 1) := by decide +kernel
theorem dL_list_213 : decode cL_list 213 = .ok (.getfield 119, 3) := by decide +kernel
theorem dL_list_216 : decode cL_list 216 = .ok (.aload_n 2, 1) := by decide +kernel
theorem dL_list_217 : decode cL_list 217 = .ok (.getfield 108, 3) := by decide +kernel
theorem dL_list_220 : decode cL_list 220 = .ok (.iload 4, 2) := by decide +kernel
theorem dL_list_222 : decode cL_list 222 = .ok (.aaload, 1) := by decide +kernel
theorem dL_list_223 : decode cL_list 223 = .ok (.iconst 2, 1) := by decide +kernel
theorem dL_list_224 : decode cL_list 224 = .ok (.iaload, 1) := by decide +kernel
theorem dL_list_225 : decode cL_list 225 = .ok (.iload 5, 2) := by decide +kernel
theorem dL_list_227 : decode cL_list 227 = .ok (.iadd, 1) := by decide +kernel
theorem dL_list_228 : decode cL_list 228 = .ok (.iconst 2, 1) := by decide +kernel
theorem dL_list_229 : decode cL_list 229 = .ok (.newarray .int, 2) := by decide +kernel
theorem dL_list_231 : decode cL_list 231 = .ok (.dup, 1) := by decide +kernel
theorem dL_list_232 : decode cL_list 232 = .ok (.iconst 0, 1) := by decide +kernel
theorem dL_list_233 : decode cL_list 233 = .ok (.iload 4, 2) := by decide +kernel
theorem dL_list_235 : decode cL_list 235 = .ok (.iastore, 1) := by decide +kernel
theorem dL_list_236 : decode cL_list 236 = .ok (.dup, 1) := by decide +kernel
theorem dL_list_237 : decode cL_list 237 = .ok (.iconst 1, 1) := by decide +kernel
theorem dL_list_238 : decode cL_list 238 = .ok (.bipush 100, 2) := by decide +kernel
theorem dL_list_240 : decode cL_list 240 = .ok (.iastore, 1) := by decide +kernel
theorem dL_list_241 : decode cL_list 241 = .ok (.aastore, 1) := by decide +kernel
theorem dL_list_242 : decode cL_list 242 = .ok (.iinc 5 1, 3) := by decide +kernel
theorem dL_list_245 : decode cL_list 245 = .ok (.goto (-47), 3) := by decide +kernel
theorem dL_list_248 : decode cL_list 248 = .ok (.iinc 4 1, 3) := by decide +kernel
theorem dL_list_251 : decode cL_list 251 = .ok (.goto (-66), 3) := by decide +kernel
theorem dL_list_254 : decode cL_list 254 = .ok (.aload_n 2, 1) := by decide +kernel
theorem dL_list_255 : decode cL_list 255 = .ok (.aload_n 0, 1) := by decide +kernel
theorem dL_list_256 : decode cL_list 256 = .ok (.iconst 4, 1) := by decide +kernel
theorem dL_list_257 : decode cL_list 257 = .ok (.invokestatic 96, 3) := by decide +kernel
theorem dL_list_260 : decode cL_list 260 = .ok (.iconst 3, 1) := by decide +kernel
theorem dL_list_261 : decode cL_list 261 = .ok (.invokestatic 102, 3) := by decide +kernel
theorem dL_list_264 : decode cL_list 264 = .ok (.anewarray 106, 3) := by decide +kernel
theorem dL_list_267 : decode cL_list 267 = .ok (.putfield 122, 3) := by decide +kernel
theorem dL_list_270 : decode cL_list 270 = .ok (.iconst 0, 1) := by decide +kernel
theorem dL_list_271 : decode cL_list 271 = .ok (.istore 4, 2) := by decide +kernel
theorem dL_list_273 : decode cL_list 273 = .ok (.iload 4, 2) := by decide +kernel
theorem dL_list_275 : decode cL_list 275 = .ok (.aload_n 2, 1) := by decide +kernel
theorem dL_list_276 : decode cL_list 276 = .ok (.getfield 122, 3) := by decide +kernel
theorem dL_list_279 : decode cL_list 279 = .ok (.arraylength, 1) := by decide +kernel
theorem dL_list_280 : decode cL_list 280 = .ok (.if_icmp .ge 109, 3) := by decide +kernel
theorem dL_list_283 : decode cL_list 283 = .ok (.aload_n 2, 1) := by decide +kernel
theorem dL_list_284 : decode cL_list 284 = .ok (.getfield 122, 3) := by decide +kernel
theorem dL_list_287 : decode cL_list 287 = .ok (.iload 4, 2) := by decide +kernel
theorem dL_list_289 : decode cL_list 289 = .ok (.iconst 2, 1) := by decide +kernel
theorem dL_list_290 : decode cL_list 290 = .ok (.newarray .int, 2) := by decide +kernel
theorem dL_list_292 : decode cL_list 292 = .ok (.dup, 1) := by decide +kernel
theorem dL_list_293 : decode cL_list 293 = .ok (.iconst 0, 1) := by decide +kernel
theorem dL_list_294 : decode cL_list 294 = .ok (.aload_n 0, 1) := by decide +kernel
theorem dL_list_295 : decode cL_list 295 = .ok (.iconst 4, 1) := by decide +kernel
theorem dL_list_296 : decode cL_list 296 = .ok (.invokestatic 96, 3) := by decide +kernel
theorem dL_list_299 : decode cL_list 299 = .ok (.iconst 3, 1) := by decide +kernel
theorem dL_list_300 : decode cL_list 300 = .ok (.iload 4, 2) := by decide +kernel
theorem dL_list_302 : decode cL_list 302 = .ok (.imul, 1) := by decide +kernel
theorem dL_list_303 : decode cL_list 303 = .ok (.iconst 2, 1) := by decide +kernel
theorem dL_list_304 : decode cL_list 304 = .ok (.iadd, 1) := by decide +kernel
theorem dL_list_305 : decode cL_list 305 = .ok (.ishr, 1) := by decide +kernel
theorem dL_list_306 : decode cL_list 306 = .ok (.iload_n 3, 1) := by decide +kernel
theorem dL_list_307 : decode cL_list 307 = .ok (.invokestatic 102, 3) := by decide +kernel
theorem dL_list_310 : decode cL_list 310 = .ok (.iastore, 1) := by decide +kernel
theorem dL_list_311 : decode cL_list 311 = .ok (.dup, 1) := by decide +kernel
theorem dL_list_312 : decode cL_list 312 = .ok (.iconst 1, 1) := by decide +kernel
theorem dL_list_313 : decode cL_list 313 = .ok (.iconst 1, 1) := by decide +kernel
theorem dL_list_314 : decode cL_list 314 = .ok (.aload_n 0, 1) := by decide +kernel
theorem dL_list_315 : decode cL_list 315 = .ok (.iconst 5, 1) := by decide +kernel
theorem dL_list_316 : decode cL_list 316 = .ok (.invokestatic 96, 3) := by decide +kernel
theorem dL_list_319 : decode cL_list 319 = .ok (.iconst 4, 1) := by decide +kernel
theorem dL_list_320 : decode cL_list 320 = .ok (.iload 4, 2) := by decide +kernel
theorem dL_list_322 : decode cL_list 322 = .ok (.imul, 1) := by decide +kernel
theorem dL_list_323 : decode cL_list 323 = .ok (.ishr, 1) := by decide +kernel
theorem dL_list_324 : decode cL_list 324 = .ok (.bipush 30, 2) := by decide +kernel
theorem dL_list_326 : decode cL_list 326 = .ok (.invokestatic 102, 3) := by decide +kernel
theorem dL_list_329 : decode cL_list 329 = .ok (.iadd, 1) := by decide +kernel
theorem dL_list_330 : decode cL_list 330 = .ok (.iastore, 1) := by decide +kernel
theorem dL_list_331 : decode cL_list 331 = .ok (.aastore, 1) := by decide +kernel
theorem dL_list_332 : decode cL_list 332 = .ok (.aload_n 1, 1) := by decide +kernel
theorem dL_list_333 : decode cL_list 333 = .ok (.ldc 125, 2) := by decide +kernel
theorem dL_list_335 : decode cL_list 335 = .ok (.invokevirtual 37, 3) := by decide +kernel
theorem dL_list_338 : decode cL_list 338 = .ok (.iload 4, 2) := by decide +kernel
theorem dL_list_340 : decode cL_list 340 = .ok (.invokevirtual 47, 3) := by decide +kernel
theorem dL_list_343 : decode cL_list 343 = .ok (.ldc 127, 2) := by decide +kernel
theorem dL_list_345 : decode cL_list 345 = .ok (.invokevirtual 37, 3) := by decide +kernel
theorem dL_list_348 : decode cL_list 348 = .ok (.aload_n 2, 1) := by decide +kernel
theorem dL_list_349 : decode cL_list 349 = .ok (.getfield 122, 3) := by decide +kernel
theorem dL_list_352 : decode cL_list 352 = .ok (.iload 4, 2) := by decide +kernel
theorem dL_list_354 : decode cL_list 354 = .ok (.aaload, 1) := by decide +kernel
theorem dL_list_355 : decode cL_list 355 = .ok (.iconst 0, 1) := by decide +kernel
theorem dL_list_356 : decode cL_list 356 = .ok (.iaload, 1) := by decide +kernel
theorem dL_list_357 : decode cL_list 357 = .ok (.invokevirtual 47, 3) := by decide +kernel
theorem dL_list_360 : decode cL_list 360 = .ok (.ldc 129, 2) := by decide +kernel
theorem dL_list_362 : decode cL_list 362 = .ok (.invokevirtual 37, 3) := by decide +kernel
theorem dL_list_365 : decode cL_list 365 = .ok (.aload_n 2, 1) := by decide +kernel
theorem dL_list_366 : decode cL_list 366 = .ok (.getfield 122, 3) := by decide +kernel
theorem dL_list_369 : decode cL_list 369 = .ok (.iload 4, 2) := by decide +kernel
theorem dL_list_371 : decode cL_list 371 = .ok (.aaload, 1) := by decide +kernel
theorem dL_list_372 : decode cL_list 372 = .ok (.iconst 1, 1) := by decide +kernel
theorem dL_list_373 : decode cL_list 373 = .ok (.iaload, 1) := by decide +kernel
theorem dL_list_374 : decode cL_list 374 = .ok (.invokevirtual 47, 3) := by decide +kernel
theorem dL_list_377 : decode cL_list 377 = .ok (.ldc 117, 2) := by decide +kernel
theorem dL_list_379 : decode cL_list 379 = .ok (.invokevirtual 37, 3) := by decide +kernel
theorem dL_list_382 : decode cL_list 382 = .ok (.pop, 1) := by decide +kernel
theorem dL_list_383 : decode cL_list 383 = .ok (.iinc 4 1, 3) := by decide +kernel
theorem dL_list_386 : decode cL_list 386 = .ok (.goto (-113), 3) := by decide +kernel
theorem dL_list_389 : decode cL_list 389 = .ok (.aload_n 2, 1) := by decide +kernel
theorem dL_list_390 : decode cL_list 390 = .ok (.iconst 2, 1) := by decide +kernel
theorem dL_list_391 : decode cL_list 391 = .ok (.aload_n 0, 1) := by decide +kernel
theorem dL_list_392 : decode cL_list 392 = .ok (.bipush 6, 2) := by decide +kernel
theorem dL_list_394 : decode cL_list 394 = .ok (.invokestatic 96, 3) := by decide +kernel
theorem dL_list_397 : decode cL_list 397 = .ok (.iconst 4, 1) := by decide +kernel
theorem dL_list_398 : decode cL_list 398 = .ok (.invokestatic 102, 3) := by decide +kernel
theorem dL_list_401 : decode cL_list 401 = .ok (.iadd, 1) := by decide +kernel
theorem dL_list_402 : decode cL_list 402 = .ok (.anewarray 106, 3) := by decide +kernel
theorem dL_list_405 : decode cL_list 405 = .ok (.putfield 41, 3) := by decide +kernel
theorem dL_list_408 : decode cL_list 408 = .ok (.iconst 0, 1) := by decide +kernel
theorem dL_list_409 : decode cL_list 409 = .ok (.istore 4, 2) := by decide +kernel
theorem dL_list_411 : decode cL_list 411 = .ok (.iload 4, 2) := by decide +kernel
theorem dL_list_413 : decode cL_list 413 = .ok (.aload_n 2, 1) := by decide +kernel
theorem dL_list_414 : decode cL_list 414 = .ok (.getfield 41, 3) := by decide +kernel
theorem dL_list_417 : decode cL_list 417 = .ok (.arraylength, 1) := by decide +kernel
theorem dL_list_418 : decode cL_list 418 = .ok (.if_icmp .ge 129, 3) := by decide +kernel
theorem dL_list_421 : decode cL_list 421 = .ok (.aload_n 0, 1) := by decide +kernel
theorem dL_list_422 : decode cL_list 422 = .ok (.bipush 6, 2) := by decide +kernel
theorem dL_list_424 : decode cL_list 424 = .ok (.iload 4, 2) := by decide +kernel
theorem dL_list_426 : decode cL_list 426 = .ok (.iconst 3, 1) := by decide +kernel
theorem dL_list_427 : decode cL_list 427 = .ok (.irem, 1) := by decide +kernel
theorem dL_list_428 : decode cL_list 428 = .ok (.iadd, 1) := by decide +kernel
theorem dL_list_429 : decode cL_list 429 = .ok (.invokestatic 96, 3) := by decide +kernel
theorem dL_list_432 : decode cL_list 432 = .ok (.iconst 2, 1) := by decide +kernel
theorem dL_list_433 : decode cL_list 433 = .ok (.iload 4, 2) := by decide +kernel
theorem dL_list_435 : decode cL_list 435 = .ok (.imul, 1) := by decide +kernel
theorem dL_list_436 : decode cL_list 436 = .ok (.iconst 1, 1) := by decide +kernel
theorem dL_list_437 : decode cL_list 437 = .ok (.iadd, 1) := by decide +kernel
theorem dL_list_438 : decode cL_list 438 = .ok (.ishr, 1) := by decide +kernel
theorem dL_list_439 : decode cL_list 439 = .ok (.istore 5, 2) := by decide +kernel
theorem dL_list_441 : decode cL_list 441 = .ok (.iconst 2, 1) := by decide +kernel
theorem dL_list_442 : decode cL_list 442 = .ok (.iload 5, 2) := by decide +kernel
theorem dL_list_444 : decode cL_list 444 = .ok (.iconst 4, 1) := by decide +kernel
theorem dL_list_445 : decode cL_list 445 = .ok (.ishr, 1) := by decide +kernel
theorem dL_list_446 : decode cL_list 446 = .ok (.bipush 8, 2) := by decide +kernel
theorem dL_list_448 : decode cL_list 448 = .ok (.invokestatic 102, 3) := by decide +kernel
theorem dL_list_451 : decode cL_list 451 = .ok (.iadd, 1) := by decide +kernel
theorem dL_list_452 : decode cL_list 452 = .ok (.istore 6, 2) := by decide +kernel
theorem dL_list_454 : decode cL_list 454 = .ok (.aload_n 2, 1) := by decide +kernel
theorem dL_list_455 : decode cL_list 455 = .ok (.getfield 41, 3) := by decide +kernel
theorem dL_list_458 : decode cL_list 458 = .ok (.iload 4, 2) := by decide +kernel
theorem dL_list_460 : decode cL_list 460 = .ok (.iconst 5, 1) := by decide +kernel
theorem dL_list_461 : decode cL_list 461 = .ok (.newarray .int, 2) := by decide +kernel
theorem dL_list_463 : decode cL_list 463 = .ok (.dup, 1) := by decide +kernel
theorem dL_list_464 : decode cL_list 464 = .ok (.iconst 0, 1) := by decide +kernel
theorem dL_list_465 : decode cL_list 465 = .ok (.iconst 1, 1) := by decide +kernel
theorem dL_list_466 : decode cL_list 466 = .ok (.iload 5, 2) := by decide +kernel
theorem dL_list_468 : decode cL_list 468 = .ok (.bipush 9, 2) := by decide +kernel
theorem dL_list_470 : decode cL_list 470 = .ok (.invokestatic 102, 3) := by decide +kernel
theorem dL_list_473 : decode cL_list 473 = .ok (.iadd, 1) := by decide +kernel
theorem dL_list_474 : decode cL_list 474 = .ok (.iastore, 1) := by decide +kernel
theorem dL_list_475 : decode cL_list 475 = .ok (.dup, 1) := by decide +kernel
theorem dL_list_476 : decode cL_list 476 = .ok (.iconst 1, 1) := by decide +kernel
theorem dL_list_477 : decode cL_list 477 = .ok (.iload 6, 2) := by decide +kernel
theorem dL_list_479 : decode cL_list 479 = .ok (.iastore, 1) := by decide +kernel
theorem dL_list_480 : decode cL_list 480 = .ok (.dup, 1) := by decide +kernel
theorem dL_list_481 : decode cL_list 481 = .ok (.iconst 2, 1) := by decide +kernel
theorem dL_list_482 : decode cL_list 482 = .ok (.bipush 10, 2) := by decide +kernel
theorem dL_list_484 : decode cL_list 484 = .ok (.iload 6, 2) := by decide +kernel
theorem dL_list_486 : decode cL_list 486 = .ok (.imul, 1) := by decide +kernel
theorem dL_list_487 : decode cL_list 487 = .ok (.iastore, 1) := by decide +kernel
theorem dL_list_488 : decode cL_list 488 = .ok (.dup, 1) := by decide +kernel
theorem dL_list_489 : decode cL_list 489 = .ok (.iconst 3, 1) := by decide +kernel
theorem dL_list_490 : decode cL_list 490 = .ok (.iconst (-1), 1) := by decide +kernel
theorem dL_list_491 : decode cL_list 491 = .ok (.iastore, 1) := by decide +kernel
theorem dL_list_492 : decode cL_list 492 = .ok (.dup, 1) := by decide +kernel
theorem dL_list_493 : decode cL_list 493 = .ok (.iconst 4, 1) := by decide +kernel
theorem dL_list_494 : decode cL_list 494 = .ok (.iconst 0, 1) := by decide +kernel
theorem dL_list_495 : decode cL_list 495 = .ok (.iastore, 1) := by decide +kernel
theorem dL_list_496 : decode cL_list 496 = .ok (.aastore, 1) := by decide +kernel
theorem dL_list_497 : decode cL_list 497 = .ok (.aload_n 1, 1) := by decide +kernel
theorem dL_list_498 : decode cL_list 498 = .ok (.ldc 131, 2) := by decide +kernel
theorem dL_list_500 : decode cL_list 500 = .ok (.invokevirtual 37, 3) := by decide +kernel
theorem dL_list_503 : decode cL_list 503 = .ok (.iload 4, 2) := by decide +kernel
theorem dL_list_505 : decode cL_list 505 = .ok (.invokevirtual 47, 3) := by decide +kernel
theorem dL_list_508 : decode cL_list 508 = .ok (.ldc 133, 2) := by decide +kernel
theorem dL_list_510 : decode cL_list 510 = .ok (.invokevirtual 37, 3) := by decide +kernel
theorem dL_list_513 : decode cL_list 513 = .ok (.aload_n 2, 1) := by decide +kernel
theorem dL_list_514 : decode cL_list 514 = .ok (.getfield 41, 3) := by decide +kernel
theorem dL_list_517 : decode cL_list 517 = .ok (.iload 4, 2) := by decide +kernel
theorem dL_list_519 : decode cL_list 519 = .ok (.aaload, 1) := by decide +kernel
theorem dL_list_520 : decode cL_list 520 = .ok (.iconst 0, 1) := by decide +kernel
theorem dL_list_521 : decode cL_list 521 = .ok (.iaload, 1) := by decide +kernel
theorem dL_list_522 : decode cL_list 522 = .ok (.invokevirtual 47, 3) := by decide +kernel
theorem dL_list_525 : decode cL_list 525 = .ok (.ldc 135, 2) := by decide +kernel
theorem dL_list_527 : decode cL_list 527 = .ok (.invokevirtual 37, 3) := by decide +kernel
theorem dL_list_530 : decode cL_list 530 = .ok (.iload 6, 2) := by decide +kernel
theorem dL_list_532 : decode cL_list 532 = .ok (.invokevirtual 47, 3) := by decide +kernel
theorem dL_list_535 : decode cL_list 535 = .ok (.ldc 137, 2) := by decide +kernel
theorem dL_list_537 : decode cL_list 537 = .ok (.invokevirtual 37, 3) := by decide +kernel
theorem dL_list_540 : decode cL_list 540 = .ok (.pop, 1) := by decide +kernel
theorem dL_list_541 : decode cL_list 541 = .ok (.iinc 4 1, 3) := by decide +kernel
theorem dL_list_544 : decode cL_list 544 = .ok (.goto (-133), 3) := by decide +kernel
theorem dL_list_547 : decode cL_list 547 = .ok (.aload_n 2, 1) := by decide +kernel
theorem dL_list_548 : decode cL_list 548 = .ok (.iconst 1, 1) := by decide +kernel
theorem dL_list_549 : decode cL_list 549 = .ok (.aload_n 0, 1) := by decide +kernel
theorem dL_list_550 : decode cL_list 550 = .ok (.bipush 9, 2) := by decide +kernel
theorem dL_list_552 : decode cL_list 552 = .ok (.invokestatic 96, 3) := by decide +kernel
theorem dL_list_555 : decode cL_list 555 = .ok (.iconst 5, 1) := by decide +kernel
theorem dL_list_556 : decode cL_list 556 = .ok (.invokestatic 102, 3) := by decide +kernel
theorem dL_list_559 : decode cL_list 559 = .ok (.iadd, 1) := by decide +kernel
theorem dL_list_560 : decode cL_list 560 = .ok (.anewarray 106, 3) := by decide +kernel
theorem dL_list_563 : decode cL_list 563 = .ok (.putfield 56, 3) := by decide +kernel
theorem dL_list_566 : decode cL_list 566 = .ok (.iconst 0, 1) := by decide +kernel
theorem dL_list_567 : decode cL_list 567 = .ok (.istore 4, 2) := by decide +kernel
theorem dL_list_569 : decode cL_list 569 = .ok (.iload 4, 2) := by decide +kernel
theorem dL_list_571 : decode cL_list 571 = .ok (.aload_n 2, 1) := by decide +kernel
theorem dL_list_572 : decode cL_list 572 = .ok (.getfield 56, 3) := by decide +kernel
theorem dL_list_575 : decode cL_list 575 = .ok (.arraylength, 1) := by decide +kernel
theorem dL_list_576 : decode cL_list 576 = .ok (.if_icmp .ge 260, 3) := by decide +kernel
theorem dL_list_579 : decode cL_list 579 = .ok (.aload_n 0, 1) := by decide +kernel
theorem dL_list_580 : decode cL_list 580 = .ok (.bipush 9, 2) := by decide +kernel
theorem dL_list_582 : decode cL_list 582 = .ok (.iload 4, 2) := by decide +kernel
theorem dL_list_584 : decode cL_list 584 = .ok (.iconst 4, 1) := by decide +kernel
theorem dL_list_585 : decode cL_list 585 = .ok (.irem, 1) := by decide +kernel
theorem dL_list_586 : decode cL_list 586 = .ok (.iadd, 1) := by decide +kernel
theorem dL_list_587 : decode cL_list 587 = .ok (.invokestatic 96, 3) := by decide +kernel
theorem dL_list_590 : decode cL_list 590 = .ok (.iconst 2, 1) := by decide +kernel
theorem dL_list_591 : decode cL_list 591 = .ok (.iload 4, 2) := by decide +kernel
theorem dL_list_593 : decode cL_list 593 = .ok (.imul, 1) := by decide +kernel
theorem dL_list_594 : decode cL_list 594 = .ok (.ishr, 1) := by decide +kernel
theorem dL_list_595 : decode cL_list 595 = .ok (.istore 5, 2) := by decide +kernel
theorem dL_list_597 : decode cL_list 597 = .ok (.iload 5, 2) := by decide +kernel
theorem dL_list_599 : decode cL_list 599 = .ok (.iconst 5, 1) := by decide +kernel
theorem dL_list_600 : decode cL_list 600 = .ok (.ishr, 1) := by decide +kernel
theorem dL_list_601 : decode cL_list 601 = .ok (.aload_n 2, 1) := by decide +kernel
theorem dL_list_602 : decode cL_list 602 = .ok (.getfield 41, 3) := by decide +kernel
theorem dL_list_605 : decode cL_list 605 = .ok (.arraylength, 1) := by decide +kernel
theorem dL_list_606 : decode cL_list 606 = .ok (.invokestatic 102, 3) := by decide +kernel
theorem dL_list_609 : decode cL_list 609 = .ok (.istore 6, 2) := by decide +kernel
theorem dL_list_611 : decode cL_list 611 = .ok (.iload 6, 2) := by decide +kernel
theorem dL_list_613 : decode cL_list 613 = .ok (.iconst 1, 1) := by decide +kernel
theorem dL_list_614 : decode cL_list 614 = .ok (.iadd, 1) := by decide +kernel
theorem dL_list_615 : decode cL_list 615 = .ok (.iload 5, 2) := by decide +kernel
theorem dL_list_617 : decode cL_list 617 = .ok (.bipush 7, 2) := by decide +kernel
theorem dL_list_619 : decode cL_list 619 = .ok (.ishr, 1) := by decide +kernel
theorem dL_list_620 : decode cL_list 620 = .ok (.aload_n 2, 1) := by decide +kernel
theorem dL_list_621 : decode cL_list 621 = .ok (.getfield 41, 3) := by decide +kernel
theorem dL_list_624 : decode cL_list 624 = .ok (.arraylength, 1) := by decide +kernel
theorem dL_list_625 : decode cL_list 625 = .ok (.iconst 1, 1) := by decide +kernel
theorem dL_list_626 : decode cL_list 626 = .ok (.isub, 1) := by decide +kernel
theorem dL_list_627 : decode cL_list 627 = .ok (.invokestatic 102, 3) := by decide +kernel
theorem dL_list_630 : decode cL_list 630 = .ok (.iadd, 1) := by decide +kernel
theorem dL_list_631 : decode cL_list 631 = .ok (.aload_n 2, 1) := by decide +kernel
theorem dL_list_632 : decode cL_list 632 = .ok (.getfield 41, 3) := by decide +kernel
theorem dL_list_635 : decode cL_list 635 = .ok (.arraylength, 1) := by decide +kernel
theorem dL_list_636 : decode cL_list 636 = .ok (.irem, 1) := by decide +kernel
theorem dL_list_637 : decode cL_list 637 = .ok (.istore 7, 2) := by decide +kernel
theorem dL_list_639 : decode cL_list 639 = .ok (.aload_n 2, 1) := by decide +kernel
theorem dL_list_640 : decode cL_list 640 = .ok (.getfield 56, 3) := by decide +kernel
theorem dL_list_643 : decode cL_list 643 = .ok (.iload 4, 2) := by decide +kernel
theorem dL_list_645 : decode cL_list 645 = .ok (.bipush 9, 2) := by decide +kernel
theorem dL_list_647 : decode cL_list 647 = .ok (.newarray .int, 2) := by decide +kernel
theorem dL_list_649 : decode cL_list 649 = .ok (.dup, 1) := by decide +kernel
theorem dL_list_650 : decode cL_list 650 = .ok (.iconst 0, 1) := by decide +kernel
theorem dL_list_651 : decode cL_list 651 = .ok (.iconst 1, 1) := by decide +kernel
theorem dL_list_652 : decode cL_list 652 = .ok (.iload 5, 2) := by decide +kernel
theorem dL_list_654 : decode cL_list 654 = .ok (.iload 5, 2) := by decide +kernel
theorem dL_list_656 : decode cL_list 656 = .ok (.bipush 9, 2) := by decide +kernel
theorem dL_list_658 : decode cL_list 658 = .ok (.ishr, 1) := by decide +kernel
theorem dL_list_659 : decode cL_list 659 = .ok (.iconst 2, 1) := by decide +kernel
theorem dL_list_660 : decode cL_list 660 = .ok (.invokestatic 102, 3) := by decide +kernel
theorem dL_list_663 : decode cL_list 663 = .ok (.ifCond .ne 8, 3) := by decide +kernel
theorem dL_list_666 : decode cL_list 666 = .ok (.bipush 60, 2) := by decide +kernel
theorem dL_list_668 : decode cL_list 668 = .ok (.goto 5, 3) := by decide +kernel
theorem dL_list_671 : decode cL_list 671 = .ok (.bipush 12, 2) := by decide +kernel
theorem dL_list_673 : decode cL_list 673 = .ok (.invokestatic 102, 3) := by decide +kernel
theorem dL_list_676 : decode cL_list 676 = .ok (.iadd, 1) := by decide +kernel
theorem dL_list_677 : decode cL_list 677 = .ok (.iastore, 1) := by decide +kernel
theorem dL_list_678 : decode cL_list 678 = .ok (.dup, 1) := by decide +kernel
theorem dL_list_679 : decode cL_list 679 = .ok (.iconst 1, 1) := by decide +kernel
theorem dL_list_680 : decode cL_list 680 = .ok (.iload 5, 2) := by decide +kernel
theorem dL_list_682 : decode cL_list 682 = .ok (.iconst 3, 1) := by decide +kernel
theorem dL_list_683 : decode cL_list 683 = .ok (.ishr, 1) := by decide +kernel
theorem dL_list_684 : decode cL_list 684 = .ok (.iconst 2, 1) := by decide +kernel
theorem dL_list_685 : decode cL_list 685 = .ok (.invokestatic 102, 3) := by decide +kernel
theorem dL_list_688 : decode cL_list 688 = .ok (.iastore, 1) := by decide +kernel
theorem dL_list_689 : decode cL_list 689 = .ok (.dup, 1) := by decide +kernel
theorem dL_list_690 : decode cL_list 690 = .ok (.iconst 2, 1) := by decide +kernel
theorem dL_list_691 : decode cL_list 691 = .ok (.iload 5, 2) := by decide +kernel
theorem dL_list_693 : decode cL_list 693 = .ok (.bipush 6, 2) := by decide +kernel
theorem dL_list_695 : decode cL_list 695 = .ok (.ishr, 1) := by decide +kernel
theorem dL_list_696 : decode cL_list 696 = .ok (.bipush 20, 2) := by decide +kernel
theorem dL_list_698 : decode cL_list 698 = .ok (.invokestatic 102, 3) := by decide +kernel
theorem dL_list_701 : decode cL_list 701 = .ok (.iastore, 1) := by decide +kernel
theorem dL_list_702 : decode cL_list 702 = .ok (.dup, 1) := by decide +kernel
theorem dL_list_703 : decode cL_list 703 = .ok (.iconst 3, 1) := by decide +kernel
theorem dL_list_704 : decode cL_list 704 = .ok (.iconst 0, 1) := by decide +kernel
theorem dL_list_705 : decode cL_list 705 = .ok (.iastore, 1) := by decide +kernel
theorem dL_list_706 : decode cL_list 706 = .ok (.dup, 1) := by decide +kernel
theorem dL_list_707 : decode cL_list 707 = .ok (.iconst 4, 1) := by decide +kernel
theorem dL_list_708 : decode cL_list 708 = .ok (.iconst (-1), 1) := by decide +kernel
theorem dL_list_709 : decode cL_list 709 = .ok (.iastore, 1) := by decide +kernel
theorem dL_list_710 : decode cL_list 710 = .ok (.dup, 1) := by decide +kernel
theorem dL_list_711 : decode cL_list 711 = .ok (.iconst 5, 1) := by decide +kernel
theorem dL_list_712 : decode cL_list 712 = .ok (.iconst 0, 1) := by decide +kernel
theorem dL_list_713 : decode cL_list 713 = .ok (.iastore, 1) := by decide +kernel
theorem dL_list_714 : decode cL_list 714 = .ok (.dup, 1) := by decide +kernel
theorem dL_list_715 : decode cL_list 715 = .ok (.bipush 6, 2) := by decide +kernel
theorem dL_list_717 : decode cL_list 717 = .ok (.iconst (-1), 1) := by decide +kernel
theorem dL_list_718 : decode cL_list 718 = .ok (.iastore, 1) := by decide +kernel
theorem dL_list_719 : decode cL_list 719 = .ok (.dup, 1) := by decide +kernel
theorem dL_list_720 : decode cL_list 720 = .ok (.bipush 7, 2) := by decide +kernel
theorem dL_list_722 : decode cL_list 722 = .ok (.iload 6, 2) := by decide +kernel
theorem dL_list_724 : decode cL_list 724 = .ok (.iastore, 1) := by decide +kernel
theorem dL_list_725 : decode cL_list 725 = .ok (.dup, 1) := by decide +kernel
theorem dL_list_726 : decode cL_list 726 = .ok (.bipush 8, 2) := by decide +kernel
theorem dL_list_728 : decode cL_list 728 = .ok (.iload 7, 2) := by decide +kernel
theorem dL_list_730 : decode cL_list 730 = .ok (.iastore, 1) := by decide +kernel
theorem dL_list_731 : decode cL_list 731 = .ok (.aastore, 1) := by decide +kernel
theorem dL_list_732 : decode cL_list 732 = .ok (.aload_n 1, 1) := by decide +kernel
theorem dL_list_733 : decode cL_list 733 = .ok (.ldc 139, 2) := by decide +kernel
theorem dL_list_735 : decode cL_list 735 = .ok (.invokevirtual 37, 3) := by decide +kernel
theorem dL_list_738 : decode cL_list 738 = .ok (.iload 4, 2) := by decide +kernel
theorem dL_list_740 : decode cL_list 740 = .ok (.invokevirtual 47, 3) := by decide +kernel
theorem dL_list_743 : decode cL_list 743 = .ok (.ldc 141, 2) := by decide +kernel
theorem dL_list_745 : decode cL_list 745 = .ok (.invokevirtual 37, 3) := by decide +kernel
theorem dL_list_748 : decode cL_list 748 = .ok (.aload_n 2, 1) := by decide +kernel
theorem dL_list_749 : decode cL_list 749 = .ok (.getfield 56, 3) := by decide +kernel
theorem dL_list_752 : decode cL_list 752 = .ok (.iload 4, 2) := by decide +kernel
theorem dL_list_754 : decode cL_list 754 = .ok (.aaload, 1) := by decide +kernel
theorem dL_list_755 : decode cL_list 755 = .ok (.iconst 0, 1) := by decide +kernel
theorem dL_list_756 : decode cL_list 756 = .ok (.iaload, 1) := by decide +kernel
theorem dL_list_757 : decode cL_list 757 = .ok (.invokevirtual 47, 3) := by decide +kernel
theorem dL_list_760 : decode cL_list 760 = .ok (.ldc 143, 2) := by decide +kernel
theorem dL_list_762 : decode cL_list 762 = .ok (.invokevirtual 37, 3) := by decide +kernel
theorem dL_list_765 : decode cL_list 765 = .ok (.aload_n 2, 1) := by decide +kernel
theorem dL_list_766 : decode cL_list 766 = .ok (.getfield 56, 3) := by decide +kernel
theorem dL_list_769 : decode cL_list 769 = .ok (.iload 4, 2) := by decide +kernel
theorem dL_list_771 : decode cL_list 771 = .ok (.aaload, 1) := by decide +kernel
theorem dL_list_772 : decode cL_list 772 = .ok (.iconst 1, 1) := by decide +kernel
theorem dL_list_773 : decode cL_list 773 = .ok (.iaload, 1) := by decide +kernel
theorem dL_list_774 : decode cL_list 774 = .ok (.ifCond .ne 8, 3) := by decide +kernel
theorem dL_list_777 : decode cL_list 777 = .ok (.ldc 145, 2) := by decide +kernel
theorem dL_list_779 : decode cL_list 779 = .ok (.goto 5, 3) := by decide +kernel
theorem dL_list_782 : decode cL_list 782 = .ok (.ldc 147, 2) := by decide +kernel
theorem dL_list_784 : decode cL_list 784 = .ok (.invokevirtual 37, 3) := by decide +kernel
theorem dL_list_787 : decode cL_list 787 = .ok (.ldc 149, 2) := by decide +kernel
theorem dL_list_789 : decode cL_list 789 = .ok (.invokevirtual 37, 3) := by decide +kernel
theorem dL_list_792 : decode cL_list 792 = .ok (.aload_n 2, 1) := by decide +kernel
theorem dL_list_793 : decode cL_list 793 = .ok (.getfield 56, 3) := by decide +kernel
theorem dL_list_796 : decode cL_list 796 = .ok (.iload 4, 2) := by decide +kernel
theorem dL_list_798 : decode cL_list 798 = .ok (.aaload, 1) := by decide +kernel
theorem dL_list_799 : decode cL_list 799 = .ok (.iconst 2, 1) := by decide +kernel
theorem dL_list_800 : decode cL_list 800 = .ok (.iaload, 1) := by decide +kernel
theorem dL_list_801 : decode cL_list 801 = .ok (.invokevirtual 47, 3) := by decide +kernel
theorem dL_list_804 : decode cL_list 804 = .ok (.ldc 151, 2) := by decide +kernel
theorem dL_list_806 : decode cL_list 806 = .ok (.invokevirtual 37, 3) := by decide +kernel
theorem dL_list_809 : decode cL_list 809 = .ok (.iload 6, 2) := by decide +kernel
theorem dL_list_811 : decode cL_list 811 = .ok (.invokevirtual 47, 3) := by decide +kernel
theorem dL_list_814 : decode cL_list 814 = .ok (.ldc 153, 2) := by decide +kernel
theorem dL_list_816 : decode cL_list 816 = .ok (.invokevirtual 37, 3) := by decide +kernel
theorem dL_list_819 : decode cL_list 819 = .ok (.iload 7, 2) := by decide +kernel
theorem dL_list_821 : decode cL_list 821 = .ok (.invokevirtual 47, 3) := by decide +kernel
theorem dL_list_824 : decode cL_list 824 = .ok (.ldc 117, 2) := by decide +kernel
theorem dL_list_826 : decode cL_list 826 = .ok (.invokevirtual 37, 3) := by decide +kernel
theorem dL_list_829 : decode cL_list 829 = .ok (.pop, 1) := by decide +kernel
theorem dL_list_830 : decode cL_list 830 = .ok (.iinc 4 1, 3) := by decide +kernel
theorem dL_list_833 : decode cL_list 833 = .ok (.goto (-264), 3) := by decide +kernel
theorem dL_list_836 : decode cL_list 836 = .ok (.aload_n 2, 1) := by decide +kernel
theorem dL_list_837 : decode cL_list 837 = .ok (.aload_n 0, 1) := by decide +kernel
theorem dL_list_838 : decode cL_list 838 = .ok (.bipush 13, 2) := by decide +kernel
theorem dL_list_840 : decode cL_list 840 = .ok (.invokestatic 96, 3) := by decide +kernel
theorem dL_list_843 : decode cL_list 843 = .ok (.bipush 6, 2) := by decide +kernel
theorem dL_list_845 : decode cL_list 845 = .ok (.invokestatic 102, 3) := by decide +kernel
theorem dL_list_848 : decode cL_list 848 = .ok (.anewarray 106, 3) := by decide +kernel
theorem dL_list_851 : decode cL_list 851 = .ok (.putfield 155, 3) := by decide +kernel
theorem dL_list_854 : decode cL_list 854 = .ok (.iconst 0, 1) := by decide +kernel
theorem dL_list_855 : decode cL_list 855 = .ok (.istore 4, 2) := by decide +kernel
theorem dL_list_857 : decode cL_list 857 = .ok (.iload 4, 2) := by decide +kernel
theorem dL_list_859 : decode cL_list 859 = .ok (.aload_n 2, 1) := by decide +kernel
theorem dL_list_860 : decode cL_list 860 = .ok (.getfield 155, 3) := by decide +kernel
theorem dL_list_863 : decode cL_list 863 = .ok (.arraylength, 1) := by decide +kernel
theorem dL_list_864 : decode cL_list 864 = .ok (.if_icmp .ge 211, 3) := by decide +kernel
theorem dL_list_867 : decode cL_list 867 = .ok (.aload_n 0, 1) := by decide +kernel
theorem dL_list_868 : decode cL_list 868 = .ok (.bipush 13, 2) := by decide +kernel
theorem dL_list_870 : decode cL_list 870 = .ok (.iload 4, 2) := by decide +kernel
theorem dL_list_872 : decode cL_list 872 = .ok (.iconst 3, 1) := by decide +kernel
theorem dL_list_873 : decode cL_list 873 = .ok (.irem, 1) := by decide +kernel
theorem dL_list_874 : decode cL_list 874 = .ok (.iadd, 1) := by decide +kernel
theorem dL_list_875 : decode cL_list 875 = .ok (.invokestatic 96, 3) := by decide +kernel
theorem dL_list_878 : decode cL_list 878 = .ok (.iconst 3, 1) := by decide +kernel
theorem dL_list_879 : decode cL_list 879 = .ok (.iload 4, 2) := by decide +kernel
theorem dL_list_881 : decode cL_list 881 = .ok (.imul, 1) := by decide +kernel
theorem dL_list_882 : decode cL_list 882 = .ok (.ishr, 1) := by decide +kernel
theorem dL_list_883 : decode cL_list 883 = .ok (.istore 5, 2) := by decide +kernel
theorem dL_list_885 : decode cL_list 885 = .ok (.iload 5, 2) := by decide +kernel
theorem dL_list_887 : decode cL_list 887 = .ok (.iconst 2, 1) := by decide +kernel
theorem dL_list_888 : decode cL_list 888 = .ok (.ishr, 1) := by decide +kernel
theorem dL_list_889 : decode cL_list 889 = .ok (.iconst 3, 1) := by decide +kernel
theorem dL_list_890 : decode cL_list 890 = .ok (.invokestatic 102, 3) := by decide +kernel
theorem dL_list_893 : decode cL_list 893 = .ok (.ifCond .ne 7, 3) := by decide +kernel
theorem dL_list_896 : decode cL_list 896 = .ok (.iconst 1, 1) := by decide +kernel
theorem dL_list_897 : decode cL_list 897 = .ok (.goto 4, 3) := by decide +kernel
theorem dL_list_900 : decode cL_list 900 = .ok (.iconst 0, 1) := by decide +kernel
theorem dL_list_901 : decode cL_list 901 = .ok (.istore 6, 2) := by decide +kernel
theorem dL_list_903 : decode cL_list 903 = .ok (.bipush 6, 2) := by decide +kernel
theorem dL_list_905 : decode cL_list 905 = .ok (.newarray .int, 2) := by decide +kernel
theorem dL_list_907 : decode cL_list 907 = .ok (.dup, 1) := by decide +kernel
theorem dL_list_908 : decode cL_list 908 = .ok (.iconst 0, 1) := by decide +kernel
theorem dL_list_909 : decode cL_list 909 = .ok (.iload 6, 2) := by decide +kernel
theorem dL_list_911 : decode cL_list 911 = .ok (.iastore, 1) := by decide +kernel
theorem dL_list_912 : decode cL_list 912 = .ok (.dup, 1) := by decide +kernel
theorem dL_list_913 : decode cL_list 913 = .ok (.iconst 1, 1) := by decide +kernel
theorem dL_list_914 : decode cL_list 914 = .ok (.iload 6, 2) := by decide +kernel
theorem dL_list_916 : decode cL_list 916 = .ok (.ifCond .ne 14, 3) := by decide +kernel
theorem dL_list_919 : decode cL_list 919 = .ok (.iload 5, 2) := by decide +kernel
theorem dL_list_921 : decode cL_list 921 = .ok (.iconst 3, 1) := by decide +kernel
theorem dL_list_922 : decode cL_list 922 = .ok (.ishr, 1) := by decide +kernel
theorem dL_list_923 : decode cL_list 923 = .ok (.iconst 2, 1) := by decide +kernel
theorem dL_list_924 : decode cL_list 924 = .ok (.invokestatic 102, 3) := by decide +kernel
theorem dL_list_927 : decode cL_list 927 = .ok (.goto 15, 3) := by decide +kernel
theorem dL_list_930 : decode cL_list 930 = .ok (.iload 5, 2) := by decide +kernel
theorem dL_list_932 : decode cL_list 932 = .ok (.iconst 3, 1) := by decide +kernel
theorem dL_list_933 : decode cL_list 933 = .ok (.ishr, 1) := by decide +kernel
theorem dL_list_934 : decode cL_list 934 = .ok (.aload_n 2, 1) := by decide +kernel
theorem dL_list_935 : decode cL_list 935 = .ok (.getfield 41, 3) := by decide +kernel
theorem dL_list_938 : decode cL_list 938 = .ok (.arraylength, 1) := by decide +kernel
theorem dL_list_939 : decode cL_list 939 = .ok (.invokestatic 102, 3) := by decide +kernel
theorem dL_list_942 : decode cL_list 942 = .ok (.iastore, 1) := by decide +kernel
theorem dL_list_943 : decode cL_list 943 = .ok (.dup, 1) := by decide +kernel
theorem dL_list_944 : decode cL_list 944 = .ok (.iconst 2, 1) := by decide +kernel
theorem dL_list_945 : decode cL_list 945 = .ok (.iload 5, 2) := by decide +kernel
theorem dL_list_947 : decode cL_list 947 = .ok (.bipush 8, 2) := by decide +kernel
theorem dL_list_949 : decode cL_list 949 = .ok (.invokestatic 102, 3) := by decide +kernel
theorem dL_list_952 : decode cL_list 952 = .ok (.iastore, 1) := by decide +kernel
theorem dL_list_953 : decode cL_list 953 = .ok (.dup, 1) := by decide +kernel
theorem dL_list_954 : decode cL_list 954 = .ok (.iconst 3, 1) := by decide +kernel
theorem dL_list_955 : decode cL_list 955 = .ok (.iload 5, 2) := by decide +kernel
theorem dL_list_957 : decode cL_list 957 = .ok (.iconst 4, 1) := by decide +kernel
theorem dL_list_958 : decode cL_list 958 = .ok (.ishr, 1) := by decide +kernel
theorem dL_list_959 : decode cL_list 959 = .ok (.bipush 40, 2) := by decide +kernel
theorem dL_list_961 : decode cL_list 961 = .ok (.invokestatic 102, 3) := by decide +kernel
theorem dL_list_964 : decode cL_list 964 = .ok (.iastore, 1) := by decide +kernel
theorem dL_list_965 : decode cL_list 965 = .ok (.dup, 1) := by decide +kernel
theorem dL_list_966 : decode cL_list 966 = .ok (.iconst 4, 1) := by decide +kernel
theorem dL_list_967 : decode cL_list 967 = .ok (.iload 5, 2) := by decide +kernel
theorem dL_list_969 : decode cL_list 969 = .ok (.bipush 6, 2) := by decide +kernel
theorem dL_list_971 : decode cL_list 971 = .ok (.ishr, 1) := by decide +kernel
theorem dL_list_972 : decode cL_list 972 = .ok (.bipush 100, 2) := by decide +kernel
theorem dL_list_974 : decode cL_list 974 = .ok (.invokestatic 102, 3) := by decide +kernel
theorem dL_list_977 : decode cL_list 977 = .ok (.iastore, 1) := by decide +kernel
theorem dL_list_978 : decode cL_list 978 = .ok (.dup, 1) := by decide +kernel
theorem dL_list_979 : decode cL_list 979 = .ok (.iconst 5, 1) := by decide +kernel
theorem dL_list_980 : decode cL_list 980 = .ok (.iload 5, 2) := by decide +kernel
theorem dL_list_982 : decode cL_list 982 = .ok (.iconst 5, 1) := by decide +kernel
theorem dL_list_983 : decode cL_list 983 = .ok (.ishr, 1) := by decide +kernel
theorem dL_list_984 : decode cL_list 984 = .ok (.bipush 30, 2) := by decide +kernel
theorem dL_list_986 : decode cL_list 986 = .ok (.invokestatic 102, 3) := by decide +kernel
theorem dL_list_989 : decode cL_list 989 = .ok (.iastore, 1) := by decide +kernel
theorem dL_list_990 : decode cL_list 990 = .ok (.astore 7, 2) := by decide +kernel
theorem dL_list_992 : decode cL_list 992 = .ok (.aload_n 2, 1) := by decide +kernel
theorem dL_list_993 : decode cL_list 993 = .ok (.getfield 155, 3) := by decide +kernel
theorem dL_list_996 : decode cL_list 996 = .ok (.iload 4, 2) := by decide +kernel
theorem dL_list_998 : decode cL_list 998 = .ok (.aload 7, 2) := by decide +kernel
theorem dL_list_1000 : decode cL_list 1000 = .ok (.aastore, 1) := by decide +kernel
theorem dL_list_1001 : decode cL_list 1001 = .ok (.aload_n 1, 1) := by decide +kernel
theorem dL_list_1002 : decode cL_list 1002 = .ok (.iload 6, 2) := by decide +kernel
theorem dL_list_1004 : decode cL_list 1004 = .ok (.ifCond .ne 20, 3) := by decide +kernel
theorem dL_list_1007 : decode cL_list 1007 = .ok (.aload 7, 2) := by decide +kernel
theorem dL_list_1009 : decode cL_list 1009 = .ok (.iconst 1, 1) := by decide +kernel
theorem dL_list_1010 : decode cL_list 1010 = .ok (.iaload, 1) := by decide +kernel
theorem dL_list_1011 : decode cL_list 1011 = .ok (.ifCond .ne 8, 3) := by decide +kernel
theorem dL_list_1014 : decode cL_list 1014 = .ok (.ldc 158, 2) := by decide +kernel
theorem dL_list_1016 : decode cL_list 1016 = .ok (.goto 30, 3) := by decide +kernel
theorem dL_list_1019 : decode cL_list 1019 = .ok (.ldc 160, 2) := by decide +kernel
theorem dL_list_1021 : decode cL_list 1021 = .ok (.goto 25, 3) := by decide +kernel
theorem dL_list_1024 : decode cL_list 1024 = .ok (.new 32, 3) := by decide +kernel
theorem dL_list_1027 : decode cL_list 1027 = .ok (.dup, 1) := by decide +kernel
theorem dL_list_1028 : decode cL_list 1028 = .ok (.invokespecial 34, 3) := by decide +kernel
theorem dL_list_1031 : decode cL_list 1031 = .ok (.ldc 162, 2) := by decide +kernel
theorem dL_list_1033 : decode cL_list 1033 = .ok (.invokevirtual 37, 3) := by decide +kernel
theorem dL_list_1036 : decode cL_list 1036 = .ok (.aload 7, 2) := by decide +kernel
theorem dL_list_1038 : decode cL_list 1038 = .ok (.iconst 1, 1) := by decide +kernel
theorem dL_list_1039 : decode cL_list 1039 = .ok (.iaload, 1) := by decide +kernel
theorem dL_list_1040 : decode cL_list 1040 = .ok (.invokevirtual 47, 3) := by decide +kernel
theorem dL_list_1043 : decode cL_list 1043 = .ok (.invokevirtual 50, 3) := by decide +kernel
theorem dL_list_1046 : decode cL_list 1046 = .ok (.invokevirtual 37, 3) := by decide +kernel
theorem dL_list_1049 : decode cL_list 1049 = .ok (.ldc 164, 2) := by decide +kernel
theorem dL_list_1051 : decode cL_list 1051 = .ok (.invokevirtual 37, 3) := by decide +kernel
theorem dL_list_1054 : decode cL_list 1054 = .ok (.aload 7, 2) := by decide +kernel
theorem dL_list_1056 : decode cL_list 1056 = .ok (.aload_n 2, 1) := by decide +kernel
theorem dL_list_1057 : decode cL_list 1057 = .ok (.invokestatic 166, 3) := by decide +kernel
theorem dL_list_1060 : decode cL_list 1060 = .ok (.invokevirtual 37, 3) := by decide +kernel
theorem dL_list_1063 : decode cL_list 1063 = .ok (.ldc 117, 2) := by decide +kernel
theorem dL_list_1065 : decode cL_list 1065 = .ok (.invokevirtual 37, 3) := by decide +kernel
theorem dL_list_1068 : decode cL_list 1068 = .ok (.pop, 1) := by decide +kernel
theorem dL_list_1069 : decode cL_list 1069 = .ok (.iinc 4 1, 3) := by decide +kernel
theorem dL_list_1072 : decode cL_list 1072 = .ok (.goto (-215), 3) := by decide +kernel
theorem dL_list_1075 : decode cL_list 1075 = .ok (.aload_n 2, 1) := by decide +kernel
theorem dL_list_1076 : decode cL_list 1076 = .ok (.areturn, 1) := by decide +kernel
theorem mi_L_list : MInfo yL_list cL_list 8 (some (.object "TunnelLeggersLaw$Sim")) 2 := ⟨wq_1157, wq_64, by decide, ⟨by decide +kernel, by decide +kernel, by decide +kernel⟩, by decide +kernel⟩
theorem runING {p : Program} {l : Launch} {e : Env} {s : State} {m : MethodId} {args : Array Value} {below : List Frame} {meth : Method} {c : Code} {H : Heap} {locs : List Loc} {cells slots : Nat} {pc : Nat} {ls : Array Slot} {rest st0 : List Value} {cl : List vw_C} {D : va_G} {Z : Nat → ClassId} {ws : va_W} {R : (Nat → Prop) → R2} {mc ms : Nat} {y : MethodName} {bytes cc : ByteArray} {maxL nL n index : Nat} {rn rn' mcR msR : Nat} {Qc : Array Value → State → Outcome → State → Prop} {free : Addr → Prop} {own host : String} {b : Addr} {As : List Value} (hG : RG R) (hC : CallFix p m c cc nL s args lw_g own) (hN : NW s) (hR : R (va_A ws H.size) s H) (hM : Met l y (wy y bytes maxL none) (rk rn' mc ms) (preG R cl D Z ws H.size (.ref b :: As)) Qc mc ms free) (hi : MInfo y bytes maxL none n) (hl : Cond.methodLinkNest own index y host ∈ lw_n) (hin : Cond.instanceMethod y ∈ lw_g) (hnm : y.name = "<init>") (hlt : rn' < rn)
    (hP : va_P D cl ws H) (hD : va_D (fun _ => True) ws) (hK : va_K D cl (tysG Z) s)
    (hn : As.length = n) (hsize : ls.size = nL) (hstack : st0 = As.reverse ++ .ref b :: rest) (hW : (rest.map fun v => v.category).sum ≤ 8) (hdg : decode cc pc = .ok (.invokespecial index, 3)) (hf : cells + mc ≤ mcR ∧ slots + ms ≤ msR) :
    va_Run p l e (rk rn mcR msR) s m args below meth c H locs cells slots mc ms (F0 m pc ls st0) rest (Qc (Value.ref b :: As).toArray) free := by
  have hts := hC.2.2.2.2
  refine va_runIN (As := As) (rest := rest) hC hM ⟨va_cnB n hts (wy_good hi.1) rfl rfl rfl (hN _ hl) (hts _ hi.2.1) hi.2.2.2.1 (rk_fit hlt hi.2.2.1), hnm, hts _ hin⟩ ⟨preG.blind hG, fun U hU hW => ⟨rfl, by rw [hU], by rw [hU]; exact hP, hD, va_K.moved hW.alike hK, NW.warm hW hN, by rw [hU]; exact hG.2.2.1 _ _ _ _ hW hR⟩⟩ rfl hn hsize hstack (lv_room hW) hdg hf

theorem inb_eq {v : Int32} {n : Nat} (h : inb v n) (hn : n ≤ 2 ^ 31 := by decide) : v = nI v.toInt.toNat := by
  apply Int32.toInt_inj.mp
  rw [nI_toInt (by omega)]
  omega
theorem inb_ge0 {x : Int32} {n : Nat} (h : inb x n) : ¬ x < 0 := by
  have e0 : (0 : Int32).toInt = 0 := by decide
  rw [Int32.lt_iff_toInt_lt, e0]
  omega
theorem inb_toNat {x : Int32} {n k : Nat} (h : inb x n) (e : k = x.toInt.toNat) : x.toNatClampNeg = k ∧ k < n := ⟨e.symm ▸ rfl, by omega⟩
theorem TXT.nil : TXT [] := fun _ h => absurd h List.not_mem_nil
theorem testT_txt {e2 e3 e4 il ib : Nat} (h3 : e3 ≤ 99) (h4 : e4 ≤ 99) (hl : il ≤ 99) (hb : ib ≤ 99) : TXT (testT e2 e3 e4 il ib) := by
  have hL : TXT (legT il) := TXT.app (TXT.app TXT.nil (TXT.lst (by decide))) (TXT.decs hl)
  have hB : TXT (boaT ib) := TXT.app (TXT.app TXT.nil (TXT.lst (by decide))) (TXT.decs hb)
  have h7 : e3 % 7 + 1 ≤ 99 := by omega
  unfold testT
  split
  · exact ((((TXT.nil.app (TXT.lst (by decide))).app (TXT.decs h7)).app (TXT.lst (by decide))).app (TXT.decs h7)).app (TXT.lst (by decide))
  · exact TXT.lst (by decide)
  · exact (TXT.nil.app (TXT.lst (by decide))).app hB
  · exact (((TXT.nil.app (TXT.lst (by decide))).app (TXT.decs h3)).app (TXT.lst (by decide))).app (TXT.decs h4)
  · exact (((TXT.nil.app (TXT.lst (by decide))).app hL).app (TXT.lst (by decide))).app (TXT.decs h4)
  · exact (((((TXT.nil.app (TXT.lst (by decide))).app hL).app (TXT.lst (by decide))).app hB).app (TXT.lst (by decide))).app (TXT.decs h3)
  · exact ((((((TXT.nil.app (TXT.lst (by decide))).app (TXT.decs h3)).app (TXT.lst (by decide))).app hB).app (TXT.lst (by decide))).app (TXT.decs h4)).app (TXT.lst (by decide))
  · exact ((TXT.nil.app (TXT.lst (by decide))).app (TXT.decs h3)).app (TXT.lst (by decide))
abbrev S9 : Type := SBS × (Nat → Nat) × (Nat → Nat → Nat) × List Nat × (Nat → Nat) × (Nat → Nat) × M2 × M2 × M2 × M2 × M2 × M2
abbrev LLu (Z : Nat → ClassId) (sa b : Nat) (w : S9) : va_W := LL Z sa b (w.1) (w.2.1) (w.2.2.1) (w.2.2.2.2.1) (w.2.2.2.2.2.1) (w.2.2.2.2.2.1) (w.2.2.2.2.2.2.1) (w.2.2.2.2.2.2.2.1) (w.2.2.2.2.2.2.2.2.1) (w.2.2.2.2.2.2.2.2.2.1) (w.2.2.2.2.2.2.2.2.2.2.1) (w.2.2.2.2.2.2.2.2.2.2.2)
def llW (Z : Nat → ClassId) (b : Nat) (u0 : SBS) : Option (Nat × S9) → va_W
  | none => sbW Z b u0
  | some x => LLu Z x.1 b x.2
def llK (K : List Nat → (Nat → Nat) → (Nat → Nat) → M2 → M2 → M2 → M2 → M2 → M2 → Prop) (x : Option (Nat × S9)) : Prop := ∃ sa w, x = some (sa, w) ∧ SBI w.1 w.2.2.2.1 ∧ K (w.2.2.2.1) (w.2.2.2.2.1) (w.2.2.2.2.2.1) (w.2.2.2.2.2.2.1) (w.2.2.2.2.2.2.2.1) (w.2.2.2.2.2.2.2.2.1) (w.2.2.2.2.2.2.2.2.2.1) (w.2.2.2.2.2.2.2.2.2.2.1) (w.2.2.2.2.2.2.2.2.2.2.2)
def wj_L_list_942 (xs : Nat → Int32) (Ln : Nat) (C857 : List Nat → (Nat → Nat) → (Nat → Nat) → M2 → M2 → M2 → M2 → M2 → M2 → Int32 → Prop) (K : List Nat → (Nat → Nat) → (Nat → Nat) → M2 → M2 → M2 → M2 → M2 → M2 → Prop) (T : List Nat) (nn : (Nat → Nat)) (kk : (Nat → Nat)) (V : M2) (U : M2) (S : M2) (L : M2) (B : M2) (O : M2) (e905 : (Nat → Int32)) (v4 : Int32) (v5 : Int32) (v6 : Int32) (q0 : Int32) (q1 : Int32) : Prop := (inb q1 (6) ∧ ∀ e905_942 : Nat → Int32, e905_942 = upd e905 q1.toInt.toNat q0 → (inb (2 : Int32) (6) ∧ ∀ e905_952 : Nat → Int32, e905_952 = upd e905_942 2 (blw v5 8) → (inb (3 : Int32) (6) ∧ ∀ e905_964 : Nat → Int32, e905_964 = upd e905_952 3 (blw (v5 >>> ((4 : Int32) &&& 31)) 40) → (inb (4 : Int32) (6) ∧ ∀ e905_977 : Nat → Int32, e905_977 = upd e905_964 4 (blw (v5 >>> ((6 : Int32) &&& 31)) 100) → (inb (5 : Int32) (6) ∧ ∀ e905_989 : Nat → Int32, e905_989 = upd e905_977 5 (blw (v5 >>> ((5 : Int32) &&& 31)) 30) → (v4 = Int32.ofNat (kk 5) ∧ kk 5 < nn 5 ∧ nn 5 ≤ 64 ∧ ∀ kk_1000 : Nat → Nat, kk_1000 = updN kk 5 (kk 5 + 1) → ∀ O_1000 : M2, O_1000 = up2 O (kk 5) e905_989 → ((¬ v6 = 0 → (inb (1 : Int32) (6) ∧ (inb (e905_989 1) 100 ∧ ((T ++ (([] : List Nat) ++ lst 41 ++ decs (e905_989 1).toInt.toNat)).length ≤ 1500 ∧ ∀ T_1046 : List Nat, T_1046 = T ++ (([] : List Nat) ++ lst 41 ++ decs (e905_989 1).toInt.toNat) → ((T_1046 ++ lst 42).length ≤ 1500 ∧ ∀ T_1051 : List Nat, T_1051 = T_1046 ++ lst 42 → (inb (e905_989 2) 8 ∧ inb (e905_989 3) 40 ∧ inb (e905_989 4) 100 ∧ inb (e905_989 5) 30 ∧ (0 < nn 3 ∧ nn 3 ≤ 5) ∧ (0 < nn 4 ∧ nn 4 ≤ 5) ∧ (T_1051 ++ (testT (e905_989 2).toInt.toNat (e905_989 3).toInt.toNat (e905_989 4).toInt.toNat ((e905_989 5).toInt.toNat % nn 3) ((e905_989 5).toInt.toNat % nn 4))).length ≤ 1500 ∧ ∀ T_1057 : List Nat, T_1057 = T_1051 ++ (testT (e905_989 2).toInt.toNat (e905_989 3).toInt.toNat (e905_989 4).toInt.toNat ((e905_989 5).toInt.toNat % nn 3) ((e905_989 5).toInt.toNat % nn 4)) → ((T_1057 ++ lst 23).length ≤ 1500 ∧ ∀ T_1065 : List Nat, T_1065 = T_1057 ++ lst 23 → (∀ v4_1069 : Int32, v4_1069 = v4 + 1 → C857 T_1065 nn kk_1000 V U S L B O_1000 v4_1069)))))))) ∧ (v6 = 0 → (inb (1 : Int32) (6) ∧ ((¬ (e905_989 1) = 0 → ((T ++ lst 40).length ≤ 1500 ∧ ∀ T_1046 : List Nat, T_1046 = T ++ lst 40 → ((T_1046 ++ lst 42).length ≤ 1500 ∧ ∀ T_1051 : List Nat, T_1051 = T_1046 ++ lst 42 → (inb (e905_989 2) 8 ∧ inb (e905_989 3) 40 ∧ inb (e905_989 4) 100 ∧ inb (e905_989 5) 30 ∧ (0 < nn 3 ∧ nn 3 ≤ 5) ∧ (0 < nn 4 ∧ nn 4 ≤ 5) ∧ (T_1051 ++ (testT (e905_989 2).toInt.toNat (e905_989 3).toInt.toNat (e905_989 4).toInt.toNat ((e905_989 5).toInt.toNat % nn 3) ((e905_989 5).toInt.toNat % nn 4))).length ≤ 1500 ∧ ∀ T_1057 : List Nat, T_1057 = T_1051 ++ (testT (e905_989 2).toInt.toNat (e905_989 3).toInt.toNat (e905_989 4).toInt.toNat ((e905_989 5).toInt.toNat % nn 3) ((e905_989 5).toInt.toNat % nn 4)) → ((T_1057 ++ lst 23).length ≤ 1500 ∧ ∀ T_1065 : List Nat, T_1065 = T_1057 ++ lst 23 → (∀ v4_1069 : Int32, v4_1069 = v4 + 1 → C857 T_1065 nn kk_1000 V U S L B O_1000 v4_1069)))))) ∧ ((e905_989 1) = 0 → ((T ++ lst 39).length ≤ 1500 ∧ ∀ T_1046 : List Nat, T_1046 = T ++ lst 39 → ((T_1046 ++ lst 42).length ≤ 1500 ∧ ∀ T_1051 : List Nat, T_1051 = T_1046 ++ lst 42 → (inb (e905_989 2) 8 ∧ inb (e905_989 3) 40 ∧ inb (e905_989 4) 100 ∧ inb (e905_989 5) 30 ∧ (0 < nn 3 ∧ nn 3 ≤ 5) ∧ (0 < nn 4 ∧ nn 4 ≤ 5) ∧ (T_1051 ++ (testT (e905_989 2).toInt.toNat (e905_989 3).toInt.toNat (e905_989 4).toInt.toNat ((e905_989 5).toInt.toNat % nn 3) ((e905_989 5).toInt.toNat % nn 4))).length ≤ 1500 ∧ ∀ T_1057 : List Nat, T_1057 = T_1051 ++ (testT (e905_989 2).toInt.toNat (e905_989 3).toInt.toNat (e905_989 4).toInt.toNat ((e905_989 5).toInt.toNat % nn 3) ((e905_989 5).toInt.toNat % nn 4)) → ((T_1057 ++ lst 23).length ≤ 1500 ∧ ∀ T_1065 : List Nat, T_1065 = T_1057 ++ lst 23 → (∀ v4_1069 : Int32, v4_1069 = v4 + 1 → C857 T_1065 nn kk_1000 V U S L B O_1000 v4_1069))))))))))))))))
def wj_L_list_901 (xs : Nat → Int32) (Ln : Nat) (C857 : List Nat → (Nat → Nat) → (Nat → Nat) → M2 → M2 → M2 → M2 → M2 → M2 → Int32 → Prop) (K : List Nat → (Nat → Nat) → (Nat → Nat) → M2 → M2 → M2 → M2 → M2 → M2 → Prop) (T : List Nat) (nn : (Nat → Nat)) (kk : (Nat → Nat)) (V : M2) (U : M2) (S : M2) (L : M2) (B : M2) (O : M2) (v4 : Int32) (v5 : Int32) (q0 : Int32) : Prop := (inb (0 : Int32) (6) ∧ ∀ e905_911 : Nat → Int32, e905_911 = upd ((fun _ => 0)) 0 q0 → ((¬ q0 = 0 → (¬ (Int32.ofNat (nn 3)) = 0 ∧ wj_L_list_942 xs Ln C857 K T nn kk V U S L B O e905_911 v4 v5 q0 (blw (v5 >>> ((3 : Int32) &&& 31)) (Int32.ofNat (nn 3))) 1)) ∧ (q0 = 0 → wj_L_list_942 xs Ln C857 K T nn kk V U S L B O e905_911 v4 v5 q0 (blw (v5 >>> ((3 : Int32) &&& 31)) 2) 1)))
def wl_L_list_857 (xs : Nat → Int32) (Ln : Nat) (K : List Nat → (Nat → Nat) → (Nat → Nat) → M2 → M2 → M2 → M2 → M2 → M2 → Prop) : Nat → List Nat → (Nat → Nat) → (Nat → Nat) → M2 → M2 → M2 → M2 → M2 → M2 → Int32 → Prop
  | 0, _, _, _, _, _, _, _, _, _, _ => False
  | n + 1, T, nn, kk, V, U, S, L, B, O, v4 => (((Int32.ofNat (nn 5)) ≤ v4 → K T nn kk V U S L B O) ∧ (¬ (Int32.ofNat (nn 5)) ≤ v4 → (¬ ((13 : Int32) + (v4 - v4 / (3 : Int32) * (3 : Int32))) < 0 ∧ (∀ v5_883 : Int32, v5_883 = (celv xs Ln ((13 : Int32) + (v4 - v4 / (3 : Int32) * (3 : Int32)))) >>> (((3 : Int32) * v4) &&& 31) → ((¬ (blw (v5_883 >>> ((2 : Int32) &&& 31)) 3) = 0 → wj_L_list_901 xs Ln (wl_L_list_857 xs Ln K n) K T nn kk V U S L B O v4 v5_883 0) ∧ ((blw (v5_883 >>> ((2 : Int32) &&& 31)) 3) = 0 → wj_L_list_901 xs Ln (wl_L_list_857 xs Ln K n) K T nn kk V U S L B O v4 v5_883 1))))))
def wj_L_list_673 (xs : Nat → Int32) (Ln : Nat) (C569 : List Nat → (Nat → Nat) → (Nat → Nat) → M2 → M2 → M2 → M2 → M2 → M2 → Int32 → Prop) (K : List Nat → (Nat → Nat) → (Nat → Nat) → M2 → M2 → M2 → M2 → M2 → M2 → Prop) (T : List Nat) (nn : (Nat → Nat)) (kk : (Nat → Nat)) (V : M2) (U : M2) (S : M2) (L : M2) (B : M2) (O : M2) (e647 : (Nat → Int32)) (v4 : Int32) (v5 : Int32) (v6 : Int32) (v7 : Int32) (q0 : Int32) (q1 : Int32) (q2 : Int32) (q3 : Int32) (q6 : Int32) : Prop := (¬ q0 = 0 ∧ (inb q3 (9) ∧ ∀ e647_677 : Nat → Int32, e647_677 = upd e647 q3.toInt.toNat (q2 + (blw q1 q0)) → (inb (1 : Int32) (9) ∧ ∀ e647_688 : Nat → Int32, e647_688 = upd e647_677 1 (blw (v5 >>> ((3 : Int32) &&& 31)) 2) → (inb (2 : Int32) (9) ∧ ∀ e647_701 : Nat → Int32, e647_701 = upd e647_688 2 (blw (v5 >>> ((6 : Int32) &&& 31)) 20) → (inb (3 : Int32) (9) ∧ ∀ e647_705 : Nat → Int32, e647_705 = upd e647_701 3 0 → (inb (4 : Int32) (9) ∧ ∀ e647_709 : Nat → Int32, e647_709 = upd e647_705 4 ((-1)) → (inb (5 : Int32) (9) ∧ ∀ e647_713 : Nat → Int32, e647_713 = upd e647_709 5 0 → (inb (6 : Int32) (9) ∧ ∀ e647_718 : Nat → Int32, e647_718 = upd e647_713 6 ((-1)) → (inb (7 : Int32) (9) ∧ ∀ e647_724 : Nat → Int32, e647_724 = upd e647_718 7 v6 → (inb (8 : Int32) (9) ∧ ∀ e647_730 : Nat → Int32, e647_730 = upd e647_724 8 v7 → (q6 = Int32.ofNat (kk 4) ∧ kk 4 < nn 4 ∧ nn 4 ≤ 64 ∧ ∀ kk_731 : Nat → Nat, kk_731 = updN kk 4 (kk 4 + 1) → ∀ B_731 : M2, B_731 = up2 B (kk 4) e647_730 → ((T ++ lst 31).length ≤ 1500 ∧ ∀ T_735 : List Nat, T_735 = T ++ lst 31 → (inb v4 100 ∧ (T_735 ++ decs v4.toInt.toNat).length ≤ 1500 ∧ ∀ T_740 : List Nat, T_740 = T_735 ++ decs v4.toInt.toNat → ((T_740 ++ lst 32).length ≤ 1500 ∧ ∀ T_745 : List Nat, T_745 = T_740 ++ lst 32 → (kk_731 4 ≤ nn 4 ∧ inb v4 (kk_731 4) ∧ (inb v4 (kk_731 4) ∧ (inb (B_731 v4.toInt.toNat 0) 100 ∧ (T_745 ++ decs (B_731 v4.toInt.toNat 0).toInt.toNat).length ≤ 1500 ∧ ∀ T_757 : List Nat, T_757 = T_745 ++ decs (B_731 v4.toInt.toNat 0).toInt.toNat → ((T_757 ++ lst 33).length ≤ 1500 ∧ ∀ T_762 : List Nat, T_762 = T_757 ++ lst 33 → (kk_731 4 ≤ nn 4 ∧ inb v4 (kk_731 4) ∧ (inb v4 (kk_731 4) ∧ ((¬ (B_731 v4.toInt.toNat 1) = 0 → ((T_762 ++ lst 35).length ≤ 1500 ∧ ∀ T_784 : List Nat, T_784 = T_762 ++ lst 35 → ((T_784 ++ lst 36).length ≤ 1500 ∧ ∀ T_789 : List Nat, T_789 = T_784 ++ lst 36 → (kk_731 4 ≤ nn 4 ∧ inb v4 (kk_731 4) ∧ (inb v4 (kk_731 4) ∧ (inb (B_731 v4.toInt.toNat 2) 100 ∧ (T_789 ++ decs (B_731 v4.toInt.toNat 2).toInt.toNat).length ≤ 1500 ∧ ∀ T_801 : List Nat, T_801 = T_789 ++ decs (B_731 v4.toInt.toNat 2).toInt.toNat → ((T_801 ++ lst 37).length ≤ 1500 ∧ ∀ T_806 : List Nat, T_806 = T_801 ++ lst 37 → (inb v6 100 ∧ (T_806 ++ decs v6.toInt.toNat).length ≤ 1500 ∧ ∀ T_811 : List Nat, T_811 = T_806 ++ decs v6.toInt.toNat → ((T_811 ++ lst 38).length ≤ 1500 ∧ ∀ T_816 : List Nat, T_816 = T_811 ++ lst 38 → (inb v7 100 ∧ (T_816 ++ decs v7.toInt.toNat).length ≤ 1500 ∧ ∀ T_821 : List Nat, T_821 = T_816 ++ decs v7.toInt.toNat → ((T_821 ++ lst 23).length ≤ 1500 ∧ ∀ T_826 : List Nat, T_826 = T_821 ++ lst 23 → (∀ v4_830 : Int32, v4_830 = v4 + 1 → C569 T_826 nn kk_731 V U S L B_731 O v4_830)))))))))))) ∧ ((B_731 v4.toInt.toNat 1) = 0 → ((T_762 ++ lst 34).length ≤ 1500 ∧ ∀ T_784 : List Nat, T_784 = T_762 ++ lst 34 → ((T_784 ++ lst 36).length ≤ 1500 ∧ ∀ T_789 : List Nat, T_789 = T_784 ++ lst 36 → (kk_731 4 ≤ nn 4 ∧ inb v4 (kk_731 4) ∧ (inb v4 (kk_731 4) ∧ (inb (B_731 v4.toInt.toNat 2) 100 ∧ (T_789 ++ decs (B_731 v4.toInt.toNat 2).toInt.toNat).length ≤ 1500 ∧ ∀ T_801 : List Nat, T_801 = T_789 ++ decs (B_731 v4.toInt.toNat 2).toInt.toNat → ((T_801 ++ lst 37).length ≤ 1500 ∧ ∀ T_806 : List Nat, T_806 = T_801 ++ lst 37 → (inb v6 100 ∧ (T_806 ++ decs v6.toInt.toNat).length ≤ 1500 ∧ ∀ T_811 : List Nat, T_811 = T_806 ++ decs v6.toInt.toNat → ((T_811 ++ lst 38).length ≤ 1500 ∧ ∀ T_816 : List Nat, T_816 = T_811 ++ lst 38 → (inb v7 100 ∧ (T_816 ++ decs v7.toInt.toNat).length ≤ 1500 ∧ ∀ T_821 : List Nat, T_821 = T_816 ++ decs v7.toInt.toNat → ((T_821 ++ lst 23).length ≤ 1500 ∧ ∀ T_826 : List Nat, T_826 = T_821 ++ lst 23 → (∀ v4_830 : Int32, v4_830 = v4 + 1 → C569 T_826 nn kk_731 V U S L B_731 O v4_830)))))))))))))))))))))))))))))))))
def wl_L_list_569 (xs : Nat → Int32) (Ln : Nat) (K : List Nat → (Nat → Nat) → (Nat → Nat) → M2 → M2 → M2 → M2 → M2 → M2 → Prop) : Nat → List Nat → (Nat → Nat) → (Nat → Nat) → M2 → M2 → M2 → M2 → M2 → M2 → Int32 → Prop
  | 0, _, _, _, _, _, _, _, _, _, _ => False
  | n + 1, T, nn, kk, V, U, S, L, B, O, v4 => (((Int32.ofNat (nn 4)) ≤ v4 → (inb (blw (celv xs Ln 13) 6) 65 ∧ ∀ z848 : Nat, z848 = (blw (celv xs Ln 13) 6).toInt.toNat → (kk 5 = 0 ∧ ∀ nn_851 : Nat → Nat, nn_851 = updN nn 5 z848 → wl_L_list_857 xs Ln K 6 T nn_851 kk V U S L B O 0))) ∧ (¬ (Int32.ofNat (nn 4)) ≤ v4 → (¬ ((9 : Int32) + (v4 - v4 / (4 : Int32) * (4 : Int32))) < 0 ∧ (∀ v5_595 : Int32, v5_595 = (celv xs Ln ((9 : Int32) + (v4 - v4 / (4 : Int32) * (4 : Int32)))) >>> (((2 : Int32) * v4) &&& 31) → (¬ (Int32.ofNat (nn 3)) = 0 ∧ (∀ v6_609 : Int32, v6_609 = blw (v5_595 >>> ((5 : Int32) &&& 31)) (Int32.ofNat (nn 3)) → (¬ ((Int32.ofNat (nn 3)) - (1 : Int32)) = 0 ∧ (¬ (Int32.ofNat (nn 3)) = 0 ∧ (∀ v7_637 : Int32, v7_637 = ((v6_609 + (1 : Int32)) + (blw (v5_595 >>> ((7 : Int32) &&& 31)) ((Int32.ofNat (nn 3)) - (1 : Int32)))) - ((v6_609 + (1 : Int32)) + (blw (v5_595 >>> ((7 : Int32) &&& 31)) ((Int32.ofNat (nn 3)) - (1 : Int32)))) / (Int32.ofNat (nn 3)) * (Int32.ofNat (nn 3)) → ((¬ (blw (v5_595 >>> ((9 : Int32) &&& 31)) 2) = 0 → wj_L_list_673 xs Ln (wl_L_list_569 xs Ln K n) K T nn kk V U S L B O ((fun _ => 0)) v4 v5_595 v6_609 v7_637 12 v5_595 1 0 v4) ∧ ((blw (v5_595 >>> ((9 : Int32) &&& 31)) 2) = 0 → wj_L_list_673 xs Ln (wl_L_list_569 xs Ln K n) K T nn kk V U S L B O ((fun _ => 0)) v4 v5_595 v6_609 v7_637 60 v5_595 1 0 v4)))))))))))
def wl_L_list_411 (xs : Nat → Int32) (Ln : Nat) (K : List Nat → (Nat → Nat) → (Nat → Nat) → M2 → M2 → M2 → M2 → M2 → M2 → Prop) : Nat → List Nat → (Nat → Nat) → (Nat → Nat) → M2 → M2 → M2 → M2 → M2 → M2 → Int32 → Prop
  | 0, _, _, _, _, _, _, _, _, _, _ => False
  | n + 1, T, nn, kk, V, U, S, L, B, O, v4 => (((Int32.ofNat (nn 3)) ≤ v4 → (inb ((1 : Int32) + (blw (celv xs Ln 9) 5)) 65 ∧ ∀ z560 : Nat, z560 = ((1 : Int32) + (blw (celv xs Ln 9) 5)).toInt.toNat → (kk 4 = 0 ∧ ∀ nn_563 : Nat → Nat, nn_563 = updN nn 4 z560 → wl_L_list_569 xs Ln K 6 T nn_563 kk V U S L B O 0))) ∧ (¬ (Int32.ofNat (nn 3)) ≤ v4 → (¬ ((6 : Int32) + (v4 - v4 / (3 : Int32) * (3 : Int32))) < 0 ∧ (∀ v5_439 : Int32, v5_439 = (celv xs Ln ((6 : Int32) + (v4 - v4 / (3 : Int32) * (3 : Int32)))) >>> ((((2 : Int32) * v4) + (1 : Int32)) &&& 31) → (∀ v6_452 : Int32, v6_452 = (2 : Int32) + (blw (v5_439 >>> ((4 : Int32) &&& 31)) 8) → (inb (0 : Int32) (5) ∧ ∀ e461_474 : Nat → Int32, e461_474 = upd ((fun _ => 0)) 0 ((1 : Int32) + (blw v5_439 9)) → (inb (1 : Int32) (5) ∧ ∀ e461_479 : Nat → Int32, e461_479 = upd e461_474 1 v6_452 → (inb (2 : Int32) (5) ∧ ∀ e461_487 : Nat → Int32, e461_487 = upd e461_479 2 ((10 : Int32) * v6_452) → (inb (3 : Int32) (5) ∧ ∀ e461_491 : Nat → Int32, e461_491 = upd e461_487 3 ((-1)) → (inb (4 : Int32) (5) ∧ ∀ e461_495 : Nat → Int32, e461_495 = upd e461_491 4 0 → (v4 = Int32.ofNat (kk 3) ∧ kk 3 < nn 3 ∧ nn 3 ≤ 64 ∧ ∀ kk_496 : Nat → Nat, kk_496 = updN kk 3 (kk 3 + 1) → ∀ L_496 : M2, L_496 = up2 L (kk 3) e461_495 → ((T ++ lst 27).length ≤ 1500 ∧ ∀ T_500 : List Nat, T_500 = T ++ lst 27 → (inb v4 100 ∧ (T_500 ++ decs v4.toInt.toNat).length ≤ 1500 ∧ ∀ T_505 : List Nat, T_505 = T_500 ++ decs v4.toInt.toNat → ((T_505 ++ lst 28).length ≤ 1500 ∧ ∀ T_510 : List Nat, T_510 = T_505 ++ lst 28 → (kk_496 3 ≤ nn 3 ∧ inb v4 (kk_496 3) ∧ (inb v4 (kk_496 3) ∧ (inb (L_496 v4.toInt.toNat 0) 100 ∧ (T_510 ++ decs (L_496 v4.toInt.toNat 0).toInt.toNat).length ≤ 1500 ∧ ∀ T_522 : List Nat, T_522 = T_510 ++ decs (L_496 v4.toInt.toNat 0).toInt.toNat → ((T_522 ++ lst 29).length ≤ 1500 ∧ ∀ T_527 : List Nat, T_527 = T_522 ++ lst 29 → (inb v6_452 100 ∧ (T_527 ++ decs v6_452.toInt.toNat).length ≤ 1500 ∧ ∀ T_532 : List Nat, T_532 = T_527 ++ decs v6_452.toInt.toNat → ((T_532 ++ lst 30).length ≤ 1500 ∧ ∀ T_537 : List Nat, T_537 = T_532 ++ lst 30 → (∀ v4_541 : Int32, v4_541 = v4 + 1 → wl_L_list_411 xs Ln K n T_537 nn kk_496 V U S L_496 B O v4_541)))))))))))))))))))))
def wl_L_list_273 (xs : Nat → Int32) (Ln : Nat) (K : List Nat → (Nat → Nat) → (Nat → Nat) → M2 → M2 → M2 → M2 → M2 → M2 → Prop) : Nat → List Nat → (Nat → Nat) → (Nat → Nat) → M2 → M2 → M2 → M2 → M2 → M2 → Int32 → Int32 → Prop
  | 0, _, _, _, _, _, _, _, _, _, _, _ => False
  | n + 1, T, nn, kk, V, U, S, L, B, O, v3, v4 => (((Int32.ofNat (nn 2)) ≤ v4 → (inb ((2 : Int32) + (blw (celv xs Ln 6) 4)) 65 ∧ ∀ z402 : Nat, z402 = ((2 : Int32) + (blw (celv xs Ln 6) 4)).toInt.toNat → (kk 3 = 0 ∧ ∀ nn_405 : Nat → Nat, nn_405 = updN nn 3 z402 → wl_L_list_411 xs Ln K 6 T nn_405 kk V U S L B O 0))) ∧ (¬ (Int32.ofNat (nn 2)) ≤ v4 → (¬ v3 = 0 ∧ (inb (0 : Int32) (2) ∧ ∀ e290_310 : Nat → Int32, e290_310 = upd ((fun _ => 0)) 0 (blw ((celv xs Ln 4) >>> ((((3 : Int32) * v4) + (2 : Int32)) &&& 31)) v3) → (inb (1 : Int32) (2) ∧ ∀ e290_330 : Nat → Int32, e290_330 = upd e290_310 1 ((1 : Int32) + (blw ((celv xs Ln 5) >>> (((4 : Int32) * v4) &&& 31)) 30)) → (v4 = Int32.ofNat (kk 2) ∧ kk 2 < nn 2 ∧ nn 2 ≤ 64 ∧ ∀ kk_331 : Nat → Nat, kk_331 = updN kk 2 (kk 2 + 1) → ∀ S_331 : M2, S_331 = up2 S (kk 2) e290_330 → ((T ++ lst 24).length ≤ 1500 ∧ ∀ T_335 : List Nat, T_335 = T ++ lst 24 → (inb v4 100 ∧ (T_335 ++ decs v4.toInt.toNat).length ≤ 1500 ∧ ∀ T_340 : List Nat, T_340 = T_335 ++ decs v4.toInt.toNat → ((T_340 ++ lst 25).length ≤ 1500 ∧ ∀ T_345 : List Nat, T_345 = T_340 ++ lst 25 → (kk_331 2 ≤ nn 2 ∧ inb v4 (kk_331 2) ∧ (inb v4 (kk_331 2) ∧ (inb (S_331 v4.toInt.toNat 0) 100 ∧ (T_345 ++ decs (S_331 v4.toInt.toNat 0).toInt.toNat).length ≤ 1500 ∧ ∀ T_357 : List Nat, T_357 = T_345 ++ decs (S_331 v4.toInt.toNat 0).toInt.toNat → ((T_357 ++ lst 26).length ≤ 1500 ∧ ∀ T_362 : List Nat, T_362 = T_357 ++ lst 26 → (kk_331 2 ≤ nn 2 ∧ inb v4 (kk_331 2) ∧ (inb v4 (kk_331 2) ∧ (inb (S_331 v4.toInt.toNat 1) 100 ∧ (T_362 ++ decs (S_331 v4.toInt.toNat 1).toInt.toNat).length ≤ 1500 ∧ ∀ T_374 : List Nat, T_374 = T_362 ++ decs (S_331 v4.toInt.toNat 1).toInt.toNat → ((T_374 ++ lst 23).length ≤ 1500 ∧ ∀ T_379 : List Nat, T_379 = T_374 ++ lst 23 → (∀ v4_383 : Int32, v4_383 = v4 + 1 → wl_L_list_273 xs Ln K n T_379 nn kk_331 V U S_331 L B O v3 v4_383))))))))))))))))))
def wl_L_list_198 (xs : Nat → Int32) (Ln : Nat) (C185 : List Nat → (Nat → Nat) → (Nat → Nat) → M2 → M2 → M2 → M2 → M2 → M2 → Int32 → Int32 → Prop) (K : List Nat → (Nat → Nat) → (Nat → Nat) → M2 → M2 → M2 → M2 → M2 → M2 → Prop) : Nat → List Nat → (Nat → Nat) → (Nat → Nat) → M2 → M2 → M2 → M2 → M2 → M2 → Int32 → Int32 → Int32 → Prop
  | 0, _, _, _, _, _, _, _, _, _, _, _, _ => False
  | n + 1, T, nn, kk, V, U, S, L, B, O, v3, v4, v5 => (kk 0 ≤ nn 0 ∧ inb v4 (kk 0) ∧ (inb v4 (kk 0) ∧ (((V v4.toInt.toNat 0) ≤ v5 → (∀ v4_248 : Int32, v4_248 = v4 + 1 → C185 T nn kk V U S L B O v3 v4_248)) ∧ (¬ (V v4.toInt.toNat 0) ≤ v5 → (kk 0 ≤ nn 0 ∧ inb v4 (kk 0) ∧ (inb v4 (kk 0) ∧ (inb (0 : Int32) (2) ∧ ∀ e229_235 : Nat → Int32, e229_235 = upd ((fun _ => 0)) 0 v4 → (inb (1 : Int32) (2) ∧ ∀ e229_240 : Nat → Int32, e229_240 = upd e229_235 1 100 → (((V v4.toInt.toNat 2) + v5) = Int32.ofNat (kk 1) ∧ kk 1 < nn 1 ∧ nn 1 ≤ 64 ∧ ∀ kk_241 : Nat → Nat, kk_241 = updN kk 1 (kk 1 + 1) → ∀ U_241 : M2, U_241 = up2 U (kk 1) e229_240 → (∀ v5_242 : Int32, v5_242 = v5 + 1 → wl_L_list_198 xs Ln C185 K n T nn kk_241 V U_241 S L B O v3 v4 v5_242))))))))))
def wl_L_list_185 (xs : Nat → Int32) (Ln : Nat) (K : List Nat → (Nat → Nat) → (Nat → Nat) → M2 → M2 → M2 → M2 → M2 → M2 → Prop) : Nat → List Nat → (Nat → Nat) → (Nat → Nat) → M2 → M2 → M2 → M2 → M2 → M2 → Int32 → Int32 → Prop
  | 0, _, _, _, _, _, _, _, _, _, _, _ => False
  | n + 1, T, nn, kk, V, U, S, L, B, O, v3, v4 => (((Int32.ofNat (nn 0)) ≤ v4 → (inb (blw (celv xs Ln 4) 3) 65 ∧ ∀ z264 : Nat, z264 = (blw (celv xs Ln 4) 3).toInt.toNat → (kk 2 = 0 ∧ ∀ nn_267 : Nat → Nat, nn_267 = updN nn 2 z264 → wl_L_list_273 xs Ln K 3 T nn_267 kk V U S L B O v3 0))) ∧ (¬ (Int32.ofNat (nn 0)) ≤ v4 → wl_L_list_198 xs Ln (wl_L_list_185 xs Ln K n) K 14 T nn kk V U S L B O v3 v4 0))
def wj_L_list_83 (xs : Nat → Int32) (Ln : Nat) (C31 : List Nat → (Nat → Nat) → (Nat → Nat) → M2 → M2 → M2 → M2 → M2 → M2 → Int32 → Int32 → Prop) (K : List Nat → (Nat → Nat) → (Nat → Nat) → M2 → M2 → M2 → M2 → M2 → M2 → Prop) (T : List Nat) (nn : (Nat → Nat)) (kk : (Nat → Nat)) (V : M2) (U : M2) (S : M2) (L : M2) (B : M2) (O : M2) (e58 : (Nat → Int32)) (v3 : Int32) (v4 : Int32) (v5 : Int32) (q0 : Int32) (q1 : Int32) (q2 : Int32) (q3 : Int32) (q6 : Int32) : Prop := (¬ q0 = 0 ∧ (inb q3 (3) ∧ ∀ e58_87 : Nat → Int32, e58_87 = upd e58 q3.toInt.toNat (q2 + (blw q1 q0)) → (inb (1 : Int32) (3) ∧ ∀ e58_99 : Nat → Int32, e58_99 = upd e58_87 1 (blw (v5 >>> ((4 : Int32) &&& 31)) 10) → (inb (2 : Int32) (3) ∧ ∀ e58_103 : Nat → Int32, e58_103 = upd e58_99 2 v3 → (q6 = Int32.ofNat (kk 0) ∧ kk 0 < nn 0 ∧ nn 0 ≤ 64 ∧ ∀ kk_104 : Nat → Nat, kk_104 = updN kk 0 (kk 0 + 1) → ∀ V_104 : M2, V_104 = up2 V (kk 0) e58_103 → (kk_104 0 ≤ nn 0 ∧ inb v4 (kk_104 0) ∧ (inb v4 (kk_104 0) ∧ (∀ v3_116 : Int32, v3_116 = v3 + (V_104 v4.toInt.toNat 0) → ((T ++ lst 20).length ≤ 1500 ∧ ∀ T_120 : List Nat, T_120 = T ++ lst 20 → (inb v4 100 ∧ (T_120 ++ decs v4.toInt.toNat).length ≤ 1500 ∧ ∀ T_125 : List Nat, T_125 = T_120 ++ decs v4.toInt.toNat → ((T_125 ++ lst 21).length ≤ 1500 ∧ ∀ T_130 : List Nat, T_130 = T_125 ++ lst 21 → (kk_104 0 ≤ nn 0 ∧ inb v4 (kk_104 0) ∧ (inb v4 (kk_104 0) ∧ (inb (V_104 v4.toInt.toNat 0) 100 ∧ (T_130 ++ decs (V_104 v4.toInt.toNat 0).toInt.toNat).length ≤ 1500 ∧ ∀ T_142 : List Nat, T_142 = T_130 ++ decs (V_104 v4.toInt.toNat 0).toInt.toNat → ((T_142 ++ lst 22).length ≤ 1500 ∧ ∀ T_147 : List Nat, T_147 = T_142 ++ lst 22 → (kk_104 0 ≤ nn 0 ∧ inb v4 (kk_104 0) ∧ (inb v4 (kk_104 0) ∧ (inb (V_104 v4.toInt.toNat 1) 100 ∧ (T_147 ++ decs (V_104 v4.toInt.toNat 1).toInt.toNat).length ≤ 1500 ∧ ∀ T_159 : List Nat, T_159 = T_147 ++ decs (V_104 v4.toInt.toNat 1).toInt.toNat → ((T_159 ++ lst 23).length ≤ 1500 ∧ ∀ T_164 : List Nat, T_164 = T_159 ++ lst 23 → (∀ v4_168 : Int32, v4_168 = v4 + 1 → C31 T_164 nn kk_104 V_104 U S L B O v3_116 v4_168))))))))))))))))))))
def wl_L_list_31 (xs : Nat → Int32) (Ln : Nat) (K : List Nat → (Nat → Nat) → (Nat → Nat) → M2 → M2 → M2 → M2 → M2 → M2 → Prop) : Nat → List Nat → (Nat → Nat) → (Nat → Nat) → M2 → M2 → M2 → M2 → M2 → M2 → Int32 → Int32 → Prop
  | 0, _, _, _, _, _, _, _, _, _, _, _ => False
  | n + 1, T, nn, kk, V, U, S, L, B, O, v3, v4 => (((Int32.ofNat (nn 0)) ≤ v4 → (inb v3 65 ∧ ∀ z176 : Nat, z176 = (v3).toInt.toNat → (kk 1 = 0 ∧ ∀ nn_179 : Nat → Nat, nn_179 = updN nn 1 z176 → wl_L_list_185 xs Ln K 4 T nn_179 kk V U S L B O v3 0))) ∧ (¬ (Int32.ofNat (nn 0)) ≤ v4 → (¬ ((1 : Int32) + v4) < 0 ∧ (∀ v5_49 : Int32, v5_49 = celv xs Ln ((1 : Int32) + v4) → ((¬ (blw (v5_49 >>> ((8 : Int32) &&& 31)) 3) = 0 → wj_L_list_83 xs Ln (wl_L_list_31 xs Ln K n) K T nn kk V U S L B O ((fun _ => 0)) v3 v4 v5_49 4 v5_49 1 0 v4) ∧ ((blw (v5_49 >>> ((8 : Int32) &&& 31)) 3) = 0 → wj_L_list_83 xs Ln (wl_L_list_31 xs Ln K n) K T nn kk V U S L B O ((fun _ => 0)) v3 v4 v5_49 12 v5_49 1 0 v4))))))
def wp_L_list (xs : Nat → Int32) (Ln : Nat) (T : List Nat) (nn : (Nat → Nat)) (kk : (Nat → Nat)) (V : M2) (U : M2) (S : M2) (L : M2) (B : M2) (O : M2) (K : List Nat → (Nat → Nat) → (Nat → Nat) → M2 → M2 → M2 → M2 → M2 → M2 → Prop) : Prop := (inb ((1 : Int32) + (blw (celv xs Ln 0) 3)) 65 ∧ ∀ z20 : Nat, z20 = ((1 : Int32) + (blw (celv xs Ln 0) 3)).toInt.toNat → (kk 0 = 0 ∧ ∀ nn_23 : Nat → Nat, nn_23 = updN nn 0 z20 → wl_L_list_31 xs Ln K 4 T nn_23 kk V U S L B O 0 0))
set_option maxRecDepth 100000 in
set_option maxHeartbeats 8000000 in
theorem t_L_list {p : Program} {l : Launch} {e : Env} {s : State} {m : MethodId} {args : Array Value} {below : List Frame} {meth : Method} {c : Code} {Q : State → Prop} {A : Nat → Prop} {D : va_G} {Z : Nat → ClassId} {sa b : Nat} {rx : Nat → Nat} {scr Ln : Nat} {xs : Nat → Int32} {T : List Nat} {nn kk : Nat → Nat} {V U S L B O : M2} {u : SBS} {o : Nat → Nat} {ro : Nat → Nat → Nat} {K : List Nat → (Nat → Nat) → (Nat → Nat) → M2 → M2 → M2 → M2 → M2 → M2 → Prop} {H : Heap} {locs : List Loc} {ls : Array Slot} {cc cs : Nat} (hC : CallFix p m c cL_list 8 s args lw_g yL_list.cls) (hN : NW s) (hR : RX rx scr Ln xs A s s.heap) (hK : va_K D vwCl (tysG Z) s) (hLn : Ln < 2 ^ 31) (hI : SBI u T) (hT : TS vwCl D (LL Z sa b u o ro nn kk kk V U S L B O) A s.heap H locs) (hm : wp_L_list xs Ln T nn kk V U S L B O K) (hcb : cc ≤ 7 ∧ cs ≤ 9) (hret : ∀ (pc : Nat) (ls : Array Slot) (H : Heap) (locs : List Loc) (w : S9), SBI w.1 (w.2.2.2.1) → K (w.2.2.2.1) (w.2.2.2.2.1) (w.2.2.2.2.2.1) (w.2.2.2.2.2.2.1) (w.2.2.2.2.2.2.2.1) (w.2.2.2.2.2.2.2.2.1) (w.2.2.2.2.2.2.2.2.2.1) (w.2.2.2.2.2.2.2.2.2.2.1) (w.2.2.2.2.2.2.2.2.2.2.2) → TS vwCl D (LLu Z sa b w) A s.heap H locs → decode cL_list pc = .ok (.areturn, 1) → W p l e (rk 9 503 1204787) s m args below meth c H locs 503 1204787 Q (F0 m pc ls [.ref sa])) (hl : lv_has ls 8 [(2, .ref (sa)), (0, .ref scr), (1, .ref b)]) : W p l e (rk 9 503 1204787) s m args below meth c H locs cc cs Q (F0 m 8 ls []) := by
  have hx := hC.1
  have hb := hC.2.1
  have L857 : ∀ (n857 : Nat), ∀ (T : List Nat) (nn : (Nat → Nat)) (kk : (Nat → Nat)) (V : M2) (U : M2) (S : M2) (L : M2) (B : M2) (O : M2) (v4 : Int32) (u : SBS) (o : Nat → Nat) (ro : Nat → Nat → Nat) (H : Heap) (locs : List Loc) (ls : Array Slot) (cc cs : Nat), SBI u T → wl_L_list_857 xs Ln K n857 T nn kk V U S L B O v4 → TS vwCl D (LL Z sa b u o ro nn kk kk V U S L B O) A s.heap H locs → lv_has ls 8 [(0, .ref scr), (1, .ref b), (2, .ref (sa)), (4, .int v4)] → cc + (n857 * 41 + 0) ≤ 503 ∧ cs + (n857 * 88030 + 0) ≤ 1204787 → W p l e (rk 9 503 1204787) s m args below meth c H locs cc cs Q (F0 m 857 ls []) := by
    intro n857
    induction n857 with
    | zero =>
      intro T nn kk V U S L B O v4 u o ro H locs ls cc cs hI hm hT hl hcb
      exact False.elim hm
    | succ n857 ih857 =>
      have L942 : ∀ (T : List Nat) (nn : (Nat → Nat)) (kk : (Nat → Nat)) (V : M2) (U : M2) (S : M2) (L : M2) (B : M2) (O : M2) (e905 : (Nat → Int32)) (v4 : Int32) (v5 : Int32) (v6 : Int32) (q0 : Int32) (q1 : Int32) (u : SBS) (o : Nat → Nat) (ro : Nat → Nat → Nat) (ae905 : Nat) (H : Heap) (locs : List Loc) (ls : Array Slot) (cc cs : Nat), SBI u T → wj_L_list_942 xs Ln (wl_L_list_857 xs Ln K n857) K T nn kk V U S L B O e905 v4 v5 v6 q0 q1 → TS vwCl D ([(ae905, .inl (Z 0, 6, .inl e905))] ++ (LL Z sa b u o ro nn kk kk V U S L B O)) A s.heap H locs → lv_has ls 8 [(0, .ref scr), (1, .ref b), (2, .ref (sa)), (4, .int v4), (5, .int v5), (6, .int v6)] → cc + (40 + n857 * 41 + 0) ≤ 503 ∧ cs + (88024 + n857 * 88030 + 0) ≤ 1204787 → W p l e (rk 9 503 1204787) s m args below meth c H locs cc cs Q (F0 m 942 ls [.int q0, .int q1, .ref ae905, .ref ae905]) := by
        intro T nn kk V U S L B O e905 v4 v5 v6 q0 q1 u o ro ae905 H locs ls cc cs hI hm hT hl hcb
        have hj942 := hm.1
        obtain ⟨e905_942, ee905_942⟩ : ∃ y : Nat → Int32, y = upd e905 q1.toInt.toNat q0 := ⟨_, rfl⟩
        have hm := hm.2 e905_942 ee905_942
        refine w_iast (q0 := 0) (ws' := ([(ae905, .inl (Z 0, 6, .inl e905_942))] ++ (LL Z sa b u o ro nn kk kk V U S L B O))) hC hK hT rfl hj942 (by rw [ee905_942]; rfl) dL_list_942 (fun H locs hT => ?_)
        refine lv_dup hx hb dL_list_943 rfl ?_
        refine lv_iconst (v := 2) hx hb dL_list_944 (by decide) ?_
        refine lv_iload hx hb dL_list_945 (lv_at hl 4 rfl) ?_
        refine lv_bipush (v := 8) hx hb dL_list_947 (by decide) ?_
        refine w_below hC hN hK (by decide) wq_897 (by decide) hl.1 (Nat.le_of_ble_eq_true rfl) ⟨by omega, by omega⟩ dL_list_949 ?_
        have hj952 := hm.1
        obtain ⟨e905_952, ee905_952⟩ : ∃ y : Nat → Int32, y = upd e905_942 2 (blw v5 8) := ⟨_, rfl⟩
        have hm := hm.2 e905_952 ee905_952
        refine w_iast (q0 := 0) (ws' := ([(ae905, .inl (Z 0, 6, .inl e905_952))] ++ (LL Z sa b u o ro nn kk kk V U S L B O))) hC hK hT rfl hj952 (by rw [ee905_952]; rfl) dL_list_952 (fun H locs hT => ?_)
        refine lv_dup hx hb dL_list_953 rfl ?_
        refine lv_iconst (v := 3) hx hb dL_list_954 (by decide) ?_
        refine lv_iload hx hb dL_list_955 (lv_at hl 4 rfl) ?_
        refine lv_iconst (v := 4) hx hb dL_list_957 (by decide) ?_
        refine lv_ishr hx hb dL_list_958 ?_
        refine lv_bipush (v := 40) hx hb dL_list_959 (by decide) ?_
        refine w_below hC hN hK (by decide) wq_897 (by decide) hl.1 (Nat.le_of_ble_eq_true rfl) ⟨by omega, by omega⟩ dL_list_961 ?_
        have hj964 := hm.1
        obtain ⟨e905_964, ee905_964⟩ : ∃ y : Nat → Int32, y = upd e905_952 3 (blw (v5 >>> ((4 : Int32) &&& 31)) 40) := ⟨_, rfl⟩
        have hm := hm.2 e905_964 ee905_964
        refine w_iast (q0 := 0) (ws' := ([(ae905, .inl (Z 0, 6, .inl e905_964))] ++ (LL Z sa b u o ro nn kk kk V U S L B O))) hC hK hT rfl hj964 (by rw [ee905_964]; rfl) dL_list_964 (fun H locs hT => ?_)
        refine lv_dup hx hb dL_list_965 rfl ?_
        refine lv_iconst (v := 4) hx hb dL_list_966 (by decide) ?_
        refine lv_iload hx hb dL_list_967 (lv_at hl 4 rfl) ?_
        refine lv_bipush (v := 6) hx hb dL_list_969 (by decide) ?_
        refine lv_ishr hx hb dL_list_971 ?_
        refine lv_bipush (v := 100) hx hb dL_list_972 (by decide) ?_
        refine w_below hC hN hK (by decide) wq_897 (by decide) hl.1 (Nat.le_of_ble_eq_true rfl) ⟨by omega, by omega⟩ dL_list_974 ?_
        have hj977 := hm.1
        obtain ⟨e905_977, ee905_977⟩ : ∃ y : Nat → Int32, y = upd e905_964 4 (blw (v5 >>> ((6 : Int32) &&& 31)) 100) := ⟨_, rfl⟩
        have hm := hm.2 e905_977 ee905_977
        refine w_iast (q0 := 0) (ws' := ([(ae905, .inl (Z 0, 6, .inl e905_977))] ++ (LL Z sa b u o ro nn kk kk V U S L B O))) hC hK hT rfl hj977 (by rw [ee905_977]; rfl) dL_list_977 (fun H locs hT => ?_)
        refine lv_dup hx hb dL_list_978 rfl ?_
        refine lv_iconst (v := 5) hx hb dL_list_979 (by decide) ?_
        refine lv_iload hx hb dL_list_980 (lv_at hl 4 rfl) ?_
        refine lv_iconst (v := 5) hx hb dL_list_982 (by decide) ?_
        refine lv_ishr hx hb dL_list_983 ?_
        refine lv_bipush (v := 30) hx hb dL_list_984 (by decide) ?_
        refine w_below hC hN hK (by decide) wq_897 (by decide) hl.1 (Nat.le_of_ble_eq_true rfl) ⟨by omega, by omega⟩ dL_list_986 ?_
        have hj989 := hm.1
        obtain ⟨e905_989, ee905_989⟩ : ∃ y : Nat → Int32, y = upd e905_977 5 (blw (v5 >>> ((5 : Int32) &&& 31)) 30) := ⟨_, rfl⟩
        have hm := hm.2 e905_989 ee905_989
        refine w_iast (q0 := 0) (ws' := ([(ae905, .inl (Z 0, 6, .inl e905_989))] ++ (LL Z sa b u o ro nn kk kk V U S L B O))) hC hK hT rfl hj989 (by rw [ee905_989]; rfl) dL_list_989 (fun H locs hT => ?_)
        refine lv_astore (lv' := [(7, .ref ae905), (0, .ref scr), (1, .ref b), (2, .ref (sa)), (4, .int v4), (5, .int v5), (6, .int v6)]) hx hb dL_list_990 hl (by decide) rfl (fun ls hl => ?_)
        refine lv_aload_n hx hb dL_list_992 rfl (lv_at hl 3 rfl) ?_
        refine w_get (C := RX6) (T := TX6) (N := 9) (ci := 6) (q0 := 3) (k := 7) hC hK hT.1 fi_X6 rfl rfl rfl (by decide) rfl wq_1180 dL_list_993 ?_
        refine lv_iload hx hb dL_list_996 (lv_at hl 4 rfl) ?_
        refine lv_aload hx hb dL_list_998 (lv_at hl 0 rfl) ?_
        obtain ⟨hi1000, hk1000, hn1000, hm⟩ := hm
        rw [hi1000]
        refine w_aast (i0 := 0) (q0 := 9) (qk := 0) (ws' := ([(ae905, .inl (Z 0, 6, .inl e905_989))] ++ (sbW Z b u ++ ([(sa, .inr (6, [.int (N0 0 0), .int (N0 1 0), .ref (o 0), .ref (o 1), .ref (o 2), .ref (o 3), .ref (o 4), .ref (o 5), .int (N0 2 0)])), (o 0, .inl (Z 3, nn 0, .inr (.inr (.inr (.inr (fun j => if j < kk 0 then some (ro 0 j) else none)))))), (o 1, .inl (Z 3, nn 1, .inr (.inr (.inr (.inr (fun j => if j < kk 1 then some (ro 1 j) else none)))))), (o 2, .inl (Z 3, nn 2, .inr (.inr (.inr (.inr (fun j => if j < kk 2 then some (ro 2 j) else none)))))), (o 3, .inl (Z 3, nn 3, .inr (.inr (.inr (.inr (fun j => if j < kk 3 then some (ro 3 j) else none)))))), (o 4, .inl (Z 3, nn 4, .inr (.inr (.inr (.inr (fun j => if j < kk 4 then some (ro 4 j) else none)))))), (o 5, .inl (Z 3, nn 5, .inr (.inr (.inr (.inr (va_up (fun j => if j < kk 5 then some (ro 5 j) else none) (Int32.ofNat (kk 5)).toInt.toNat (some ae905)))))))] ++ PLS Z ro kk V U S L B O)))) hC hK hT hN wn_1164 rfl rfl (inb_nI hk1000 (by omega)) rfl dL_list_1000 (fun H locs hT => ?_)
        rw [spf_add_5 (by omega)] at hT
        rw [← pls_cong_5 (a := ae905)] at hT
        obtain ⟨kk_1000, ekk_1000⟩ : ∃ y : Nat → Nat, y = updN kk 5 (kk 5 + 1) := ⟨_, rfl⟩
        obtain ⟨ro_1000, ero_1000⟩ : ∃ y : Nat → Nat → Nat, y = rup ro 5 (kk 5) ae905 := ⟨_, rfl⟩
        obtain ⟨O_1000, eO_1000⟩ : ∃ y : M2, y = up2 O (kk 5) e905_989 := ⟨_, rfl⟩
        have hm := hm kk_1000 ekk_1000 O_1000 eO_1000
        rw [← ekk_1000, ← ero_1000] at hT
        have hT : TS vwCl D ([(ae905, .inl (Z 0, 6, .inl e905_989))] ++ (LL Z sa b u o ro_1000 nn kk_1000 kk V U S L B O)) A s.heap _ _ := hT
        refine lv_aload_n hx hb dL_list_1001 rfl (lv_at hl 2 rfl) ?_
        refine lv_iload hx hb dL_list_1002 (lv_at hl 6 rfl) ?_
        refine lv_if_ne (tgt := 1024) hx hb dL_list_1004 (by decide) (fun c_1004 => ?_) (fun c_1004 => ?_)
        · have hm := hm.1 c_1004
          refine w_sbNew hC hK hT wq_1354 (by show _ ≤ 503; omega) (by show _ ≤ 1204787; omega) dL_list_1024 (fun b2 H hT => ?_)
          refine lv_dup hx hb dL_list_1027 rfl ?_
          refine w_sbIni hC hN hK hR.1.1 hT wq_1356 (by decide) hl.1 (Nat.le_of_ble_eq_true rfl) dL_list_1028 ⟨by omega, by omega⟩ (fun u2 H locs hI2 hT => ?_)
          have hL2 : ([] : List Nat).length ≤ 0 := Nat.le_refl _
          refine va_ldcS hx hb hC.2.2.2.1 hR.1.1.lld41 dL_list_1031 ?_
          refine w_sbLit (i := 41) (by decide) hC hN hK hR.1.1 hT hI2 (by rw [List.length_append]; have := lst_len 41 (by decide); omega) wq_1203 (by decide) hl.1 (Nat.le_of_ble_eq_true rfl) dL_list_1033 ⟨by omega, by omega⟩ (fun u2 H locs hI2 hT => ?_)
          have hL2 : (([] : List Nat) ++ lst 41).length ≤ 40 := by rw [List.length_append]; have := lst_len 41 (by decide); omega
          refine lv_aload hx hb dL_list_1036 (lv_at hl 0 rfl) ?_
          refine lv_iconst (v := 1) hx hb dL_list_1038 (by decide) ?_
          refine w_iald (q0 := 2) hC hK hT.1 rfl hm.1 dL_list_1039 ?_
          rw [show (1 : Int32).toInt.toNat = 1 from rfl]
          have hm := hm.2
          rw [inb_eq hm.1]
          refine w_sbInt (x := (e905_989 1).toInt.toNat) (by omega) hC hN hK hR.1.1 hT hI2 (by rw [List.length_append]; have := decs_le ((e905_989 1).toInt.toNat); omega) wq_1309 (by decide) hl.1 (Nat.le_of_ble_eq_true rfl) dL_list_1040 ⟨by omega, by omega⟩ (fun u2 H locs hI2 hT => ?_)
          have hx1040 := hm.1
          have hm := hm.2
          have hL2 : (([] : List Nat) ++ lst 41 ++ decs (e905_989 1).toInt.toNat).length ≤ 42 := by rw [List.length_append]; have := decs_le ((e905_989 1).toInt.toNat); omega
          refine w_sbStr hC hN hK hR.1.1 hT hI2 wq_1376 (by decide) hl.1 (Nat.le_of_ble_eq_true rfl) dL_list_1043 ⟨by omega, by omega⟩ (fun q2 w2 g2 H locs hg2 hT => ?_)
          have htx : TXT (([] : List Nat) ++ lst 41 ++ decs (e905_989 1).toInt.toNat) := TXT.app (TXT.app (fun _ h => absurd h List.not_mem_nil) (TXT.lst (by decide))) (TXT.decs (by omega))
          have hT := hT.perm (pm3 _ _ _ _)
          refine w_sbApp hC hN hK hR.1.1 hT hI (SE.of hC.2.2.2.2 hK hT.1 (i0 := 2) (i1 := 3) rfl rfl (notA hT (i := 0) rfl) (notA hT (i := 1) rfl)) htx hg2 hm.1 wq_1203 (by decide) hl.1 (Nat.le_of_ble_eq_true rfl) dL_list_1046 ⟨by omega, by omega⟩ (fun u_1046 H locs hI hT => ?_)
          have hT := hT.perm (pm3' _ _ _ _)
          have hT := hT.dropL
          have hm := hm.2
          obtain ⟨T_1046, eT_1046⟩ : ∃ y : List Nat, y = T ++ (([] : List Nat) ++ lst 41 ++ decs (e905_989 1).toInt.toNat) := ⟨_, rfl⟩
          rw [← eT_1046] at hI
          have hm := hm T_1046 eT_1046
          have hT : TS vwCl D ([(ae905, .inl (Z 0, 6, .inl e905_989))] ++ (LL Z sa b u_1046 o ro_1000 nn kk_1000 kk V U S L B O)) A s.heap _ _ := hT
          refine va_ldcS hx hb hC.2.2.2.1 hR.1.1.lld42 dL_list_1049 ?_
          refine w_sbLit (i := 42) (by decide) hC hN hK hR.1.1 (hT.perm (pm2 _ _ _)) hI hm.1 wq_1203 (by decide) hl.1 (Nat.le_of_ble_eq_true rfl) dL_list_1051 ⟨by omega, by omega⟩ (fun u_1051 H locs hI hT => ?_)
          have hm := hm.2
          obtain ⟨T_1051, eT_1051⟩ : ∃ y : List Nat, y = T_1046 ++ lst 42 := ⟨_, rfl⟩
          rw [← eT_1051] at hI
          have hm := hm T_1051 eT_1051
          have hT : TS vwCl D ([(ae905, .inl (Z 0, 6, .inl e905_989))] ++ (LL Z sa b u_1051 o ro_1000 nn kk_1000 kk V U S L B O)) A s.heap _ _ := hT.perm (pm2 _ _ _)
          refine lv_aload hx hb dL_list_1054 (lv_at hl 0 rfl) ?_
          refine lv_aload_n hx hb dL_list_1056 rfl (lv_at hl 3 rfl) ?_
          obtain ⟨hy2, hy3, hy4, hy5, hy6, hy7, hy8, hm⟩ := hm
          have hT0 : TS vwCl D (txW Z ae905 e905_989 sa o ro_1000 nn kk_1000 N0 (testT (e905_989 2).toInt.toNat (e905_989 3).toInt.toNat (e905_989 4).toInt.toNat ((e905_989 5).toInt.toNat % nn 3) ((e905_989 5).toInt.toNat % nn 4)).length none ++ (sbW Z b u_1051 ++ PLS Z ro_1000 kk V U S L B O)) A s.heap _ _ := hT.perm (by unfold LL txW; simpa only [List.append_assoc] using List.Perm.append_left _ (pm2 _ _ _))
          refine goQ (u0 := none) (g := txA rx) (wsF := txW Z ae905 e905_989 sa o ro_1000 nn kk_1000 N0 (testT (e905_989 2).toInt.toNat (e905_989 3).toInt.toNat (e905_989 4).toInt.toNat ((e905_989 5).toInt.toNat % nn 3) ((e905_989 5).toInt.toNat % nn 4)).length) (runSG (As := [.ref ae905, .ref sa]) (RD.rg rx) hC hN ((RD.rg rx).appL (hT0.rg (RD.rg rx) hR.1.1)) (c_L_test l D Z rx _ ae905 sa o ro_1000 nn kk_1000 N0 e905_989 (e905_989 2).toInt.toNat (e905_989 3).toInt.toNat (e905_989 4).toInt.toNat (e905_989 5).toInt.toNat (inb_eq hy2) (inb_eq hy3) (inb_eq hy4) (inb_eq hy5) (by omega) (by omega) (by omega) (by omega) hy6 hy7) mi_L_test wq_1434 wq_1435 (by decide) hT0.dropR.1 hT0.dropR.D' hK rfl hl.1 rfl (Nat.le_of_ble_eq_true rfl) dL_list_1057 ⟨by omega, by omega⟩) rfl hT0 (fun ut H locs hkt hT => ?_)
          have kont : ∀ (u_1057 : SBS) (H : Heap) (locs : List Loc), SBI u_1057 (T_1051 ++ (testT (e905_989 2).toInt.toNat (e905_989 3).toInt.toNat (e905_989 4).toInt.toNat ((e905_989 5).toInt.toNat % nn 3) ((e905_989 5).toInt.toNat % nn 4))) → TS vwCl D (sbW Z b u_1057 ++ (([(ae905, .inl (Z 0, 6, .inl e905_989))] ++ SPf Z sa o ro_1000 nn kk_1000 N0) ++ PLS Z ro_1000 kk V U S L B O)) A s.heap H locs → ∀ c1 c2 : Nat, c1 ≤ cc + 39 → c2 ≤ cs + 84024 → W p l e (rk 9 503 1204787) s m args below meth c H locs c1 c2 Q (F0 m 1063 ls [.ref b]) := by
            intro u_1057 H locs hI hT c1 c2 hc1 hc2
            obtain ⟨T_1057, eT_1057⟩ : ∃ y : List Nat, y = T_1051 ++ (testT (e905_989 2).toInt.toNat (e905_989 3).toInt.toNat (e905_989 4).toInt.toNat ((e905_989 5).toInt.toNat % nn 3) ((e905_989 5).toInt.toNat % nn 4)) := ⟨_, rfl⟩
            rw [← eT_1057] at hI
            have hm := hm T_1057 eT_1057
            have hT : TS vwCl D ([(ae905, .inl (Z 0, 6, .inl e905_989))] ++ (LL Z sa b u_1057 o ro_1000 nn kk_1000 kk V U S L B O)) A s.heap _ _ := hT.perm (by unfold LL; simpa only [List.append_assoc] using pm2 _ _ _)
            refine va_ldcS hx hb hC.2.2.2.1 hR.1.1.lld23 dL_list_1063 ?_
            refine w_sbLit (i := 23) (by decide) hC hN hK hR.1.1 (hT.perm (pm2 _ _ _)) hI hm.1 wq_1203 (by decide) hl.1 (Nat.le_of_ble_eq_true rfl) dL_list_1065 ⟨by omega, by omega⟩ (fun u_1065 H locs hI hT => ?_)
            have hm := hm.2
            obtain ⟨T_1065, eT_1065⟩ : ∃ y : List Nat, y = T_1057 ++ lst 23 := ⟨_, rfl⟩
            rw [← eT_1065] at hI
            have hm := hm T_1065 eT_1065
            have hT : TS vwCl D ([(ae905, .inl (Z 0, 6, .inl e905_989))] ++ (LL Z sa b u_1065 o ro_1000 nn kk_1000 kk V U S L B O)) A s.heap _ _ := hT.perm (pm2 _ _ _)
            refine lv_pop hx hb dL_list_1068 rfl ?_
            unfold LL at hT
            rw [ero_1000] at hT
            rw [pls_cong_5] at hT
            have hT := pls_add_5 (W0 := sbW Z b u_1065 ++ SPf Z sa o (rup ro 5 (kk 5) ae905) nn kk_1000 N0) (by rw [List.append_assoc]; exact hT)
            rw [List.append_assoc, ← ekk_1000, ← ero_1000, ← eO_1000] at hT
            have hT : TS vwCl D (LL Z sa b u_1065 o ro_1000 nn kk_1000 kk_1000 V U S L B O_1000) A s.heap _ _ := hT
            obtain ⟨v4_1069, ev4_1069⟩ : ∃ y : Int32, y = v4 + 1 := ⟨_, rfl⟩
            have hm := hm v4_1069 ev4_1069
            refine lv_iinc (v := v4_1069) (lv' := [(4, .int v4_1069), (7, .ref ae905), (0, .ref scr), (1, .ref b), (2, .ref (sa)), (5, .int v5), (6, .int v6)]) hx hb dL_list_1069 hl (k := 4) rfl (by rw [ev4_1069]; rfl) (by decide) rfl (fun ls hl => ?_)
            refine lv_goto (tgt := 857) hx hb dL_list_1072 (by decide) ?_
            exact ih857 _ _ _ _ _ _ _ _ _ _ _ _ _ _ _ _ _ _ hI hm hT (lv_sub hl [2, 3, 4, 0] rfl) ⟨by omega, by omega⟩
          rcases ut with _ | ⟨qt, wt, gt⟩
          · have hkt : testT (e905_989 2).toInt.toNat (e905_989 3).toInt.toNat (e905_989 4).toInt.toNat ((e905_989 5).toInt.toNat % nn 3) ((e905_989 5).toInt.toNat % nn 4) = lst 5 := hkt
            rw [hkt] at kont hy8
            exact w_sbLit (i := 5) (by decide) hC hN hK hR.1.1 (hT.perm (pm2 _ _ _)) hI hy8 wq_1203 (by decide) hl.1 (Nat.le_of_ble_eq_true rfl) dL_list_1060 ⟨by omega, by omega⟩ (fun u1 H locs hI hT => kont u1 H locs hI hT _ _ (by omega) (by omega))
          · have hkt : ∀ j, j < (testT (e905_989 2).toInt.toNat (e905_989 3).toInt.toNat (e905_989 4).toInt.toNat ((e905_989 5).toInt.toNat % nn 3) ((e905_989 5).toInt.toNat % nn 4)).length → gt j = nI ((testT (e905_989 2).toInt.toNat (e905_989 3).toInt.toNat (e905_989 4).toInt.toNat ((e905_989 5).toInt.toNat % nn 3) ((e905_989 5).toInt.toNat % nn 4)).getD j 0) := hkt
            have hT : TS vwCl D ([stC qt wt, (wt, .inl (Z 2, (testT (e905_989 2).toInt.toNat (e905_989 3).toInt.toNat (e905_989 4).toInt.toNat ((e905_989 5).toInt.toNat % nn 3) ((e905_989 5).toInt.toNat % nn 4)).length, .inl gt))] ++ (([(ae905, .inl (Z 0, 6, .inl e905_989))] ++ SPf Z sa o ro_1000 nn kk_1000 N0) ++ (sbW Z b u_1051 ++ PLS Z ro_1000 kk V U S L B O))) A s.heap H locs := hT
            have hT := hT.perm (pm3 _ _ _ _)
            exact w_sbApp hC hN hK hR.1.1 hT hI (SE.of hC.2.2.2.2 hK hT.1 (i0 := 2) (i1 := 3) rfl rfl (notA hT (i := 0) rfl) (notA hT (i := 1) rfl)) (testT_txt (by omega) (by omega) (Nat.le_trans (Nat.mod_le _ _) (by omega)) (Nat.le_trans (Nat.mod_le _ _) (by omega))) hkt hy8 wq_1203 (by decide) hl.1 (Nat.le_of_ble_eq_true rfl) dL_list_1060 ⟨by omega, by omega⟩ (fun u1 H locs hI hT => kont u1 H locs hI (hT.sub (List.Sublist.append (List.Sublist.refl _) (List.sublist_append_right _ _))) _ _ (by omega) (by omega))
        · have hm := hm.2 c_1004
          refine lv_aload hx hb dL_list_1007 (lv_at hl 0 rfl) ?_
          refine lv_iconst (v := 1) hx hb dL_list_1009 (by decide) ?_
          refine w_iald (q0 := 0) hC hK hT.1 rfl hm.1 dL_list_1010 ?_
          rw [show (1 : Int32).toInt.toNat = 1 from rfl]
          have hm := hm.2
          refine lv_if_ne (tgt := 1019) hx hb dL_list_1011 (by decide) (fun c_1011 => ?_) (fun c_1011 => ?_)
          · have hm := hm.1 c_1011
            refine va_ldcS hx hb hC.2.2.2.1 hR.1.1.lld40 dL_list_1019 ?_
            refine lv_goto (tgt := 1046) hx hb dL_list_1021 (by decide) ?_
            refine w_sbLit (i := 40) (by decide) hC hN hK hR.1.1 (hT.perm (pm2 _ _ _)) hI hm.1 wq_1203 (by decide) hl.1 (Nat.le_of_ble_eq_true rfl) dL_list_1046 ⟨by omega, by omega⟩ (fun u_1046 H locs hI hT => ?_)
            have hm := hm.2
            obtain ⟨T_1046, eT_1046⟩ : ∃ y : List Nat, y = T ++ lst 40 := ⟨_, rfl⟩
            rw [← eT_1046] at hI
            have hm := hm T_1046 eT_1046
            have hT : TS vwCl D ([(ae905, .inl (Z 0, 6, .inl e905_989))] ++ (LL Z sa b u_1046 o ro_1000 nn kk_1000 kk V U S L B O)) A s.heap _ _ := hT.perm (pm2 _ _ _)
            refine va_ldcS hx hb hC.2.2.2.1 hR.1.1.lld42 dL_list_1049 ?_
            refine w_sbLit (i := 42) (by decide) hC hN hK hR.1.1 (hT.perm (pm2 _ _ _)) hI hm.1 wq_1203 (by decide) hl.1 (Nat.le_of_ble_eq_true rfl) dL_list_1051 ⟨by omega, by omega⟩ (fun u_1051 H locs hI hT => ?_)
            have hm := hm.2
            obtain ⟨T_1051, eT_1051⟩ : ∃ y : List Nat, y = T_1046 ++ lst 42 := ⟨_, rfl⟩
            rw [← eT_1051] at hI
            have hm := hm T_1051 eT_1051
            have hT : TS vwCl D ([(ae905, .inl (Z 0, 6, .inl e905_989))] ++ (LL Z sa b u_1051 o ro_1000 nn kk_1000 kk V U S L B O)) A s.heap _ _ := hT.perm (pm2 _ _ _)
            refine lv_aload hx hb dL_list_1054 (lv_at hl 0 rfl) ?_
            refine lv_aload_n hx hb dL_list_1056 rfl (lv_at hl 3 rfl) ?_
            obtain ⟨hy2, hy3, hy4, hy5, hy6, hy7, hy8, hm⟩ := hm
            have hT0 : TS vwCl D (txW Z ae905 e905_989 sa o ro_1000 nn kk_1000 N0 (testT (e905_989 2).toInt.toNat (e905_989 3).toInt.toNat (e905_989 4).toInt.toNat ((e905_989 5).toInt.toNat % nn 3) ((e905_989 5).toInt.toNat % nn 4)).length none ++ (sbW Z b u_1051 ++ PLS Z ro_1000 kk V U S L B O)) A s.heap _ _ := hT.perm (by unfold LL txW; simpa only [List.append_assoc] using List.Perm.append_left _ (pm2 _ _ _))
            refine goQ (u0 := none) (g := txA rx) (wsF := txW Z ae905 e905_989 sa o ro_1000 nn kk_1000 N0 (testT (e905_989 2).toInt.toNat (e905_989 3).toInt.toNat (e905_989 4).toInt.toNat ((e905_989 5).toInt.toNat % nn 3) ((e905_989 5).toInt.toNat % nn 4)).length) (runSG (As := [.ref ae905, .ref sa]) (RD.rg rx) hC hN ((RD.rg rx).appL (hT0.rg (RD.rg rx) hR.1.1)) (c_L_test l D Z rx _ ae905 sa o ro_1000 nn kk_1000 N0 e905_989 (e905_989 2).toInt.toNat (e905_989 3).toInt.toNat (e905_989 4).toInt.toNat (e905_989 5).toInt.toNat (inb_eq hy2) (inb_eq hy3) (inb_eq hy4) (inb_eq hy5) (by omega) (by omega) (by omega) (by omega) hy6 hy7) mi_L_test wq_1434 wq_1435 (by decide) hT0.dropR.1 hT0.dropR.D' hK rfl hl.1 rfl (Nat.le_of_ble_eq_true rfl) dL_list_1057 ⟨by omega, by omega⟩) rfl hT0 (fun ut H locs hkt hT => ?_)
            have kont : ∀ (u_1057 : SBS) (H : Heap) (locs : List Loc), SBI u_1057 (T_1051 ++ (testT (e905_989 2).toInt.toNat (e905_989 3).toInt.toNat (e905_989 4).toInt.toNat ((e905_989 5).toInt.toNat % nn 3) ((e905_989 5).toInt.toNat % nn 4))) → TS vwCl D (sbW Z b u_1057 ++ (([(ae905, .inl (Z 0, 6, .inl e905_989))] ++ SPf Z sa o ro_1000 nn kk_1000 N0) ++ PLS Z ro_1000 kk V U S L B O)) A s.heap H locs → ∀ c1 c2 : Nat, c1 ≤ cc + 39 → c2 ≤ cs + 84024 → W p l e (rk 9 503 1204787) s m args below meth c H locs c1 c2 Q (F0 m 1063 ls [.ref b]) := by
              intro u_1057 H locs hI hT c1 c2 hc1 hc2
              obtain ⟨T_1057, eT_1057⟩ : ∃ y : List Nat, y = T_1051 ++ (testT (e905_989 2).toInt.toNat (e905_989 3).toInt.toNat (e905_989 4).toInt.toNat ((e905_989 5).toInt.toNat % nn 3) ((e905_989 5).toInt.toNat % nn 4)) := ⟨_, rfl⟩
              rw [← eT_1057] at hI
              have hm := hm T_1057 eT_1057
              have hT : TS vwCl D ([(ae905, .inl (Z 0, 6, .inl e905_989))] ++ (LL Z sa b u_1057 o ro_1000 nn kk_1000 kk V U S L B O)) A s.heap _ _ := hT.perm (by unfold LL; simpa only [List.append_assoc] using pm2 _ _ _)
              refine va_ldcS hx hb hC.2.2.2.1 hR.1.1.lld23 dL_list_1063 ?_
              refine w_sbLit (i := 23) (by decide) hC hN hK hR.1.1 (hT.perm (pm2 _ _ _)) hI hm.1 wq_1203 (by decide) hl.1 (Nat.le_of_ble_eq_true rfl) dL_list_1065 ⟨by omega, by omega⟩ (fun u_1065 H locs hI hT => ?_)
              have hm := hm.2
              obtain ⟨T_1065, eT_1065⟩ : ∃ y : List Nat, y = T_1057 ++ lst 23 := ⟨_, rfl⟩
              rw [← eT_1065] at hI
              have hm := hm T_1065 eT_1065
              have hT : TS vwCl D ([(ae905, .inl (Z 0, 6, .inl e905_989))] ++ (LL Z sa b u_1065 o ro_1000 nn kk_1000 kk V U S L B O)) A s.heap _ _ := hT.perm (pm2 _ _ _)
              refine lv_pop hx hb dL_list_1068 rfl ?_
              unfold LL at hT
              rw [ero_1000] at hT
              rw [pls_cong_5] at hT
              have hT := pls_add_5 (W0 := sbW Z b u_1065 ++ SPf Z sa o (rup ro 5 (kk 5) ae905) nn kk_1000 N0) (by rw [List.append_assoc]; exact hT)
              rw [List.append_assoc, ← ekk_1000, ← ero_1000, ← eO_1000] at hT
              have hT : TS vwCl D (LL Z sa b u_1065 o ro_1000 nn kk_1000 kk_1000 V U S L B O_1000) A s.heap _ _ := hT
              obtain ⟨v4_1069, ev4_1069⟩ : ∃ y : Int32, y = v4 + 1 := ⟨_, rfl⟩
              have hm := hm v4_1069 ev4_1069
              refine lv_iinc (v := v4_1069) (lv' := [(4, .int v4_1069), (7, .ref ae905), (0, .ref scr), (1, .ref b), (2, .ref (sa)), (5, .int v5), (6, .int v6)]) hx hb dL_list_1069 hl (k := 4) rfl (by rw [ev4_1069]; rfl) (by decide) rfl (fun ls hl => ?_)
              refine lv_goto (tgt := 857) hx hb dL_list_1072 (by decide) ?_
              exact ih857 _ _ _ _ _ _ _ _ _ _ _ _ _ _ _ _ _ _ hI hm hT (lv_sub hl [2, 3, 4, 0] rfl) ⟨by omega, by omega⟩
            rcases ut with _ | ⟨qt, wt, gt⟩
            · have hkt : testT (e905_989 2).toInt.toNat (e905_989 3).toInt.toNat (e905_989 4).toInt.toNat ((e905_989 5).toInt.toNat % nn 3) ((e905_989 5).toInt.toNat % nn 4) = lst 5 := hkt
              rw [hkt] at kont hy8
              exact w_sbLit (i := 5) (by decide) hC hN hK hR.1.1 (hT.perm (pm2 _ _ _)) hI hy8 wq_1203 (by decide) hl.1 (Nat.le_of_ble_eq_true rfl) dL_list_1060 ⟨by omega, by omega⟩ (fun u1 H locs hI hT => kont u1 H locs hI hT _ _ (by omega) (by omega))
            · have hkt : ∀ j, j < (testT (e905_989 2).toInt.toNat (e905_989 3).toInt.toNat (e905_989 4).toInt.toNat ((e905_989 5).toInt.toNat % nn 3) ((e905_989 5).toInt.toNat % nn 4)).length → gt j = nI ((testT (e905_989 2).toInt.toNat (e905_989 3).toInt.toNat (e905_989 4).toInt.toNat ((e905_989 5).toInt.toNat % nn 3) ((e905_989 5).toInt.toNat % nn 4)).getD j 0) := hkt
              have hT : TS vwCl D ([stC qt wt, (wt, .inl (Z 2, (testT (e905_989 2).toInt.toNat (e905_989 3).toInt.toNat (e905_989 4).toInt.toNat ((e905_989 5).toInt.toNat % nn 3) ((e905_989 5).toInt.toNat % nn 4)).length, .inl gt))] ++ (([(ae905, .inl (Z 0, 6, .inl e905_989))] ++ SPf Z sa o ro_1000 nn kk_1000 N0) ++ (sbW Z b u_1051 ++ PLS Z ro_1000 kk V U S L B O))) A s.heap H locs := hT
              have hT := hT.perm (pm3 _ _ _ _)
              exact w_sbApp hC hN hK hR.1.1 hT hI (SE.of hC.2.2.2.2 hK hT.1 (i0 := 2) (i1 := 3) rfl rfl (notA hT (i := 0) rfl) (notA hT (i := 1) rfl)) (testT_txt (by omega) (by omega) (Nat.le_trans (Nat.mod_le _ _) (by omega)) (Nat.le_trans (Nat.mod_le _ _) (by omega))) hkt hy8 wq_1203 (by decide) hl.1 (Nat.le_of_ble_eq_true rfl) dL_list_1060 ⟨by omega, by omega⟩ (fun u1 H locs hI hT => kont u1 H locs hI (hT.sub (List.Sublist.append (List.Sublist.refl _) (List.sublist_append_right _ _))) _ _ (by omega) (by omega))
          · have hm := hm.2 c_1011
            refine va_ldcS hx hb hC.2.2.2.1 hR.1.1.lld39 dL_list_1014 ?_
            refine lv_goto (tgt := 1046) hx hb dL_list_1016 (by decide) ?_
            refine w_sbLit (i := 39) (by decide) hC hN hK hR.1.1 (hT.perm (pm2 _ _ _)) hI hm.1 wq_1203 (by decide) hl.1 (Nat.le_of_ble_eq_true rfl) dL_list_1046 ⟨by omega, by omega⟩ (fun u_1046 H locs hI hT => ?_)
            have hm := hm.2
            obtain ⟨T_1046, eT_1046⟩ : ∃ y : List Nat, y = T ++ lst 39 := ⟨_, rfl⟩
            rw [← eT_1046] at hI
            have hm := hm T_1046 eT_1046
            have hT : TS vwCl D ([(ae905, .inl (Z 0, 6, .inl e905_989))] ++ (LL Z sa b u_1046 o ro_1000 nn kk_1000 kk V U S L B O)) A s.heap _ _ := hT.perm (pm2 _ _ _)
            refine va_ldcS hx hb hC.2.2.2.1 hR.1.1.lld42 dL_list_1049 ?_
            refine w_sbLit (i := 42) (by decide) hC hN hK hR.1.1 (hT.perm (pm2 _ _ _)) hI hm.1 wq_1203 (by decide) hl.1 (Nat.le_of_ble_eq_true rfl) dL_list_1051 ⟨by omega, by omega⟩ (fun u_1051 H locs hI hT => ?_)
            have hm := hm.2
            obtain ⟨T_1051, eT_1051⟩ : ∃ y : List Nat, y = T_1046 ++ lst 42 := ⟨_, rfl⟩
            rw [← eT_1051] at hI
            have hm := hm T_1051 eT_1051
            have hT : TS vwCl D ([(ae905, .inl (Z 0, 6, .inl e905_989))] ++ (LL Z sa b u_1051 o ro_1000 nn kk_1000 kk V U S L B O)) A s.heap _ _ := hT.perm (pm2 _ _ _)
            refine lv_aload hx hb dL_list_1054 (lv_at hl 0 rfl) ?_
            refine lv_aload_n hx hb dL_list_1056 rfl (lv_at hl 3 rfl) ?_
            obtain ⟨hy2, hy3, hy4, hy5, hy6, hy7, hy8, hm⟩ := hm
            have hT0 : TS vwCl D (txW Z ae905 e905_989 sa o ro_1000 nn kk_1000 N0 (testT (e905_989 2).toInt.toNat (e905_989 3).toInt.toNat (e905_989 4).toInt.toNat ((e905_989 5).toInt.toNat % nn 3) ((e905_989 5).toInt.toNat % nn 4)).length none ++ (sbW Z b u_1051 ++ PLS Z ro_1000 kk V U S L B O)) A s.heap _ _ := hT.perm (by unfold LL txW; simpa only [List.append_assoc] using List.Perm.append_left _ (pm2 _ _ _))
            refine goQ (u0 := none) (g := txA rx) (wsF := txW Z ae905 e905_989 sa o ro_1000 nn kk_1000 N0 (testT (e905_989 2).toInt.toNat (e905_989 3).toInt.toNat (e905_989 4).toInt.toNat ((e905_989 5).toInt.toNat % nn 3) ((e905_989 5).toInt.toNat % nn 4)).length) (runSG (As := [.ref ae905, .ref sa]) (RD.rg rx) hC hN ((RD.rg rx).appL (hT0.rg (RD.rg rx) hR.1.1)) (c_L_test l D Z rx _ ae905 sa o ro_1000 nn kk_1000 N0 e905_989 (e905_989 2).toInt.toNat (e905_989 3).toInt.toNat (e905_989 4).toInt.toNat (e905_989 5).toInt.toNat (inb_eq hy2) (inb_eq hy3) (inb_eq hy4) (inb_eq hy5) (by omega) (by omega) (by omega) (by omega) hy6 hy7) mi_L_test wq_1434 wq_1435 (by decide) hT0.dropR.1 hT0.dropR.D' hK rfl hl.1 rfl (Nat.le_of_ble_eq_true rfl) dL_list_1057 ⟨by omega, by omega⟩) rfl hT0 (fun ut H locs hkt hT => ?_)
            have kont : ∀ (u_1057 : SBS) (H : Heap) (locs : List Loc), SBI u_1057 (T_1051 ++ (testT (e905_989 2).toInt.toNat (e905_989 3).toInt.toNat (e905_989 4).toInt.toNat ((e905_989 5).toInt.toNat % nn 3) ((e905_989 5).toInt.toNat % nn 4))) → TS vwCl D (sbW Z b u_1057 ++ (([(ae905, .inl (Z 0, 6, .inl e905_989))] ++ SPf Z sa o ro_1000 nn kk_1000 N0) ++ PLS Z ro_1000 kk V U S L B O)) A s.heap H locs → ∀ c1 c2 : Nat, c1 ≤ cc + 39 → c2 ≤ cs + 84024 → W p l e (rk 9 503 1204787) s m args below meth c H locs c1 c2 Q (F0 m 1063 ls [.ref b]) := by
              intro u_1057 H locs hI hT c1 c2 hc1 hc2
              obtain ⟨T_1057, eT_1057⟩ : ∃ y : List Nat, y = T_1051 ++ (testT (e905_989 2).toInt.toNat (e905_989 3).toInt.toNat (e905_989 4).toInt.toNat ((e905_989 5).toInt.toNat % nn 3) ((e905_989 5).toInt.toNat % nn 4)) := ⟨_, rfl⟩
              rw [← eT_1057] at hI
              have hm := hm T_1057 eT_1057
              have hT : TS vwCl D ([(ae905, .inl (Z 0, 6, .inl e905_989))] ++ (LL Z sa b u_1057 o ro_1000 nn kk_1000 kk V U S L B O)) A s.heap _ _ := hT.perm (by unfold LL; simpa only [List.append_assoc] using pm2 _ _ _)
              refine va_ldcS hx hb hC.2.2.2.1 hR.1.1.lld23 dL_list_1063 ?_
              refine w_sbLit (i := 23) (by decide) hC hN hK hR.1.1 (hT.perm (pm2 _ _ _)) hI hm.1 wq_1203 (by decide) hl.1 (Nat.le_of_ble_eq_true rfl) dL_list_1065 ⟨by omega, by omega⟩ (fun u_1065 H locs hI hT => ?_)
              have hm := hm.2
              obtain ⟨T_1065, eT_1065⟩ : ∃ y : List Nat, y = T_1057 ++ lst 23 := ⟨_, rfl⟩
              rw [← eT_1065] at hI
              have hm := hm T_1065 eT_1065
              have hT : TS vwCl D ([(ae905, .inl (Z 0, 6, .inl e905_989))] ++ (LL Z sa b u_1065 o ro_1000 nn kk_1000 kk V U S L B O)) A s.heap _ _ := hT.perm (pm2 _ _ _)
              refine lv_pop hx hb dL_list_1068 rfl ?_
              unfold LL at hT
              rw [ero_1000] at hT
              rw [pls_cong_5] at hT
              have hT := pls_add_5 (W0 := sbW Z b u_1065 ++ SPf Z sa o (rup ro 5 (kk 5) ae905) nn kk_1000 N0) (by rw [List.append_assoc]; exact hT)
              rw [List.append_assoc, ← ekk_1000, ← ero_1000, ← eO_1000] at hT
              have hT : TS vwCl D (LL Z sa b u_1065 o ro_1000 nn kk_1000 kk_1000 V U S L B O_1000) A s.heap _ _ := hT
              obtain ⟨v4_1069, ev4_1069⟩ : ∃ y : Int32, y = v4 + 1 := ⟨_, rfl⟩
              have hm := hm v4_1069 ev4_1069
              refine lv_iinc (v := v4_1069) (lv' := [(4, .int v4_1069), (7, .ref ae905), (0, .ref scr), (1, .ref b), (2, .ref (sa)), (5, .int v5), (6, .int v6)]) hx hb dL_list_1069 hl (k := 4) rfl (by rw [ev4_1069]; rfl) (by decide) rfl (fun ls hl => ?_)
              refine lv_goto (tgt := 857) hx hb dL_list_1072 (by decide) ?_
              exact ih857 _ _ _ _ _ _ _ _ _ _ _ _ _ _ _ _ _ _ hI hm hT (lv_sub hl [2, 3, 4, 0] rfl) ⟨by omega, by omega⟩
            rcases ut with _ | ⟨qt, wt, gt⟩
            · have hkt : testT (e905_989 2).toInt.toNat (e905_989 3).toInt.toNat (e905_989 4).toInt.toNat ((e905_989 5).toInt.toNat % nn 3) ((e905_989 5).toInt.toNat % nn 4) = lst 5 := hkt
              rw [hkt] at kont hy8
              exact w_sbLit (i := 5) (by decide) hC hN hK hR.1.1 (hT.perm (pm2 _ _ _)) hI hy8 wq_1203 (by decide) hl.1 (Nat.le_of_ble_eq_true rfl) dL_list_1060 ⟨by omega, by omega⟩ (fun u1 H locs hI hT => kont u1 H locs hI hT _ _ (by omega) (by omega))
            · have hkt : ∀ j, j < (testT (e905_989 2).toInt.toNat (e905_989 3).toInt.toNat (e905_989 4).toInt.toNat ((e905_989 5).toInt.toNat % nn 3) ((e905_989 5).toInt.toNat % nn 4)).length → gt j = nI ((testT (e905_989 2).toInt.toNat (e905_989 3).toInt.toNat (e905_989 4).toInt.toNat ((e905_989 5).toInt.toNat % nn 3) ((e905_989 5).toInt.toNat % nn 4)).getD j 0) := hkt
              have hT : TS vwCl D ([stC qt wt, (wt, .inl (Z 2, (testT (e905_989 2).toInt.toNat (e905_989 3).toInt.toNat (e905_989 4).toInt.toNat ((e905_989 5).toInt.toNat % nn 3) ((e905_989 5).toInt.toNat % nn 4)).length, .inl gt))] ++ (([(ae905, .inl (Z 0, 6, .inl e905_989))] ++ SPf Z sa o ro_1000 nn kk_1000 N0) ++ (sbW Z b u_1051 ++ PLS Z ro_1000 kk V U S L B O))) A s.heap H locs := hT
              have hT := hT.perm (pm3 _ _ _ _)
              exact w_sbApp hC hN hK hR.1.1 hT hI (SE.of hC.2.2.2.2 hK hT.1 (i0 := 2) (i1 := 3) rfl rfl (notA hT (i := 0) rfl) (notA hT (i := 1) rfl)) (testT_txt (by omega) (by omega) (Nat.le_trans (Nat.mod_le _ _) (by omega)) (Nat.le_trans (Nat.mod_le _ _) (by omega))) hkt hy8 wq_1203 (by decide) hl.1 (Nat.le_of_ble_eq_true rfl) dL_list_1060 ⟨by omega, by omega⟩ (fun u1 H locs hI hT => kont u1 H locs hI (hT.sub (List.Sublist.append (List.Sublist.refl _) (List.sublist_append_right _ _))) _ _ (by omega) (by omega))
      have L901 : ∀ (T : List Nat) (nn : (Nat → Nat)) (kk : (Nat → Nat)) (V : M2) (U : M2) (S : M2) (L : M2) (B : M2) (O : M2) (v4 : Int32) (v5 : Int32) (q0 : Int32) (u : SBS) (o : Nat → Nat) (ro : Nat → Nat → Nat) (H : Heap) (locs : List Loc) (ls : Array Slot) (cc cs : Nat), SBI u T → wj_L_list_901 xs Ln (wl_L_list_857 xs Ln K n857) K T nn kk V U S L B O v4 v5 q0 → TS vwCl D (LL Z sa b u o ro nn kk kk V U S L B O) A s.heap H locs → lv_has ls 8 [(0, .ref scr), (1, .ref b), (2, .ref (sa)), (4, .int v4), (5, .int v5)] → cc + (41 + n857 * 41 + 0) ≤ 503 ∧ cs + (88030 + n857 * 88030 + 0) ≤ 1204787 → W p l e (rk 9 503 1204787) s m args below meth c H locs cc cs Q (F0 m 901 ls [.int q0]) := by
        intro T nn kk V U S L B O v4 v5 q0 u o ro H locs ls cc cs hI hm hT hl hcb
        refine lv_istore (lv' := [(6, .int q0), (0, .ref scr), (1, .ref b), (2, .ref (sa)), (4, .int v4), (5, .int v5)]) hx hb dL_list_901 hl (by decide) rfl (fun ls hl => ?_)
        refine lv_bipush (v := 6) hx hb dL_list_903 (by decide) ?_
        refine w_newI (N := 6) hC hK hT wq_240 (by decide) (by decide) (by decide) (by show _ ≤ 503; omega) (by show _ ≤ 1204787; omega) dL_list_905 (fun ae905 H hT => ?_)
        have hT : TS vwCl D ([(ae905, .inl (Z 0, 6, .inl ((fun _ => 0))))] ++ (LL Z sa b u o ro nn kk kk V U S L B O)) A s.heap H _ := hT.front
        refine lv_dup hx hb dL_list_907 rfl ?_
        refine lv_iconst (v := 0) hx hb dL_list_908 (by decide) ?_
        refine lv_iload hx hb dL_list_909 (lv_at hl 0 rfl) ?_
        have hj911 := hm.1
        obtain ⟨e905_911, ee905_911⟩ : ∃ y : Nat → Int32, y = upd ((fun _ => 0)) 0 q0 := ⟨_, rfl⟩
        have hm := hm.2 e905_911 ee905_911
        refine w_iast (q0 := 0) (ws' := ([(ae905, .inl (Z 0, 6, .inl e905_911))] ++ (LL Z sa b u o ro nn kk kk V U S L B O))) hC hK hT rfl hj911 (by rw [ee905_911]; rfl) dL_list_911 (fun H locs hT => ?_)
        refine lv_dup hx hb dL_list_912 rfl ?_
        refine lv_iconst (v := 1) hx hb dL_list_913 (by decide) ?_
        refine lv_iload hx hb dL_list_914 (lv_at hl 0 rfl) ?_
        refine lv_if_ne (tgt := 930) hx hb dL_list_916 (by decide) (fun c_916 => ?_) (fun c_916 => ?_)
        · have hm := hm.1 c_916
          refine lv_iload hx hb dL_list_930 (lv_at hl 5 rfl) ?_
          refine lv_iconst (v := 3) hx hb dL_list_932 (by decide) ?_
          refine lv_ishr hx hb dL_list_933 ?_
          refine lv_aload_n hx hb dL_list_934 rfl (lv_at hl 3 rfl) ?_
          refine w_get (C := RX6) (T := TX6) (N := 9) (ci := 6) (q0 := 3) (k := 5) hC hK hT.1 fi_X6 rfl rfl rfl (by decide) rfl wq_1176 dL_list_935 ?_
          refine w_alen (q0 := 7) (t0 := 3) hC hK hT.1 rfl rfl dL_list_938 ?_
          refine w_below hC hN hK hm.1 wq_897 (by decide) hl.1 (Nat.le_of_ble_eq_true rfl) ⟨by omega, by omega⟩ dL_list_939 ?_
          have hm := hm.2
          exact L942 _ _ _ _ _ _ _ _ _ _ _ _ _ _ _ _ _ _ _ _ _ _ _ _ hI hm hT (lv_sub hl [1, 2, 3, 4, 5, 0] rfl) ⟨by omega, by omega⟩
        · have hm := hm.2 c_916
          refine lv_iload hx hb dL_list_919 (lv_at hl 5 rfl) ?_
          refine lv_iconst (v := 3) hx hb dL_list_921 (by decide) ?_
          refine lv_ishr hx hb dL_list_922 ?_
          refine lv_iconst (v := 2) hx hb dL_list_923 (by decide) ?_
          refine w_below hC hN hK (by decide) wq_897 (by decide) hl.1 (Nat.le_of_ble_eq_true rfl) ⟨by omega, by omega⟩ dL_list_924 ?_
          refine lv_goto (tgt := 942) hx hb dL_list_927 (by decide) ?_
          exact L942 _ _ _ _ _ _ _ _ _ _ _ _ _ _ _ _ _ _ _ _ _ _ _ _ hI hm hT (lv_sub hl [1, 2, 3, 4, 5, 0] rfl) ⟨by omega, by omega⟩
      intro T nn kk V U S L B O v4 u o ro H locs ls cc cs hI hm hT hl hcb
      refine lv_iload hx hb dL_list_857 (lv_at hl 3 rfl) ?_
      refine lv_aload_n hx hb dL_list_859 rfl (lv_at hl 2 rfl) ?_
      refine w_get (C := RX6) (T := TX6) (N := 9) (ci := 6) (q0 := 2) (k := 7) hC hK hT.1 fi_X6 rfl rfl rfl (by decide) rfl wq_1180 dL_list_860 ?_
      refine w_alen (q0 := 8) (t0 := 3) hC hK hT.1 rfl rfl dL_list_863 ?_
      refine lv_icmp_ge (tgt := 1075) hx hb dL_list_864 (by decide) (fun c_864 => ?_) (fun c_864 => ?_)
      · have hm := hm.1 c_864
        refine lv_aload_n hx hb dL_list_1075 rfl (lv_at hl 2 rfl) ?_
        refine W.widen (k := 503) (n := 1204787) (by omega) (by omega) ?_
        exact hret 1076 ls H locs (u, o, ro, T, nn, kk, V, U, S, L, B, O) hI hm hT dL_list_1076
      · have hm := hm.2 c_864
        refine lv_aload_n hx hb dL_list_867 rfl (lv_at hl 0 rfl) ?_
        refine lv_bipush (v := 13) hx hb dL_list_868 (by decide) ?_
        refine lv_iload hx hb dL_list_870 (lv_at hl 3 rfl) ?_
        refine lv_iconst (v := 3) hx hb dL_list_872 (by decide) ?_
        refine lv_irem hx hb dL_list_873 (by decide) ?_
        refine lv_iadd hx hb dL_list_874 ?_
        refine w_cell (k := ((13 : Int32) + (v4 - v4 / (3 : Int32) * (3 : Int32)))) hC hN hK hR hT hLn hm.1 wq_901 (by decide) hl.1 (Nat.le_of_ble_eq_true rfl) ⟨by omega, by omega⟩ dL_list_875 (fun H locs hT => ?_)
        have hm := hm.2
        refine lv_iconst (v := 3) hx hb dL_list_878 (by decide) ?_
        refine lv_iload hx hb dL_list_879 (lv_at hl 3 rfl) ?_
        refine lv_imul hx hb dL_list_881 ?_
        refine lv_ishr hx hb dL_list_882 ?_
        refine lv_topi (fun v5_883 ev5_883 => ?_)
        have hm := hm v5_883 ev5_883
        refine lv_istore (lv' := [(5, .int v5_883), (0, .ref scr), (1, .ref b), (2, .ref (sa)), (4, .int v4)]) hx hb dL_list_883 hl (by decide) rfl (fun ls hl => ?_)
        refine lv_iload hx hb dL_list_885 (lv_at hl 0 rfl) ?_
        refine lv_iconst (v := 2) hx hb dL_list_887 (by decide) ?_
        refine lv_ishr hx hb dL_list_888 ?_
        refine lv_iconst (v := 3) hx hb dL_list_889 (by decide) ?_
        refine w_below hC hN hK (by decide) wq_897 (by decide) hl.1 (Nat.le_of_ble_eq_true rfl) ⟨by omega, by omega⟩ dL_list_890 ?_
        refine lv_if_ne (tgt := 900) hx hb dL_list_893 (by decide) (fun c_893 => ?_) (fun c_893 => ?_)
        · have hm := hm.1 c_893
          refine lv_iconst (v := 0) hx hb dL_list_900 (by decide) ?_
          exact L901 _ _ _ _ _ _ _ _ _ _ _ _ _ _ _ _ _ _ _ _ hI hm hT (lv_sub hl [1, 2, 3, 4, 0] rfl) ⟨by omega, by omega⟩
        · have hm := hm.2 c_893
          refine lv_iconst (v := 1) hx hb dL_list_896 (by decide) ?_
          refine lv_goto (tgt := 901) hx hb dL_list_897 (by decide) ?_
          exact L901 _ _ _ _ _ _ _ _ _ _ _ _ _ _ _ _ _ _ _ _ hI hm hT (lv_sub hl [1, 2, 3, 4, 0] rfl) ⟨by omega, by omega⟩
  have L569 : ∀ (n569 : Nat), ∀ (T : List Nat) (nn : (Nat → Nat)) (kk : (Nat → Nat)) (V : M2) (U : M2) (S : M2) (L : M2) (B : M2) (O : M2) (v4 : Int32) (u : SBS) (o : Nat → Nat) (ro : Nat → Nat → Nat) (H : Heap) (locs : List Loc) (ls : Array Slot) (cc cs : Nat), SBI u T → wl_L_list_569 xs Ln K n569 T nn kk V U S L B O v4 → TS vwCl D (LL Z sa b u o ro nn kk kk V U S L B O) A s.heap H locs → lv_has ls 8 [(0, .ref scr), (1, .ref b), (2, .ref (sa)), (4, .int v4)] → cc + (n569 * 14 + 247) ≤ 503 ∧ cs + (n569 * 52009 + 528244) ≤ 1204787 → W p l e (rk 9 503 1204787) s m args below meth c H locs cc cs Q (F0 m 569 ls []) := by
    intro n569
    induction n569 with
    | zero =>
      intro T nn kk V U S L B O v4 u o ro H locs ls cc cs hI hm hT hl hcb
      exact False.elim hm
    | succ n569 ih569 =>
      have L673 : ∀ (T : List Nat) (nn : (Nat → Nat)) (kk : (Nat → Nat)) (V : M2) (U : M2) (S : M2) (L : M2) (B : M2) (O : M2) (e647 : (Nat → Int32)) (v4 : Int32) (v5 : Int32) (v6 : Int32) (v7 : Int32) (q0 : Int32) (q1 : Int32) (q2 : Int32) (q3 : Int32) (q6 : Int32) (u : SBS) (o : Nat → Nat) (ro : Nat → Nat → Nat) (ae647 : Nat) (H : Heap) (locs : List Loc) (ls : Array Slot) (cc cs : Nat), SBI u T → wj_L_list_673 xs Ln (wl_L_list_569 xs Ln K n569) K T nn kk V U S L B O e647 v4 v5 v6 v7 q0 q1 q2 q3 q6 → TS vwCl D ([(ae647, .inl (Z 0, 9, .inl e647))] ++ (LL Z sa b u o ro nn kk kk V U S L B O)) A s.heap H locs → lv_has ls 8 [(0, .ref scr), (1, .ref b), (2, .ref (sa)), (4, .int v4), (5, .int v5), (6, .int v6), (7, .int v7)] → cc + (13 + n569 * 14 + 247) ≤ 503 ∧ cs + (52000 + n569 * 52009 + 528244) ≤ 1204787 → W p l e (rk 9 503 1204787) s m args below meth c H locs cc cs Q (F0 m 673 ls [.int q0, .int q1, .int q2, .int q3, .ref ae647, .ref ae647, .int q6, .ref (o 4)]) := by
        intro T nn kk V U S L B O e647 v4 v5 v6 v7 q0 q1 q2 q3 q6 u o ro ae647 H locs ls cc cs hI hm hT hl hcb
        refine w_below hC hN hK hm.1 wq_897 (by decide) hl.1 (Nat.le_of_ble_eq_true rfl) ⟨by omega, by omega⟩ dL_list_673 ?_
        have hm := hm.2
        refine lv_iadd hx hb dL_list_676 ?_
        have hj677 := hm.1
        obtain ⟨e647_677, ee647_677⟩ : ∃ y : Nat → Int32, y = upd e647 q3.toInt.toNat (q2 + (blw q1 q0)) := ⟨_, rfl⟩
        have hm := hm.2 e647_677 ee647_677
        refine w_iast (q0 := 0) (ws' := ([(ae647, .inl (Z 0, 9, .inl e647_677))] ++ (LL Z sa b u o ro nn kk kk V U S L B O))) hC hK hT rfl hj677 (by rw [ee647_677]; rfl) dL_list_677 (fun H locs hT => ?_)
        refine lv_dup hx hb dL_list_678 rfl ?_
        refine lv_iconst (v := 1) hx hb dL_list_679 (by decide) ?_
        refine lv_iload hx hb dL_list_680 (lv_at hl 4 rfl) ?_
        refine lv_iconst (v := 3) hx hb dL_list_682 (by decide) ?_
        refine lv_ishr hx hb dL_list_683 ?_
        refine lv_iconst (v := 2) hx hb dL_list_684 (by decide) ?_
        refine w_below hC hN hK (by decide) wq_897 (by decide) hl.1 (Nat.le_of_ble_eq_true rfl) ⟨by omega, by omega⟩ dL_list_685 ?_
        have hj688 := hm.1
        obtain ⟨e647_688, ee647_688⟩ : ∃ y : Nat → Int32, y = upd e647_677 1 (blw (v5 >>> ((3 : Int32) &&& 31)) 2) := ⟨_, rfl⟩
        have hm := hm.2 e647_688 ee647_688
        refine w_iast (q0 := 0) (ws' := ([(ae647, .inl (Z 0, 9, .inl e647_688))] ++ (LL Z sa b u o ro nn kk kk V U S L B O))) hC hK hT rfl hj688 (by rw [ee647_688]; rfl) dL_list_688 (fun H locs hT => ?_)
        refine lv_dup hx hb dL_list_689 rfl ?_
        refine lv_iconst (v := 2) hx hb dL_list_690 (by decide) ?_
        refine lv_iload hx hb dL_list_691 (lv_at hl 4 rfl) ?_
        refine lv_bipush (v := 6) hx hb dL_list_693 (by decide) ?_
        refine lv_ishr hx hb dL_list_695 ?_
        refine lv_bipush (v := 20) hx hb dL_list_696 (by decide) ?_
        refine w_below hC hN hK (by decide) wq_897 (by decide) hl.1 (Nat.le_of_ble_eq_true rfl) ⟨by omega, by omega⟩ dL_list_698 ?_
        have hj701 := hm.1
        obtain ⟨e647_701, ee647_701⟩ : ∃ y : Nat → Int32, y = upd e647_688 2 (blw (v5 >>> ((6 : Int32) &&& 31)) 20) := ⟨_, rfl⟩
        have hm := hm.2 e647_701 ee647_701
        refine w_iast (q0 := 0) (ws' := ([(ae647, .inl (Z 0, 9, .inl e647_701))] ++ (LL Z sa b u o ro nn kk kk V U S L B O))) hC hK hT rfl hj701 (by rw [ee647_701]; rfl) dL_list_701 (fun H locs hT => ?_)
        refine lv_dup hx hb dL_list_702 rfl ?_
        refine lv_iconst (v := 3) hx hb dL_list_703 (by decide) ?_
        refine lv_iconst (v := 0) hx hb dL_list_704 (by decide) ?_
        have hj705 := hm.1
        obtain ⟨e647_705, ee647_705⟩ : ∃ y : Nat → Int32, y = upd e647_701 3 0 := ⟨_, rfl⟩
        have hm := hm.2 e647_705 ee647_705
        refine w_iast (q0 := 0) (ws' := ([(ae647, .inl (Z 0, 9, .inl e647_705))] ++ (LL Z sa b u o ro nn kk kk V U S L B O))) hC hK hT rfl hj705 (by rw [ee647_705]; rfl) dL_list_705 (fun H locs hT => ?_)
        refine lv_dup hx hb dL_list_706 rfl ?_
        refine lv_iconst (v := 4) hx hb dL_list_707 (by decide) ?_
        refine lv_iconst (v := (-1)) hx hb dL_list_708 (by decide) ?_
        have hj709 := hm.1
        obtain ⟨e647_709, ee647_709⟩ : ∃ y : Nat → Int32, y = upd e647_705 4 ((-1)) := ⟨_, rfl⟩
        have hm := hm.2 e647_709 ee647_709
        refine w_iast (q0 := 0) (ws' := ([(ae647, .inl (Z 0, 9, .inl e647_709))] ++ (LL Z sa b u o ro nn kk kk V U S L B O))) hC hK hT rfl hj709 (by rw [ee647_709]; rfl) dL_list_709 (fun H locs hT => ?_)
        refine lv_dup hx hb dL_list_710 rfl ?_
        refine lv_iconst (v := 5) hx hb dL_list_711 (by decide) ?_
        refine lv_iconst (v := 0) hx hb dL_list_712 (by decide) ?_
        have hj713 := hm.1
        obtain ⟨e647_713, ee647_713⟩ : ∃ y : Nat → Int32, y = upd e647_709 5 0 := ⟨_, rfl⟩
        have hm := hm.2 e647_713 ee647_713
        refine w_iast (q0 := 0) (ws' := ([(ae647, .inl (Z 0, 9, .inl e647_713))] ++ (LL Z sa b u o ro nn kk kk V U S L B O))) hC hK hT rfl hj713 (by rw [ee647_713]; rfl) dL_list_713 (fun H locs hT => ?_)
        refine lv_dup hx hb dL_list_714 rfl ?_
        refine lv_bipush (v := 6) hx hb dL_list_715 (by decide) ?_
        refine lv_iconst (v := (-1)) hx hb dL_list_717 (by decide) ?_
        have hj718 := hm.1
        obtain ⟨e647_718, ee647_718⟩ : ∃ y : Nat → Int32, y = upd e647_713 6 ((-1)) := ⟨_, rfl⟩
        have hm := hm.2 e647_718 ee647_718
        refine w_iast (q0 := 0) (ws' := ([(ae647, .inl (Z 0, 9, .inl e647_718))] ++ (LL Z sa b u o ro nn kk kk V U S L B O))) hC hK hT rfl hj718 (by rw [ee647_718]; rfl) dL_list_718 (fun H locs hT => ?_)
        refine lv_dup hx hb dL_list_719 rfl ?_
        refine lv_bipush (v := 7) hx hb dL_list_720 (by decide) ?_
        refine lv_iload hx hb dL_list_722 (lv_at hl 5 rfl) ?_
        have hj724 := hm.1
        obtain ⟨e647_724, ee647_724⟩ : ∃ y : Nat → Int32, y = upd e647_718 7 v6 := ⟨_, rfl⟩
        have hm := hm.2 e647_724 ee647_724
        refine w_iast (q0 := 0) (ws' := ([(ae647, .inl (Z 0, 9, .inl e647_724))] ++ (LL Z sa b u o ro nn kk kk V U S L B O))) hC hK hT rfl hj724 (by rw [ee647_724]; rfl) dL_list_724 (fun H locs hT => ?_)
        refine lv_dup hx hb dL_list_725 rfl ?_
        refine lv_bipush (v := 8) hx hb dL_list_726 (by decide) ?_
        refine lv_iload hx hb dL_list_728 (lv_at hl 6 rfl) ?_
        have hj730 := hm.1
        obtain ⟨e647_730, ee647_730⟩ : ∃ y : Nat → Int32, y = upd e647_724 8 v7 := ⟨_, rfl⟩
        have hm := hm.2 e647_730 ee647_730
        refine w_iast (q0 := 0) (ws' := ([(ae647, .inl (Z 0, 9, .inl e647_730))] ++ (LL Z sa b u o ro nn kk kk V U S L B O))) hC hK hT rfl hj730 (by rw [ee647_730]; rfl) dL_list_730 (fun H locs hT => ?_)
        obtain ⟨hi731, hk731, hn731, hm⟩ := hm
        rw [hi731]
        refine w_aast (i0 := 0) (q0 := 8) (qk := 0) (ws' := ([(ae647, .inl (Z 0, 9, .inl e647_730))] ++ (sbW Z b u ++ ([(sa, .inr (6, [.int (N0 0 0), .int (N0 1 0), .ref (o 0), .ref (o 1), .ref (o 2), .ref (o 3), .ref (o 4), .ref (o 5), .int (N0 2 0)])), (o 0, .inl (Z 3, nn 0, .inr (.inr (.inr (.inr (fun j => if j < kk 0 then some (ro 0 j) else none)))))), (o 1, .inl (Z 3, nn 1, .inr (.inr (.inr (.inr (fun j => if j < kk 1 then some (ro 1 j) else none)))))), (o 2, .inl (Z 3, nn 2, .inr (.inr (.inr (.inr (fun j => if j < kk 2 then some (ro 2 j) else none)))))), (o 3, .inl (Z 3, nn 3, .inr (.inr (.inr (.inr (fun j => if j < kk 3 then some (ro 3 j) else none)))))), (o 4, .inl (Z 3, nn 4, .inr (.inr (.inr (.inr (va_up (fun j => if j < kk 4 then some (ro 4 j) else none) (Int32.ofNat (kk 4)).toInt.toNat (some ae647))))))), (o 5, .inl (Z 3, nn 5, .inr (.inr (.inr (.inr (fun j => if j < kk 5 then some (ro 5 j) else none))))))] ++ PLS Z ro kk V U S L B O)))) hC hK hT hN wn_1164 rfl rfl (inb_nI hk731 (by omega)) rfl dL_list_731 (fun H locs hT => ?_)
        rw [spf_add_4 (by omega)] at hT
        have hT := pls_add_4 (W0 := sbW Z b u ++ SPf Z sa o (rup ro 4 (kk 4) ae647) nn (updN kk 4 (kk 4 + 1)) N0) (by rw [List.append_assoc]; exact hT)
        obtain ⟨kk_731, ekk_731⟩ : ∃ y : Nat → Nat, y = updN kk 4 (kk 4 + 1) := ⟨_, rfl⟩
        obtain ⟨ro_731, ero_731⟩ : ∃ y : Nat → Nat → Nat, y = rup ro 4 (kk 4) ae647 := ⟨_, rfl⟩
        obtain ⟨B_731, eB_731⟩ : ∃ y : M2, y = up2 B (kk 4) e647_730 := ⟨_, rfl⟩
        have hm := hm kk_731 ekk_731 B_731 eB_731
        rw [List.append_assoc, ← ekk_731, ← ero_731, ← eB_731] at hT
        have hT : TS vwCl D (LL Z sa b u o ro_731 nn kk_731 kk_731 V U S L B_731 O) A s.heap _ _ := hT
        refine lv_aload_n hx hb dL_list_732 rfl (lv_at hl 1 rfl) ?_
        refine va_ldcS hx hb hC.2.2.2.1 hR.1.1.lld31 dL_list_733 ?_
        refine w_sbLit (i := 31) (by decide) hC hN hK hR.1.1 hT hI hm.1 wq_1203 (by decide) hl.1 (Nat.le_of_ble_eq_true rfl) dL_list_735 ⟨by omega, by omega⟩ (fun u_735 H locs hI hT => ?_)
        have hm := hm.2
        obtain ⟨T_735, eT_735⟩ : ∃ y : List Nat, y = T ++ lst 31 := ⟨_, rfl⟩
        rw [← eT_735] at hI
        have hm := hm T_735 eT_735
        have hT : TS vwCl D (LL Z sa b u_735 o ro_731 nn kk_731 kk_731 V U S L B_731 O) A s.heap _ _ := hT
        refine lv_iload hx hb dL_list_738 (lv_at hl 3 rfl) ?_
        rw [inb_eq hm.1]
        refine w_sbInt (x := v4.toInt.toNat) (by omega) hC hN hK hR.1.1 hT hI hm.2.1 wq_1309 (by decide) hl.1 (Nat.le_of_ble_eq_true rfl) dL_list_740 ⟨by omega, by omega⟩ (fun u_740 H locs hI hT => ?_)
        have hm := hm.2.2
        obtain ⟨T_740, eT_740⟩ : ∃ y : List Nat, y = T_735 ++ decs v4.toInt.toNat := ⟨_, rfl⟩
        rw [← eT_740] at hI
        have hm := hm T_740 eT_740
        have hT : TS vwCl D (LL Z sa b u_740 o ro_731 nn kk_731 kk_731 V U S L B_731 O) A s.heap _ _ := hT
        refine va_ldcS hx hb hC.2.2.2.1 hR.1.1.lld32 dL_list_743 ?_
        refine w_sbLit (i := 32) (by decide) hC hN hK hR.1.1 hT hI hm.1 wq_1203 (by decide) hl.1 (Nat.le_of_ble_eq_true rfl) dL_list_745 ⟨by omega, by omega⟩ (fun u_745 H locs hI hT => ?_)
        have hm := hm.2
        obtain ⟨T_745, eT_745⟩ : ∃ y : List Nat, y = T_740 ++ lst 32 := ⟨_, rfl⟩
        rw [← eT_745] at hI
        have hm := hm T_745 eT_745
        have hT : TS vwCl D (LL Z sa b u_745 o ro_731 nn kk_731 kk_731 V U S L B_731 O) A s.heap _ _ := hT
        refine lv_aload_n hx hb dL_list_748 rfl (lv_at hl 2 rfl) ?_
        refine w_get (C := RX6) (T := TX6) (N := 9) (ci := 6) (q0 := 2) (k := 6) hC hK hT.1 fi_X6 rfl rfl rfl (by decide) rfl wq_1178 dL_list_749 ?_
        refine lv_iload hx hb dL_list_752 (lv_at hl 3 rfl) ?_
        refine w_aaldP (q0 := 7) hC hK hT.1 rfl hm.1 hm.2.1 dL_list_754 ?_
        have hm := hm.2.2
        refine lv_iconst (v := 0) hx hb dL_list_755 (by decide) ?_
        refine wr_ld (jn := 0) (f := (fun X => (LL Z sa b u_745 o ro_731 nn kk_731 kk_731 V U S L X O))) (ll_4 Z sa b u_745 o ro_731 nn kk_731 kk_731 V U S L O) hC hK hT.1 hm.1 (by decide) rfl dL_list_756 ?_
        have hm := hm.2
        rw [inb_eq hm.1]
        refine w_sbInt (x := (B_731 v4.toInt.toNat 0).toInt.toNat) (by omega) hC hN hK hR.1.1 hT hI hm.2.1 wq_1309 (by decide) hl.1 (Nat.le_of_ble_eq_true rfl) dL_list_757 ⟨by omega, by omega⟩ (fun u_757 H locs hI hT => ?_)
        have hm := hm.2.2
        obtain ⟨T_757, eT_757⟩ : ∃ y : List Nat, y = T_745 ++ decs (B_731 v4.toInt.toNat 0).toInt.toNat := ⟨_, rfl⟩
        rw [← eT_757] at hI
        have hm := hm T_757 eT_757
        have hT : TS vwCl D (LL Z sa b u_757 o ro_731 nn kk_731 kk_731 V U S L B_731 O) A s.heap _ _ := hT
        refine va_ldcS hx hb hC.2.2.2.1 hR.1.1.lld33 dL_list_760 ?_
        refine w_sbLit (i := 33) (by decide) hC hN hK hR.1.1 hT hI hm.1 wq_1203 (by decide) hl.1 (Nat.le_of_ble_eq_true rfl) dL_list_762 ⟨by omega, by omega⟩ (fun u_762 H locs hI hT => ?_)
        have hm := hm.2
        obtain ⟨T_762, eT_762⟩ : ∃ y : List Nat, y = T_757 ++ lst 33 := ⟨_, rfl⟩
        rw [← eT_762] at hI
        have hm := hm T_762 eT_762
        have hT : TS vwCl D (LL Z sa b u_762 o ro_731 nn kk_731 kk_731 V U S L B_731 O) A s.heap _ _ := hT
        refine lv_aload_n hx hb dL_list_765 rfl (lv_at hl 2 rfl) ?_
        refine w_get (C := RX6) (T := TX6) (N := 9) (ci := 6) (q0 := 2) (k := 6) hC hK hT.1 fi_X6 rfl rfl rfl (by decide) rfl wq_1178 dL_list_766 ?_
        refine lv_iload hx hb dL_list_769 (lv_at hl 3 rfl) ?_
        refine w_aaldP (q0 := 7) hC hK hT.1 rfl hm.1 hm.2.1 dL_list_771 ?_
        have hm := hm.2.2
        refine lv_iconst (v := 1) hx hb dL_list_772 (by decide) ?_
        refine wr_ld (jn := 1) (f := (fun X => (LL Z sa b u_762 o ro_731 nn kk_731 kk_731 V U S L X O))) (ll_4 Z sa b u_762 o ro_731 nn kk_731 kk_731 V U S L O) hC hK hT.1 hm.1 (by decide) rfl dL_list_773 ?_
        have hm := hm.2
        refine lv_if_ne (tgt := 782) hx hb dL_list_774 (by decide) (fun c_774 => ?_) (fun c_774 => ?_)
        · have hm := hm.1 c_774
          refine va_ldcS hx hb hC.2.2.2.1 hR.1.1.lld35 dL_list_782 ?_
          refine w_sbLit (i := 35) (by decide) hC hN hK hR.1.1 hT hI hm.1 wq_1203 (by decide) hl.1 (Nat.le_of_ble_eq_true rfl) dL_list_784 ⟨by omega, by omega⟩ (fun u_784 H locs hI hT => ?_)
          have hm := hm.2
          obtain ⟨T_784, eT_784⟩ : ∃ y : List Nat, y = T_762 ++ lst 35 := ⟨_, rfl⟩
          rw [← eT_784] at hI
          have hm := hm T_784 eT_784
          have hT : TS vwCl D (LL Z sa b u_784 o ro_731 nn kk_731 kk_731 V U S L B_731 O) A s.heap _ _ := hT
          refine va_ldcS hx hb hC.2.2.2.1 hR.1.1.lld36 dL_list_787 ?_
          refine w_sbLit (i := 36) (by decide) hC hN hK hR.1.1 hT hI hm.1 wq_1203 (by decide) hl.1 (Nat.le_of_ble_eq_true rfl) dL_list_789 ⟨by omega, by omega⟩ (fun u_789 H locs hI hT => ?_)
          have hm := hm.2
          obtain ⟨T_789, eT_789⟩ : ∃ y : List Nat, y = T_784 ++ lst 36 := ⟨_, rfl⟩
          rw [← eT_789] at hI
          have hm := hm T_789 eT_789
          have hT : TS vwCl D (LL Z sa b u_789 o ro_731 nn kk_731 kk_731 V U S L B_731 O) A s.heap _ _ := hT
          refine lv_aload_n hx hb dL_list_792 rfl (lv_at hl 2 rfl) ?_
          refine w_get (C := RX6) (T := TX6) (N := 9) (ci := 6) (q0 := 2) (k := 6) hC hK hT.1 fi_X6 rfl rfl rfl (by decide) rfl wq_1178 dL_list_793 ?_
          refine lv_iload hx hb dL_list_796 (lv_at hl 3 rfl) ?_
          refine w_aaldP (q0 := 7) hC hK hT.1 rfl hm.1 hm.2.1 dL_list_798 ?_
          have hm := hm.2.2
          refine lv_iconst (v := 2) hx hb dL_list_799 (by decide) ?_
          refine wr_ld (jn := 2) (f := (fun X => (LL Z sa b u_789 o ro_731 nn kk_731 kk_731 V U S L X O))) (ll_4 Z sa b u_789 o ro_731 nn kk_731 kk_731 V U S L O) hC hK hT.1 hm.1 (by decide) rfl dL_list_800 ?_
          have hm := hm.2
          rw [inb_eq hm.1]
          refine w_sbInt (x := (B_731 v4.toInt.toNat 2).toInt.toNat) (by omega) hC hN hK hR.1.1 hT hI hm.2.1 wq_1309 (by decide) hl.1 (Nat.le_of_ble_eq_true rfl) dL_list_801 ⟨by omega, by omega⟩ (fun u_801 H locs hI hT => ?_)
          have hm := hm.2.2
          obtain ⟨T_801, eT_801⟩ : ∃ y : List Nat, y = T_789 ++ decs (B_731 v4.toInt.toNat 2).toInt.toNat := ⟨_, rfl⟩
          rw [← eT_801] at hI
          have hm := hm T_801 eT_801
          have hT : TS vwCl D (LL Z sa b u_801 o ro_731 nn kk_731 kk_731 V U S L B_731 O) A s.heap _ _ := hT
          refine va_ldcS hx hb hC.2.2.2.1 hR.1.1.lld37 dL_list_804 ?_
          refine w_sbLit (i := 37) (by decide) hC hN hK hR.1.1 hT hI hm.1 wq_1203 (by decide) hl.1 (Nat.le_of_ble_eq_true rfl) dL_list_806 ⟨by omega, by omega⟩ (fun u_806 H locs hI hT => ?_)
          have hm := hm.2
          obtain ⟨T_806, eT_806⟩ : ∃ y : List Nat, y = T_801 ++ lst 37 := ⟨_, rfl⟩
          rw [← eT_806] at hI
          have hm := hm T_806 eT_806
          have hT : TS vwCl D (LL Z sa b u_806 o ro_731 nn kk_731 kk_731 V U S L B_731 O) A s.heap _ _ := hT
          refine lv_iload hx hb dL_list_809 (lv_at hl 5 rfl) ?_
          rw [inb_eq hm.1]
          refine w_sbInt (x := v6.toInt.toNat) (by omega) hC hN hK hR.1.1 hT hI hm.2.1 wq_1309 (by decide) hl.1 (Nat.le_of_ble_eq_true rfl) dL_list_811 ⟨by omega, by omega⟩ (fun u_811 H locs hI hT => ?_)
          have hm := hm.2.2
          obtain ⟨T_811, eT_811⟩ : ∃ y : List Nat, y = T_806 ++ decs v6.toInt.toNat := ⟨_, rfl⟩
          rw [← eT_811] at hI
          have hm := hm T_811 eT_811
          have hT : TS vwCl D (LL Z sa b u_811 o ro_731 nn kk_731 kk_731 V U S L B_731 O) A s.heap _ _ := hT
          refine va_ldcS hx hb hC.2.2.2.1 hR.1.1.lld38 dL_list_814 ?_
          refine w_sbLit (i := 38) (by decide) hC hN hK hR.1.1 hT hI hm.1 wq_1203 (by decide) hl.1 (Nat.le_of_ble_eq_true rfl) dL_list_816 ⟨by omega, by omega⟩ (fun u_816 H locs hI hT => ?_)
          have hm := hm.2
          obtain ⟨T_816, eT_816⟩ : ∃ y : List Nat, y = T_811 ++ lst 38 := ⟨_, rfl⟩
          rw [← eT_816] at hI
          have hm := hm T_816 eT_816
          have hT : TS vwCl D (LL Z sa b u_816 o ro_731 nn kk_731 kk_731 V U S L B_731 O) A s.heap _ _ := hT
          refine lv_iload hx hb dL_list_819 (lv_at hl 6 rfl) ?_
          rw [inb_eq hm.1]
          refine w_sbInt (x := v7.toInt.toNat) (by omega) hC hN hK hR.1.1 hT hI hm.2.1 wq_1309 (by decide) hl.1 (Nat.le_of_ble_eq_true rfl) dL_list_821 ⟨by omega, by omega⟩ (fun u_821 H locs hI hT => ?_)
          have hm := hm.2.2
          obtain ⟨T_821, eT_821⟩ : ∃ y : List Nat, y = T_816 ++ decs v7.toInt.toNat := ⟨_, rfl⟩
          rw [← eT_821] at hI
          have hm := hm T_821 eT_821
          have hT : TS vwCl D (LL Z sa b u_821 o ro_731 nn kk_731 kk_731 V U S L B_731 O) A s.heap _ _ := hT
          refine va_ldcS hx hb hC.2.2.2.1 hR.1.1.lld23 dL_list_824 ?_
          refine w_sbLit (i := 23) (by decide) hC hN hK hR.1.1 hT hI hm.1 wq_1203 (by decide) hl.1 (Nat.le_of_ble_eq_true rfl) dL_list_826 ⟨by omega, by omega⟩ (fun u_826 H locs hI hT => ?_)
          have hm := hm.2
          obtain ⟨T_826, eT_826⟩ : ∃ y : List Nat, y = T_821 ++ lst 23 := ⟨_, rfl⟩
          rw [← eT_826] at hI
          have hm := hm T_826 eT_826
          have hT : TS vwCl D (LL Z sa b u_826 o ro_731 nn kk_731 kk_731 V U S L B_731 O) A s.heap _ _ := hT
          refine lv_pop hx hb dL_list_829 rfl ?_
          obtain ⟨v4_830, ev4_830⟩ : ∃ y : Int32, y = v4 + 1 := ⟨_, rfl⟩
          have hm := hm v4_830 ev4_830
          refine lv_iinc (v := v4_830) (lv' := [(4, .int v4_830), (0, .ref scr), (1, .ref b), (2, .ref (sa)), (5, .int v5), (6, .int v6), (7, .int v7)]) hx hb dL_list_830 hl (k := 3) rfl (by rw [ev4_830]; rfl) (by decide) rfl (fun ls hl => ?_)
          refine lv_goto (tgt := 569) hx hb dL_list_833 (by decide) ?_
          exact ih569 _ _ _ _ _ _ _ _ _ _ _ _ _ _ _ _ _ _ hI hm hT (lv_sub hl [1, 2, 3, 0] rfl) ⟨by omega, by omega⟩
        · have hm := hm.2 c_774
          refine va_ldcS hx hb hC.2.2.2.1 hR.1.1.lld34 dL_list_777 ?_
          refine lv_goto (tgt := 784) hx hb dL_list_779 (by decide) ?_
          refine w_sbLit (i := 34) (by decide) hC hN hK hR.1.1 hT hI hm.1 wq_1203 (by decide) hl.1 (Nat.le_of_ble_eq_true rfl) dL_list_784 ⟨by omega, by omega⟩ (fun u_784 H locs hI hT => ?_)
          have hm := hm.2
          obtain ⟨T_784, eT_784⟩ : ∃ y : List Nat, y = T_762 ++ lst 34 := ⟨_, rfl⟩
          rw [← eT_784] at hI
          have hm := hm T_784 eT_784
          have hT : TS vwCl D (LL Z sa b u_784 o ro_731 nn kk_731 kk_731 V U S L B_731 O) A s.heap _ _ := hT
          refine va_ldcS hx hb hC.2.2.2.1 hR.1.1.lld36 dL_list_787 ?_
          refine w_sbLit (i := 36) (by decide) hC hN hK hR.1.1 hT hI hm.1 wq_1203 (by decide) hl.1 (Nat.le_of_ble_eq_true rfl) dL_list_789 ⟨by omega, by omega⟩ (fun u_789 H locs hI hT => ?_)
          have hm := hm.2
          obtain ⟨T_789, eT_789⟩ : ∃ y : List Nat, y = T_784 ++ lst 36 := ⟨_, rfl⟩
          rw [← eT_789] at hI
          have hm := hm T_789 eT_789
          have hT : TS vwCl D (LL Z sa b u_789 o ro_731 nn kk_731 kk_731 V U S L B_731 O) A s.heap _ _ := hT
          refine lv_aload_n hx hb dL_list_792 rfl (lv_at hl 2 rfl) ?_
          refine w_get (C := RX6) (T := TX6) (N := 9) (ci := 6) (q0 := 2) (k := 6) hC hK hT.1 fi_X6 rfl rfl rfl (by decide) rfl wq_1178 dL_list_793 ?_
          refine lv_iload hx hb dL_list_796 (lv_at hl 3 rfl) ?_
          refine w_aaldP (q0 := 7) hC hK hT.1 rfl hm.1 hm.2.1 dL_list_798 ?_
          have hm := hm.2.2
          refine lv_iconst (v := 2) hx hb dL_list_799 (by decide) ?_
          refine wr_ld (jn := 2) (f := (fun X => (LL Z sa b u_789 o ro_731 nn kk_731 kk_731 V U S L X O))) (ll_4 Z sa b u_789 o ro_731 nn kk_731 kk_731 V U S L O) hC hK hT.1 hm.1 (by decide) rfl dL_list_800 ?_
          have hm := hm.2
          rw [inb_eq hm.1]
          refine w_sbInt (x := (B_731 v4.toInt.toNat 2).toInt.toNat) (by omega) hC hN hK hR.1.1 hT hI hm.2.1 wq_1309 (by decide) hl.1 (Nat.le_of_ble_eq_true rfl) dL_list_801 ⟨by omega, by omega⟩ (fun u_801 H locs hI hT => ?_)
          have hm := hm.2.2
          obtain ⟨T_801, eT_801⟩ : ∃ y : List Nat, y = T_789 ++ decs (B_731 v4.toInt.toNat 2).toInt.toNat := ⟨_, rfl⟩
          rw [← eT_801] at hI
          have hm := hm T_801 eT_801
          have hT : TS vwCl D (LL Z sa b u_801 o ro_731 nn kk_731 kk_731 V U S L B_731 O) A s.heap _ _ := hT
          refine va_ldcS hx hb hC.2.2.2.1 hR.1.1.lld37 dL_list_804 ?_
          refine w_sbLit (i := 37) (by decide) hC hN hK hR.1.1 hT hI hm.1 wq_1203 (by decide) hl.1 (Nat.le_of_ble_eq_true rfl) dL_list_806 ⟨by omega, by omega⟩ (fun u_806 H locs hI hT => ?_)
          have hm := hm.2
          obtain ⟨T_806, eT_806⟩ : ∃ y : List Nat, y = T_801 ++ lst 37 := ⟨_, rfl⟩
          rw [← eT_806] at hI
          have hm := hm T_806 eT_806
          have hT : TS vwCl D (LL Z sa b u_806 o ro_731 nn kk_731 kk_731 V U S L B_731 O) A s.heap _ _ := hT
          refine lv_iload hx hb dL_list_809 (lv_at hl 5 rfl) ?_
          rw [inb_eq hm.1]
          refine w_sbInt (x := v6.toInt.toNat) (by omega) hC hN hK hR.1.1 hT hI hm.2.1 wq_1309 (by decide) hl.1 (Nat.le_of_ble_eq_true rfl) dL_list_811 ⟨by omega, by omega⟩ (fun u_811 H locs hI hT => ?_)
          have hm := hm.2.2
          obtain ⟨T_811, eT_811⟩ : ∃ y : List Nat, y = T_806 ++ decs v6.toInt.toNat := ⟨_, rfl⟩
          rw [← eT_811] at hI
          have hm := hm T_811 eT_811
          have hT : TS vwCl D (LL Z sa b u_811 o ro_731 nn kk_731 kk_731 V U S L B_731 O) A s.heap _ _ := hT
          refine va_ldcS hx hb hC.2.2.2.1 hR.1.1.lld38 dL_list_814 ?_
          refine w_sbLit (i := 38) (by decide) hC hN hK hR.1.1 hT hI hm.1 wq_1203 (by decide) hl.1 (Nat.le_of_ble_eq_true rfl) dL_list_816 ⟨by omega, by omega⟩ (fun u_816 H locs hI hT => ?_)
          have hm := hm.2
          obtain ⟨T_816, eT_816⟩ : ∃ y : List Nat, y = T_811 ++ lst 38 := ⟨_, rfl⟩
          rw [← eT_816] at hI
          have hm := hm T_816 eT_816
          have hT : TS vwCl D (LL Z sa b u_816 o ro_731 nn kk_731 kk_731 V U S L B_731 O) A s.heap _ _ := hT
          refine lv_iload hx hb dL_list_819 (lv_at hl 6 rfl) ?_
          rw [inb_eq hm.1]
          refine w_sbInt (x := v7.toInt.toNat) (by omega) hC hN hK hR.1.1 hT hI hm.2.1 wq_1309 (by decide) hl.1 (Nat.le_of_ble_eq_true rfl) dL_list_821 ⟨by omega, by omega⟩ (fun u_821 H locs hI hT => ?_)
          have hm := hm.2.2
          obtain ⟨T_821, eT_821⟩ : ∃ y : List Nat, y = T_816 ++ decs v7.toInt.toNat := ⟨_, rfl⟩
          rw [← eT_821] at hI
          have hm := hm T_821 eT_821
          have hT : TS vwCl D (LL Z sa b u_821 o ro_731 nn kk_731 kk_731 V U S L B_731 O) A s.heap _ _ := hT
          refine va_ldcS hx hb hC.2.2.2.1 hR.1.1.lld23 dL_list_824 ?_
          refine w_sbLit (i := 23) (by decide) hC hN hK hR.1.1 hT hI hm.1 wq_1203 (by decide) hl.1 (Nat.le_of_ble_eq_true rfl) dL_list_826 ⟨by omega, by omega⟩ (fun u_826 H locs hI hT => ?_)
          have hm := hm.2
          obtain ⟨T_826, eT_826⟩ : ∃ y : List Nat, y = T_821 ++ lst 23 := ⟨_, rfl⟩
          rw [← eT_826] at hI
          have hm := hm T_826 eT_826
          have hT : TS vwCl D (LL Z sa b u_826 o ro_731 nn kk_731 kk_731 V U S L B_731 O) A s.heap _ _ := hT
          refine lv_pop hx hb dL_list_829 rfl ?_
          obtain ⟨v4_830, ev4_830⟩ : ∃ y : Int32, y = v4 + 1 := ⟨_, rfl⟩
          have hm := hm v4_830 ev4_830
          refine lv_iinc (v := v4_830) (lv' := [(4, .int v4_830), (0, .ref scr), (1, .ref b), (2, .ref (sa)), (5, .int v5), (6, .int v6), (7, .int v7)]) hx hb dL_list_830 hl (k := 3) rfl (by rw [ev4_830]; rfl) (by decide) rfl (fun ls hl => ?_)
          refine lv_goto (tgt := 569) hx hb dL_list_833 (by decide) ?_
          exact ih569 _ _ _ _ _ _ _ _ _ _ _ _ _ _ _ _ _ _ hI hm hT (lv_sub hl [1, 2, 3, 0] rfl) ⟨by omega, by omega⟩
      intro T nn kk V U S L B O v4 u o ro H locs ls cc cs hI hm hT hl hcb
      refine lv_iload hx hb dL_list_569 (lv_at hl 3 rfl) ?_
      refine lv_aload_n hx hb dL_list_571 rfl (lv_at hl 2 rfl) ?_
      refine w_get (C := RX6) (T := TX6) (N := 9) (ci := 6) (q0 := 2) (k := 6) hC hK hT.1 fi_X6 rfl rfl rfl (by decide) rfl wq_1178 dL_list_572 ?_
      refine w_alen (q0 := 7) (t0 := 3) hC hK hT.1 rfl rfl dL_list_575 ?_
      refine lv_icmp_ge (tgt := 836) hx hb dL_list_576 (by decide) (fun c_576 => ?_) (fun c_576 => ?_)
      · have hm := hm.1 c_576
        refine lv_aload_n hx hb dL_list_836 rfl (lv_at hl 2 rfl) ?_
        refine lv_aload_n hx hb dL_list_837 rfl (lv_at hl 0 rfl) ?_
        refine lv_bipush (v := 13) hx hb dL_list_838 (by decide) ?_
        refine w_cell (k := 13) hC hN hK hR hT hLn (by decide) wq_901 (by decide) hl.1 (Nat.le_of_ble_eq_true rfl) ⟨by omega, by omega⟩ dL_list_840 (fun H locs hT => ?_)
        refine lv_bipush (v := 6) hx hb dL_list_843 (by decide) ?_
        refine w_below hC hN hK (by decide) wq_897 (by decide) hl.1 (Nat.le_of_ble_eq_true rfl) ⟨by omega, by omega⟩ dL_list_845 ?_
        have hz848 := hm.1
        have hm := hm.2
        obtain ⟨z848, ez848⟩ : ∃ y : Nat, y = (blw (celv xs Ln 13) 6).toInt.toNat := ⟨_, rfl⟩
        have hm := hm z848 ez848
        have hz848_2 := inb_ge0 hz848
        have hz848_3 := inb_toNat hz848 ez848
        refine w_newA (N := z848) hC hK hT hN wq_1201 wn_1164 hz848_2 hz848_3.1 (by omega) (by show _ ≤ 503; omega) (by show _ ≤ 1204787; omega) dL_list_848 (fun q H hT => ?_)
        have hT := hT.front
        have h0851 := hm.1
        have hm := hm.2
        refine w_put (C := RX6) (T := TX6) (N := 9) (ci := 6) (q0 := 3) (k := 7) (ty0 := tyX6) (ty := .array (.array .int)) (ws' := ((q, .inl (Z 3, z848, .inr (.inr (.inr (.inr (fun _ => none)))))) :: (sbW Z b u ++ ([(sa, .inr (6, [.int (N0 0 0), .int (N0 1 0), .ref (o 0), .ref (o 1), .ref (o 2), .ref (o 3), .ref (o 4), .ref q, .int (N0 2 0)])), (o 0, .inl (Z 3, nn 0, .inr (.inr (.inr (.inr (fun j => if j < kk 0 then some (ro 0 j) else none)))))), (o 1, .inl (Z 3, nn 1, .inr (.inr (.inr (.inr (fun j => if j < kk 1 then some (ro 1 j) else none)))))), (o 2, .inl (Z 3, nn 2, .inr (.inr (.inr (.inr (fun j => if j < kk 2 then some (ro 2 j) else none)))))), (o 3, .inl (Z 3, nn 3, .inr (.inr (.inr (.inr (fun j => if j < kk 3 then some (ro 3 j) else none)))))), (o 4, .inl (Z 3, nn 4, .inr (.inr (.inr (.inr (fun j => if j < kk 4 then some (ro 4 j) else none)))))), (o 5, .inl (Z 3, nn 5, .inr (.inr (.inr (.inr (fun j => if j < kk 5 then some (ro 5 j) else none))))))] ++ PLS Z ro kk V U S L B O)))) hC hK hT fi_X6 tyX6_ok nmX6 rfl rfl (by decide) rfl rfl rfl rfl rfl (Nat.le_of_ble_eq_true rfl) rfl wq_1180 dL_list_851 (fun H locs hT => ?_)
        have hT := ll_new_5 h0851 hT
        obtain ⟨nn_851, enn_851⟩ : ∃ y : Nat → Nat, y = updN nn 5 z848 := ⟨_, rfl⟩
        have hm := hm nn_851 enn_851
        obtain ⟨o_851, eo_851⟩ : ∃ y : Nat → Nat, y = updN o 5 q := ⟨_, rfl⟩
        rw [← enn_851, ← eo_851] at hT
        refine lv_iconst (v := 0) hx hb dL_list_854 (by decide) ?_
        refine lv_istore (lv' := [(4, .int 0), (0, .ref scr), (1, .ref b), (2, .ref (sa))]) hx hb dL_list_855 hl (by decide) rfl (fun ls hl => ?_)
        exact L857 _ _ _ _ _ _ _ _ _ _ _ _ _ _ _ _ _ _ _ hI hm hT (lv_sub hl [1, 2, 3, 0] rfl) ⟨by omega, by omega⟩
      · have hm := hm.2 c_576
        refine lv_aload_n hx hb dL_list_579 rfl (lv_at hl 0 rfl) ?_
        refine lv_bipush (v := 9) hx hb dL_list_580 (by decide) ?_
        refine lv_iload hx hb dL_list_582 (lv_at hl 3 rfl) ?_
        refine lv_iconst (v := 4) hx hb dL_list_584 (by decide) ?_
        refine lv_irem hx hb dL_list_585 (by decide) ?_
        refine lv_iadd hx hb dL_list_586 ?_
        refine w_cell (k := ((9 : Int32) + (v4 - v4 / (4 : Int32) * (4 : Int32)))) hC hN hK hR hT hLn hm.1 wq_901 (by decide) hl.1 (Nat.le_of_ble_eq_true rfl) ⟨by omega, by omega⟩ dL_list_587 (fun H locs hT => ?_)
        have hm := hm.2
        refine lv_iconst (v := 2) hx hb dL_list_590 (by decide) ?_
        refine lv_iload hx hb dL_list_591 (lv_at hl 3 rfl) ?_
        refine lv_imul hx hb dL_list_593 ?_
        refine lv_ishr hx hb dL_list_594 ?_
        refine lv_topi (fun v5_595 ev5_595 => ?_)
        have hm := hm v5_595 ev5_595
        refine lv_istore (lv' := [(5, .int v5_595), (0, .ref scr), (1, .ref b), (2, .ref (sa)), (4, .int v4)]) hx hb dL_list_595 hl (by decide) rfl (fun ls hl => ?_)
        refine lv_iload hx hb dL_list_597 (lv_at hl 0 rfl) ?_
        refine lv_iconst (v := 5) hx hb dL_list_599 (by decide) ?_
        refine lv_ishr hx hb dL_list_600 ?_
        refine lv_aload_n hx hb dL_list_601 rfl (lv_at hl 3 rfl) ?_
        refine w_get (C := RX6) (T := TX6) (N := 9) (ci := 6) (q0 := 2) (k := 5) hC hK hT.1 fi_X6 rfl rfl rfl (by decide) rfl wq_1176 dL_list_602 ?_
        refine w_alen (q0 := 6) (t0 := 3) hC hK hT.1 rfl rfl dL_list_605 ?_
        refine w_below hC hN hK hm.1 wq_897 (by decide) hl.1 (Nat.le_of_ble_eq_true rfl) ⟨by omega, by omega⟩ dL_list_606 ?_
        have hm := hm.2
        refine lv_topi (fun v6_609 ev6_609 => ?_)
        have hm := hm v6_609 ev6_609
        refine lv_istore (lv' := [(6, .int v6_609), (5, .int v5_595), (0, .ref scr), (1, .ref b), (2, .ref (sa)), (4, .int v4)]) hx hb dL_list_609 hl (by decide) rfl (fun ls hl => ?_)
        refine lv_iload hx hb dL_list_611 (lv_at hl 0 rfl) ?_
        refine lv_iconst (v := 1) hx hb dL_list_613 (by decide) ?_
        refine lv_iadd hx hb dL_list_614 ?_
        refine lv_iload hx hb dL_list_615 (lv_at hl 1 rfl) ?_
        refine lv_bipush (v := 7) hx hb dL_list_617 (by decide) ?_
        refine lv_ishr hx hb dL_list_619 ?_
        refine lv_aload_n hx hb dL_list_620 rfl (lv_at hl 4 rfl) ?_
        refine w_get (C := RX6) (T := TX6) (N := 9) (ci := 6) (q0 := 2) (k := 5) hC hK hT.1 fi_X6 rfl rfl rfl (by decide) rfl wq_1176 dL_list_621 ?_
        refine w_alen (q0 := 6) (t0 := 3) hC hK hT.1 rfl rfl dL_list_624 ?_
        refine lv_iconst (v := 1) hx hb dL_list_625 (by decide) ?_
        refine lv_isub hx hb dL_list_626 ?_
        refine w_below hC hN hK hm.1 wq_897 (by decide) hl.1 (Nat.le_of_ble_eq_true rfl) ⟨by omega, by omega⟩ dL_list_627 ?_
        have hm := hm.2
        refine lv_iadd hx hb dL_list_630 ?_
        refine lv_aload_n hx hb dL_list_631 rfl (lv_at hl 4 rfl) ?_
        refine w_get (C := RX6) (T := TX6) (N := 9) (ci := 6) (q0 := 2) (k := 5) hC hK hT.1 fi_X6 rfl rfl rfl (by decide) rfl wq_1176 dL_list_632 ?_
        refine w_alen (q0 := 6) (t0 := 3) hC hK hT.1 rfl rfl dL_list_635 ?_
        refine lv_irem hx hb dL_list_636 hm.1 ?_
        have hm := hm.2
        refine lv_topi (fun v7_637 ev7_637 => ?_)
        have hm := hm v7_637 ev7_637
        refine lv_istore (lv' := [(7, .int v7_637), (6, .int v6_609), (5, .int v5_595), (0, .ref scr), (1, .ref b), (2, .ref (sa)), (4, .int v4)]) hx hb dL_list_637 hl (by decide) rfl (fun ls hl => ?_)
        refine lv_aload_n hx hb dL_list_639 rfl (lv_at hl 5 rfl) ?_
        refine w_get (C := RX6) (T := TX6) (N := 9) (ci := 6) (q0 := 2) (k := 6) hC hK hT.1 fi_X6 rfl rfl rfl (by decide) rfl wq_1178 dL_list_640 ?_
        refine lv_iload hx hb dL_list_643 (lv_at hl 6 rfl) ?_
        refine lv_bipush (v := 9) hx hb dL_list_645 (by decide) ?_
        refine w_newI (N := 9) hC hK hT wq_240 (by decide) (by decide) (by decide) (by show _ ≤ 503; omega) (by show _ ≤ 1204787; omega) dL_list_647 (fun ae647 H hT => ?_)
        have hT : TS vwCl D ([(ae647, .inl (Z 0, 9, .inl ((fun _ => 0))))] ++ (LL Z sa b u o ro nn kk kk V U S L B O)) A s.heap H _ := hT.front
        refine lv_dup hx hb dL_list_649 rfl ?_
        refine lv_iconst (v := 0) hx hb dL_list_650 (by decide) ?_
        refine lv_iconst (v := 1) hx hb dL_list_651 (by decide) ?_
        refine lv_iload hx hb dL_list_652 (lv_at hl 2 rfl) ?_
        refine lv_iload hx hb dL_list_654 (lv_at hl 2 rfl) ?_
        refine lv_bipush (v := 9) hx hb dL_list_656 (by decide) ?_
        refine lv_ishr hx hb dL_list_658 ?_
        refine lv_iconst (v := 2) hx hb dL_list_659 (by decide) ?_
        refine w_below hC hN hK (by decide) wq_897 (by decide) hl.1 (Nat.le_of_ble_eq_true rfl) ⟨by omega, by omega⟩ dL_list_660 ?_
        refine lv_if_ne (tgt := 671) hx hb dL_list_663 (by decide) (fun c_663 => ?_) (fun c_663 => ?_)
        · have hm := hm.1 c_663
          refine lv_bipush (v := 12) hx hb dL_list_671 (by decide) ?_
          exact L673 _ _ _ _ _ _ _ _ _ _ _ _ _ _ _ _ _ _ _ _ _ _ _ _ _ _ _ _ hI hm hT (lv_sub hl [3, 4, 5, 6, 2, 1, 0] rfl) ⟨by omega, by omega⟩
        · have hm := hm.2 c_663
          refine lv_bipush (v := 60) hx hb dL_list_666 (by decide) ?_
          refine lv_goto (tgt := 673) hx hb dL_list_668 (by decide) ?_
          exact L673 _ _ _ _ _ _ _ _ _ _ _ _ _ _ _ _ _ _ _ _ _ _ _ _ _ _ _ _ hI hm hT (lv_sub hl [3, 4, 5, 6, 2, 1, 0] rfl) ⟨by omega, by omega⟩
  have L411 : ∀ (n411 : Nat), ∀ (T : List Nat) (nn : (Nat → Nat)) (kk : (Nat → Nat)) (V : M2) (U : M2) (S : M2) (L : M2) (B : M2) (O : M2) (v4 : Int32) (u : SBS) (o : Nat → Nat) (ro : Nat → Nat → Nat) (H : Heap) (locs : List Loc) (ls : Array Slot) (cc cs : Nat), SBI u T → wl_L_list_411 xs Ln K n411 T nn kk V U S L B O v4 → TS vwCl D (LL Z sa b u o ro nn kk kk V U S L B O) A s.heap H locs → lv_has ls 8 [(0, .ref scr), (1, .ref b), (2, .ref (sa)), (4, .int v4)] → cc + (n411 * 8 + 332) ≤ 503 ∧ cs + (n411 * 28005 + 840362) ≤ 1204787 → W p l e (rk 9 503 1204787) s m args below meth c H locs cc cs Q (F0 m 411 ls []) := by
    intro n411
    induction n411 with
    | zero =>
      intro T nn kk V U S L B O v4 u o ro H locs ls cc cs hI hm hT hl hcb
      exact False.elim hm
    | succ n411 ih411 =>
      intro T nn kk V U S L B O v4 u o ro H locs ls cc cs hI hm hT hl hcb
      refine lv_iload hx hb dL_list_411 (lv_at hl 3 rfl) ?_
      refine lv_aload_n hx hb dL_list_413 rfl (lv_at hl 2 rfl) ?_
      refine w_get (C := RX6) (T := TX6) (N := 9) (ci := 6) (q0 := 2) (k := 5) hC hK hT.1 fi_X6 rfl rfl rfl (by decide) rfl wq_1176 dL_list_414 ?_
      refine w_alen (q0 := 6) (t0 := 3) hC hK hT.1 rfl rfl dL_list_417 ?_
      refine lv_icmp_ge (tgt := 547) hx hb dL_list_418 (by decide) (fun c_418 => ?_) (fun c_418 => ?_)
      · have hm := hm.1 c_418
        refine lv_aload_n hx hb dL_list_547 rfl (lv_at hl 2 rfl) ?_
        refine lv_iconst (v := 1) hx hb dL_list_548 (by decide) ?_
        refine lv_aload_n hx hb dL_list_549 rfl (lv_at hl 0 rfl) ?_
        refine lv_bipush (v := 9) hx hb dL_list_550 (by decide) ?_
        refine w_cell (k := 9) hC hN hK hR hT hLn (by decide) wq_901 (by decide) hl.1 (Nat.le_of_ble_eq_true rfl) ⟨by omega, by omega⟩ dL_list_552 (fun H locs hT => ?_)
        refine lv_iconst (v := 5) hx hb dL_list_555 (by decide) ?_
        refine w_below hC hN hK (by decide) wq_897 (by decide) hl.1 (Nat.le_of_ble_eq_true rfl) ⟨by omega, by omega⟩ dL_list_556 ?_
        refine lv_iadd hx hb dL_list_559 ?_
        have hz560 := hm.1
        have hm := hm.2
        obtain ⟨z560, ez560⟩ : ∃ y : Nat, y = ((1 : Int32) + (blw (celv xs Ln 9) 5)).toInt.toNat := ⟨_, rfl⟩
        have hm := hm z560 ez560
        have hz560_2 := inb_ge0 hz560
        have hz560_3 := inb_toNat hz560 ez560
        refine w_newA (N := z560) hC hK hT hN wq_1201 wn_1164 hz560_2 hz560_3.1 (by omega) (by show _ ≤ 503; omega) (by show _ ≤ 1204787; omega) dL_list_560 (fun q H hT => ?_)
        have hT := hT.front
        have h0563 := hm.1
        have hm := hm.2
        refine w_put (C := RX6) (T := TX6) (N := 9) (ci := 6) (q0 := 3) (k := 6) (ty0 := tyX6) (ty := .array (.array .int)) (ws' := ((q, .inl (Z 3, z560, .inr (.inr (.inr (.inr (fun _ => none)))))) :: (sbW Z b u ++ ([(sa, .inr (6, [.int (N0 0 0), .int (N0 1 0), .ref (o 0), .ref (o 1), .ref (o 2), .ref (o 3), .ref q, .ref (o 5), .int (N0 2 0)])), (o 0, .inl (Z 3, nn 0, .inr (.inr (.inr (.inr (fun j => if j < kk 0 then some (ro 0 j) else none)))))), (o 1, .inl (Z 3, nn 1, .inr (.inr (.inr (.inr (fun j => if j < kk 1 then some (ro 1 j) else none)))))), (o 2, .inl (Z 3, nn 2, .inr (.inr (.inr (.inr (fun j => if j < kk 2 then some (ro 2 j) else none)))))), (o 3, .inl (Z 3, nn 3, .inr (.inr (.inr (.inr (fun j => if j < kk 3 then some (ro 3 j) else none)))))), (o 4, .inl (Z 3, nn 4, .inr (.inr (.inr (.inr (fun j => if j < kk 4 then some (ro 4 j) else none)))))), (o 5, .inl (Z 3, nn 5, .inr (.inr (.inr (.inr (fun j => if j < kk 5 then some (ro 5 j) else none))))))] ++ PLS Z ro kk V U S L B O)))) hC hK hT fi_X6 tyX6_ok nmX6 rfl rfl (by decide) rfl rfl rfl rfl rfl (Nat.le_of_ble_eq_true rfl) rfl wq_1178 dL_list_563 (fun H locs hT => ?_)
        have hT := ll_new_4 h0563 hT
        obtain ⟨nn_563, enn_563⟩ : ∃ y : Nat → Nat, y = updN nn 4 z560 := ⟨_, rfl⟩
        have hm := hm nn_563 enn_563
        obtain ⟨o_563, eo_563⟩ : ∃ y : Nat → Nat, y = updN o 4 q := ⟨_, rfl⟩
        rw [← enn_563, ← eo_563] at hT
        refine lv_iconst (v := 0) hx hb dL_list_566 (by decide) ?_
        refine lv_istore (lv' := [(4, .int 0), (0, .ref scr), (1, .ref b), (2, .ref (sa))]) hx hb dL_list_567 hl (by decide) rfl (fun ls hl => ?_)
        exact L569 _ _ _ _ _ _ _ _ _ _ _ _ _ _ _ _ _ _ _ hI hm hT (lv_sub hl [1, 2, 3, 0] rfl) ⟨by omega, by omega⟩
      · have hm := hm.2 c_418
        refine lv_aload_n hx hb dL_list_421 rfl (lv_at hl 0 rfl) ?_
        refine lv_bipush (v := 6) hx hb dL_list_422 (by decide) ?_
        refine lv_iload hx hb dL_list_424 (lv_at hl 3 rfl) ?_
        refine lv_iconst (v := 3) hx hb dL_list_426 (by decide) ?_
        refine lv_irem hx hb dL_list_427 (by decide) ?_
        refine lv_iadd hx hb dL_list_428 ?_
        refine w_cell (k := ((6 : Int32) + (v4 - v4 / (3 : Int32) * (3 : Int32)))) hC hN hK hR hT hLn hm.1 wq_901 (by decide) hl.1 (Nat.le_of_ble_eq_true rfl) ⟨by omega, by omega⟩ dL_list_429 (fun H locs hT => ?_)
        have hm := hm.2
        refine lv_iconst (v := 2) hx hb dL_list_432 (by decide) ?_
        refine lv_iload hx hb dL_list_433 (lv_at hl 3 rfl) ?_
        refine lv_imul hx hb dL_list_435 ?_
        refine lv_iconst (v := 1) hx hb dL_list_436 (by decide) ?_
        refine lv_iadd hx hb dL_list_437 ?_
        refine lv_ishr hx hb dL_list_438 ?_
        refine lv_topi (fun v5_439 ev5_439 => ?_)
        have hm := hm v5_439 ev5_439
        refine lv_istore (lv' := [(5, .int v5_439), (0, .ref scr), (1, .ref b), (2, .ref (sa)), (4, .int v4)]) hx hb dL_list_439 hl (by decide) rfl (fun ls hl => ?_)
        refine lv_iconst (v := 2) hx hb dL_list_441 (by decide) ?_
        refine lv_iload hx hb dL_list_442 (lv_at hl 0 rfl) ?_
        refine lv_iconst (v := 4) hx hb dL_list_444 (by decide) ?_
        refine lv_ishr hx hb dL_list_445 ?_
        refine lv_bipush (v := 8) hx hb dL_list_446 (by decide) ?_
        refine w_below hC hN hK (by decide) wq_897 (by decide) hl.1 (Nat.le_of_ble_eq_true rfl) ⟨by omega, by omega⟩ dL_list_448 ?_
        refine lv_iadd hx hb dL_list_451 ?_
        refine lv_topi (fun v6_452 ev6_452 => ?_)
        have hm := hm v6_452 ev6_452
        refine lv_istore (lv' := [(6, .int v6_452), (5, .int v5_439), (0, .ref scr), (1, .ref b), (2, .ref (sa)), (4, .int v4)]) hx hb dL_list_452 hl (by decide) rfl (fun ls hl => ?_)
        refine lv_aload_n hx hb dL_list_454 rfl (lv_at hl 4 rfl) ?_
        refine w_get (C := RX6) (T := TX6) (N := 9) (ci := 6) (q0 := 2) (k := 5) hC hK hT.1 fi_X6 rfl rfl rfl (by decide) rfl wq_1176 dL_list_455 ?_
        refine lv_iload hx hb dL_list_458 (lv_at hl 5 rfl) ?_
        refine lv_iconst (v := 5) hx hb dL_list_460 (by decide) ?_
        refine w_newI (N := 5) hC hK hT wq_240 (by decide) (by decide) (by decide) (by show _ ≤ 503; omega) (by show _ ≤ 1204787; omega) dL_list_461 (fun ae461 H hT => ?_)
        have hT : TS vwCl D ([(ae461, .inl (Z 0, 5, .inl ((fun _ => 0))))] ++ (LL Z sa b u o ro nn kk kk V U S L B O)) A s.heap H _ := hT.front
        refine lv_dup hx hb dL_list_463 rfl ?_
        refine lv_iconst (v := 0) hx hb dL_list_464 (by decide) ?_
        refine lv_iconst (v := 1) hx hb dL_list_465 (by decide) ?_
        refine lv_iload hx hb dL_list_466 (lv_at hl 1 rfl) ?_
        refine lv_bipush (v := 9) hx hb dL_list_468 (by decide) ?_
        refine w_below hC hN hK (by decide) wq_897 (by decide) hl.1 (Nat.le_of_ble_eq_true rfl) ⟨by omega, by omega⟩ dL_list_470 ?_
        refine lv_iadd hx hb dL_list_473 ?_
        have hj474 := hm.1
        obtain ⟨e461_474, ee461_474⟩ : ∃ y : Nat → Int32, y = upd ((fun _ => 0)) 0 ((1 : Int32) + (blw v5_439 9)) := ⟨_, rfl⟩
        have hm := hm.2 e461_474 ee461_474
        refine w_iast (q0 := 0) (ws' := ([(ae461, .inl (Z 0, 5, .inl e461_474))] ++ (LL Z sa b u o ro nn kk kk V U S L B O))) hC hK hT rfl hj474 (by rw [ee461_474]; rfl) dL_list_474 (fun H locs hT => ?_)
        refine lv_dup hx hb dL_list_475 rfl ?_
        refine lv_iconst (v := 1) hx hb dL_list_476 (by decide) ?_
        refine lv_iload hx hb dL_list_477 (lv_at hl 0 rfl) ?_
        have hj479 := hm.1
        obtain ⟨e461_479, ee461_479⟩ : ∃ y : Nat → Int32, y = upd e461_474 1 v6_452 := ⟨_, rfl⟩
        have hm := hm.2 e461_479 ee461_479
        refine w_iast (q0 := 0) (ws' := ([(ae461, .inl (Z 0, 5, .inl e461_479))] ++ (LL Z sa b u o ro nn kk kk V U S L B O))) hC hK hT rfl hj479 (by rw [ee461_479]; rfl) dL_list_479 (fun H locs hT => ?_)
        refine lv_dup hx hb dL_list_480 rfl ?_
        refine lv_iconst (v := 2) hx hb dL_list_481 (by decide) ?_
        refine lv_bipush (v := 10) hx hb dL_list_482 (by decide) ?_
        refine lv_iload hx hb dL_list_484 (lv_at hl 0 rfl) ?_
        refine lv_imul hx hb dL_list_486 ?_
        have hj487 := hm.1
        obtain ⟨e461_487, ee461_487⟩ : ∃ y : Nat → Int32, y = upd e461_479 2 ((10 : Int32) * v6_452) := ⟨_, rfl⟩
        have hm := hm.2 e461_487 ee461_487
        refine w_iast (q0 := 0) (ws' := ([(ae461, .inl (Z 0, 5, .inl e461_487))] ++ (LL Z sa b u o ro nn kk kk V U S L B O))) hC hK hT rfl hj487 (by rw [ee461_487]; rfl) dL_list_487 (fun H locs hT => ?_)
        refine lv_dup hx hb dL_list_488 rfl ?_
        refine lv_iconst (v := 3) hx hb dL_list_489 (by decide) ?_
        refine lv_iconst (v := (-1)) hx hb dL_list_490 (by decide) ?_
        have hj491 := hm.1
        obtain ⟨e461_491, ee461_491⟩ : ∃ y : Nat → Int32, y = upd e461_487 3 ((-1)) := ⟨_, rfl⟩
        have hm := hm.2 e461_491 ee461_491
        refine w_iast (q0 := 0) (ws' := ([(ae461, .inl (Z 0, 5, .inl e461_491))] ++ (LL Z sa b u o ro nn kk kk V U S L B O))) hC hK hT rfl hj491 (by rw [ee461_491]; rfl) dL_list_491 (fun H locs hT => ?_)
        refine lv_dup hx hb dL_list_492 rfl ?_
        refine lv_iconst (v := 4) hx hb dL_list_493 (by decide) ?_
        refine lv_iconst (v := 0) hx hb dL_list_494 (by decide) ?_
        have hj495 := hm.1
        obtain ⟨e461_495, ee461_495⟩ : ∃ y : Nat → Int32, y = upd e461_491 4 0 := ⟨_, rfl⟩
        have hm := hm.2 e461_495 ee461_495
        refine w_iast (q0 := 0) (ws' := ([(ae461, .inl (Z 0, 5, .inl e461_495))] ++ (LL Z sa b u o ro nn kk kk V U S L B O))) hC hK hT rfl hj495 (by rw [ee461_495]; rfl) dL_list_495 (fun H locs hT => ?_)
        obtain ⟨hi496, hk496, hn496, hm⟩ := hm
        rw [hi496]
        refine w_aast (i0 := 0) (q0 := 7) (qk := 0) (ws' := ([(ae461, .inl (Z 0, 5, .inl e461_495))] ++ (sbW Z b u ++ ([(sa, .inr (6, [.int (N0 0 0), .int (N0 1 0), .ref (o 0), .ref (o 1), .ref (o 2), .ref (o 3), .ref (o 4), .ref (o 5), .int (N0 2 0)])), (o 0, .inl (Z 3, nn 0, .inr (.inr (.inr (.inr (fun j => if j < kk 0 then some (ro 0 j) else none)))))), (o 1, .inl (Z 3, nn 1, .inr (.inr (.inr (.inr (fun j => if j < kk 1 then some (ro 1 j) else none)))))), (o 2, .inl (Z 3, nn 2, .inr (.inr (.inr (.inr (fun j => if j < kk 2 then some (ro 2 j) else none)))))), (o 3, .inl (Z 3, nn 3, .inr (.inr (.inr (.inr (va_up (fun j => if j < kk 3 then some (ro 3 j) else none) (Int32.ofNat (kk 3)).toInt.toNat (some ae461))))))), (o 4, .inl (Z 3, nn 4, .inr (.inr (.inr (.inr (fun j => if j < kk 4 then some (ro 4 j) else none)))))), (o 5, .inl (Z 3, nn 5, .inr (.inr (.inr (.inr (fun j => if j < kk 5 then some (ro 5 j) else none))))))] ++ PLS Z ro kk V U S L B O)))) hC hK hT hN wn_1164 rfl rfl (inb_nI hk496 (by omega)) rfl dL_list_496 (fun H locs hT => ?_)
        rw [spf_add_3 (by omega)] at hT
        have hT := pls_add_3 (W0 := sbW Z b u ++ SPf Z sa o (rup ro 3 (kk 3) ae461) nn (updN kk 3 (kk 3 + 1)) N0) (by rw [List.append_assoc]; exact hT)
        obtain ⟨kk_496, ekk_496⟩ : ∃ y : Nat → Nat, y = updN kk 3 (kk 3 + 1) := ⟨_, rfl⟩
        obtain ⟨ro_496, ero_496⟩ : ∃ y : Nat → Nat → Nat, y = rup ro 3 (kk 3) ae461 := ⟨_, rfl⟩
        obtain ⟨L_496, eL_496⟩ : ∃ y : M2, y = up2 L (kk 3) e461_495 := ⟨_, rfl⟩
        have hm := hm kk_496 ekk_496 L_496 eL_496
        rw [List.append_assoc, ← ekk_496, ← ero_496, ← eL_496] at hT
        have hT : TS vwCl D (LL Z sa b u o ro_496 nn kk_496 kk_496 V U S L_496 B O) A s.heap _ _ := hT
        refine lv_aload_n hx hb dL_list_497 rfl (lv_at hl 3 rfl) ?_
        refine va_ldcS hx hb hC.2.2.2.1 hR.1.1.lld27 dL_list_498 ?_
        refine w_sbLit (i := 27) (by decide) hC hN hK hR.1.1 hT hI hm.1 wq_1203 (by decide) hl.1 (Nat.le_of_ble_eq_true rfl) dL_list_500 ⟨by omega, by omega⟩ (fun u_500 H locs hI hT => ?_)
        have hm := hm.2
        obtain ⟨T_500, eT_500⟩ : ∃ y : List Nat, y = T ++ lst 27 := ⟨_, rfl⟩
        rw [← eT_500] at hI
        have hm := hm T_500 eT_500
        have hT : TS vwCl D (LL Z sa b u_500 o ro_496 nn kk_496 kk_496 V U S L_496 B O) A s.heap _ _ := hT
        refine lv_iload hx hb dL_list_503 (lv_at hl 5 rfl) ?_
        rw [inb_eq hm.1]
        refine w_sbInt (x := v4.toInt.toNat) (by omega) hC hN hK hR.1.1 hT hI hm.2.1 wq_1309 (by decide) hl.1 (Nat.le_of_ble_eq_true rfl) dL_list_505 ⟨by omega, by omega⟩ (fun u_505 H locs hI hT => ?_)
        have hm := hm.2.2
        obtain ⟨T_505, eT_505⟩ : ∃ y : List Nat, y = T_500 ++ decs v4.toInt.toNat := ⟨_, rfl⟩
        rw [← eT_505] at hI
        have hm := hm T_505 eT_505
        have hT : TS vwCl D (LL Z sa b u_505 o ro_496 nn kk_496 kk_496 V U S L_496 B O) A s.heap _ _ := hT
        refine va_ldcS hx hb hC.2.2.2.1 hR.1.1.lld28 dL_list_508 ?_
        refine w_sbLit (i := 28) (by decide) hC hN hK hR.1.1 hT hI hm.1 wq_1203 (by decide) hl.1 (Nat.le_of_ble_eq_true rfl) dL_list_510 ⟨by omega, by omega⟩ (fun u_510 H locs hI hT => ?_)
        have hm := hm.2
        obtain ⟨T_510, eT_510⟩ : ∃ y : List Nat, y = T_505 ++ lst 28 := ⟨_, rfl⟩
        rw [← eT_510] at hI
        have hm := hm T_510 eT_510
        have hT : TS vwCl D (LL Z sa b u_510 o ro_496 nn kk_496 kk_496 V U S L_496 B O) A s.heap _ _ := hT
        refine lv_aload_n hx hb dL_list_513 rfl (lv_at hl 4 rfl) ?_
        refine w_get (C := RX6) (T := TX6) (N := 9) (ci := 6) (q0 := 2) (k := 5) hC hK hT.1 fi_X6 rfl rfl rfl (by decide) rfl wq_1176 dL_list_514 ?_
        refine lv_iload hx hb dL_list_517 (lv_at hl 5 rfl) ?_
        refine w_aaldP (q0 := 6) hC hK hT.1 rfl hm.1 hm.2.1 dL_list_519 ?_
        have hm := hm.2.2
        refine lv_iconst (v := 0) hx hb dL_list_520 (by decide) ?_
        refine wr_ld (jn := 0) (f := (fun X => (LL Z sa b u_510 o ro_496 nn kk_496 kk_496 V U S X B O))) (ll_3 Z sa b u_510 o ro_496 nn kk_496 kk_496 V U S B O) hC hK hT.1 hm.1 (by decide) rfl dL_list_521 ?_
        have hm := hm.2
        rw [inb_eq hm.1]
        refine w_sbInt (x := (L_496 v4.toInt.toNat 0).toInt.toNat) (by omega) hC hN hK hR.1.1 hT hI hm.2.1 wq_1309 (by decide) hl.1 (Nat.le_of_ble_eq_true rfl) dL_list_522 ⟨by omega, by omega⟩ (fun u_522 H locs hI hT => ?_)
        have hm := hm.2.2
        obtain ⟨T_522, eT_522⟩ : ∃ y : List Nat, y = T_510 ++ decs (L_496 v4.toInt.toNat 0).toInt.toNat := ⟨_, rfl⟩
        rw [← eT_522] at hI
        have hm := hm T_522 eT_522
        have hT : TS vwCl D (LL Z sa b u_522 o ro_496 nn kk_496 kk_496 V U S L_496 B O) A s.heap _ _ := hT
        refine va_ldcS hx hb hC.2.2.2.1 hR.1.1.lld29 dL_list_525 ?_
        refine w_sbLit (i := 29) (by decide) hC hN hK hR.1.1 hT hI hm.1 wq_1203 (by decide) hl.1 (Nat.le_of_ble_eq_true rfl) dL_list_527 ⟨by omega, by omega⟩ (fun u_527 H locs hI hT => ?_)
        have hm := hm.2
        obtain ⟨T_527, eT_527⟩ : ∃ y : List Nat, y = T_522 ++ lst 29 := ⟨_, rfl⟩
        rw [← eT_527] at hI
        have hm := hm T_527 eT_527
        have hT : TS vwCl D (LL Z sa b u_527 o ro_496 nn kk_496 kk_496 V U S L_496 B O) A s.heap _ _ := hT
        refine lv_iload hx hb dL_list_530 (lv_at hl 0 rfl) ?_
        rw [inb_eq hm.1]
        refine w_sbInt (x := v6_452.toInt.toNat) (by omega) hC hN hK hR.1.1 hT hI hm.2.1 wq_1309 (by decide) hl.1 (Nat.le_of_ble_eq_true rfl) dL_list_532 ⟨by omega, by omega⟩ (fun u_532 H locs hI hT => ?_)
        have hm := hm.2.2
        obtain ⟨T_532, eT_532⟩ : ∃ y : List Nat, y = T_527 ++ decs v6_452.toInt.toNat := ⟨_, rfl⟩
        rw [← eT_532] at hI
        have hm := hm T_532 eT_532
        have hT : TS vwCl D (LL Z sa b u_532 o ro_496 nn kk_496 kk_496 V U S L_496 B O) A s.heap _ _ := hT
        refine va_ldcS hx hb hC.2.2.2.1 hR.1.1.lld30 dL_list_535 ?_
        refine w_sbLit (i := 30) (by decide) hC hN hK hR.1.1 hT hI hm.1 wq_1203 (by decide) hl.1 (Nat.le_of_ble_eq_true rfl) dL_list_537 ⟨by omega, by omega⟩ (fun u_537 H locs hI hT => ?_)
        have hm := hm.2
        obtain ⟨T_537, eT_537⟩ : ∃ y : List Nat, y = T_532 ++ lst 30 := ⟨_, rfl⟩
        rw [← eT_537] at hI
        have hm := hm T_537 eT_537
        have hT : TS vwCl D (LL Z sa b u_537 o ro_496 nn kk_496 kk_496 V U S L_496 B O) A s.heap _ _ := hT
        refine lv_pop hx hb dL_list_540 rfl ?_
        obtain ⟨v4_541, ev4_541⟩ : ∃ y : Int32, y = v4 + 1 := ⟨_, rfl⟩
        have hm := hm v4_541 ev4_541
        refine lv_iinc (v := v4_541) (lv' := [(4, .int v4_541), (6, .int v6_452), (5, .int v5_439), (0, .ref scr), (1, .ref b), (2, .ref (sa))]) hx hb dL_list_541 hl (k := 5) rfl (by rw [ev4_541]; rfl) (by decide) rfl (fun ls hl => ?_)
        refine lv_goto (tgt := 411) hx hb dL_list_544 (by decide) ?_
        exact ih411 _ _ _ _ _ _ _ _ _ _ _ _ _ _ _ _ _ _ hI hm hT (lv_sub hl [3, 4, 5, 0] rfl) ⟨by omega, by omega⟩
  have L273 : ∀ (n273 : Nat), ∀ (T : List Nat) (nn : (Nat → Nat)) (kk : (Nat → Nat)) (V : M2) (U : M2) (S : M2) (L : M2) (B : M2) (O : M2) (v3 : Int32) (v4 : Int32) (u : SBS) (o : Nat → Nat) (ro : Nat → Nat → Nat) (H : Heap) (locs : List Loc) (ls : Array Slot) (cc cs : Nat), SBI u T → wl_L_list_273 xs Ln K n273 T nn kk V U S L B O v3 v4 → TS vwCl D (LL Z sa b u o ro nn kk kk V U S L B O) A s.heap H locs → lv_has ls 8 [(0, .ref scr), (1, .ref b), (2, .ref (sa)), (3, .int v3), (4, .int v4)] → cc + (n273 * 8 + 381) ≤ 503 ∧ cs + (n273 * 28002 + 1008456) ≤ 1204787 → W p l e (rk 9 503 1204787) s m args below meth c H locs cc cs Q (F0 m 273 ls []) := by
    intro n273
    induction n273 with
    | zero =>
      intro T nn kk V U S L B O v3 v4 u o ro H locs ls cc cs hI hm hT hl hcb
      exact False.elim hm
    | succ n273 ih273 =>
      intro T nn kk V U S L B O v3 v4 u o ro H locs ls cc cs hI hm hT hl hcb
      refine lv_iload hx hb dL_list_273 (lv_at hl 4 rfl) ?_
      refine lv_aload_n hx hb dL_list_275 rfl (lv_at hl 2 rfl) ?_
      refine w_get (C := RX6) (T := TX6) (N := 9) (ci := 6) (q0 := 2) (k := 4) hC hK hT.1 fi_X6 rfl rfl rfl (by decide) rfl wq_1174 dL_list_276 ?_
      refine w_alen (q0 := 5) (t0 := 3) hC hK hT.1 rfl rfl dL_list_279 ?_
      refine lv_icmp_ge (tgt := 389) hx hb dL_list_280 (by decide) (fun c_280 => ?_) (fun c_280 => ?_)
      · have hm := hm.1 c_280
        refine lv_aload_n hx hb dL_list_389 rfl (lv_at hl 2 rfl) ?_
        refine lv_iconst (v := 2) hx hb dL_list_390 (by decide) ?_
        refine lv_aload_n hx hb dL_list_391 rfl (lv_at hl 0 rfl) ?_
        refine lv_bipush (v := 6) hx hb dL_list_392 (by decide) ?_
        refine w_cell (k := 6) hC hN hK hR hT hLn (by decide) wq_901 (by decide) hl.1 (Nat.le_of_ble_eq_true rfl) ⟨by omega, by omega⟩ dL_list_394 (fun H locs hT => ?_)
        refine lv_iconst (v := 4) hx hb dL_list_397 (by decide) ?_
        refine w_below hC hN hK (by decide) wq_897 (by decide) hl.1 (Nat.le_of_ble_eq_true rfl) ⟨by omega, by omega⟩ dL_list_398 ?_
        refine lv_iadd hx hb dL_list_401 ?_
        have hz402 := hm.1
        have hm := hm.2
        obtain ⟨z402, ez402⟩ : ∃ y : Nat, y = ((2 : Int32) + (blw (celv xs Ln 6) 4)).toInt.toNat := ⟨_, rfl⟩
        have hm := hm z402 ez402
        have hz402_2 := inb_ge0 hz402
        have hz402_3 := inb_toNat hz402 ez402
        refine w_newA (N := z402) hC hK hT hN wq_1201 wn_1164 hz402_2 hz402_3.1 (by omega) (by show _ ≤ 503; omega) (by show _ ≤ 1204787; omega) dL_list_402 (fun q H hT => ?_)
        have hT := hT.front
        have h0405 := hm.1
        have hm := hm.2
        refine w_put (C := RX6) (T := TX6) (N := 9) (ci := 6) (q0 := 3) (k := 5) (ty0 := tyX6) (ty := .array (.array .int)) (ws' := ((q, .inl (Z 3, z402, .inr (.inr (.inr (.inr (fun _ => none)))))) :: (sbW Z b u ++ ([(sa, .inr (6, [.int (N0 0 0), .int (N0 1 0), .ref (o 0), .ref (o 1), .ref (o 2), .ref q, .ref (o 4), .ref (o 5), .int (N0 2 0)])), (o 0, .inl (Z 3, nn 0, .inr (.inr (.inr (.inr (fun j => if j < kk 0 then some (ro 0 j) else none)))))), (o 1, .inl (Z 3, nn 1, .inr (.inr (.inr (.inr (fun j => if j < kk 1 then some (ro 1 j) else none)))))), (o 2, .inl (Z 3, nn 2, .inr (.inr (.inr (.inr (fun j => if j < kk 2 then some (ro 2 j) else none)))))), (o 3, .inl (Z 3, nn 3, .inr (.inr (.inr (.inr (fun j => if j < kk 3 then some (ro 3 j) else none)))))), (o 4, .inl (Z 3, nn 4, .inr (.inr (.inr (.inr (fun j => if j < kk 4 then some (ro 4 j) else none)))))), (o 5, .inl (Z 3, nn 5, .inr (.inr (.inr (.inr (fun j => if j < kk 5 then some (ro 5 j) else none))))))] ++ PLS Z ro kk V U S L B O)))) hC hK hT fi_X6 tyX6_ok nmX6 rfl rfl (by decide) rfl rfl rfl rfl rfl (Nat.le_of_ble_eq_true rfl) rfl wq_1176 dL_list_405 (fun H locs hT => ?_)
        have hT := ll_new_3 h0405 hT
        obtain ⟨nn_405, enn_405⟩ : ∃ y : Nat → Nat, y = updN nn 3 z402 := ⟨_, rfl⟩
        have hm := hm nn_405 enn_405
        obtain ⟨o_405, eo_405⟩ : ∃ y : Nat → Nat, y = updN o 3 q := ⟨_, rfl⟩
        rw [← enn_405, ← eo_405] at hT
        refine lv_iconst (v := 0) hx hb dL_list_408 (by decide) ?_
        refine lv_istore (lv' := [(4, .int 0), (0, .ref scr), (1, .ref b), (2, .ref (sa)), (3, .int v3)]) hx hb dL_list_409 hl (by decide) rfl (fun ls hl => ?_)
        exact L411 _ _ _ _ _ _ _ _ _ _ _ _ _ _ _ _ _ _ _ hI hm hT (lv_sub hl [1, 2, 3, 0] rfl) ⟨by omega, by omega⟩
      · have hm := hm.2 c_280
        refine lv_aload_n hx hb dL_list_283 rfl (lv_at hl 2 rfl) ?_
        refine w_get (C := RX6) (T := TX6) (N := 9) (ci := 6) (q0 := 2) (k := 4) hC hK hT.1 fi_X6 rfl rfl rfl (by decide) rfl wq_1174 dL_list_284 ?_
        refine lv_iload hx hb dL_list_287 (lv_at hl 4 rfl) ?_
        refine lv_iconst (v := 2) hx hb dL_list_289 (by decide) ?_
        refine w_newI (N := 2) hC hK hT wq_240 (by decide) (by decide) (by decide) (by show _ ≤ 503; omega) (by show _ ≤ 1204787; omega) dL_list_290 (fun ae290 H hT => ?_)
        have hT : TS vwCl D ([(ae290, .inl (Z 0, 2, .inl ((fun _ => 0))))] ++ (LL Z sa b u o ro nn kk kk V U S L B O)) A s.heap H _ := hT.front
        refine lv_dup hx hb dL_list_292 rfl ?_
        refine lv_iconst (v := 0) hx hb dL_list_293 (by decide) ?_
        refine lv_aload_n hx hb dL_list_294 rfl (lv_at hl 0 rfl) ?_
        refine lv_iconst (v := 4) hx hb dL_list_295 (by decide) ?_
        refine w_cell (k := 4) hC hN hK hR hT hLn (by decide) wq_901 (by decide) hl.1 (Nat.le_of_ble_eq_true rfl) ⟨by omega, by omega⟩ dL_list_296 (fun H locs hT => ?_)
        refine lv_iconst (v := 3) hx hb dL_list_299 (by decide) ?_
        refine lv_iload hx hb dL_list_300 (lv_at hl 4 rfl) ?_
        refine lv_imul hx hb dL_list_302 ?_
        refine lv_iconst (v := 2) hx hb dL_list_303 (by decide) ?_
        refine lv_iadd hx hb dL_list_304 ?_
        refine lv_ishr hx hb dL_list_305 ?_
        refine lv_iload_n hx hb dL_list_306 rfl (lv_at hl 3 rfl) ?_
        refine w_below hC hN hK hm.1 wq_897 (by decide) hl.1 (Nat.le_of_ble_eq_true rfl) ⟨by omega, by omega⟩ dL_list_307 ?_
        have hm := hm.2
        have hj310 := hm.1
        obtain ⟨e290_310, ee290_310⟩ : ∃ y : Nat → Int32, y = upd ((fun _ => 0)) 0 (blw ((celv xs Ln 4) >>> ((((3 : Int32) * v4) + (2 : Int32)) &&& 31)) v3) := ⟨_, rfl⟩
        have hm := hm.2 e290_310 ee290_310
        refine w_iast (q0 := 0) (ws' := ([(ae290, .inl (Z 0, 2, .inl e290_310))] ++ (LL Z sa b u o ro nn kk kk V U S L B O))) hC hK hT rfl hj310 (by rw [ee290_310]; rfl) dL_list_310 (fun H locs hT => ?_)
        refine lv_dup hx hb dL_list_311 rfl ?_
        refine lv_iconst (v := 1) hx hb dL_list_312 (by decide) ?_
        refine lv_iconst (v := 1) hx hb dL_list_313 (by decide) ?_
        refine lv_aload_n hx hb dL_list_314 rfl (lv_at hl 0 rfl) ?_
        refine lv_iconst (v := 5) hx hb dL_list_315 (by decide) ?_
        refine w_cell (k := 5) hC hN hK hR hT hLn (by decide) wq_901 (by decide) hl.1 (Nat.le_of_ble_eq_true rfl) ⟨by omega, by omega⟩ dL_list_316 (fun H locs hT => ?_)
        refine lv_iconst (v := 4) hx hb dL_list_319 (by decide) ?_
        refine lv_iload hx hb dL_list_320 (lv_at hl 4 rfl) ?_
        refine lv_imul hx hb dL_list_322 ?_
        refine lv_ishr hx hb dL_list_323 ?_
        refine lv_bipush (v := 30) hx hb dL_list_324 (by decide) ?_
        refine w_below hC hN hK (by decide) wq_897 (by decide) hl.1 (Nat.le_of_ble_eq_true rfl) ⟨by omega, by omega⟩ dL_list_326 ?_
        refine lv_iadd hx hb dL_list_329 ?_
        have hj330 := hm.1
        obtain ⟨e290_330, ee290_330⟩ : ∃ y : Nat → Int32, y = upd e290_310 1 ((1 : Int32) + (blw ((celv xs Ln 5) >>> (((4 : Int32) * v4) &&& 31)) 30)) := ⟨_, rfl⟩
        have hm := hm.2 e290_330 ee290_330
        refine w_iast (q0 := 0) (ws' := ([(ae290, .inl (Z 0, 2, .inl e290_330))] ++ (LL Z sa b u o ro nn kk kk V U S L B O))) hC hK hT rfl hj330 (by rw [ee290_330]; rfl) dL_list_330 (fun H locs hT => ?_)
        obtain ⟨hi331, hk331, hn331, hm⟩ := hm
        rw [hi331]
        refine w_aast (i0 := 0) (q0 := 6) (qk := 0) (ws' := ([(ae290, .inl (Z 0, 2, .inl e290_330))] ++ (sbW Z b u ++ ([(sa, .inr (6, [.int (N0 0 0), .int (N0 1 0), .ref (o 0), .ref (o 1), .ref (o 2), .ref (o 3), .ref (o 4), .ref (o 5), .int (N0 2 0)])), (o 0, .inl (Z 3, nn 0, .inr (.inr (.inr (.inr (fun j => if j < kk 0 then some (ro 0 j) else none)))))), (o 1, .inl (Z 3, nn 1, .inr (.inr (.inr (.inr (fun j => if j < kk 1 then some (ro 1 j) else none)))))), (o 2, .inl (Z 3, nn 2, .inr (.inr (.inr (.inr (va_up (fun j => if j < kk 2 then some (ro 2 j) else none) (Int32.ofNat (kk 2)).toInt.toNat (some ae290))))))), (o 3, .inl (Z 3, nn 3, .inr (.inr (.inr (.inr (fun j => if j < kk 3 then some (ro 3 j) else none)))))), (o 4, .inl (Z 3, nn 4, .inr (.inr (.inr (.inr (fun j => if j < kk 4 then some (ro 4 j) else none)))))), (o 5, .inl (Z 3, nn 5, .inr (.inr (.inr (.inr (fun j => if j < kk 5 then some (ro 5 j) else none))))))] ++ PLS Z ro kk V U S L B O)))) hC hK hT hN wn_1164 rfl rfl (inb_nI hk331 (by omega)) rfl dL_list_331 (fun H locs hT => ?_)
        rw [spf_add_2 (by omega)] at hT
        have hT := pls_add_2 (W0 := sbW Z b u ++ SPf Z sa o (rup ro 2 (kk 2) ae290) nn (updN kk 2 (kk 2 + 1)) N0) (by rw [List.append_assoc]; exact hT)
        obtain ⟨kk_331, ekk_331⟩ : ∃ y : Nat → Nat, y = updN kk 2 (kk 2 + 1) := ⟨_, rfl⟩
        obtain ⟨ro_331, ero_331⟩ : ∃ y : Nat → Nat → Nat, y = rup ro 2 (kk 2) ae290 := ⟨_, rfl⟩
        obtain ⟨S_331, eS_331⟩ : ∃ y : M2, y = up2 S (kk 2) e290_330 := ⟨_, rfl⟩
        have hm := hm kk_331 ekk_331 S_331 eS_331
        rw [List.append_assoc, ← ekk_331, ← ero_331, ← eS_331] at hT
        have hT : TS vwCl D (LL Z sa b u o ro_331 nn kk_331 kk_331 V U S_331 L B O) A s.heap _ _ := hT
        refine lv_aload_n hx hb dL_list_332 rfl (lv_at hl 1 rfl) ?_
        refine va_ldcS hx hb hC.2.2.2.1 hR.1.1.lld24 dL_list_333 ?_
        refine w_sbLit (i := 24) (by decide) hC hN hK hR.1.1 hT hI hm.1 wq_1203 (by decide) hl.1 (Nat.le_of_ble_eq_true rfl) dL_list_335 ⟨by omega, by omega⟩ (fun u_335 H locs hI hT => ?_)
        have hm := hm.2
        obtain ⟨T_335, eT_335⟩ : ∃ y : List Nat, y = T ++ lst 24 := ⟨_, rfl⟩
        rw [← eT_335] at hI
        have hm := hm T_335 eT_335
        have hT : TS vwCl D (LL Z sa b u_335 o ro_331 nn kk_331 kk_331 V U S_331 L B O) A s.heap _ _ := hT
        refine lv_iload hx hb dL_list_338 (lv_at hl 4 rfl) ?_
        rw [inb_eq hm.1]
        refine w_sbInt (x := v4.toInt.toNat) (by omega) hC hN hK hR.1.1 hT hI hm.2.1 wq_1309 (by decide) hl.1 (Nat.le_of_ble_eq_true rfl) dL_list_340 ⟨by omega, by omega⟩ (fun u_340 H locs hI hT => ?_)
        have hm := hm.2.2
        obtain ⟨T_340, eT_340⟩ : ∃ y : List Nat, y = T_335 ++ decs v4.toInt.toNat := ⟨_, rfl⟩
        rw [← eT_340] at hI
        have hm := hm T_340 eT_340
        have hT : TS vwCl D (LL Z sa b u_340 o ro_331 nn kk_331 kk_331 V U S_331 L B O) A s.heap _ _ := hT
        refine va_ldcS hx hb hC.2.2.2.1 hR.1.1.lld25 dL_list_343 ?_
        refine w_sbLit (i := 25) (by decide) hC hN hK hR.1.1 hT hI hm.1 wq_1203 (by decide) hl.1 (Nat.le_of_ble_eq_true rfl) dL_list_345 ⟨by omega, by omega⟩ (fun u_345 H locs hI hT => ?_)
        have hm := hm.2
        obtain ⟨T_345, eT_345⟩ : ∃ y : List Nat, y = T_340 ++ lst 25 := ⟨_, rfl⟩
        rw [← eT_345] at hI
        have hm := hm T_345 eT_345
        have hT : TS vwCl D (LL Z sa b u_345 o ro_331 nn kk_331 kk_331 V U S_331 L B O) A s.heap _ _ := hT
        refine lv_aload_n hx hb dL_list_348 rfl (lv_at hl 2 rfl) ?_
        refine w_get (C := RX6) (T := TX6) (N := 9) (ci := 6) (q0 := 2) (k := 4) hC hK hT.1 fi_X6 rfl rfl rfl (by decide) rfl wq_1174 dL_list_349 ?_
        refine lv_iload hx hb dL_list_352 (lv_at hl 4 rfl) ?_
        refine w_aaldP (q0 := 5) hC hK hT.1 rfl hm.1 hm.2.1 dL_list_354 ?_
        have hm := hm.2.2
        refine lv_iconst (v := 0) hx hb dL_list_355 (by decide) ?_
        refine wr_ld (jn := 0) (f := (fun X => (LL Z sa b u_345 o ro_331 nn kk_331 kk_331 V U X L B O))) (ll_2 Z sa b u_345 o ro_331 nn kk_331 kk_331 V U L B O) hC hK hT.1 hm.1 (by decide) rfl dL_list_356 ?_
        have hm := hm.2
        rw [inb_eq hm.1]
        refine w_sbInt (x := (S_331 v4.toInt.toNat 0).toInt.toNat) (by omega) hC hN hK hR.1.1 hT hI hm.2.1 wq_1309 (by decide) hl.1 (Nat.le_of_ble_eq_true rfl) dL_list_357 ⟨by omega, by omega⟩ (fun u_357 H locs hI hT => ?_)
        have hm := hm.2.2
        obtain ⟨T_357, eT_357⟩ : ∃ y : List Nat, y = T_345 ++ decs (S_331 v4.toInt.toNat 0).toInt.toNat := ⟨_, rfl⟩
        rw [← eT_357] at hI
        have hm := hm T_357 eT_357
        have hT : TS vwCl D (LL Z sa b u_357 o ro_331 nn kk_331 kk_331 V U S_331 L B O) A s.heap _ _ := hT
        refine va_ldcS hx hb hC.2.2.2.1 hR.1.1.lld26 dL_list_360 ?_
        refine w_sbLit (i := 26) (by decide) hC hN hK hR.1.1 hT hI hm.1 wq_1203 (by decide) hl.1 (Nat.le_of_ble_eq_true rfl) dL_list_362 ⟨by omega, by omega⟩ (fun u_362 H locs hI hT => ?_)
        have hm := hm.2
        obtain ⟨T_362, eT_362⟩ : ∃ y : List Nat, y = T_357 ++ lst 26 := ⟨_, rfl⟩
        rw [← eT_362] at hI
        have hm := hm T_362 eT_362
        have hT : TS vwCl D (LL Z sa b u_362 o ro_331 nn kk_331 kk_331 V U S_331 L B O) A s.heap _ _ := hT
        refine lv_aload_n hx hb dL_list_365 rfl (lv_at hl 2 rfl) ?_
        refine w_get (C := RX6) (T := TX6) (N := 9) (ci := 6) (q0 := 2) (k := 4) hC hK hT.1 fi_X6 rfl rfl rfl (by decide) rfl wq_1174 dL_list_366 ?_
        refine lv_iload hx hb dL_list_369 (lv_at hl 4 rfl) ?_
        refine w_aaldP (q0 := 5) hC hK hT.1 rfl hm.1 hm.2.1 dL_list_371 ?_
        have hm := hm.2.2
        refine lv_iconst (v := 1) hx hb dL_list_372 (by decide) ?_
        refine wr_ld (jn := 1) (f := (fun X => (LL Z sa b u_362 o ro_331 nn kk_331 kk_331 V U X L B O))) (ll_2 Z sa b u_362 o ro_331 nn kk_331 kk_331 V U L B O) hC hK hT.1 hm.1 (by decide) rfl dL_list_373 ?_
        have hm := hm.2
        rw [inb_eq hm.1]
        refine w_sbInt (x := (S_331 v4.toInt.toNat 1).toInt.toNat) (by omega) hC hN hK hR.1.1 hT hI hm.2.1 wq_1309 (by decide) hl.1 (Nat.le_of_ble_eq_true rfl) dL_list_374 ⟨by omega, by omega⟩ (fun u_374 H locs hI hT => ?_)
        have hm := hm.2.2
        obtain ⟨T_374, eT_374⟩ : ∃ y : List Nat, y = T_362 ++ decs (S_331 v4.toInt.toNat 1).toInt.toNat := ⟨_, rfl⟩
        rw [← eT_374] at hI
        have hm := hm T_374 eT_374
        have hT : TS vwCl D (LL Z sa b u_374 o ro_331 nn kk_331 kk_331 V U S_331 L B O) A s.heap _ _ := hT
        refine va_ldcS hx hb hC.2.2.2.1 hR.1.1.lld23 dL_list_377 ?_
        refine w_sbLit (i := 23) (by decide) hC hN hK hR.1.1 hT hI hm.1 wq_1203 (by decide) hl.1 (Nat.le_of_ble_eq_true rfl) dL_list_379 ⟨by omega, by omega⟩ (fun u_379 H locs hI hT => ?_)
        have hm := hm.2
        obtain ⟨T_379, eT_379⟩ : ∃ y : List Nat, y = T_374 ++ lst 23 := ⟨_, rfl⟩
        rw [← eT_379] at hI
        have hm := hm T_379 eT_379
        have hT : TS vwCl D (LL Z sa b u_379 o ro_331 nn kk_331 kk_331 V U S_331 L B O) A s.heap _ _ := hT
        refine lv_pop hx hb dL_list_382 rfl ?_
        obtain ⟨v4_383, ev4_383⟩ : ∃ y : Int32, y = v4 + 1 := ⟨_, rfl⟩
        have hm := hm v4_383 ev4_383
        refine lv_iinc (v := v4_383) (lv' := [(4, .int v4_383), (0, .ref scr), (1, .ref b), (2, .ref (sa)), (3, .int v3)]) hx hb dL_list_383 hl (k := 4) rfl (by rw [ev4_383]; rfl) (by decide) rfl (fun ls hl => ?_)
        refine lv_goto (tgt := 273) hx hb dL_list_386 (by decide) ?_
        exact ih273 _ _ _ _ _ _ _ _ _ _ _ _ _ _ _ _ _ _ _ hI hm hT (lv_sub hl [1, 2, 3, 4, 0] rfl) ⟨by omega, by omega⟩
  have L185 : ∀ (n185 : Nat), ∀ (T : List Nat) (nn : (Nat → Nat)) (kk : (Nat → Nat)) (V : M2) (U : M2) (S : M2) (L : M2) (B : M2) (O : M2) (v3 : Int32) (v4 : Int32) (u : SBS) (o : Nat → Nat) (ro : Nat → Nat → Nat) (H : Heap) (locs : List Loc) (ls : Array Slot) (cc cs : Nat), SBI u T → wl_L_list_185 xs Ln K n185 T nn kk V U S L B O v3 v4 → TS vwCl D (LL Z sa b u o ro nn kk kk V U S L B O) A s.heap H locs → lv_has ls 8 [(0, .ref scr), (1, .ref b), (2, .ref (sa)), (3, .int v3), (4, .int v4)] → cc + (n185 * 14 + 406) ≤ 503 ∧ cs + (n185 * 28 + 1092526) ≤ 1204787 → W p l e (rk 9 503 1204787) s m args below meth c H locs cc cs Q (F0 m 185 ls []) := by
    intro n185
    induction n185 with
    | zero =>
      intro T nn kk V U S L B O v3 v4 u o ro H locs ls cc cs hI hm hT hl hcb
      exact False.elim hm
    | succ n185 ih185 =>
      have L198 : ∀ (n198 : Nat), ∀ (T : List Nat) (nn : (Nat → Nat)) (kk : (Nat → Nat)) (V : M2) (U : M2) (S : M2) (L : M2) (B : M2) (O : M2) (v3 : Int32) (v4 : Int32) (v5 : Int32) (u : SBS) (o : Nat → Nat) (ro : Nat → Nat → Nat) (H : Heap) (locs : List Loc) (ls : Array Slot) (cc cs : Nat), SBI u T → wl_L_list_198 xs Ln (wl_L_list_185 xs Ln K n185) K n198 T nn kk V U S L B O v3 v4 v5 → TS vwCl D (LL Z sa b u o ro nn kk kk V U S L B O) A s.heap H locs → lv_has ls 8 [(0, .ref scr), (1, .ref b), (2, .ref (sa)), (3, .int v3), (4, .int v4), (5, .int v5)] → cc + (n198 * 1 + 0 + n185 * 14 + 406) ≤ 503 ∧ cs + (n198 * 2 + 0 + n185 * 28 + 1092526) ≤ 1204787 → W p l e (rk 9 503 1204787) s m args below meth c H locs cc cs Q (F0 m 198 ls []) := by
        intro n198
        induction n198 with
        | zero =>
          intro T nn kk V U S L B O v3 v4 v5 u o ro H locs ls cc cs hI hm hT hl hcb
          exact False.elim hm
        | succ n198 ih198 =>
          intro T nn kk V U S L B O v3 v4 v5 u o ro H locs ls cc cs hI hm hT hl hcb
          refine lv_iload hx hb dL_list_198 (lv_at hl 5 rfl) ?_
          refine lv_aload_n hx hb dL_list_200 rfl (lv_at hl 2 rfl) ?_
          refine w_get (C := RX6) (T := TX6) (N := 9) (ci := 6) (q0 := 2) (k := 2) hC hK hT.1 fi_X6 rfl rfl rfl (by decide) rfl wq_1170 dL_list_201 ?_
          refine lv_iload hx hb dL_list_204 (lv_at hl 4 rfl) ?_
          refine w_aaldP (q0 := 3) hC hK hT.1 rfl hm.1 hm.2.1 dL_list_206 ?_
          have hm := hm.2.2
          refine lv_iconst (v := 0) hx hb dL_list_207 (by decide) ?_
          refine wr_ld (jn := 0) (f := (fun X => (LL Z sa b u o ro nn kk kk X U S L B O))) (ll_0 Z sa b u o ro nn kk kk U S L B O) hC hK hT.1 hm.1 (by decide) rfl dL_list_208 ?_
          have hm := hm.2
          refine lv_icmp_ge (tgt := 248) hx hb dL_list_209 (by decide) (fun c_209 => ?_) (fun c_209 => ?_)
          · have hm := hm.1 c_209
            obtain ⟨v4_248, ev4_248⟩ : ∃ y : Int32, y = v4 + 1 := ⟨_, rfl⟩
            have hm := hm v4_248 ev4_248
            refine lv_iinc (v := v4_248) (lv' := [(4, .int v4_248), (0, .ref scr), (1, .ref b), (2, .ref (sa)), (3, .int v3), (5, .int v5)]) hx hb dL_list_248 hl (k := 4) rfl (by rw [ev4_248]; rfl) (by decide) rfl (fun ls hl => ?_)
            refine lv_goto (tgt := 185) hx hb dL_list_251 (by decide) ?_
            exact ih185 _ _ _ _ _ _ _ _ _ _ _ _ _ _ _ _ _ _ _ hI hm hT (lv_sub hl [1, 2, 3, 4, 0] rfl) ⟨by omega, by omega⟩
          · have hm := hm.2 c_209
            refine lv_aload_n hx hb dL_list_212 rfl (lv_at hl 2 rfl) ?_
            refine w_get (C := RX6) (T := TX6) (N := 9) (ci := 6) (q0 := 2) (k := 3) hC hK hT.1 fi_X6 rfl rfl rfl (by decide) rfl wq_1172 dL_list_213 ?_
            refine lv_aload_n hx hb dL_list_216 rfl (lv_at hl 2 rfl) ?_
            refine w_get (C := RX6) (T := TX6) (N := 9) (ci := 6) (q0 := 2) (k := 2) hC hK hT.1 fi_X6 rfl rfl rfl (by decide) rfl wq_1170 dL_list_217 ?_
            refine lv_iload hx hb dL_list_220 (lv_at hl 4 rfl) ?_
            refine w_aaldP (q0 := 3) hC hK hT.1 rfl hm.1 hm.2.1 dL_list_222 ?_
            have hm := hm.2.2
            refine lv_iconst (v := 2) hx hb dL_list_223 (by decide) ?_
            refine wr_ld (jn := 2) (f := (fun X => (LL Z sa b u o ro nn kk kk X U S L B O))) (ll_0 Z sa b u o ro nn kk kk U S L B O) hC hK hT.1 hm.1 (by decide) rfl dL_list_224 ?_
            have hm := hm.2
            refine lv_iload hx hb dL_list_225 (lv_at hl 5 rfl) ?_
            refine lv_iadd hx hb dL_list_227 ?_
            refine lv_iconst (v := 2) hx hb dL_list_228 (by decide) ?_
            refine w_newI (N := 2) hC hK hT wq_240 (by decide) (by decide) (by decide) (by show _ ≤ 503; omega) (by show _ ≤ 1204787; omega) dL_list_229 (fun ae229 H hT => ?_)
            have hT : TS vwCl D ([(ae229, .inl (Z 0, 2, .inl ((fun _ => 0))))] ++ (LL Z sa b u o ro nn kk kk V U S L B O)) A s.heap H _ := hT.front
            refine lv_dup hx hb dL_list_231 rfl ?_
            refine lv_iconst (v := 0) hx hb dL_list_232 (by decide) ?_
            refine lv_iload hx hb dL_list_233 (lv_at hl 4 rfl) ?_
            have hj235 := hm.1
            obtain ⟨e229_235, ee229_235⟩ : ∃ y : Nat → Int32, y = upd ((fun _ => 0)) 0 v4 := ⟨_, rfl⟩
            have hm := hm.2 e229_235 ee229_235
            refine w_iast (q0 := 0) (ws' := ([(ae229, .inl (Z 0, 2, .inl e229_235))] ++ (LL Z sa b u o ro nn kk kk V U S L B O))) hC hK hT rfl hj235 (by rw [ee229_235]; rfl) dL_list_235 (fun H locs hT => ?_)
            refine lv_dup hx hb dL_list_236 rfl ?_
            refine lv_iconst (v := 1) hx hb dL_list_237 (by decide) ?_
            refine lv_bipush (v := 100) hx hb dL_list_238 (by decide) ?_
            have hj240 := hm.1
            obtain ⟨e229_240, ee229_240⟩ : ∃ y : Nat → Int32, y = upd e229_235 1 100 := ⟨_, rfl⟩
            have hm := hm.2 e229_240 ee229_240
            refine w_iast (q0 := 0) (ws' := ([(ae229, .inl (Z 0, 2, .inl e229_240))] ++ (LL Z sa b u o ro nn kk kk V U S L B O))) hC hK hT rfl hj240 (by rw [ee229_240]; rfl) dL_list_240 (fun H locs hT => ?_)
            obtain ⟨hi241, hk241, hn241, hm⟩ := hm
            rw [hi241]
            refine w_aast (i0 := 0) (q0 := 5) (qk := 0) (ws' := ([(ae229, .inl (Z 0, 2, .inl e229_240))] ++ (sbW Z b u ++ ([(sa, .inr (6, [.int (N0 0 0), .int (N0 1 0), .ref (o 0), .ref (o 1), .ref (o 2), .ref (o 3), .ref (o 4), .ref (o 5), .int (N0 2 0)])), (o 0, .inl (Z 3, nn 0, .inr (.inr (.inr (.inr (fun j => if j < kk 0 then some (ro 0 j) else none)))))), (o 1, .inl (Z 3, nn 1, .inr (.inr (.inr (.inr (va_up (fun j => if j < kk 1 then some (ro 1 j) else none) (Int32.ofNat (kk 1)).toInt.toNat (some ae229))))))), (o 2, .inl (Z 3, nn 2, .inr (.inr (.inr (.inr (fun j => if j < kk 2 then some (ro 2 j) else none)))))), (o 3, .inl (Z 3, nn 3, .inr (.inr (.inr (.inr (fun j => if j < kk 3 then some (ro 3 j) else none)))))), (o 4, .inl (Z 3, nn 4, .inr (.inr (.inr (.inr (fun j => if j < kk 4 then some (ro 4 j) else none)))))), (o 5, .inl (Z 3, nn 5, .inr (.inr (.inr (.inr (fun j => if j < kk 5 then some (ro 5 j) else none))))))] ++ PLS Z ro kk V U S L B O)))) hC hK hT hN wn_1164 rfl rfl (inb_nI hk241 (by omega)) rfl dL_list_241 (fun H locs hT => ?_)
            rw [spf_add_1 (by omega)] at hT
            have hT := pls_add_1 (W0 := sbW Z b u ++ SPf Z sa o (rup ro 1 (kk 1) ae229) nn (updN kk 1 (kk 1 + 1)) N0) (by rw [List.append_assoc]; exact hT)
            obtain ⟨kk_241, ekk_241⟩ : ∃ y : Nat → Nat, y = updN kk 1 (kk 1 + 1) := ⟨_, rfl⟩
            obtain ⟨ro_241, ero_241⟩ : ∃ y : Nat → Nat → Nat, y = rup ro 1 (kk 1) ae229 := ⟨_, rfl⟩
            obtain ⟨U_241, eU_241⟩ : ∃ y : M2, y = up2 U (kk 1) e229_240 := ⟨_, rfl⟩
            have hm := hm kk_241 ekk_241 U_241 eU_241
            rw [List.append_assoc, ← ekk_241, ← ero_241, ← eU_241] at hT
            have hT : TS vwCl D (LL Z sa b u o ro_241 nn kk_241 kk_241 V U_241 S L B O) A s.heap _ _ := hT
            obtain ⟨v5_242, ev5_242⟩ : ∃ y : Int32, y = v5 + 1 := ⟨_, rfl⟩
            have hm := hm v5_242 ev5_242
            refine lv_iinc (v := v5_242) (lv' := [(5, .int v5_242), (0, .ref scr), (1, .ref b), (2, .ref (sa)), (3, .int v3), (4, .int v4)]) hx hb dL_list_242 hl (k := 5) rfl (by rw [ev5_242]; rfl) (by decide) rfl (fun ls hl => ?_)
            refine lv_goto (tgt := 198) hx hb dL_list_245 (by decide) ?_
            exact ih198 _ _ _ _ _ _ _ _ _ _ _ _ _ _ _ _ _ _ _ _ hI hm hT (lv_sub hl [1, 2, 3, 4, 5, 0] rfl) ⟨by omega, by omega⟩
      intro T nn kk V U S L B O v3 v4 u o ro H locs ls cc cs hI hm hT hl hcb
      refine lv_iload hx hb dL_list_185 (lv_at hl 4 rfl) ?_
      refine lv_aload_n hx hb dL_list_187 rfl (lv_at hl 2 rfl) ?_
      refine w_get (C := RX6) (T := TX6) (N := 9) (ci := 6) (q0 := 2) (k := 2) hC hK hT.1 fi_X6 rfl rfl rfl (by decide) rfl wq_1170 dL_list_188 ?_
      refine w_alen (q0 := 3) (t0 := 3) hC hK hT.1 rfl rfl dL_list_191 ?_
      refine lv_icmp_ge (tgt := 254) hx hb dL_list_192 (by decide) (fun c_192 => ?_) (fun c_192 => ?_)
      · have hm := hm.1 c_192
        refine lv_aload_n hx hb dL_list_254 rfl (lv_at hl 2 rfl) ?_
        refine lv_aload_n hx hb dL_list_255 rfl (lv_at hl 0 rfl) ?_
        refine lv_iconst (v := 4) hx hb dL_list_256 (by decide) ?_
        refine w_cell (k := 4) hC hN hK hR hT hLn (by decide) wq_901 (by decide) hl.1 (Nat.le_of_ble_eq_true rfl) ⟨by omega, by omega⟩ dL_list_257 (fun H locs hT => ?_)
        refine lv_iconst (v := 3) hx hb dL_list_260 (by decide) ?_
        refine w_below hC hN hK (by decide) wq_897 (by decide) hl.1 (Nat.le_of_ble_eq_true rfl) ⟨by omega, by omega⟩ dL_list_261 ?_
        have hz264 := hm.1
        have hm := hm.2
        obtain ⟨z264, ez264⟩ : ∃ y : Nat, y = (blw (celv xs Ln 4) 3).toInt.toNat := ⟨_, rfl⟩
        have hm := hm z264 ez264
        have hz264_2 := inb_ge0 hz264
        have hz264_3 := inb_toNat hz264 ez264
        refine w_newA (N := z264) hC hK hT hN wq_1201 wn_1164 hz264_2 hz264_3.1 (by omega) (by show _ ≤ 503; omega) (by show _ ≤ 1204787; omega) dL_list_264 (fun q H hT => ?_)
        have hT := hT.front
        have h0267 := hm.1
        have hm := hm.2
        refine w_put (C := RX6) (T := TX6) (N := 9) (ci := 6) (q0 := 3) (k := 4) (ty0 := tyX6) (ty := .array (.array .int)) (ws' := ((q, .inl (Z 3, z264, .inr (.inr (.inr (.inr (fun _ => none)))))) :: (sbW Z b u ++ ([(sa, .inr (6, [.int (N0 0 0), .int (N0 1 0), .ref (o 0), .ref (o 1), .ref q, .ref (o 3), .ref (o 4), .ref (o 5), .int (N0 2 0)])), (o 0, .inl (Z 3, nn 0, .inr (.inr (.inr (.inr (fun j => if j < kk 0 then some (ro 0 j) else none)))))), (o 1, .inl (Z 3, nn 1, .inr (.inr (.inr (.inr (fun j => if j < kk 1 then some (ro 1 j) else none)))))), (o 2, .inl (Z 3, nn 2, .inr (.inr (.inr (.inr (fun j => if j < kk 2 then some (ro 2 j) else none)))))), (o 3, .inl (Z 3, nn 3, .inr (.inr (.inr (.inr (fun j => if j < kk 3 then some (ro 3 j) else none)))))), (o 4, .inl (Z 3, nn 4, .inr (.inr (.inr (.inr (fun j => if j < kk 4 then some (ro 4 j) else none)))))), (o 5, .inl (Z 3, nn 5, .inr (.inr (.inr (.inr (fun j => if j < kk 5 then some (ro 5 j) else none))))))] ++ PLS Z ro kk V U S L B O)))) hC hK hT fi_X6 tyX6_ok nmX6 rfl rfl (by decide) rfl rfl rfl rfl rfl (Nat.le_of_ble_eq_true rfl) rfl wq_1174 dL_list_267 (fun H locs hT => ?_)
        have hT := ll_new_2 h0267 hT
        obtain ⟨nn_267, enn_267⟩ : ∃ y : Nat → Nat, y = updN nn 2 z264 := ⟨_, rfl⟩
        have hm := hm nn_267 enn_267
        obtain ⟨o_267, eo_267⟩ : ∃ y : Nat → Nat, y = updN o 2 q := ⟨_, rfl⟩
        rw [← enn_267, ← eo_267] at hT
        refine lv_iconst (v := 0) hx hb dL_list_270 (by decide) ?_
        refine lv_istore (lv' := [(4, .int 0), (0, .ref scr), (1, .ref b), (2, .ref (sa)), (3, .int v3)]) hx hb dL_list_271 hl (by decide) rfl (fun ls hl => ?_)
        exact L273 _ _ _ _ _ _ _ _ _ _ _ _ _ _ _ _ _ _ _ _ hI hm hT (lv_sub hl [1, 2, 3, 4, 0] rfl) ⟨by omega, by omega⟩
      · have hm := hm.2 c_192
        refine lv_iconst (v := 0) hx hb dL_list_195 (by decide) ?_
        refine lv_istore (lv' := [(5, .int 0), (0, .ref scr), (1, .ref b), (2, .ref (sa)), (3, .int v3), (4, .int v4)]) hx hb dL_list_196 hl (by decide) rfl (fun ls hl => ?_)
        exact L198 _ _ _ _ _ _ _ _ _ _ _ _ _ _ _ _ _ _ _ _ _ hI hm hT (lv_sub hl [1, 2, 3, 4, 5, 0] rfl) ⟨by omega, by omega⟩
  have L31 : ∀ (n31 : Nat), ∀ (T : List Nat) (nn : (Nat → Nat)) (kk : (Nat → Nat)) (V : M2) (U : M2) (S : M2) (L : M2) (B : M2) (O : M2) (v3 : Int32) (v4 : Int32) (u : SBS) (o : Nat → Nat) (ro : Nat → Nat → Nat) (H : Heap) (locs : List Loc) (ls : Array Slot) (cc cs : Nat), SBI u T → wl_L_list_31 xs Ln K n31 T nn kk V U S L B O v3 v4 → TS vwCl D (LL Z sa b u o ro nn kk kk V U S L B O) A s.heap H locs → lv_has ls 8 [(0, .ref scr), (1, .ref b), (2, .ref (sa)), (3, .int v3), (4, .int v4)] → cc + (n31 * 8 + 463) ≤ 503 ∧ cs + (n31 * 28003 + 1092702) ≤ 1204787 → W p l e (rk 9 503 1204787) s m args below meth c H locs cc cs Q (F0 m 31 ls []) := by
    intro n31
    induction n31 with
    | zero =>
      intro T nn kk V U S L B O v3 v4 u o ro H locs ls cc cs hI hm hT hl hcb
      exact False.elim hm
    | succ n31 ih31 =>
      have L83 : ∀ (T : List Nat) (nn : (Nat → Nat)) (kk : (Nat → Nat)) (V : M2) (U : M2) (S : M2) (L : M2) (B : M2) (O : M2) (e58 : (Nat → Int32)) (v3 : Int32) (v4 : Int32) (v5 : Int32) (q0 : Int32) (q1 : Int32) (q2 : Int32) (q3 : Int32) (q6 : Int32) (u : SBS) (o : Nat → Nat) (ro : Nat → Nat → Nat) (ae58 : Nat) (H : Heap) (locs : List Loc) (ls : Array Slot) (cc cs : Nat), SBI u T → wj_L_list_83 xs Ln (wl_L_list_31 xs Ln K n31) K T nn kk V U S L B O e58 v3 v4 v5 q0 q1 q2 q3 q6 → TS vwCl D ([(ae58, .inl (Z 0, 3, .inl e58))] ++ (LL Z sa b u o ro nn kk kk V U S L B O)) A s.heap H locs → lv_has ls 8 [(0, .ref scr), (1, .ref b), (2, .ref (sa)), (3, .int v3), (4, .int v4), (5, .int v5)] → cc + (7 + n31 * 8 + 463) ≤ 503 ∧ cs + (28000 + n31 * 28003 + 1092702) ≤ 1204787 → W p l e (rk 9 503 1204787) s m args below meth c H locs cc cs Q (F0 m 83 ls [.int q0, .int q1, .int q2, .int q3, .ref ae58, .ref ae58, .int q6, .ref (o 0)]) := by
        intro T nn kk V U S L B O e58 v3 v4 v5 q0 q1 q2 q3 q6 u o ro ae58 H locs ls cc cs hI hm hT hl hcb
        refine w_below hC hN hK hm.1 wq_897 (by decide) hl.1 (Nat.le_of_ble_eq_true rfl) ⟨by omega, by omega⟩ dL_list_83 ?_
        have hm := hm.2
        refine lv_iadd hx hb dL_list_86 ?_
        have hj87 := hm.1
        obtain ⟨e58_87, ee58_87⟩ : ∃ y : Nat → Int32, y = upd e58 q3.toInt.toNat (q2 + (blw q1 q0)) := ⟨_, rfl⟩
        have hm := hm.2 e58_87 ee58_87
        refine w_iast (q0 := 0) (ws' := ([(ae58, .inl (Z 0, 3, .inl e58_87))] ++ (LL Z sa b u o ro nn kk kk V U S L B O))) hC hK hT rfl hj87 (by rw [ee58_87]; rfl) dL_list_87 (fun H locs hT => ?_)
        refine lv_dup hx hb dL_list_88 rfl ?_
        refine lv_iconst (v := 1) hx hb dL_list_89 (by decide) ?_
        refine lv_iload hx hb dL_list_90 (lv_at hl 5 rfl) ?_
        refine lv_iconst (v := 4) hx hb dL_list_92 (by decide) ?_
        refine lv_ishr hx hb dL_list_93 ?_
        refine lv_bipush (v := 10) hx hb dL_list_94 (by decide) ?_
        refine w_below hC hN hK (by decide) wq_897 (by decide) hl.1 (Nat.le_of_ble_eq_true rfl) ⟨by omega, by omega⟩ dL_list_96 ?_
        have hj99 := hm.1
        obtain ⟨e58_99, ee58_99⟩ : ∃ y : Nat → Int32, y = upd e58_87 1 (blw (v5 >>> ((4 : Int32) &&& 31)) 10) := ⟨_, rfl⟩
        have hm := hm.2 e58_99 ee58_99
        refine w_iast (q0 := 0) (ws' := ([(ae58, .inl (Z 0, 3, .inl e58_99))] ++ (LL Z sa b u o ro nn kk kk V U S L B O))) hC hK hT rfl hj99 (by rw [ee58_99]; rfl) dL_list_99 (fun H locs hT => ?_)
        refine lv_dup hx hb dL_list_100 rfl ?_
        refine lv_iconst (v := 2) hx hb dL_list_101 (by decide) ?_
        refine lv_iload_n hx hb dL_list_102 rfl (lv_at hl 3 rfl) ?_
        have hj103 := hm.1
        obtain ⟨e58_103, ee58_103⟩ : ∃ y : Nat → Int32, y = upd e58_99 2 v3 := ⟨_, rfl⟩
        have hm := hm.2 e58_103 ee58_103
        refine w_iast (q0 := 0) (ws' := ([(ae58, .inl (Z 0, 3, .inl e58_103))] ++ (LL Z sa b u o ro nn kk kk V U S L B O))) hC hK hT rfl hj103 (by rw [ee58_103]; rfl) dL_list_103 (fun H locs hT => ?_)
        obtain ⟨hi104, hk104, hn104, hm⟩ := hm
        rw [hi104]
        refine w_aast (i0 := 0) (q0 := 4) (qk := 0) (ws' := ([(ae58, .inl (Z 0, 3, .inl e58_103))] ++ (sbW Z b u ++ ([(sa, .inr (6, [.int (N0 0 0), .int (N0 1 0), .ref (o 0), .ref (o 1), .ref (o 2), .ref (o 3), .ref (o 4), .ref (o 5), .int (N0 2 0)])), (o 0, .inl (Z 3, nn 0, .inr (.inr (.inr (.inr (va_up (fun j => if j < kk 0 then some (ro 0 j) else none) (Int32.ofNat (kk 0)).toInt.toNat (some ae58))))))), (o 1, .inl (Z 3, nn 1, .inr (.inr (.inr (.inr (fun j => if j < kk 1 then some (ro 1 j) else none)))))), (o 2, .inl (Z 3, nn 2, .inr (.inr (.inr (.inr (fun j => if j < kk 2 then some (ro 2 j) else none)))))), (o 3, .inl (Z 3, nn 3, .inr (.inr (.inr (.inr (fun j => if j < kk 3 then some (ro 3 j) else none)))))), (o 4, .inl (Z 3, nn 4, .inr (.inr (.inr (.inr (fun j => if j < kk 4 then some (ro 4 j) else none)))))), (o 5, .inl (Z 3, nn 5, .inr (.inr (.inr (.inr (fun j => if j < kk 5 then some (ro 5 j) else none))))))] ++ PLS Z ro kk V U S L B O)))) hC hK hT hN wn_1164 rfl rfl (inb_nI hk104 (by omega)) rfl dL_list_104 (fun H locs hT => ?_)
        rw [spf_add_0 (by omega)] at hT
        have hT := pls_add_0 (W0 := sbW Z b u ++ SPf Z sa o (rup ro 0 (kk 0) ae58) nn (updN kk 0 (kk 0 + 1)) N0) (by rw [List.append_assoc]; exact hT)
        obtain ⟨kk_104, ekk_104⟩ : ∃ y : Nat → Nat, y = updN kk 0 (kk 0 + 1) := ⟨_, rfl⟩
        obtain ⟨ro_104, ero_104⟩ : ∃ y : Nat → Nat → Nat, y = rup ro 0 (kk 0) ae58 := ⟨_, rfl⟩
        obtain ⟨V_104, eV_104⟩ : ∃ y : M2, y = up2 V (kk 0) e58_103 := ⟨_, rfl⟩
        have hm := hm kk_104 ekk_104 V_104 eV_104
        rw [List.append_assoc, ← ekk_104, ← ero_104, ← eV_104] at hT
        have hT : TS vwCl D (LL Z sa b u o ro_104 nn kk_104 kk_104 V_104 U S L B O) A s.heap _ _ := hT
        refine lv_iload_n hx hb dL_list_105 rfl (lv_at hl 3 rfl) ?_
        refine lv_aload_n hx hb dL_list_106 rfl (lv_at hl 2 rfl) ?_
        refine w_get (C := RX6) (T := TX6) (N := 9) (ci := 6) (q0 := 2) (k := 2) hC hK hT.1 fi_X6 rfl rfl rfl (by decide) rfl wq_1170 dL_list_107 ?_
        refine lv_iload hx hb dL_list_110 (lv_at hl 4 rfl) ?_
        refine w_aaldP (q0 := 3) hC hK hT.1 rfl hm.1 hm.2.1 dL_list_112 ?_
        have hm := hm.2.2
        refine lv_iconst (v := 0) hx hb dL_list_113 (by decide) ?_
        refine wr_ld (jn := 0) (f := (fun X => (LL Z sa b u o ro_104 nn kk_104 kk_104 X U S L B O))) (ll_0 Z sa b u o ro_104 nn kk_104 kk_104 U S L B O) hC hK hT.1 hm.1 (by decide) rfl dL_list_114 ?_
        have hm := hm.2
        refine lv_iadd hx hb dL_list_115 ?_
        refine lv_topi (fun v3_116 ev3_116 => ?_)
        have hm := hm v3_116 ev3_116
        refine lv_istore_n (lv' := [(3, .int v3_116), (0, .ref scr), (1, .ref b), (2, .ref (sa)), (4, .int v4), (5, .int v5)]) hx hb dL_list_116 rfl hl (by decide) rfl (fun ls hl => ?_)
        refine lv_aload_n hx hb dL_list_117 rfl (lv_at hl 2 rfl) ?_
        refine va_ldcS hx hb hC.2.2.2.1 hR.1.1.lld20 dL_list_118 ?_
        refine w_sbLit (i := 20) (by decide) hC hN hK hR.1.1 hT hI hm.1 wq_1203 (by decide) hl.1 (Nat.le_of_ble_eq_true rfl) dL_list_120 ⟨by omega, by omega⟩ (fun u_120 H locs hI hT => ?_)
        have hm := hm.2
        obtain ⟨T_120, eT_120⟩ : ∃ y : List Nat, y = T ++ lst 20 := ⟨_, rfl⟩
        rw [← eT_120] at hI
        have hm := hm T_120 eT_120
        have hT : TS vwCl D (LL Z sa b u_120 o ro_104 nn kk_104 kk_104 V_104 U S L B O) A s.heap _ _ := hT
        refine lv_iload hx hb dL_list_123 (lv_at hl 4 rfl) ?_
        rw [inb_eq hm.1]
        refine w_sbInt (x := v4.toInt.toNat) (by omega) hC hN hK hR.1.1 hT hI hm.2.1 wq_1309 (by decide) hl.1 (Nat.le_of_ble_eq_true rfl) dL_list_125 ⟨by omega, by omega⟩ (fun u_125 H locs hI hT => ?_)
        have hm := hm.2.2
        obtain ⟨T_125, eT_125⟩ : ∃ y : List Nat, y = T_120 ++ decs v4.toInt.toNat := ⟨_, rfl⟩
        rw [← eT_125] at hI
        have hm := hm T_125 eT_125
        have hT : TS vwCl D (LL Z sa b u_125 o ro_104 nn kk_104 kk_104 V_104 U S L B O) A s.heap _ _ := hT
        refine va_ldcS hx hb hC.2.2.2.1 hR.1.1.lld21 dL_list_128 ?_
        refine w_sbLit (i := 21) (by decide) hC hN hK hR.1.1 hT hI hm.1 wq_1203 (by decide) hl.1 (Nat.le_of_ble_eq_true rfl) dL_list_130 ⟨by omega, by omega⟩ (fun u_130 H locs hI hT => ?_)
        have hm := hm.2
        obtain ⟨T_130, eT_130⟩ : ∃ y : List Nat, y = T_125 ++ lst 21 := ⟨_, rfl⟩
        rw [← eT_130] at hI
        have hm := hm T_130 eT_130
        have hT : TS vwCl D (LL Z sa b u_130 o ro_104 nn kk_104 kk_104 V_104 U S L B O) A s.heap _ _ := hT
        refine lv_aload_n hx hb dL_list_133 rfl (lv_at hl 3 rfl) ?_
        refine w_get (C := RX6) (T := TX6) (N := 9) (ci := 6) (q0 := 2) (k := 2) hC hK hT.1 fi_X6 rfl rfl rfl (by decide) rfl wq_1170 dL_list_134 ?_
        refine lv_iload hx hb dL_list_137 (lv_at hl 4 rfl) ?_
        refine w_aaldP (q0 := 3) hC hK hT.1 rfl hm.1 hm.2.1 dL_list_139 ?_
        have hm := hm.2.2
        refine lv_iconst (v := 0) hx hb dL_list_140 (by decide) ?_
        refine wr_ld (jn := 0) (f := (fun X => (LL Z sa b u_130 o ro_104 nn kk_104 kk_104 X U S L B O))) (ll_0 Z sa b u_130 o ro_104 nn kk_104 kk_104 U S L B O) hC hK hT.1 hm.1 (by decide) rfl dL_list_141 ?_
        have hm := hm.2
        rw [inb_eq hm.1]
        refine w_sbInt (x := (V_104 v4.toInt.toNat 0).toInt.toNat) (by omega) hC hN hK hR.1.1 hT hI hm.2.1 wq_1309 (by decide) hl.1 (Nat.le_of_ble_eq_true rfl) dL_list_142 ⟨by omega, by omega⟩ (fun u_142 H locs hI hT => ?_)
        have hm := hm.2.2
        obtain ⟨T_142, eT_142⟩ : ∃ y : List Nat, y = T_130 ++ decs (V_104 v4.toInt.toNat 0).toInt.toNat := ⟨_, rfl⟩
        rw [← eT_142] at hI
        have hm := hm T_142 eT_142
        have hT : TS vwCl D (LL Z sa b u_142 o ro_104 nn kk_104 kk_104 V_104 U S L B O) A s.heap _ _ := hT
        refine va_ldcS hx hb hC.2.2.2.1 hR.1.1.lld22 dL_list_145 ?_
        refine w_sbLit (i := 22) (by decide) hC hN hK hR.1.1 hT hI hm.1 wq_1203 (by decide) hl.1 (Nat.le_of_ble_eq_true rfl) dL_list_147 ⟨by omega, by omega⟩ (fun u_147 H locs hI hT => ?_)
        have hm := hm.2
        obtain ⟨T_147, eT_147⟩ : ∃ y : List Nat, y = T_142 ++ lst 22 := ⟨_, rfl⟩
        rw [← eT_147] at hI
        have hm := hm T_147 eT_147
        have hT : TS vwCl D (LL Z sa b u_147 o ro_104 nn kk_104 kk_104 V_104 U S L B O) A s.heap _ _ := hT
        refine lv_aload_n hx hb dL_list_150 rfl (lv_at hl 3 rfl) ?_
        refine w_get (C := RX6) (T := TX6) (N := 9) (ci := 6) (q0 := 2) (k := 2) hC hK hT.1 fi_X6 rfl rfl rfl (by decide) rfl wq_1170 dL_list_151 ?_
        refine lv_iload hx hb dL_list_154 (lv_at hl 4 rfl) ?_
        refine w_aaldP (q0 := 3) hC hK hT.1 rfl hm.1 hm.2.1 dL_list_156 ?_
        have hm := hm.2.2
        refine lv_iconst (v := 1) hx hb dL_list_157 (by decide) ?_
        refine wr_ld (jn := 1) (f := (fun X => (LL Z sa b u_147 o ro_104 nn kk_104 kk_104 X U S L B O))) (ll_0 Z sa b u_147 o ro_104 nn kk_104 kk_104 U S L B O) hC hK hT.1 hm.1 (by decide) rfl dL_list_158 ?_
        have hm := hm.2
        rw [inb_eq hm.1]
        refine w_sbInt (x := (V_104 v4.toInt.toNat 1).toInt.toNat) (by omega) hC hN hK hR.1.1 hT hI hm.2.1 wq_1309 (by decide) hl.1 (Nat.le_of_ble_eq_true rfl) dL_list_159 ⟨by omega, by omega⟩ (fun u_159 H locs hI hT => ?_)
        have hm := hm.2.2
        obtain ⟨T_159, eT_159⟩ : ∃ y : List Nat, y = T_147 ++ decs (V_104 v4.toInt.toNat 1).toInt.toNat := ⟨_, rfl⟩
        rw [← eT_159] at hI
        have hm := hm T_159 eT_159
        have hT : TS vwCl D (LL Z sa b u_159 o ro_104 nn kk_104 kk_104 V_104 U S L B O) A s.heap _ _ := hT
        refine va_ldcS hx hb hC.2.2.2.1 hR.1.1.lld23 dL_list_162 ?_
        refine w_sbLit (i := 23) (by decide) hC hN hK hR.1.1 hT hI hm.1 wq_1203 (by decide) hl.1 (Nat.le_of_ble_eq_true rfl) dL_list_164 ⟨by omega, by omega⟩ (fun u_164 H locs hI hT => ?_)
        have hm := hm.2
        obtain ⟨T_164, eT_164⟩ : ∃ y : List Nat, y = T_159 ++ lst 23 := ⟨_, rfl⟩
        rw [← eT_164] at hI
        have hm := hm T_164 eT_164
        have hT : TS vwCl D (LL Z sa b u_164 o ro_104 nn kk_104 kk_104 V_104 U S L B O) A s.heap _ _ := hT
        refine lv_pop hx hb dL_list_167 rfl ?_
        obtain ⟨v4_168, ev4_168⟩ : ∃ y : Int32, y = v4 + 1 := ⟨_, rfl⟩
        have hm := hm v4_168 ev4_168
        refine lv_iinc (v := v4_168) (lv' := [(4, .int v4_168), (3, .int v3_116), (0, .ref scr), (1, .ref b), (2, .ref (sa)), (5, .int v5)]) hx hb dL_list_168 hl (k := 4) rfl (by rw [ev4_168]; rfl) (by decide) rfl (fun ls hl => ?_)
        refine lv_goto (tgt := 31) hx hb dL_list_171 (by decide) ?_
        exact ih31 _ _ _ _ _ _ _ _ _ _ _ _ _ _ _ _ _ _ _ hI hm hT (lv_sub hl [2, 3, 4, 1, 0] rfl) ⟨by omega, by omega⟩
      intro T nn kk V U S L B O v3 v4 u o ro H locs ls cc cs hI hm hT hl hcb
      refine lv_iload hx hb dL_list_31 (lv_at hl 4 rfl) ?_
      refine lv_aload_n hx hb dL_list_33 rfl (lv_at hl 2 rfl) ?_
      refine w_get (C := RX6) (T := TX6) (N := 9) (ci := 6) (q0 := 2) (k := 2) hC hK hT.1 fi_X6 rfl rfl rfl (by decide) rfl wq_1170 dL_list_34 ?_
      refine w_alen (q0 := 3) (t0 := 3) hC hK hT.1 rfl rfl dL_list_37 ?_
      refine lv_icmp_ge (tgt := 174) hx hb dL_list_38 (by decide) (fun c_38 => ?_) (fun c_38 => ?_)
      · have hm := hm.1 c_38
        refine lv_aload_n hx hb dL_list_174 rfl (lv_at hl 2 rfl) ?_
        refine lv_iload_n hx hb dL_list_175 rfl (lv_at hl 3 rfl) ?_
        have hz176 := hm.1
        have hm := hm.2
        obtain ⟨z176, ez176⟩ : ∃ y : Nat, y = (v3).toInt.toNat := ⟨_, rfl⟩
        have hm := hm z176 ez176
        have hz176_2 := inb_ge0 hz176
        have hz176_3 := inb_toNat hz176 ez176
        refine w_newA (N := z176) hC hK hT hN wq_1201 wn_1164 hz176_2 hz176_3.1 (by omega) (by show _ ≤ 503; omega) (by show _ ≤ 1204787; omega) dL_list_176 (fun q H hT => ?_)
        have hT := hT.front
        have h0179 := hm.1
        have hm := hm.2
        refine w_put (C := RX6) (T := TX6) (N := 9) (ci := 6) (q0 := 3) (k := 3) (ty0 := tyX6) (ty := .array (.array .int)) (ws' := ((q, .inl (Z 3, z176, .inr (.inr (.inr (.inr (fun _ => none)))))) :: (sbW Z b u ++ ([(sa, .inr (6, [.int (N0 0 0), .int (N0 1 0), .ref (o 0), .ref q, .ref (o 2), .ref (o 3), .ref (o 4), .ref (o 5), .int (N0 2 0)])), (o 0, .inl (Z 3, nn 0, .inr (.inr (.inr (.inr (fun j => if j < kk 0 then some (ro 0 j) else none)))))), (o 1, .inl (Z 3, nn 1, .inr (.inr (.inr (.inr (fun j => if j < kk 1 then some (ro 1 j) else none)))))), (o 2, .inl (Z 3, nn 2, .inr (.inr (.inr (.inr (fun j => if j < kk 2 then some (ro 2 j) else none)))))), (o 3, .inl (Z 3, nn 3, .inr (.inr (.inr (.inr (fun j => if j < kk 3 then some (ro 3 j) else none)))))), (o 4, .inl (Z 3, nn 4, .inr (.inr (.inr (.inr (fun j => if j < kk 4 then some (ro 4 j) else none)))))), (o 5, .inl (Z 3, nn 5, .inr (.inr (.inr (.inr (fun j => if j < kk 5 then some (ro 5 j) else none))))))] ++ PLS Z ro kk V U S L B O)))) hC hK hT fi_X6 tyX6_ok nmX6 rfl rfl (by decide) rfl rfl rfl rfl rfl (Nat.le_of_ble_eq_true rfl) rfl wq_1172 dL_list_179 (fun H locs hT => ?_)
        have hT := ll_new_1 h0179 hT
        obtain ⟨nn_179, enn_179⟩ : ∃ y : Nat → Nat, y = updN nn 1 z176 := ⟨_, rfl⟩
        have hm := hm nn_179 enn_179
        obtain ⟨o_179, eo_179⟩ : ∃ y : Nat → Nat, y = updN o 1 q := ⟨_, rfl⟩
        rw [← enn_179, ← eo_179] at hT
        refine lv_iconst (v := 0) hx hb dL_list_182 (by decide) ?_
        refine lv_istore (lv' := [(4, .int 0), (0, .ref scr), (1, .ref b), (2, .ref (sa)), (3, .int v3)]) hx hb dL_list_183 hl (by decide) rfl (fun ls hl => ?_)
        exact L185 _ _ _ _ _ _ _ _ _ _ _ _ _ _ _ _ _ _ _ _ hI hm hT (lv_sub hl [1, 2, 3, 4, 0] rfl) ⟨by omega, by omega⟩
      · have hm := hm.2 c_38
        refine lv_aload_n hx hb dL_list_41 rfl (lv_at hl 0 rfl) ?_
        refine lv_iconst (v := 1) hx hb dL_list_42 (by decide) ?_
        refine lv_iload hx hb dL_list_43 (lv_at hl 4 rfl) ?_
        refine lv_iadd hx hb dL_list_45 ?_
        refine w_cell (k := ((1 : Int32) + v4)) hC hN hK hR hT hLn hm.1 wq_901 (by decide) hl.1 (Nat.le_of_ble_eq_true rfl) ⟨by omega, by omega⟩ dL_list_46 (fun H locs hT => ?_)
        have hm := hm.2
        refine lv_topi (fun v5_49 ev5_49 => ?_)
        have hm := hm v5_49 ev5_49
        refine lv_istore (lv' := [(5, .int v5_49), (0, .ref scr), (1, .ref b), (2, .ref (sa)), (3, .int v3), (4, .int v4)]) hx hb dL_list_49 hl (by decide) rfl (fun ls hl => ?_)
        refine lv_aload_n hx hb dL_list_51 rfl (lv_at hl 3 rfl) ?_
        refine w_get (C := RX6) (T := TX6) (N := 9) (ci := 6) (q0 := 2) (k := 2) hC hK hT.1 fi_X6 rfl rfl rfl (by decide) rfl wq_1170 dL_list_52 ?_
        refine lv_iload hx hb dL_list_55 (lv_at hl 5 rfl) ?_
        refine lv_iconst (v := 3) hx hb dL_list_57 (by decide) ?_
        refine w_newI (N := 3) hC hK hT wq_240 (by decide) (by decide) (by decide) (by show _ ≤ 503; omega) (by show _ ≤ 1204787; omega) dL_list_58 (fun ae58 H hT => ?_)
        have hT : TS vwCl D ([(ae58, .inl (Z 0, 3, .inl ((fun _ => 0))))] ++ (LL Z sa b u o ro nn kk kk V U S L B O)) A s.heap H _ := hT.front
        refine lv_dup hx hb dL_list_60 rfl ?_
        refine lv_iconst (v := 0) hx hb dL_list_61 (by decide) ?_
        refine lv_iconst (v := 1) hx hb dL_list_62 (by decide) ?_
        refine lv_iload hx hb dL_list_63 (lv_at hl 0 rfl) ?_
        refine lv_iload hx hb dL_list_65 (lv_at hl 0 rfl) ?_
        refine lv_bipush (v := 8) hx hb dL_list_67 (by decide) ?_
        refine lv_ishr hx hb dL_list_69 ?_
        refine lv_iconst (v := 3) hx hb dL_list_70 (by decide) ?_
        refine w_below hC hN hK (by decide) wq_897 (by decide) hl.1 (Nat.le_of_ble_eq_true rfl) ⟨by omega, by omega⟩ dL_list_71 ?_
        refine lv_if_ne (tgt := 82) hx hb dL_list_74 (by decide) (fun c_74 => ?_) (fun c_74 => ?_)
        · have hm := hm.1 c_74
          refine lv_iconst (v := 4) hx hb dL_list_82 (by decide) ?_
          exact L83 _ _ _ _ _ _ _ _ _ _ _ _ _ _ _ _ _ _ _ _ _ _ _ _ _ _ _ hI hm hT (lv_sub hl [1, 2, 3, 4, 5, 0] rfl) ⟨by omega, by omega⟩
        · have hm := hm.2 c_74
          refine lv_bipush (v := 12) hx hb dL_list_77 (by decide) ?_
          refine lv_goto (tgt := 83) hx hb dL_list_79 (by decide) ?_
          exact L83 _ _ _ _ _ _ _ _ _ _ _ _ _ _ _ _ _ _ _ _ _ _ _ _ _ _ _ hI hm hT (lv_sub hl [1, 2, 3, 4, 5, 0] rfl) ⟨by omega, by omega⟩
  refine lv_aload_n hx hb dL_list_8 rfl (lv_at hl 0 rfl) ?_
  refine lv_iconst (v := 1) hx hb dL_list_9 (by decide) ?_
  refine lv_aload_n hx hb dL_list_10 rfl (lv_at hl 1 rfl) ?_
  refine lv_iconst (v := 0) hx hb dL_list_11 (by decide) ?_
  refine w_cell (k := 0) hC hN hK hR hT hLn (by decide) wq_901 (by decide) hl.1 (Nat.le_of_ble_eq_true rfl) ⟨by omega, by omega⟩ dL_list_12 (fun H locs hT => ?_)
  refine lv_iconst (v := 3) hx hb dL_list_15 (by decide) ?_
  refine w_below hC hN hK (by decide) wq_897 (by decide) hl.1 (Nat.le_of_ble_eq_true rfl) ⟨by omega, by omega⟩ dL_list_16 ?_
  refine lv_iadd hx hb dL_list_19 ?_
  have hz20 := hm.1
  have hm := hm.2
  obtain ⟨z20, ez20⟩ : ∃ y : Nat, y = ((1 : Int32) + (blw (celv xs Ln 0) 3)).toInt.toNat := ⟨_, rfl⟩
  have hm := hm z20 ez20
  have hz20_2 := inb_ge0 hz20
  have hz20_3 := inb_toNat hz20 ez20
  refine w_newA (N := z20) hC hK hT hN wq_1201 wn_1164 hz20_2 hz20_3.1 (by omega) (by show _ ≤ 503; omega) (by show _ ≤ 1204787; omega) dL_list_20 (fun q H hT => ?_)
  have hT := hT.front
  have h023 := hm.1
  have hm := hm.2
  refine w_put (C := RX6) (T := TX6) (N := 9) (ci := 6) (q0 := 3) (k := 2) (ty0 := tyX6) (ty := .array (.array .int)) (ws' := ((q, .inl (Z 3, z20, .inr (.inr (.inr (.inr (fun _ => none)))))) :: (sbW Z b u ++ ([(sa, .inr (6, [.int (N0 0 0), .int (N0 1 0), .ref q, .ref (o 1), .ref (o 2), .ref (o 3), .ref (o 4), .ref (o 5), .int (N0 2 0)])), (o 0, .inl (Z 3, nn 0, .inr (.inr (.inr (.inr (fun j => if j < kk 0 then some (ro 0 j) else none)))))), (o 1, .inl (Z 3, nn 1, .inr (.inr (.inr (.inr (fun j => if j < kk 1 then some (ro 1 j) else none)))))), (o 2, .inl (Z 3, nn 2, .inr (.inr (.inr (.inr (fun j => if j < kk 2 then some (ro 2 j) else none)))))), (o 3, .inl (Z 3, nn 3, .inr (.inr (.inr (.inr (fun j => if j < kk 3 then some (ro 3 j) else none)))))), (o 4, .inl (Z 3, nn 4, .inr (.inr (.inr (.inr (fun j => if j < kk 4 then some (ro 4 j) else none)))))), (o 5, .inl (Z 3, nn 5, .inr (.inr (.inr (.inr (fun j => if j < kk 5 then some (ro 5 j) else none))))))] ++ PLS Z ro kk V U S L B O)))) hC hK hT fi_X6 tyX6_ok nmX6 rfl rfl (by decide) rfl rfl rfl rfl rfl (Nat.le_of_ble_eq_true rfl) rfl wq_1170 dL_list_23 (fun H locs hT => ?_)
  have hT := ll_new_0 h023 hT
  obtain ⟨nn_23, enn_23⟩ : ∃ y : Nat → Nat, y = updN nn 0 z20 := ⟨_, rfl⟩
  have hm := hm nn_23 enn_23
  obtain ⟨o_23, eo_23⟩ : ∃ y : Nat → Nat, y = updN o 0 q := ⟨_, rfl⟩
  rw [← enn_23, ← eo_23] at hT
  refine lv_iconst (v := 0) hx hb dL_list_26 (by decide) ?_
  refine lv_istore_n (lv' := [(3, .int 0), (2, .ref (sa)), (0, .ref scr), (1, .ref b)]) hx hb dL_list_27 rfl hl (by decide) rfl (fun ls hl => ?_)
  refine lv_iconst (v := 0) hx hb dL_list_28 (by decide) ?_
  refine lv_istore (lv' := [(4, .int 0), (3, .int 0), (2, .ref (sa)), (0, .ref scr), (1, .ref b)]) hx hb dL_list_29 hl (by decide) rfl (fun ls hl => ?_)
  exact L31 _ _ _ _ _ _ _ _ _ _ _ _ _ _ _ _ _ _ _ _ hI hm hT (lv_sub hl [3, 4, 2, 1, 0] rfl) ⟨by omega, by omega⟩
set_option maxRecDepth 100000 in
set_option maxHeartbeats 1000000 in
theorem c_L_list (l : Launch) (D : va_G) (Z : Nat → ClassId) (rx : Nat → Nat) (sz scr Ln b : Nat) (xs : Nat → Int32) (u0 : SBS) (hI0 : SBI u0 []) (hLn : Ln < 2 ^ 31) (K : List Nat → (Nat → Nat) → (Nat → Nat) → M2 → M2 → M2 → M2 → M2 → M2 → Prop) (hm : wp_L_list xs Ln [] (fun _ => 0) (fun _ => 0) zM zM zM zM zM zM K) : Met l yL_list (wy yL_list cL_list 8 (some (.object "TunnelLeggersLaw$Sim"))) (rk 9 503 1204787) (preG (RX rx scr Ln xs) vwCl D Z (llW Z b u0 none) sz [.ref scr, .ref b]) (poQ vwCl D Z (llW Z b u0) (fun x => (x.map Prod.fst).getD 0) none sz (llK K)) 503 1204787 (va_A (llW Z b u0 none) sz) := by
  refine rwq_ofG (wsF := llW Z b u0) (u0 := none) (by decide +kernel) (Nat.le_of_ble_eq_true rfl) rfl (Or.inl ⟨_, rfl⟩) ?_
  intro p e s m args below meth c Q A hC hN hR hsz hT hK hret ls hl
  have hx := hC.1
  have hb := hC.2.1
  have hl : lv_has ls 8 [(0, .ref scr), (1, .ref b)] := hl
  have hT : TS vwCl D (sbW Z b u0) A s.heap s.heap [] := hT
  refine w_newO (C := RX6) (T := TX6) (N := 9) (ci := 6) (ty0 := tyX6) (fs := [.int 0, .int 0, .null, .null, .null, .null, .null, .null, .int 0]) hC hK hT fi_X6 tyX6_ok wq_1158 wq_864 wq_69 rfl (by decide) (by show 0 + 1 ≤ 503; omega) (by show 0 + 9 ≤ 1204787; omega) dL_list_0 (fun sa H hT => ?_)
  have hT : TS vwCl D (siW Z sa none ++ sbW Z b u0) A s.heap H _ := hT.front
  refine lv_dup hx hb dL_list_3 rfl ?_
  refine goV (u0 := none) (wsF := siW Z sa) (runING (As := []) RT_g hC hN trivial (c_X6_init l D Z _ sa) mi_X6_init wn_1159 wq_1160 rfl (by decide) hT.dropR.1 hT.dropR.D' hK rfl hl.1 rfl (Nat.le_of_ble_eq_true rfl) dL_list_4 ⟨by omega, by omega⟩) rfl hT (fun ui H locs hk hT => ?_)
  obtain ⟨o, rfl⟩ := hk
  have hT : TS vwCl D (LL Z sa b u0 o (fun _ _ => 0) (fun _ => 0) (fun _ => 0) (fun _ => 0) zM zM zM zM zM zM) A s.heap H locs := ll_zero ▸ hT.front
  refine lv_astore_n (lv' := [(2, .ref sa), (0, .ref scr), (1, .ref b)]) hx hb dL_list_7 rfl hl (by decide) rfl (fun ls hl => ?_)
  exact t_L_list hC hN hR hK hLn hI0 hT hm ⟨by omega, by omega⟩ (fun pc ls H locs w h1 h2 h3 hd => hret pc ls H locs (some (sa, w)) ⟨sa, w, rfl, h1, h2⟩ h3 hd) hl
