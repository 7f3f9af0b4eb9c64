theorem wq_1250 : Cond.code yJ5_isLatin1_aae02 cJ5_isLatin1_aae02 1 (some .boolean) ∈ lw_g := lw_g_mk (tb_5 (List.mem_of_getElem? (i := 226) rfl)) rfl
theorem wq_1251 : Cond.fieldLink RJ5 18 RJ0 "COMPACT_STRINGS" "Z" ∈ lw_g := lw_g_mk (tb_5 (List.mem_of_getElem? (i := 227) rfl)) rfl
theorem wq_1275 : Cond.code yJ5_inflateIfNeededFor_a7421 cJ5_inflateIfNeededFor_a7421 2 none ∈ lw_g := lw_g_mk (tb_6 (List.mem_of_getElem? (i := 11) rfl)) rfl
theorem wq_1276 : Cond.methodLink RJ5 40 yJ0_coder_7d493 ∈ lw_g := lw_g_mk (tb_6 (List.mem_of_getElem? (i := 12) rfl)) rfl
theorem wq_1306 : Cond.code yJ0_getBytes_840e7 cJ0_getBytes_840e7 4 none ∈ lw_g := lw_g_mk (tb_6 (List.mem_of_getElem? (i := 42) rfl)) rfl
theorem wq_1307 : Cond.methodLink RJ0 212 arraycopyName ∈ lw_g := lw_g_mk (tb_6 (List.mem_of_getElem? (i := 43) rfl)) rfl
theorem wq_1271 : Cond.code yJ5_putStringAt_47b60 cJ5_putStringAt_47b60 3 none ∈ lw_g := lw_g_mk (tb_6 (List.mem_of_getElem? (i := 7) rfl)) rfl
theorem wq_1272 : Cond.methodLink RJ5 397 yJ5_inflateIfNeededFor_a7421 ∈ lw_g := lw_g_mk (tb_6 (List.mem_of_getElem? (i := 8) rfl)) rfl
theorem wq_1494 : Cond.sameMethod yJ5_inflateIfNeededFor_a7421.cls yJ5_inflateIfNeededFor_a7421.cls yJ5_inflateIfNeededFor_a7421.name yJ5_inflateIfNeededFor_a7421.desc ∈ lw_g := lw_g_mk (tb_6 (List.mem_of_getElem? (i := 230) rfl)) rfl
theorem wq_1274 : Cond.instanceMethod yJ5_inflateIfNeededFor_a7421 ∈ lw_g := lw_g_mk (tb_6 (List.mem_of_getElem? (i := 10) rfl)) rfl
theorem wq_1303 : Cond.methodLink RJ5 399 yJ0_getBytes_840e7 ∈ lw_g := lw_g_mk (tb_6 (List.mem_of_getElem? (i := 39) rfl)) rfl
theorem wq_1304 : Cond.instanceMethod yJ0_getBytes_840e7 ∈ lw_g := lw_g_mk (tb_6 (List.mem_of_getElem? (i := 40) rfl)) rfl
theorem wq_1305 : Cond.selects RJ0 yJ0_getBytes_840e7 yJ0_getBytes_840e7 ∈ lw_g := lw_g_mk (tb_6 (List.mem_of_getElem? (i := 41) rfl)) rfl
theorem wq_1210 : Cond.code yJ5_append_cf1ce cJ5_append_cf1ce 3 (some (.object "java/lang/AbstractStringBuilder")) ∈ lw_g := lw_g_mk (tb_5 (List.mem_of_getElem? (i := 186) rfl)) rfl
theorem wq_1267 : Cond.methodLink RJ5 32 yJ0_length_8abf5 ∈ lw_g := lw_g_mk (tb_6 (List.mem_of_getElem? (i := 3) rfl)) rfl
theorem wq_1366 : Cond.fieldLink RJ5 79 RJ5 "count" "I" ∈ lw_g := lw_g_mk (tb_6 (List.mem_of_getElem? (i := 102) rfl)) rfl
theorem wq_1215 : Cond.methodLink RJ5 100 yJ5_ensureCapacityInternal_d00df ∈ lw_g := lw_g_mk (tb_5 (List.mem_of_getElem? (i := 191) rfl)) rfl
theorem wq_1491 : Cond.sameMethod yJ5_ensureCapacityInternal_d00df.cls yJ5_ensureCapacityInternal_d00df.cls yJ5_ensureCapacityInternal_d00df.name yJ5_ensureCapacityInternal_d00df.desc ∈ lw_g := lw_g_mk (tb_6 (List.mem_of_getElem? (i := 227) rfl)) rfl
theorem wq_1217 : Cond.instanceMethod yJ5_ensureCapacityInternal_d00df ∈ lw_g := lw_g_mk (tb_5 (List.mem_of_getElem? (i := 193) rfl)) rfl
theorem wq_1268 : Cond.methodLink RJ5 208 yJ5_putStringAt_47b60 ∈ lw_g := lw_g_mk (tb_6 (List.mem_of_getElem? (i := 4) rfl)) rfl
theorem wq_1493 : Cond.sameMethod yJ5_putStringAt_47b60.cls yJ5_putStringAt_47b60.cls yJ5_putStringAt_47b60.name yJ5_putStringAt_47b60.desc ∈ lw_g := lw_g_mk (tb_6 (List.mem_of_getElem? (i := 229) rfl)) rfl
theorem wq_1270 : Cond.instanceMethod yJ5_putStringAt_47b60 ∈ lw_g := lw_g_mk (tb_6 (List.mem_of_getElem? (i := 6) rfl)) rfl
theorem wq_1206 : Cond.code yJ4_append_15ec4 cJ4_append_15ec4 2 (some (.object "java/lang/StringBuilder")) ∈ lw_g := lw_g_mk (tb_5 (List.mem_of_getElem? (i := 182) rfl)) rfl
theorem wq_66 : Cond.initialized RJ4 ∈ lw_g := lw_g_mk (tb_1 (List.mem_of_getElem? (i := 2) rfl)) rfl
theorem wq_1207 : Cond.methodLink RJ4 29 yJ5_append_cf1ce ∈ lw_g := lw_g_mk (tb_5 (List.mem_of_getElem? (i := 183) rfl)) rfl
theorem wq_1489 : Cond.sameMethod yJ5_append_cf1ce.cls yJ5_append_cf1ce.cls yJ5_append_cf1ce.name yJ5_append_cf1ce.desc ∈ lw_g := lw_g_mk (tb_6 (List.mem_of_getElem? (i := 225) rfl)) rfl
theorem wq_1208 : Cond.superclass RJ4 RJ5 ∈ lw_g := lw_g_mk (tb_5 (List.mem_of_getElem? (i := 184) rfl)) rfl
theorem wq_1209 : Cond.instanceMethod yJ5_append_cf1ce ∈ lw_g := lw_g_mk (tb_5 (List.mem_of_getElem? (i := 185) rfl)) rfl
theorem wq_1318 : Cond.code yJ6_stringSize_0f7a4 cJ6_stringSize_0f7a4 4 (some .int) ∈ lw_g := lw_g_mk (tb_6 (List.mem_of_getElem? (i := 54) rfl)) rfl
theorem wq_77 : Cond.initialized RJ6 ∈ lw_g := lw_g_mk (tb_1 (List.mem_of_getElem? (i := 13) rfl)) rfl
theorem wq_1321 : Cond.code yJ6_getChars_ba4f3 cJ6_getChars_ba4f3 7 (some .int) ∈ lw_g := lw_g_mk (tb_6 (List.mem_of_getElem? (i := 57) rfl)) rfl
theorem wq_1322 : Cond.fieldLink RJ6 83 RJ6 "DigitOnes" "[B" ∈ lw_g := lw_g_mk (tb_6 (List.mem_of_getElem? (i := 58) rfl)) rfl
theorem wq_1324 : Cond.fieldLink RJ6 87 RJ6 "DigitTens" "[B" ∈ lw_g := lw_g_mk (tb_6 (List.mem_of_getElem? (i := 60) rfl)) rfl
theorem wq_1315 : Cond.code yJ5_append_c97b9 cJ5_append_c97b9 4 (some (.object "java/lang/AbstractStringBuilder")) ∈ lw_g := lw_g_mk (tb_6 (List.mem_of_getElem? (i := 51) rfl)) rfl
theorem wq_1316 : Cond.methodLink RJ5 245 yJ6_stringSize_0f7a4 ∈ lw_g := lw_g_mk (tb_6 (List.mem_of_getElem? (i := 52) rfl)) rfl
theorem wq_1317 : Cond.static yJ6_stringSize_0f7a4 ∈ lw_g := lw_g_mk (tb_6 (List.mem_of_getElem? (i := 53) rfl)) rfl
theorem wq_1249 : Cond.selects RJ4 yJ5_isLatin1_aae02 yJ5_isLatin1_aae02 ∈ lw_g := lw_g_mk (tb_5 (List.mem_of_getElem? (i := 225) rfl)) rfl
theorem wq_1246 : Cond.methodLink RJ5 83 yJ5_isLatin1_aae02 ∈ lw_g := lw_g_mk (tb_5 (List.mem_of_getElem? (i := 222) rfl)) rfl
theorem wq_1248 : Cond.sameMethod yJ5_isLatin1_aae02.cls yJ5_isLatin1_aae02.cls yJ5_isLatin1_aae02.name yJ5_isLatin1_aae02.desc ∈ lw_g := lw_g_mk (tb_5 (List.mem_of_getElem? (i := 224) rfl)) rfl
theorem wq_1247 : Cond.instanceMethod yJ5_isLatin1_aae02 ∈ lw_g := lw_g_mk (tb_5 (List.mem_of_getElem? (i := 223) rfl)) rfl
theorem wq_1319 : Cond.methodLink RJ5 248 yJ6_getChars_ba4f3 ∈ lw_g := lw_g_mk (tb_6 (List.mem_of_getElem? (i := 55) rfl)) rfl
theorem wq_1320 : Cond.static yJ6_getChars_ba4f3 ∈ lw_g := lw_g_mk (tb_6 (List.mem_of_getElem? (i := 56) rfl)) rfl
theorem wq_1312 : Cond.code yJ4_append_bf812 cJ4_append_bf812 2 (some (.object "java/lang/StringBuilder")) ∈ lw_g := lw_g_mk (tb_6 (List.mem_of_getElem? (i := 48) rfl)) rfl
theorem wq_1313 : Cond.methodLink RJ4 53 yJ5_append_c97b9 ∈ lw_g := lw_g_mk (tb_6 (List.mem_of_getElem? (i := 49) rfl)) rfl
theorem wq_1496 : Cond.sameMethod yJ5_append_c97b9.cls yJ5_append_c97b9.cls yJ5_append_c97b9.name yJ5_append_c97b9.desc ∈ lw_g := lw_g_mk (tb_6 (List.mem_of_getElem? (i := 232) rfl)) rfl
theorem wq_1314 : Cond.instanceMethod yJ5_append_c97b9 ∈ lw_g := lw_g_mk (tb_6 (List.mem_of_getElem? (i := 50) rfl)) rfl
theorem dJ5_isLatin1_aae02_0 : decode cJ5_isLatin1_aae02 0 = .ok (.getstatic 18, 3) := by decide +kernel
theorem dJ5_isLatin1_aae02_3 : decode cJ5_isLatin1_aae02 3 = .ok (.ifCond .eq 14, 3) := by decide +kernel
theorem dJ5_isLatin1_aae02_6 : decode cJ5_isLatin1_aae02 6 = .ok (.aload_n 0, 1) := by decide +kernel
theorem dJ5_isLatin1_aae02_7 : decode cJ5_isLatin1_aae02 7 = .ok (.getfield 22, 3) := by decide +kernel
theorem dJ5_isLatin1_aae02_10 : decode cJ5_isLatin1_aae02 10 = .ok (.ifCond .ne 7, 3) := by decide +kernel
theorem dJ5_isLatin1_aae02_13 : decode cJ5_isLatin1_aae02 13 = .ok (.iconst 1, 1) := by decide +kernel
theorem dJ5_isLatin1_aae02_14 : decode cJ5_isLatin1_aae02 14 = .ok (.goto 4, 3) := by decide +kernel
theorem dJ5_isLatin1_aae02_17 : decode cJ5_isLatin1_aae02 17 = .ok (.iconst 0, 1) := by decide +kernel
theorem dJ5_isLatin1_aae02_18 : decode cJ5_isLatin1_aae02 18 = .ok (.ireturn, 1) := by decide +kernel
theorem dJ5_inflateIfNeededFor_a7421_0 : decode cJ5_inflateIfNeededFor_a7421 0 = .ok (.getstatic 18, 3) := by decide +kernel
theorem dJ5_inflateIfNeededFor_a7421_3 : decode cJ5_inflateIfNeededFor_a7421 3 = .ok (.ifCond .eq 18, 3) := by decide +kernel
theorem dJ5_inflateIfNeededFor_a7421_6 : decode cJ5_inflateIfNeededFor_a7421 6 = .ok (.aload_n 0, 1) := by decide +kernel
theorem dJ5_inflateIfNeededFor_a7421_7 : decode cJ5_inflateIfNeededFor_a7421 7 = .ok (.getfield 22, 3) := by decide +kernel
theorem dJ5_inflateIfNeededFor_a7421_10 : decode cJ5_inflateIfNeededFor_a7421 10 = .ok (.aload_n 1, 1) := by decide +kernel
theorem dJ5_inflateIfNeededFor_a7421_11 : decode cJ5_inflateIfNeededFor_a7421 11 = .ok (.invokevirtual 40, 3) := by decide +kernel
theorem dJ5_inflateIfNeededFor_a7421_14 : decode cJ5_inflateIfNeededFor_a7421 14 = .ok (.if_icmp .eq 7, 3) := by decide +kernel
theorem dJ5_inflateIfNeededFor_a7421_17 : decode cJ5_inflateIfNeededFor_a7421 17 = .ok (.aload_n 0, 1) := by decide +kernel
theorem dJ5_inflateIfNeededFor_a7421_18 : decode cJ5_inflateIfNeededFor_a7421 18 = .ok (.invokevirtual 195, 3) := by decide +kernel
theorem dJ5_inflateIfNeededFor_a7421_21 : decode cJ5_inflateIfNeededFor_a7421 21 = .ok (.return_, 1) := by decide +kernel
theorem dJ0_getBytes_840e7_0 : decode cJ0_getBytes_840e7 0 = .ok (.aload_n 0, 1) := by decide +kernel
theorem dJ0_getBytes_840e7_1 : decode cJ0_getBytes_840e7 1 = .ok (.invokevirtual 335, 3) := by decide +kernel
theorem dJ0_getBytes_840e7_4 : decode cJ0_getBytes_840e7 4 = .ok (.iload_n 3, 1) := by decide +kernel
theorem dJ0_getBytes_840e7_5 : decode cJ0_getBytes_840e7 5 = .ok (.if_icmp .ne 23, 3) := by decide +kernel
theorem dJ0_getBytes_840e7_8 : decode cJ0_getBytes_840e7 8 = .ok (.aload_n 0, 1) := by decide +kernel
theorem dJ0_getBytes_840e7_9 : decode cJ0_getBytes_840e7 9 = .ok (.getfield 9, 3) := by decide +kernel
theorem dJ0_getBytes_840e7_12 : decode cJ0_getBytes_840e7 12 = .ok (.iconst 0, 1) := by decide +kernel
theorem dJ0_getBytes_840e7_13 : decode cJ0_getBytes_840e7 13 = .ok (.aload_n 1, 1) := by decide +kernel
theorem dJ0_getBytes_840e7_14 : decode cJ0_getBytes_840e7 14 = .ok (.iload_n 2, 1) := by decide +kernel
theorem dJ0_getBytes_840e7_15 : decode cJ0_getBytes_840e7 15 = .ok (.iload_n 3, 1) := by decide +kernel
theorem dJ0_getBytes_840e7_16 : decode cJ0_getBytes_840e7 16 = .ok (.ishl, 1) := by decide +kernel
theorem dJ0_getBytes_840e7_17 : decode cJ0_getBytes_840e7 17 = .ok (.aload_n 0, 1) := by decide +kernel
theorem dJ0_getBytes_840e7_18 : decode cJ0_getBytes_840e7 18 = .ok (.getfield 9, 3) := by decide +kernel
theorem dJ0_getBytes_840e7_21 : decode cJ0_getBytes_840e7 21 = .ok (.arraylength, 1) := by decide +kernel
theorem dJ0_getBytes_840e7_22 : decode cJ0_getBytes_840e7 22 = .ok (.invokestatic 212, 3) := by decide +kernel
theorem dJ0_getBytes_840e7_25 : decode cJ0_getBytes_840e7 25 = .ok (.goto 18, 3) := by decide +kernel
theorem dJ0_getBytes_840e7_28 : decode cJ0_getBytes_840e7 28 = .ok (.aload_n 0, 1) := by decide +kernel
theorem dJ0_getBytes_840e7_29 : decode cJ0_getBytes_840e7 29 = .ok (.getfield 9, 3) := by decide +kernel
theorem dJ0_getBytes_840e7_32 : decode cJ0_getBytes_840e7 32 = .ok (.iconst 0, 1) := by decide +kernel
theorem dJ0_getBytes_840e7_33 : decode cJ0_getBytes_840e7 33 = .ok (.aload_n 1, 1) := by decide +kernel
theorem dJ0_getBytes_840e7_34 : decode cJ0_getBytes_840e7 34 = .ok (.iload_n 2, 1) := by decide +kernel
theorem dJ0_getBytes_840e7_35 : decode cJ0_getBytes_840e7 35 = .ok (.aload_n 0, 1) := by decide +kernel
theorem dJ0_getBytes_840e7_36 : decode cJ0_getBytes_840e7 36 = .ok (.getfield 9, 3) := by decide +kernel
theorem dJ0_getBytes_840e7_39 : decode cJ0_getBytes_840e7 39 = .ok (.arraylength, 1) := by decide +kernel
theorem dJ0_getBytes_840e7_40 : decode cJ0_getBytes_840e7 40 = .ok (.invokestatic 106, 3) := by decide +kernel
theorem dJ0_getBytes_840e7_43 : decode cJ0_getBytes_840e7 43 = .ok (.return_, 1) := by decide +kernel
theorem dJ5_putStringAt_47b60_0 : decode cJ5_putStringAt_47b60 0 = .ok (.aload_n 0, 1) := by decide +kernel
theorem dJ5_putStringAt_47b60_1 : decode cJ5_putStringAt_47b60 1 = .ok (.aload_n 2, 1) := by decide +kernel
theorem dJ5_putStringAt_47b60_2 : decode cJ5_putStringAt_47b60 2 = .ok (.invokevirtual 397, 3) := by decide +kernel
theorem dJ5_putStringAt_47b60_5 : decode cJ5_putStringAt_47b60 5 = .ok (.aload_n 2, 1) := by decide +kernel
theorem dJ5_putStringAt_47b60_6 : decode cJ5_putStringAt_47b60 6 = .ok (.aload_n 0, 1) := by decide +kernel
theorem dJ5_putStringAt_47b60_7 : decode cJ5_putStringAt_47b60 7 = .ok (.getfield 15, 3) := by decide +kernel
theorem dJ5_putStringAt_47b60_10 : decode cJ5_putStringAt_47b60 10 = .ok (.iload_n 1, 1) := by decide +kernel
theorem dJ5_putStringAt_47b60_11 : decode cJ5_putStringAt_47b60 11 = .ok (.aload_n 0, 1) := by decide +kernel
theorem dJ5_putStringAt_47b60_12 : decode cJ5_putStringAt_47b60 12 = .ok (.getfield 22, 3) := by decide +kernel
theorem dJ5_putStringAt_47b60_15 : decode cJ5_putStringAt_47b60 15 = .ok (.invokevirtual 399, 3) := by decide +kernel
theorem dJ5_putStringAt_47b60_18 : decode cJ5_putStringAt_47b60 18 = .ok (.return_, 1) := by decide +kernel
theorem dJ5_append_cf1ce_0 : decode cJ5_append_cf1ce 0 = .ok (.aload_n 1, 1) := by decide +kernel
theorem dJ5_append_cf1ce_1 : decode cJ5_append_cf1ce 1 = .ok (.ifnonnull 8, 3) := by decide +kernel
theorem dJ5_append_cf1ce_4 : decode cJ5_append_cf1ce 4 = .ok (.aload_n 0, 1) := by decide +kernel
theorem dJ5_append_cf1ce_5 : decode cJ5_append_cf1ce 5 = .ok (.invokevirtual 204, 3) := by decide +kernel
theorem dJ5_append_cf1ce_8 : decode cJ5_append_cf1ce 8 = .ok (.areturn, 1) := by decide +kernel
theorem dJ5_append_cf1ce_9 : decode cJ5_append_cf1ce 9 = .ok (.aload_n 1, 1) := by decide +kernel
theorem dJ5_append_cf1ce_10 : decode cJ5_append_cf1ce 10 = .ok (.invokevirtual 32, 3) := by decide +kernel
theorem dJ5_append_cf1ce_13 : decode cJ5_append_cf1ce 13 = .ok (.istore_n 2, 1) := by decide +kernel
theorem dJ5_append_cf1ce_14 : decode cJ5_append_cf1ce 14 = .ok (.aload_n 0, 1) := by decide +kernel
theorem dJ5_append_cf1ce_15 : decode cJ5_append_cf1ce 15 = .ok (.aload_n 0, 1) := by decide +kernel
theorem dJ5_append_cf1ce_16 : decode cJ5_append_cf1ce 16 = .ok (.getfield 79, 3) := by decide +kernel
theorem dJ5_append_cf1ce_19 : decode cJ5_append_cf1ce 19 = .ok (.iload_n 2, 1) := by decide +kernel
theorem dJ5_append_cf1ce_20 : decode cJ5_append_cf1ce 20 = .ok (.iadd, 1) := by decide +kernel
theorem dJ5_append_cf1ce_21 : decode cJ5_append_cf1ce 21 = .ok (.invokevirtual 100, 3) := by decide +kernel
theorem dJ5_append_cf1ce_24 : decode cJ5_append_cf1ce 24 = .ok (.aload_n 0, 1) := by decide +kernel
theorem dJ5_append_cf1ce_25 : decode cJ5_append_cf1ce 25 = .ok (.aload_n 0, 1) := by decide +kernel
theorem dJ5_append_cf1ce_26 : decode cJ5_append_cf1ce 26 = .ok (.getfield 79, 3) := by decide +kernel
theorem dJ5_append_cf1ce_29 : decode cJ5_append_cf1ce 29 = .ok (.aload_n 1, 1) := by decide +kernel
theorem dJ5_append_cf1ce_30 : decode cJ5_append_cf1ce 30 = .ok (.invokevirtual 208, 3) := by decide +kernel
theorem dJ5_append_cf1ce_33 : decode cJ5_append_cf1ce 33 = .ok (.aload_n 0, 1) := by decide +kernel
theorem dJ5_append_cf1ce_34 : decode cJ5_append_cf1ce 34 = .ok (.dup, 1) := by decide +kernel
theorem dJ5_append_cf1ce_35 : decode cJ5_append_cf1ce 35 = .ok (.getfield 79, 3) := by decide +kernel
theorem dJ5_append_cf1ce_38 : decode cJ5_append_cf1ce 38 = .ok (.iload_n 2, 1) := by decide +kernel
theorem dJ5_append_cf1ce_39 : decode cJ5_append_cf1ce 39 = .ok (.iadd, 1) := by decide +kernel
theorem dJ5_append_cf1ce_40 : decode cJ5_append_cf1ce 40 = .ok (.putfield 79, 3) := by decide +kernel
theorem dJ5_append_cf1ce_43 : decode cJ5_append_cf1ce 43 = .ok (.aload_n 0, 1) := by decide +kernel
theorem dJ5_append_cf1ce_44 : decode cJ5_append_cf1ce 44 = .ok (.areturn, 1) := by decide +kernel
theorem dJ4_append_15ec4_0 : decode cJ4_append_15ec4 0 = .ok (.aload_n 0, 1) := by decide +kernel
theorem dJ4_append_15ec4_1 : decode cJ4_append_15ec4 1 = .ok (.aload_n 1, 1) := by decide +kernel
theorem dJ4_append_15ec4_2 : decode cJ4_append_15ec4 2 = .ok (.invokespecial 29, 3) := by decide +kernel
theorem dJ4_append_15ec4_5 : decode cJ4_append_15ec4 5 = .ok (.pop, 1) := by decide +kernel
theorem dJ4_append_15ec4_6 : decode cJ4_append_15ec4 6 = .ok (.aload_n 0, 1) := by decide +kernel
theorem dJ4_append_15ec4_7 : decode cJ4_append_15ec4 7 = .ok (.areturn, 1) := by decide +kernel
theorem dJ6_stringSize_0f7a4_0 : decode cJ6_stringSize_0f7a4 0 = .ok (.iconst 1, 1) := by decide +kernel
theorem dJ6_stringSize_0f7a4_1 : decode cJ6_stringSize_0f7a4 1 = .ok (.istore_n 1, 1) := by decide +kernel
theorem dJ6_stringSize_0f7a4_2 : decode cJ6_stringSize_0f7a4 2 = .ok (.iload_n 0, 1) := by decide +kernel
theorem dJ6_stringSize_0f7a4_3 : decode cJ6_stringSize_0f7a4 3 = .ok (.ifCond .lt 8, 3) := by decide +kernel
theorem dJ6_stringSize_0f7a4_6 : decode cJ6_stringSize_0f7a4 6 = .ok (.iconst 0, 1) := by decide +kernel
theorem dJ6_stringSize_0f7a4_7 : decode cJ6_stringSize_0f7a4 7 = .ok (.istore_n 1, 1) := by decide +kernel
theorem dJ6_stringSize_0f7a4_8 : decode cJ6_stringSize_0f7a4 8 = .ok (.iload_n 0, 1) := by decide +kernel
theorem dJ6_stringSize_0f7a4_9 : decode cJ6_stringSize_0f7a4 9 = .ok (.ineg, 1) := by decide +kernel
theorem dJ6_stringSize_0f7a4_10 : decode cJ6_stringSize_0f7a4 10 = .ok (.istore_n 0, 1) := by decide +kernel
theorem dJ6_stringSize_0f7a4_11 : decode cJ6_stringSize_0f7a4 11 = .ok (.bipush (-10), 2) := by decide +kernel
theorem dJ6_stringSize_0f7a4_13 : decode cJ6_stringSize_0f7a4 13 = .ok (.istore_n 2, 1) := by decide +kernel
theorem dJ6_stringSize_0f7a4_14 : decode cJ6_stringSize_0f7a4 14 = .ok (.iconst 1, 1) := by decide +kernel
theorem dJ6_stringSize_0f7a4_15 : decode cJ6_stringSize_0f7a4 15 = .ok (.istore_n 3, 1) := by decide +kernel
theorem dJ6_stringSize_0f7a4_16 : decode cJ6_stringSize_0f7a4 16 = .ok (.iload_n 3, 1) := by decide +kernel
theorem dJ6_stringSize_0f7a4_17 : decode cJ6_stringSize_0f7a4 17 = .ok (.bipush 10, 2) := by decide +kernel
theorem dJ6_stringSize_0f7a4_19 : decode cJ6_stringSize_0f7a4 19 = .ok (.if_icmp .ge 23, 3) := by decide +kernel
theorem dJ6_stringSize_0f7a4_22 : decode cJ6_stringSize_0f7a4 22 = .ok (.iload_n 0, 1) := by decide +kernel
theorem dJ6_stringSize_0f7a4_23 : decode cJ6_stringSize_0f7a4 23 = .ok (.iload_n 2, 1) := by decide +kernel
theorem dJ6_stringSize_0f7a4_24 : decode cJ6_stringSize_0f7a4 24 = .ok (.if_icmp .le 7, 3) := by decide +kernel
theorem dJ6_stringSize_0f7a4_27 : decode cJ6_stringSize_0f7a4 27 = .ok (.iload_n 3, 1) := by decide +kernel
theorem dJ6_stringSize_0f7a4_28 : decode cJ6_stringSize_0f7a4 28 = .ok (.iload_n 1, 1) := by decide +kernel
theorem dJ6_stringSize_0f7a4_29 : decode cJ6_stringSize_0f7a4 29 = .ok (.iadd, 1) := by decide +kernel
theorem dJ6_stringSize_0f7a4_30 : decode cJ6_stringSize_0f7a4 30 = .ok (.ireturn, 1) := by decide +kernel
theorem dJ6_stringSize_0f7a4_31 : decode cJ6_stringSize_0f7a4 31 = .ok (.bipush 10, 2) := by decide +kernel
theorem dJ6_stringSize_0f7a4_33 : decode cJ6_stringSize_0f7a4 33 = .ok (.iload_n 2, 1) := by decide +kernel
theorem dJ6_stringSize_0f7a4_34 : decode cJ6_stringSize_0f7a4 34 = .ok (.imul, 1) := by decide +kernel
theorem dJ6_stringSize_0f7a4_35 : decode cJ6_stringSize_0f7a4 35 = .ok (.istore_n 2, 1) := by decide +kernel
theorem dJ6_stringSize_0f7a4_36 : decode cJ6_stringSize_0f7a4 36 = .ok (.iinc 3 1, 3) := by decide +kernel
theorem dJ6_stringSize_0f7a4_39 : decode cJ6_stringSize_0f7a4 39 = .ok (.goto (-23), 3) := by decide +kernel
theorem dJ6_stringSize_0f7a4_42 : decode cJ6_stringSize_0f7a4 42 = .ok (.bipush 10, 2) := by decide +kernel
theorem dJ6_stringSize_0f7a4_44 : decode cJ6_stringSize_0f7a4 44 = .ok (.iload_n 1, 1) := by decide +kernel
theorem dJ6_stringSize_0f7a4_45 : decode cJ6_stringSize_0f7a4 45 = .ok (.iadd, 1) := by decide +kernel
theorem dJ6_stringSize_0f7a4_46 : decode cJ6_stringSize_0f7a4 46 = .ok (.ireturn, 1) := by decide +kernel
theorem dJ6_getChars_ba4f3_0 : decode cJ6_getChars_ba4f3 0 = .ok (.iload_n 1, 1) := by decide +kernel
theorem dJ6_getChars_ba4f3_1 : decode cJ6_getChars_ba4f3 1 = .ok (.istore 5, 2) := by decide +kernel
theorem dJ6_getChars_ba4f3_3 : decode cJ6_getChars_ba4f3 3 = .ok (.iload_n 0, 1) := by decide +kernel
theorem dJ6_getChars_ba4f3_4 : decode cJ6_getChars_ba4f3 4 = .ok (.ifCond .ge 7, 3) := by decide +kernel
theorem dJ6_getChars_ba4f3_7 : decode cJ6_getChars_ba4f3 7 = .ok (.iconst 1, 1) := by decide +kernel
theorem dJ6_getChars_ba4f3_8 : decode cJ6_getChars_ba4f3 8 = .ok (.goto 4, 3) := by decide +kernel
theorem dJ6_getChars_ba4f3_11 : decode cJ6_getChars_ba4f3 11 = .ok (.iconst 0, 1) := by decide +kernel
theorem dJ6_getChars_ba4f3_12 : decode cJ6_getChars_ba4f3 12 = .ok (.istore 6, 2) := by decide +kernel
theorem dJ6_getChars_ba4f3_14 : decode cJ6_getChars_ba4f3 14 = .ok (.iload 6, 2) := by decide +kernel
theorem dJ6_getChars_ba4f3_16 : decode cJ6_getChars_ba4f3 16 = .ok (.ifCond .ne 6, 3) := by decide +kernel
theorem dJ6_getChars_ba4f3_19 : decode cJ6_getChars_ba4f3 19 = .ok (.iload_n 0, 1) := by decide +kernel
theorem dJ6_getChars_ba4f3_20 : decode cJ6_getChars_ba4f3 20 = .ok (.ineg, 1) := by decide +kernel
theorem dJ6_getChars_ba4f3_21 : decode cJ6_getChars_ba4f3 21 = .ok (.istore_n 0, 1) := by decide +kernel
theorem dJ6_getChars_ba4f3_22 : decode cJ6_getChars_ba4f3 22 = .ok (.iload_n 0, 1) := by decide +kernel
theorem dJ6_getChars_ba4f3_23 : decode cJ6_getChars_ba4f3 23 = .ok (.bipush (-100), 2) := by decide +kernel
theorem dJ6_getChars_ba4f3_25 : decode cJ6_getChars_ba4f3 25 = .ok (.if_icmp .gt 47, 3) := by decide +kernel
theorem dJ6_getChars_ba4f3_28 : decode cJ6_getChars_ba4f3 28 = .ok (.iload_n 0, 1) := by decide +kernel
theorem dJ6_getChars_ba4f3_29 : decode cJ6_getChars_ba4f3 29 = .ok (.bipush 100, 2) := by decide +kernel
theorem dJ6_getChars_ba4f3_31 : decode cJ6_getChars_ba4f3 31 = .ok (.idiv, 1) := by decide +kernel
theorem dJ6_getChars_ba4f3_32 : decode cJ6_getChars_ba4f3 32 = .ok (.istore_n 3, 1) := by decide +kernel
theorem dJ6_getChars_ba4f3_33 : decode cJ6_getChars_ba4f3 33 = .ok (.iload_n 3, 1) := by decide +kernel
theorem dJ6_getChars_ba4f3_34 : decode cJ6_getChars_ba4f3 34 = .ok (.bipush 100, 2) := by decide +kernel
theorem dJ6_getChars_ba4f3_36 : decode cJ6_getChars_ba4f3 36 = .ok (.imul, 1) := by decide +kernel
theorem dJ6_getChars_ba4f3_37 : decode cJ6_getChars_ba4f3 37 = .ok (.iload_n 0, 1) := by decide +kernel
theorem dJ6_getChars_ba4f3_38 : decode cJ6_getChars_ba4f3 38 = .ok (.isub, 1) := by decide +kernel
theorem dJ6_getChars_ba4f3_39 : decode cJ6_getChars_ba4f3 39 = .ok (.istore 4, 2) := by decide +kernel
theorem dJ6_getChars_ba4f3_41 : decode cJ6_getChars_ba4f3 41 = .ok (.iload_n 3, 1) := by decide +kernel
theorem dJ6_getChars_ba4f3_42 : decode cJ6_getChars_ba4f3 42 = .ok (.istore_n 0, 1) := by decide +kernel
theorem dJ6_getChars_ba4f3_43 : decode cJ6_getChars_ba4f3 43 = .ok (.aload_n 2, 1) := by decide +kernel
theorem dJ6_getChars_ba4f3_44 : decode cJ6_getChars_ba4f3 44 = .ok (.iinc 5 (-1), 3) := by decide +kernel
theorem dJ6_getChars_ba4f3_47 : decode cJ6_getChars_ba4f3 47 = .ok (.iload 5, 2) := by decide +kernel
theorem dJ6_getChars_ba4f3_49 : decode cJ6_getChars_ba4f3 49 = .ok (.getstatic 83, 3) := by decide +kernel
theorem dJ6_getChars_ba4f3_52 : decode cJ6_getChars_ba4f3 52 = .ok (.iload 4, 2) := by decide +kernel
theorem dJ6_getChars_ba4f3_54 : decode cJ6_getChars_ba4f3 54 = .ok (.baload, 1) := by decide +kernel
theorem dJ6_getChars_ba4f3_55 : decode cJ6_getChars_ba4f3 55 = .ok (.bastore, 1) := by decide +kernel
theorem dJ6_getChars_ba4f3_56 : decode cJ6_getChars_ba4f3 56 = .ok (.aload_n 2, 1) := by decide +kernel
theorem dJ6_getChars_ba4f3_57 : decode cJ6_getChars_ba4f3 57 = .ok (.iinc 5 (-1), 3) := by decide +kernel
theorem dJ6_getChars_ba4f3_60 : decode cJ6_getChars_ba4f3 60 = .ok (.iload 5, 2) := by decide +kernel
theorem dJ6_getChars_ba4f3_62 : decode cJ6_getChars_ba4f3 62 = .ok (.getstatic 87, 3) := by decide +kernel
theorem dJ6_getChars_ba4f3_65 : decode cJ6_getChars_ba4f3 65 = .ok (.iload 4, 2) := by decide +kernel
theorem dJ6_getChars_ba4f3_67 : decode cJ6_getChars_ba4f3 67 = .ok (.baload, 1) := by decide +kernel
theorem dJ6_getChars_ba4f3_68 : decode cJ6_getChars_ba4f3 68 = .ok (.bastore, 1) := by decide +kernel
theorem dJ6_getChars_ba4f3_69 : decode cJ6_getChars_ba4f3 69 = .ok (.goto (-47), 3) := by decide +kernel
theorem dJ6_getChars_ba4f3_72 : decode cJ6_getChars_ba4f3 72 = .ok (.aload_n 2, 1) := by decide +kernel
theorem dJ6_getChars_ba4f3_73 : decode cJ6_getChars_ba4f3 73 = .ok (.iinc 5 (-1), 3) := by decide +kernel
theorem dJ6_getChars_ba4f3_76 : decode cJ6_getChars_ba4f3 76 = .ok (.iload 5, 2) := by decide +kernel
theorem dJ6_getChars_ba4f3_78 : decode cJ6_getChars_ba4f3 78 = .ok (.getstatic 83, 3) := by decide +kernel
theorem dJ6_getChars_ba4f3_81 : decode cJ6_getChars_ba4f3 81 = .ok (.iload_n 0, 1) := by decide +kernel
theorem dJ6_getChars_ba4f3_82 : decode cJ6_getChars_ba4f3 82 = .ok (.ineg, 1) := by decide +kernel
theorem dJ6_getChars_ba4f3_83 : decode cJ6_getChars_ba4f3 83 = .ok (.baload, 1) := by decide +kernel
theorem dJ6_getChars_ba4f3_84 : decode cJ6_getChars_ba4f3 84 = .ok (.bastore, 1) := by decide +kernel
theorem dJ6_getChars_ba4f3_85 : decode cJ6_getChars_ba4f3 85 = .ok (.iload_n 0, 1) := by decide +kernel
theorem dJ6_getChars_ba4f3_86 : decode cJ6_getChars_ba4f3 86 = .ok (.bipush (-9), 2) := by decide +kernel
theorem dJ6_getChars_ba4f3_88 : decode cJ6_getChars_ba4f3 88 = .ok (.if_icmp .ge 16, 3) := by decide +kernel
theorem dJ6_getChars_ba4f3_91 : decode cJ6_getChars_ba4f3 91 = .ok (.aload_n 2, 1) := by decide +kernel
theorem dJ6_getChars_ba4f3_92 : decode cJ6_getChars_ba4f3 92 = .ok (.iinc 5 (-1), 3) := by decide +kernel
theorem dJ6_getChars_ba4f3_95 : decode cJ6_getChars_ba4f3 95 = .ok (.iload 5, 2) := by decide +kernel
theorem dJ6_getChars_ba4f3_97 : decode cJ6_getChars_ba4f3 97 = .ok (.getstatic 87, 3) := by decide +kernel
theorem dJ6_getChars_ba4f3_100 : decode cJ6_getChars_ba4f3 100 = .ok (.iload_n 0, 1) := by decide +kernel
theorem dJ6_getChars_ba4f3_101 : decode cJ6_getChars_ba4f3 101 = .ok (.ineg, 1) := by decide +kernel
theorem dJ6_getChars_ba4f3_102 : decode cJ6_getChars_ba4f3 102 = .ok (.baload, 1) := by decide +kernel
theorem dJ6_getChars_ba4f3_103 : decode cJ6_getChars_ba4f3 103 = .ok (.bastore, 1) := by decide +kernel
theorem dJ6_getChars_ba4f3_104 : decode cJ6_getChars_ba4f3 104 = .ok (.iload 6, 2) := by decide +kernel
theorem dJ6_getChars_ba4f3_106 : decode cJ6_getChars_ba4f3 106 = .ok (.ifCond .eq 12, 3) := by decide +kernel
theorem dJ6_getChars_ba4f3_109 : decode cJ6_getChars_ba4f3 109 = .ok (.aload_n 2, 1) := by decide +kernel
theorem dJ6_getChars_ba4f3_110 : decode cJ6_getChars_ba4f3 110 = .ok (.iinc 5 (-1), 3) := by decide +kernel
theorem dJ6_getChars_ba4f3_113 : decode cJ6_getChars_ba4f3 113 = .ok (.iload 5, 2) := by decide +kernel
theorem dJ6_getChars_ba4f3_115 : decode cJ6_getChars_ba4f3 115 = .ok (.bipush 45, 2) := by decide +kernel
theorem dJ6_getChars_ba4f3_117 : decode cJ6_getChars_ba4f3 117 = .ok (.bastore, 1) := by decide +kernel
theorem dJ6_getChars_ba4f3_118 : decode cJ6_getChars_ba4f3 118 = .ok (.iload 5, 2) := by decide +kernel
theorem dJ6_getChars_ba4f3_120 : decode cJ6_getChars_ba4f3 120 = .ok (.ireturn, 1) := by decide +kernel
theorem dJ5_append_c97b9_0 : decode cJ5_append_c97b9 0 = .ok (.aload_n 0, 1) := by decide +kernel
theorem dJ5_append_c97b9_1 : decode cJ5_append_c97b9 1 = .ok (.getfield 79, 3) := by decide +kernel
theorem dJ5_append_c97b9_4 : decode cJ5_append_c97b9 4 = .ok (.istore_n 2, 1) := by decide +kernel
theorem dJ5_append_c97b9_5 : decode cJ5_append_c97b9 5 = .ok (.iload_n 2, 1) := by decide +kernel
theorem dJ5_append_c97b9_6 : decode cJ5_append_c97b9 6 = .ok (.iload_n 1, 1) := by decide +kernel
theorem dJ5_append_c97b9_7 : decode cJ5_append_c97b9 7 = .ok (.invokestatic 245, 3) := by decide +kernel
theorem dJ5_append_c97b9_10 : decode cJ5_append_c97b9 10 = .ok (.iadd, 1) := by decide +kernel
theorem dJ5_append_c97b9_11 : decode cJ5_append_c97b9 11 = .ok (.istore_n 3, 1) := by decide +kernel
theorem dJ5_append_c97b9_12 : decode cJ5_append_c97b9 12 = .ok (.aload_n 0, 1) := by decide +kernel
theorem dJ5_append_c97b9_13 : decode cJ5_append_c97b9 13 = .ok (.iload_n 3, 1) := by decide +kernel
theorem dJ5_append_c97b9_14 : decode cJ5_append_c97b9 14 = .ok (.invokevirtual 100, 3) := by decide +kernel
theorem dJ5_append_c97b9_17 : decode cJ5_append_c97b9 17 = .ok (.aload_n 0, 1) := by decide +kernel
theorem dJ5_append_c97b9_18 : decode cJ5_append_c97b9 18 = .ok (.invokevirtual 83, 3) := by decide +kernel
theorem dJ5_append_c97b9_21 : decode cJ5_append_c97b9 21 = .ok (.ifCond .eq 16, 3) := by decide +kernel
theorem dJ5_append_c97b9_24 : decode cJ5_append_c97b9 24 = .ok (.iload_n 1, 1) := by decide +kernel
theorem dJ5_append_c97b9_25 : decode cJ5_append_c97b9 25 = .ok (.iload_n 3, 1) := by decide +kernel
theorem dJ5_append_c97b9_26 : decode cJ5_append_c97b9 26 = .ok (.aload_n 0, 1) := by decide +kernel
theorem dJ5_append_c97b9_27 : decode cJ5_append_c97b9 27 = .ok (.getfield 15, 3) := by decide +kernel
theorem dJ5_append_c97b9_30 : decode cJ5_append_c97b9 30 = .ok (.invokestatic 248, 3) := by decide +kernel
theorem dJ5_append_c97b9_33 : decode cJ5_append_c97b9 33 = .ok (.pop, 1) := by decide +kernel
theorem dJ5_append_c97b9_34 : decode cJ5_append_c97b9 34 = .ok (.goto 14, 3) := by decide +kernel
theorem dJ5_append_c97b9_37 : decode cJ5_append_c97b9 37 = .ok (.iload_n 1, 1) := by decide +kernel
theorem dJ5_append_c97b9_38 : decode cJ5_append_c97b9 38 = .ok (.iload_n 2, 1) := by decide +kernel
theorem dJ5_append_c97b9_39 : decode cJ5_append_c97b9 39 = .ok (.iload_n 3, 1) := by decide +kernel
theorem dJ5_append_c97b9_40 : decode cJ5_append_c97b9 40 = .ok (.aload_n 0, 1) := by decide +kernel
theorem dJ5_append_c97b9_41 : decode cJ5_append_c97b9 41 = .ok (.getfield 15, 3) := by decide +kernel
theorem dJ5_append_c97b9_44 : decode cJ5_append_c97b9 44 = .ok (.invokestatic 251, 3) := by decide +kernel
theorem dJ5_append_c97b9_47 : decode cJ5_append_c97b9 47 = .ok (.pop, 1) := by decide +kernel
theorem dJ5_append_c97b9_48 : decode cJ5_append_c97b9 48 = .ok (.aload_n 0, 1) := by decide +kernel
theorem dJ5_append_c97b9_49 : decode cJ5_append_c97b9 49 = .ok (.iload_n 3, 1) := by decide +kernel
theorem dJ5_append_c97b9_50 : decode cJ5_append_c97b9 50 = .ok (.putfield 79, 3) := by decide +kernel
theorem dJ5_append_c97b9_53 : decode cJ5_append_c97b9 53 = .ok (.aload_n 0, 1) := by decide +kernel
theorem dJ5_append_c97b9_54 : decode cJ5_append_c97b9 54 = .ok (.areturn, 1) := by decide +kernel
theorem dJ4_append_bf812_0 : decode cJ4_append_bf812 0 = .ok (.aload_n 0, 1) := by decide +kernel
theorem dJ4_append_bf812_1 : decode cJ4_append_bf812 1 = .ok (.iload_n 1, 1) := by decide +kernel
theorem dJ4_append_bf812_2 : decode cJ4_append_bf812 2 = .ok (.invokespecial 53, 3) := by decide +kernel
theorem dJ4_append_bf812_5 : decode cJ4_append_bf812 5 = .ok (.pop, 1) := by decide +kernel
theorem dJ4_append_bf812_6 : decode cJ4_append_bf812 6 = .ok (.aload_n 0, 1) := by decide +kernel
theorem dJ4_append_bf812_7 : decode cJ4_append_bf812 7 = .ok (.areturn, 1) := by decide +kernel
theorem mi_J5_isLatin1_aae02 : MInfo yJ5_isLatin1_aae02 cJ5_isLatin1_aae02 1 (some .boolean) 0 := ⟨wq_1250, wq_65, by decide, ⟨by decide +kernel, by decide +kernel, by decide +kernel⟩, by decide +kernel⟩
theorem mi_J5_inflateIfNeededFor_a7421 : MInfo yJ5_inflateIfNeededFor_a7421 cJ5_inflateIfNeededFor_a7421 2 none 1 := ⟨wq_1275, wq_65, by decide, ⟨by decide +kernel, by decide +kernel, by decide +kernel⟩, by decide +kernel⟩
theorem mi_J0_getBytes_840e7 : MInfo yJ0_getBytes_840e7 cJ0_getBytes_840e7 4 none 3 := ⟨wq_1306, wq_67, by decide, ⟨by decide +kernel, by decide +kernel, by decide +kernel⟩, by decide +kernel⟩
theorem mi_J5_putStringAt_47b60 : MInfo yJ5_putStringAt_47b60 cJ5_putStringAt_47b60 3 none 2 := ⟨wq_1271, wq_65, by decide, ⟨by decide +kernel, by decide +kernel, by decide +kernel⟩, by decide +kernel⟩
theorem mi_J5_append_cf1ce : MInfo yJ5_append_cf1ce cJ5_append_cf1ce 3 (some (.object "java/lang/AbstractStringBuilder")) 1 := ⟨wq_1210, wq_65, by decide, ⟨by decide +kernel, by decide +kernel, by decide +kernel⟩, by decide +kernel⟩
theorem mi_J4_append_15ec4 : MInfo yJ4_append_15ec4 cJ4_append_15ec4 2 (some (.object "java/lang/StringBuilder")) 1 := ⟨wq_1206, wq_66, by decide, ⟨by decide +kernel, by decide +kernel, by decide +kernel⟩, by decide +kernel⟩
theorem mi_J6_stringSize_0f7a4 : MInfo yJ6_stringSize_0f7a4 cJ6_stringSize_0f7a4 4 (some .int) 1 := ⟨wq_1318, wq_77, by decide, ⟨by decide +kernel, by decide +kernel, by decide +kernel⟩, by decide +kernel⟩
theorem mi_J6_getChars_ba4f3 : MInfo yJ6_getChars_ba4f3 cJ6_getChars_ba4f3 7 (some .int) 3 := ⟨wq_1321, wq_77, by decide, ⟨by decide +kernel, by decide +kernel, by decide +kernel⟩, by decide +kernel⟩
theorem mi_J5_append_c97b9 : MInfo yJ5_append_c97b9 cJ5_append_c97b9 4 (some (.object "java/lang/AbstractStringBuilder")) 1 := ⟨wq_1315, wq_65, by decide, ⟨by decide +kernel, by decide +kernel, by decide +kernel⟩, by decide +kernel⟩
theorem mi_J4_append_bf812 : MInfo yJ4_append_bf812 cJ4_append_bf812 2 (some (.object "java/lang/StringBuilder")) 1 := ⟨wq_1312, wq_66, by decide, ⟨by decide +kernel, by decide +kernel, by decide +kernel⟩, by decide +kernel⟩
section OFRO
variable {l : Launch} {y : MethodName} {cc : ByteArray} {n : Nat} {ret : Option FieldType} {rn mc ms : Nat} {cl : List vw_C} {D : va_G} {Z : Nat → ClassId} {R : (Nat → Prop) → R2} {sz : Nat} {av : List Value}
theorem ro_ofG {ws : va_W} {ty : FieldType} {K : Int32 → Prop} (hy : plainName y.cls = true) (hn : (lg_sl av).length ≤ n) (hret : ret = some ty)
    (body : ∀ (p : Program) (e : Env) (s : State) (m : MethodId) (args : Array Value) (below : List Frame) (meth : Method) (c : Code) (Q : State → Prop) (A : Nat → Prop), CallFix p m c cc n s args lw_g y.cls → NW s → R A s s.heap → s.heap.size = sz → TS cl D ws A s.heap s.heap [] → va_K D cl (tysG Z) s →
      (∀ (pc : Nat) (ls : Array Slot) (r : Int32), K r → narrow ty (.int r) = .int r → decode cc pc = .ok (.ireturn, 1) → W p l e (rk rn 0 0) s m args below meth c s.heap [] 0 0 Q (F0 m pc ls [.int r])) →
      ∀ ls : Array Slot, lv_has ls n (lv_args 0 av) → W p l e (rk rn 0 0) s m args below meth c s.heap [] 0 0 Q (F0 m 0 ls [])) :
    Met l y (wy y cc n ret) (rk rn 0 0) (preG R cl D Z ws sz av) (vp_Si K) 0 0 (fun _ => False) := by
  refine Met.ofW (cc := cc) (maxL := n) (ret := ret) hy rfl ?_
  intro p e s m args below meth c s₁ B hml hv
  obtain ⟨rfl, hsz, hP, hD, hK, hN, hR⟩ := hv
  have hts : ∀ w ∈ lw_g, w.before av.toArray s = true := fun w hw => atoms_spec (ws := wy y cc n ret) B.pre w (List.mem_cons_of_mem _ hw)
  have hown : s.vm.findClass y.cls = some m.cls := findClass_of_methodNamed B.named
  have hlocks := B.notSynchronized
  have hl := lv_entry av (n := n) hn
  rw [lg_entry_eq]
  refine body p e s m av.toArray below meth c _ (va_A ws sz) ⟨B.exec, B.bytes, hml, hown, hts⟩ hN hR hsz ⟨hP, hD.self, va_S.rf, fun q h => Or.inr (hsz ▸ h)⟩ hK ?_ _ hl
  intro pc ls r hr hnar hd
  exact W.zret (ty := ty) B.exec B.bytes (B.returns.trans hret) hnar (fun t ht _ => ⟨r, rfl, hr, ht⟩) (fun q h => by cases h) hd
end OFRO
theorem JZ.cs {A : Nat → Prop} {U : State} {H : Heap} (h : JZ A U H) : va_Z JSt "COMPACT_STRINGS" "Z" (.int 1) A U H := h.1
theorem byte_nI {x : Nat} (h : x < 128) : (nI x).toInt8.toInt32 = nI x := by
  have key : ∀ a : Fin 128, (nI a.val).toInt8.toInt32 = nI a.val := by decide +kernel
  exact key ⟨x, h⟩
theorem fitb_nI {x : Nat} (h : x < 128) : fits .byte (.int (nI x)) = true := by
  have key : ∀ a : Fin 128, fits .byte (.int (nI a.val)) = true := by decide +kernel
  exact key ⟨x, h⟩
theorem tn_nIb {n : Nat} (h : n < 2 ^ 31) : (nI n).toInt.toNat = n := by rw [nI_toInt h]; rfl
theorem inb_nI {n N : Nat} (h : n < N) (hN : N < 2 ^ 31) : inb (nI n) N := ⟨by rw [nI_toInt (by omega)]; omega, by rw [nI_toInt (by omega)]; omega⟩
set_option maxRecDepth 100000 in
set_option maxHeartbeats 1000000 in
theorem c_sbLat (l : Launch) (D : va_G) (Z rx : Nat → ClassId) (sz b v cap : Nat) (n : Int32) (f : Nat → Int32) : Met l yJ5_isLatin1_aae02 (wy yJ5_isLatin1_aae02 cJ5_isLatin1_aae02 1 (some .boolean)) (rk 0 0 0) (preG (RD rx) vwCl D Z (SBW Z b v cap n f) sz [.ref b]) (vp_Si (fun r => r = 1)) 0 0 (fun _ => False) := by
  refine ro_ofG (ty := .boolean) (by decide +kernel) (Nat.le_of_ble_eq_true rfl) rfl ?_
  intro p e s m args below meth c Q A hC hN hR hsz hT hK hret ls hl
  have hJZ := hR.1
  have hx := hC.1
  have hb := hC.2.1
  have hts := hC.2.2.2.2
  have hl : lv_has ls 1 [(0, .ref b)] := hl
  refine va_gets hx hb hJZ.cs hT.2.2.1 hC.2.2.2.1 (hts _ wq_1251) (fun _ h => h) dJ5_isLatin1_aae02_0 ?_
  refine lv_if_eq (tgt := 17) hx hb dJ5_isLatin1_aae02_3 (by decide) (fun z => absurd z (by decide)) (fun c_3 => ?_)
  refine lv_aload_n hx hb dJ5_isLatin1_aae02_6 rfl (lv_at hl 0 rfl) ?_
  refine w_getJ (C := RJ4) (T := TJ4) (N := 4) (ci := 8) (q0 := 0) (k := 1) hC hK hT.1 fi_J4 rfl rfl rfl (by decide) wq_1364 dJ5_isLatin1_aae02_7 ?_
  refine lv_if_ne (tgt := 17) hx hb dJ5_isLatin1_aae02_10 (by decide) (fun z => absurd rfl z) (fun c_10 => ?_)
  refine lv_iconst (v := 1) hx hb dJ5_isLatin1_aae02_13 (by decide) ?_
  refine lv_goto (tgt := 18) hx hb dJ5_isLatin1_aae02_14 (by decide) ?_
  exact hret 18 ls _ rfl rfl dJ5_isLatin1_aae02_18
set_option maxRecDepth 100000 in
set_option maxHeartbeats 1000000 in
theorem c_inflate (l : Launch) (D : va_G) (Z rx : Nat → ClassId) (sz b v cap q w : Nat) (t : List Nat) (n : Int32) (f bts : Nat → Int32) : Met l yJ5_inflateIfNeededFor_a7421 (wy yJ5_inflateIfNeededFor_a7421 cJ5_inflateIfNeededFor_a7421 2 none) (rk 1 0 0) (preG (RS rx q w t.length bts) vwCl D Z (SBW Z b v cap n f) sz [.ref b, .ref q]) (poV vwCl D Z (fun _ : Unit => SBW Z b v cap n f) () sz (fun _ => True)) 0 0 (va_A (SBW Z b v cap n f) sz) := by
  refine rwv_ofG (wsF := fun _ : Unit => SBW Z b v cap n f) (u0 := ()) (by decide +kernel) (Nat.le_of_ble_eq_true rfl) rfl ?_
  intro p e s m args below meth c Q A hC hN hR hsz hnm hT hK hret ls hl
  have hJZ := hR.1.1
  have hJS : JS q w t.length bts NoA s s.heap := JS.narrow ⟨hR.1.1, hR.2⟩ (fun q z => z.elim)
  have hx := hC.1
  have hb := hC.2.1
  have hts := hC.2.2.2.2
  have hl : lv_has ls 2 [(0, .ref b), (1, .ref q)] := hl
  refine va_gets hx hb hJZ.cs hT.2.2.1 hC.2.2.2.1 (hts _ wq_1251) (fun _ h => h) dJ5_inflateIfNeededFor_a7421_0 ?_
  refine lv_if_eq (tgt := 21) hx hb dJ5_inflateIfNeededFor_a7421_3 (by decide) (fun z => absurd z (by decide)) (fun c_3 => ?_)
  refine lv_aload_n hx hb dJ5_inflateIfNeededFor_a7421_6 rfl (lv_at hl 0 rfl) ?_
  refine w_getJ (C := RJ4) (T := TJ4) (N := 4) (ci := 8) (q0 := 0) (k := 1) hC hK hT.1 fi_J4 rfl rfl rfl (by decide) wq_1364 dJ5_inflateIfNeededFor_a7421_7 ?_
  refine lv_aload_n hx hb dJ5_inflateIfNeededFor_a7421_10 rfl (lv_at hl 1 rfl) ?_
  refine ro_go (runJV (As := []) hC (c_coder l q w t.length bts) mi_J0_coder_7d493 wq_1276 wq_120 wq_121 (by decide) JS.steady hJS hJS.2.recv rfl hl.1 rfl (Nat.le_of_ble_eq_true rfl) dJ5_inflateIfNeededFor_a7421_11 ⟨Nat.zero_le _, Nat.zero_le _⟩) (fun r hr => ?_)
  subst hr
  refine lv_icmp_eq (tgt := 21) hx hb dJ5_inflateIfNeededFor_a7421_14 (by decide) (fun c_14 => ?_) (fun z => absurd rfl z)
  exact hret 21 ls _ _ () trivial hT dJ5_inflateIfNeededFor_a7421_21
set_option maxRecDepth 100000 in
set_option maxHeartbeats 1000000 in
theorem c_getBytes (l : Launch) (D : va_G) (Z rx : Nat → ClassId) (sz v cap q w at_ : Nat) (t : List Nat) (f bts : Nat → Int32) (h1 : at_ + t.length ≤ cap) (h2 : cap ≤ 100000) (hf : BF t.length bts) : Met l yJ0_getBytes_840e7 (wy yJ0_getBytes_840e7 cJ0_getBytes_840e7 4 none) (rk 1 0 0) (preG (RS rx q w t.length bts) vwCl D Z [(v, .inl (Z 2, cap, .inl f))] sz [.ref q, .ref v, .int (nI at_), .int 0]) (poV vwCl D Z (fun g => [(v, .inl (Z 2, cap, .inl g))]) f sz (fun g => g = va_cpy bts f 0 at_ t.length)) 0 0 (va_A [(v, .inl (Z 2, cap, .inl f))] sz) := by
  refine rwv_ofG (wsF := fun g => [(v, .inl (Z 2, cap, .inl g))]) (u0 := f) (by decide +kernel) (Nat.le_of_ble_eq_true rfl) rfl ?_
  intro p e s m args below meth c Q A hC hN hR hsz hnm hT hK hret ls hl
  have hJZ := hR.1.1
  have hJS : JS q w t.length bts NoA s s.heap := JS.narrow ⟨hR.1.1, hR.2⟩ (fun q z => z.elim)
  have hT : TS vwCl D [(v, .inl (Z 2, cap, .inl f))] A s.heap s.heap [] := hT
  have hx := hC.1
  have hb := hC.2.1
  have hts := hC.2.2.2.2
  have hl : lv_has ls 4 [(0, .ref q), (1, .ref v), (2, .int (nI at_)), (3, .int 0)] := hl
  refine lv_aload_n hx hb dJ0_getBytes_840e7_0 rfl (lv_at hl 0 rfl) ?_
  refine ro_go (runJV (As := []) hC (c_coder l q w t.length bts) mi_J0_coder_7d493 wq_119 wq_120 wq_121 (by decide) JS.steady hJS hJS.2.recv rfl hl.1 rfl (Nat.le_of_ble_eq_true rfl) dJ0_getBytes_840e7_1 ⟨Nat.zero_le _, Nat.zero_le _⟩) (fun r hr => ?_)
  subst hr
  refine lv_iload_n hx hb dJ0_getBytes_840e7_4 rfl (lv_at hl 3 rfl) ?_
  refine lv_icmp_ne (tgt := 28) hx hb dJ0_getBytes_840e7_5 (by decide) (fun z => absurd rfl z) (fun c_5 => ?_)
  refine lv_aload_n hx hb dJ0_getBytes_840e7_8 rfl (lv_at hl 0 rfl) ?_
  refine vk_getf hx hb hR.2.2.2.1 hT.2.2.1 hC.2.2.2.1 (hts _ wq_1422) (fun _ h => h) dJ0_getBytes_840e7_9 ?_
  refine lv_iconst (v := 0) hx hb dJ0_getBytes_840e7_12 (by decide) ?_
  refine lv_aload_n hx hb dJ0_getBytes_840e7_13 rfl (lv_at hl 1 rfl) ?_
  refine lv_iload_n hx hb dJ0_getBytes_840e7_14 rfl (lv_at hl 2 rfl) ?_
  refine lv_iload_n hx hb dJ0_getBytes_840e7_15 rfl (lv_at hl 3 rfl) ?_
  refine lv_ishl hx hb dJ0_getBytes_840e7_16 ?_
  rw [sl0]
  refine lv_aload_n hx hb dJ0_getBytes_840e7_17 rfl (lv_at hl 0 rfl) ?_
  refine vk_getf hx hb hR.2.2.2.1 hT.2.2.1 hC.2.2.2.1 (hts _ wq_1422) (fun _ h => h) dJ0_getBytes_840e7_18 ?_
  refine va_tlen hx hb hR.2.2.2.2 hT.2.2.1 rfl dJ0_getBytes_840e7_21 ?_
  refine vk_copyt hx hb (hC.2.2.1.trans hl.1.symm) hC.2.2.2.1 (hts _ wq_1307) (hts _ wq_1245) (hts _ wq_1244) (hts _ wq_73) hK hT.1 hT.2.1 hT.2.2.1 hR.2.2.2.2 0 2 rfl rfl (by decide) (nI_pos (by omega)) (nI_pos (by omega)) (by rw [clampI (by omega), clamp0]; omega) (by rw [nI_clamp (by omega), clampI (by omega)]; exact h1) (fun i hi => by rw [clamp0, Nat.zero_add]; rw [clampI (by omega)] at hi; exact hf i hi) (by show 1 ≤ 1; omega) (Nat.le_of_ble_eq_true rfl) dJ0_getBytes_840e7_22 (fun H1 locs1 hP1 hD1 hS1 => ?_)
  rw [clampI (show t.length < 2 ^ 31 by omega), nI_clamp (show at_ < 2 ^ 31 by omega), clamp0] at hP1 hD1
  have hT : TS vwCl D [(v, .inl (Z 2, cap, .inl (va_cpy bts f 0 at_ t.length)))] A s.heap H1 locs1 := ⟨hP1, hD1, hS1, hT.2.2.2⟩
  refine lv_goto (tgt := 43) hx hb dJ0_getBytes_840e7_25 (by decide) ?_
  exact hret 43 ls _ _ _ rfl hT dJ0_getBytes_840e7_43
set_option maxRecDepth 100000 in
set_option maxHeartbeats 1000000 in
theorem c_putStr (l : Launch) (D : va_G) (Z rx : Nat → ClassId) (sz b v cap q w at_ : Nat) (t : List Nat) (n : Int32) (f bts : Nat → Int32) (h1 : at_ + t.length ≤ cap) (h2 : cap ≤ 100000) (hf : BF t.length bts) : Met l yJ5_putStringAt_47b60 (wy yJ5_putStringAt_47b60 cJ5_putStringAt_47b60 3 none) (rk 2 0 0) (preG (RS rx q w t.length bts) vwCl D Z (sbW Z b (v, cap, n, f)) sz [.ref b, .int (nI at_), .ref q]) (poV vwCl D Z (sbW Z b) (v, cap, n, f) sz (fun u => u = (v, cap, n, va_cpy bts f 0 at_ t.length))) 0 0 (va_A (sbW Z b (v, cap, n, f)) sz) := by
  refine rwv_ofG (by decide +kernel) (Nat.le_of_ble_eq_true rfl) rfl ?_
  intro p e s m args below meth c Q A hC hN hR hsz hnm hT hK hret ls hl
  have hRD := hR.1
  have hT : TS vwCl D (SBW Z b v cap n f) A s.heap s.heap [] := hT
  have hx := hC.1
  have hb := hC.2.1
  have hts := hC.2.2.2.2
  have hl : lv_has ls 3 [(0, .ref b), (1, .int (nI at_)), (2, .ref q)] := hl
  refine lv_aload_n hx hb dJ5_putStringAt_47b60_0 rfl (lv_at hl 0 rfl) ?_
  refine lv_aload_n hx hb dJ5_putStringAt_47b60_1 rfl (lv_at hl 2 rfl) ?_
  have hT0 : TS vwCl D (SBW Z b v cap n f ++ []) A s.heap s.heap [] := hT
  refine goV (u0 := ()) (wsF := fun _ : Unit => SBW Z b v cap n f) (runUG (C := RJ4) (As := [.ref q]) (RS.rg _ _ _ _ _) hC hN (hT.rg (RS.rg _ _ _ _ _) hR) (c_inflate l D Z rx _ b v cap q w t n f bts) mi_J5_inflateIfNeededFor_a7421 wq_1272 wq_1494 wq_1274 (hRD.selp.use (List.mem_of_getElem? (i := 3) rfl)) (by decide) hT.1 hT.D' hK (sb_recv (wr := []) hK hT.1) rfl hl.1 rfl (Nat.le_of_ble_eq_true rfl) dJ5_putStringAt_47b60_2 ⟨Nat.zero_le _, Nat.zero_le _⟩) rfl hT0 (fun u H1 locs1 hk hT => ?_)
  have hT : TS vwCl D (SBW Z b v cap n f) A s.heap H1 locs1 := hT.dropR
  refine lv_aload_n hx hb dJ5_putStringAt_47b60_5 rfl (lv_at hl 2 rfl) ?_
  refine lv_aload_n hx hb dJ5_putStringAt_47b60_6 rfl (lv_at hl 0 rfl) ?_
  refine w_getJ (C := RJ4) (T := TJ4) (N := 4) (ci := 8) (q0 := 0) (k := 0) hC hK hT.1 fi_J4 rfl rfl rfl (by decide) wq_1363 dJ5_putStringAt_47b60_7 ?_
  refine lv_iload_n hx hb dJ5_putStringAt_47b60_10 rfl (lv_at hl 1 rfl) ?_
  refine lv_aload_n hx hb dJ5_putStringAt_47b60_11 rfl (lv_at hl 0 rfl) ?_
  refine w_getJ (C := RJ4) (T := TJ4) (N := 4) (ci := 8) (q0 := 0) (k := 1) hC hK hT.1 fi_J4 rfl rfl rfl (by decide) wq_1364 dJ5_putStringAt_47b60_12 ?_
  have hT1 : TS vwCl D ([(v, .inl (Z 2, cap, .inl f))] ++ [(b, .inr (8, [.ref v, .int 0, .int 0, .int n]))]) A s.heap H1 locs1 := hT.pick [1, 0] (by decide) rfl
  refine goV (u0 := f) (wsF := fun g => [(v, .inl (Z 2, cap, .inl g))]) (runVG (As := [.ref v, .int (nI at_), .int 0]) (RS.rg _ _ _ _ _) hC hN ((RS.rg _ _ _ _ _).appL (hT1.rg (RS.rg _ _ _ _ _) hR)) (c_getBytes l D Z rx _ v cap q w at_ t f bts h1 h2 hf) mi_J0_getBytes_840e7 wq_1303 wq_1304 wq_1305 (by decide) hT1.dropR.1 hT1.dropR.D' hK ((hT.rg (RS.rg _ _ _ _ _) hR).2.recv) rfl hl.1 rfl (Nat.le_of_ble_eq_true rfl) dJ5_putStringAt_47b60_15 ⟨Nat.zero_le _, Nat.zero_le _⟩) rfl hT1 (fun u H2 locs2 hk hT2 => ?_)
  subst hk
  have hT : TS vwCl D (sbW Z b (v, cap, n, va_cpy bts f 0 at_ t.length)) A s.heap H2 locs2 := hT2.front
  exact hret 18 ls _ _ (v, cap, n, va_cpy bts f 0 at_ t.length) rfl hT dJ5_putStringAt_47b60_18
theorem SBI.ens {v cap : Nat} {n : Int32} {f : Nat → Int32} {T : List Nat} (h : SBI (v, cap, n, f) T) {k : Nat} {u : SBS} (hk : k ≤ 1500) (hu : (k ≤ cap ∧ u = (v, cap, n, f)) ∨ (cap < k ∧ u.2.1 = gcap cap k ∧ u.2.2.1 = n ∧ u.2.2.2 = va_cpy f (fun _ => 0) 0 0 cap)) : SBI u T ∧ k ≤ u.2.1 := by
  rcases hu with ⟨h1, rfl⟩ | ⟨h1, e1, e2, e3⟩
  · exact ⟨h, h1⟩
  · obtain ⟨a1, a2, a3, a4, a5⟩ := h
    dsimp only at a1 a2 a3 a4 a5
    have hg : k ≤ gcap cap k ∧ cap ≤ gcap cap k ∧ gcap cap k ≤ 4000 := by unfold gcap; omega
    refine ⟨⟨e2.trans a1, by rw [e1]; omega, by rw [e1]; exact hg.2.2, fun i hi => ?_, fun j hj => ?_⟩, by rw [e1]; exact hg.1⟩
    · rw [e3]
      by_cases c : i < cap
      · rw [pk_cpy_in (by omega) (by omega)]
        exact a4 _ (by omega)
      · rw [pk_cpy_out (by omega)]
        decide
    · rw [e3, pk_cpy_in (by omega) (by omega), ← a5 j hj]
      congr 1
      omega
theorem SBI.put {v cap : Nat} {n : Int32} {f bts : Nat → Int32} {T t : List Nat} (h : SBI (v, cap, n, f) T) (hb : ∀ j, j < t.length → bts j = nI (t.getD j 0)) (hf : BF t.length bts) (hc : T.length + t.length ≤ cap) : SBI (v, cap, nI (T ++ t).length, va_cpy bts f 0 T.length t.length) (T ++ t) := by
  obtain ⟨a1, a2, a3, a4, a5⟩ := h
  dsimp only at a1 a2 a3 a4 a5
  refine ⟨rfl, by rw [List.length_append]; exact hc, a3, fun i hi => ?_, fun j hj => ?_⟩
  · by_cases c : T.length ≤ i ∧ i < T.length + t.length
    · dsimp only
      rw [pk_cpy_in c.1 c.2]
      exact hf _ (by omega)
    · dsimp only
      rw [pk_cpy_out (by omega)]
      exact a4 _ hi
  · rw [List.length_append] at hj
    dsimp only
    by_cases c : j < T.length
    · rw [pk_cpy_out (by omega), a5 j c, List.getD_eq_getElem?_getD, List.getD_eq_getElem?_getD, List.getElem?_append_left c]
    · rw [pk_cpy_in (by omega) (by omega), hb _ (by omega), List.getD_eq_getElem?_getD, List.getD_eq_getElem?_getD, List.getElem?_append_right (by omega), Nat.zero_add]
set_option maxRecDepth 100000 in
set_option maxHeartbeats 1000000 in
theorem c_asbApp (l : Launch) (D : va_G) (Z rx : Nat → ClassId) (sz b v cap q w : Nat) (T t : List Nat) (n : Int32) (f bts : Nat → Int32) (hI : SBI (v, cap, n, f) T) (hby : ∀ j, j < t.length → bts j = nI (t.getD j 0)) (hf : BF t.length bts) (hlen : (T ++ t).length ≤ 1500) : Met l yJ5_append_cf1ce (wy yJ5_append_cf1ce cJ5_append_cf1ce 3 (some (.object "java/lang/AbstractStringBuilder"))) (rk 4 1 4000) (preG (RS rx q w t.length bts) vwCl D Z (sbW Z b (v, cap, n, f)) sz [.ref b, .ref q]) (poQ vwCl D Z (sbW Z b) (fun _ => b) (v, cap, n, f) sz (fun u => SBI u (T ++ t))) 1 4000 (va_A (sbW Z b (v, cap, n, f)) sz) := by
  have hln := hlen
  rw [List.length_append] at hln
  have hI3 := hI.2.2.1
  dsimp only at hI3
  refine rwq_ofG (by decide +kernel) (Nat.le_of_ble_eq_true rfl) rfl (Or.inl ⟨_, rfl⟩) ?_
  intro p e s m args below meth c Q A hC hN hR hsz hT hK hret ls hl
  have hT : TS vwCl D (SBW Z b v cap n f) A s.heap s.heap [] := hT
  have hRD := hR.1
  have hJS : JS q w t.length bts NoA s s.heap := JS.narrow ⟨hR.1.1, hR.2⟩ (fun q z => z.elim)
  have hx := hC.1
  have hb := hC.2.1
  have hts := hC.2.2.2.2
  have hl : lv_has ls 3 [(0, .ref b), (1, .ref q)] := hl
  refine lv_aload_n hx hb dJ5_append_cf1ce_0 rfl (lv_at hl 1 rfl) ?_
  refine lv_ifnonnull (tgt := 9) hx hb dJ5_append_cf1ce_1 (by decide) ?_
  refine lv_aload_n hx hb dJ5_append_cf1ce_9 rfl (lv_at hl 1 rfl) ?_
  refine ro_go (runJV (As := []) hC (c_slen l q w t.length bts) mi_J0_length_8abf5 wq_1267 wq_116 wq_117 (by decide) JS.steady hJS hJS.2.recv rfl hl.1 rfl (Nat.le_of_ble_eq_true rfl) dJ5_append_cf1ce_10 ⟨Nat.zero_le _, Nat.zero_le _⟩) (fun r hr => ?_)
  subst hr
  refine lv_istore_n (lv' := [(2, .int (nI t.length)), (0, .ref b), (1, .ref q)]) hx hb dJ5_append_cf1ce_13 rfl hl (by decide) rfl (fun ls hl => ?_)
  refine lv_aload_n hx hb dJ5_append_cf1ce_14 rfl (lv_at hl 1 rfl) ?_
  refine lv_aload_n hx hb dJ5_append_cf1ce_15 rfl (lv_at hl 1 rfl) ?_
  refine w_getJ (C := RJ4) (T := TJ4) (N := 4) (ci := 8) (q0 := 0) (k := 3) hC hK hT.1 fi_J4 rfl rfl rfl (by decide) wq_1366 dJ5_append_cf1ce_16 ?_
  rw [show n = nI T.length from hI.1]
  refine lv_iload_n hx hb dJ5_append_cf1ce_19 rfl (lv_at hl 0 rfl) ?_
  refine lv_iadd hx hb dJ5_append_cf1ce_20 ?_
  rw [show nI T.length + nI t.length = nI (T ++ t).length from by rw [List.length_append]; exact nI_add _ _]
  have hT0 : TS vwCl D (sbW Z b (v, cap, n, f) ++ []) A s.heap s.heap [] := hT
  refine goV (u0 := (v, cap, n, f)) (wsF := sbW Z b) (runUG (C := RJ4) (As := [.int (nI (T ++ t).length)]) (RD.rg rx) hC hN ((hT.rg (RS.rg _ _ _ _ _) hR).1) (c_ensure l D Z rx _ b v cap ((T ++ t).length) n f hI.2.2.1 (by omega) hI.2.2.2.1) mi_J5_ensureCapacityInternal_d00df wq_1215 wq_1491 wq_1217 (hRD.selp.use (List.mem_of_getElem? (i := 0) rfl)) (by decide) hT.1 hT.D' hK (sb_recv (wr := []) hK hT.1) rfl hl.1 rfl (Nat.le_of_ble_eq_true rfl) dJ5_append_cf1ce_21 ⟨by omega, by omega⟩) rfl hT0 (fun u H1 locs1 hk hT => ?_)
  obtain ⟨hI1, hk1⟩ := hI.ens (by omega) hk
  obtain ⟨v1, cap1, n1, f1⟩ := u
  dsimp only at hk1
  have en1 : n1 = nI T.length := hI1.1
  subst en1
  have hT : TS vwCl D (SBW Z b v1 cap1 (nI T.length) f1) A s.heap H1 locs1 := hT.dropR
  refine lv_aload_n hx hb dJ5_append_cf1ce_24 rfl (lv_at hl 1 rfl) ?_
  refine lv_aload_n hx hb dJ5_append_cf1ce_25 rfl (lv_at hl 1 rfl) ?_
  refine w_getJ (C := RJ4) (T := TJ4) (N := 4) (ci := 8) (q0 := 0) (k := 3) hC hK hT.1 fi_J4 rfl rfl rfl (by decide) wq_1366 dJ5_append_cf1ce_26 ?_
  refine lv_aload_n hx hb dJ5_append_cf1ce_29 rfl (lv_at hl 2 rfl) ?_
  have hT0 : TS vwCl D (sbW Z b (v1, cap1, nI T.length, f1) ++ []) A s.heap H1 locs1 := by rw [List.append_nil]; exact hT
  refine goV (u0 := (v1, cap1, nI T.length, f1)) (wsF := sbW Z b) (runUG (C := RJ4) (As := [.int (nI T.length), .ref q]) (RS.rg _ _ _ _ _) hC hN (hT.rg (RS.rg _ _ _ _ _) hR) (c_putStr l D Z rx _ b v1 cap1 q w T.length t _ f1 bts (by rw [List.length_append] at hk1; exact hk1) (by have := hI1.2.2.1; dsimp only at this; omega) hf) mi_J5_putStringAt_47b60 wq_1268 wq_1493 wq_1270 (hRD.selp.use (List.mem_of_getElem? (i := 2) rfl)) (by decide) hT.1 hT.D' hK (sb_recv (wr := []) hK hT0.1) rfl hl.1 rfl (Nat.le_of_ble_eq_true rfl) dJ5_append_cf1ce_30 ⟨by omega, by omega⟩) rfl hT0 (fun u H2 locs2 hk hT => ?_)
  subst hk
  have hT : TS vwCl D (SBW Z b v1 cap1 (nI T.length) (va_cpy bts f1 0 T.length t.length)) A s.heap H2 locs2 := hT.dropR
  refine lv_aload_n hx hb dJ5_append_cf1ce_33 rfl (lv_at hl 1 rfl) ?_
  refine lv_dup hx hb dJ5_append_cf1ce_34 rfl ?_
  refine w_getJ (C := RJ4) (T := TJ4) (N := 4) (ci := 8) (q0 := 0) (k := 3) hC hK hT.1 fi_J4 rfl rfl rfl (by decide) wq_1366 dJ5_append_cf1ce_35 ?_
  refine lv_iload_n hx hb dJ5_append_cf1ce_38 rfl (lv_at hl 0 rfl) ?_
  refine lv_iadd hx hb dJ5_append_cf1ce_39 ?_
  rw [show nI T.length + nI t.length = nI (T ++ t).length from by rw [List.length_append]; exact nI_add _ _]
  refine w_putJ (C := RJ4) (T := TJ4) (N := 4) (ci := 8) (q0 := 0) (k := 3) (ty0 := tyJ4) (ty := .int) (ws' := sbW Z b (v1, cap1, nI (T ++ t).length, va_cpy bts f1 0 T.length t.length)) hC hK hT fi_J4 tyJ4_ok nmJ4 rfl rfl (by decide) rfl rfl rfl rfl (Nat.le_of_ble_eq_true rfl) rfl wq_1366 dJ5_append_cf1ce_40 (fun H3 locs3 hT => ?_)
  refine lv_aload_n hx hb dJ5_append_cf1ce_43 rfl (lv_at hl 1 rfl) ?_
  refine W.widen (k := 1) (n := 4000) (by omega) (by omega) ?_
  exact hret 44 ls _ _ (v1, cap1, nI (T ++ t).length, va_cpy bts f1 0 T.length t.length) (hI1.put hby hf (by rw [List.length_append] at hk1; exact hk1)) hT dJ5_append_cf1ce_44
set_option maxRecDepth 100000 in
set_option maxHeartbeats 1000000 in
theorem c_sbApp (l : Launch) (D : va_G) (Z rx : Nat → ClassId) (sz b v cap q w : Nat) (T t : List Nat) (n : Int32) (f bts : Nat → Int32) (hI : SBI (v, cap, n, f) T) (hby : ∀ j, j < t.length → bts j = nI (t.getD j 0)) (hf : BF t.length bts) (hlen : (T ++ t).length ≤ 1500) : Met l yJ4_append_15ec4 (wy yJ4_append_15ec4 cJ4_append_15ec4 2 (some (.object "java/lang/StringBuilder"))) (rk 5 1 4000) (preG (RS rx q w t.length bts) vwCl D Z (sbW Z b (v, cap, n, f)) sz [.ref b, .ref q]) (poQ vwCl D Z (sbW Z b) (fun _ => b) (v, cap, n, f) sz (fun u => SBI u (T ++ t))) 1 4000 (va_A (sbW Z b (v, cap, n, f)) sz) := by
  refine rwq_ofG (by decide +kernel) (Nat.le_of_ble_eq_true rfl) rfl (Or.inl ⟨_, rfl⟩) ?_
  intro p e s m args below meth c Q A hC hN hR hsz hT hK hret ls hl
  have hT : TS vwCl D (SBW Z b v cap n f) A s.heap s.heap [] := hT
  have hx := hC.1
  have hb := hC.2.1
  have hts := hC.2.2.2.2
  have hl : lv_has ls 2 [(0, .ref b), (1, .ref q)] := hl
  refine lv_aload_n hx hb dJ4_append_15ec4_0 rfl (lv_at hl 0 rfl) ?_
  refine lv_aload_n hx hb dJ4_append_15ec4_1 rfl (lv_at hl 1 rfl) ?_
  have hT0 : TS vwCl D (sbW Z b (v, cap, n, f) ++ []) A s.heap s.heap [] := hT
  refine goQ (u0 := (v, cap, n, f)) (g := fun _ => b) (wsF := sbW Z b) (runSUG (C := RJ4) (As := [.ref q]) (hK.1 8 _ rfl).2 (RS.rg _ _ _ _ _) hC hN (hT.rg (RS.rg _ _ _ _ _) hR) (c_asbApp l D Z rx _ b v cap q w T t n f bts hI hby hf hlen) mi_J5_append_cf1ce wq_1207 wq_1489 wq_1208 wq_1209 (by decide) (by decide) hT.1 hT.D' hK (sb_recv (wr := []) hK hT.1) rfl hl.1 rfl (Nat.le_of_ble_eq_true rfl) dJ4_append_15ec4_2 ⟨by omega, by omega⟩) rfl hT0 (fun u H1 locs1 hk hT => ?_)
  have hT : TS vwCl D (sbW Z b u) A s.heap H1 locs1 := hT.dropR
  refine lv_pop hx hb dJ4_append_15ec4_5 rfl ?_
  refine lv_aload_n hx hb dJ4_append_15ec4_6 rfl (lv_at hl 0 rfl) ?_
  refine W.widen (k := 1) (n := 4000) (by omega) (by omega) ?_
  exact hret 7 ls _ _ u hk hT dJ4_append_15ec4_7
def decs (x : Nat) : List Nat := if x < 10 then [48 + x] else [48 + x / 10, 48 + x % 10]
theorem decs_len (x : Nat) : (decs x).length = if x < 10 then 1 else 2 := by unfold decs; split <;> rfl
theorem neg_nI {n : Nat} (h : n ≤ 1000) : (-nI n).toInt = -(n : Int) := by
  rw [Int32.toInt_neg, nI_toInt (by omega)]
  rw [Int.bmod_def]
  omega
theorem neg_negI (x : Int32) : - -x = x := Int32.neg_neg
set_option maxRecDepth 100000 in
set_option maxHeartbeats 1000000 in
theorem c_strSize (l : Launch) (D : va_G) (Z : Nat → ClassId) (sz x : Nat) (h1 : x ≤ 99) : Met l yJ6_stringSize_0f7a4 (wy yJ6_stringSize_0f7a4 cJ6_stringSize_0f7a4 4 (some .int)) (rk 0 0 0) (pre vwCl D Z [] sz [.int (nI x)]) (vp_Si (fun r => r = if x < 10 then 1 else 2)) 0 0 (fun _ => False) := by
  have hneg : ∀ c : Nat, c ≤ 100 → (-nI x ≤ (-nI c) ↔ c ≤ x) := fun c hc => by
    have e1 : (-nI x).toInt = -(x : Int) := neg_nI (by omega)
    have e2 : (-nI c).toInt = -(c : Int) := neg_nI (by omega)
    rw [Int32.le_iff_toInt_le, e1, e2]
    omega
  have hbig : ¬ -nI x ≤ (10 : Int32) * (-10) := fun z => by
    have := (hneg 100 (by omega)).mp z
    omega
  refine ro_of (ty := .int) (by decide +kernel) (Nat.le_of_ble_eq_true rfl) rfl ?_
  intro p e s m args below meth c Q hC hN hsz hP hD hK hret ls hl
  have hx := hC.1
  have hb := hC.2.1
  have hts := hC.2.2.2.2
  have hl : lv_has ls 4 [(0, .int (nI x))] := hl
  refine lv_iconst (v := 1) hx hb dJ6_stringSize_0f7a4_0 (by decide) ?_
  refine lv_istore_n (lv' := [(1, .int 1), (0, .int (nI x))]) hx hb dJ6_stringSize_0f7a4_1 rfl hl (by decide) rfl (fun ls hl => ?_)
  refine lv_iload_n hx hb dJ6_stringSize_0f7a4_2 rfl (lv_at hl 1 rfl) ?_
  refine lv_if_lt (tgt := 11) hx hb dJ6_stringSize_0f7a4_3 (by decide) (fun z => absurd z (nI_pos (by omega))) (fun c_3 => ?_)
  refine lv_iconst (v := 0) hx hb dJ6_stringSize_0f7a4_6 (by decide) ?_
  refine lv_istore_n (lv' := [(1, .int 0), (0, .int (nI x))]) hx hb dJ6_stringSize_0f7a4_7 rfl hl (by decide) rfl (fun ls hl => ?_)
  refine lv_iload_n hx hb dJ6_stringSize_0f7a4_8 rfl (lv_at hl 1 rfl) ?_
  refine lv_ineg hx hb dJ6_stringSize_0f7a4_9 ?_
  refine lv_istore_n (lv' := [(0, .int (-((nI x)))), (1, .int 0)]) hx hb dJ6_stringSize_0f7a4_10 rfl hl (by decide) rfl (fun ls hl => ?_)
  refine lv_bipush (v := (-10)) hx hb dJ6_stringSize_0f7a4_11 (by decide) ?_
  refine lv_istore_n (lv' := [(2, .int (-10)), (0, .int (-((nI x)))), (1, .int 0)]) hx hb dJ6_stringSize_0f7a4_13 rfl hl (by decide) rfl (fun ls hl => ?_)
  refine lv_iconst (v := 1) hx hb dJ6_stringSize_0f7a4_14 (by decide) ?_
  refine lv_istore_n (lv' := [(3, .int 1), (2, .int (-10)), (0, .int (-((nI x)))), (1, .int 0)]) hx hb dJ6_stringSize_0f7a4_15 rfl hl (by decide) rfl (fun ls hl => ?_)
  refine lv_iload_n hx hb dJ6_stringSize_0f7a4_16 rfl (lv_at hl 0 rfl) ?_
  refine lv_bipush (v := 10) hx hb dJ6_stringSize_0f7a4_17 (by decide) ?_
  refine lv_icmp_ge (tgt := 42) hx hb dJ6_stringSize_0f7a4_19 (by decide) (fun z => absurd z (by decide)) (fun c_19 => ?_)
  refine lv_iload_n hx hb dJ6_stringSize_0f7a4_22 rfl (lv_at hl 2 rfl) ?_
  refine lv_iload_n hx hb dJ6_stringSize_0f7a4_23 rfl (lv_at hl 1 rfl) ?_
  refine lv_icmp_le (tgt := 31) hx hb dJ6_stringSize_0f7a4_24 (by decide) (fun c_24 => ?_) (fun c_24 => ?_)
  · have hx10 : 10 ≤ x := (hneg 10 (by omega)).mp c_24
    refine lv_bipush (v := 10) hx hb dJ6_stringSize_0f7a4_31 (by decide) ?_
    refine lv_iload_n hx hb dJ6_stringSize_0f7a4_33 rfl (lv_at hl 1 rfl) ?_
    refine lv_imul hx hb dJ6_stringSize_0f7a4_34 ?_
    refine lv_istore_n (lv' := [(2, .int ((10 : Int32) * ((-10)))), (3, .int 1), (0, .int (-((nI x)))), (1, .int 0)]) hx hb dJ6_stringSize_0f7a4_35 rfl hl (by decide) rfl (fun ls hl => ?_)
    refine lv_iinc (v := 2) (lv' := [(3, .int 2), (2, .int ((10 : Int32) * ((-10)))), (0, .int (-((nI x)))), (1, .int 0)]) hx hb dJ6_stringSize_0f7a4_36 hl (k := 1) rfl rfl (by decide) rfl (fun ls hl => ?_)
    refine lv_goto (tgt := 16) hx hb dJ6_stringSize_0f7a4_39 (by decide) ?_
    refine lv_iload_n hx hb dJ6_stringSize_0f7a4_16 rfl (lv_at hl 0 rfl) ?_
    refine lv_bipush (v := 10) hx hb dJ6_stringSize_0f7a4_17 (by decide) ?_
    refine lv_icmp_ge (tgt := 42) hx hb dJ6_stringSize_0f7a4_19 (by decide) (fun z => absurd z (by decide)) (fun c_19 => ?_)
    refine lv_iload_n hx hb dJ6_stringSize_0f7a4_22 rfl (lv_at hl 2 rfl) ?_
    refine lv_iload_n hx hb dJ6_stringSize_0f7a4_23 rfl (lv_at hl 1 rfl) ?_
    refine lv_icmp_le (tgt := 31) hx hb dJ6_stringSize_0f7a4_24 (by decide) (fun z => absurd z hbig) (fun c_24 => ?_)
    refine lv_iload_n hx hb dJ6_stringSize_0f7a4_27 rfl (lv_at hl 0 rfl) ?_
    refine lv_iload_n hx hb dJ6_stringSize_0f7a4_28 rfl (lv_at hl 3 rfl) ?_
    refine lv_iadd hx hb dJ6_stringSize_0f7a4_29 ?_
    exact hret 30 ls _ (by rw [if_neg (by omega)]; rfl) rfl dJ6_stringSize_0f7a4_30
  · have hx10 : ¬ 10 ≤ x := fun z => c_24 ((hneg 10 (by omega)).mpr z)
    refine lv_iload_n hx hb dJ6_stringSize_0f7a4_27 rfl (lv_at hl 0 rfl) ?_
    refine lv_iload_n hx hb dJ6_stringSize_0f7a4_28 rfl (lv_at hl 3 rfl) ?_
    refine lv_iadd hx hb dJ6_stringSize_0f7a4_29 ?_
    exact hret 30 ls _ (by rw [if_pos (by omega)]; rfl) rfl dJ6_stringSize_0f7a4_30
def gcv (f : Nat → Int32) (x e : Nat) : Nat → Int32 := if x < 10 then upd f (e - 1) (nI (48 + x % 10)) else upd (upd f (e - 1) (nI (48 + x % 10))) (e - 2) (nI (48 + x / 10))
set_option maxRecDepth 100000 in
set_option maxHeartbeats 1000000 in
theorem c_getChars (l : Launch) (D : va_G) (Z rx : Nat → ClassId) (sz v cap x e_ : Nat) (f : Nat → Int32) (h1 : x ≤ 99) (he : (if x < 10 then 1 else 2) ≤ e_) (he2 : e_ ≤ cap) (h2 : cap ≤ 100000) : Met l yJ6_getChars_ba4f3 (wy yJ6_getChars_ba4f3 cJ6_getChars_ba4f3 7 (some .int)) (rk 0 0 0) (preG (RD rx) vwCl D Z [(v, .inl (Z 2, cap, .inl f))] sz [.int (nI x), .int (nI e_), .ref v]) (poI vwCl D Z (fun g => [(v, .inl (Z 2, cap, .inl g))]) f sz (fun _ g => g = gcv f x e_)) 0 0 (va_A [(v, .inl (Z 2, cap, .inl f))] sz) := by
  have he1 : 1 ≤ e_ := by
    by_cases c : x < 10
    · rw [if_pos c] at he; exact he
    · rw [if_neg c] at he; omega
  have hneg : ∀ c : Nat, c ≤ 100 → (-nI x ≤ (-nI c) ↔ c ≤ x) := fun c hc => by
    have e1 : (-nI x).toInt = -(x : Int) := neg_nI (by omega)
    have e2 : (-nI c).toInt = -(c : Int) := neg_nI (by omega)
    rw [Int32.le_iff_toInt_le, e1, e2]
    omega
  have h25 : (-100 : Int32) < -nI x := by
    have e1 : (-nI x).toInt = -(x : Int) := neg_nI (by omega)
    rw [Int32.lt_iff_toInt_lt, e1]
    have : (-100 : Int32).toInt = -100 := by decide
    omega
  have h88 : (-9 : Int32) ≤ -nI x → x < 10 := fun z => by
    have e1 : (-nI x).toInt = -(x : Int) := neg_nI (by omega)
    rw [Int32.le_iff_toInt_le, e1] at z
    have : (-9 : Int32).toInt = -9 := by decide
    omega
  have h88' : x < 10 → (-9 : Int32) ≤ -nI x := fun z => by
    have e1 : (-nI x).toInt = -(x : Int) := neg_nI (by omega)
    rw [Int32.le_iff_toInt_le, e1]
    have : (-9 : Int32).toInt = -9 := by decide
    omega
  refine rw_ofG (ty := .int) (wsF := fun g => [(v, .inl (Z 2, cap, .inl g))]) (u0 := f) (by decide +kernel) (Nat.le_of_ble_eq_true rfl) rfl ?_
  intro p e s m args below meth c Q A hC hN hR hsz hT hK hret ls hl
  have hT : TS vwCl D [(v, .inl (Z 2, cap, .inl f))] A s.heap s.heap [] := hT
  have hx := hC.1
  have hb := hC.2.1
  have hts := hC.2.2.2.2
  have hl : lv_has ls 7 [(0, .int (nI x)), (1, .int (nI e_)), (2, .ref v)] := hl
  refine lv_iload_n hx hb dJ6_getChars_ba4f3_0 rfl (lv_at hl 1 rfl) ?_
  refine lv_istore (lv' := [(5, .int (nI e_)), (0, .int (nI x)), (1, .int (nI e_)), (2, .ref v)]) hx hb dJ6_getChars_ba4f3_1 hl (by decide) rfl (fun ls hl => ?_)
  refine lv_iload_n hx hb dJ6_getChars_ba4f3_3 rfl (lv_at hl 1 rfl) ?_
  refine lv_if_ge (tgt := 11) hx hb dJ6_getChars_ba4f3_4 (by decide) (fun c_4 => ?_) (fun z => absurd (nI_pos' (by omega)) z)
  refine lv_iconst (v := 0) hx hb dJ6_getChars_ba4f3_11 (by decide) ?_
  refine lv_istore (lv' := [(6, .int 0), (5, .int (nI e_)), (0, .int (nI x)), (1, .int (nI e_)), (2, .ref v)]) hx hb dJ6_getChars_ba4f3_12 hl (by decide) rfl (fun ls hl => ?_)
  refine lv_iload hx hb dJ6_getChars_ba4f3_14 (lv_at hl 0 rfl) ?_
  refine lv_if_ne (tgt := 22) hx hb dJ6_getChars_ba4f3_16 (by decide) (fun z => absurd rfl z) (fun c_16 => ?_)
  refine lv_iload_n hx hb dJ6_getChars_ba4f3_19 rfl (lv_at hl 2 rfl) ?_
  refine lv_ineg hx hb dJ6_getChars_ba4f3_20 ?_
  refine lv_istore_n (lv' := [(0, .int (-((nI x)))), (6, .int 0), (5, .int (nI e_)), (1, .int (nI e_)), (2, .ref v)]) hx hb dJ6_getChars_ba4f3_21 rfl hl (by decide) rfl (fun ls hl => ?_)
  refine lv_iload_n hx hb dJ6_getChars_ba4f3_22 rfl (lv_at hl 0 rfl) ?_
  refine lv_bipush (v := (-100)) hx hb dJ6_getChars_ba4f3_23 (by decide) ?_
  refine lv_icmp_gt (tgt := 72) hx hb dJ6_getChars_ba4f3_25 (by decide) (fun c_25 => ?_) (fun z => absurd h25 z)
  refine lv_aload_n hx hb dJ6_getChars_ba4f3_72 rfl (lv_at hl 4 rfl) ?_
  obtain ⟨w73, ew73⟩ : ∃ y : Int32, y = nI (e_) + (-1) := ⟨_, rfl⟩
  refine lv_iinc (v := w73) (lv' := [(5, .int w73), (0, .int (-((nI x)))), (6, .int 0), (1, .int (nI e_)), (2, .ref v)]) hx hb dJ6_getChars_ba4f3_73 hl (k := 2) rfl (by rw [ew73]; rfl) (by decide) rfl (fun ls hl => ?_)
  have ew73 : w73 = nI (e_ - 1) := ew73.trans (by rw [show e_ = (e_ - 1) + 1 from by omega]; exact pk_m1 _)
  subst ew73
  refine lv_iload hx hb dJ6_getChars_ba4f3_76 (lv_at hl 0 rfl) ?_
  refine va_gets hx hb hR.DigitOnes hT.2.2.1 hC.2.2.2.1 (hts _ wq_1322) (fun _ h => h) dJ6_getChars_ba4f3_78 ?_
  refine lv_iload_n hx hb dJ6_getChars_ba4f3_81 rfl (lv_at hl 1 rfl) ?_
  refine lv_ineg hx hb dJ6_getChars_ba4f3_82 ?_
  rw [neg_negI]
  refine va_tb hx hb hR.TDigitOnes hT.2.2.1 (inb_in.mpr (inb_nI (by omega) (by decide))) rfl dJ6_getChars_ba4f3_83 ?_
  rw [show kDigitOnes (nI x).toNatClampNeg = nI (48 + x % 10) from by rw [nI_clamp (by omega)]; rfl]
  refine w_bast (q0 := 0) (ws' := [(v, .inl (Z 2, cap, .inl (upd f (e_ - 1) (nI (48 + x % 10)))))]) hC hK hT rfl (inb_nI (by omega) (by omega)) (by rw [byte_nI (by omega), tn_nIb (by omega)]; rfl) dJ6_getChars_ba4f3_84 (fun H84 locs84 hT => ?_)
  refine lv_iload_n hx hb dJ6_getChars_ba4f3_85 rfl (lv_at hl 1 rfl) ?_
  refine lv_bipush (v := (-9)) hx hb dJ6_getChars_ba4f3_86 (by decide) ?_
  refine lv_icmp_ge (tgt := 104) hx hb dJ6_getChars_ba4f3_88 (by decide) (fun c_88 => ?_) (fun c_88 => ?_)
  · have hx10 : x < 10 := h88 c_88
    refine lv_iload hx hb dJ6_getChars_ba4f3_104 (lv_at hl 2 rfl) ?_
    refine lv_if_eq (tgt := 118) hx hb dJ6_getChars_ba4f3_106 (by decide) (fun c_106 => ?_) (fun z => absurd rfl z)
    refine lv_iload hx hb dJ6_getChars_ba4f3_118 (lv_at hl 0 rfl) ?_
    exact hret 120 ls _ _ _ (upd f (e_ - 1) (nI (48 + x % 10))) (show upd f (e_ - 1) (nI (48 + x % 10)) = gcv f x e_ from by unfold gcv; rw [if_pos hx10]) hT rfl dJ6_getChars_ba4f3_120
  · have hx10 : ¬ x < 10 := fun z => c_88 (h88' z)
    have he2 : 2 ≤ e_ := by rw [if_neg hx10] at he; exact he
    refine lv_aload_n hx hb dJ6_getChars_ba4f3_91 rfl (lv_at hl 4 rfl) ?_
    obtain ⟨w92, ew92⟩ : ∃ y : Int32, y = nI (e_ - 1) + (-1) := ⟨_, rfl⟩
    refine lv_iinc (v := w92) (lv' := [(5, .int w92), (0, .int (-((nI x)))), (6, .int 0), (1, .int (nI e_)), (2, .ref v)]) hx hb dJ6_getChars_ba4f3_92 hl (k := 0) rfl (by rw [ew92]; rfl) (by decide) rfl (fun ls hl => ?_)
    have ew92 : w92 = nI (e_ - 2) := ew92.trans (by rw [show e_ - 1 = (e_ - 2) + 1 from by omega]; exact pk_m1 _)
    subst ew92
    refine lv_iload hx hb dJ6_getChars_ba4f3_95 (lv_at hl 0 rfl) ?_
    refine va_gets hx hb hR.DigitTens hT.2.2.1 hC.2.2.2.1 (hts _ wq_1324) (fun _ h => h) dJ6_getChars_ba4f3_97 ?_
    refine lv_iload_n hx hb dJ6_getChars_ba4f3_100 rfl (lv_at hl 1 rfl) ?_
    refine lv_ineg hx hb dJ6_getChars_ba4f3_101 ?_
    rw [neg_negI]
    refine va_tb hx hb hR.TDigitTens hT.2.2.1 (inb_in.mpr (inb_nI (by omega) (by decide))) rfl dJ6_getChars_ba4f3_102 ?_
    rw [show kDigitTens (nI x).toNatClampNeg = nI (48 + x / 10) from by rw [nI_clamp (by omega)]; rfl]
    refine w_bast (q0 := 0) (ws' := [(v, .inl (Z 2, cap, .inl (upd (upd f (e_ - 1) (nI (48 + x % 10))) (e_ - 2) (nI (48 + x / 10)))))]) hC hK hT rfl (inb_nI (by omega) (by omega)) (by rw [byte_nI (by omega), tn_nIb (by omega)]; rfl) dJ6_getChars_ba4f3_103 (fun H103 locs103 hT => ?_)
    refine lv_iload hx hb dJ6_getChars_ba4f3_104 (lv_at hl 2 rfl) ?_
    refine lv_if_eq (tgt := 118) hx hb dJ6_getChars_ba4f3_106 (by decide) (fun c_106 => ?_) (fun z => absurd rfl z)
    refine lv_iload hx hb dJ6_getChars_ba4f3_118 (lv_at hl 0 rfl) ?_
    exact hret 120 ls _ _ _ (upd (upd f (e_ - 1) (nI (48 + x % 10))) (e_ - 2) (nI (48 + x / 10))) (show upd (upd f (e_ - 1) (nI (48 + x % 10))) (e_ - 2) (nI (48 + x / 10)) = gcv f x e_ from by unfold gcv; rw [if_neg hx10]) hT rfl dJ6_getChars_ba4f3_120
theorem SBI.dig {v cap : Nat} {n : Int32} {f : Nat → Int32} {T : List Nat} (h : SBI (v, cap, n, f) T) {x : Nat} (hx : x ≤ 99) (hc : (T ++ decs x).length ≤ cap) : SBI (v, cap, nI (T ++ decs x).length, gcv f x (T ++ decs x).length) (T ++ decs x) := by
  obtain ⟨a1, a2, a3, a4, a5⟩ := h
  dsimp only at a1 a2 a3 a4 a5
  have hl : (T ++ decs x).length = T.length + (decs x).length := List.length_append
  refine ⟨rfl, hc, a3, fun i hi => ?_, fun j hj => ?_⟩
  · dsimp only
    unfold gcv
    split
    · unfold upd
      split
      · exact fitb_nI (by omega)
      · exact a4 i hi
    · unfold upd
      split
      · exact fitb_nI (by omega)
      · split
        · exact fitb_nI (by omega)
        · exact a4 i hi
  · dsimp only
    rw [hl] at hj ⊢
    by_cases c : j < T.length
    · rw [List.getD_eq_getElem?_getD, List.getElem?_append_left c, ← List.getD_eq_getElem?_getD, ← a5 j c]
      unfold gcv upd
      by_cases h10 : x < 10
      · have e1 : (decs x).length = 1 := by rw [decs_len, if_pos h10]
        rw [if_pos h10, if_neg (by omega)]
      · have e1 : (decs x).length = 2 := by rw [decs_len, if_neg h10]
        rw [if_neg h10, if_neg (by omega), if_neg (by omega)]
    · rw [List.getD_eq_getElem?_getD, List.getElem?_append_right (by omega), ← List.getD_eq_getElem?_getD]
      unfold gcv upd
      by_cases h10 : x < 10
      · have e1 : (decs x).length = 1 := by rw [decs_len, if_pos h10]
        have e2 : j - T.length = 0 := by omega
        rw [if_pos h10, if_pos (by omega), e2]
        unfold decs
        rw [if_pos h10, Nat.mod_eq_of_lt h10]
        rfl
      · have e1 : (decs x).length = 2 := by rw [decs_len, if_neg h10]
        rw [if_neg h10]
        have e3 : decs x = [48 + x / 10, 48 + x % 10] := by unfold decs; rw [if_neg h10]
        rw [e1, e3]
        by_cases c2 : j = T.length
        · rw [if_pos (by omega), show j - T.length = 0 by omega]
          rfl
        · rw [if_neg (by omega), if_pos (by omega), show j - T.length = 1 by omega]
          rfl
set_option maxRecDepth 100000 in
set_option maxHeartbeats 1000000 in
theorem c_asbAppI (l : Launch) (D : va_G) (Z rx : Nat → ClassId) (sz b v cap x : Nat) (T : List Nat) (n : Int32) (f : Nat → Int32) (hI : SBI (v, cap, n, f) T) (hx99 : x ≤ 99) (hlen : (T ++ decs x).length ≤ 1500) : Met l yJ5_append_c97b9 (wy yJ5_append_c97b9 cJ5_append_c97b9 4 (some (.object "java/lang/AbstractStringBuilder"))) (rk 4 1 4000) (preG (RD rx) vwCl D Z (sbW Z b (v, cap, n, f)) sz [.ref b, .int (nI x)]) (poQ vwCl D Z (sbW Z b) (fun _ => b) (v, cap, n, f) sz (fun u => SBI u (T ++ decs x))) 1 4000 (va_A (sbW Z b (v, cap, n, f)) sz) := by
  have hdl : (decs x).length = if x < 10 then 1 else 2 := decs_len x
  have hln := hlen
  rw [List.length_append] at hln
  have hI3 := hI.2.2.1
  dsimp only at hI3
  refine rwq_ofG (by decide +kernel) (Nat.le_of_ble_eq_true rfl) rfl (Or.inl ⟨_, rfl⟩) ?_
  intro p e s m args below meth c Q A hC hN hR hsz hT hK hret ls hl
  have hT : TS vwCl D (SBW Z b v cap n f) A s.heap s.heap [] := hT
  have hRD := hR
  have hx := hC.1
  have hb := hC.2.1
  have hts := hC.2.2.2.2
  have hl : lv_has ls 4 [(0, .ref b), (1, .int (nI x))] := hl
  refine lv_aload_n hx hb dJ5_append_c97b9_0 rfl (lv_at hl 0 rfl) ?_
  refine w_getJ (C := RJ4) (T := TJ4) (N := 4) (ci := 8) (q0 := 0) (k := 3) hC hK hT.1 fi_J4 rfl rfl rfl (by decide) wq_1366 dJ5_append_c97b9_1 ?_
  rw [show n = nI T.length from hI.1]
  refine lv_istore_n (lv' := [(2, .int (nI T.length)), (0, .ref b), (1, .int (nI x))]) hx hb dJ5_append_c97b9_4 rfl hl (by decide) rfl (fun ls hl => ?_)
  refine lv_iload_n hx hb dJ5_append_c97b9_5 rfl (lv_at hl 0 rfl) ?_
  refine lv_iload_n hx hb dJ5_append_c97b9_6 rfl (lv_at hl 2 rfl) ?_
  refine ro_go (runS (As := [.int (nI x)]) (ws := []) hC hN (c_strSize l D Z s.heap.size x hx99) mi_J6_stringSize_0f7a4 wq_1316 wq_1317 (by decide) va_P_nil va_D_nil hK rfl hl.1 rfl (Nat.le_of_ble_eq_true rfl) dJ5_append_c97b9_7 ⟨Nat.zero_le _, Nat.zero_le _⟩) (fun r hr => ?_)
  rw [show (if x < 10 then (1 : Int32) else 2) = nI (decs x).length from by rw [decs_len]; split <;> rfl] at hr
  subst hr
  refine lv_iadd hx hb dJ5_append_c97b9_10 ?_
  rw [show nI T.length + nI (decs x).length = nI (T ++ decs x).length from by rw [List.length_append]; exact nI_add _ _]
  refine lv_istore_n (lv' := [(3, .int (nI (T ++ decs x).length)), (2, .int (nI T.length)), (0, .ref b), (1, .int (nI x))]) hx hb dJ5_append_c97b9_11 rfl hl (by decide) rfl (fun ls hl => ?_)
  refine lv_aload_n hx hb dJ5_append_c97b9_12 rfl (lv_at hl 2 rfl) ?_
  refine lv_iload_n hx hb dJ5_append_c97b9_13 rfl (lv_at hl 0 rfl) ?_
  have hT0 : TS vwCl D (sbW Z b (v, cap, n, f) ++ []) A s.heap s.heap [] := hT
  refine goV (u0 := (v, cap, n, f)) (wsF := sbW Z b) (runUG (C := RJ4) (As := [.int (nI (T ++ decs x).length)]) (RD.rg rx) hC hN ((hT.rg (RD.rg rx) hR)) (c_ensure l D Z rx _ b v cap ((T ++ decs x).length) n f hI.2.2.1 (by omega) hI.2.2.2.1) mi_J5_ensureCapacityInternal_d00df wq_1215 wq_1491 wq_1217 (hRD.selp.use (List.mem_of_getElem? (i := 0) rfl)) (by decide) hT.1 hT.D' hK (sb_recv (wr := []) hK hT.1) rfl hl.1 rfl (Nat.le_of_ble_eq_true rfl) dJ5_append_c97b9_14 ⟨by omega, by omega⟩) rfl hT0 (fun u H1 locs1 hk hT => ?_)
  obtain ⟨hI1, hk1⟩ := hI.ens (by omega) hk
  obtain ⟨v1, cap1, n1, f1⟩ := u
  dsimp only at hk1
  have en1 : n1 = nI T.length := hI1.1
  subst en1
  have hT : TS vwCl D (SBW Z b v1 cap1 (nI T.length) f1) A s.heap H1 locs1 := hT.dropR
  refine lv_aload_n hx hb dJ5_append_c97b9_17 rfl (lv_at hl 2 rfl) ?_
  refine ro_go (runUG (C := RJ4) (As := []) (RD.rg rx) hC hN (hT.rg (RD.rg rx) hR) (c_sbLat l D Z rx _ b v1 cap1 _ f1) mi_J5_isLatin1_aae02 wq_1246 wq_1248 wq_1247 (hts _ wq_1249) (by decide) hT.1 hT.D' hK (sb_recv (wr := []) hK (by rw [List.append_nil]; exact hT.1)) rfl hl.1 rfl (Nat.le_of_ble_eq_true rfl) dJ5_append_c97b9_18 ⟨by omega, by omega⟩) (fun r hr => ?_)
  subst hr
  refine lv_if_eq (tgt := 37) hx hb dJ5_append_c97b9_21 (by decide) (fun z => absurd z (by decide)) (fun c_21 => ?_)
  refine lv_iload_n hx hb dJ5_append_c97b9_24 rfl (lv_at hl 3 rfl) ?_
  refine lv_iload_n hx hb dJ5_append_c97b9_25 rfl (lv_at hl 0 rfl) ?_
  refine lv_aload_n hx hb dJ5_append_c97b9_26 rfl (lv_at hl 2 rfl) ?_
  refine w_getJ (C := RJ4) (T := TJ4) (N := 4) (ci := 8) (q0 := 0) (k := 0) hC hK hT.1 fi_J4 rfl rfl rfl (by decide) wq_1363 dJ5_append_c97b9_27 ?_
  have hT1 : TS vwCl D ([(v1, .inl (Z 2, cap1, .inl f1))] ++ [(b, .inr (8, [.ref v1, .int 0, .int 0, .int (nI T.length)]))]) A s.heap H1 locs1 := hT.pick [1, 0] (by decide) rfl
  refine goI (u0 := f1) (wsF := fun g => [(v1, .inl (Z 2, cap1, .inl g))]) (runSG (As := [.int (nI x), .int (nI (T ++ decs x).length), .ref v1]) (RD.rg rx) hC hN ((RD.rg rx).appL (hT1.rg (RD.rg rx) hR)) (c_getChars l D Z rx _ v1 cap1 x (T ++ decs x).length f1 hx99 (by rw [List.length_append, decs_len]; omega) hk1 (by have := hI1.2.2.1; dsimp only at this; omega)) mi_J6_getChars_ba4f3 wq_1319 wq_1320 (by decide) hT1.dropR.1 hT1.dropR.D' hK rfl hl.1 rfl (Nat.le_of_ble_eq_true rfl) dJ5_append_c97b9_30 ⟨by omega, by omega⟩) rfl hT1 (fun r u H2 locs2 hk hT2 => ?_)
  subst hk
  have hT : TS vwCl D (SBW Z b v1 cap1 (nI T.length) (gcv f1 x (T ++ decs x).length)) A s.heap H2 locs2 := hT2.front
  refine lv_pop hx hb dJ5_append_c97b9_33 rfl ?_
  refine lv_goto (tgt := 48) hx hb dJ5_append_c97b9_34 (by decide) ?_
  refine lv_aload_n hx hb dJ5_append_c97b9_48 rfl (lv_at hl 2 rfl) ?_
  refine lv_iload_n hx hb dJ5_append_c97b9_49 rfl (lv_at hl 0 rfl) ?_
  refine w_putJ (C := RJ4) (T := TJ4) (N := 4) (ci := 8) (q0 := 0) (k := 3) (ty0 := tyJ4) (ty := .int) (ws' := sbW Z b (v1, cap1, nI (T ++ decs x).length, gcv f1 x (T ++ decs x).length)) hC hK hT fi_J4 tyJ4_ok nmJ4 rfl rfl (by decide) rfl rfl rfl rfl (Nat.le_of_ble_eq_true rfl) rfl wq_1366 dJ5_append_c97b9_50 (fun H3 locs3 hT => ?_)
  refine lv_aload_n hx hb dJ5_append_c97b9_53 rfl (lv_at hl 2 rfl) ?_
  refine W.widen (k := 1) (n := 4000) (by omega) (by omega) ?_
  exact hret 54 ls _ _ (v1, cap1, nI (T ++ decs x).length, gcv f1 x (T ++ decs x).length) (hI1.dig hx99 hk1) hT dJ5_append_c97b9_54
set_option maxRecDepth 100000 in
set_option maxHeartbeats 1000000 in
theorem c_sbAppI (l : Launch) (D : va_G) (Z rx : Nat → ClassId) (sz b v cap x : Nat) (T : List Nat) (n : Int32) (f : Nat → Int32) (hI : SBI (v, cap, n, f) T) (hx99 : x ≤ 99) (hlen : (T ++ decs x).length ≤ 1500) : Met l yJ4_append_bf812 (wy yJ4_append_bf812 cJ4_append_bf812 2 (some (.object "java/lang/StringBuilder"))) (rk 5 1 4000) (preG (RD rx) vwCl D Z (sbW Z b (v, cap, n, f)) sz [.ref b, .int (nI x)]) (poQ vwCl D Z (sbW Z b) (fun _ => b) (v, cap, n, f) sz (fun u => SBI u (T ++ decs x))) 1 4000 (va_A (sbW Z b (v, cap, n, f)) sz) := by
  refine rwq_ofG (by decide +kernel) (Nat.le_of_ble_eq_true rfl) rfl (Or.inl ⟨_, rfl⟩) ?_
  intro p e s m args below meth c Q A hC hN hR hsz hT hK hret ls hl
  have hT : TS vwCl D (SBW Z b v cap n f) A s.heap s.heap [] := hT
  have hx := hC.1
  have hb := hC.2.1
  have hts := hC.2.2.2.2
  have hl : lv_has ls 2 [(0, .ref b), (1, .int (nI x))] := hl
  refine lv_aload_n hx hb dJ4_append_bf812_0 rfl (lv_at hl 0 rfl) ?_
  refine lv_iload_n hx hb dJ4_append_bf812_1 rfl (lv_at hl 1 rfl) ?_
  have hT0 : TS vwCl D (sbW Z b (v, cap, n, f) ++ []) A s.heap s.heap [] := hT
  refine goQ (u0 := (v, cap, n, f)) (g := fun _ => b) (wsF := sbW Z b) (runSUG (C := RJ4) (As := [.int (nI x)]) (hK.1 8 _ rfl).2 (RD.rg rx) hC hN (hT.rg (RD.rg rx) hR) (c_asbAppI l D Z rx _ b v cap x T n f hI hx99 hlen) mi_J5_append_c97b9 wq_1313 wq_1496 wq_1208 wq_1314 (by decide) (by decide) hT.1 hT.D' hK (sb_recv (wr := []) hK hT.1) rfl hl.1 rfl (Nat.le_of_ble_eq_true rfl) dJ4_append_bf812_2 ⟨by omega, by omega⟩) rfl hT0 (fun u H1 locs1 hk hT => ?_)
  have hT : TS vwCl D (sbW Z b u) A s.heap H1 locs1 := hT.dropR
  refine lv_pop hx hb dJ4_append_bf812_5 rfl ?_
  refine lv_aload_n hx hb dJ4_append_bf812_6 rfl (lv_at hl 0 rfl) ?_
  refine W.widen (k := 1) (n := 4000) (by omega) (by omega) ?_
  exact hret 7 ls _ _ u hk hT dJ4_append_bf812_7
