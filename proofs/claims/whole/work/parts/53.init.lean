theorem wq_309 : Cond.methodLink RX0 3 objectInit ∈ lw_g := lw_g_mk (tb_1 (List.mem_of_getElem? (i := 185) rfl)) rfl
theorem wq_303 : Cond.methodLink RX1 3 objectInit ∈ lw_g := lw_g_mk (tb_1 (List.mem_of_getElem? (i := 179) rfl)) rfl
theorem wq_304 : Cond.classLink RX1 67 RX0 ∈ lw_g := lw_g_mk (tb_1 (List.mem_of_getElem? (i := 180) rfl)) rfl
theorem wq_305 : Cond.instantiable RX0 8 ∈ lw_g := lw_g_mk (tb_1 (List.mem_of_getElem? (i := 181) rfl)) rfl
theorem wn_306 : Cond.methodLinkNest RX1 69 yX0_init RX5 ∈ lw_n := lw_n_mk (tb_1 (List.mem_of_getElem? (i := 182) rfl)) rfl
theorem wq_307 : Cond.instanceMethod yX0_init ∈ lw_g := lw_g_mk (tb_1 (List.mem_of_getElem? (i := 183) rfl)) rfl
theorem wq_481 : Cond.methodLink RX4 3 objectInit ∈ lw_g := lw_g_mk (tb_2 (List.mem_of_getElem? (i := 117) rfl)) rfl
theorem wq_1227 : Cond.methodLink RX6 3 objectInit ∈ lw_g := lw_g_mk (tb_5 (List.mem_of_getElem? (i := 143) rfl)) rfl
theorem wq_1233 : Cond.fieldLink RX6 9 RX6 "longs" "[I" ∈ lw_g := lw_g_mk (tb_5 (List.mem_of_getElem? (i := 149) rfl)) rfl
theorem wq_1235 : Cond.fieldLink RX6 15 RX6 "low" "[I" ∈ lw_g := lw_g_mk (tb_5 (List.mem_of_getElem? (i := 151) rfl)) rfl
theorem wq_1238 : Cond.fieldLink RX6 18 RX6 "first" "[I" ∈ lw_g := lw_g_mk (tb_5 (List.mem_of_getElem? (i := 154) rfl)) rfl
theorem wq_1240 : Cond.fieldLink RX6 21 RX6 "boreOf" "[I" ∈ lw_g := lw_g_mk (tb_5 (List.mem_of_getElem? (i := 156) rfl)) rfl
theorem wq_1245 : Cond.fieldLink RX6 24 RX6 "shaftAt" "[I" ∈ lw_g := lw_g_mk (tb_5 (List.mem_of_getElem? (i := 161) rfl)) rfl
theorem wq_1248 : Cond.fieldLink RX6 27 RX6 "draught" "[I" ∈ lw_g := lw_g_mk (tb_5 (List.mem_of_getElem? (i := 164) rfl)) rfl
theorem wq_1253 : Cond.fieldLink RX6 30 RX6 "strength" "[I" ∈ lw_g := lw_g_mk (tb_5 (List.mem_of_getElem? (i := 169) rfl)) rfl
theorem wq_1256 : Cond.fieldLink RX6 33 RX6 "lungs" "[I" ∈ lw_g := lw_g_mk (tb_5 (List.mem_of_getElem? (i := 172) rfl)) rfl
theorem wq_1261 : Cond.fieldLink RX6 36 RX6 "weight" "[I" ∈ lw_g := lw_g_mk (tb_5 (List.mem_of_getElem? (i := 177) rfl)) rfl
theorem wq_1264 : Cond.fieldLink RX6 39 RX6 "end" "[I" ∈ lw_g := lw_g_mk (tb_5 (List.mem_of_getElem? (i := 180) rfl)) rfl
theorem wq_1267 : Cond.fieldLink RX6 42 RX6 "due" "[I" ∈ lw_g := lw_g_mk (tb_5 (List.mem_of_getElem? (i := 183) rfl)) rfl
theorem wq_1270 : Cond.fieldLink RX6 47 RX6 "crew" "[[I" ∈ lw_g := lw_g_mk (tb_5 (List.mem_of_getElem? (i := 186) rfl)) rfl
theorem wq_1276 : Cond.fieldLink RX6 50 RX6 "sort" "[I" ∈ lw_g := lw_g_mk (tb_5 (List.mem_of_getElem? (i := 192) rfl)) rfl
theorem wq_1279 : Cond.fieldLink RX6 53 RX6 "whose" "[I" ∈ lw_g := lw_g_mk (tb_5 (List.mem_of_getElem? (i := 195) rfl)) rfl
theorem wq_1282 : Cond.fieldLink RX6 56 RX6 "test" "[I" ∈ lw_g := lw_g_mk (tb_5 (List.mem_of_getElem? (i := 198) rfl)) rfl
theorem wq_1285 : Cond.fieldLink RX6 59 RX6 "testEnd" "[I" ∈ lw_g := lw_g_mk (tb_5 (List.mem_of_getElem? (i := 201) rfl)) rfl
theorem wq_1288 : Cond.fieldLink RX6 62 RX6 "code" "[I" ∈ lw_g := lw_g_mk (tb_5 (List.mem_of_getElem? (i := 204) rfl)) rfl
theorem wq_1292 : Cond.fieldLink RX6 65 RX6 "open" "[I" ∈ lw_g := lw_g_mk (tb_5 (List.mem_of_getElem? (i := 208) rfl)) rfl
theorem wq_1355 : Cond.methodLink RX7 9 objectInit ∈ lw_g := lw_g_mk (tb_6 (List.mem_of_getElem? (i := 31) rfl)) rfl
theorem wq_308 : Cond.code yX0_init cX0_init 1 none ∈ lw_g := lw_g_mk (tb_1 (List.mem_of_getElem? (i := 184) rfl)) rfl
theorem wq_302 : Cond.code yX1_init cX1_init 1 none ∈ lw_g := lw_g_mk (tb_1 (List.mem_of_getElem? (i := 178) rfl)) rfl
theorem wq_480 : Cond.code yX4_init cX4_init 2 none ∈ lw_g := lw_g_mk (tb_2 (List.mem_of_getElem? (i := 116) rfl)) rfl
theorem wq_1226 : Cond.code yX6_init cX6_init 1 none ∈ lw_g := lw_g_mk (tb_5 (List.mem_of_getElem? (i := 142) rfl)) rfl
theorem wq_136 : Cond.initialized RX6 ∈ lw_g := lw_g_mk (tb_1 (List.mem_of_getElem? (i := 12) rfl)) rfl
theorem wq_1354 : Cond.code yX7_init cX7_init 2 none ∈ lw_g := lw_g_mk (tb_6 (List.mem_of_getElem? (i := 30) rfl)) rfl
def tT0 : M2 := up2 zM 3 (fun _ => -1)
def sS0 : M2 := up2 zM 212 (fun _ => -1)
theorem dX0_init_0 : decode cX0_init 0 = .ok (.aload_n 0, 1) := by decide +kernel
theorem dX0_init_1 : decode cX0_init 1 = .ok (.invokespecial 3, 3) := by decide +kernel
theorem dX0_init_4 : decode cX0_init 4 = .ok (.aload_n 0, 1) := by decide +kernel
theorem dX0_init_5 : decode cX0_init 5 = .ok (.iconst 0, 1) := by decide +kernel
theorem dX0_init_6 : decode cX0_init 6 = .ok (.putfield 9, 3) := by decide +kernel
theorem dX0_init_9 : decode cX0_init 9 = .ok (.aload_n 0, 1) := by decide +kernel
theorem dX0_init_10 : decode cX0_init 10 = .ok (.bipush 16, 2) := by decide +kernel
theorem dX0_init_12 : decode cX0_init 12 = .ok (.newarray .int, 2) := by decide +kernel
theorem dX0_init_14 : decode cX0_init 14 = .ok (.putfield 15, 3) := by decide +kernel
theorem dX0_init_17 : decode cX0_init 17 = .ok (.aload_n 0, 1) := by decide +kernel
theorem dX0_init_18 : decode cX0_init 18 = .ok (.bipush 16, 2) := by decide +kernel
theorem dX0_init_20 : decode cX0_init 20 = .ok (.newarray .int, 2) := by decide +kernel
theorem dX0_init_22 : decode cX0_init 22 = .ok (.putfield 19, 3) := by decide +kernel
theorem dX0_init_25 : decode cX0_init 25 = .ok (.aload_n 0, 1) := by decide +kernel
theorem dX0_init_26 : decode cX0_init 26 = .ok (.bipush 16, 2) := by decide +kernel
theorem dX0_init_28 : decode cX0_init 28 = .ok (.newarray .int, 2) := by decide +kernel
theorem dX0_init_30 : decode cX0_init 30 = .ok (.putfield 22, 3) := by decide +kernel
theorem dX0_init_33 : decode cX0_init 33 = .ok (.aload_n 0, 1) := by decide +kernel
theorem dX0_init_34 : decode cX0_init 34 = .ok (.bipush 16, 2) := by decide +kernel
theorem dX0_init_36 : decode cX0_init 36 = .ok (.newarray .int, 2) := by decide +kernel
theorem dX0_init_38 : decode cX0_init 38 = .ok (.putfield 25, 3) := by decide +kernel
theorem dX0_init_41 : decode cX0_init 41 = .ok (.aload_n 0, 1) := by decide +kernel
theorem dX0_init_42 : decode cX0_init 42 = .ok (.iconst 0, 1) := by decide +kernel
theorem dX0_init_43 : decode cX0_init 43 = .ok (.putfield 28, 3) := by decide +kernel
theorem dX0_init_46 : decode cX0_init 46 = .ok (.aload_n 0, 1) := by decide +kernel
theorem dX0_init_47 : decode cX0_init 47 = .ok (.sipush 400, 3) := by decide +kernel
theorem dX0_init_50 : decode cX0_init 50 = .ok (.newarray .int, 2) := by decide +kernel
theorem dX0_init_52 : decode cX0_init 52 = .ok (.putfield 31, 3) := by decide +kernel
theorem dX0_init_55 : decode cX0_init 55 = .ok (.aload_n 0, 1) := by decide +kernel
theorem dX0_init_56 : decode cX0_init 56 = .ok (.sipush 400, 3) := by decide +kernel
theorem dX0_init_59 : decode cX0_init 59 = .ok (.newarray .int, 2) := by decide +kernel
theorem dX0_init_61 : decode cX0_init 61 = .ok (.putfield 34, 3) := by decide +kernel
theorem dX0_init_64 : decode cX0_init 64 = .ok (.return_, 1) := by decide +kernel
theorem dX1_init_0 : decode cX1_init 0 = .ok (.aload_n 0, 1) := by decide +kernel
theorem dX1_init_1 : decode cX1_init 1 = .ok (.invokespecial 3, 3) := by decide +kernel
theorem dX1_init_4 : decode cX1_init 4 = .ok (.aload_n 0, 1) := by decide +kernel
theorem dX1_init_5 : decode cX1_init 5 = .ok (.iconst 0, 1) := by decide +kernel
theorem dX1_init_6 : decode cX1_init 6 = .ok (.putfield 9, 3) := by decide +kernel
theorem dX1_init_9 : decode cX1_init 9 = .ok (.aload_n 0, 1) := by decide +kernel
theorem dX1_init_10 : decode cX1_init 10 = .ok (.iconst 0, 1) := by decide +kernel
theorem dX1_init_11 : decode cX1_init 11 = .ok (.putfield 15, 3) := by decide +kernel
theorem dX1_init_14 : decode cX1_init 14 = .ok (.aload_n 0, 1) := by decide +kernel
theorem dX1_init_15 : decode cX1_init 15 = .ok (.iconst 0, 1) := by decide +kernel
theorem dX1_init_16 : decode cX1_init 16 = .ok (.putfield 18, 3) := by decide +kernel
theorem dX1_init_19 : decode cX1_init 19 = .ok (.aload_n 0, 1) := by decide +kernel
theorem dX1_init_20 : decode cX1_init 20 = .ok (.iconst 0, 1) := by decide +kernel
theorem dX1_init_21 : decode cX1_init 21 = .ok (.putfield 21, 3) := by decide +kernel
theorem dX1_init_24 : decode cX1_init 24 = .ok (.aload_n 0, 1) := by decide +kernel
theorem dX1_init_25 : decode cX1_init 25 = .ok (.iconst 0, 1) := by decide +kernel
theorem dX1_init_26 : decode cX1_init 26 = .ok (.putfield 24, 3) := by decide +kernel
theorem dX1_init_29 : decode cX1_init 29 = .ok (.aload_n 0, 1) := by decide +kernel
theorem dX1_init_30 : decode cX1_init 30 = .ok (.iconst 5, 1) := by decide +kernel
theorem dX1_init_31 : decode cX1_init 31 = .ok (.newarray .int, 2) := by decide +kernel
theorem dX1_init_33 : decode cX1_init 33 = .ok (.putfield 27, 3) := by decide +kernel
theorem dX1_init_36 : decode cX1_init 36 = .ok (.aload_n 0, 1) := by decide +kernel
theorem dX1_init_37 : decode cX1_init 37 = .ok (.iconst 5, 1) := by decide +kernel
theorem dX1_init_38 : decode cX1_init 38 = .ok (.newarray .int, 2) := by decide +kernel
theorem dX1_init_40 : decode cX1_init 40 = .ok (.putfield 31, 3) := by decide +kernel
theorem dX1_init_43 : decode cX1_init 43 = .ok (.aload_n 0, 1) := by decide +kernel
theorem dX1_init_44 : decode cX1_init 44 = .ok (.iconst 5, 1) := by decide +kernel
theorem dX1_init_45 : decode cX1_init 45 = .ok (.newarray .int, 2) := by decide +kernel
theorem dX1_init_47 : decode cX1_init 47 = .ok (.putfield 34, 3) := by decide +kernel
theorem dX1_init_50 : decode cX1_init 50 = .ok (.aload_n 0, 1) := by decide +kernel
theorem dX1_init_51 : decode cX1_init 51 = .ok (.bipush 60, 2) := by decide +kernel
theorem dX1_init_53 : decode cX1_init 53 = .ok (.newarray .int, 2) := by decide +kernel
theorem dX1_init_55 : decode cX1_init 55 = .ok (.putfield 37, 3) := by decide +kernel
theorem dX1_init_58 : decode cX1_init 58 = .ok (.aload_n 0, 1) := by decide +kernel
theorem dX1_init_59 : decode cX1_init 59 = .ok (.iconst 4, 1) := by decide +kernel
theorem dX1_init_60 : decode cX1_init 60 = .ok (.newarray .int, 2) := by decide +kernel
theorem dX1_init_62 : decode cX1_init 62 = .ok (.putfield 40, 3) := by decide +kernel
theorem dX1_init_65 : decode cX1_init 65 = .ok (.aload_n 0, 1) := by decide +kernel
theorem dX1_init_66 : decode cX1_init 66 = .ok (.iconst 4, 1) := by decide +kernel
theorem dX1_init_67 : decode cX1_init 67 = .ok (.newarray .int, 2) := by decide +kernel
theorem dX1_init_69 : decode cX1_init 69 = .ok (.putfield 43, 3) := by decide +kernel
theorem dX1_init_72 : decode cX1_init 72 = .ok (.aload_n 0, 1) := by decide +kernel
theorem dX1_init_73 : decode cX1_init 73 = .ok (.bipush 6, 2) := by decide +kernel
theorem dX1_init_75 : decode cX1_init 75 = .ok (.newarray .int, 2) := by decide +kernel
theorem dX1_init_77 : decode cX1_init 77 = .ok (.putfield 46, 3) := by decide +kernel
theorem dX1_init_80 : decode cX1_init 80 = .ok (.aload_n 0, 1) := by decide +kernel
theorem dX1_init_81 : decode cX1_init 81 = .ok (.bipush 6, 2) := by decide +kernel
theorem dX1_init_83 : decode cX1_init 83 = .ok (.newarray .int, 2) := by decide +kernel
theorem dX1_init_85 : decode cX1_init 85 = .ok (.putfield 49, 3) := by decide +kernel
theorem dX1_init_88 : decode cX1_init 88 = .ok (.aload_n 0, 1) := by decide +kernel
theorem dX1_init_89 : decode cX1_init 89 = .ok (.bipush 8, 2) := by decide +kernel
theorem dX1_init_91 : decode cX1_init 91 = .ok (.newarray .int, 2) := by decide +kernel
theorem dX1_init_93 : decode cX1_init 93 = .ok (.putfield 52, 3) := by decide +kernel
theorem dX1_init_96 : decode cX1_init 96 = .ok (.aload_n 0, 1) := by decide +kernel
theorem dX1_init_97 : decode cX1_init 97 = .ok (.bipush 8, 2) := by decide +kernel
theorem dX1_init_99 : decode cX1_init 99 = .ok (.newarray .int, 2) := by decide +kernel
theorem dX1_init_101 : decode cX1_init 101 = .ok (.putfield 55, 3) := by decide +kernel
theorem dX1_init_104 : decode cX1_init 104 = .ok (.aload_n 0, 1) := by decide +kernel
theorem dX1_init_105 : decode cX1_init 105 = .ok (.bipush 8, 2) := by decide +kernel
theorem dX1_init_107 : decode cX1_init 107 = .ok (.newarray .int, 2) := by decide +kernel
theorem dX1_init_109 : decode cX1_init 109 = .ok (.putfield 58, 3) := by decide +kernel
theorem dX1_init_112 : decode cX1_init 112 = .ok (.aload_n 0, 1) := by decide +kernel
theorem dX1_init_113 : decode cX1_init 113 = .ok (.bipush 8, 2) := by decide +kernel
theorem dX1_init_115 : decode cX1_init 115 = .ok (.newarray .int, 2) := by decide +kernel
theorem dX1_init_117 : decode cX1_init 117 = .ok (.putfield 61, 3) := by decide +kernel
theorem dX1_init_120 : decode cX1_init 120 = .ok (.aload_n 0, 1) := by decide +kernel
theorem dX1_init_121 : decode cX1_init 121 = .ok (.bipush 8, 2) := by decide +kernel
theorem dX1_init_123 : decode cX1_init 123 = .ok (.newarray .int, 2) := by decide +kernel
theorem dX1_init_125 : decode cX1_init 125 = .ok (.putfield 64, 3) := by decide +kernel
theorem dX1_init_128 : decode cX1_init 128 = .ok (.aload_n 0, 1) := by decide +kernel
theorem dX1_init_129 : decode cX1_init 129 = .ok (.new 67, 3) := by decide +kernel
theorem dX1_init_132 : decode cX1_init 132 = .ok (.dup, 1) := by decide +kernel
theorem dX1_init_133 : decode cX1_init 133 = .ok (.invokespecial 69, 3) := by decide +kernel
theorem dX1_init_136 : decode cX1_init 136 = .ok (.putfield 70, 3) := by decide +kernel
theorem dX1_init_139 : decode cX1_init 139 = .ok (.return_, 1) := by decide +kernel
theorem dX4_init_0 : decode cX4_init 0 = .ok (.aload_n 0, 1) := by decide +kernel
theorem dX4_init_1 : decode cX4_init 1 = .ok (.invokespecial 3, 3) := by decide +kernel
theorem dX4_init_4 : decode cX4_init 4 = .ok (.aload_n 0, 1) := by decide +kernel
theorem dX4_init_5 : decode cX4_init 5 = .ok (.iconst 0, 1) := by decide +kernel
theorem dX4_init_6 : decode cX4_init 6 = .ok (.putfield 9, 3) := by decide +kernel
theorem dX4_init_9 : decode cX4_init 9 = .ok (.aload_n 0, 1) := by decide +kernel
theorem dX4_init_10 : decode cX4_init 10 = .ok (.iconst 0, 1) := by decide +kernel
theorem dX4_init_11 : decode cX4_init 11 = .ok (.putfield 15, 3) := by decide +kernel
theorem dX4_init_14 : decode cX4_init 14 = .ok (.aload_n 0, 1) := by decide +kernel
theorem dX4_init_15 : decode cX4_init 15 = .ok (.iconst (-1), 1) := by decide +kernel
theorem dX4_init_16 : decode cX4_init 16 = .ok (.putfield 18, 3) := by decide +kernel
theorem dX4_init_19 : decode cX4_init 19 = .ok (.aload_n 0, 1) := by decide +kernel
theorem dX4_init_20 : decode cX4_init 20 = .ok (.bipush 60, 2) := by decide +kernel
theorem dX4_init_22 : decode cX4_init 22 = .ok (.newarray .int, 2) := by decide +kernel
theorem dX4_init_24 : decode cX4_init 24 = .ok (.putfield 21, 3) := by decide +kernel
theorem dX4_init_27 : decode cX4_init 27 = .ok (.aload_n 0, 1) := by decide +kernel
theorem dX4_init_28 : decode cX4_init 28 = .ok (.bipush 6, 2) := by decide +kernel
theorem dX4_init_30 : decode cX4_init 30 = .ok (.newarray .int, 2) := by decide +kernel
theorem dX4_init_32 : decode cX4_init 32 = .ok (.putfield 25, 3) := by decide +kernel
theorem dX4_init_35 : decode cX4_init 35 = .ok (.aload_n 0, 1) := by decide +kernel
theorem dX4_init_36 : decode cX4_init 36 = .ok (.bipush 6, 2) := by decide +kernel
theorem dX4_init_38 : decode cX4_init 38 = .ok (.newarray .int, 2) := by decide +kernel
theorem dX4_init_40 : decode cX4_init 40 = .ok (.putfield 28, 3) := by decide +kernel
theorem dX4_init_43 : decode cX4_init 43 = .ok (.aload_n 0, 1) := by decide +kernel
theorem dX4_init_44 : decode cX4_init 44 = .ok (.bipush 6, 2) := by decide +kernel
theorem dX4_init_46 : decode cX4_init 46 = .ok (.newarray .int, 2) := by decide +kernel
theorem dX4_init_48 : decode cX4_init 48 = .ok (.putfield 31, 3) := by decide +kernel
theorem dX4_init_51 : decode cX4_init 51 = .ok (.aload_n 0, 1) := by decide +kernel
theorem dX4_init_52 : decode cX4_init 52 = .ok (.bipush 8, 2) := by decide +kernel
theorem dX4_init_54 : decode cX4_init 54 = .ok (.newarray .int, 2) := by decide +kernel
theorem dX4_init_56 : decode cX4_init 56 = .ok (.putfield 34, 3) := by decide +kernel
theorem dX4_init_59 : decode cX4_init 59 = .ok (.aload_n 0, 1) := by decide +kernel
theorem dX4_init_60 : decode cX4_init 60 = .ok (.bipush 8, 2) := by decide +kernel
theorem dX4_init_62 : decode cX4_init 62 = .ok (.newarray .int, 2) := by decide +kernel
theorem dX4_init_64 : decode cX4_init 64 = .ok (.putfield 37, 3) := by decide +kernel
theorem dX4_init_67 : decode cX4_init 67 = .ok (.aload_n 0, 1) := by decide +kernel
theorem dX4_init_68 : decode cX4_init 68 = .ok (.bipush 8, 2) := by decide +kernel
theorem dX4_init_70 : decode cX4_init 70 = .ok (.newarray .int, 2) := by decide +kernel
theorem dX4_init_72 : decode cX4_init 72 = .ok (.putfield 40, 3) := by decide +kernel
theorem dX4_init_75 : decode cX4_init 75 = .ok (.aload_n 0, 1) := by decide +kernel
theorem dX4_init_76 : decode cX4_init 76 = .ok (.bipush 8, 2) := by decide +kernel
theorem dX4_init_78 : decode cX4_init 78 = .ok (.newarray .int, 2) := by decide +kernel
theorem dX4_init_80 : decode cX4_init 80 = .ok (.putfield 43, 3) := by decide +kernel
theorem dX4_init_83 : decode cX4_init 83 = .ok (.aload_n 0, 1) := by decide +kernel
theorem dX4_init_84 : decode cX4_init 84 = .ok (.bipush 8, 2) := by decide +kernel
theorem dX4_init_86 : decode cX4_init 86 = .ok (.newarray .int, 2) := by decide +kernel
theorem dX4_init_88 : decode cX4_init 88 = .ok (.putfield 46, 3) := by decide +kernel
theorem dX4_init_91 : decode cX4_init 91 = .ok (.aload_n 0, 1) := by decide +kernel
theorem dX4_init_92 : decode cX4_init 92 = .ok (.bipush 8, 2) := by decide +kernel
theorem dX4_init_94 : decode cX4_init 94 = .ok (.newarray .int, 2) := by decide +kernel
theorem dX4_init_96 : decode cX4_init 96 = .ok (.putfield 49, 3) := by decide +kernel
theorem dX4_init_99 : decode cX4_init 99 = .ok (.aload_n 0, 1) := by decide +kernel
theorem dX4_init_100 : decode cX4_init 100 = .ok (.sipush 400, 3) := by decide +kernel
theorem dX4_init_103 : decode cX4_init 103 = .ok (.newarray .int, 2) := by decide +kernel
theorem dX4_init_105 : decode cX4_init 105 = .ok (.putfield 52, 3) := by decide +kernel
theorem dX4_init_108 : decode cX4_init 108 = .ok (.aload_n 0, 1) := by decide +kernel
theorem dX4_init_109 : decode cX4_init 109 = .ok (.aload_n 1, 1) := by decide +kernel
theorem dX4_init_110 : decode cX4_init 110 = .ok (.putfield 55, 3) := by decide +kernel
theorem dX4_init_113 : decode cX4_init 113 = .ok (.return_, 1) := by decide +kernel
theorem dX6_init_0 : decode cX6_init 0 = .ok (.aload_n 0, 1) := by decide +kernel
theorem dX6_init_1 : decode cX6_init 1 = .ok (.invokespecial 3, 3) := by decide +kernel
theorem dX6_init_4 : decode cX6_init 4 = .ok (.aload_n 0, 1) := by decide +kernel
theorem dX6_init_5 : decode cX6_init 5 = .ok (.iconst 5, 1) := by decide +kernel
theorem dX6_init_6 : decode cX6_init 6 = .ok (.newarray .int, 2) := by decide +kernel
theorem dX6_init_8 : decode cX6_init 8 = .ok (.putfield 9, 3) := by decide +kernel
theorem dX6_init_11 : decode cX6_init 11 = .ok (.aload_n 0, 1) := by decide +kernel
theorem dX6_init_12 : decode cX6_init 12 = .ok (.iconst 5, 1) := by decide +kernel
theorem dX6_init_13 : decode cX6_init 13 = .ok (.newarray .int, 2) := by decide +kernel
theorem dX6_init_15 : decode cX6_init 15 = .ok (.putfield 15, 3) := by decide +kernel
theorem dX6_init_18 : decode cX6_init 18 = .ok (.aload_n 0, 1) := by decide +kernel
theorem dX6_init_19 : decode cX6_init 19 = .ok (.iconst 5, 1) := by decide +kernel
theorem dX6_init_20 : decode cX6_init 20 = .ok (.newarray .int, 2) := by decide +kernel
theorem dX6_init_22 : decode cX6_init 22 = .ok (.putfield 18, 3) := by decide +kernel
theorem dX6_init_25 : decode cX6_init 25 = .ok (.aload_n 0, 1) := by decide +kernel
theorem dX6_init_26 : decode cX6_init 26 = .ok (.bipush 60, 2) := by decide +kernel
theorem dX6_init_28 : decode cX6_init 28 = .ok (.newarray .int, 2) := by decide +kernel
theorem dX6_init_30 : decode cX6_init 30 = .ok (.putfield 21, 3) := by decide +kernel
theorem dX6_init_33 : decode cX6_init 33 = .ok (.aload_n 0, 1) := by decide +kernel
theorem dX6_init_34 : decode cX6_init 34 = .ok (.iconst 4, 1) := by decide +kernel
theorem dX6_init_35 : decode cX6_init 35 = .ok (.newarray .int, 2) := by decide +kernel
theorem dX6_init_37 : decode cX6_init 37 = .ok (.putfield 24, 3) := by decide +kernel
theorem dX6_init_40 : decode cX6_init 40 = .ok (.aload_n 0, 1) := by decide +kernel
theorem dX6_init_41 : decode cX6_init 41 = .ok (.iconst 4, 1) := by decide +kernel
theorem dX6_init_42 : decode cX6_init 42 = .ok (.newarray .int, 2) := by decide +kernel
theorem dX6_init_44 : decode cX6_init 44 = .ok (.putfield 27, 3) := by decide +kernel
theorem dX6_init_47 : decode cX6_init 47 = .ok (.aload_n 0, 1) := by decide +kernel
theorem dX6_init_48 : decode cX6_init 48 = .ok (.bipush 6, 2) := by decide +kernel
theorem dX6_init_50 : decode cX6_init 50 = .ok (.newarray .int, 2) := by decide +kernel
theorem dX6_init_52 : decode cX6_init 52 = .ok (.putfield 30, 3) := by decide +kernel
theorem dX6_init_55 : decode cX6_init 55 = .ok (.aload_n 0, 1) := by decide +kernel
theorem dX6_init_56 : decode cX6_init 56 = .ok (.bipush 6, 2) := by decide +kernel
theorem dX6_init_58 : decode cX6_init 58 = .ok (.newarray .int, 2) := by decide +kernel
theorem dX6_init_60 : decode cX6_init 60 = .ok (.putfield 33, 3) := by decide +kernel
theorem dX6_init_63 : decode cX6_init 63 = .ok (.aload_n 0, 1) := by decide +kernel
theorem dX6_init_64 : decode cX6_init 64 = .ok (.bipush 8, 2) := by decide +kernel
theorem dX6_init_66 : decode cX6_init 66 = .ok (.newarray .int, 2) := by decide +kernel
theorem dX6_init_68 : decode cX6_init 68 = .ok (.putfield 36, 3) := by decide +kernel
theorem dX6_init_71 : decode cX6_init 71 = .ok (.aload_n 0, 1) := by decide +kernel
theorem dX6_init_72 : decode cX6_init 72 = .ok (.bipush 8, 2) := by decide +kernel
theorem dX6_init_74 : decode cX6_init 74 = .ok (.newarray .int, 2) := by decide +kernel
theorem dX6_init_76 : decode cX6_init 76 = .ok (.putfield 39, 3) := by decide +kernel
theorem dX6_init_79 : decode cX6_init 79 = .ok (.aload_n 0, 1) := by decide +kernel
theorem dX6_init_80 : decode cX6_init 80 = .ok (.bipush 8, 2) := by decide +kernel
theorem dX6_init_82 : decode cX6_init 82 = .ok (.newarray .int, 2) := by decide +kernel
theorem dX6_init_84 : decode cX6_init 84 = .ok (.putfield 42, 3) := by decide +kernel
theorem dX6_init_87 : decode cX6_init 87 = .ok (.aload_n 0, 1) := by decide +kernel
theorem dX6_init_88 : decode cX6_init 88 = .ok (.bipush 8, 2) := by decide +kernel
theorem dX6_init_90 : decode cX6_init 90 = .ok (.iconst 2, 1) := by decide +kernel
theorem dX6_init_91 : decode cX6_init 91 = .ok (.multianewarray 45 2, 4) := by decide +kernel
theorem dX6_init_95 : decode cX6_init 95 = .ok (.putfield 47, 3) := by decide +kernel
theorem dX6_init_98 : decode cX6_init 98 = .ok (.aload_n 0, 1) := by decide +kernel
theorem dX6_init_99 : decode cX6_init 99 = .ok (.bipush 16, 2) := by decide +kernel
theorem dX6_init_101 : decode cX6_init 101 = .ok (.newarray .int, 2) := by decide +kernel
theorem dX6_init_103 : decode cX6_init 103 = .ok (.putfield 50, 3) := by decide +kernel
theorem dX6_init_106 : decode cX6_init 106 = .ok (.aload_n 0, 1) := by decide +kernel
theorem dX6_init_107 : decode cX6_init 107 = .ok (.bipush 16, 2) := by decide +kernel
theorem dX6_init_109 : decode cX6_init 109 = .ok (.newarray .int, 2) := by decide +kernel
theorem dX6_init_111 : decode cX6_init 111 = .ok (.putfield 53, 3) := by decide +kernel
theorem dX6_init_114 : decode cX6_init 114 = .ok (.aload_n 0, 1) := by decide +kernel
theorem dX6_init_115 : decode cX6_init 115 = .ok (.bipush 17, 2) := by decide +kernel
theorem dX6_init_117 : decode cX6_init 117 = .ok (.newarray .int, 2) := by decide +kernel
theorem dX6_init_119 : decode cX6_init 119 = .ok (.putfield 56, 3) := by decide +kernel
theorem dX6_init_122 : decode cX6_init 122 = .ok (.aload_n 0, 1) := by decide +kernel
theorem dX6_init_123 : decode cX6_init 123 = .ok (.bipush 17, 2) := by decide +kernel
theorem dX6_init_125 : decode cX6_init 125 = .ok (.newarray .int, 2) := by decide +kernel
theorem dX6_init_127 : decode cX6_init 127 = .ok (.putfield 59, 3) := by decide +kernel
theorem dX6_init_130 : decode cX6_init 130 = .ok (.aload_n 0, 1) := by decide +kernel
theorem dX6_init_131 : decode cX6_init 131 = .ok (.sipush 800, 3) := by decide +kernel
theorem dX6_init_134 : decode cX6_init 134 = .ok (.newarray .int, 2) := by decide +kernel
theorem dX6_init_136 : decode cX6_init 136 = .ok (.putfield 62, 3) := by decide +kernel
theorem dX6_init_139 : decode cX6_init 139 = .ok (.aload_n 0, 1) := by decide +kernel
theorem dX6_init_140 : decode cX6_init 140 = .ok (.sipush 400, 3) := by decide +kernel
theorem dX6_init_143 : decode cX6_init 143 = .ok (.newarray .int, 2) := by decide +kernel
theorem dX6_init_145 : decode cX6_init 145 = .ok (.putfield 65, 3) := by decide +kernel
theorem dX6_init_148 : decode cX6_init 148 = .ok (.return_, 1) := by decide +kernel
theorem dX7_init_0 : decode cX7_init 0 = .ok (.aload_n 0, 1) := by decide +kernel
theorem dX7_init_1 : decode cX7_init 1 = .ok (.aload_n 1, 1) := by decide +kernel
theorem dX7_init_2 : decode cX7_init 2 = .ok (.putfield 3, 3) := by decide +kernel
theorem dX7_init_5 : decode cX7_init 5 = .ok (.aload_n 0, 1) := by decide +kernel
theorem dX7_init_6 : decode cX7_init 6 = .ok (.invokespecial 9, 3) := by decide +kernel
theorem dX7_init_9 : decode cX7_init 9 = .ok (.aload_n 0, 1) := by decide +kernel
theorem dX7_init_10 : decode cX7_init 10 = .ok (.bipush 60, 2) := by decide +kernel
theorem dX7_init_12 : decode cX7_init 12 = .ok (.newarray .int, 2) := by decide +kernel
theorem dX7_init_14 : decode cX7_init 14 = .ok (.putfield 15, 3) := by decide +kernel
theorem dX7_init_17 : decode cX7_init 17 = .ok (.aload_n 0, 1) := by decide +kernel
theorem dX7_init_18 : decode cX7_init 18 = .ok (.bipush 6, 2) := by decide +kernel
theorem dX7_init_20 : decode cX7_init 20 = .ok (.newarray .int, 2) := by decide +kernel
theorem dX7_init_22 : decode cX7_init 22 = .ok (.putfield 19, 3) := by decide +kernel
theorem dX7_init_25 : decode cX7_init 25 = .ok (.aload_n 0, 1) := by decide +kernel
theorem dX7_init_26 : decode cX7_init 26 = .ok (.bipush 6, 2) := by decide +kernel
theorem dX7_init_28 : decode cX7_init 28 = .ok (.newarray .int, 2) := by decide +kernel
theorem dX7_init_30 : decode cX7_init 30 = .ok (.putfield 22, 3) := by decide +kernel
theorem dX7_init_33 : decode cX7_init 33 = .ok (.aload_n 0, 1) := by decide +kernel
theorem dX7_init_34 : decode cX7_init 34 = .ok (.bipush 6, 2) := by decide +kernel
theorem dX7_init_36 : decode cX7_init 36 = .ok (.newarray .int, 2) := by decide +kernel
theorem dX7_init_38 : decode cX7_init 38 = .ok (.putfield 25, 3) := by decide +kernel
theorem dX7_init_41 : decode cX7_init 41 = .ok (.aload_n 0, 1) := by decide +kernel
theorem dX7_init_42 : decode cX7_init 42 = .ok (.bipush 8, 2) := by decide +kernel
theorem dX7_init_44 : decode cX7_init 44 = .ok (.newarray .int, 2) := by decide +kernel
theorem dX7_init_46 : decode cX7_init 46 = .ok (.putfield 28, 3) := by decide +kernel
theorem dX7_init_49 : decode cX7_init 49 = .ok (.aload_n 0, 1) := by decide +kernel
theorem dX7_init_50 : decode cX7_init 50 = .ok (.bipush 8, 2) := by decide +kernel
theorem dX7_init_52 : decode cX7_init 52 = .ok (.newarray .int, 2) := by decide +kernel
theorem dX7_init_54 : decode cX7_init 54 = .ok (.putfield 31, 3) := by decide +kernel
theorem dX7_init_57 : decode cX7_init 57 = .ok (.aload_n 0, 1) := by decide +kernel
theorem dX7_init_58 : decode cX7_init 58 = .ok (.bipush 8, 2) := by decide +kernel
theorem dX7_init_60 : decode cX7_init 60 = .ok (.newarray .int, 2) := by decide +kernel
theorem dX7_init_62 : decode cX7_init 62 = .ok (.putfield 34, 3) := by decide +kernel
theorem dX7_init_65 : decode cX7_init 65 = .ok (.aload_n 0, 1) := by decide +kernel
theorem dX7_init_66 : decode cX7_init 66 = .ok (.bipush 8, 2) := by decide +kernel
theorem dX7_init_68 : decode cX7_init 68 = .ok (.newarray .int, 2) := by decide +kernel
theorem dX7_init_70 : decode cX7_init 70 = .ok (.putfield 37, 3) := by decide +kernel
theorem dX7_init_73 : decode cX7_init 73 = .ok (.aload_n 0, 1) := by decide +kernel
theorem dX7_init_74 : decode cX7_init 74 = .ok (.bipush 8, 2) := by decide +kernel
theorem dX7_init_76 : decode cX7_init 76 = .ok (.newarray .int, 2) := by decide +kernel
theorem dX7_init_78 : decode cX7_init 78 = .ok (.putfield 40, 3) := by decide +kernel
theorem dX7_init_81 : decode cX7_init 81 = .ok (.aload_n 0, 1) := by decide +kernel
theorem dX7_init_82 : decode cX7_init 82 = .ok (.bipush 8, 2) := by decide +kernel
theorem dX7_init_84 : decode cX7_init 84 = .ok (.newarray .int, 2) := by decide +kernel
theorem dX7_init_86 : decode cX7_init 86 = .ok (.putfield 43, 3) := by decide +kernel
theorem dX7_init_89 : decode cX7_init 89 = .ok (.aload_n 0, 1) := by decide +kernel
theorem dX7_init_90 : decode cX7_init 90 = .ok (.iconst (-1), 1) := by decide +kernel
theorem dX7_init_91 : decode cX7_init 91 = .ok (.putfield 46, 3) := by decide +kernel
theorem dX7_init_94 : decode cX7_init 94 = .ok (.aload_n 0, 1) := by decide +kernel
theorem dX7_init_95 : decode cX7_init 95 = .ok (.sipush 400, 3) := by decide +kernel
theorem dX7_init_98 : decode cX7_init 98 = .ok (.newarray .int, 2) := by decide +kernel
theorem dX7_init_100 : decode cX7_init 100 = .ok (.putfield 50, 3) := by decide +kernel
theorem dX7_init_103 : decode cX7_init 103 = .ok (.return_, 1) := by decide +kernel
theorem mi_X0_init : MInfo yX0_init cX0_init 1 none 0 := ⟨wq_308, wq_133, by decide, ⟨by decide +kernel, by decide +kernel, by decide +kernel⟩, by decide +kernel⟩
theorem mi_X1_init : MInfo yX1_init cX1_init 1 none 0 := ⟨wq_302, wq_132, by decide, ⟨by decide +kernel, by decide +kernel, by decide +kernel⟩, by decide +kernel⟩
theorem mi_X4_init : MInfo yX4_init cX4_init 2 none 1 := ⟨wq_480, wq_134, by decide, ⟨by decide +kernel, by decide +kernel, by decide +kernel⟩, by decide +kernel⟩
theorem mi_X6_init : MInfo yX6_init cX6_init 1 none 0 := ⟨wq_1226, wq_136, by decide, ⟨by decide +kernel, by decide +kernel, by decide +kernel⟩, by decide +kernel⟩
theorem mi_X7_init : MInfo yX7_init cX7_init 2 none 1 := ⟨wq_1354, wq_137, by decide, ⟨by decide +kernel, by decide +kernel, by decide +kernel⟩, by decide +kernel⟩
def iw_X0_init (Z : Nat → ClassId) (h0 : Nat) : Option (Nat → Nat) → va_W
  | none => [(h0, .inr (0, [.int 0, .null, .null, .null, .null, .int 0, .null, .null]))]
  | some a => [(a 40, .inr (0, [.int (zM 40 0), .ref (a 41), .ref (a 42), .ref (a 43), .ref (a 44), .int (zM 45 0), .ref (a 46), .ref (a 47)])), (a 41, .inl (Z 0, 16, .inl (zM 41))), (a 42, .inl (Z 0, 16, .inl (zM 42))), (a 43, .inl (Z 0, 16, .inl (zM 43))), (a 44, .inl (Z 0, 16, .inl (zM 44))), (a 46, .inl (Z 0, 400, .inl (zM 46))), (a 47, .inl (Z 0, 400, .inl (zM 47)))]
set_option maxRecDepth 100000 in
set_option maxHeartbeats 4000000 in
theorem c_X0_init (l : Launch) (D : va_G) (Z : Nat → ClassId) (sz h0 : Nat) : Met l yX0_init (wy yX0_init cX0_init 1 none) (rk 1 6 864) (pre vwCl D Z (iw_X0_init Z h0 none) sz [.ref h0]) (poV vwCl D Z (iw_X0_init Z h0) none sz (fun u => ∃ a, u = some a ∧ a 40 = h0)) 6 864 (va_A (iw_X0_init Z h0 none) sz) := by
  refine rwv_of (wsF := iw_X0_init Z h0) (u0 := none) (by decide +kernel) (Nat.le_of_ble_eq_true rfl) rfl ?_
  intro p e s m args below meth c Q A hC hN hsz hnm hT hK hret ls hl
  have hx := hC.1
  have hb := hC.2.1
  have hl : lv_has ls 1 [(0, .ref h0)] := hl
  have hT : TS vwCl D [(h0, .inr (0, [.int 0, .null, .null, .null, .null, .int 0, .null, .null]))] A s.heap s.heap [] := hT
  refine lv_aload_n hx hb dX0_init_0 rfl (lv_at hl 0 rfl) ?_
  refine w_objInit hC wq_309 wq_153 wq_154 hl.1 (by decide) (Nat.le_of_ble_eq_true rfl) dX0_init_1 ?_
  refine lv_aload_n hx hb dX0_init_4 rfl (lv_at hl 0 rfl) ?_
  refine lv_iconst (v := 0) hx hb dX0_init_5 (by decide) ?_
  refine w_put (C := RX0) (T := TX0) (N := 8) (ci := 0) (q0 := 0) (k := 0) (ty0 := tyX0) (ty := .int) (ws' := [(h0, .inr (0, [.int 0, .null, .null, .null, .null, .int 0, .null, .null]))]) hC hK hT fi_X0 tyX0_ok nmX0 rfl rfl (by decide) rfl rfl rfl rfl rfl (Nat.le_of_ble_eq_true rfl) rfl wq_310 dX0_init_6 (fun H locs hT => ?_)
  refine lv_aload_n hx hb dX0_init_9 rfl (lv_at hl 0 rfl) ?_
  refine lv_bipush (v := 16) hx hb dX0_init_10 (by decide) ?_
  refine w_newI (N := 16) hC hK hT wq_297 (by decide) (by decide) (by decide) (Nat.le_of_ble_eq_true rfl) (Nat.le_of_ble_eq_true rfl) dX0_init_12 (fun q12 H hT => ?_)
  refine W.widen (k := 1) (n := 16) (Nat.le_of_ble_eq_true rfl) (Nat.le_of_ble_eq_true rfl) ?_
  have hT : TS vwCl D [(h0, .inr (0, [.int 0, .null, .null, .null, .null, .int 0, .null, .null])), (q12, .inl (Z 0, 16, .inl (fun _ => 0)))] A s.heap H locs := hT
  refine w_putF (C := RX0) (T := TX0) (N := 8) (ci := 0) (q0 := 0) (k := 1) (ty0 := tyX0) (ty := .array .int) (ws' := [(h0, .inr (0, [.int 0, .ref q12, .null, .null, .null, .int 0, .null, .null])), (q12, .inl (Z 0, 16, .inl (fun _ => 0)))]) hC hK hnm hT fi_X0 tyX0_ok nmX0 rfl rfl (by decide) rfl rfl rfl rfl rfl rfl (Nat.le_of_ble_eq_true rfl) rfl wq_314 dX0_init_14 (fun H locs hT => ?_)
  refine lv_aload_n hx hb dX0_init_17 rfl (lv_at hl 0 rfl) ?_
  refine lv_bipush (v := 16) hx hb dX0_init_18 (by decide) ?_
  refine w_newI (N := 16) hC hK hT wq_297 (by decide) (by decide) (by decide) (Nat.le_of_ble_eq_true rfl) (Nat.le_of_ble_eq_true rfl) dX0_init_20 (fun q20 H hT => ?_)
  refine W.widen (k := 2) (n := 32) (Nat.le_of_ble_eq_true rfl) (Nat.le_of_ble_eq_true rfl) ?_
  have hT : TS vwCl D [(h0, .inr (0, [.int 0, .ref q12, .null, .null, .null, .int 0, .null, .null])), (q12, .inl (Z 0, 16, .inl (fun _ => 0))), (q20, .inl (Z 0, 16, .inl (fun _ => 0)))] A s.heap H locs := hT
  refine w_putF (C := RX0) (T := TX0) (N := 8) (ci := 0) (q0 := 0) (k := 2) (ty0 := tyX0) (ty := .array .int) (ws' := [(h0, .inr (0, [.int 0, .ref q12, .ref q20, .null, .null, .int 0, .null, .null])), (q12, .inl (Z 0, 16, .inl (fun _ => 0))), (q20, .inl (Z 0, 16, .inl (fun _ => 0)))]) hC hK hnm hT fi_X0 tyX0_ok nmX0 rfl rfl (by decide) rfl rfl rfl rfl rfl rfl (Nat.le_of_ble_eq_true rfl) rfl wq_316 dX0_init_22 (fun H locs hT => ?_)
  refine lv_aload_n hx hb dX0_init_25 rfl (lv_at hl 0 rfl) ?_
  refine lv_bipush (v := 16) hx hb dX0_init_26 (by decide) ?_
  refine w_newI (N := 16) hC hK hT wq_297 (by decide) (by decide) (by decide) (Nat.le_of_ble_eq_true rfl) (Nat.le_of_ble_eq_true rfl) dX0_init_28 (fun q28 H hT => ?_)
  refine W.widen (k := 3) (n := 48) (Nat.le_of_ble_eq_true rfl) (Nat.le_of_ble_eq_true rfl) ?_
  have hT : TS vwCl D [(h0, .inr (0, [.int 0, .ref q12, .ref q20, .null, .null, .int 0, .null, .null])), (q12, .inl (Z 0, 16, .inl (fun _ => 0))), (q20, .inl (Z 0, 16, .inl (fun _ => 0))), (q28, .inl (Z 0, 16, .inl (fun _ => 0)))] A s.heap H locs := hT
  refine w_putF (C := RX0) (T := TX0) (N := 8) (ci := 0) (q0 := 0) (k := 3) (ty0 := tyX0) (ty := .array .int) (ws' := [(h0, .inr (0, [.int 0, .ref q12, .ref q20, .ref q28, .null, .int 0, .null, .null])), (q12, .inl (Z 0, 16, .inl (fun _ => 0))), (q20, .inl (Z 0, 16, .inl (fun _ => 0))), (q28, .inl (Z 0, 16, .inl (fun _ => 0)))]) hC hK hnm hT fi_X0 tyX0_ok nmX0 rfl rfl (by decide) rfl rfl rfl rfl rfl rfl (Nat.le_of_ble_eq_true rfl) rfl wq_318 dX0_init_30 (fun H locs hT => ?_)
  refine lv_aload_n hx hb dX0_init_33 rfl (lv_at hl 0 rfl) ?_
  refine lv_bipush (v := 16) hx hb dX0_init_34 (by decide) ?_
  refine w_newI (N := 16) hC hK hT wq_297 (by decide) (by decide) (by decide) (Nat.le_of_ble_eq_true rfl) (Nat.le_of_ble_eq_true rfl) dX0_init_36 (fun q36 H hT => ?_)
  refine W.widen (k := 4) (n := 64) (Nat.le_of_ble_eq_true rfl) (Nat.le_of_ble_eq_true rfl) ?_
  have hT : TS vwCl D [(h0, .inr (0, [.int 0, .ref q12, .ref q20, .ref q28, .null, .int 0, .null, .null])), (q12, .inl (Z 0, 16, .inl (fun _ => 0))), (q20, .inl (Z 0, 16, .inl (fun _ => 0))), (q28, .inl (Z 0, 16, .inl (fun _ => 0))), (q36, .inl (Z 0, 16, .inl (fun _ => 0)))] A s.heap H locs := hT
  refine w_putF (C := RX0) (T := TX0) (N := 8) (ci := 0) (q0 := 0) (k := 4) (ty0 := tyX0) (ty := .array .int) (ws' := [(h0, .inr (0, [.int 0, .ref q12, .ref q20, .ref q28, .ref q36, .int 0, .null, .null])), (q12, .inl (Z 0, 16, .inl (fun _ => 0))), (q20, .inl (Z 0, 16, .inl (fun _ => 0))), (q28, .inl (Z 0, 16, .inl (fun _ => 0))), (q36, .inl (Z 0, 16, .inl (fun _ => 0)))]) hC hK hnm hT fi_X0 tyX0_ok nmX0 rfl rfl (by decide) rfl rfl rfl rfl rfl rfl (Nat.le_of_ble_eq_true rfl) rfl wq_320 dX0_init_38 (fun H locs hT => ?_)
  refine lv_aload_n hx hb dX0_init_41 rfl (lv_at hl 0 rfl) ?_
  refine lv_iconst (v := 0) hx hb dX0_init_42 (by decide) ?_
  refine w_put (C := RX0) (T := TX0) (N := 8) (ci := 0) (q0 := 0) (k := 5) (ty0 := tyX0) (ty := .int) (ws' := [(h0, .inr (0, [.int 0, .ref q12, .ref q20, .ref q28, .ref q36, .int 0, .null, .null])), (q12, .inl (Z 0, 16, .inl (fun _ => 0))), (q20, .inl (Z 0, 16, .inl (fun _ => 0))), (q28, .inl (Z 0, 16, .inl (fun _ => 0))), (q36, .inl (Z 0, 16, .inl (fun _ => 0)))]) hC hK hT fi_X0 tyX0_ok nmX0 rfl rfl (by decide) rfl rfl rfl rfl rfl (Nat.le_of_ble_eq_true rfl) rfl wq_322 dX0_init_43 (fun H locs hT => ?_)
  refine lv_aload_n hx hb dX0_init_46 rfl (lv_at hl 0 rfl) ?_
  refine lv_sipush (v := 400) hx hb dX0_init_47 (by decide) ?_
  refine w_newI (N := 400) hC hK hT wq_297 (by decide) (by decide) (by decide) (Nat.le_of_ble_eq_true rfl) (Nat.le_of_ble_eq_true rfl) dX0_init_50 (fun q50 H hT => ?_)
  refine W.widen (k := 5) (n := 464) (Nat.le_of_ble_eq_true rfl) (Nat.le_of_ble_eq_true rfl) ?_
  have hT : TS vwCl D [(h0, .inr (0, [.int 0, .ref q12, .ref q20, .ref q28, .ref q36, .int 0, .null, .null])), (q12, .inl (Z 0, 16, .inl (fun _ => 0))), (q20, .inl (Z 0, 16, .inl (fun _ => 0))), (q28, .inl (Z 0, 16, .inl (fun _ => 0))), (q36, .inl (Z 0, 16, .inl (fun _ => 0))), (q50, .inl (Z 0, 400, .inl (fun _ => 0)))] A s.heap H locs := hT
  refine w_putF (C := RX0) (T := TX0) (N := 8) (ci := 0) (q0 := 0) (k := 6) (ty0 := tyX0) (ty := .array .int) (ws' := [(h0, .inr (0, [.int 0, .ref q12, .ref q20, .ref q28, .ref q36, .int 0, .ref q50, .null])), (q12, .inl (Z 0, 16, .inl (fun _ => 0))), (q20, .inl (Z 0, 16, .inl (fun _ => 0))), (q28, .inl (Z 0, 16, .inl (fun _ => 0))), (q36, .inl (Z 0, 16, .inl (fun _ => 0))), (q50, .inl (Z 0, 400, .inl (fun _ => 0)))]) hC hK hnm hT fi_X0 tyX0_ok nmX0 rfl rfl (by decide) rfl rfl rfl rfl rfl rfl (Nat.le_of_ble_eq_true rfl) rfl wq_324 dX0_init_52 (fun H locs hT => ?_)
  refine lv_aload_n hx hb dX0_init_55 rfl (lv_at hl 0 rfl) ?_
  refine lv_sipush (v := 400) hx hb dX0_init_56 (by decide) ?_
  refine w_newI (N := 400) hC hK hT wq_297 (by decide) (by decide) (by decide) (Nat.le_of_ble_eq_true rfl) (Nat.le_of_ble_eq_true rfl) dX0_init_59 (fun q59 H hT => ?_)
  refine W.widen (k := 6) (n := 864) (Nat.le_of_ble_eq_true rfl) (Nat.le_of_ble_eq_true rfl) ?_
  have hT : TS vwCl D [(h0, .inr (0, [.int 0, .ref q12, .ref q20, .ref q28, .ref q36, .int 0, .ref q50, .null])), (q12, .inl (Z 0, 16, .inl (fun _ => 0))), (q20, .inl (Z 0, 16, .inl (fun _ => 0))), (q28, .inl (Z 0, 16, .inl (fun _ => 0))), (q36, .inl (Z 0, 16, .inl (fun _ => 0))), (q50, .inl (Z 0, 400, .inl (fun _ => 0))), (q59, .inl (Z 0, 400, .inl (fun _ => 0)))] A s.heap H locs := hT
  refine w_putF (C := RX0) (T := TX0) (N := 8) (ci := 0) (q0 := 0) (k := 7) (ty0 := tyX0) (ty := .array .int) (ws' := [(h0, .inr (0, [.int 0, .ref q12, .ref q20, .ref q28, .ref q36, .int 0, .ref q50, .ref q59])), (q12, .inl (Z 0, 16, .inl (fun _ => 0))), (q20, .inl (Z 0, 16, .inl (fun _ => 0))), (q28, .inl (Z 0, 16, .inl (fun _ => 0))), (q36, .inl (Z 0, 16, .inl (fun _ => 0))), (q50, .inl (Z 0, 400, .inl (fun _ => 0))), (q59, .inl (Z 0, 400, .inl (fun _ => 0)))]) hC hK hnm hT fi_X0 tyX0_ok nmX0 rfl rfl (by decide) rfl rfl rfl rfl rfl rfl (Nat.le_of_ble_eq_true rfl) rfl wq_326 dX0_init_61 (fun H locs hT => ?_)
  exact hret 64 ls _ _ (some (asc [(40, h0), (41, q12), (42, q20), (43, q28), (44, q36), (46, q50), (47, q59)])) ⟨_, rfl, rfl⟩ hT dX0_init_64
def iw_X1_init (Z : Nat → ClassId) (h0 : Nat) : Option (Nat → Nat) → va_W
  | none => [(h0, .inr (1, [.int 0, .int 0, .int 0, .int 0, .int 0, .null, .null, .null, .null, .null, .null, .null, .null, .null, .null, .null, .null, .null, .null]))]
  | some a => [(a 20, .inr (1, [.int (zM 20 0), .int (zM 21 0), .int (zM 22 0), .int (zM 23 0), .int (zM 24 0), .ref (a 25), .ref (a 26), .ref (a 27), .ref (a 28), .ref (a 29), .ref (a 30), .ref (a 31), .ref (a 32), .ref (a 33), .ref (a 34), .ref (a 35), .ref (a 36), .ref (a 37), .ref (a 40)])), (a 25, .inl (Z 0, 5, .inl (zM 25))), (a 26, .inl (Z 0, 5, .inl (zM 26))), (a 27, .inl (Z 0, 5, .inl (zM 27))), (a 28, .inl (Z 0, 60, .inl (zM 28))), (a 29, .inl (Z 0, 4, .inl (zM 29))), (a 30, .inl (Z 0, 4, .inl (zM 30))), (a 31, .inl (Z 0, 6, .inl (zM 31))), (a 32, .inl (Z 0, 6, .inl (zM 32))), (a 33, .inl (Z 0, 8, .inl (zM 33))), (a 34, .inl (Z 0, 8, .inl (zM 34))), (a 35, .inl (Z 0, 8, .inl (zM 35))), (a 36, .inl (Z 0, 8, .inl (zM 36))), (a 37, .inl (Z 0, 8, .inl (zM 37))), (a 40, .inr (0, [.int (zM 40 0), .ref (a 41), .ref (a 42), .ref (a 43), .ref (a 44), .int (zM 45 0), .ref (a 46), .ref (a 47)])), (a 41, .inl (Z 0, 16, .inl (zM 41))), (a 42, .inl (Z 0, 16, .inl (zM 42))), (a 43, .inl (Z 0, 16, .inl (zM 43))), (a 44, .inl (Z 0, 16, .inl (zM 44))), (a 46, .inl (Z 0, 400, .inl (zM 46))), (a 47, .inl (Z 0, 400, .inl (zM 47)))]
set_option maxRecDepth 100000 in
set_option maxHeartbeats 4000000 in
theorem c_X1_init (l : Launch) (D : va_G) (Z : Nat → ClassId) (sz h0 : Nat) : Met l yX1_init (wy yX1_init cX1_init 1 none) (rk 2 20 1007) (pre vwCl D Z (iw_X1_init Z h0 none) sz [.ref h0]) (poV vwCl D Z (iw_X1_init Z h0) none sz (fun u => ∃ a, u = some a ∧ a 20 = h0)) 20 1007 (va_A (iw_X1_init Z h0 none) sz) := by
  refine rwv_of (wsF := iw_X1_init Z h0) (u0 := none) (by decide +kernel) (Nat.le_of_ble_eq_true rfl) rfl ?_
  intro p e s m args below meth c Q A hC hN hsz hnm hT hK hret ls hl
  have hx := hC.1
  have hb := hC.2.1
  have hl : lv_has ls 1 [(0, .ref h0)] := hl
  have hT : TS vwCl D [(h0, .inr (1, [.int 0, .int 0, .int 0, .int 0, .int 0, .null, .null, .null, .null, .null, .null, .null, .null, .null, .null, .null, .null, .null, .null]))] A s.heap s.heap [] := hT
  refine lv_aload_n hx hb dX1_init_0 rfl (lv_at hl 0 rfl) ?_
  refine w_objInit hC wq_303 wq_153 wq_154 hl.1 (by decide) (Nat.le_of_ble_eq_true rfl) dX1_init_1 ?_
  refine lv_aload_n hx hb dX1_init_4 rfl (lv_at hl 0 rfl) ?_
  refine lv_iconst (v := 0) hx hb dX1_init_5 (by decide) ?_
  refine w_put (C := RX1) (T := TX1) (N := 19) (ci := 1) (q0 := 0) (k := 0) (ty0 := tyX1) (ty := .int) (ws' := [(h0, .inr (1, [.int 0, .int 0, .int 0, .int 0, .int 0, .null, .null, .null, .null, .null, .null, .null, .null, .null, .null, .null, .null, .null, .null]))]) hC hK hT fi_X1 tyX1_ok nmX1 rfl rfl (by decide) rfl rfl rfl rfl rfl (Nat.le_of_ble_eq_true rfl) rfl wq_345 dX1_init_6 (fun H locs hT => ?_)
  refine lv_aload_n hx hb dX1_init_9 rfl (lv_at hl 0 rfl) ?_
  refine lv_iconst (v := 0) hx hb dX1_init_10 (by decide) ?_
  refine w_put (C := RX1) (T := TX1) (N := 19) (ci := 1) (q0 := 0) (k := 1) (ty0 := tyX1) (ty := .int) (ws' := [(h0, .inr (1, [.int 0, .int 0, .int 0, .int 0, .int 0, .null, .null, .null, .null, .null, .null, .null, .null, .null, .null, .null, .null, .null, .null]))]) hC hK hT fi_X1 tyX1_ok nmX1 rfl rfl (by decide) rfl rfl rfl rfl rfl (Nat.le_of_ble_eq_true rfl) rfl wq_348 dX1_init_11 (fun H locs hT => ?_)
  refine lv_aload_n hx hb dX1_init_14 rfl (lv_at hl 0 rfl) ?_
  refine lv_iconst (v := 0) hx hb dX1_init_15 (by decide) ?_
  refine w_put (C := RX1) (T := TX1) (N := 19) (ci := 1) (q0 := 0) (k := 2) (ty0 := tyX1) (ty := .int) (ws' := [(h0, .inr (1, [.int 0, .int 0, .int 0, .int 0, .int 0, .null, .null, .null, .null, .null, .null, .null, .null, .null, .null, .null, .null, .null, .null]))]) hC hK hT fi_X1 tyX1_ok nmX1 rfl rfl (by decide) rfl rfl rfl rfl rfl (Nat.le_of_ble_eq_true rfl) rfl wq_352 dX1_init_16 (fun H locs hT => ?_)
  refine lv_aload_n hx hb dX1_init_19 rfl (lv_at hl 0 rfl) ?_
  refine lv_iconst (v := 0) hx hb dX1_init_20 (by decide) ?_
  refine w_put (C := RX1) (T := TX1) (N := 19) (ci := 1) (q0 := 0) (k := 3) (ty0 := tyX1) (ty := .int) (ws' := [(h0, .inr (1, [.int 0, .int 0, .int 0, .int 0, .int 0, .null, .null, .null, .null, .null, .null, .null, .null, .null, .null, .null, .null, .null, .null]))]) hC hK hT fi_X1 tyX1_ok nmX1 rfl rfl (by decide) rfl rfl rfl rfl rfl (Nat.le_of_ble_eq_true rfl) rfl wq_356 dX1_init_21 (fun H locs hT => ?_)
  refine lv_aload_n hx hb dX1_init_24 rfl (lv_at hl 0 rfl) ?_
  refine lv_iconst (v := 0) hx hb dX1_init_25 (by decide) ?_
  refine w_put (C := RX1) (T := TX1) (N := 19) (ci := 1) (q0 := 0) (k := 4) (ty0 := tyX1) (ty := .int) (ws' := [(h0, .inr (1, [.int 0, .int 0, .int 0, .int 0, .int 0, .null, .null, .null, .null, .null, .null, .null, .null, .null, .null, .null, .null, .null, .null]))]) hC hK hT fi_X1 tyX1_ok nmX1 rfl rfl (by decide) rfl rfl rfl rfl rfl (Nat.le_of_ble_eq_true rfl) rfl wq_360 dX1_init_26 (fun H locs hT => ?_)
  refine lv_aload_n hx hb dX1_init_29 rfl (lv_at hl 0 rfl) ?_
  refine lv_iconst (v := 5) hx hb dX1_init_30 (by decide) ?_
  refine w_newI (N := 5) hC hK hT wq_297 (by decide) (by decide) (by decide) (Nat.le_of_ble_eq_true rfl) (Nat.le_of_ble_eq_true rfl) dX1_init_31 (fun q31 H hT => ?_)
  refine W.widen (k := 1) (n := 5) (Nat.le_of_ble_eq_true rfl) (Nat.le_of_ble_eq_true rfl) ?_
  have hT : TS vwCl D [(h0, .inr (1, [.int 0, .int 0, .int 0, .int 0, .int 0, .null, .null, .null, .null, .null, .null, .null, .null, .null, .null, .null, .null, .null, .null])), (q31, .inl (Z 0, 5, .inl (fun _ => 0)))] A s.heap H locs := hT
  refine w_putF (C := RX1) (T := TX1) (N := 19) (ci := 1) (q0 := 0) (k := 5) (ty0 := tyX1) (ty := .array .int) (ws' := [(h0, .inr (1, [.int 0, .int 0, .int 0, .int 0, .int 0, .ref q31, .null, .null, .null, .null, .null, .null, .null, .null, .null, .null, .null, .null, .null])), (q31, .inl (Z 0, 5, .inl (fun _ => 0)))]) hC hK hnm hT fi_X1 tyX1_ok nmX1 rfl rfl (by decide) rfl rfl rfl rfl rfl rfl (Nat.le_of_ble_eq_true rfl) rfl wq_364 dX1_init_33 (fun H locs hT => ?_)
  refine lv_aload_n hx hb dX1_init_36 rfl (lv_at hl 0 rfl) ?_
  refine lv_iconst (v := 5) hx hb dX1_init_37 (by decide) ?_
  refine w_newI (N := 5) hC hK hT wq_297 (by decide) (by decide) (by decide) (Nat.le_of_ble_eq_true rfl) (Nat.le_of_ble_eq_true rfl) dX1_init_38 (fun q38 H hT => ?_)
  refine W.widen (k := 2) (n := 10) (Nat.le_of_ble_eq_true rfl) (Nat.le_of_ble_eq_true rfl) ?_
  have hT : TS vwCl D [(h0, .inr (1, [.int 0, .int 0, .int 0, .int 0, .int 0, .ref q31, .null, .null, .null, .null, .null, .null, .null, .null, .null, .null, .null, .null, .null])), (q31, .inl (Z 0, 5, .inl (fun _ => 0))), (q38, .inl (Z 0, 5, .inl (fun _ => 0)))] A s.heap H locs := hT
  refine w_putF (C := RX1) (T := TX1) (N := 19) (ci := 1) (q0 := 0) (k := 6) (ty0 := tyX1) (ty := .array .int) (ws' := [(h0, .inr (1, [.int 0, .int 0, .int 0, .int 0, .int 0, .ref q31, .ref q38, .null, .null, .null, .null, .null, .null, .null, .null, .null, .null, .null, .null])), (q31, .inl (Z 0, 5, .inl (fun _ => 0))), (q38, .inl (Z 0, 5, .inl (fun _ => 0)))]) hC hK hnm hT fi_X1 tyX1_ok nmX1 rfl rfl (by decide) rfl rfl rfl rfl rfl rfl (Nat.le_of_ble_eq_true rfl) rfl wq_367 dX1_init_40 (fun H locs hT => ?_)
  refine lv_aload_n hx hb dX1_init_43 rfl (lv_at hl 0 rfl) ?_
  refine lv_iconst (v := 5) hx hb dX1_init_44 (by decide) ?_
  refine w_newI (N := 5) hC hK hT wq_297 (by decide) (by decide) (by decide) (Nat.le_of_ble_eq_true rfl) (Nat.le_of_ble_eq_true rfl) dX1_init_45 (fun q45 H hT => ?_)
  refine W.widen (k := 3) (n := 15) (Nat.le_of_ble_eq_true rfl) (Nat.le_of_ble_eq_true rfl) ?_
  have hT : TS vwCl D [(h0, .inr (1, [.int 0, .int 0, .int 0, .int 0, .int 0, .ref q31, .ref q38, .null, .null, .null, .null, .null, .null, .null, .null, .null, .null, .null, .null])), (q31, .inl (Z 0, 5, .inl (fun _ => 0))), (q38, .inl (Z 0, 5, .inl (fun _ => 0))), (q45, .inl (Z 0, 5, .inl (fun _ => 0)))] A s.heap H locs := hT
  refine w_putF (C := RX1) (T := TX1) (N := 19) (ci := 1) (q0 := 0) (k := 7) (ty0 := tyX1) (ty := .array .int) (ws' := [(h0, .inr (1, [.int 0, .int 0, .int 0, .int 0, .int 0, .ref q31, .ref q38, .ref q45, .null, .null, .null, .null, .null, .null, .null, .null, .null, .null, .null])), (q31, .inl (Z 0, 5, .inl (fun _ => 0))), (q38, .inl (Z 0, 5, .inl (fun _ => 0))), (q45, .inl (Z 0, 5, .inl (fun _ => 0)))]) hC hK hnm hT fi_X1 tyX1_ok nmX1 rfl rfl (by decide) rfl rfl rfl rfl rfl rfl (Nat.le_of_ble_eq_true rfl) rfl wq_370 dX1_init_47 (fun H locs hT => ?_)
  refine lv_aload_n hx hb dX1_init_50 rfl (lv_at hl 0 rfl) ?_
  refine lv_bipush (v := 60) hx hb dX1_init_51 (by decide) ?_
  refine w_newI (N := 60) hC hK hT wq_297 (by decide) (by decide) (by decide) (Nat.le_of_ble_eq_true rfl) (Nat.le_of_ble_eq_true rfl) dX1_init_53 (fun q53 H hT => ?_)
  refine W.widen (k := 4) (n := 75) (Nat.le_of_ble_eq_true rfl) (Nat.le_of_ble_eq_true rfl) ?_
  have hT : TS vwCl D [(h0, .inr (1, [.int 0, .int 0, .int 0, .int 0, .int 0, .ref q31, .ref q38, .ref q45, .null, .null, .null, .null, .null, .null, .null, .null, .null, .null, .null])), (q31, .inl (Z 0, 5, .inl (fun _ => 0))), (q38, .inl (Z 0, 5, .inl (fun _ => 0))), (q45, .inl (Z 0, 5, .inl (fun _ => 0))), (q53, .inl (Z 0, 60, .inl (fun _ => 0)))] A s.heap H locs := hT
  refine w_putF (C := RX1) (T := TX1) (N := 19) (ci := 1) (q0 := 0) (k := 8) (ty0 := tyX1) (ty := .array .int) (ws' := [(h0, .inr (1, [.int 0, .int 0, .int 0, .int 0, .int 0, .ref q31, .ref q38, .ref q45, .ref q53, .null, .null, .null, .null, .null, .null, .null, .null, .null, .null])), (q31, .inl (Z 0, 5, .inl (fun _ => 0))), (q38, .inl (Z 0, 5, .inl (fun _ => 0))), (q45, .inl (Z 0, 5, .inl (fun _ => 0))), (q53, .inl (Z 0, 60, .inl (fun _ => 0)))]) hC hK hnm hT fi_X1 tyX1_ok nmX1 rfl rfl (by decide) rfl rfl rfl rfl rfl rfl (Nat.le_of_ble_eq_true rfl) rfl wq_373 dX1_init_55 (fun H locs hT => ?_)
  refine lv_aload_n hx hb dX1_init_58 rfl (lv_at hl 0 rfl) ?_
  refine lv_iconst (v := 4) hx hb dX1_init_59 (by decide) ?_
  refine w_newI (N := 4) hC hK hT wq_297 (by decide) (by decide) (by decide) (Nat.le_of_ble_eq_true rfl) (Nat.le_of_ble_eq_true rfl) dX1_init_60 (fun q60 H hT => ?_)
  refine W.widen (k := 5) (n := 79) (Nat.le_of_ble_eq_true rfl) (Nat.le_of_ble_eq_true rfl) ?_
  have hT : TS vwCl D [(h0, .inr (1, [.int 0, .int 0, .int 0, .int 0, .int 0, .ref q31, .ref q38, .ref q45, .ref q53, .null, .null, .null, .null, .null, .null, .null, .null, .null, .null])), (q31, .inl (Z 0, 5, .inl (fun _ => 0))), (q38, .inl (Z 0, 5, .inl (fun _ => 0))), (q45, .inl (Z 0, 5, .inl (fun _ => 0))), (q53, .inl (Z 0, 60, .inl (fun _ => 0))), (q60, .inl (Z 0, 4, .inl (fun _ => 0)))] A s.heap H locs := hT
  refine w_putF (C := RX1) (T := TX1) (N := 19) (ci := 1) (q0 := 0) (k := 9) (ty0 := tyX1) (ty := .array .int) (ws' := [(h0, .inr (1, [.int 0, .int 0, .int 0, .int 0, .int 0, .ref q31, .ref q38, .ref q45, .ref q53, .ref q60, .null, .null, .null, .null, .null, .null, .null, .null, .null])), (q31, .inl (Z 0, 5, .inl (fun _ => 0))), (q38, .inl (Z 0, 5, .inl (fun _ => 0))), (q45, .inl (Z 0, 5, .inl (fun _ => 0))), (q53, .inl (Z 0, 60, .inl (fun _ => 0))), (q60, .inl (Z 0, 4, .inl (fun _ => 0)))]) hC hK hnm hT fi_X1 tyX1_ok nmX1 rfl rfl (by decide) rfl rfl rfl rfl rfl rfl (Nat.le_of_ble_eq_true rfl) rfl wq_376 dX1_init_62 (fun H locs hT => ?_)
  refine lv_aload_n hx hb dX1_init_65 rfl (lv_at hl 0 rfl) ?_
  refine lv_iconst (v := 4) hx hb dX1_init_66 (by decide) ?_
  refine w_newI (N := 4) hC hK hT wq_297 (by decide) (by decide) (by decide) (Nat.le_of_ble_eq_true rfl) (Nat.le_of_ble_eq_true rfl) dX1_init_67 (fun q67 H hT => ?_)
  refine W.widen (k := 6) (n := 83) (Nat.le_of_ble_eq_true rfl) (Nat.le_of_ble_eq_true rfl) ?_
  have hT : TS vwCl D [(h0, .inr (1, [.int 0, .int 0, .int 0, .int 0, .int 0, .ref q31, .ref q38, .ref q45, .ref q53, .ref q60, .null, .null, .null, .null, .null, .null, .null, .null, .null])), (q31, .inl (Z 0, 5, .inl (fun _ => 0))), (q38, .inl (Z 0, 5, .inl (fun _ => 0))), (q45, .inl (Z 0, 5, .inl (fun _ => 0))), (q53, .inl (Z 0, 60, .inl (fun _ => 0))), (q60, .inl (Z 0, 4, .inl (fun _ => 0))), (q67, .inl (Z 0, 4, .inl (fun _ => 0)))] A s.heap H locs := hT
  refine w_putF (C := RX1) (T := TX1) (N := 19) (ci := 1) (q0 := 0) (k := 10) (ty0 := tyX1) (ty := .array .int) (ws' := [(h0, .inr (1, [.int 0, .int 0, .int 0, .int 0, .int 0, .ref q31, .ref q38, .ref q45, .ref q53, .ref q60, .ref q67, .null, .null, .null, .null, .null, .null, .null, .null])), (q31, .inl (Z 0, 5, .inl (fun _ => 0))), (q38, .inl (Z 0, 5, .inl (fun _ => 0))), (q45, .inl (Z 0, 5, .inl (fun _ => 0))), (q53, .inl (Z 0, 60, .inl (fun _ => 0))), (q60, .inl (Z 0, 4, .inl (fun _ => 0))), (q67, .inl (Z 0, 4, .inl (fun _ => 0)))]) hC hK hnm hT fi_X1 tyX1_ok nmX1 rfl rfl (by decide) rfl rfl rfl rfl rfl rfl (Nat.le_of_ble_eq_true rfl) rfl wq_378 dX1_init_69 (fun H locs hT => ?_)
  refine lv_aload_n hx hb dX1_init_72 rfl (lv_at hl 0 rfl) ?_
  refine lv_bipush (v := 6) hx hb dX1_init_73 (by decide) ?_
  refine w_newI (N := 6) hC hK hT wq_297 (by decide) (by decide) (by decide) (Nat.le_of_ble_eq_true rfl) (Nat.le_of_ble_eq_true rfl) dX1_init_75 (fun q75 H hT => ?_)
  refine W.widen (k := 7) (n := 89) (Nat.le_of_ble_eq_true rfl) (Nat.le_of_ble_eq_true rfl) ?_
  have hT : TS vwCl D [(h0, .inr (1, [.int 0, .int 0, .int 0, .int 0, .int 0, .ref q31, .ref q38, .ref q45, .ref q53, .ref q60, .ref q67, .null, .null, .null, .null, .null, .null, .null, .null])), (q31, .inl (Z 0, 5, .inl (fun _ => 0))), (q38, .inl (Z 0, 5, .inl (fun _ => 0))), (q45, .inl (Z 0, 5, .inl (fun _ => 0))), (q53, .inl (Z 0, 60, .inl (fun _ => 0))), (q60, .inl (Z 0, 4, .inl (fun _ => 0))), (q67, .inl (Z 0, 4, .inl (fun _ => 0))), (q75, .inl (Z 0, 6, .inl (fun _ => 0)))] A s.heap H locs := hT
  refine w_putF (C := RX1) (T := TX1) (N := 19) (ci := 1) (q0 := 0) (k := 11) (ty0 := tyX1) (ty := .array .int) (ws' := [(h0, .inr (1, [.int 0, .int 0, .int 0, .int 0, .int 0, .ref q31, .ref q38, .ref q45, .ref q53, .ref q60, .ref q67, .ref q75, .null, .null, .null, .null, .null, .null, .null])), (q31, .inl (Z 0, 5, .inl (fun _ => 0))), (q38, .inl (Z 0, 5, .inl (fun _ => 0))), (q45, .inl (Z 0, 5, .inl (fun _ => 0))), (q53, .inl (Z 0, 60, .inl (fun _ => 0))), (q60, .inl (Z 0, 4, .inl (fun _ => 0))), (q67, .inl (Z 0, 4, .inl (fun _ => 0))), (q75, .inl (Z 0, 6, .inl (fun _ => 0)))]) hC hK hnm hT fi_X1 tyX1_ok nmX1 rfl rfl (by decide) rfl rfl rfl rfl rfl rfl (Nat.le_of_ble_eq_true rfl) rfl wq_380 dX1_init_77 (fun H locs hT => ?_)
  refine lv_aload_n hx hb dX1_init_80 rfl (lv_at hl 0 rfl) ?_
  refine lv_bipush (v := 6) hx hb dX1_init_81 (by decide) ?_
  refine w_newI (N := 6) hC hK hT wq_297 (by decide) (by decide) (by decide) (Nat.le_of_ble_eq_true rfl) (Nat.le_of_ble_eq_true rfl) dX1_init_83 (fun q83 H hT => ?_)
  refine W.widen (k := 8) (n := 95) (Nat.le_of_ble_eq_true rfl) (Nat.le_of_ble_eq_true rfl) ?_
  have hT : TS vwCl D [(h0, .inr (1, [.int 0, .int 0, .int 0, .int 0, .int 0, .ref q31, .ref q38, .ref q45, .ref q53, .ref q60, .ref q67, .ref q75, .null, .null, .null, .null, .null, .null, .null])), (q31, .inl (Z 0, 5, .inl (fun _ => 0))), (q38, .inl (Z 0, 5, .inl (fun _ => 0))), (q45, .inl (Z 0, 5, .inl (fun _ => 0))), (q53, .inl (Z 0, 60, .inl (fun _ => 0))), (q60, .inl (Z 0, 4, .inl (fun _ => 0))), (q67, .inl (Z 0, 4, .inl (fun _ => 0))), (q75, .inl (Z 0, 6, .inl (fun _ => 0))), (q83, .inl (Z 0, 6, .inl (fun _ => 0)))] A s.heap H locs := hT
  refine w_putF (C := RX1) (T := TX1) (N := 19) (ci := 1) (q0 := 0) (k := 12) (ty0 := tyX1) (ty := .array .int) (ws' := [(h0, .inr (1, [.int 0, .int 0, .int 0, .int 0, .int 0, .ref q31, .ref q38, .ref q45, .ref q53, .ref q60, .ref q67, .ref q75, .ref q83, .null, .null, .null, .null, .null, .null])), (q31, .inl (Z 0, 5, .inl (fun _ => 0))), (q38, .inl (Z 0, 5, .inl (fun _ => 0))), (q45, .inl (Z 0, 5, .inl (fun _ => 0))), (q53, .inl (Z 0, 60, .inl (fun _ => 0))), (q60, .inl (Z 0, 4, .inl (fun _ => 0))), (q67, .inl (Z 0, 4, .inl (fun _ => 0))), (q75, .inl (Z 0, 6, .inl (fun _ => 0))), (q83, .inl (Z 0, 6, .inl (fun _ => 0)))]) hC hK hnm hT fi_X1 tyX1_ok nmX1 rfl rfl (by decide) rfl rfl rfl rfl rfl rfl (Nat.le_of_ble_eq_true rfl) rfl wq_383 dX1_init_85 (fun H locs hT => ?_)
  refine lv_aload_n hx hb dX1_init_88 rfl (lv_at hl 0 rfl) ?_
  refine lv_bipush (v := 8) hx hb dX1_init_89 (by decide) ?_
  refine w_newI (N := 8) hC hK hT wq_297 (by decide) (by decide) (by decide) (Nat.le_of_ble_eq_true rfl) (Nat.le_of_ble_eq_true rfl) dX1_init_91 (fun q91 H hT => ?_)
  refine W.widen (k := 9) (n := 103) (Nat.le_of_ble_eq_true rfl) (Nat.le_of_ble_eq_true rfl) ?_
  have hT : TS vwCl D [(h0, .inr (1, [.int 0, .int 0, .int 0, .int 0, .int 0, .ref q31, .ref q38, .ref q45, .ref q53, .ref q60, .ref q67, .ref q75, .ref q83, .null, .null, .null, .null, .null, .null])), (q31, .inl (Z 0, 5, .inl (fun _ => 0))), (q38, .inl (Z 0, 5, .inl (fun _ => 0))), (q45, .inl (Z 0, 5, .inl (fun _ => 0))), (q53, .inl (Z 0, 60, .inl (fun _ => 0))), (q60, .inl (Z 0, 4, .inl (fun _ => 0))), (q67, .inl (Z 0, 4, .inl (fun _ => 0))), (q75, .inl (Z 0, 6, .inl (fun _ => 0))), (q83, .inl (Z 0, 6, .inl (fun _ => 0))), (q91, .inl (Z 0, 8, .inl (fun _ => 0)))] A s.heap H locs := hT
  refine w_putF (C := RX1) (T := TX1) (N := 19) (ci := 1) (q0 := 0) (k := 13) (ty0 := tyX1) (ty := .array .int) (ws' := [(h0, .inr (1, [.int 0, .int 0, .int 0, .int 0, .int 0, .ref q31, .ref q38, .ref q45, .ref q53, .ref q60, .ref q67, .ref q75, .ref q83, .ref q91, .null, .null, .null, .null, .null])), (q31, .inl (Z 0, 5, .inl (fun _ => 0))), (q38, .inl (Z 0, 5, .inl (fun _ => 0))), (q45, .inl (Z 0, 5, .inl (fun _ => 0))), (q53, .inl (Z 0, 60, .inl (fun _ => 0))), (q60, .inl (Z 0, 4, .inl (fun _ => 0))), (q67, .inl (Z 0, 4, .inl (fun _ => 0))), (q75, .inl (Z 0, 6, .inl (fun _ => 0))), (q83, .inl (Z 0, 6, .inl (fun _ => 0))), (q91, .inl (Z 0, 8, .inl (fun _ => 0)))]) hC hK hnm hT fi_X1 tyX1_ok nmX1 rfl rfl (by decide) rfl rfl rfl rfl rfl rfl (Nat.le_of_ble_eq_true rfl) rfl wq_386 dX1_init_93 (fun H locs hT => ?_)
  refine lv_aload_n hx hb dX1_init_96 rfl (lv_at hl 0 rfl) ?_
  refine lv_bipush (v := 8) hx hb dX1_init_97 (by decide) ?_
  refine w_newI (N := 8) hC hK hT wq_297 (by decide) (by decide) (by decide) (Nat.le_of_ble_eq_true rfl) (Nat.le_of_ble_eq_true rfl) dX1_init_99 (fun q99 H hT => ?_)
  refine W.widen (k := 10) (n := 111) (Nat.le_of_ble_eq_true rfl) (Nat.le_of_ble_eq_true rfl) ?_
  have hT : TS vwCl D [(h0, .inr (1, [.int 0, .int 0, .int 0, .int 0, .int 0, .ref q31, .ref q38, .ref q45, .ref q53, .ref q60, .ref q67, .ref q75, .ref q83, .ref q91, .null, .null, .null, .null, .null])), (q31, .inl (Z 0, 5, .inl (fun _ => 0))), (q38, .inl (Z 0, 5, .inl (fun _ => 0))), (q45, .inl (Z 0, 5, .inl (fun _ => 0))), (q53, .inl (Z 0, 60, .inl (fun _ => 0))), (q60, .inl (Z 0, 4, .inl (fun _ => 0))), (q67, .inl (Z 0, 4, .inl (fun _ => 0))), (q75, .inl (Z 0, 6, .inl (fun _ => 0))), (q83, .inl (Z 0, 6, .inl (fun _ => 0))), (q91, .inl (Z 0, 8, .inl (fun _ => 0))), (q99, .inl (Z 0, 8, .inl (fun _ => 0)))] A s.heap H locs := hT
  refine w_putF (C := RX1) (T := TX1) (N := 19) (ci := 1) (q0 := 0) (k := 14) (ty0 := tyX1) (ty := .array .int) (ws' := [(h0, .inr (1, [.int 0, .int 0, .int 0, .int 0, .int 0, .ref q31, .ref q38, .ref q45, .ref q53, .ref q60, .ref q67, .ref q75, .ref q83, .ref q91, .ref q99, .null, .null, .null, .null])), (q31, .inl (Z 0, 5, .inl (fun _ => 0))), (q38, .inl (Z 0, 5, .inl (fun _ => 0))), (q45, .inl (Z 0, 5, .inl (fun _ => 0))), (q53, .inl (Z 0, 60, .inl (fun _ => 0))), (q60, .inl (Z 0, 4, .inl (fun _ => 0))), (q67, .inl (Z 0, 4, .inl (fun _ => 0))), (q75, .inl (Z 0, 6, .inl (fun _ => 0))), (q83, .inl (Z 0, 6, .inl (fun _ => 0))), (q91, .inl (Z 0, 8, .inl (fun _ => 0))), (q99, .inl (Z 0, 8, .inl (fun _ => 0)))]) hC hK hnm hT fi_X1 tyX1_ok nmX1 rfl rfl (by decide) rfl rfl rfl rfl rfl rfl (Nat.le_of_ble_eq_true rfl) rfl wq_389 dX1_init_101 (fun H locs hT => ?_)
  refine lv_aload_n hx hb dX1_init_104 rfl (lv_at hl 0 rfl) ?_
  refine lv_bipush (v := 8) hx hb dX1_init_105 (by decide) ?_
  refine w_newI (N := 8) hC hK hT wq_297 (by decide) (by decide) (by decide) (Nat.le_of_ble_eq_true rfl) (Nat.le_of_ble_eq_true rfl) dX1_init_107 (fun q107 H hT => ?_)
  refine W.widen (k := 11) (n := 119) (Nat.le_of_ble_eq_true rfl) (Nat.le_of_ble_eq_true rfl) ?_
  have hT : TS vwCl D [(h0, .inr (1, [.int 0, .int 0, .int 0, .int 0, .int 0, .ref q31, .ref q38, .ref q45, .ref q53, .ref q60, .ref q67, .ref q75, .ref q83, .ref q91, .ref q99, .null, .null, .null, .null])), (q31, .inl (Z 0, 5, .inl (fun _ => 0))), (q38, .inl (Z 0, 5, .inl (fun _ => 0))), (q45, .inl (Z 0, 5, .inl (fun _ => 0))), (q53, .inl (Z 0, 60, .inl (fun _ => 0))), (q60, .inl (Z 0, 4, .inl (fun _ => 0))), (q67, .inl (Z 0, 4, .inl (fun _ => 0))), (q75, .inl (Z 0, 6, .inl (fun _ => 0))), (q83, .inl (Z 0, 6, .inl (fun _ => 0))), (q91, .inl (Z 0, 8, .inl (fun _ => 0))), (q99, .inl (Z 0, 8, .inl (fun _ => 0))), (q107, .inl (Z 0, 8, .inl (fun _ => 0)))] A s.heap H locs := hT
  refine w_putF (C := RX1) (T := TX1) (N := 19) (ci := 1) (q0 := 0) (k := 15) (ty0 := tyX1) (ty := .array .int) (ws' := [(h0, .inr (1, [.int 0, .int 0, .int 0, .int 0, .int 0, .ref q31, .ref q38, .ref q45, .ref q53, .ref q60, .ref q67, .ref q75, .ref q83, .ref q91, .ref q99, .ref q107, .null, .null, .null])), (q31, .inl (Z 0, 5, .inl (fun _ => 0))), (q38, .inl (Z 0, 5, .inl (fun _ => 0))), (q45, .inl (Z 0, 5, .inl (fun _ => 0))), (q53, .inl (Z 0, 60, .inl (fun _ => 0))), (q60, .inl (Z 0, 4, .inl (fun _ => 0))), (q67, .inl (Z 0, 4, .inl (fun _ => 0))), (q75, .inl (Z 0, 6, .inl (fun _ => 0))), (q83, .inl (Z 0, 6, .inl (fun _ => 0))), (q91, .inl (Z 0, 8, .inl (fun _ => 0))), (q99, .inl (Z 0, 8, .inl (fun _ => 0))), (q107, .inl (Z 0, 8, .inl (fun _ => 0)))]) hC hK hnm hT fi_X1 tyX1_ok nmX1 rfl rfl (by decide) rfl rfl rfl rfl rfl rfl (Nat.le_of_ble_eq_true rfl) rfl wq_391 dX1_init_109 (fun H locs hT => ?_)
  refine lv_aload_n hx hb dX1_init_112 rfl (lv_at hl 0 rfl) ?_
  refine lv_bipush (v := 8) hx hb dX1_init_113 (by decide) ?_
  refine w_newI (N := 8) hC hK hT wq_297 (by decide) (by decide) (by decide) (Nat.le_of_ble_eq_true rfl) (Nat.le_of_ble_eq_true rfl) dX1_init_115 (fun q115 H hT => ?_)
  refine W.widen (k := 12) (n := 127) (Nat.le_of_ble_eq_true rfl) (Nat.le_of_ble_eq_true rfl) ?_
  have hT : TS vwCl D [(h0, .inr (1, [.int 0, .int 0, .int 0, .int 0, .int 0, .ref q31, .ref q38, .ref q45, .ref q53, .ref q60, .ref q67, .ref q75, .ref q83, .ref q91, .ref q99, .ref q107, .null, .null, .null])), (q31, .inl (Z 0, 5, .inl (fun _ => 0))), (q38, .inl (Z 0, 5, .inl (fun _ => 0))), (q45, .inl (Z 0, 5, .inl (fun _ => 0))), (q53, .inl (Z 0, 60, .inl (fun _ => 0))), (q60, .inl (Z 0, 4, .inl (fun _ => 0))), (q67, .inl (Z 0, 4, .inl (fun _ => 0))), (q75, .inl (Z 0, 6, .inl (fun _ => 0))), (q83, .inl (Z 0, 6, .inl (fun _ => 0))), (q91, .inl (Z 0, 8, .inl (fun _ => 0))), (q99, .inl (Z 0, 8, .inl (fun _ => 0))), (q107, .inl (Z 0, 8, .inl (fun _ => 0))), (q115, .inl (Z 0, 8, .inl (fun _ => 0)))] A s.heap H locs := hT
  refine w_putF (C := RX1) (T := TX1) (N := 19) (ci := 1) (q0 := 0) (k := 16) (ty0 := tyX1) (ty := .array .int) (ws' := [(h0, .inr (1, [.int 0, .int 0, .int 0, .int 0, .int 0, .ref q31, .ref q38, .ref q45, .ref q53, .ref q60, .ref q67, .ref q75, .ref q83, .ref q91, .ref q99, .ref q107, .ref q115, .null, .null])), (q31, .inl (Z 0, 5, .inl (fun _ => 0))), (q38, .inl (Z 0, 5, .inl (fun _ => 0))), (q45, .inl (Z 0, 5, .inl (fun _ => 0))), (q53, .inl (Z 0, 60, .inl (fun _ => 0))), (q60, .inl (Z 0, 4, .inl (fun _ => 0))), (q67, .inl (Z 0, 4, .inl (fun _ => 0))), (q75, .inl (Z 0, 6, .inl (fun _ => 0))), (q83, .inl (Z 0, 6, .inl (fun _ => 0))), (q91, .inl (Z 0, 8, .inl (fun _ => 0))), (q99, .inl (Z 0, 8, .inl (fun _ => 0))), (q107, .inl (Z 0, 8, .inl (fun _ => 0))), (q115, .inl (Z 0, 8, .inl (fun _ => 0)))]) hC hK hnm hT fi_X1 tyX1_ok nmX1 rfl rfl (by decide) rfl rfl rfl rfl rfl rfl (Nat.le_of_ble_eq_true rfl) rfl wq_393 dX1_init_117 (fun H locs hT => ?_)
  refine lv_aload_n hx hb dX1_init_120 rfl (lv_at hl 0 rfl) ?_
  refine lv_bipush (v := 8) hx hb dX1_init_121 (by decide) ?_
  refine w_newI (N := 8) hC hK hT wq_297 (by decide) (by decide) (by decide) (Nat.le_of_ble_eq_true rfl) (Nat.le_of_ble_eq_true rfl) dX1_init_123 (fun q123 H hT => ?_)
  refine W.widen (k := 13) (n := 135) (Nat.le_of_ble_eq_true rfl) (Nat.le_of_ble_eq_true rfl) ?_
  have hT : TS vwCl D [(h0, .inr (1, [.int 0, .int 0, .int 0, .int 0, .int 0, .ref q31, .ref q38, .ref q45, .ref q53, .ref q60, .ref q67, .ref q75, .ref q83, .ref q91, .ref q99, .ref q107, .ref q115, .null, .null])), (q31, .inl (Z 0, 5, .inl (fun _ => 0))), (q38, .inl (Z 0, 5, .inl (fun _ => 0))), (q45, .inl (Z 0, 5, .inl (fun _ => 0))), (q53, .inl (Z 0, 60, .inl (fun _ => 0))), (q60, .inl (Z 0, 4, .inl (fun _ => 0))), (q67, .inl (Z 0, 4, .inl (fun _ => 0))), (q75, .inl (Z 0, 6, .inl (fun _ => 0))), (q83, .inl (Z 0, 6, .inl (fun _ => 0))), (q91, .inl (Z 0, 8, .inl (fun _ => 0))), (q99, .inl (Z 0, 8, .inl (fun _ => 0))), (q107, .inl (Z 0, 8, .inl (fun _ => 0))), (q115, .inl (Z 0, 8, .inl (fun _ => 0))), (q123, .inl (Z 0, 8, .inl (fun _ => 0)))] A s.heap H locs := hT
  refine w_putF (C := RX1) (T := TX1) (N := 19) (ci := 1) (q0 := 0) (k := 17) (ty0 := tyX1) (ty := .array .int) (ws' := [(h0, .inr (1, [.int 0, .int 0, .int 0, .int 0, .int 0, .ref q31, .ref q38, .ref q45, .ref q53, .ref q60, .ref q67, .ref q75, .ref q83, .ref q91, .ref q99, .ref q107, .ref q115, .ref q123, .null])), (q31, .inl (Z 0, 5, .inl (fun _ => 0))), (q38, .inl (Z 0, 5, .inl (fun _ => 0))), (q45, .inl (Z 0, 5, .inl (fun _ => 0))), (q53, .inl (Z 0, 60, .inl (fun _ => 0))), (q60, .inl (Z 0, 4, .inl (fun _ => 0))), (q67, .inl (Z 0, 4, .inl (fun _ => 0))), (q75, .inl (Z 0, 6, .inl (fun _ => 0))), (q83, .inl (Z 0, 6, .inl (fun _ => 0))), (q91, .inl (Z 0, 8, .inl (fun _ => 0))), (q99, .inl (Z 0, 8, .inl (fun _ => 0))), (q107, .inl (Z 0, 8, .inl (fun _ => 0))), (q115, .inl (Z 0, 8, .inl (fun _ => 0))), (q123, .inl (Z 0, 8, .inl (fun _ => 0)))]) hC hK hnm hT fi_X1 tyX1_ok nmX1 rfl rfl (by decide) rfl rfl rfl rfl rfl rfl (Nat.le_of_ble_eq_true rfl) rfl wq_396 dX1_init_125 (fun H locs hT => ?_)
  refine lv_aload_n hx hb dX1_init_128 rfl (lv_at hl 0 rfl) ?_
  refine w_newO (C := RX0) (T := TX0) (N := 8) (ci := 0) (ty0 := tyX0) (fs := [.int 0, .null, .null, .null, .null, .int 0, .null, .null]) hC hK hT fi_X0 tyX0_ok wq_304 wq_305 wq_133 rfl (by decide) (Nat.le_of_ble_eq_true rfl) (Nat.le_of_ble_eq_true rfl) dX1_init_129 (fun q129 H hT => ?_)
  refine W.widen (k := 14) (n := 143) (Nat.le_of_ble_eq_true rfl) (Nat.le_of_ble_eq_true rfl) ?_
  have hT : TS vwCl D [(h0, .inr (1, [.int 0, .int 0, .int 0, .int 0, .int 0, .ref q31, .ref q38, .ref q45, .ref q53, .ref q60, .ref q67, .ref q75, .ref q83, .ref q91, .ref q99, .ref q107, .ref q115, .ref q123, .null])), (q31, .inl (Z 0, 5, .inl (fun _ => 0))), (q38, .inl (Z 0, 5, .inl (fun _ => 0))), (q45, .inl (Z 0, 5, .inl (fun _ => 0))), (q53, .inl (Z 0, 60, .inl (fun _ => 0))), (q60, .inl (Z 0, 4, .inl (fun _ => 0))), (q67, .inl (Z 0, 4, .inl (fun _ => 0))), (q75, .inl (Z 0, 6, .inl (fun _ => 0))), (q83, .inl (Z 0, 6, .inl (fun _ => 0))), (q91, .inl (Z 0, 8, .inl (fun _ => 0))), (q99, .inl (Z 0, 8, .inl (fun _ => 0))), (q107, .inl (Z 0, 8, .inl (fun _ => 0))), (q115, .inl (Z 0, 8, .inl (fun _ => 0))), (q123, .inl (Z 0, 8, .inl (fun _ => 0))), (q129, .inr (0, [.int 0, .null, .null, .null, .null, .int 0, .null, .null]))] A s.heap H locs := hT
  refine lv_dup hx hb dX1_init_132 rfl ?_
  refine rwi_go (wsF := iw_X0_init Z q129) (u0 := none) (wr := [(h0, .inr (1, [.int 0, .int 0, .int 0, .int 0, .int 0, .ref q31, .ref q38, .ref q45, .ref q53, .ref q60, .ref q67, .ref q75, .ref q83, .ref q91, .ref q99, .ref q107, .ref q115, .ref q123, .null])), (q31, .inl (Z 0, 5, .inl (fun _ => 0))), (q38, .inl (Z 0, 5, .inl (fun _ => 0))), (q45, .inl (Z 0, 5, .inl (fun _ => 0))), (q53, .inl (Z 0, 60, .inl (fun _ => 0))), (q60, .inl (Z 0, 4, .inl (fun _ => 0))), (q67, .inl (Z 0, 4, .inl (fun _ => 0))), (q75, .inl (Z 0, 6, .inl (fun _ => 0))), (q83, .inl (Z 0, 6, .inl (fun _ => 0))), (q91, .inl (Z 0, 8, .inl (fun _ => 0))), (q99, .inl (Z 0, 8, .inl (fun _ => 0))), (q107, .inl (Z 0, 8, .inl (fun _ => 0))), (q115, .inl (Z 0, 8, .inl (fun _ => 0))), (q123, .inl (Z 0, 8, .inl (fun _ => 0)))]) (isC := [14]) (isR := [0, 1, 2, 3, 4, 5, 6, 7, 8, 9, 10, 11, 12, 13]) (runIN (As := []) hC hN (c_X0_init l D Z H.size q129) mi_X0_init wn_306 wq_307 rfl (by decide) (hT.1.sub [14] rfl) (hT.D'.sub [14] rfl rfl) hK rfl hl.1 rfl (Nat.le_of_ble_eq_true rfl) dX1_init_133 ⟨(Nat.le_of_ble_eq_true rfl), (Nat.le_of_ble_eq_true rfl)⟩) hT rfl rfl (by decide +kernel) (by decide +kernel) (fun u H locs hk hT => ?_)
  refine W.widen (k := 20) (n := 1007) (Nat.le_of_ble_eq_true rfl) (Nat.le_of_ble_eq_true rfl) ?_
  obtain ⟨a133, rfl, ha133⟩ := hk
  have hT : TS vwCl D [(h0, .inr (1, [.int 0, .int 0, .int 0, .int 0, .int 0, .ref q31, .ref q38, .ref q45, .ref q53, .ref q60, .ref q67, .ref q75, .ref q83, .ref q91, .ref q99, .ref q107, .ref q115, .ref q123, .null])), (q31, .inl (Z 0, 5, .inl (fun _ => 0))), (q38, .inl (Z 0, 5, .inl (fun _ => 0))), (q45, .inl (Z 0, 5, .inl (fun _ => 0))), (q53, .inl (Z 0, 60, .inl (fun _ => 0))), (q60, .inl (Z 0, 4, .inl (fun _ => 0))), (q67, .inl (Z 0, 4, .inl (fun _ => 0))), (q75, .inl (Z 0, 6, .inl (fun _ => 0))), (q83, .inl (Z 0, 6, .inl (fun _ => 0))), (q91, .inl (Z 0, 8, .inl (fun _ => 0))), (q99, .inl (Z 0, 8, .inl (fun _ => 0))), (q107, .inl (Z 0, 8, .inl (fun _ => 0))), (q115, .inl (Z 0, 8, .inl (fun _ => 0))), (q123, .inl (Z 0, 8, .inl (fun _ => 0))), (a133 40, .inr (0, [.int (zM 40 0), .ref (a133 41), .ref (a133 42), .ref (a133 43), .ref (a133 44), .int (zM 45 0), .ref (a133 46), .ref (a133 47)])), (a133 41, .inl (Z 0, 16, .inl (zM 41))), (a133 42, .inl (Z 0, 16, .inl (zM 42))), (a133 43, .inl (Z 0, 16, .inl (zM 43))), (a133 44, .inl (Z 0, 16, .inl (zM 44))), (a133 46, .inl (Z 0, 400, .inl (zM 46))), (a133 47, .inl (Z 0, 400, .inl (zM 47)))] A s.heap H locs := hT
  rw [← ha133]
  try rw [← ha133] at hT
  have hT : TS vwCl D [(h0, .inr (1, [.int 0, .int 0, .int 0, .int 0, .int 0, .ref q31, .ref q38, .ref q45, .ref q53, .ref q60, .ref q67, .ref q75, .ref q83, .ref q91, .ref q99, .ref q107, .ref q115, .ref q123, .null])), (q31, .inl (Z 0, 5, .inl (fun _ => 0))), (q38, .inl (Z 0, 5, .inl (fun _ => 0))), (q45, .inl (Z 0, 5, .inl (fun _ => 0))), (q53, .inl (Z 0, 60, .inl (fun _ => 0))), (q60, .inl (Z 0, 4, .inl (fun _ => 0))), (q67, .inl (Z 0, 4, .inl (fun _ => 0))), (q75, .inl (Z 0, 6, .inl (fun _ => 0))), (q83, .inl (Z 0, 6, .inl (fun _ => 0))), (q91, .inl (Z 0, 8, .inl (fun _ => 0))), (q99, .inl (Z 0, 8, .inl (fun _ => 0))), (q107, .inl (Z 0, 8, .inl (fun _ => 0))), (q115, .inl (Z 0, 8, .inl (fun _ => 0))), (q123, .inl (Z 0, 8, .inl (fun _ => 0))), (a133 40, .inr (0, [.int (zM 40 0), .ref (a133 41), .ref (a133 42), .ref (a133 43), .ref (a133 44), .int (zM 45 0), .ref (a133 46), .ref (a133 47)])), (a133 41, .inl (Z 0, 16, .inl (zM 41))), (a133 42, .inl (Z 0, 16, .inl (zM 42))), (a133 43, .inl (Z 0, 16, .inl (zM 43))), (a133 44, .inl (Z 0, 16, .inl (zM 44))), (a133 46, .inl (Z 0, 400, .inl (zM 46))), (a133 47, .inl (Z 0, 400, .inl (zM 47)))] A s.heap H locs := hT
  refine w_putF (C := RX1) (T := TX1) (N := 19) (ci := 1) (q0 := 0) (k := 18) (ty0 := tyX1) (ty := .object "TunnelLeggers$Orders") (ws' := [(h0, .inr (1, [.int 0, .int 0, .int 0, .int 0, .int 0, .ref q31, .ref q38, .ref q45, .ref q53, .ref q60, .ref q67, .ref q75, .ref q83, .ref q91, .ref q99, .ref q107, .ref q115, .ref q123, .ref (a133 40)])), (q31, .inl (Z 0, 5, .inl (fun _ => 0))), (q38, .inl (Z 0, 5, .inl (fun _ => 0))), (q45, .inl (Z 0, 5, .inl (fun _ => 0))), (q53, .inl (Z 0, 60, .inl (fun _ => 0))), (q60, .inl (Z 0, 4, .inl (fun _ => 0))), (q67, .inl (Z 0, 4, .inl (fun _ => 0))), (q75, .inl (Z 0, 6, .inl (fun _ => 0))), (q83, .inl (Z 0, 6, .inl (fun _ => 0))), (q91, .inl (Z 0, 8, .inl (fun _ => 0))), (q99, .inl (Z 0, 8, .inl (fun _ => 0))), (q107, .inl (Z 0, 8, .inl (fun _ => 0))), (q115, .inl (Z 0, 8, .inl (fun _ => 0))), (q123, .inl (Z 0, 8, .inl (fun _ => 0))), (a133 40, .inr (0, [.int (zM 40 0), .ref (a133 41), .ref (a133 42), .ref (a133 43), .ref (a133 44), .int (zM 45 0), .ref (a133 46), .ref (a133 47)])), (a133 41, .inl (Z 0, 16, .inl (zM 41))), (a133 42, .inl (Z 0, 16, .inl (zM 42))), (a133 43, .inl (Z 0, 16, .inl (zM 43))), (a133 44, .inl (Z 0, 16, .inl (zM 44))), (a133 46, .inl (Z 0, 400, .inl (zM 46))), (a133 47, .inl (Z 0, 400, .inl (zM 47)))]) hC hK hnm hT fi_X1 tyX1_ok nmX1 rfl rfl (by decide) rfl rfl rfl rfl rfl rfl (Nat.le_of_ble_eq_true rfl) rfl wq_399 dX1_init_136 (fun H locs hT => ?_)
  exact hret 139 ls _ _ (some (asc [(20, h0), (25, q31), (26, q38), (27, q45), (28, q53), (29, q60), (30, q67), (31, q75), (32, q83), (33, q91), (34, q99), (35, q107), (36, q115), (37, q123), (40, a133 40), (41, a133 41), (42, a133 42), (43, a133 43), (44, a133 44), (45, a133 45), (46, a133 46), (47, a133 47)])) ⟨_, rfl, rfl⟩ hT dX1_init_139
def iw_X4_init (Z : Nat → ClassId) (h0 : Nat) (m0 : Nat) : Option (Nat → Nat) → va_W
  | none => [(h0, .inr (4, [.null, .int 0, .int 0, .int 0, .null, .null, .null, .null, .null, .null, .null, .null, .null, .null, .null]))]
  | some a => [(a 0, .inr (4, [.ref m0, .int (tT0 1 0), .int (tT0 2 0), .int (tT0 3 0), .ref (a 4), .ref (a 5), .ref (a 6), .ref (a 7), .ref (a 8), .ref (a 9), .ref (a 10), .ref (a 11), .ref (a 12), .ref (a 13), .ref (a 14)])), (a 4, .inl (Z 0, 60, .inl (tT0 4))), (a 5, .inl (Z 0, 6, .inl (tT0 5))), (a 6, .inl (Z 0, 6, .inl (tT0 6))), (a 7, .inl (Z 0, 6, .inl (tT0 7))), (a 8, .inl (Z 0, 8, .inl (tT0 8))), (a 9, .inl (Z 0, 8, .inl (tT0 9))), (a 10, .inl (Z 0, 8, .inl (tT0 10))), (a 11, .inl (Z 0, 8, .inl (tT0 11))), (a 12, .inl (Z 0, 8, .inl (tT0 12))), (a 13, .inl (Z 0, 8, .inl (tT0 13))), (a 14, .inl (Z 0, 400, .inl (tT0 14)))]
set_option maxRecDepth 100000 in
set_option maxHeartbeats 4000000 in
theorem c_X4_init (l : Launch) (D : va_G) (Z : Nat → ClassId) (sz h0 : Nat) (m0 : Nat) : Met l yX4_init (wy yX4_init cX4_init 2 none) (rk 1 11 526) (pre vwCl D Z (iw_X4_init Z h0 m0 none) sz [.ref h0, .ref m0]) (poV vwCl D Z (iw_X4_init Z h0 m0) none sz (fun u => ∃ a, u = some a ∧ a 0 = h0)) 11 526 (va_A (iw_X4_init Z h0 m0 none) sz) := by
  refine rwv_of (wsF := iw_X4_init Z h0 m0) (u0 := none) (by decide +kernel) (Nat.le_of_ble_eq_true rfl) rfl ?_
  intro p e s m args below meth c Q A hC hN hsz hnm hT hK hret ls hl
  have hx := hC.1
  have hb := hC.2.1
  have hl : lv_has ls 2 [(0, .ref h0), (1, .ref m0)] := hl
  have hT : TS vwCl D [(h0, .inr (4, [.null, .int 0, .int 0, .int 0, .null, .null, .null, .null, .null, .null, .null, .null, .null, .null, .null]))] A s.heap s.heap [] := hT
  refine lv_aload_n hx hb dX4_init_0 rfl (lv_at hl 0 rfl) ?_
  refine w_objInit hC wq_481 wq_153 wq_154 hl.1 (by decide) (Nat.le_of_ble_eq_true rfl) dX4_init_1 ?_
  refine lv_aload_n hx hb dX4_init_4 rfl (lv_at hl 0 rfl) ?_
  refine lv_iconst (v := 0) hx hb dX4_init_5 (by decide) ?_
  refine w_put (C := RX4) (T := TX4) (N := 15) (ci := 4) (q0 := 0) (k := 1) (ty0 := tyX4) (ty := .int) (ws' := [(h0, .inr (4, [.null, .int 0, .int 0, .int 0, .null, .null, .null, .null, .null, .null, .null, .null, .null, .null, .null]))]) hC hK hT fi_X4 tyX4_ok nmX4 rfl rfl (by decide) rfl rfl rfl rfl rfl (Nat.le_of_ble_eq_true rfl) rfl wq_484 dX4_init_6 (fun H locs hT => ?_)
  refine lv_aload_n hx hb dX4_init_9 rfl (lv_at hl 0 rfl) ?_
  refine lv_iconst (v := 0) hx hb dX4_init_10 (by decide) ?_
  refine w_put (C := RX4) (T := TX4) (N := 15) (ci := 4) (q0 := 0) (k := 2) (ty0 := tyX4) (ty := .int) (ws' := [(h0, .inr (4, [.null, .int 0, .int 0, .int 0, .null, .null, .null, .null, .null, .null, .null, .null, .null, .null, .null]))]) hC hK hT fi_X4 tyX4_ok nmX4 rfl rfl (by decide) rfl rfl rfl rfl rfl (Nat.le_of_ble_eq_true rfl) rfl wq_486 dX4_init_11 (fun H locs hT => ?_)
  refine lv_aload_n hx hb dX4_init_14 rfl (lv_at hl 0 rfl) ?_
  refine lv_iconst (v := (-1)) hx hb dX4_init_15 (by decide) ?_
  refine w_put (C := RX4) (T := TX4) (N := 15) (ci := 4) (q0 := 0) (k := 3) (ty0 := tyX4) (ty := .int) (ws' := [(h0, .inr (4, [.null, .int 0, .int 0, .int (-1), .null, .null, .null, .null, .null, .null, .null, .null, .null, .null, .null]))]) hC hK hT fi_X4 tyX4_ok nmX4 rfl rfl (by decide) rfl rfl rfl rfl rfl (Nat.le_of_ble_eq_true rfl) rfl wq_488 dX4_init_16 (fun H locs hT => ?_)
  refine lv_aload_n hx hb dX4_init_19 rfl (lv_at hl 0 rfl) ?_
  refine lv_bipush (v := 60) hx hb dX4_init_20 (by decide) ?_
  refine w_newI (N := 60) hC hK hT wq_297 (by decide) (by decide) (by decide) (Nat.le_of_ble_eq_true rfl) (Nat.le_of_ble_eq_true rfl) dX4_init_22 (fun q22 H hT => ?_)
  refine W.widen (k := 1) (n := 60) (Nat.le_of_ble_eq_true rfl) (Nat.le_of_ble_eq_true rfl) ?_
  have hT : TS vwCl D [(h0, .inr (4, [.null, .int 0, .int 0, .int (-1), .null, .null, .null, .null, .null, .null, .null, .null, .null, .null, .null])), (q22, .inl (Z 0, 60, .inl (fun _ => 0)))] A s.heap H locs := hT
  refine w_putF (C := RX4) (T := TX4) (N := 15) (ci := 4) (q0 := 0) (k := 4) (ty0 := tyX4) (ty := .array .int) (ws' := [(h0, .inr (4, [.null, .int 0, .int 0, .int (-1), .ref q22, .null, .null, .null, .null, .null, .null, .null, .null, .null, .null])), (q22, .inl (Z 0, 60, .inl (fun _ => 0)))]) hC hK hnm hT fi_X4 tyX4_ok nmX4 rfl rfl (by decide) rfl rfl rfl rfl rfl rfl (Nat.le_of_ble_eq_true rfl) rfl wq_490 dX4_init_24 (fun H locs hT => ?_)
  refine lv_aload_n hx hb dX4_init_27 rfl (lv_at hl 0 rfl) ?_
  refine lv_bipush (v := 6) hx hb dX4_init_28 (by decide) ?_
  refine w_newI (N := 6) hC hK hT wq_297 (by decide) (by decide) (by decide) (Nat.le_of_ble_eq_true rfl) (Nat.le_of_ble_eq_true rfl) dX4_init_30 (fun q30 H hT => ?_)
  refine W.widen (k := 2) (n := 66) (Nat.le_of_ble_eq_true rfl) (Nat.le_of_ble_eq_true rfl) ?_
  have hT : TS vwCl D [(h0, .inr (4, [.null, .int 0, .int 0, .int (-1), .ref q22, .null, .null, .null, .null, .null, .null, .null, .null, .null, .null])), (q22, .inl (Z 0, 60, .inl (fun _ => 0))), (q30, .inl (Z 0, 6, .inl (fun _ => 0)))] A s.heap H locs := hT
  refine w_putF (C := RX4) (T := TX4) (N := 15) (ci := 4) (q0 := 0) (k := 5) (ty0 := tyX4) (ty := .array .int) (ws' := [(h0, .inr (4, [.null, .int 0, .int 0, .int (-1), .ref q22, .ref q30, .null, .null, .null, .null, .null, .null, .null, .null, .null])), (q22, .inl (Z 0, 60, .inl (fun _ => 0))), (q30, .inl (Z 0, 6, .inl (fun _ => 0)))]) hC hK hnm hT fi_X4 tyX4_ok nmX4 rfl rfl (by decide) rfl rfl rfl rfl rfl rfl (Nat.le_of_ble_eq_true rfl) rfl wq_492 dX4_init_32 (fun H locs hT => ?_)
  refine lv_aload_n hx hb dX4_init_35 rfl (lv_at hl 0 rfl) ?_
  refine lv_bipush (v := 6) hx hb dX4_init_36 (by decide) ?_
  refine w_newI (N := 6) hC hK hT wq_297 (by decide) (by decide) (by decide) (Nat.le_of_ble_eq_true rfl) (Nat.le_of_ble_eq_true rfl) dX4_init_38 (fun q38 H hT => ?_)
  refine W.widen (k := 3) (n := 72) (Nat.le_of_ble_eq_true rfl) (Nat.le_of_ble_eq_true rfl) ?_
  have hT : TS vwCl D [(h0, .inr (4, [.null, .int 0, .int 0, .int (-1), .ref q22, .ref q30, .null, .null, .null, .null, .null, .null, .null, .null, .null])), (q22, .inl (Z 0, 60, .inl (fun _ => 0))), (q30, .inl (Z 0, 6, .inl (fun _ => 0))), (q38, .inl (Z 0, 6, .inl (fun _ => 0)))] A s.heap H locs := hT
  refine w_putF (C := RX4) (T := TX4) (N := 15) (ci := 4) (q0 := 0) (k := 6) (ty0 := tyX4) (ty := .array .int) (ws' := [(h0, .inr (4, [.null, .int 0, .int 0, .int (-1), .ref q22, .ref q30, .ref q38, .null, .null, .null, .null, .null, .null, .null, .null])), (q22, .inl (Z 0, 60, .inl (fun _ => 0))), (q30, .inl (Z 0, 6, .inl (fun _ => 0))), (q38, .inl (Z 0, 6, .inl (fun _ => 0)))]) hC hK hnm hT fi_X4 tyX4_ok nmX4 rfl rfl (by decide) rfl rfl rfl rfl rfl rfl (Nat.le_of_ble_eq_true rfl) rfl wq_494 dX4_init_40 (fun H locs hT => ?_)
  refine lv_aload_n hx hb dX4_init_43 rfl (lv_at hl 0 rfl) ?_
  refine lv_bipush (v := 6) hx hb dX4_init_44 (by decide) ?_
  refine w_newI (N := 6) hC hK hT wq_297 (by decide) (by decide) (by decide) (Nat.le_of_ble_eq_true rfl) (Nat.le_of_ble_eq_true rfl) dX4_init_46 (fun q46 H hT => ?_)
  refine W.widen (k := 4) (n := 78) (Nat.le_of_ble_eq_true rfl) (Nat.le_of_ble_eq_true rfl) ?_
  have hT : TS vwCl D [(h0, .inr (4, [.null, .int 0, .int 0, .int (-1), .ref q22, .ref q30, .ref q38, .null, .null, .null, .null, .null, .null, .null, .null])), (q22, .inl (Z 0, 60, .inl (fun _ => 0))), (q30, .inl (Z 0, 6, .inl (fun _ => 0))), (q38, .inl (Z 0, 6, .inl (fun _ => 0))), (q46, .inl (Z 0, 6, .inl (fun _ => 0)))] A s.heap H locs := hT
  refine w_putF (C := RX4) (T := TX4) (N := 15) (ci := 4) (q0 := 0) (k := 7) (ty0 := tyX4) (ty := .array .int) (ws' := [(h0, .inr (4, [.null, .int 0, .int 0, .int (-1), .ref q22, .ref q30, .ref q38, .ref q46, .null, .null, .null, .null, .null, .null, .null])), (q22, .inl (Z 0, 60, .inl (fun _ => 0))), (q30, .inl (Z 0, 6, .inl (fun _ => 0))), (q38, .inl (Z 0, 6, .inl (fun _ => 0))), (q46, .inl (Z 0, 6, .inl (fun _ => 0)))]) hC hK hnm hT fi_X4 tyX4_ok nmX4 rfl rfl (by decide) rfl rfl rfl rfl rfl rfl (Nat.le_of_ble_eq_true rfl) rfl wq_496 dX4_init_48 (fun H locs hT => ?_)
  refine lv_aload_n hx hb dX4_init_51 rfl (lv_at hl 0 rfl) ?_
  refine lv_bipush (v := 8) hx hb dX4_init_52 (by decide) ?_
  refine w_newI (N := 8) hC hK hT wq_297 (by decide) (by decide) (by decide) (Nat.le_of_ble_eq_true rfl) (Nat.le_of_ble_eq_true rfl) dX4_init_54 (fun q54 H hT => ?_)
  refine W.widen (k := 5) (n := 86) (Nat.le_of_ble_eq_true rfl) (Nat.le_of_ble_eq_true rfl) ?_
  have hT : TS vwCl D [(h0, .inr (4, [.null, .int 0, .int 0, .int (-1), .ref q22, .ref q30, .ref q38, .ref q46, .null, .null, .null, .null, .null, .null, .null])), (q22, .inl (Z 0, 60, .inl (fun _ => 0))), (q30, .inl (Z 0, 6, .inl (fun _ => 0))), (q38, .inl (Z 0, 6, .inl (fun _ => 0))), (q46, .inl (Z 0, 6, .inl (fun _ => 0))), (q54, .inl (Z 0, 8, .inl (fun _ => 0)))] A s.heap H locs := hT
  refine w_putF (C := RX4) (T := TX4) (N := 15) (ci := 4) (q0 := 0) (k := 8) (ty0 := tyX4) (ty := .array .int) (ws' := [(h0, .inr (4, [.null, .int 0, .int 0, .int (-1), .ref q22, .ref q30, .ref q38, .ref q46, .ref q54, .null, .null, .null, .null, .null, .null])), (q22, .inl (Z 0, 60, .inl (fun _ => 0))), (q30, .inl (Z 0, 6, .inl (fun _ => 0))), (q38, .inl (Z 0, 6, .inl (fun _ => 0))), (q46, .inl (Z 0, 6, .inl (fun _ => 0))), (q54, .inl (Z 0, 8, .inl (fun _ => 0)))]) hC hK hnm hT fi_X4 tyX4_ok nmX4 rfl rfl (by decide) rfl rfl rfl rfl rfl rfl (Nat.le_of_ble_eq_true rfl) rfl wq_498 dX4_init_56 (fun H locs hT => ?_)
  refine lv_aload_n hx hb dX4_init_59 rfl (lv_at hl 0 rfl) ?_
  refine lv_bipush (v := 8) hx hb dX4_init_60 (by decide) ?_
  refine w_newI (N := 8) hC hK hT wq_297 (by decide) (by decide) (by decide) (Nat.le_of_ble_eq_true rfl) (Nat.le_of_ble_eq_true rfl) dX4_init_62 (fun q62 H hT => ?_)
  refine W.widen (k := 6) (n := 94) (Nat.le_of_ble_eq_true rfl) (Nat.le_of_ble_eq_true rfl) ?_
  have hT : TS vwCl D [(h0, .inr (4, [.null, .int 0, .int 0, .int (-1), .ref q22, .ref q30, .ref q38, .ref q46, .ref q54, .null, .null, .null, .null, .null, .null])), (q22, .inl (Z 0, 60, .inl (fun _ => 0))), (q30, .inl (Z 0, 6, .inl (fun _ => 0))), (q38, .inl (Z 0, 6, .inl (fun _ => 0))), (q46, .inl (Z 0, 6, .inl (fun _ => 0))), (q54, .inl (Z 0, 8, .inl (fun _ => 0))), (q62, .inl (Z 0, 8, .inl (fun _ => 0)))] A s.heap H locs := hT
  refine w_putF (C := RX4) (T := TX4) (N := 15) (ci := 4) (q0 := 0) (k := 9) (ty0 := tyX4) (ty := .array .int) (ws' := [(h0, .inr (4, [.null, .int 0, .int 0, .int (-1), .ref q22, .ref q30, .ref q38, .ref q46, .ref q54, .ref q62, .null, .null, .null, .null, .null])), (q22, .inl (Z 0, 60, .inl (fun _ => 0))), (q30, .inl (Z 0, 6, .inl (fun _ => 0))), (q38, .inl (Z 0, 6, .inl (fun _ => 0))), (q46, .inl (Z 0, 6, .inl (fun _ => 0))), (q54, .inl (Z 0, 8, .inl (fun _ => 0))), (q62, .inl (Z 0, 8, .inl (fun _ => 0)))]) hC hK hnm hT fi_X4 tyX4_ok nmX4 rfl rfl (by decide) rfl rfl rfl rfl rfl rfl (Nat.le_of_ble_eq_true rfl) rfl wq_500 dX4_init_64 (fun H locs hT => ?_)
  refine lv_aload_n hx hb dX4_init_67 rfl (lv_at hl 0 rfl) ?_
  refine lv_bipush (v := 8) hx hb dX4_init_68 (by decide) ?_
  refine w_newI (N := 8) hC hK hT wq_297 (by decide) (by decide) (by decide) (Nat.le_of_ble_eq_true rfl) (Nat.le_of_ble_eq_true rfl) dX4_init_70 (fun q70 H hT => ?_)
  refine W.widen (k := 7) (n := 102) (Nat.le_of_ble_eq_true rfl) (Nat.le_of_ble_eq_true rfl) ?_
  have hT : TS vwCl D [(h0, .inr (4, [.null, .int 0, .int 0, .int (-1), .ref q22, .ref q30, .ref q38, .ref q46, .ref q54, .ref q62, .null, .null, .null, .null, .null])), (q22, .inl (Z 0, 60, .inl (fun _ => 0))), (q30, .inl (Z 0, 6, .inl (fun _ => 0))), (q38, .inl (Z 0, 6, .inl (fun _ => 0))), (q46, .inl (Z 0, 6, .inl (fun _ => 0))), (q54, .inl (Z 0, 8, .inl (fun _ => 0))), (q62, .inl (Z 0, 8, .inl (fun _ => 0))), (q70, .inl (Z 0, 8, .inl (fun _ => 0)))] A s.heap H locs := hT
  refine w_putF (C := RX4) (T := TX4) (N := 15) (ci := 4) (q0 := 0) (k := 10) (ty0 := tyX4) (ty := .array .int) (ws' := [(h0, .inr (4, [.null, .int 0, .int 0, .int (-1), .ref q22, .ref q30, .ref q38, .ref q46, .ref q54, .ref q62, .ref q70, .null, .null, .null, .null])), (q22, .inl (Z 0, 60, .inl (fun _ => 0))), (q30, .inl (Z 0, 6, .inl (fun _ => 0))), (q38, .inl (Z 0, 6, .inl (fun _ => 0))), (q46, .inl (Z 0, 6, .inl (fun _ => 0))), (q54, .inl (Z 0, 8, .inl (fun _ => 0))), (q62, .inl (Z 0, 8, .inl (fun _ => 0))), (q70, .inl (Z 0, 8, .inl (fun _ => 0)))]) hC hK hnm hT fi_X4 tyX4_ok nmX4 rfl rfl (by decide) rfl rfl rfl rfl rfl rfl (Nat.le_of_ble_eq_true rfl) rfl wq_502 dX4_init_72 (fun H locs hT => ?_)
  refine lv_aload_n hx hb dX4_init_75 rfl (lv_at hl 0 rfl) ?_
  refine lv_bipush (v := 8) hx hb dX4_init_76 (by decide) ?_
  refine w_newI (N := 8) hC hK hT wq_297 (by decide) (by decide) (by decide) (Nat.le_of_ble_eq_true rfl) (Nat.le_of_ble_eq_true rfl) dX4_init_78 (fun q78 H hT => ?_)
  refine W.widen (k := 8) (n := 110) (Nat.le_of_ble_eq_true rfl) (Nat.le_of_ble_eq_true rfl) ?_
  have hT : TS vwCl D [(h0, .inr (4, [.null, .int 0, .int 0, .int (-1), .ref q22, .ref q30, .ref q38, .ref q46, .ref q54, .ref q62, .ref q70, .null, .null, .null, .null])), (q22, .inl (Z 0, 60, .inl (fun _ => 0))), (q30, .inl (Z 0, 6, .inl (fun _ => 0))), (q38, .inl (Z 0, 6, .inl (fun _ => 0))), (q46, .inl (Z 0, 6, .inl (fun _ => 0))), (q54, .inl (Z 0, 8, .inl (fun _ => 0))), (q62, .inl (Z 0, 8, .inl (fun _ => 0))), (q70, .inl (Z 0, 8, .inl (fun _ => 0))), (q78, .inl (Z 0, 8, .inl (fun _ => 0)))] A s.heap H locs := hT
  refine w_putF (C := RX4) (T := TX4) (N := 15) (ci := 4) (q0 := 0) (k := 11) (ty0 := tyX4) (ty := .array .int) (ws' := [(h0, .inr (4, [.null, .int 0, .int 0, .int (-1), .ref q22, .ref q30, .ref q38, .ref q46, .ref q54, .ref q62, .ref q70, .ref q78, .null, .null, .null])), (q22, .inl (Z 0, 60, .inl (fun _ => 0))), (q30, .inl (Z 0, 6, .inl (fun _ => 0))), (q38, .inl (Z 0, 6, .inl (fun _ => 0))), (q46, .inl (Z 0, 6, .inl (fun _ => 0))), (q54, .inl (Z 0, 8, .inl (fun _ => 0))), (q62, .inl (Z 0, 8, .inl (fun _ => 0))), (q70, .inl (Z 0, 8, .inl (fun _ => 0))), (q78, .inl (Z 0, 8, .inl (fun _ => 0)))]) hC hK hnm hT fi_X4 tyX4_ok nmX4 rfl rfl (by decide) rfl rfl rfl rfl rfl rfl (Nat.le_of_ble_eq_true rfl) rfl wq_504 dX4_init_80 (fun H locs hT => ?_)
  refine lv_aload_n hx hb dX4_init_83 rfl (lv_at hl 0 rfl) ?_
  refine lv_bipush (v := 8) hx hb dX4_init_84 (by decide) ?_
  refine w_newI (N := 8) hC hK hT wq_297 (by decide) (by decide) (by decide) (Nat.le_of_ble_eq_true rfl) (Nat.le_of_ble_eq_true rfl) dX4_init_86 (fun q86 H hT => ?_)
  refine W.widen (k := 9) (n := 118) (Nat.le_of_ble_eq_true rfl) (Nat.le_of_ble_eq_true rfl) ?_
  have hT : TS vwCl D [(h0, .inr (4, [.null, .int 0, .int 0, .int (-1), .ref q22, .ref q30, .ref q38, .ref q46, .ref q54, .ref q62, .ref q70, .ref q78, .null, .null, .null])), (q22, .inl (Z 0, 60, .inl (fun _ => 0))), (q30, .inl (Z 0, 6, .inl (fun _ => 0))), (q38, .inl (Z 0, 6, .inl (fun _ => 0))), (q46, .inl (Z 0, 6, .inl (fun _ => 0))), (q54, .inl (Z 0, 8, .inl (fun _ => 0))), (q62, .inl (Z 0, 8, .inl (fun _ => 0))), (q70, .inl (Z 0, 8, .inl (fun _ => 0))), (q78, .inl (Z 0, 8, .inl (fun _ => 0))), (q86, .inl (Z 0, 8, .inl (fun _ => 0)))] A s.heap H locs := hT
  refine w_putF (C := RX4) (T := TX4) (N := 15) (ci := 4) (q0 := 0) (k := 12) (ty0 := tyX4) (ty := .array .int) (ws' := [(h0, .inr (4, [.null, .int 0, .int 0, .int (-1), .ref q22, .ref q30, .ref q38, .ref q46, .ref q54, .ref q62, .ref q70, .ref q78, .ref q86, .null, .null])), (q22, .inl (Z 0, 60, .inl (fun _ => 0))), (q30, .inl (Z 0, 6, .inl (fun _ => 0))), (q38, .inl (Z 0, 6, .inl (fun _ => 0))), (q46, .inl (Z 0, 6, .inl (fun _ => 0))), (q54, .inl (Z 0, 8, .inl (fun _ => 0))), (q62, .inl (Z 0, 8, .inl (fun _ => 0))), (q70, .inl (Z 0, 8, .inl (fun _ => 0))), (q78, .inl (Z 0, 8, .inl (fun _ => 0))), (q86, .inl (Z 0, 8, .inl (fun _ => 0)))]) hC hK hnm hT fi_X4 tyX4_ok nmX4 rfl rfl (by decide) rfl rfl rfl rfl rfl rfl (Nat.le_of_ble_eq_true rfl) rfl wq_506 dX4_init_88 (fun H locs hT => ?_)
  refine lv_aload_n hx hb dX4_init_91 rfl (lv_at hl 0 rfl) ?_
  refine lv_bipush (v := 8) hx hb dX4_init_92 (by decide) ?_
  refine w_newI (N := 8) hC hK hT wq_297 (by decide) (by decide) (by decide) (Nat.le_of_ble_eq_true rfl) (Nat.le_of_ble_eq_true rfl) dX4_init_94 (fun q94 H hT => ?_)
  refine W.widen (k := 10) (n := 126) (Nat.le_of_ble_eq_true rfl) (Nat.le_of_ble_eq_true rfl) ?_
  have hT : TS vwCl D [(h0, .inr (4, [.null, .int 0, .int 0, .int (-1), .ref q22, .ref q30, .ref q38, .ref q46, .ref q54, .ref q62, .ref q70, .ref q78, .ref q86, .null, .null])), (q22, .inl (Z 0, 60, .inl (fun _ => 0))), (q30, .inl (Z 0, 6, .inl (fun _ => 0))), (q38, .inl (Z 0, 6, .inl (fun _ => 0))), (q46, .inl (Z 0, 6, .inl (fun _ => 0))), (q54, .inl (Z 0, 8, .inl (fun _ => 0))), (q62, .inl (Z 0, 8, .inl (fun _ => 0))), (q70, .inl (Z 0, 8, .inl (fun _ => 0))), (q78, .inl (Z 0, 8, .inl (fun _ => 0))), (q86, .inl (Z 0, 8, .inl (fun _ => 0))), (q94, .inl (Z 0, 8, .inl (fun _ => 0)))] A s.heap H locs := hT
  refine w_putF (C := RX4) (T := TX4) (N := 15) (ci := 4) (q0 := 0) (k := 13) (ty0 := tyX4) (ty := .array .int) (ws' := [(h0, .inr (4, [.null, .int 0, .int 0, .int (-1), .ref q22, .ref q30, .ref q38, .ref q46, .ref q54, .ref q62, .ref q70, .ref q78, .ref q86, .ref q94, .null])), (q22, .inl (Z 0, 60, .inl (fun _ => 0))), (q30, .inl (Z 0, 6, .inl (fun _ => 0))), (q38, .inl (Z 0, 6, .inl (fun _ => 0))), (q46, .inl (Z 0, 6, .inl (fun _ => 0))), (q54, .inl (Z 0, 8, .inl (fun _ => 0))), (q62, .inl (Z 0, 8, .inl (fun _ => 0))), (q70, .inl (Z 0, 8, .inl (fun _ => 0))), (q78, .inl (Z 0, 8, .inl (fun _ => 0))), (q86, .inl (Z 0, 8, .inl (fun _ => 0))), (q94, .inl (Z 0, 8, .inl (fun _ => 0)))]) hC hK hnm hT fi_X4 tyX4_ok nmX4 rfl rfl (by decide) rfl rfl rfl rfl rfl rfl (Nat.le_of_ble_eq_true rfl) rfl wq_508 dX4_init_96 (fun H locs hT => ?_)
  refine lv_aload_n hx hb dX4_init_99 rfl (lv_at hl 0 rfl) ?_
  refine lv_sipush (v := 400) hx hb dX4_init_100 (by decide) ?_
  refine w_newI (N := 400) hC hK hT wq_297 (by decide) (by decide) (by decide) (Nat.le_of_ble_eq_true rfl) (Nat.le_of_ble_eq_true rfl) dX4_init_103 (fun q103 H hT => ?_)
  refine W.widen (k := 11) (n := 526) (Nat.le_of_ble_eq_true rfl) (Nat.le_of_ble_eq_true rfl) ?_
  have hT : TS vwCl D [(h0, .inr (4, [.null, .int 0, .int 0, .int (-1), .ref q22, .ref q30, .ref q38, .ref q46, .ref q54, .ref q62, .ref q70, .ref q78, .ref q86, .ref q94, .null])), (q22, .inl (Z 0, 60, .inl (fun _ => 0))), (q30, .inl (Z 0, 6, .inl (fun _ => 0))), (q38, .inl (Z 0, 6, .inl (fun _ => 0))), (q46, .inl (Z 0, 6, .inl (fun _ => 0))), (q54, .inl (Z 0, 8, .inl (fun _ => 0))), (q62, .inl (Z 0, 8, .inl (fun _ => 0))), (q70, .inl (Z 0, 8, .inl (fun _ => 0))), (q78, .inl (Z 0, 8, .inl (fun _ => 0))), (q86, .inl (Z 0, 8, .inl (fun _ => 0))), (q94, .inl (Z 0, 8, .inl (fun _ => 0))), (q103, .inl (Z 0, 400, .inl (fun _ => 0)))] A s.heap H locs := hT
  refine w_putF (C := RX4) (T := TX4) (N := 15) (ci := 4) (q0 := 0) (k := 14) (ty0 := tyX4) (ty := .array .int) (ws' := [(h0, .inr (4, [.null, .int 0, .int 0, .int (-1), .ref q22, .ref q30, .ref q38, .ref q46, .ref q54, .ref q62, .ref q70, .ref q78, .ref q86, .ref q94, .ref q103])), (q22, .inl (Z 0, 60, .inl (fun _ => 0))), (q30, .inl (Z 0, 6, .inl (fun _ => 0))), (q38, .inl (Z 0, 6, .inl (fun _ => 0))), (q46, .inl (Z 0, 6, .inl (fun _ => 0))), (q54, .inl (Z 0, 8, .inl (fun _ => 0))), (q62, .inl (Z 0, 8, .inl (fun _ => 0))), (q70, .inl (Z 0, 8, .inl (fun _ => 0))), (q78, .inl (Z 0, 8, .inl (fun _ => 0))), (q86, .inl (Z 0, 8, .inl (fun _ => 0))), (q94, .inl (Z 0, 8, .inl (fun _ => 0))), (q103, .inl (Z 0, 400, .inl (fun _ => 0)))]) hC hK hnm hT fi_X4 tyX4_ok nmX4 rfl rfl (by decide) rfl rfl rfl rfl rfl rfl (Nat.le_of_ble_eq_true rfl) rfl wq_510 dX4_init_105 (fun H locs hT => ?_)
  refine lv_aload_n hx hb dX4_init_108 rfl (lv_at hl 0 rfl) ?_
  refine lv_aload_n hx hb dX4_init_109 rfl (lv_at hl 1 rfl) ?_
  refine w_put (C := RX4) (T := TX4) (N := 15) (ci := 4) (q0 := 0) (k := 0) (ty0 := tyX4) (ty := .object "TunnelLeggers$Plan") (ws' := [(h0, .inr (4, [.ref m0, .int 0, .int 0, .int (-1), .ref q22, .ref q30, .ref q38, .ref q46, .ref q54, .ref q62, .ref q70, .ref q78, .ref q86, .ref q94, .ref q103])), (q22, .inl (Z 0, 60, .inl (fun _ => 0))), (q30, .inl (Z 0, 6, .inl (fun _ => 0))), (q38, .inl (Z 0, 6, .inl (fun _ => 0))), (q46, .inl (Z 0, 6, .inl (fun _ => 0))), (q54, .inl (Z 0, 8, .inl (fun _ => 0))), (q62, .inl (Z 0, 8, .inl (fun _ => 0))), (q70, .inl (Z 0, 8, .inl (fun _ => 0))), (q78, .inl (Z 0, 8, .inl (fun _ => 0))), (q86, .inl (Z 0, 8, .inl (fun _ => 0))), (q94, .inl (Z 0, 8, .inl (fun _ => 0))), (q103, .inl (Z 0, 400, .inl (fun _ => 0)))]) hC hK hT fi_X4 tyX4_ok nmX4 rfl rfl (by decide) rfl rfl rfl rfl rfl (Nat.le_of_ble_eq_true rfl) rfl wq_482 dX4_init_110 (fun H locs hT => ?_)
  exact hret 113 ls _ _ (some (asc [(0, h0), (4, q22), (5, q30), (6, q38), (7, q46), (8, q54), (9, q62), (10, q70), (11, q78), (12, q86), (13, q94), (14, q103)])) ⟨_, rfl, rfl⟩ hT dX4_init_113
def iw_X6_init (Z : Nat → ClassId) (h0 : Nat) : Option (Nat → Nat) → va_W
  | none => [(h0, .inr (6, [.int 0, .int 0, .null, .null, .null, .null, .int 0, .null, .null, .int 0, .null, .null, .int 0, .null, .null, .null, .null, .int 0, .int 0, .null, .null, .null, .null, .null, .int 0, .null, .int 0]))]
  | some a => [(a 240, .inr (6, [.int (zM 240 0), .int (zM 241 0), .ref (a 242), .ref (a 243), .ref (a 244), .ref (a 245), .int (zM 246 0), .ref (a 247), .ref (a 248), .int (zM 249 0), .ref (a 250), .ref (a 251), .int (zM 252 0), .ref (a 253), .ref (a 254), .ref (a 255), .ref (a 256), .int (zM 257 0), .int (zM 258 0), .ref (a 259), .ref (a 260), .ref (a 261), .ref (a 262), .ref (a 263), .int (zM 264 0), .ref (a 265), .int (zM 266 0)])), (a 242, .inl (Z 0, 5, .inl (zM 242))), (a 243, .inl (Z 0, 5, .inl (zM 243))), (a 244, .inl (Z 0, 5, .inl (zM 244))), (a 245, .inl (Z 0, 60, .inl (zM 245))), (a 247, .inl (Z 0, 4, .inl (zM 247))), (a 248, .inl (Z 0, 4, .inl (zM 248))), (a 250, .inl (Z 0, 6, .inl (zM 250))), (a 251, .inl (Z 0, 6, .inl (zM 251))), (a 253, .inl (Z 0, 8, .inl (zM 253))), (a 254, .inl (Z 0, 8, .inl (zM 254))), (a 255, .inl (Z 0, 8, .inl (zM 255))), (a 256, .inl (Z 3, 8, .inr (.inr (.inr (.inr (fun j => if j < 8 then some (a (310 + j)) else none)))))), (a 259, .inl (Z 0, 16, .inl (zM 259))), (a 260, .inl (Z 0, 16, .inl (zM 260))), (a 261, .inl (Z 0, 17, .inl (zM 261))), (a 262, .inl (Z 0, 17, .inl (zM 262))), (a 263, .inl (Z 0, 800, .inl (zM 263))), (a 265, .inl (Z 0, 400, .inl (zM 265))), (a (310 + 0), .inl (Z 0, 2, .inl (zM (310 + 0)))), (a (310 + 1), .inl (Z 0, 2, .inl (zM (310 + 1)))), (a (310 + 2), .inl (Z 0, 2, .inl (zM (310 + 2)))), (a (310 + 3), .inl (Z 0, 2, .inl (zM (310 + 3)))), (a (310 + 4), .inl (Z 0, 2, .inl (zM (310 + 4)))), (a (310 + 5), .inl (Z 0, 2, .inl (zM (310 + 5)))), (a (310 + 6), .inl (Z 0, 2, .inl (zM (310 + 6)))), (a (310 + 7), .inl (Z 0, 2, .inl (zM (310 + 7))))]
set_option maxRecDepth 100000 in
set_option maxHeartbeats 4000000 in
theorem c_X6_init (l : Launch) (D : va_G) (Z : Nat → ClassId) (sz h0 : Nat) : Met l yX6_init (wy yX6_init cX6_init 1 none) (rk 1 26 1409) (pre vwCl D Z (iw_X6_init Z h0 none) sz [.ref h0]) (poV vwCl D Z (iw_X6_init Z h0) none sz (fun u => ∃ a, u = some a ∧ a 240 = h0)) 26 1409 (va_A (iw_X6_init Z h0 none) sz) := by
  refine rwv_of (wsF := iw_X6_init Z h0) (u0 := none) (by decide +kernel) (Nat.le_of_ble_eq_true rfl) rfl ?_
  intro p e s m args below meth c Q A hC hN hsz hnm hT hK hret ls hl
  have hx := hC.1
  have hb := hC.2.1
  have hl : lv_has ls 1 [(0, .ref h0)] := hl
  have hT : TS vwCl D [(h0, .inr (6, [.int 0, .int 0, .null, .null, .null, .null, .int 0, .null, .null, .int 0, .null, .null, .int 0, .null, .null, .null, .null, .int 0, .int 0, .null, .null, .null, .null, .null, .int 0, .null, .int 0]))] A s.heap s.heap [] := hT
  refine lv_aload_n hx hb dX6_init_0 rfl (lv_at hl 0 rfl) ?_
  refine w_objInit hC wq_1227 wq_153 wq_154 hl.1 (by decide) (Nat.le_of_ble_eq_true rfl) dX6_init_1 ?_
  refine lv_aload_n hx hb dX6_init_4 rfl (lv_at hl 0 rfl) ?_
  refine lv_iconst (v := 5) hx hb dX6_init_5 (by decide) ?_
  refine w_newI (N := 5) hC hK hT wq_297 (by decide) (by decide) (by decide) (Nat.le_of_ble_eq_true rfl) (Nat.le_of_ble_eq_true rfl) dX6_init_6 (fun q6 H hT => ?_)
  refine W.widen (k := 1) (n := 5) (Nat.le_of_ble_eq_true rfl) (Nat.le_of_ble_eq_true rfl) ?_
  have hT : TS vwCl D [(h0, .inr (6, [.int 0, .int 0, .null, .null, .null, .null, .int 0, .null, .null, .int 0, .null, .null, .int 0, .null, .null, .null, .null, .int 0, .int 0, .null, .null, .null, .null, .null, .int 0, .null, .int 0])), (q6, .inl (Z 0, 5, .inl (fun _ => 0)))] A s.heap H [] := hT
  refine w_putF (C := RX6) (T := TX6) (N := 27) (ci := 6) (q0 := 0) (k := 2) (ty0 := tyX6) (ty := .array .int) (ws' := [(h0, .inr (6, [.int 0, .int 0, .ref q6, .null, .null, .null, .int 0, .null, .null, .int 0, .null, .null, .int 0, .null, .null, .null, .null, .int 0, .int 0, .null, .null, .null, .null, .null, .int 0, .null, .int 0])), (q6, .inl (Z 0, 5, .inl (fun _ => 0)))]) hC hK hnm hT fi_X6 tyX6_ok nmX6 rfl rfl (by decide) rfl rfl rfl rfl rfl rfl (Nat.le_of_ble_eq_true rfl) rfl wq_1233 dX6_init_8 (fun H locs hT => ?_)
  refine lv_aload_n hx hb dX6_init_11 rfl (lv_at hl 0 rfl) ?_
  refine lv_iconst (v := 5) hx hb dX6_init_12 (by decide) ?_
  refine w_newI (N := 5) hC hK hT wq_297 (by decide) (by decide) (by decide) (Nat.le_of_ble_eq_true rfl) (Nat.le_of_ble_eq_true rfl) dX6_init_13 (fun q13 H hT => ?_)
  refine W.widen (k := 2) (n := 10) (Nat.le_of_ble_eq_true rfl) (Nat.le_of_ble_eq_true rfl) ?_
  have hT : TS vwCl D [(h0, .inr (6, [.int 0, .int 0, .ref q6, .null, .null, .null, .int 0, .null, .null, .int 0, .null, .null, .int 0, .null, .null, .null, .null, .int 0, .int 0, .null, .null, .null, .null, .null, .int 0, .null, .int 0])), (q6, .inl (Z 0, 5, .inl (fun _ => 0))), (q13, .inl (Z 0, 5, .inl (fun _ => 0)))] A s.heap H locs := hT
  refine w_putF (C := RX6) (T := TX6) (N := 27) (ci := 6) (q0 := 0) (k := 3) (ty0 := tyX6) (ty := .array .int) (ws' := [(h0, .inr (6, [.int 0, .int 0, .ref q6, .ref q13, .null, .null, .int 0, .null, .null, .int 0, .null, .null, .int 0, .null, .null, .null, .null, .int 0, .int 0, .null, .null, .null, .null, .null, .int 0, .null, .int 0])), (q6, .inl (Z 0, 5, .inl (fun _ => 0))), (q13, .inl (Z 0, 5, .inl (fun _ => 0)))]) hC hK hnm hT fi_X6 tyX6_ok nmX6 rfl rfl (by decide) rfl rfl rfl rfl rfl rfl (Nat.le_of_ble_eq_true rfl) rfl wq_1235 dX6_init_15 (fun H locs hT => ?_)
  refine lv_aload_n hx hb dX6_init_18 rfl (lv_at hl 0 rfl) ?_
  refine lv_iconst (v := 5) hx hb dX6_init_19 (by decide) ?_
  refine w_newI (N := 5) hC hK hT wq_297 (by decide) (by decide) (by decide) (Nat.le_of_ble_eq_true rfl) (Nat.le_of_ble_eq_true rfl) dX6_init_20 (fun q20 H hT => ?_)
  refine W.widen (k := 3) (n := 15) (Nat.le_of_ble_eq_true rfl) (Nat.le_of_ble_eq_true rfl) ?_
  have hT : TS vwCl D [(h0, .inr (6, [.int 0, .int 0, .ref q6, .ref q13, .null, .null, .int 0, .null, .null, .int 0, .null, .null, .int 0, .null, .null, .null, .null, .int 0, .int 0, .null, .null, .null, .null, .null, .int 0, .null, .int 0])), (q6, .inl (Z 0, 5, .inl (fun _ => 0))), (q13, .inl (Z 0, 5, .inl (fun _ => 0))), (q20, .inl (Z 0, 5, .inl (fun _ => 0)))] A s.heap H locs := hT
  refine w_putF (C := RX6) (T := TX6) (N := 27) (ci := 6) (q0 := 0) (k := 4) (ty0 := tyX6) (ty := .array .int) (ws' := [(h0, .inr (6, [.int 0, .int 0, .ref q6, .ref q13, .ref q20, .null, .int 0, .null, .null, .int 0, .null, .null, .int 0, .null, .null, .null, .null, .int 0, .int 0, .null, .null, .null, .null, .null, .int 0, .null, .int 0])), (q6, .inl (Z 0, 5, .inl (fun _ => 0))), (q13, .inl (Z 0, 5, .inl (fun _ => 0))), (q20, .inl (Z 0, 5, .inl (fun _ => 0)))]) hC hK hnm hT fi_X6 tyX6_ok nmX6 rfl rfl (by decide) rfl rfl rfl rfl rfl rfl (Nat.le_of_ble_eq_true rfl) rfl wq_1238 dX6_init_22 (fun H locs hT => ?_)
  refine lv_aload_n hx hb dX6_init_25 rfl (lv_at hl 0 rfl) ?_
  refine lv_bipush (v := 60) hx hb dX6_init_26 (by decide) ?_
  refine w_newI (N := 60) hC hK hT wq_297 (by decide) (by decide) (by decide) (Nat.le_of_ble_eq_true rfl) (Nat.le_of_ble_eq_true rfl) dX6_init_28 (fun q28 H hT => ?_)
  refine W.widen (k := 4) (n := 75) (Nat.le_of_ble_eq_true rfl) (Nat.le_of_ble_eq_true rfl) ?_
  have hT : TS vwCl D [(h0, .inr (6, [.int 0, .int 0, .ref q6, .ref q13, .ref q20, .null, .int 0, .null, .null, .int 0, .null, .null, .int 0, .null, .null, .null, .null, .int 0, .int 0, .null, .null, .null, .null, .null, .int 0, .null, .int 0])), (q6, .inl (Z 0, 5, .inl (fun _ => 0))), (q13, .inl (Z 0, 5, .inl (fun _ => 0))), (q20, .inl (Z 0, 5, .inl (fun _ => 0))), (q28, .inl (Z 0, 60, .inl (fun _ => 0)))] A s.heap H locs := hT
  refine w_putF (C := RX6) (T := TX6) (N := 27) (ci := 6) (q0 := 0) (k := 5) (ty0 := tyX6) (ty := .array .int) (ws' := [(h0, .inr (6, [.int 0, .int 0, .ref q6, .ref q13, .ref q20, .ref q28, .int 0, .null, .null, .int 0, .null, .null, .int 0, .null, .null, .null, .null, .int 0, .int 0, .null, .null, .null, .null, .null, .int 0, .null, .int 0])), (q6, .inl (Z 0, 5, .inl (fun _ => 0))), (q13, .inl (Z 0, 5, .inl (fun _ => 0))), (q20, .inl (Z 0, 5, .inl (fun _ => 0))), (q28, .inl (Z 0, 60, .inl (fun _ => 0)))]) hC hK hnm hT fi_X6 tyX6_ok nmX6 rfl rfl (by decide) rfl rfl rfl rfl rfl rfl (Nat.le_of_ble_eq_true rfl) rfl wq_1240 dX6_init_30 (fun H locs hT => ?_)
  refine lv_aload_n hx hb dX6_init_33 rfl (lv_at hl 0 rfl) ?_
  refine lv_iconst (v := 4) hx hb dX6_init_34 (by decide) ?_
  refine w_newI (N := 4) hC hK hT wq_297 (by decide) (by decide) (by decide) (Nat.le_of_ble_eq_true rfl) (Nat.le_of_ble_eq_true rfl) dX6_init_35 (fun q35 H hT => ?_)
  refine W.widen (k := 5) (n := 79) (Nat.le_of_ble_eq_true rfl) (Nat.le_of_ble_eq_true rfl) ?_
  have hT : TS vwCl D [(h0, .inr (6, [.int 0, .int 0, .ref q6, .ref q13, .ref q20, .ref q28, .int 0, .null, .null, .int 0, .null, .null, .int 0, .null, .null, .null, .null, .int 0, .int 0, .null, .null, .null, .null, .null, .int 0, .null, .int 0])), (q6, .inl (Z 0, 5, .inl (fun _ => 0))), (q13, .inl (Z 0, 5, .inl (fun _ => 0))), (q20, .inl (Z 0, 5, .inl (fun _ => 0))), (q28, .inl (Z 0, 60, .inl (fun _ => 0))), (q35, .inl (Z 0, 4, .inl (fun _ => 0)))] A s.heap H locs := hT
  refine w_putF (C := RX6) (T := TX6) (N := 27) (ci := 6) (q0 := 0) (k := 7) (ty0 := tyX6) (ty := .array .int) (ws' := [(h0, .inr (6, [.int 0, .int 0, .ref q6, .ref q13, .ref q20, .ref q28, .int 0, .ref q35, .null, .int 0, .null, .null, .int 0, .null, .null, .null, .null, .int 0, .int 0, .null, .null, .null, .null, .null, .int 0, .null, .int 0])), (q6, .inl (Z 0, 5, .inl (fun _ => 0))), (q13, .inl (Z 0, 5, .inl (fun _ => 0))), (q20, .inl (Z 0, 5, .inl (fun _ => 0))), (q28, .inl (Z 0, 60, .inl (fun _ => 0))), (q35, .inl (Z 0, 4, .inl (fun _ => 0)))]) hC hK hnm hT fi_X6 tyX6_ok nmX6 rfl rfl (by decide) rfl rfl rfl rfl rfl rfl (Nat.le_of_ble_eq_true rfl) rfl wq_1245 dX6_init_37 (fun H locs hT => ?_)
  refine lv_aload_n hx hb dX6_init_40 rfl (lv_at hl 0 rfl) ?_
  refine lv_iconst (v := 4) hx hb dX6_init_41 (by decide) ?_
  refine w_newI (N := 4) hC hK hT wq_297 (by decide) (by decide) (by decide) (Nat.le_of_ble_eq_true rfl) (Nat.le_of_ble_eq_true rfl) dX6_init_42 (fun q42 H hT => ?_)
  refine W.widen (k := 6) (n := 83) (Nat.le_of_ble_eq_true rfl) (Nat.le_of_ble_eq_true rfl) ?_
  have hT : TS vwCl D [(h0, .inr (6, [.int 0, .int 0, .ref q6, .ref q13, .ref q20, .ref q28, .int 0, .ref q35, .null, .int 0, .null, .null, .int 0, .null, .null, .null, .null, .int 0, .int 0, .null, .null, .null, .null, .null, .int 0, .null, .int 0])), (q6, .inl (Z 0, 5, .inl (fun _ => 0))), (q13, .inl (Z 0, 5, .inl (fun _ => 0))), (q20, .inl (Z 0, 5, .inl (fun _ => 0))), (q28, .inl (Z 0, 60, .inl (fun _ => 0))), (q35, .inl (Z 0, 4, .inl (fun _ => 0))), (q42, .inl (Z 0, 4, .inl (fun _ => 0)))] A s.heap H locs := hT
  refine w_putF (C := RX6) (T := TX6) (N := 27) (ci := 6) (q0 := 0) (k := 8) (ty0 := tyX6) (ty := .array .int) (ws' := [(h0, .inr (6, [.int 0, .int 0, .ref q6, .ref q13, .ref q20, .ref q28, .int 0, .ref q35, .ref q42, .int 0, .null, .null, .int 0, .null, .null, .null, .null, .int 0, .int 0, .null, .null, .null, .null, .null, .int 0, .null, .int 0])), (q6, .inl (Z 0, 5, .inl (fun _ => 0))), (q13, .inl (Z 0, 5, .inl (fun _ => 0))), (q20, .inl (Z 0, 5, .inl (fun _ => 0))), (q28, .inl (Z 0, 60, .inl (fun _ => 0))), (q35, .inl (Z 0, 4, .inl (fun _ => 0))), (q42, .inl (Z 0, 4, .inl (fun _ => 0)))]) hC hK hnm hT fi_X6 tyX6_ok nmX6 rfl rfl (by decide) rfl rfl rfl rfl rfl rfl (Nat.le_of_ble_eq_true rfl) rfl wq_1248 dX6_init_44 (fun H locs hT => ?_)
  refine lv_aload_n hx hb dX6_init_47 rfl (lv_at hl 0 rfl) ?_
  refine lv_bipush (v := 6) hx hb dX6_init_48 (by decide) ?_
  refine w_newI (N := 6) hC hK hT wq_297 (by decide) (by decide) (by decide) (Nat.le_of_ble_eq_true rfl) (Nat.le_of_ble_eq_true rfl) dX6_init_50 (fun q50 H hT => ?_)
  refine W.widen (k := 7) (n := 89) (Nat.le_of_ble_eq_true rfl) (Nat.le_of_ble_eq_true rfl) ?_
  have hT : TS vwCl D [(h0, .inr (6, [.int 0, .int 0, .ref q6, .ref q13, .ref q20, .ref q28, .int 0, .ref q35, .ref q42, .int 0, .null, .null, .int 0, .null, .null, .null, .null, .int 0, .int 0, .null, .null, .null, .null, .null, .int 0, .null, .int 0])), (q6, .inl (Z 0, 5, .inl (fun _ => 0))), (q13, .inl (Z 0, 5, .inl (fun _ => 0))), (q20, .inl (Z 0, 5, .inl (fun _ => 0))), (q28, .inl (Z 0, 60, .inl (fun _ => 0))), (q35, .inl (Z 0, 4, .inl (fun _ => 0))), (q42, .inl (Z 0, 4, .inl (fun _ => 0))), (q50, .inl (Z 0, 6, .inl (fun _ => 0)))] A s.heap H locs := hT
  refine w_putF (C := RX6) (T := TX6) (N := 27) (ci := 6) (q0 := 0) (k := 10) (ty0 := tyX6) (ty := .array .int) (ws' := [(h0, .inr (6, [.int 0, .int 0, .ref q6, .ref q13, .ref q20, .ref q28, .int 0, .ref q35, .ref q42, .int 0, .ref q50, .null, .int 0, .null, .null, .null, .null, .int 0, .int 0, .null, .null, .null, .null, .null, .int 0, .null, .int 0])), (q6, .inl (Z 0, 5, .inl (fun _ => 0))), (q13, .inl (Z 0, 5, .inl (fun _ => 0))), (q20, .inl (Z 0, 5, .inl (fun _ => 0))), (q28, .inl (Z 0, 60, .inl (fun _ => 0))), (q35, .inl (Z 0, 4, .inl (fun _ => 0))), (q42, .inl (Z 0, 4, .inl (fun _ => 0))), (q50, .inl (Z 0, 6, .inl (fun _ => 0)))]) hC hK hnm hT fi_X6 tyX6_ok nmX6 rfl rfl (by decide) rfl rfl rfl rfl rfl rfl (Nat.le_of_ble_eq_true rfl) rfl wq_1253 dX6_init_52 (fun H locs hT => ?_)
  refine lv_aload_n hx hb dX6_init_55 rfl (lv_at hl 0 rfl) ?_
  refine lv_bipush (v := 6) hx hb dX6_init_56 (by decide) ?_
  refine w_newI (N := 6) hC hK hT wq_297 (by decide) (by decide) (by decide) (Nat.le_of_ble_eq_true rfl) (Nat.le_of_ble_eq_true rfl) dX6_init_58 (fun q58 H hT => ?_)
  refine W.widen (k := 8) (n := 95) (Nat.le_of_ble_eq_true rfl) (Nat.le_of_ble_eq_true rfl) ?_
  have hT : TS vwCl D [(h0, .inr (6, [.int 0, .int 0, .ref q6, .ref q13, .ref q20, .ref q28, .int 0, .ref q35, .ref q42, .int 0, .ref q50, .null, .int 0, .null, .null, .null, .null, .int 0, .int 0, .null, .null, .null, .null, .null, .int 0, .null, .int 0])), (q6, .inl (Z 0, 5, .inl (fun _ => 0))), (q13, .inl (Z 0, 5, .inl (fun _ => 0))), (q20, .inl (Z 0, 5, .inl (fun _ => 0))), (q28, .inl (Z 0, 60, .inl (fun _ => 0))), (q35, .inl (Z 0, 4, .inl (fun _ => 0))), (q42, .inl (Z 0, 4, .inl (fun _ => 0))), (q50, .inl (Z 0, 6, .inl (fun _ => 0))), (q58, .inl (Z 0, 6, .inl (fun _ => 0)))] A s.heap H locs := hT
  refine w_putF (C := RX6) (T := TX6) (N := 27) (ci := 6) (q0 := 0) (k := 11) (ty0 := tyX6) (ty := .array .int) (ws' := [(h0, .inr (6, [.int 0, .int 0, .ref q6, .ref q13, .ref q20, .ref q28, .int 0, .ref q35, .ref q42, .int 0, .ref q50, .ref q58, .int 0, .null, .null, .null, .null, .int 0, .int 0, .null, .null, .null, .null, .null, .int 0, .null, .int 0])), (q6, .inl (Z 0, 5, .inl (fun _ => 0))), (q13, .inl (Z 0, 5, .inl (fun _ => 0))), (q20, .inl (Z 0, 5, .inl (fun _ => 0))), (q28, .inl (Z 0, 60, .inl (fun _ => 0))), (q35, .inl (Z 0, 4, .inl (fun _ => 0))), (q42, .inl (Z 0, 4, .inl (fun _ => 0))), (q50, .inl (Z 0, 6, .inl (fun _ => 0))), (q58, .inl (Z 0, 6, .inl (fun _ => 0)))]) hC hK hnm hT fi_X6 tyX6_ok nmX6 rfl rfl (by decide) rfl rfl rfl rfl rfl rfl (Nat.le_of_ble_eq_true rfl) rfl wq_1256 dX6_init_60 (fun H locs hT => ?_)
  refine lv_aload_n hx hb dX6_init_63 rfl (lv_at hl 0 rfl) ?_
  refine lv_bipush (v := 8) hx hb dX6_init_64 (by decide) ?_
  refine w_newI (N := 8) hC hK hT wq_297 (by decide) (by decide) (by decide) (Nat.le_of_ble_eq_true rfl) (Nat.le_of_ble_eq_true rfl) dX6_init_66 (fun q66 H hT => ?_)
  refine W.widen (k := 9) (n := 103) (Nat.le_of_ble_eq_true rfl) (Nat.le_of_ble_eq_true rfl) ?_
  have hT : TS vwCl D [(h0, .inr (6, [.int 0, .int 0, .ref q6, .ref q13, .ref q20, .ref q28, .int 0, .ref q35, .ref q42, .int 0, .ref q50, .ref q58, .int 0, .null, .null, .null, .null, .int 0, .int 0, .null, .null, .null, .null, .null, .int 0, .null, .int 0])), (q6, .inl (Z 0, 5, .inl (fun _ => 0))), (q13, .inl (Z 0, 5, .inl (fun _ => 0))), (q20, .inl (Z 0, 5, .inl (fun _ => 0))), (q28, .inl (Z 0, 60, .inl (fun _ => 0))), (q35, .inl (Z 0, 4, .inl (fun _ => 0))), (q42, .inl (Z 0, 4, .inl (fun _ => 0))), (q50, .inl (Z 0, 6, .inl (fun _ => 0))), (q58, .inl (Z 0, 6, .inl (fun _ => 0))), (q66, .inl (Z 0, 8, .inl (fun _ => 0)))] A s.heap H locs := hT
  refine w_putF (C := RX6) (T := TX6) (N := 27) (ci := 6) (q0 := 0) (k := 13) (ty0 := tyX6) (ty := .array .int) (ws' := [(h0, .inr (6, [.int 0, .int 0, .ref q6, .ref q13, .ref q20, .ref q28, .int 0, .ref q35, .ref q42, .int 0, .ref q50, .ref q58, .int 0, .ref q66, .null, .null, .null, .int 0, .int 0, .null, .null, .null, .null, .null, .int 0, .null, .int 0])), (q6, .inl (Z 0, 5, .inl (fun _ => 0))), (q13, .inl (Z 0, 5, .inl (fun _ => 0))), (q20, .inl (Z 0, 5, .inl (fun _ => 0))), (q28, .inl (Z 0, 60, .inl (fun _ => 0))), (q35, .inl (Z 0, 4, .inl (fun _ => 0))), (q42, .inl (Z 0, 4, .inl (fun _ => 0))), (q50, .inl (Z 0, 6, .inl (fun _ => 0))), (q58, .inl (Z 0, 6, .inl (fun _ => 0))), (q66, .inl (Z 0, 8, .inl (fun _ => 0)))]) hC hK hnm hT fi_X6 tyX6_ok nmX6 rfl rfl (by decide) rfl rfl rfl rfl rfl rfl (Nat.le_of_ble_eq_true rfl) rfl wq_1261 dX6_init_68 (fun H locs hT => ?_)
  refine lv_aload_n hx hb dX6_init_71 rfl (lv_at hl 0 rfl) ?_
  refine lv_bipush (v := 8) hx hb dX6_init_72 (by decide) ?_
  refine w_newI (N := 8) hC hK hT wq_297 (by decide) (by decide) (by decide) (Nat.le_of_ble_eq_true rfl) (Nat.le_of_ble_eq_true rfl) dX6_init_74 (fun q74 H hT => ?_)
  refine W.widen (k := 10) (n := 111) (Nat.le_of_ble_eq_true rfl) (Nat.le_of_ble_eq_true rfl) ?_
  have hT : TS vwCl D [(h0, .inr (6, [.int 0, .int 0, .ref q6, .ref q13, .ref q20, .ref q28, .int 0, .ref q35, .ref q42, .int 0, .ref q50, .ref q58, .int 0, .ref q66, .null, .null, .null, .int 0, .int 0, .null, .null, .null, .null, .null, .int 0, .null, .int 0])), (q6, .inl (Z 0, 5, .inl (fun _ => 0))), (q13, .inl (Z 0, 5, .inl (fun _ => 0))), (q20, .inl (Z 0, 5, .inl (fun _ => 0))), (q28, .inl (Z 0, 60, .inl (fun _ => 0))), (q35, .inl (Z 0, 4, .inl (fun _ => 0))), (q42, .inl (Z 0, 4, .inl (fun _ => 0))), (q50, .inl (Z 0, 6, .inl (fun _ => 0))), (q58, .inl (Z 0, 6, .inl (fun _ => 0))), (q66, .inl (Z 0, 8, .inl (fun _ => 0))), (q74, .inl (Z 0, 8, .inl (fun _ => 0)))] A s.heap H locs := hT
  refine w_putF (C := RX6) (T := TX6) (N := 27) (ci := 6) (q0 := 0) (k := 14) (ty0 := tyX6) (ty := .array .int) (ws' := [(h0, .inr (6, [.int 0, .int 0, .ref q6, .ref q13, .ref q20, .ref q28, .int 0, .ref q35, .ref q42, .int 0, .ref q50, .ref q58, .int 0, .ref q66, .ref q74, .null, .null, .int 0, .int 0, .null, .null, .null, .null, .null, .int 0, .null, .int 0])), (q6, .inl (Z 0, 5, .inl (fun _ => 0))), (q13, .inl (Z 0, 5, .inl (fun _ => 0))), (q20, .inl (Z 0, 5, .inl (fun _ => 0))), (q28, .inl (Z 0, 60, .inl (fun _ => 0))), (q35, .inl (Z 0, 4, .inl (fun _ => 0))), (q42, .inl (Z 0, 4, .inl (fun _ => 0))), (q50, .inl (Z 0, 6, .inl (fun _ => 0))), (q58, .inl (Z 0, 6, .inl (fun _ => 0))), (q66, .inl (Z 0, 8, .inl (fun _ => 0))), (q74, .inl (Z 0, 8, .inl (fun _ => 0)))]) hC hK hnm hT fi_X6 tyX6_ok nmX6 rfl rfl (by decide) rfl rfl rfl rfl rfl rfl (Nat.le_of_ble_eq_true rfl) rfl wq_1264 dX6_init_76 (fun H locs hT => ?_)
  refine lv_aload_n hx hb dX6_init_79 rfl (lv_at hl 0 rfl) ?_
  refine lv_bipush (v := 8) hx hb dX6_init_80 (by decide) ?_
  refine w_newI (N := 8) hC hK hT wq_297 (by decide) (by decide) (by decide) (Nat.le_of_ble_eq_true rfl) (Nat.le_of_ble_eq_true rfl) dX6_init_82 (fun q82 H hT => ?_)
  refine W.widen (k := 11) (n := 119) (Nat.le_of_ble_eq_true rfl) (Nat.le_of_ble_eq_true rfl) ?_
  have hT : TS vwCl D [(h0, .inr (6, [.int 0, .int 0, .ref q6, .ref q13, .ref q20, .ref q28, .int 0, .ref q35, .ref q42, .int 0, .ref q50, .ref q58, .int 0, .ref q66, .ref q74, .null, .null, .int 0, .int 0, .null, .null, .null, .null, .null, .int 0, .null, .int 0])), (q6, .inl (Z 0, 5, .inl (fun _ => 0))), (q13, .inl (Z 0, 5, .inl (fun _ => 0))), (q20, .inl (Z 0, 5, .inl (fun _ => 0))), (q28, .inl (Z 0, 60, .inl (fun _ => 0))), (q35, .inl (Z 0, 4, .inl (fun _ => 0))), (q42, .inl (Z 0, 4, .inl (fun _ => 0))), (q50, .inl (Z 0, 6, .inl (fun _ => 0))), (q58, .inl (Z 0, 6, .inl (fun _ => 0))), (q66, .inl (Z 0, 8, .inl (fun _ => 0))), (q74, .inl (Z 0, 8, .inl (fun _ => 0))), (q82, .inl (Z 0, 8, .inl (fun _ => 0)))] A s.heap H locs := hT
  refine w_putF (C := RX6) (T := TX6) (N := 27) (ci := 6) (q0 := 0) (k := 15) (ty0 := tyX6) (ty := .array .int) (ws' := [(h0, .inr (6, [.int 0, .int 0, .ref q6, .ref q13, .ref q20, .ref q28, .int 0, .ref q35, .ref q42, .int 0, .ref q50, .ref q58, .int 0, .ref q66, .ref q74, .ref q82, .null, .int 0, .int 0, .null, .null, .null, .null, .null, .int 0, .null, .int 0])), (q6, .inl (Z 0, 5, .inl (fun _ => 0))), (q13, .inl (Z 0, 5, .inl (fun _ => 0))), (q20, .inl (Z 0, 5, .inl (fun _ => 0))), (q28, .inl (Z 0, 60, .inl (fun _ => 0))), (q35, .inl (Z 0, 4, .inl (fun _ => 0))), (q42, .inl (Z 0, 4, .inl (fun _ => 0))), (q50, .inl (Z 0, 6, .inl (fun _ => 0))), (q58, .inl (Z 0, 6, .inl (fun _ => 0))), (q66, .inl (Z 0, 8, .inl (fun _ => 0))), (q74, .inl (Z 0, 8, .inl (fun _ => 0))), (q82, .inl (Z 0, 8, .inl (fun _ => 0)))]) hC hK hnm hT fi_X6 tyX6_ok nmX6 rfl rfl (by decide) rfl rfl rfl rfl rfl rfl (Nat.le_of_ble_eq_true rfl) rfl wq_1267 dX6_init_84 (fun H locs hT => ?_)
  refine lv_aload_n hx hb dX6_init_87 rfl (lv_at hl 0 rfl) ?_
  refine lv_bipush (v := 8) hx hb dX6_init_88 (by decide) ?_
  refine lv_iconst (v := 2) hx hb dX6_init_90 (by decide) ?_
  refine w_multi hC hK hT wq_1228 hN wn_1229 wq_297 (Nat.le_of_ble_eq_true rfl) (Nat.le_of_ble_eq_true rfl) dX6_init_91 (fun q91 H hT => ?_)
  refine W.widen (k := 20) (n := 143) (Nat.le_of_ble_eq_true rfl) (Nat.le_of_ble_eq_true rfl) ?_
  have hT : TS vwCl D [(h0, .inr (6, [.int 0, .int 0, .ref q6, .ref q13, .ref q20, .ref q28, .int 0, .ref q35, .ref q42, .int 0, .ref q50, .ref q58, .int 0, .ref q66, .ref q74, .ref q82, .null, .int 0, .int 0, .null, .null, .null, .null, .null, .int 0, .null, .int 0])), (q6, .inl (Z 0, 5, .inl (fun _ => 0))), (q13, .inl (Z 0, 5, .inl (fun _ => 0))), (q20, .inl (Z 0, 5, .inl (fun _ => 0))), (q28, .inl (Z 0, 60, .inl (fun _ => 0))), (q35, .inl (Z 0, 4, .inl (fun _ => 0))), (q42, .inl (Z 0, 4, .inl (fun _ => 0))), (q50, .inl (Z 0, 6, .inl (fun _ => 0))), (q58, .inl (Z 0, 6, .inl (fun _ => 0))), (q66, .inl (Z 0, 8, .inl (fun _ => 0))), (q74, .inl (Z 0, 8, .inl (fun _ => 0))), (q82, .inl (Z 0, 8, .inl (fun _ => 0))), (q91, .inl (Z 3, 8, .inr (.inr (.inr (.inr (fun j => if j < 8 then some (q91 + 1 + j) else none)))))), (q91 + 1, .inl (Z 0, 2, .inl (fun _ => 0))), (q91 + 2, .inl (Z 0, 2, .inl (fun _ => 0))), (q91 + 3, .inl (Z 0, 2, .inl (fun _ => 0))), (q91 + 4, .inl (Z 0, 2, .inl (fun _ => 0))), (q91 + 5, .inl (Z 0, 2, .inl (fun _ => 0))), (q91 + 6, .inl (Z 0, 2, .inl (fun _ => 0))), (q91 + 7, .inl (Z 0, 2, .inl (fun _ => 0))), (q91 + 8, .inl (Z 0, 2, .inl (fun _ => 0)))] A s.heap H locs := hT
  refine w_putF (C := RX6) (T := TX6) (N := 27) (ci := 6) (q0 := 0) (k := 16) (ty0 := tyX6) (ty := .array (.array .int)) (ws' := [(h0, .inr (6, [.int 0, .int 0, .ref q6, .ref q13, .ref q20, .ref q28, .int 0, .ref q35, .ref q42, .int 0, .ref q50, .ref q58, .int 0, .ref q66, .ref q74, .ref q82, .ref q91, .int 0, .int 0, .null, .null, .null, .null, .null, .int 0, .null, .int 0])), (q6, .inl (Z 0, 5, .inl (fun _ => 0))), (q13, .inl (Z 0, 5, .inl (fun _ => 0))), (q20, .inl (Z 0, 5, .inl (fun _ => 0))), (q28, .inl (Z 0, 60, .inl (fun _ => 0))), (q35, .inl (Z 0, 4, .inl (fun _ => 0))), (q42, .inl (Z 0, 4, .inl (fun _ => 0))), (q50, .inl (Z 0, 6, .inl (fun _ => 0))), (q58, .inl (Z 0, 6, .inl (fun _ => 0))), (q66, .inl (Z 0, 8, .inl (fun _ => 0))), (q74, .inl (Z 0, 8, .inl (fun _ => 0))), (q82, .inl (Z 0, 8, .inl (fun _ => 0))), (q91, .inl (Z 3, 8, .inr (.inr (.inr (.inr (fun j => if j < 8 then some (q91 + 1 + j) else none)))))), (q91 + 1, .inl (Z 0, 2, .inl (fun _ => 0))), (q91 + 2, .inl (Z 0, 2, .inl (fun _ => 0))), (q91 + 3, .inl (Z 0, 2, .inl (fun _ => 0))), (q91 + 4, .inl (Z 0, 2, .inl (fun _ => 0))), (q91 + 5, .inl (Z 0, 2, .inl (fun _ => 0))), (q91 + 6, .inl (Z 0, 2, .inl (fun _ => 0))), (q91 + 7, .inl (Z 0, 2, .inl (fun _ => 0))), (q91 + 8, .inl (Z 0, 2, .inl (fun _ => 0)))]) hC hK hnm hT fi_X6 tyX6_ok nmX6 rfl rfl (by decide) rfl rfl rfl rfl rfl rfl (Nat.le_of_ble_eq_true rfl) rfl wq_1270 dX6_init_95 (fun H locs hT => ?_)
  refine lv_aload_n hx hb dX6_init_98 rfl (lv_at hl 0 rfl) ?_
  refine lv_bipush (v := 16) hx hb dX6_init_99 (by decide) ?_
  refine w_newI (N := 16) hC hK hT wq_297 (by decide) (by decide) (by decide) (Nat.le_of_ble_eq_true rfl) (Nat.le_of_ble_eq_true rfl) dX6_init_101 (fun q101 H hT => ?_)
  refine W.widen (k := 21) (n := 159) (Nat.le_of_ble_eq_true rfl) (Nat.le_of_ble_eq_true rfl) ?_
  have hT : TS vwCl D [(h0, .inr (6, [.int 0, .int 0, .ref q6, .ref q13, .ref q20, .ref q28, .int 0, .ref q35, .ref q42, .int 0, .ref q50, .ref q58, .int 0, .ref q66, .ref q74, .ref q82, .ref q91, .int 0, .int 0, .null, .null, .null, .null, .null, .int 0, .null, .int 0])), (q6, .inl (Z 0, 5, .inl (fun _ => 0))), (q13, .inl (Z 0, 5, .inl (fun _ => 0))), (q20, .inl (Z 0, 5, .inl (fun _ => 0))), (q28, .inl (Z 0, 60, .inl (fun _ => 0))), (q35, .inl (Z 0, 4, .inl (fun _ => 0))), (q42, .inl (Z 0, 4, .inl (fun _ => 0))), (q50, .inl (Z 0, 6, .inl (fun _ => 0))), (q58, .inl (Z 0, 6, .inl (fun _ => 0))), (q66, .inl (Z 0, 8, .inl (fun _ => 0))), (q74, .inl (Z 0, 8, .inl (fun _ => 0))), (q82, .inl (Z 0, 8, .inl (fun _ => 0))), (q91, .inl (Z 3, 8, .inr (.inr (.inr (.inr (fun j => if j < 8 then some (q91 + 1 + j) else none)))))), (q91 + 1, .inl (Z 0, 2, .inl (fun _ => 0))), (q91 + 2, .inl (Z 0, 2, .inl (fun _ => 0))), (q91 + 3, .inl (Z 0, 2, .inl (fun _ => 0))), (q91 + 4, .inl (Z 0, 2, .inl (fun _ => 0))), (q91 + 5, .inl (Z 0, 2, .inl (fun _ => 0))), (q91 + 6, .inl (Z 0, 2, .inl (fun _ => 0))), (q91 + 7, .inl (Z 0, 2, .inl (fun _ => 0))), (q91 + 8, .inl (Z 0, 2, .inl (fun _ => 0))), (q101, .inl (Z 0, 16, .inl (fun _ => 0)))] A s.heap H locs := hT
  refine w_putF (C := RX6) (T := TX6) (N := 27) (ci := 6) (q0 := 0) (k := 19) (ty0 := tyX6) (ty := .array .int) (ws' := [(h0, .inr (6, [.int 0, .int 0, .ref q6, .ref q13, .ref q20, .ref q28, .int 0, .ref q35, .ref q42, .int 0, .ref q50, .ref q58, .int 0, .ref q66, .ref q74, .ref q82, .ref q91, .int 0, .int 0, .ref q101, .null, .null, .null, .null, .int 0, .null, .int 0])), (q6, .inl (Z 0, 5, .inl (fun _ => 0))), (q13, .inl (Z 0, 5, .inl (fun _ => 0))), (q20, .inl (Z 0, 5, .inl (fun _ => 0))), (q28, .inl (Z 0, 60, .inl (fun _ => 0))), (q35, .inl (Z 0, 4, .inl (fun _ => 0))), (q42, .inl (Z 0, 4, .inl (fun _ => 0))), (q50, .inl (Z 0, 6, .inl (fun _ => 0))), (q58, .inl (Z 0, 6, .inl (fun _ => 0))), (q66, .inl (Z 0, 8, .inl (fun _ => 0))), (q74, .inl (Z 0, 8, .inl (fun _ => 0))), (q82, .inl (Z 0, 8, .inl (fun _ => 0))), (q91, .inl (Z 3, 8, .inr (.inr (.inr (.inr (fun j => if j < 8 then some (q91 + 1 + j) else none)))))), (q91 + 1, .inl (Z 0, 2, .inl (fun _ => 0))), (q91 + 2, .inl (Z 0, 2, .inl (fun _ => 0))), (q91 + 3, .inl (Z 0, 2, .inl (fun _ => 0))), (q91 + 4, .inl (Z 0, 2, .inl (fun _ => 0))), (q91 + 5, .inl (Z 0, 2, .inl (fun _ => 0))), (q91 + 6, .inl (Z 0, 2, .inl (fun _ => 0))), (q91 + 7, .inl (Z 0, 2, .inl (fun _ => 0))), (q91 + 8, .inl (Z 0, 2, .inl (fun _ => 0))), (q101, .inl (Z 0, 16, .inl (fun _ => 0)))]) hC hK hnm hT fi_X6 tyX6_ok nmX6 rfl rfl (by decide) rfl rfl rfl rfl rfl rfl (Nat.le_of_ble_eq_true rfl) rfl wq_1276 dX6_init_103 (fun H locs hT => ?_)
  refine lv_aload_n hx hb dX6_init_106 rfl (lv_at hl 0 rfl) ?_
  refine lv_bipush (v := 16) hx hb dX6_init_107 (by decide) ?_
  refine w_newI (N := 16) hC hK hT wq_297 (by decide) (by decide) (by decide) (Nat.le_of_ble_eq_true rfl) (Nat.le_of_ble_eq_true rfl) dX6_init_109 (fun q109 H hT => ?_)
  refine W.widen (k := 22) (n := 175) (Nat.le_of_ble_eq_true rfl) (Nat.le_of_ble_eq_true rfl) ?_
  have hT : TS vwCl D [(h0, .inr (6, [.int 0, .int 0, .ref q6, .ref q13, .ref q20, .ref q28, .int 0, .ref q35, .ref q42, .int 0, .ref q50, .ref q58, .int 0, .ref q66, .ref q74, .ref q82, .ref q91, .int 0, .int 0, .ref q101, .null, .null, .null, .null, .int 0, .null, .int 0])), (q6, .inl (Z 0, 5, .inl (fun _ => 0))), (q13, .inl (Z 0, 5, .inl (fun _ => 0))), (q20, .inl (Z 0, 5, .inl (fun _ => 0))), (q28, .inl (Z 0, 60, .inl (fun _ => 0))), (q35, .inl (Z 0, 4, .inl (fun _ => 0))), (q42, .inl (Z 0, 4, .inl (fun _ => 0))), (q50, .inl (Z 0, 6, .inl (fun _ => 0))), (q58, .inl (Z 0, 6, .inl (fun _ => 0))), (q66, .inl (Z 0, 8, .inl (fun _ => 0))), (q74, .inl (Z 0, 8, .inl (fun _ => 0))), (q82, .inl (Z 0, 8, .inl (fun _ => 0))), (q91, .inl (Z 3, 8, .inr (.inr (.inr (.inr (fun j => if j < 8 then some (q91 + 1 + j) else none)))))), (q91 + 1, .inl (Z 0, 2, .inl (fun _ => 0))), (q91 + 2, .inl (Z 0, 2, .inl (fun _ => 0))), (q91 + 3, .inl (Z 0, 2, .inl (fun _ => 0))), (q91 + 4, .inl (Z 0, 2, .inl (fun _ => 0))), (q91 + 5, .inl (Z 0, 2, .inl (fun _ => 0))), (q91 + 6, .inl (Z 0, 2, .inl (fun _ => 0))), (q91 + 7, .inl (Z 0, 2, .inl (fun _ => 0))), (q91 + 8, .inl (Z 0, 2, .inl (fun _ => 0))), (q101, .inl (Z 0, 16, .inl (fun _ => 0))), (q109, .inl (Z 0, 16, .inl (fun _ => 0)))] A s.heap H locs := hT
  refine w_putF (C := RX6) (T := TX6) (N := 27) (ci := 6) (q0 := 0) (k := 20) (ty0 := tyX6) (ty := .array .int) (ws' := [(h0, .inr (6, [.int 0, .int 0, .ref q6, .ref q13, .ref q20, .ref q28, .int 0, .ref q35, .ref q42, .int 0, .ref q50, .ref q58, .int 0, .ref q66, .ref q74, .ref q82, .ref q91, .int 0, .int 0, .ref q101, .ref q109, .null, .null, .null, .int 0, .null, .int 0])), (q6, .inl (Z 0, 5, .inl (fun _ => 0))), (q13, .inl (Z 0, 5, .inl (fun _ => 0))), (q20, .inl (Z 0, 5, .inl (fun _ => 0))), (q28, .inl (Z 0, 60, .inl (fun _ => 0))), (q35, .inl (Z 0, 4, .inl (fun _ => 0))), (q42, .inl (Z 0, 4, .inl (fun _ => 0))), (q50, .inl (Z 0, 6, .inl (fun _ => 0))), (q58, .inl (Z 0, 6, .inl (fun _ => 0))), (q66, .inl (Z 0, 8, .inl (fun _ => 0))), (q74, .inl (Z 0, 8, .inl (fun _ => 0))), (q82, .inl (Z 0, 8, .inl (fun _ => 0))), (q91, .inl (Z 3, 8, .inr (.inr (.inr (.inr (fun j => if j < 8 then some (q91 + 1 + j) else none)))))), (q91 + 1, .inl (Z 0, 2, .inl (fun _ => 0))), (q91 + 2, .inl (Z 0, 2, .inl (fun _ => 0))), (q91 + 3, .inl (Z 0, 2, .inl (fun _ => 0))), (q91 + 4, .inl (Z 0, 2, .inl (fun _ => 0))), (q91 + 5, .inl (Z 0, 2, .inl (fun _ => 0))), (q91 + 6, .inl (Z 0, 2, .inl (fun _ => 0))), (q91 + 7, .inl (Z 0, 2, .inl (fun _ => 0))), (q91 + 8, .inl (Z 0, 2, .inl (fun _ => 0))), (q101, .inl (Z 0, 16, .inl (fun _ => 0))), (q109, .inl (Z 0, 16, .inl (fun _ => 0)))]) hC hK hnm hT fi_X6 tyX6_ok nmX6 rfl rfl (by decide) rfl rfl rfl rfl rfl rfl (Nat.le_of_ble_eq_true rfl) rfl wq_1279 dX6_init_111 (fun H locs hT => ?_)
  refine lv_aload_n hx hb dX6_init_114 rfl (lv_at hl 0 rfl) ?_
  refine lv_bipush (v := 17) hx hb dX6_init_115 (by decide) ?_
  refine w_newI (N := 17) hC hK hT wq_297 (by decide) (by decide) (by decide) (Nat.le_of_ble_eq_true rfl) (Nat.le_of_ble_eq_true rfl) dX6_init_117 (fun q117 H hT => ?_)
  refine W.widen (k := 23) (n := 192) (Nat.le_of_ble_eq_true rfl) (Nat.le_of_ble_eq_true rfl) ?_
  have hT : TS vwCl D [(h0, .inr (6, [.int 0, .int 0, .ref q6, .ref q13, .ref q20, .ref q28, .int 0, .ref q35, .ref q42, .int 0, .ref q50, .ref q58, .int 0, .ref q66, .ref q74, .ref q82, .ref q91, .int 0, .int 0, .ref q101, .ref q109, .null, .null, .null, .int 0, .null, .int 0])), (q6, .inl (Z 0, 5, .inl (fun _ => 0))), (q13, .inl (Z 0, 5, .inl (fun _ => 0))), (q20, .inl (Z 0, 5, .inl (fun _ => 0))), (q28, .inl (Z 0, 60, .inl (fun _ => 0))), (q35, .inl (Z 0, 4, .inl (fun _ => 0))), (q42, .inl (Z 0, 4, .inl (fun _ => 0))), (q50, .inl (Z 0, 6, .inl (fun _ => 0))), (q58, .inl (Z 0, 6, .inl (fun _ => 0))), (q66, .inl (Z 0, 8, .inl (fun _ => 0))), (q74, .inl (Z 0, 8, .inl (fun _ => 0))), (q82, .inl (Z 0, 8, .inl (fun _ => 0))), (q91, .inl (Z 3, 8, .inr (.inr (.inr (.inr (fun j => if j < 8 then some (q91 + 1 + j) else none)))))), (q91 + 1, .inl (Z 0, 2, .inl (fun _ => 0))), (q91 + 2, .inl (Z 0, 2, .inl (fun _ => 0))), (q91 + 3, .inl (Z 0, 2, .inl (fun _ => 0))), (q91 + 4, .inl (Z 0, 2, .inl (fun _ => 0))), (q91 + 5, .inl (Z 0, 2, .inl (fun _ => 0))), (q91 + 6, .inl (Z 0, 2, .inl (fun _ => 0))), (q91 + 7, .inl (Z 0, 2, .inl (fun _ => 0))), (q91 + 8, .inl (Z 0, 2, .inl (fun _ => 0))), (q101, .inl (Z 0, 16, .inl (fun _ => 0))), (q109, .inl (Z 0, 16, .inl (fun _ => 0))), (q117, .inl (Z 0, 17, .inl (fun _ => 0)))] A s.heap H locs := hT
  refine w_putF (C := RX6) (T := TX6) (N := 27) (ci := 6) (q0 := 0) (k := 21) (ty0 := tyX6) (ty := .array .int) (ws' := [(h0, .inr (6, [.int 0, .int 0, .ref q6, .ref q13, .ref q20, .ref q28, .int 0, .ref q35, .ref q42, .int 0, .ref q50, .ref q58, .int 0, .ref q66, .ref q74, .ref q82, .ref q91, .int 0, .int 0, .ref q101, .ref q109, .ref q117, .null, .null, .int 0, .null, .int 0])), (q6, .inl (Z 0, 5, .inl (fun _ => 0))), (q13, .inl (Z 0, 5, .inl (fun _ => 0))), (q20, .inl (Z 0, 5, .inl (fun _ => 0))), (q28, .inl (Z 0, 60, .inl (fun _ => 0))), (q35, .inl (Z 0, 4, .inl (fun _ => 0))), (q42, .inl (Z 0, 4, .inl (fun _ => 0))), (q50, .inl (Z 0, 6, .inl (fun _ => 0))), (q58, .inl (Z 0, 6, .inl (fun _ => 0))), (q66, .inl (Z 0, 8, .inl (fun _ => 0))), (q74, .inl (Z 0, 8, .inl (fun _ => 0))), (q82, .inl (Z 0, 8, .inl (fun _ => 0))), (q91, .inl (Z 3, 8, .inr (.inr (.inr (.inr (fun j => if j < 8 then some (q91 + 1 + j) else none)))))), (q91 + 1, .inl (Z 0, 2, .inl (fun _ => 0))), (q91 + 2, .inl (Z 0, 2, .inl (fun _ => 0))), (q91 + 3, .inl (Z 0, 2, .inl (fun _ => 0))), (q91 + 4, .inl (Z 0, 2, .inl (fun _ => 0))), (q91 + 5, .inl (Z 0, 2, .inl (fun _ => 0))), (q91 + 6, .inl (Z 0, 2, .inl (fun _ => 0))), (q91 + 7, .inl (Z 0, 2, .inl (fun _ => 0))), (q91 + 8, .inl (Z 0, 2, .inl (fun _ => 0))), (q101, .inl (Z 0, 16, .inl (fun _ => 0))), (q109, .inl (Z 0, 16, .inl (fun _ => 0))), (q117, .inl (Z 0, 17, .inl (fun _ => 0)))]) hC hK hnm hT fi_X6 tyX6_ok nmX6 rfl rfl (by decide) rfl rfl rfl rfl rfl rfl (Nat.le_of_ble_eq_true rfl) rfl wq_1282 dX6_init_119 (fun H locs hT => ?_)
  refine lv_aload_n hx hb dX6_init_122 rfl (lv_at hl 0 rfl) ?_
  refine lv_bipush (v := 17) hx hb dX6_init_123 (by decide) ?_
  refine w_newI (N := 17) hC hK hT wq_297 (by decide) (by decide) (by decide) (Nat.le_of_ble_eq_true rfl) (Nat.le_of_ble_eq_true rfl) dX6_init_125 (fun q125 H hT => ?_)
  refine W.widen (k := 24) (n := 209) (Nat.le_of_ble_eq_true rfl) (Nat.le_of_ble_eq_true rfl) ?_
  have hT : TS vwCl D [(h0, .inr (6, [.int 0, .int 0, .ref q6, .ref q13, .ref q20, .ref q28, .int 0, .ref q35, .ref q42, .int 0, .ref q50, .ref q58, .int 0, .ref q66, .ref q74, .ref q82, .ref q91, .int 0, .int 0, .ref q101, .ref q109, .ref q117, .null, .null, .int 0, .null, .int 0])), (q6, .inl (Z 0, 5, .inl (fun _ => 0))), (q13, .inl (Z 0, 5, .inl (fun _ => 0))), (q20, .inl (Z 0, 5, .inl (fun _ => 0))), (q28, .inl (Z 0, 60, .inl (fun _ => 0))), (q35, .inl (Z 0, 4, .inl (fun _ => 0))), (q42, .inl (Z 0, 4, .inl (fun _ => 0))), (q50, .inl (Z 0, 6, .inl (fun _ => 0))), (q58, .inl (Z 0, 6, .inl (fun _ => 0))), (q66, .inl (Z 0, 8, .inl (fun _ => 0))), (q74, .inl (Z 0, 8, .inl (fun _ => 0))), (q82, .inl (Z 0, 8, .inl (fun _ => 0))), (q91, .inl (Z 3, 8, .inr (.inr (.inr (.inr (fun j => if j < 8 then some (q91 + 1 + j) else none)))))), (q91 + 1, .inl (Z 0, 2, .inl (fun _ => 0))), (q91 + 2, .inl (Z 0, 2, .inl (fun _ => 0))), (q91 + 3, .inl (Z 0, 2, .inl (fun _ => 0))), (q91 + 4, .inl (Z 0, 2, .inl (fun _ => 0))), (q91 + 5, .inl (Z 0, 2, .inl (fun _ => 0))), (q91 + 6, .inl (Z 0, 2, .inl (fun _ => 0))), (q91 + 7, .inl (Z 0, 2, .inl (fun _ => 0))), (q91 + 8, .inl (Z 0, 2, .inl (fun _ => 0))), (q101, .inl (Z 0, 16, .inl (fun _ => 0))), (q109, .inl (Z 0, 16, .inl (fun _ => 0))), (q117, .inl (Z 0, 17, .inl (fun _ => 0))), (q125, .inl (Z 0, 17, .inl (fun _ => 0)))] A s.heap H locs := hT
  refine w_putF (C := RX6) (T := TX6) (N := 27) (ci := 6) (q0 := 0) (k := 22) (ty0 := tyX6) (ty := .array .int) (ws' := [(h0, .inr (6, [.int 0, .int 0, .ref q6, .ref q13, .ref q20, .ref q28, .int 0, .ref q35, .ref q42, .int 0, .ref q50, .ref q58, .int 0, .ref q66, .ref q74, .ref q82, .ref q91, .int 0, .int 0, .ref q101, .ref q109, .ref q117, .ref q125, .null, .int 0, .null, .int 0])), (q6, .inl (Z 0, 5, .inl (fun _ => 0))), (q13, .inl (Z 0, 5, .inl (fun _ => 0))), (q20, .inl (Z 0, 5, .inl (fun _ => 0))), (q28, .inl (Z 0, 60, .inl (fun _ => 0))), (q35, .inl (Z 0, 4, .inl (fun _ => 0))), (q42, .inl (Z 0, 4, .inl (fun _ => 0))), (q50, .inl (Z 0, 6, .inl (fun _ => 0))), (q58, .inl (Z 0, 6, .inl (fun _ => 0))), (q66, .inl (Z 0, 8, .inl (fun _ => 0))), (q74, .inl (Z 0, 8, .inl (fun _ => 0))), (q82, .inl (Z 0, 8, .inl (fun _ => 0))), (q91, .inl (Z 3, 8, .inr (.inr (.inr (.inr (fun j => if j < 8 then some (q91 + 1 + j) else none)))))), (q91 + 1, .inl (Z 0, 2, .inl (fun _ => 0))), (q91 + 2, .inl (Z 0, 2, .inl (fun _ => 0))), (q91 + 3, .inl (Z 0, 2, .inl (fun _ => 0))), (q91 + 4, .inl (Z 0, 2, .inl (fun _ => 0))), (q91 + 5, .inl (Z 0, 2, .inl (fun _ => 0))), (q91 + 6, .inl (Z 0, 2, .inl (fun _ => 0))), (q91 + 7, .inl (Z 0, 2, .inl (fun _ => 0))), (q91 + 8, .inl (Z 0, 2, .inl (fun _ => 0))), (q101, .inl (Z 0, 16, .inl (fun _ => 0))), (q109, .inl (Z 0, 16, .inl (fun _ => 0))), (q117, .inl (Z 0, 17, .inl (fun _ => 0))), (q125, .inl (Z 0, 17, .inl (fun _ => 0)))]) hC hK hnm hT fi_X6 tyX6_ok nmX6 rfl rfl (by decide) rfl rfl rfl rfl rfl rfl (Nat.le_of_ble_eq_true rfl) rfl wq_1285 dX6_init_127 (fun H locs hT => ?_)
  refine lv_aload_n hx hb dX6_init_130 rfl (lv_at hl 0 rfl) ?_
  refine lv_sipush (v := 800) hx hb dX6_init_131 (by decide) ?_
  refine w_newI (N := 800) hC hK hT wq_297 (by decide) (by decide) (by decide) (Nat.le_of_ble_eq_true rfl) (Nat.le_of_ble_eq_true rfl) dX6_init_134 (fun q134 H hT => ?_)
  refine W.widen (k := 25) (n := 1009) (Nat.le_of_ble_eq_true rfl) (Nat.le_of_ble_eq_true rfl) ?_
  have hT : TS vwCl D [(h0, .inr (6, [.int 0, .int 0, .ref q6, .ref q13, .ref q20, .ref q28, .int 0, .ref q35, .ref q42, .int 0, .ref q50, .ref q58, .int 0, .ref q66, .ref q74, .ref q82, .ref q91, .int 0, .int 0, .ref q101, .ref q109, .ref q117, .ref q125, .null, .int 0, .null, .int 0])), (q6, .inl (Z 0, 5, .inl (fun _ => 0))), (q13, .inl (Z 0, 5, .inl (fun _ => 0))), (q20, .inl (Z 0, 5, .inl (fun _ => 0))), (q28, .inl (Z 0, 60, .inl (fun _ => 0))), (q35, .inl (Z 0, 4, .inl (fun _ => 0))), (q42, .inl (Z 0, 4, .inl (fun _ => 0))), (q50, .inl (Z 0, 6, .inl (fun _ => 0))), (q58, .inl (Z 0, 6, .inl (fun _ => 0))), (q66, .inl (Z 0, 8, .inl (fun _ => 0))), (q74, .inl (Z 0, 8, .inl (fun _ => 0))), (q82, .inl (Z 0, 8, .inl (fun _ => 0))), (q91, .inl (Z 3, 8, .inr (.inr (.inr (.inr (fun j => if j < 8 then some (q91 + 1 + j) else none)))))), (q91 + 1, .inl (Z 0, 2, .inl (fun _ => 0))), (q91 + 2, .inl (Z 0, 2, .inl (fun _ => 0))), (q91 + 3, .inl (Z 0, 2, .inl (fun _ => 0))), (q91 + 4, .inl (Z 0, 2, .inl (fun _ => 0))), (q91 + 5, .inl (Z 0, 2, .inl (fun _ => 0))), (q91 + 6, .inl (Z 0, 2, .inl (fun _ => 0))), (q91 + 7, .inl (Z 0, 2, .inl (fun _ => 0))), (q91 + 8, .inl (Z 0, 2, .inl (fun _ => 0))), (q101, .inl (Z 0, 16, .inl (fun _ => 0))), (q109, .inl (Z 0, 16, .inl (fun _ => 0))), (q117, .inl (Z 0, 17, .inl (fun _ => 0))), (q125, .inl (Z 0, 17, .inl (fun _ => 0))), (q134, .inl (Z 0, 800, .inl (fun _ => 0)))] A s.heap H locs := hT
  refine w_putF (C := RX6) (T := TX6) (N := 27) (ci := 6) (q0 := 0) (k := 23) (ty0 := tyX6) (ty := .array .int) (ws' := [(h0, .inr (6, [.int 0, .int 0, .ref q6, .ref q13, .ref q20, .ref q28, .int 0, .ref q35, .ref q42, .int 0, .ref q50, .ref q58, .int 0, .ref q66, .ref q74, .ref q82, .ref q91, .int 0, .int 0, .ref q101, .ref q109, .ref q117, .ref q125, .ref q134, .int 0, .null, .int 0])), (q6, .inl (Z 0, 5, .inl (fun _ => 0))), (q13, .inl (Z 0, 5, .inl (fun _ => 0))), (q20, .inl (Z 0, 5, .inl (fun _ => 0))), (q28, .inl (Z 0, 60, .inl (fun _ => 0))), (q35, .inl (Z 0, 4, .inl (fun _ => 0))), (q42, .inl (Z 0, 4, .inl (fun _ => 0))), (q50, .inl (Z 0, 6, .inl (fun _ => 0))), (q58, .inl (Z 0, 6, .inl (fun _ => 0))), (q66, .inl (Z 0, 8, .inl (fun _ => 0))), (q74, .inl (Z 0, 8, .inl (fun _ => 0))), (q82, .inl (Z 0, 8, .inl (fun _ => 0))), (q91, .inl (Z 3, 8, .inr (.inr (.inr (.inr (fun j => if j < 8 then some (q91 + 1 + j) else none)))))), (q91 + 1, .inl (Z 0, 2, .inl (fun _ => 0))), (q91 + 2, .inl (Z 0, 2, .inl (fun _ => 0))), (q91 + 3, .inl (Z 0, 2, .inl (fun _ => 0))), (q91 + 4, .inl (Z 0, 2, .inl (fun _ => 0))), (q91 + 5, .inl (Z 0, 2, .inl (fun _ => 0))), (q91 + 6, .inl (Z 0, 2, .inl (fun _ => 0))), (q91 + 7, .inl (Z 0, 2, .inl (fun _ => 0))), (q91 + 8, .inl (Z 0, 2, .inl (fun _ => 0))), (q101, .inl (Z 0, 16, .inl (fun _ => 0))), (q109, .inl (Z 0, 16, .inl (fun _ => 0))), (q117, .inl (Z 0, 17, .inl (fun _ => 0))), (q125, .inl (Z 0, 17, .inl (fun _ => 0))), (q134, .inl (Z 0, 800, .inl (fun _ => 0)))]) hC hK hnm hT fi_X6 tyX6_ok nmX6 rfl rfl (by decide) rfl rfl rfl rfl rfl rfl (Nat.le_of_ble_eq_true rfl) rfl wq_1288 dX6_init_136 (fun H locs hT => ?_)
  refine lv_aload_n hx hb dX6_init_139 rfl (lv_at hl 0 rfl) ?_
  refine lv_sipush (v := 400) hx hb dX6_init_140 (by decide) ?_
  refine w_newI (N := 400) hC hK hT wq_297 (by decide) (by decide) (by decide) (Nat.le_of_ble_eq_true rfl) (Nat.le_of_ble_eq_true rfl) dX6_init_143 (fun q143 H hT => ?_)
  refine W.widen (k := 26) (n := 1409) (Nat.le_of_ble_eq_true rfl) (Nat.le_of_ble_eq_true rfl) ?_
  have hT : TS vwCl D [(h0, .inr (6, [.int 0, .int 0, .ref q6, .ref q13, .ref q20, .ref q28, .int 0, .ref q35, .ref q42, .int 0, .ref q50, .ref q58, .int 0, .ref q66, .ref q74, .ref q82, .ref q91, .int 0, .int 0, .ref q101, .ref q109, .ref q117, .ref q125, .ref q134, .int 0, .null, .int 0])), (q6, .inl (Z 0, 5, .inl (fun _ => 0))), (q13, .inl (Z 0, 5, .inl (fun _ => 0))), (q20, .inl (Z 0, 5, .inl (fun _ => 0))), (q28, .inl (Z 0, 60, .inl (fun _ => 0))), (q35, .inl (Z 0, 4, .inl (fun _ => 0))), (q42, .inl (Z 0, 4, .inl (fun _ => 0))), (q50, .inl (Z 0, 6, .inl (fun _ => 0))), (q58, .inl (Z 0, 6, .inl (fun _ => 0))), (q66, .inl (Z 0, 8, .inl (fun _ => 0))), (q74, .inl (Z 0, 8, .inl (fun _ => 0))), (q82, .inl (Z 0, 8, .inl (fun _ => 0))), (q91, .inl (Z 3, 8, .inr (.inr (.inr (.inr (fun j => if j < 8 then some (q91 + 1 + j) else none)))))), (q91 + 1, .inl (Z 0, 2, .inl (fun _ => 0))), (q91 + 2, .inl (Z 0, 2, .inl (fun _ => 0))), (q91 + 3, .inl (Z 0, 2, .inl (fun _ => 0))), (q91 + 4, .inl (Z 0, 2, .inl (fun _ => 0))), (q91 + 5, .inl (Z 0, 2, .inl (fun _ => 0))), (q91 + 6, .inl (Z 0, 2, .inl (fun _ => 0))), (q91 + 7, .inl (Z 0, 2, .inl (fun _ => 0))), (q91 + 8, .inl (Z 0, 2, .inl (fun _ => 0))), (q101, .inl (Z 0, 16, .inl (fun _ => 0))), (q109, .inl (Z 0, 16, .inl (fun _ => 0))), (q117, .inl (Z 0, 17, .inl (fun _ => 0))), (q125, .inl (Z 0, 17, .inl (fun _ => 0))), (q134, .inl (Z 0, 800, .inl (fun _ => 0))), (q143, .inl (Z 0, 400, .inl (fun _ => 0)))] A s.heap H locs := hT
  refine w_putF (C := RX6) (T := TX6) (N := 27) (ci := 6) (q0 := 0) (k := 25) (ty0 := tyX6) (ty := .array .int) (ws' := [(h0, .inr (6, [.int 0, .int 0, .ref q6, .ref q13, .ref q20, .ref q28, .int 0, .ref q35, .ref q42, .int 0, .ref q50, .ref q58, .int 0, .ref q66, .ref q74, .ref q82, .ref q91, .int 0, .int 0, .ref q101, .ref q109, .ref q117, .ref q125, .ref q134, .int 0, .ref q143, .int 0])), (q6, .inl (Z 0, 5, .inl (fun _ => 0))), (q13, .inl (Z 0, 5, .inl (fun _ => 0))), (q20, .inl (Z 0, 5, .inl (fun _ => 0))), (q28, .inl (Z 0, 60, .inl (fun _ => 0))), (q35, .inl (Z 0, 4, .inl (fun _ => 0))), (q42, .inl (Z 0, 4, .inl (fun _ => 0))), (q50, .inl (Z 0, 6, .inl (fun _ => 0))), (q58, .inl (Z 0, 6, .inl (fun _ => 0))), (q66, .inl (Z 0, 8, .inl (fun _ => 0))), (q74, .inl (Z 0, 8, .inl (fun _ => 0))), (q82, .inl (Z 0, 8, .inl (fun _ => 0))), (q91, .inl (Z 3, 8, .inr (.inr (.inr (.inr (fun j => if j < 8 then some (q91 + 1 + j) else none)))))), (q91 + 1, .inl (Z 0, 2, .inl (fun _ => 0))), (q91 + 2, .inl (Z 0, 2, .inl (fun _ => 0))), (q91 + 3, .inl (Z 0, 2, .inl (fun _ => 0))), (q91 + 4, .inl (Z 0, 2, .inl (fun _ => 0))), (q91 + 5, .inl (Z 0, 2, .inl (fun _ => 0))), (q91 + 6, .inl (Z 0, 2, .inl (fun _ => 0))), (q91 + 7, .inl (Z 0, 2, .inl (fun _ => 0))), (q91 + 8, .inl (Z 0, 2, .inl (fun _ => 0))), (q101, .inl (Z 0, 16, .inl (fun _ => 0))), (q109, .inl (Z 0, 16, .inl (fun _ => 0))), (q117, .inl (Z 0, 17, .inl (fun _ => 0))), (q125, .inl (Z 0, 17, .inl (fun _ => 0))), (q134, .inl (Z 0, 800, .inl (fun _ => 0))), (q143, .inl (Z 0, 400, .inl (fun _ => 0)))]) hC hK hnm hT fi_X6 tyX6_ok nmX6 rfl rfl (by decide) rfl rfl rfl rfl rfl rfl (Nat.le_of_ble_eq_true rfl) rfl wq_1292 dX6_init_145 (fun H locs hT => ?_)
  have hcr : (fun j => if j < 8 then some (q91 + 1 + j) else none) = (fun j => if j < 8 then some (asc [(240, h0), (242, q6), (243, q13), (244, q20), (245, q28), (247, q35), (248, q42), (250, q50), (251, q58), (253, q66), (254, q74), (255, q82), (310, q91 + 1), (311, q91 + 2), (312, q91 + 3), (313, q91 + 4), (314, q91 + 5), (315, q91 + 6), (316, q91 + 7), (317, q91 + 8), (256, q91), (259, q101), (260, q109), (261, q117), (262, q125), (263, q134), (265, q143)] (310 + j)) else none) := by
    funext j
    rcases Nat.lt_or_ge j 8 with hj | hj
    · match j, hj with
      | 0, _ => rfl
      | 1, _ => rfl
      | 2, _ => rfl
      | 3, _ => rfl
      | 4, _ => rfl
      | 5, _ => rfl
      | 6, _ => rfl
      | 7, _ => rfl
    · rw [if_neg (by omega), if_neg (by omega)]
  rw [hcr] at hT
  have hT := hT.pick (ws' := iw_X6_init Z h0 (some (asc [(240, h0), (242, q6), (243, q13), (244, q20), (245, q28), (247, q35), (248, q42), (250, q50), (251, q58), (253, q66), (254, q74), (255, q82), (310, q91 + 1), (311, q91 + 2), (312, q91 + 3), (313, q91 + 4), (314, q91 + 5), (315, q91 + 6), (316, q91 + 7), (317, q91 + 8), (256, q91), (259, q101), (260, q109), (261, q117), (262, q125), (263, q134), (265, q143)]))) [0, 1, 2, 3, 4, 5, 6, 7, 8, 9, 10, 11, 12, 21, 22, 23, 24, 25, 26, 13, 14, 15, 16, 17, 18, 19, 20] (by decide) rfl
  exact hret 148 ls _ _ (some (asc [(240, h0), (242, q6), (243, q13), (244, q20), (245, q28), (247, q35), (248, q42), (250, q50), (251, q58), (253, q66), (254, q74), (255, q82), (310, q91 + 1), (311, q91 + 2), (312, q91 + 3), (313, q91 + 4), (314, q91 + 5), (315, q91 + 6), (316, q91 + 7), (317, q91 + 8), (256, q91), (259, q101), (260, q109), (261, q117), (262, q125), (263, q134), (265, q143)])) ⟨_, rfl, rfl⟩ hT dX6_init_148
def iw_X7_init (Z : Nat → ClassId) (h0 : Nat) (m0 : Nat) : Option (Nat → Nat) → va_W
  | none => [(h0, .inr (7, [.int 0, .int 0, .null, .null, .null, .null, .null, .null, .null, .null, .null, .null, .int 0, .null, .null]))]
  | some a => [(a 200, .inr (7, [.int (sS0 200 0), .int (sS0 201 0), .ref (a 202), .ref (a 203), .ref (a 204), .ref (a 205), .ref (a 206), .ref (a 207), .ref (a 208), .ref (a 209), .ref (a 210), .ref (a 211), .int (sS0 212 0), .ref (a 213), .ref m0])), (a 202, .inl (Z 0, 60, .inl (sS0 202))), (a 203, .inl (Z 0, 6, .inl (sS0 203))), (a 204, .inl (Z 0, 6, .inl (sS0 204))), (a 205, .inl (Z 0, 6, .inl (sS0 205))), (a 206, .inl (Z 0, 8, .inl (sS0 206))), (a 207, .inl (Z 0, 8, .inl (sS0 207))), (a 208, .inl (Z 0, 8, .inl (sS0 208))), (a 209, .inl (Z 0, 8, .inl (sS0 209))), (a 210, .inl (Z 0, 8, .inl (sS0 210))), (a 211, .inl (Z 0, 8, .inl (sS0 211))), (a 213, .inl (Z 0, 400, .inl (sS0 213)))]
set_option maxRecDepth 100000 in
set_option maxHeartbeats 4000000 in
theorem c_X7_init (l : Launch) (D : va_G) (Z : Nat → ClassId) (sz h0 : Nat) (m0 : Nat) : Met l yX7_init (wy yX7_init cX7_init 2 none) (rk 1 11 526) (pre vwCl D Z (iw_X7_init Z h0 m0 none) sz [.ref h0, .ref m0]) (poV vwCl D Z (iw_X7_init Z h0 m0) none sz (fun u => ∃ a, u = some a ∧ a 200 = h0)) 11 526 (va_A (iw_X7_init Z h0 m0 none) sz) := by
  refine rwv_of (wsF := iw_X7_init Z h0 m0) (u0 := none) (by decide +kernel) (Nat.le_of_ble_eq_true rfl) rfl ?_
  intro p e s m args below meth c Q A hC hN hsz hnm hT hK hret ls hl
  have hx := hC.1
  have hb := hC.2.1
  have hl : lv_has ls 2 [(0, .ref h0), (1, .ref m0)] := hl
  have hT : TS vwCl D [(h0, .inr (7, [.int 0, .int 0, .null, .null, .null, .null, .null, .null, .null, .null, .null, .null, .int 0, .null, .null]))] A s.heap s.heap [] := hT
  refine lv_aload_n hx hb dX7_init_0 rfl (lv_at hl 0 rfl) ?_
  refine lv_aload_n hx hb dX7_init_1 rfl (lv_at hl 1 rfl) ?_
  refine w_putF (C := RX7) (T := TX7) (N := 15) (ci := 7) (q0 := 0) (k := 14) (ty0 := tyX7) (ty := .object "TunnelLeggersModel") (ws' := [(h0, .inr (7, [.int 0, .int 0, .null, .null, .null, .null, .null, .null, .null, .null, .null, .null, .int 0, .null, .ref m0]))]) hC hK hnm hT fi_X7 tyX7_ok nmX7 rfl rfl (by decide) rfl rfl rfl rfl rfl rfl (Nat.le_of_ble_eq_true rfl) rfl wq_1383 dX7_init_2 (fun H locs hT => ?_)
  refine lv_aload_n hx hb dX7_init_5 rfl (lv_at hl 0 rfl) ?_
  refine w_objInit hC wq_1355 wq_153 wq_154 hl.1 (by decide) (Nat.le_of_ble_eq_true rfl) dX7_init_6 ?_
  refine lv_aload_n hx hb dX7_init_9 rfl (lv_at hl 0 rfl) ?_
  refine lv_bipush (v := 60) hx hb dX7_init_10 (by decide) ?_
  refine w_newI (N := 60) hC hK hT wq_297 (by decide) (by decide) (by decide) (Nat.le_of_ble_eq_true rfl) (Nat.le_of_ble_eq_true rfl) dX7_init_12 (fun q12 H hT => ?_)
  refine W.widen (k := 1) (n := 60) (Nat.le_of_ble_eq_true rfl) (Nat.le_of_ble_eq_true rfl) ?_
  have hT : TS vwCl D [(h0, .inr (7, [.int 0, .int 0, .null, .null, .null, .null, .null, .null, .null, .null, .null, .null, .int 0, .null, .ref m0])), (q12, .inl (Z 0, 60, .inl (fun _ => 0)))] A s.heap H locs := hT
  refine w_putF (C := RX7) (T := TX7) (N := 15) (ci := 7) (q0 := 0) (k := 2) (ty0 := tyX7) (ty := .array .int) (ws' := [(h0, .inr (7, [.int 0, .int 0, .ref q12, .null, .null, .null, .null, .null, .null, .null, .null, .null, .int 0, .null, .ref m0])), (q12, .inl (Z 0, 60, .inl (fun _ => 0)))]) hC hK hnm hT fi_X7 tyX7_ok nmX7 rfl rfl (by decide) rfl rfl rfl rfl rfl rfl (Nat.le_of_ble_eq_true rfl) rfl wq_1360 dX7_init_14 (fun H locs hT => ?_)
  refine lv_aload_n hx hb dX7_init_17 rfl (lv_at hl 0 rfl) ?_
  refine lv_bipush (v := 6) hx hb dX7_init_18 (by decide) ?_
  refine w_newI (N := 6) hC hK hT wq_297 (by decide) (by decide) (by decide) (Nat.le_of_ble_eq_true rfl) (Nat.le_of_ble_eq_true rfl) dX7_init_20 (fun q20 H hT => ?_)
  refine W.widen (k := 2) (n := 66) (Nat.le_of_ble_eq_true rfl) (Nat.le_of_ble_eq_true rfl) ?_
  have hT : TS vwCl D [(h0, .inr (7, [.int 0, .int 0, .ref q12, .null, .null, .null, .null, .null, .null, .null, .null, .null, .int 0, .null, .ref m0])), (q12, .inl (Z 0, 60, .inl (fun _ => 0))), (q20, .inl (Z 0, 6, .inl (fun _ => 0)))] A s.heap H locs := hT
  refine w_putF (C := RX7) (T := TX7) (N := 15) (ci := 7) (q0 := 0) (k := 3) (ty0 := tyX7) (ty := .array .int) (ws' := [(h0, .inr (7, [.int 0, .int 0, .ref q12, .ref q20, .null, .null, .null, .null, .null, .null, .null, .null, .int 0, .null, .ref m0])), (q12, .inl (Z 0, 60, .inl (fun _ => 0))), (q20, .inl (Z 0, 6, .inl (fun _ => 0)))]) hC hK hnm hT fi_X7 tyX7_ok nmX7 rfl rfl (by decide) rfl rfl rfl rfl rfl rfl (Nat.le_of_ble_eq_true rfl) rfl wq_1362 dX7_init_22 (fun H locs hT => ?_)
  refine lv_aload_n hx hb dX7_init_25 rfl (lv_at hl 0 rfl) ?_
  refine lv_bipush (v := 6) hx hb dX7_init_26 (by decide) ?_
  refine w_newI (N := 6) hC hK hT wq_297 (by decide) (by decide) (by decide) (Nat.le_of_ble_eq_true rfl) (Nat.le_of_ble_eq_true rfl) dX7_init_28 (fun q28 H hT => ?_)
  refine W.widen (k := 3) (n := 72) (Nat.le_of_ble_eq_true rfl) (Nat.le_of_ble_eq_true rfl) ?_
  have hT : TS vwCl D [(h0, .inr (7, [.int 0, .int 0, .ref q12, .ref q20, .null, .null, .null, .null, .null, .null, .null, .null, .int 0, .null, .ref m0])), (q12, .inl (Z 0, 60, .inl (fun _ => 0))), (q20, .inl (Z 0, 6, .inl (fun _ => 0))), (q28, .inl (Z 0, 6, .inl (fun _ => 0)))] A s.heap H locs := hT
  refine w_putF (C := RX7) (T := TX7) (N := 15) (ci := 7) (q0 := 0) (k := 4) (ty0 := tyX7) (ty := .array .int) (ws' := [(h0, .inr (7, [.int 0, .int 0, .ref q12, .ref q20, .ref q28, .null, .null, .null, .null, .null, .null, .null, .int 0, .null, .ref m0])), (q12, .inl (Z 0, 60, .inl (fun _ => 0))), (q20, .inl (Z 0, 6, .inl (fun _ => 0))), (q28, .inl (Z 0, 6, .inl (fun _ => 0)))]) hC hK hnm hT fi_X7 tyX7_ok nmX7 rfl rfl (by decide) rfl rfl rfl rfl rfl rfl (Nat.le_of_ble_eq_true rfl) rfl wq_1364 dX7_init_30 (fun H locs hT => ?_)
  refine lv_aload_n hx hb dX7_init_33 rfl (lv_at hl 0 rfl) ?_
  refine lv_bipush (v := 6) hx hb dX7_init_34 (by decide) ?_
  refine w_newI (N := 6) hC hK hT wq_297 (by decide) (by decide) (by decide) (Nat.le_of_ble_eq_true rfl) (Nat.le_of_ble_eq_true rfl) dX7_init_36 (fun q36 H hT => ?_)
  refine W.widen (k := 4) (n := 78) (Nat.le_of_ble_eq_true rfl) (Nat.le_of_ble_eq_true rfl) ?_
  have hT : TS vwCl D [(h0, .inr (7, [.int 0, .int 0, .ref q12, .ref q20, .ref q28, .null, .null, .null, .null, .null, .null, .null, .int 0, .null, .ref m0])), (q12, .inl (Z 0, 60, .inl (fun _ => 0))), (q20, .inl (Z 0, 6, .inl (fun _ => 0))), (q28, .inl (Z 0, 6, .inl (fun _ => 0))), (q36, .inl (Z 0, 6, .inl (fun _ => 0)))] A s.heap H locs := hT
  refine w_putF (C := RX7) (T := TX7) (N := 15) (ci := 7) (q0 := 0) (k := 5) (ty0 := tyX7) (ty := .array .int) (ws' := [(h0, .inr (7, [.int 0, .int 0, .ref q12, .ref q20, .ref q28, .ref q36, .null, .null, .null, .null, .null, .null, .int 0, .null, .ref m0])), (q12, .inl (Z 0, 60, .inl (fun _ => 0))), (q20, .inl (Z 0, 6, .inl (fun _ => 0))), (q28, .inl (Z 0, 6, .inl (fun _ => 0))), (q36, .inl (Z 0, 6, .inl (fun _ => 0)))]) hC hK hnm hT fi_X7 tyX7_ok nmX7 rfl rfl (by decide) rfl rfl rfl rfl rfl rfl (Nat.le_of_ble_eq_true rfl) rfl wq_1366 dX7_init_38 (fun H locs hT => ?_)
  refine lv_aload_n hx hb dX7_init_41 rfl (lv_at hl 0 rfl) ?_
  refine lv_bipush (v := 8) hx hb dX7_init_42 (by decide) ?_
  refine w_newI (N := 8) hC hK hT wq_297 (by decide) (by decide) (by decide) (Nat.le_of_ble_eq_true rfl) (Nat.le_of_ble_eq_true rfl) dX7_init_44 (fun q44 H hT => ?_)
  refine W.widen (k := 5) (n := 86) (Nat.le_of_ble_eq_true rfl) (Nat.le_of_ble_eq_true rfl) ?_
  have hT : TS vwCl D [(h0, .inr (7, [.int 0, .int 0, .ref q12, .ref q20, .ref q28, .ref q36, .null, .null, .null, .null, .null, .null, .int 0, .null, .ref m0])), (q12, .inl (Z 0, 60, .inl (fun _ => 0))), (q20, .inl (Z 0, 6, .inl (fun _ => 0))), (q28, .inl (Z 0, 6, .inl (fun _ => 0))), (q36, .inl (Z 0, 6, .inl (fun _ => 0))), (q44, .inl (Z 0, 8, .inl (fun _ => 0)))] A s.heap H locs := hT
  refine w_putF (C := RX7) (T := TX7) (N := 15) (ci := 7) (q0 := 0) (k := 6) (ty0 := tyX7) (ty := .array .int) (ws' := [(h0, .inr (7, [.int 0, .int 0, .ref q12, .ref q20, .ref q28, .ref q36, .ref q44, .null, .null, .null, .null, .null, .int 0, .null, .ref m0])), (q12, .inl (Z 0, 60, .inl (fun _ => 0))), (q20, .inl (Z 0, 6, .inl (fun _ => 0))), (q28, .inl (Z 0, 6, .inl (fun _ => 0))), (q36, .inl (Z 0, 6, .inl (fun _ => 0))), (q44, .inl (Z 0, 8, .inl (fun _ => 0)))]) hC hK hnm hT fi_X7 tyX7_ok nmX7 rfl rfl (by decide) rfl rfl rfl rfl rfl rfl (Nat.le_of_ble_eq_true rfl) rfl wq_1368 dX7_init_46 (fun H locs hT => ?_)
  refine lv_aload_n hx hb dX7_init_49 rfl (lv_at hl 0 rfl) ?_
  refine lv_bipush (v := 8) hx hb dX7_init_50 (by decide) ?_
  refine w_newI (N := 8) hC hK hT wq_297 (by decide) (by decide) (by decide) (Nat.le_of_ble_eq_true rfl) (Nat.le_of_ble_eq_true rfl) dX7_init_52 (fun q52 H hT => ?_)
  refine W.widen (k := 6) (n := 94) (Nat.le_of_ble_eq_true rfl) (Nat.le_of_ble_eq_true rfl) ?_
  have hT : TS vwCl D [(h0, .inr (7, [.int 0, .int 0, .ref q12, .ref q20, .ref q28, .ref q36, .ref q44, .null, .null, .null, .null, .null, .int 0, .null, .ref m0])), (q12, .inl (Z 0, 60, .inl (fun _ => 0))), (q20, .inl (Z 0, 6, .inl (fun _ => 0))), (q28, .inl (Z 0, 6, .inl (fun _ => 0))), (q36, .inl (Z 0, 6, .inl (fun _ => 0))), (q44, .inl (Z 0, 8, .inl (fun _ => 0))), (q52, .inl (Z 0, 8, .inl (fun _ => 0)))] A s.heap H locs := hT
  refine w_putF (C := RX7) (T := TX7) (N := 15) (ci := 7) (q0 := 0) (k := 7) (ty0 := tyX7) (ty := .array .int) (ws' := [(h0, .inr (7, [.int 0, .int 0, .ref q12, .ref q20, .ref q28, .ref q36, .ref q44, .ref q52, .null, .null, .null, .null, .int 0, .null, .ref m0])), (q12, .inl (Z 0, 60, .inl (fun _ => 0))), (q20, .inl (Z 0, 6, .inl (fun _ => 0))), (q28, .inl (Z 0, 6, .inl (fun _ => 0))), (q36, .inl (Z 0, 6, .inl (fun _ => 0))), (q44, .inl (Z 0, 8, .inl (fun _ => 0))), (q52, .inl (Z 0, 8, .inl (fun _ => 0)))]) hC hK hnm hT fi_X7 tyX7_ok nmX7 rfl rfl (by decide) rfl rfl rfl rfl rfl rfl (Nat.le_of_ble_eq_true rfl) rfl wq_1370 dX7_init_54 (fun H locs hT => ?_)
  refine lv_aload_n hx hb dX7_init_57 rfl (lv_at hl 0 rfl) ?_
  refine lv_bipush (v := 8) hx hb dX7_init_58 (by decide) ?_
  refine w_newI (N := 8) hC hK hT wq_297 (by decide) (by decide) (by decide) (Nat.le_of_ble_eq_true rfl) (Nat.le_of_ble_eq_true rfl) dX7_init_60 (fun q60 H hT => ?_)
  refine W.widen (k := 7) (n := 102) (Nat.le_of_ble_eq_true rfl) (Nat.le_of_ble_eq_true rfl) ?_
  have hT : TS vwCl D [(h0, .inr (7, [.int 0, .int 0, .ref q12, .ref q20, .ref q28, .ref q36, .ref q44, .ref q52, .null, .null, .null, .null, .int 0, .null, .ref m0])), (q12, .inl (Z 0, 60, .inl (fun _ => 0))), (q20, .inl (Z 0, 6, .inl (fun _ => 0))), (q28, .inl (Z 0, 6, .inl (fun _ => 0))), (q36, .inl (Z 0, 6, .inl (fun _ => 0))), (q44, .inl (Z 0, 8, .inl (fun _ => 0))), (q52, .inl (Z 0, 8, .inl (fun _ => 0))), (q60, .inl (Z 0, 8, .inl (fun _ => 0)))] A s.heap H locs := hT
  refine w_putF (C := RX7) (T := TX7) (N := 15) (ci := 7) (q0 := 0) (k := 8) (ty0 := tyX7) (ty := .array .int) (ws' := [(h0, .inr (7, [.int 0, .int 0, .ref q12, .ref q20, .ref q28, .ref q36, .ref q44, .ref q52, .ref q60, .null, .null, .null, .int 0, .null, .ref m0])), (q12, .inl (Z 0, 60, .inl (fun _ => 0))), (q20, .inl (Z 0, 6, .inl (fun _ => 0))), (q28, .inl (Z 0, 6, .inl (fun _ => 0))), (q36, .inl (Z 0, 6, .inl (fun _ => 0))), (q44, .inl (Z 0, 8, .inl (fun _ => 0))), (q52, .inl (Z 0, 8, .inl (fun _ => 0))), (q60, .inl (Z 0, 8, .inl (fun _ => 0)))]) hC hK hnm hT fi_X7 tyX7_ok nmX7 rfl rfl (by decide) rfl rfl rfl rfl rfl rfl (Nat.le_of_ble_eq_true rfl) rfl wq_1372 dX7_init_62 (fun H locs hT => ?_)
  refine lv_aload_n hx hb dX7_init_65 rfl (lv_at hl 0 rfl) ?_
  refine lv_bipush (v := 8) hx hb dX7_init_66 (by decide) ?_
  refine w_newI (N := 8) hC hK hT wq_297 (by decide) (by decide) (by decide) (Nat.le_of_ble_eq_true rfl) (Nat.le_of_ble_eq_true rfl) dX7_init_68 (fun q68 H hT => ?_)
  refine W.widen (k := 8) (n := 110) (Nat.le_of_ble_eq_true rfl) (Nat.le_of_ble_eq_true rfl) ?_
  have hT : TS vwCl D [(h0, .inr (7, [.int 0, .int 0, .ref q12, .ref q20, .ref q28, .ref q36, .ref q44, .ref q52, .ref q60, .null, .null, .null, .int 0, .null, .ref m0])), (q12, .inl (Z 0, 60, .inl (fun _ => 0))), (q20, .inl (Z 0, 6, .inl (fun _ => 0))), (q28, .inl (Z 0, 6, .inl (fun _ => 0))), (q36, .inl (Z 0, 6, .inl (fun _ => 0))), (q44, .inl (Z 0, 8, .inl (fun _ => 0))), (q52, .inl (Z 0, 8, .inl (fun _ => 0))), (q60, .inl (Z 0, 8, .inl (fun _ => 0))), (q68, .inl (Z 0, 8, .inl (fun _ => 0)))] A s.heap H locs := hT
  refine w_putF (C := RX7) (T := TX7) (N := 15) (ci := 7) (q0 := 0) (k := 9) (ty0 := tyX7) (ty := .array .int) (ws' := [(h0, .inr (7, [.int 0, .int 0, .ref q12, .ref q20, .ref q28, .ref q36, .ref q44, .ref q52, .ref q60, .ref q68, .null, .null, .int 0, .null, .ref m0])), (q12, .inl (Z 0, 60, .inl (fun _ => 0))), (q20, .inl (Z 0, 6, .inl (fun _ => 0))), (q28, .inl (Z 0, 6, .inl (fun _ => 0))), (q36, .inl (Z 0, 6, .inl (fun _ => 0))), (q44, .inl (Z 0, 8, .inl (fun _ => 0))), (q52, .inl (Z 0, 8, .inl (fun _ => 0))), (q60, .inl (Z 0, 8, .inl (fun _ => 0))), (q68, .inl (Z 0, 8, .inl (fun _ => 0)))]) hC hK hnm hT fi_X7 tyX7_ok nmX7 rfl rfl (by decide) rfl rfl rfl rfl rfl rfl (Nat.le_of_ble_eq_true rfl) rfl wq_1374 dX7_init_70 (fun H locs hT => ?_)
  refine lv_aload_n hx hb dX7_init_73 rfl (lv_at hl 0 rfl) ?_
  refine lv_bipush (v := 8) hx hb dX7_init_74 (by decide) ?_
  refine w_newI (N := 8) hC hK hT wq_297 (by decide) (by decide) (by decide) (Nat.le_of_ble_eq_true rfl) (Nat.le_of_ble_eq_true rfl) dX7_init_76 (fun q76 H hT => ?_)
  refine W.widen (k := 9) (n := 118) (Nat.le_of_ble_eq_true rfl) (Nat.le_of_ble_eq_true rfl) ?_
  have hT : TS vwCl D [(h0, .inr (7, [.int 0, .int 0, .ref q12, .ref q20, .ref q28, .ref q36, .ref q44, .ref q52, .ref q60, .ref q68, .null, .null, .int 0, .null, .ref m0])), (q12, .inl (Z 0, 60, .inl (fun _ => 0))), (q20, .inl (Z 0, 6, .inl (fun _ => 0))), (q28, .inl (Z 0, 6, .inl (fun _ => 0))), (q36, .inl (Z 0, 6, .inl (fun _ => 0))), (q44, .inl (Z 0, 8, .inl (fun _ => 0))), (q52, .inl (Z 0, 8, .inl (fun _ => 0))), (q60, .inl (Z 0, 8, .inl (fun _ => 0))), (q68, .inl (Z 0, 8, .inl (fun _ => 0))), (q76, .inl (Z 0, 8, .inl (fun _ => 0)))] A s.heap H locs := hT
  refine w_putF (C := RX7) (T := TX7) (N := 15) (ci := 7) (q0 := 0) (k := 10) (ty0 := tyX7) (ty := .array .int) (ws' := [(h0, .inr (7, [.int 0, .int 0, .ref q12, .ref q20, .ref q28, .ref q36, .ref q44, .ref q52, .ref q60, .ref q68, .ref q76, .null, .int 0, .null, .ref m0])), (q12, .inl (Z 0, 60, .inl (fun _ => 0))), (q20, .inl (Z 0, 6, .inl (fun _ => 0))), (q28, .inl (Z 0, 6, .inl (fun _ => 0))), (q36, .inl (Z 0, 6, .inl (fun _ => 0))), (q44, .inl (Z 0, 8, .inl (fun _ => 0))), (q52, .inl (Z 0, 8, .inl (fun _ => 0))), (q60, .inl (Z 0, 8, .inl (fun _ => 0))), (q68, .inl (Z 0, 8, .inl (fun _ => 0))), (q76, .inl (Z 0, 8, .inl (fun _ => 0)))]) hC hK hnm hT fi_X7 tyX7_ok nmX7 rfl rfl (by decide) rfl rfl rfl rfl rfl rfl (Nat.le_of_ble_eq_true rfl) rfl wq_1376 dX7_init_78 (fun H locs hT => ?_)
  refine lv_aload_n hx hb dX7_init_81 rfl (lv_at hl 0 rfl) ?_
  refine lv_bipush (v := 8) hx hb dX7_init_82 (by decide) ?_
  refine w_newI (N := 8) hC hK hT wq_297 (by decide) (by decide) (by decide) (Nat.le_of_ble_eq_true rfl) (Nat.le_of_ble_eq_true rfl) dX7_init_84 (fun q84 H hT => ?_)
  refine W.widen (k := 10) (n := 126) (Nat.le_of_ble_eq_true rfl) (Nat.le_of_ble_eq_true rfl) ?_
  have hT : TS vwCl D [(h0, .inr (7, [.int 0, .int 0, .ref q12, .ref q20, .ref q28, .ref q36, .ref q44, .ref q52, .ref q60, .ref q68, .ref q76, .null, .int 0, .null, .ref m0])), (q12, .inl (Z 0, 60, .inl (fun _ => 0))), (q20, .inl (Z 0, 6, .inl (fun _ => 0))), (q28, .inl (Z 0, 6, .inl (fun _ => 0))), (q36, .inl (Z 0, 6, .inl (fun _ => 0))), (q44, .inl (Z 0, 8, .inl (fun _ => 0))), (q52, .inl (Z 0, 8, .inl (fun _ => 0))), (q60, .inl (Z 0, 8, .inl (fun _ => 0))), (q68, .inl (Z 0, 8, .inl (fun _ => 0))), (q76, .inl (Z 0, 8, .inl (fun _ => 0))), (q84, .inl (Z 0, 8, .inl (fun _ => 0)))] A s.heap H locs := hT
  refine w_putF (C := RX7) (T := TX7) (N := 15) (ci := 7) (q0 := 0) (k := 11) (ty0 := tyX7) (ty := .array .int) (ws' := [(h0, .inr (7, [.int 0, .int 0, .ref q12, .ref q20, .ref q28, .ref q36, .ref q44, .ref q52, .ref q60, .ref q68, .ref q76, .ref q84, .int 0, .null, .ref m0])), (q12, .inl (Z 0, 60, .inl (fun _ => 0))), (q20, .inl (Z 0, 6, .inl (fun _ => 0))), (q28, .inl (Z 0, 6, .inl (fun _ => 0))), (q36, .inl (Z 0, 6, .inl (fun _ => 0))), (q44, .inl (Z 0, 8, .inl (fun _ => 0))), (q52, .inl (Z 0, 8, .inl (fun _ => 0))), (q60, .inl (Z 0, 8, .inl (fun _ => 0))), (q68, .inl (Z 0, 8, .inl (fun _ => 0))), (q76, .inl (Z 0, 8, .inl (fun _ => 0))), (q84, .inl (Z 0, 8, .inl (fun _ => 0)))]) hC hK hnm hT fi_X7 tyX7_ok nmX7 rfl rfl (by decide) rfl rfl rfl rfl rfl rfl (Nat.le_of_ble_eq_true rfl) rfl wq_1378 dX7_init_86 (fun H locs hT => ?_)
  refine lv_aload_n hx hb dX7_init_89 rfl (lv_at hl 0 rfl) ?_
  refine lv_iconst (v := (-1)) hx hb dX7_init_90 (by decide) ?_
  refine w_put (C := RX7) (T := TX7) (N := 15) (ci := 7) (q0 := 0) (k := 12) (ty0 := tyX7) (ty := .int) (ws' := [(h0, .inr (7, [.int 0, .int 0, .ref q12, .ref q20, .ref q28, .ref q36, .ref q44, .ref q52, .ref q60, .ref q68, .ref q76, .ref q84, .int (-1), .null, .ref m0])), (q12, .inl (Z 0, 60, .inl (fun _ => 0))), (q20, .inl (Z 0, 6, .inl (fun _ => 0))), (q28, .inl (Z 0, 6, .inl (fun _ => 0))), (q36, .inl (Z 0, 6, .inl (fun _ => 0))), (q44, .inl (Z 0, 8, .inl (fun _ => 0))), (q52, .inl (Z 0, 8, .inl (fun _ => 0))), (q60, .inl (Z 0, 8, .inl (fun _ => 0))), (q68, .inl (Z 0, 8, .inl (fun _ => 0))), (q76, .inl (Z 0, 8, .inl (fun _ => 0))), (q84, .inl (Z 0, 8, .inl (fun _ => 0)))]) hC hK hT fi_X7 tyX7_ok nmX7 rfl rfl (by decide) rfl rfl rfl rfl rfl (Nat.le_of_ble_eq_true rfl) rfl wq_1380 dX7_init_91 (fun H locs hT => ?_)
  refine lv_aload_n hx hb dX7_init_94 rfl (lv_at hl 0 rfl) ?_
  refine lv_sipush (v := 400) hx hb dX7_init_95 (by decide) ?_
  refine w_newI (N := 400) hC hK hT wq_297 (by decide) (by decide) (by decide) (Nat.le_of_ble_eq_true rfl) (Nat.le_of_ble_eq_true rfl) dX7_init_98 (fun q98 H hT => ?_)
  refine W.widen (k := 11) (n := 526) (Nat.le_of_ble_eq_true rfl) (Nat.le_of_ble_eq_true rfl) ?_
  have hT : TS vwCl D [(h0, .inr (7, [.int 0, .int 0, .ref q12, .ref q20, .ref q28, .ref q36, .ref q44, .ref q52, .ref q60, .ref q68, .ref q76, .ref q84, .int (-1), .null, .ref m0])), (q12, .inl (Z 0, 60, .inl (fun _ => 0))), (q20, .inl (Z 0, 6, .inl (fun _ => 0))), (q28, .inl (Z 0, 6, .inl (fun _ => 0))), (q36, .inl (Z 0, 6, .inl (fun _ => 0))), (q44, .inl (Z 0, 8, .inl (fun _ => 0))), (q52, .inl (Z 0, 8, .inl (fun _ => 0))), (q60, .inl (Z 0, 8, .inl (fun _ => 0))), (q68, .inl (Z 0, 8, .inl (fun _ => 0))), (q76, .inl (Z 0, 8, .inl (fun _ => 0))), (q84, .inl (Z 0, 8, .inl (fun _ => 0))), (q98, .inl (Z 0, 400, .inl (fun _ => 0)))] A s.heap H locs := hT
  refine w_putF (C := RX7) (T := TX7) (N := 15) (ci := 7) (q0 := 0) (k := 13) (ty0 := tyX7) (ty := .array .int) (ws' := [(h0, .inr (7, [.int 0, .int 0, .ref q12, .ref q20, .ref q28, .ref q36, .ref q44, .ref q52, .ref q60, .ref q68, .ref q76, .ref q84, .int (-1), .ref q98, .ref m0])), (q12, .inl (Z 0, 60, .inl (fun _ => 0))), (q20, .inl (Z 0, 6, .inl (fun _ => 0))), (q28, .inl (Z 0, 6, .inl (fun _ => 0))), (q36, .inl (Z 0, 6, .inl (fun _ => 0))), (q44, .inl (Z 0, 8, .inl (fun _ => 0))), (q52, .inl (Z 0, 8, .inl (fun _ => 0))), (q60, .inl (Z 0, 8, .inl (fun _ => 0))), (q68, .inl (Z 0, 8, .inl (fun _ => 0))), (q76, .inl (Z 0, 8, .inl (fun _ => 0))), (q84, .inl (Z 0, 8, .inl (fun _ => 0))), (q98, .inl (Z 0, 400, .inl (fun _ => 0)))]) hC hK hnm hT fi_X7 tyX7_ok nmX7 rfl rfl (by decide) rfl rfl rfl rfl rfl rfl (Nat.le_of_ble_eq_true rfl) rfl wq_1382 dX7_init_100 (fun H locs hT => ?_)
  exact hret 103 ls _ _ (some (asc [(200, h0), (202, q12), (203, q20), (204, q28), (205, q36), (206, q44), (207, q52), (208, q60), (209, q68), (210, q76), (211, q84), (213, q98)])) ⟨_, rfl, rfl⟩ hT dX7_init_103
