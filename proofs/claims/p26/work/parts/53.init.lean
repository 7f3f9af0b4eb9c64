theorem wq_252 : Cond.methodLink RX0 3 objectInit ∈ lw_g := lw_g_mk (tb_1 (List.mem_of_getElem? (i := 188) rfl)) rfl
theorem wq_246 : Cond.methodLink RX1 3 objectInit ∈ lw_g := lw_g_mk (tb_1 (List.mem_of_getElem? (i := 182) rfl)) rfl
theorem wq_247 : Cond.classLink RX1 67 RX0 ∈ lw_g := lw_g_mk (tb_1 (List.mem_of_getElem? (i := 183) rfl)) rfl
theorem wq_248 : Cond.instantiable RX0 8 ∈ lw_g := lw_g_mk (tb_1 (List.mem_of_getElem? (i := 184) rfl)) rfl
theorem wn_249 : Cond.methodLinkNest RX1 69 yX0_init RX5 ∈ lw_n := lw_n_mk (tb_1 (List.mem_of_getElem? (i := 185) rfl)) rfl
theorem wq_250 : Cond.instanceMethod yX0_init ∈ lw_g := lw_g_mk (tb_1 (List.mem_of_getElem? (i := 186) rfl)) rfl
theorem wq_424 : Cond.methodLink RX4 3 objectInit ∈ lw_g := lw_g_mk (tb_2 (List.mem_of_getElem? (i := 120) rfl)) rfl
theorem wq_251 : Cond.code yX0_init cX0_init 1 none ∈ lw_g := lw_g_mk (tb_1 (List.mem_of_getElem? (i := 187) rfl)) rfl
theorem wq_245 : Cond.code yX1_init cX1_init 1 none ∈ lw_g := lw_g_mk (tb_1 (List.mem_of_getElem? (i := 181) rfl)) rfl
theorem wq_423 : Cond.code yX4_init cX4_init 2 none ∈ lw_g := lw_g_mk (tb_2 (List.mem_of_getElem? (i := 119) rfl)) rfl
def tT0 : M2 := up2 zM 3 (fun _ => -1)
theorem dX0_init_0 : decode cX0_init 0 = .ok (.aload_n 0, 1) := by decide +kernel
theorem dX0_init_1 : decode cX0_init 1 = .ok (.invokespecial 3, 3) := by decide +kernel
theorem dX0_init_4 : decode cX0_init 4 = .ok (.aload_n 0, 1) := by decide +kernel
theorem dX0_init_5 : decode cX0_init 5 = .ok (.iconst 0, 1) := by decide +kernel
theorem dX0_init_6 : decode cX0_init 6 = .ok (.putfield 9, 3) := by decide +kernel
theorem dX0_init_9 : decode cX0_init 9 = .ok (.aload_n 0, 1) := by decide +kernel
theorem dX0_init_10 : decode cX0_init 10 = .ok (.bipush 16, 2) := by decide +kernel
theorem dX0_init_12 : decode cX0_init 12 = .ok (.newarray .int, 2) := by decide +kernel
theorem dX0_init_14 : decode cX0_init 14 = .ok (.putfield 15, 3) := by decide +kernel
theorem dX0_init_17 : decode cX0_init 17 = .ok (.aload_n 0, 1) := by decide +kernel
theorem dX0_init_18 : decode cX0_init 18 = .ok (.bipush 16, 2) := by decide +kernel
theorem dX0_init_20 : decode cX0_init 20 = .ok (.newarray .int, 2) := by decide +kernel
theorem dX0_init_22 : decode cX0_init 22 = .ok (.putfield 19, 3) := by decide +kernel
theorem dX0_init_25 : decode cX0_init 25 = .ok (.aload_n 0, 1) := by decide +kernel
theorem dX0_init_26 : decode cX0_init 26 = .ok (.bipush 16, 2) := by decide +kernel
theorem dX0_init_28 : decode cX0_init 28 = .ok (.newarray .int, 2) := by decide +kernel
theorem dX0_init_30 : decode cX0_init 30 = .ok (.putfield 22, 3) := by decide +kernel
theorem dX0_init_33 : decode cX0_init 33 = .ok (.aload_n 0, 1) := by decide +kernel
theorem dX0_init_34 : decode cX0_init 34 = .ok (.bipush 16, 2) := by decide +kernel
theorem dX0_init_36 : decode cX0_init 36 = .ok (.newarray .int, 2) := by decide +kernel
theorem dX0_init_38 : decode cX0_init 38 = .ok (.putfield 25, 3) := by decide +kernel
theorem dX0_init_41 : decode cX0_init 41 = .ok (.aload_n 0, 1) := by decide +kernel
theorem dX0_init_42 : decode cX0_init 42 = .ok (.iconst 0, 1) := by decide +kernel
theorem dX0_init_43 : decode cX0_init 43 = .ok (.putfield 28, 3) := by decide +kernel
theorem dX0_init_46 : decode cX0_init 46 = .ok (.aload_n 0, 1) := by decide +kernel
theorem dX0_init_47 : decode cX0_init 47 = .ok (.sipush 400, 3) := by decide +kernel
theorem dX0_init_50 : decode cX0_init 50 = .ok (.newarray .int, 2) := by decide +kernel
theorem dX0_init_52 : decode cX0_init 52 = .ok (.putfield 31, 3) := by decide +kernel
theorem dX0_init_55 : decode cX0_init 55 = .ok (.aload_n 0, 1) := by decide +kernel
theorem dX0_init_56 : decode cX0_init 56 = .ok (.sipush 400, 3) := by decide +kernel
theorem dX0_init_59 : decode cX0_init 59 = .ok (.newarray .int, 2) := by decide +kernel
theorem dX0_init_61 : decode cX0_init 61 = .ok (.putfield 34, 3) := by decide +kernel
theorem dX0_init_64 : decode cX0_init 64 = .ok (.return_, 1) := by decide +kernel
theorem dX1_init_0 : decode cX1_init 0 = .ok (.aload_n 0, 1) := by decide +kernel
theorem dX1_init_1 : decode cX1_init 1 = .ok (.invokespecial 3, 3) := by decide +kernel
theorem dX1_init_4 : decode cX1_init 4 = .ok (.aload_n 0, 1) := by decide +kernel
theorem dX1_init_5 : decode cX1_init 5 = .ok (.iconst 0, 1) := by decide +kernel
theorem dX1_init_6 : decode cX1_init 6 = .ok (.putfield 9, 3) := by decide +kernel
theorem dX1_init_9 : decode cX1_init 9 = .ok (.aload_n 0, 1) := by decide +kernel
theorem dX1_init_10 : decode cX1_init 10 = .ok (.iconst 0, 1) := by decide +kernel
theorem dX1_init_11 : decode cX1_init 11 = .ok (.putfield 15, 3) := by decide +kernel
theorem dX1_init_14 : decode cX1_init 14 = .ok (.aload_n 0, 1) := by decide +kernel
theorem dX1_init_15 : decode cX1_init 15 = .ok (.iconst 0, 1) := by decide +kernel
theorem dX1_init_16 : decode cX1_init 16 = .ok (.putfield 18, 3) := by decide +kernel
theorem dX1_init_19 : decode cX1_init 19 = .ok (.aload_n 0, 1) := by decide +kernel
theorem dX1_init_20 : decode cX1_init 20 = .ok (.iconst 0, 1) := by decide +kernel
theorem dX1_init_21 : decode cX1_init 21 = .ok (.putfield 21, 3) := by decide +kernel
theorem dX1_init_24 : decode cX1_init 24 = .ok (.aload_n 0, 1) := by decide +kernel
theorem dX1_init_25 : decode cX1_init 25 = .ok (.iconst 0, 1) := by decide +kernel
theorem dX1_init_26 : decode cX1_init 26 = .ok (.putfield 24, 3) := by decide +kernel
theorem dX1_init_29 : decode cX1_init 29 = .ok (.aload_n 0, 1) := by decide +kernel
theorem dX1_init_30 : decode cX1_init 30 = .ok (.iconst 5, 1) := by decide +kernel
theorem dX1_init_31 : decode cX1_init 31 = .ok (.newarray .int, 2) := by decide +kernel
theorem dX1_init_33 : decode cX1_init 33 = .ok (.putfield 27, 3) := by decide +kernel
theorem dX1_init_36 : decode cX1_init 36 = .ok (.aload_n 0, 1) := by decide +kernel
theorem dX1_init_37 : decode cX1_init 37 = .ok (.iconst 5, 1) := by decide +kernel
theorem dX1_init_38 : decode cX1_init 38 = .ok (.newarray .int, 2) := by decide +kernel
theorem dX1_init_40 : decode cX1_init 40 = .ok (.putfield 31, 3) := by decide +kernel
theorem dX1_init_43 : decode cX1_init 43 = .ok (.aload_n 0, 1) := by decide +kernel
theorem dX1_init_44 : decode cX1_init 44 = .ok (.iconst 5, 1) := by decide +kernel
theorem dX1_init_45 : decode cX1_init 45 = .ok (.newarray .int, 2) := by decide +kernel
theorem dX1_init_47 : decode cX1_init 47 = .ok (.putfield 34, 3) := by decide +kernel
theorem dX1_init_50 : decode cX1_init 50 = .ok (.aload_n 0, 1) := by decide +kernel
theorem dX1_init_51 : decode cX1_init 51 = .ok (.bipush 60, 2) := by decide +kernel
theorem dX1_init_53 : decode cX1_init 53 = .ok (.newarray .int, 2) := by decide +kernel
theorem dX1_init_55 : decode cX1_init 55 = .ok (.putfield 37, 3) := by decide +kernel
theorem dX1_init_58 : decode cX1_init 58 = .ok (.aload_n 0, 1) := by decide +kernel
theorem dX1_init_59 : decode cX1_init 59 = .ok (.iconst 4, 1) := by decide +kernel
theorem dX1_init_60 : decode cX1_init 60 = .ok (.newarray .int, 2) := by decide +kernel
theorem dX1_init_62 : decode cX1_init 62 = .ok (.putfield 40, 3) := by decide +kernel
theorem dX1_init_65 : decode cX1_init 65 = .ok (.aload_n 0, 1) := by decide +kernel
theorem dX1_init_66 : decode cX1_init 66 = .ok (.iconst 4, 1) := by decide +kernel
theorem dX1_init_67 : decode cX1_init 67 = .ok (.newarray .int, 2) := by decide +kernel
theorem dX1_init_69 : decode cX1_init 69 = .ok (.putfield 43, 3) := by decide +kernel
theorem dX1_init_72 : decode cX1_init 72 = .ok (.aload_n 0, 1) := by decide +kernel
theorem dX1_init_73 : decode cX1_init 73 = .ok (.bipush 6, 2) := by decide +kernel
theorem dX1_init_75 : decode cX1_init 75 = .ok (.newarray .int, 2) := by decide +kernel
theorem dX1_init_77 : decode cX1_init 77 = .ok (.putfield 46, 3) := by decide +kernel
theorem dX1_init_80 : decode cX1_init 80 = .ok (.aload_n 0, 1) := by decide +kernel
theorem dX1_init_81 : decode cX1_init 81 = .ok (.bipush 6, 2) := by decide +kernel
theorem dX1_init_83 : decode cX1_init 83 = .ok (.newarray .int, 2) := by decide +kernel
theorem dX1_init_85 : decode cX1_init 85 = .ok (.putfield 49, 3) := by decide +kernel
theorem dX1_init_88 : decode cX1_init 88 = .ok (.aload_n 0, 1) := by decide +kernel
theorem dX1_init_89 : decode cX1_init 89 = .ok (.bipush 8, 2) := by decide +kernel
theorem dX1_init_91 : decode cX1_init 91 = .ok (.newarray .int, 2) := by decide +kernel
theorem dX1_init_93 : decode cX1_init 93 = .ok (.putfield 52, 3) := by decide +kernel
theorem dX1_init_96 : decode cX1_init 96 = .ok (.aload_n 0, 1) := by decide +kernel
theorem dX1_init_97 : decode cX1_init 97 = .ok (.bipush 8, 2) := by decide +kernel
theorem dX1_init_99 : decode cX1_init 99 = .ok (.newarray .int, 2) := by decide +kernel
theorem dX1_init_101 : decode cX1_init 101 = .ok (.putfield 55, 3) := by decide +kernel
theorem dX1_init_104 : decode cX1_init 104 = .ok (.aload_n 0, 1) := by decide +kernel
theorem dX1_init_105 : decode cX1_init 105 = .ok (.bipush 8, 2) := by decide +kernel
theorem dX1_init_107 : decode cX1_init 107 = .ok (.newarray .int, 2) := by decide +kernel
theorem dX1_init_109 : decode cX1_init 109 = .ok (.putfield 58, 3) := by decide +kernel
theorem dX1_init_112 : decode cX1_init 112 = .ok (.aload_n 0, 1) := by decide +kernel
theorem dX1_init_113 : decode cX1_init 113 = .ok (.bipush 8, 2) := by decide +kernel
theorem dX1_init_115 : decode cX1_init 115 = .ok (.newarray .int, 2) := by decide +kernel
theorem dX1_init_117 : decode cX1_init 117 = .ok (.putfield 61, 3) := by decide +kernel
theorem dX1_init_120 : decode cX1_init 120 = .ok (.aload_n 0, 1) := by decide +kernel
theorem dX1_init_121 : decode cX1_init 121 = .ok (.bipush 8, 2) := by decide +kernel
theorem dX1_init_123 : decode cX1_init 123 = .ok (.newarray .int, 2) := by decide +kernel
theorem dX1_init_125 : decode cX1_init 125 = .ok (.putfield 64, 3) := by decide +kernel
theorem dX1_init_128 : decode cX1_init 128 = .ok (.aload_n 0, 1) := by decide +kernel
theorem dX1_init_129 : decode cX1_init 129 = .ok (.new 67, 3) := by decide +kernel
theorem dX1_init_132 : decode cX1_init 132 = .ok (.dup, 1) := by decide +kernel
theorem dX1_init_133 : decode cX1_init 133 = .ok (.invokespecial 69, 3) := by decide +kernel
theorem dX1_init_136 : decode cX1_init 136 = .ok (.putfield 70, 3) := by decide +kernel
theorem dX1_init_139 : decode cX1_init 139 = .ok (.return_, 1) := by decide +kernel
theorem dX4_init_0 : decode cX4_init 0 = .ok (.aload_n 0, 1) := by decide +kernel
theorem dX4_init_1 : decode cX4_init 1 = .ok (.invokespecial 3, 3) := by decide +kernel
theorem dX4_init_4 : decode cX4_init 4 = .ok (.aload_n 0, 1) := by decide +kernel
theorem dX4_init_5 : decode cX4_init 5 = .ok (.iconst 0, 1) := by decide +kernel
theorem dX4_init_6 : decode cX4_init 6 = .ok (.putfield 9, 3) := by decide +kernel
theorem dX4_init_9 : decode cX4_init 9 = .ok (.aload_n 0, 1) := by decide +kernel
theorem dX4_init_10 : decode cX4_init 10 = .ok (.iconst 0, 1) := by decide +kernel
theorem dX4_init_11 : decode cX4_init 11 = .ok (.putfield 15, 3) := by decide +kernel
theorem dX4_init_14 : decode cX4_init 14 = .ok (.aload_n 0, 1) := by decide +kernel
theorem dX4_init_15 : decode cX4_init 15 = .ok (.iconst (-1), 1) := by decide +kernel
theorem dX4_init_16 : decode cX4_init 16 = .ok (.putfield 18, 3) := by decide +kernel
theorem dX4_init_19 : decode cX4_init 19 = .ok (.aload_n 0, 1) := by decide +kernel
theorem dX4_init_20 : decode cX4_init 20 = .ok (.bipush 60, 2) := by decide +kernel
theorem dX4_init_22 : decode cX4_init 22 = .ok (.newarray .int, 2) := by decide +kernel
theorem dX4_init_24 : decode cX4_init 24 = .ok (.putfield 21, 3) := by decide +kernel
theorem dX4_init_27 : decode cX4_init 27 = .ok (.aload_n 0, 1) := by decide +kernel
theorem dX4_init_28 : decode cX4_init 28 = .ok (.bipush 6, 2) := by decide +kernel
theorem dX4_init_30 : decode cX4_init 30 = .ok (.newarray .int, 2) := by decide +kernel
theorem dX4_init_32 : decode cX4_init 32 = .ok (.putfield 25, 3) := by decide +kernel
theorem dX4_init_35 : decode cX4_init 35 = .ok (.aload_n 0, 1) := by decide +kernel
theorem dX4_init_36 : decode cX4_init 36 = .ok (.bipush 6, 2) := by decide +kernel
theorem dX4_init_38 : decode cX4_init 38 = .ok (.newarray .int, 2) := by decide +kernel
theorem dX4_init_40 : decode cX4_init 40 = .ok (.putfield 28, 3) := by decide +kernel
theorem dX4_init_43 : decode cX4_init 43 = .ok (.aload_n 0, 1) := by decide +kernel
theorem dX4_init_44 : decode cX4_init 44 = .ok (.bipush 6, 2) := by decide +kernel
theorem dX4_init_46 : decode cX4_init 46 = .ok (.newarray .int, 2) := by decide +kernel
theorem dX4_init_48 : decode cX4_init 48 = .ok (.putfield 31, 3) := by decide +kernel
theorem dX4_init_51 : decode cX4_init 51 = .ok (.aload_n 0, 1) := by decide +kernel
theorem dX4_init_52 : decode cX4_init 52 = .ok (.bipush 8, 2) := by decide +kernel
theorem dX4_init_54 : decode cX4_init 54 = .ok (.newarray .int, 2) := by decide +kernel
theorem dX4_init_56 : decode cX4_init 56 = .ok (.putfield 34, 3) := by decide +kernel
theorem dX4_init_59 : decode cX4_init 59 = .ok (.aload_n 0, 1) := by decide +kernel
theorem dX4_init_60 : decode cX4_init 60 = .ok (.bipush 8, 2) := by decide +kernel
theorem dX4_init_62 : decode cX4_init 62 = .ok (.newarray .int, 2) := by decide +kernel
theorem dX4_init_64 : decode cX4_init 64 = .ok (.putfield 37, 3) := by decide +kernel
theorem dX4_init_67 : decode cX4_init 67 = .ok (.aload_n 0, 1) := by decide +kernel
theorem dX4_init_68 : decode cX4_init 68 = .ok (.bipush 8, 2) := by decide +kernel
theorem dX4_init_70 : decode cX4_init 70 = .ok (.newarray .int, 2) := by decide +kernel
theorem dX4_init_72 : decode cX4_init 72 = .ok (.putfield 40, 3) := by decide +kernel
theorem dX4_init_75 : decode cX4_init 75 = .ok (.aload_n 0, 1) := by decide +kernel
theorem dX4_init_76 : decode cX4_init 76 = .ok (.bipush 8, 2) := by decide +kernel
theorem dX4_init_78 : decode cX4_init 78 = .ok (.newarray .int, 2) := by decide +kernel
theorem dX4_init_80 : decode cX4_init 80 = .ok (.putfield 43, 3) := by decide +kernel
theorem dX4_init_83 : decode cX4_init 83 = .ok (.aload_n 0, 1) := by decide +kernel
theorem dX4_init_84 : decode cX4_init 84 = .ok (.bipush 8, 2) := by decide +kernel
theorem dX4_init_86 : decode cX4_init 86 = .ok (.newarray .int, 2) := by decide +kernel
theorem dX4_init_88 : decode cX4_init 88 = .ok (.putfield 46, 3) := by decide +kernel
theorem dX4_init_91 : decode cX4_init 91 = .ok (.aload_n 0, 1) := by decide +kernel
theorem dX4_init_92 : decode cX4_init 92 = .ok (.bipush 8, 2) := by decide +kernel
theorem dX4_init_94 : decode cX4_init 94 = .ok (.newarray .int, 2) := by decide +kernel
theorem dX4_init_96 : decode cX4_init 96 = .ok (.putfield 49, 3) := by decide +kernel
theorem dX4_init_99 : decode cX4_init 99 = .ok (.aload_n 0, 1) := by decide +kernel
theorem dX4_init_100 : decode cX4_init 100 = .ok (.sipush 400, 3) := by decide +kernel
theorem dX4_init_103 : decode cX4_init 103 = .ok (.newarray .int, 2) := by decide +kernel
theorem dX4_init_105 : decode cX4_init 105 = .ok (.putfield 52, 3) := by decide +kernel
theorem dX4_init_108 : decode cX4_init 108 = .ok (.aload_n 0, 1) := by decide +kernel
theorem dX4_init_109 : decode cX4_init 109 = .ok (.aload_n 1, 1) := by decide +kernel
theorem dX4_init_110 : decode cX4_init 110 = .ok (.putfield 55, 3) := by decide +kernel
theorem dX4_init_113 : decode cX4_init 113 = .ok (.return_, 1) := by decide +kernel
theorem mi_X0_init : MInfo yX0_init cX0_init 1 none 0 := ⟨wq_251, wq_82, by decide, ⟨by decide +kernel, by decide +kernel, by decide +kernel⟩, by decide +kernel⟩
theorem mi_X1_init : MInfo yX1_init cX1_init 1 none 0 := ⟨wq_245, wq_81, by decide, ⟨by decide +kernel, by decide +kernel, by decide +kernel⟩, by decide +kernel⟩
theorem mi_X4_init : MInfo yX4_init cX4_init 2 none 1 := ⟨wq_423, wq_83, by decide, ⟨by decide +kernel, by decide +kernel, by decide +kernel⟩, by decide +kernel⟩
def iw_X0_init (Z : Nat → ClassId) (h0 : Nat) : Option (Nat → Nat) → va_W
  | none => [(h0, .inr (0, [.int 0, .null, .null, .null, .null, .int 0, .null, .null]))]
  | some a => [(a 40, .inr (0, [.int (zM 40 0), .ref (a 41), .ref (a 42), .ref (a 43), .ref (a 44), .int (zM 45 0), .ref (a 46), .ref (a 47)])), (a 41, .inl (Z 0, 16, .inl (zM 41))), (a 42, .inl (Z 0, 16, .inl (zM 42))), (a 43, .inl (Z 0, 16, .inl (zM 43))), (a 44, .inl (Z 0, 16, .inl (zM 44))), (a 46, .inl (Z 0, 400, .inl (zM 46))), (a 47, .inl (Z 0, 400, .inl (zM 47)))]
set_option maxRecDepth 100000 in
set_option maxHeartbeats 4000000 in
theorem c_X0_init (l : Launch) (D : va_G) (Z : Nat → ClassId) (sz h0 : Nat) : Met l yX0_init (wy yX0_init cX0_init 1 none) (rk 1 6 864) (pre vwCl D Z (iw_X0_init Z h0 none) sz [.ref h0]) (poV vwCl D Z (iw_X0_init Z h0) none sz (fun u => ∃ a, u = some a ∧ a 40 = h0)) 6 864 (va_A (iw_X0_init Z h0 none) sz) := by
  refine rwv_of (wsF := iw_X0_init Z h0) (u0 := none) (by decide +kernel) (Nat.le_of_ble_eq_true rfl) rfl ?_
  intro p e s m args below meth c Q A hC hN hsz hnm hT hK hret ls hl
  have hx := hC.1
  have hb := hC.2.1
  have hl : lv_has ls 1 [(0, .ref h0)] := hl
  have hT : TS vwCl D [(h0, .inr (0, [.int 0, .null, .null, .null, .null, .int 0, .null, .null]))] A s.heap s.heap [] := hT
  refine lv_aload_n hx hb dX0_init_0 rfl (lv_at hl 0 rfl) ?_
  refine w_objInit hC wq_252 wq_96 wq_97 hl.1 (by decide) (Nat.le_of_ble_eq_true rfl) dX0_init_1 ?_
  refine lv_aload_n hx hb dX0_init_4 rfl (lv_at hl 0 rfl) ?_
  refine lv_iconst (v := 0) hx hb dX0_init_5 (by decide) ?_
  refine w_put (C := RX0) (T := TX0) (N := 8) (ci := 0) (q0 := 0) (k := 0) (ty0 := tyX0) (ty := .int) (ws' := [(h0, .inr (0, [.int 0, .null, .null, .null, .null, .int 0, .null, .null]))]) hC hK hT fi_X0 tyX0_ok nmX0 rfl rfl (by decide) rfl rfl rfl rfl rfl (Nat.le_of_ble_eq_true rfl) rfl wq_253 dX0_init_6 (fun H locs hT => ?_)
  refine lv_aload_n hx hb dX0_init_9 rfl (lv_at hl 0 rfl) ?_
  refine lv_bipush (v := 16) hx hb dX0_init_10 (by decide) ?_
  refine w_newI (N := 16) hC hK hT wq_240 (by decide) (by decide) (by decide) (Nat.le_of_ble_eq_true rfl) (Nat.le_of_ble_eq_true rfl) dX0_init_12 (fun q12 H hT => ?_)
  refine W.widen (k := 1) (n := 16) (Nat.le_of_ble_eq_true rfl) (Nat.le_of_ble_eq_true rfl) ?_
  have hT : TS vwCl D [(h0, .inr (0, [.int 0, .null, .null, .null, .null, .int 0, .null, .null])), (q12, .inl (Z 0, 16, .inl (fun _ => 0)))] A s.heap H locs := hT
  refine w_putF (C := RX0) (T := TX0) (N := 8) (ci := 0) (q0 := 0) (k := 1) (ty0 := tyX0) (ty := .array .int) (ws' := [(h0, .inr (0, [.int 0, .ref q12, .null, .null, .null, .int 0, .null, .null])), (q12, .inl (Z 0, 16, .inl (fun _ => 0)))]) hC hK hnm hT fi_X0 tyX0_ok nmX0 rfl rfl (by decide) rfl rfl rfl rfl rfl rfl (Nat.le_of_ble_eq_true rfl) rfl wq_257 dX0_init_14 (fun H locs hT => ?_)
  refine lv_aload_n hx hb dX0_init_17 rfl (lv_at hl 0 rfl) ?_
  refine lv_bipush (v := 16) hx hb dX0_init_18 (by decide) ?_
  refine w_newI (N := 16) hC hK hT wq_240 (by decide) (by decide) (by decide) (Nat.le_of_ble_eq_true rfl) (Nat.le_of_ble_eq_true rfl) dX0_init_20 (fun q20 H hT => ?_)
  refine W.widen (k := 2) (n := 32) (Nat.le_of_ble_eq_true rfl) (Nat.le_of_ble_eq_true rfl) ?_
  have hT : TS vwCl D [(h0, .inr (0, [.int 0, .ref q12, .null, .null, .null, .int 0, .null, .null])), (q12, .inl (Z 0, 16, .inl (fun _ => 0))), (q20, .inl (Z 0, 16, .inl (fun _ => 0)))] A s.heap H locs := hT
  refine w_putF (C := RX0) (T := TX0) (N := 8) (ci := 0) (q0 := 0) (k := 2) (ty0 := tyX0) (ty := .array .int) (ws' := [(h0, .inr (0, [.int 0, .ref q12, .ref q20, .null, .null, .int 0, .null, .null])), (q12, .inl (Z 0, 16, .inl (fun _ => 0))), (q20, .inl (Z 0, 16, .inl (fun _ => 0)))]) hC hK hnm hT fi_X0 tyX0_ok nmX0 rfl rfl (by decide) rfl rfl rfl rfl rfl rfl (Nat.le_of_ble_eq_true rfl) rfl wq_259 dX0_init_22 (fun H locs hT => ?_)
  refine lv_aload_n hx hb dX0_init_25 rfl (lv_at hl 0 rfl) ?_
  refine lv_bipush (v := 16) hx hb dX0_init_26 (by decide) ?_
  refine w_newI (N := 16) hC hK hT wq_240 (by decide) (by decide) (by decide) (Nat.le_of_ble_eq_true rfl) (Nat.le_of_ble_eq_true rfl) dX0_init_28 (fun q28 H hT => ?_)
  refine W.widen (k := 3) (n := 48) (Nat.le_of_ble_eq_true rfl) (Nat.le_of_ble_eq_true rfl) ?_
  have hT : TS vwCl D [(h0, .inr (0, [.int 0, .ref q12, .ref q20, .null, .null, .int 0, .null, .null])), (q12, .inl (Z 0, 16, .inl (fun _ => 0))), (q20, .inl (Z 0, 16, .inl (fun _ => 0))), (q28, .inl (Z 0, 16, .inl (fun _ => 0)))] A s.heap H locs := hT
  refine w_putF (C := RX0) (T := TX0) (N := 8) (ci := 0) (q0 := 0) (k := 3) (ty0 := tyX0) (ty := .array .int) (ws' := [(h0, .inr (0, [.int 0, .ref q12, .ref q20, .ref q28, .null, .int 0, .null, .null])), (q12, .inl (Z 0, 16, .inl (fun _ => 0))), (q20, .inl (Z 0, 16, .inl (fun _ => 0))), (q28, .inl (Z 0, 16, .inl (fun _ => 0)))]) hC hK hnm hT fi_X0 tyX0_ok nmX0 rfl rfl (by decide) rfl rfl rfl rfl rfl rfl (Nat.le_of_ble_eq_true rfl) rfl wq_261 dX0_init_30 (fun H locs hT => ?_)
  refine lv_aload_n hx hb dX0_init_33 rfl (lv_at hl 0 rfl) ?_
  refine lv_bipush (v := 16) hx hb dX0_init_34 (by decide) ?_
  refine w_newI (N := 16) hC hK hT wq_240 (by decide) (by decide) (by decide) (Nat.le_of_ble_eq_true rfl) (Nat.le_of_ble_eq_true rfl) dX0_init_36 (fun q36 H hT => ?_)
  refine W.widen (k := 4) (n := 64) (Nat.le_of_ble_eq_true rfl) (Nat.le_of_ble_eq_true rfl) ?_
  have hT : TS vwCl D [(h0, .inr (0, [.int 0, .ref q12, .ref q20, .ref q28, .null, .int 0, .null, .null])), (q12, .inl (Z 0, 16, .inl (fun _ => 0))), (q20, .inl (Z 0, 16, .inl (fun _ => 0))), (q28, .inl (Z 0, 16, .inl (fun _ => 0))), (q36, .inl (Z 0, 16, .inl (fun _ => 0)))] A s.heap H locs := hT
  refine w_putF (C := RX0) (T := TX0) (N := 8) (ci := 0) (q0 := 0) (k := 4) (ty0 := tyX0) (ty := .array .int) (ws' := [(h0, .inr (0, [.int 0, .ref q12, .ref q20, .ref q28, .ref q36, .int 0, .null, .null])), (q12, .inl (Z 0, 16, .inl (fun _ => 0))), (q20, .inl (Z 0, 16, .inl (fun _ => 0))), (q28, .inl (Z 0, 16, .inl (fun _ => 0))), (q36, .inl (Z 0, 16, .inl (fun _ => 0)))]) hC hK hnm hT fi_X0 tyX0_ok nmX0 rfl rfl (by decide) rfl rfl rfl rfl rfl rfl (Nat.le_of_ble_eq_true rfl) rfl wq_263 dX0_init_38 (fun H locs hT => ?_)
  refine lv_aload_n hx hb dX0_init_41 rfl (lv_at hl 0 rfl) ?_
  refine lv_iconst (v := 0) hx hb dX0_init_42 (by decide) ?_
  refine w_put (C := RX0) (T := TX0) (N := 8) (ci := 0) (q0 := 0) (k := 5) (ty0 := tyX0) (ty := .int) (ws' := [(h0, .inr (0, [.int 0, .ref q12, .ref q20, .ref q28, .ref q36, .int 0, .null, .null])), (q12, .inl (Z 0, 16, .inl (fun _ => 0))), (q20, .inl (Z 0, 16, .inl (fun _ => 0))), (q28, .inl (Z 0, 16, .inl (fun _ => 0))), (q36, .inl (Z 0, 16, .inl (fun _ => 0)))]) hC hK hT fi_X0 tyX0_ok nmX0 rfl rfl (by decide) rfl rfl rfl rfl rfl (Nat.le_of_ble_eq_true rfl) rfl wq_265 dX0_init_43 (fun H locs hT => ?_)
  refine lv_aload_n hx hb dX0_init_46 rfl (lv_at hl 0 rfl) ?_
  refine lv_sipush (v := 400) hx hb dX0_init_47 (by decide) ?_
  refine w_newI (N := 400) hC hK hT wq_240 (by decide) (by decide) (by decide) (Nat.le_of_ble_eq_true rfl) (Nat.le_of_ble_eq_true rfl) dX0_init_50 (fun q50 H hT => ?_)
  refine W.widen (k := 5) (n := 464) (Nat.le_of_ble_eq_true rfl) (Nat.le_of_ble_eq_true rfl) ?_
  have hT : TS vwCl D [(h0, .inr (0, [.int 0, .ref q12, .ref q20, .ref q28, .ref q36, .int 0, .null, .null])), (q12, .inl (Z 0, 16, .inl (fun _ => 0))), (q20, .inl (Z 0, 16, .inl (fun _ => 0))), (q28, .inl (Z 0, 16, .inl (fun _ => 0))), (q36, .inl (Z 0, 16, .inl (fun _ => 0))), (q50, .inl (Z 0, 400, .inl (fun _ => 0)))] A s.heap H locs := hT
  refine w_putF (C := RX0) (T := TX0) (N := 8) (ci := 0) (q0 := 0) (k := 6) (ty0 := tyX0) (ty := .array .int) (ws' := [(h0, .inr (0, [.int 0, .ref q12, .ref q20, .ref q28, .ref q36, .int 0, .ref q50, .null])), (q12, .inl (Z 0, 16, .inl (fun _ => 0))), (q20, .inl (Z 0, 16, .inl (fun _ => 0))), (q28, .inl (Z 0, 16, .inl (fun _ => 0))), (q36, .inl (Z 0, 16, .inl (fun _ => 0))), (q50, .inl (Z 0, 400, .inl (fun _ => 0)))]) hC hK hnm hT fi_X0 tyX0_ok nmX0 rfl rfl (by decide) rfl rfl rfl rfl rfl rfl (Nat.le_of_ble_eq_true rfl) rfl wq_267 dX0_init_52 (fun H locs hT => ?_)
  refine lv_aload_n hx hb dX0_init_55 rfl (lv_at hl 0 rfl) ?_
  refine lv_sipush (v := 400) hx hb dX0_init_56 (by decide) ?_
  refine w_newI (N := 400) hC hK hT wq_240 (by decide) (by decide) (by decide) (Nat.le_of_ble_eq_true rfl) (Nat.le_of_ble_eq_true rfl) dX0_init_59 (fun q59 H hT => ?_)
  refine W.widen (k := 6) (n := 864) (Nat.le_of_ble_eq_true rfl) (Nat.le_of_ble_eq_true rfl) ?_
  have hT : TS vwCl D [(h0, .inr (0, [.int 0, .ref q12, .ref q20, .ref q28, .ref q36, .int 0, .ref q50, .null])), (q12, .inl (Z 0, 16, .inl (fun _ => 0))), (q20, .inl (Z 0, 16, .inl (fun _ => 0))), (q28, .inl (Z 0, 16, .inl (fun _ => 0))), (q36, .inl (Z 0, 16, .inl (fun _ => 0))), (q50, .inl (Z 0, 400, .inl (fun _ => 0))), (q59, .inl (Z 0, 400, .inl (fun _ => 0)))] A s.heap H locs := hT
  refine w_putF (C := RX0) (T := TX0) (N := 8) (ci := 0) (q0 := 0) (k := 7) (ty0 := tyX0) (ty := .array .int) (ws' := [(h0, .inr (0, [.int 0, .ref q12, .ref q20, .ref q28, .ref q36, .int 0, .ref q50, .ref q59])), (q12, .inl (Z 0, 16, .inl (fun _ => 0))), (q20, .inl (Z 0, 16, .inl (fun _ => 0))), (q28, .inl (Z 0, 16, .inl (fun _ => 0))), (q36, .inl (Z 0, 16, .inl (fun _ => 0))), (q50, .inl (Z 0, 400, .inl (fun _ => 0))), (q59, .inl (Z 0, 400, .inl (fun _ => 0)))]) hC hK hnm hT fi_X0 tyX0_ok nmX0 rfl rfl (by decide) rfl rfl rfl rfl rfl rfl (Nat.le_of_ble_eq_true rfl) rfl wq_269 dX0_init_61 (fun H locs hT => ?_)
  exact hret 64 ls _ _ (some (asc [(40, h0), (41, q12), (42, q20), (43, q28), (44, q36), (46, q50), (47, q59)])) ⟨_, rfl, rfl⟩ hT dX0_init_64
def iw_X1_init (Z : Nat → ClassId) (h0 : Nat) : Option (Nat → Nat) → va_W
  | none => [(h0, .inr (1, [.int 0, .int 0, .int 0, .int 0, .int 0, .null, .null, .null, .null, .null, .null, .null, .null, .null, .null, .null, .null, .null, .null]))]
  | some a => [(a 20, .inr (1, [.int (zM 20 0), .int (zM 21 0), .int (zM 22 0), .int (zM 23 0), .int (zM 24 0), .ref (a 25), .ref (a 26), .ref (a 27), .ref (a 28), .ref (a 29), .ref (a 30), .ref (a 31), .ref (a 32), .ref (a 33), .ref (a 34), .ref (a 35), .ref (a 36), .ref (a 37), .ref (a 40)])), (a 25, .inl (Z 0, 5, .inl (zM 25))), (a 26, .inl (Z 0, 5, .inl (zM 26))), (a 27, .inl (Z 0, 5, .inl (zM 27))), (a 28, .inl (Z 0, 60, .inl (zM 28))), (a 29, .inl (Z 0, 4, .inl (zM 29))), (a 30, .inl (Z 0, 4, .inl (zM 30))), (a 31, .inl (Z 0, 6, .inl (zM 31))), (a 32, .inl (Z 0, 6, .inl (zM 32))), (a 33, .inl (Z 0, 8, .inl (zM 33))), (a 34, .inl (Z 0, 8, .inl (zM 34))), (a 35, .inl (Z 0, 8, .inl (zM 35))), (a 36, .inl (Z 0, 8, .inl (zM 36))), (a 37, .inl (Z 0, 8, .inl (zM 37))), (a 40, .inr (0, [.int (zM 40 0), .ref (a 41), .ref (a 42), .ref (a 43), .ref (a 44), .int (zM 45 0), .ref (a 46), .ref (a 47)])), (a 41, .inl (Z 0, 16, .inl (zM 41))), (a 42, .inl (Z 0, 16, .inl (zM 42))), (a 43, .inl (Z 0, 16, .inl (zM 43))), (a 44, .inl (Z 0, 16, .inl (zM 44))), (a 46, .inl (Z 0, 400, .inl (zM 46))), (a 47, .inl (Z 0, 400, .inl (zM 47)))]
set_option maxRecDepth 100000 in
set_option maxHeartbeats 4000000 in
theorem c_X1_init (l : Launch) (D : va_G) (Z : Nat → ClassId) (sz h0 : Nat) : Met l yX1_init (wy yX1_init cX1_init 1 none) (rk 2 20 1007) (pre vwCl D Z (iw_X1_init Z h0 none) sz [.ref h0]) (poV vwCl D Z (iw_X1_init Z h0) none sz (fun u => ∃ a, u = some a ∧ a 20 = h0)) 20 1007 (va_A (iw_X1_init Z h0 none) sz) := by
  refine rwv_of (wsF := iw_X1_init Z h0) (u0 := none) (by decide +kernel) (Nat.le_of_ble_eq_true rfl) rfl ?_
  intro p e s m args below meth c Q A hC hN hsz hnm hT hK hret ls hl
  have hx := hC.1
  have hb := hC.2.1
  have hl : lv_has ls 1 [(0, .ref h0)] := hl
  have hT : TS vwCl D [(h0, .inr (1, [.int 0, .int 0, .int 0, .int 0, .int 0, .null, .null, .null, .null, .null, .null, .null, .null, .null, .null, .null, .null, .null, .null]))] A s.heap s.heap [] := hT
  refine lv_aload_n hx hb dX1_init_0 rfl (lv_at hl 0 rfl) ?_
  refine w_objInit hC wq_246 wq_96 wq_97 hl.1 (by decide) (Nat.le_of_ble_eq_true rfl) dX1_init_1 ?_
  refine lv_aload_n hx hb dX1_init_4 rfl (lv_at hl 0 rfl) ?_
  refine lv_iconst (v := 0) hx hb dX1_init_5 (by decide) ?_
  refine w_put (C := RX1) (T := TX1) (N := 19) (ci := 1) (q0 := 0) (k := 0) (ty0 := tyX1) (ty := .int) (ws' := [(h0, .inr (1, [.int 0, .int 0, .int 0, .int 0, .int 0, .null, .null, .null, .null, .null, .null, .null, .null, .null, .null, .null, .null, .null, .null]))]) hC hK hT fi_X1 tyX1_ok nmX1 rfl rfl (by decide) rfl rfl rfl rfl rfl (Nat.le_of_ble_eq_true rfl) rfl wq_288 dX1_init_6 (fun H locs hT => ?_)
  refine lv_aload_n hx hb dX1_init_9 rfl (lv_at hl 0 rfl) ?_
  refine lv_iconst (v := 0) hx hb dX1_init_10 (by decide) ?_
  refine w_put (C := RX1) (T := TX1) (N := 19) (ci := 1) (q0 := 0) (k := 1) (ty0 := tyX1) (ty := .int) (ws' := [(h0, .inr (1, [.int 0, .int 0, .int 0, .int 0, .int 0, .null, .null, .null, .null, .null, .null, .null, .null, .null, .null, .null, .null, .null, .null]))]) hC hK hT fi_X1 tyX1_ok nmX1 rfl rfl (by decide) rfl rfl rfl rfl rfl (Nat.le_of_ble_eq_true rfl) rfl wq_291 dX1_init_11 (fun H locs hT => ?_)
  refine lv_aload_n hx hb dX1_init_14 rfl (lv_at hl 0 rfl) ?_
  refine lv_iconst (v := 0) hx hb dX1_init_15 (by decide) ?_
  refine w_put (C := RX1) (T := TX1) (N := 19) (ci := 1) (q0 := 0) (k := 2) (ty0 := tyX1) (ty := .int) (ws' := [(h0, .inr (1, [.int 0, .int 0, .int 0, .int 0, .int 0, .null, .null, .null, .null, .null, .null, .null, .null, .null, .null, .null, .null, .null, .null]))]) hC hK hT fi_X1 tyX1_ok nmX1 rfl rfl (by decide) rfl rfl rfl rfl rfl (Nat.le_of_ble_eq_true rfl) rfl wq_295 dX1_init_16 (fun H locs hT => ?_)
  refine lv_aload_n hx hb dX1_init_19 rfl (lv_at hl 0 rfl) ?_
  refine lv_iconst (v := 0) hx hb dX1_init_20 (by decide) ?_
  refine w_put (C := RX1) (T := TX1) (N := 19) (ci := 1) (q0 := 0) (k := 3) (ty0 := tyX1) (ty := .int) (ws' := [(h0, .inr (1, [.int 0, .int 0, .int 0, .int 0, .int 0, .null, .null, .null, .null, .null, .null, .null, .null, .null, .null, .null, .null, .null, .null]))]) hC hK hT fi_X1 tyX1_ok nmX1 rfl rfl (by decide) rfl rfl rfl rfl rfl (Nat.le_of_ble_eq_true rfl) rfl wq_299 dX1_init_21 (fun H locs hT => ?_)
  refine lv_aload_n hx hb dX1_init_24 rfl (lv_at hl 0 rfl) ?_
  refine lv_iconst (v := 0) hx hb dX1_init_25 (by decide) ?_
  refine w_put (C := RX1) (T := TX1) (N := 19) (ci := 1) (q0 := 0) (k := 4) (ty0 := tyX1) (ty := .int) (ws' := [(h0, .inr (1, [.int 0, .int 0, .int 0, .int 0, .int 0, .null, .null, .null, .null, .null, .null, .null, .null, .null, .null, .null, .null, .null, .null]))]) hC hK hT fi_X1 tyX1_ok nmX1 rfl rfl (by decide) rfl rfl rfl rfl rfl (Nat.le_of_ble_eq_true rfl) rfl wq_303 dX1_init_26 (fun H locs hT => ?_)
  refine lv_aload_n hx hb dX1_init_29 rfl (lv_at hl 0 rfl) ?_
  refine lv_iconst (v := 5) hx hb dX1_init_30 (by decide) ?_
  refine w_newI (N := 5) hC hK hT wq_240 (by decide) (by decide) (by decide) (Nat.le_of_ble_eq_true rfl) (Nat.le_of_ble_eq_true rfl) dX1_init_31 (fun q31 H hT => ?_)
  refine W.widen (k := 1) (n := 5) (Nat.le_of_ble_eq_true rfl) (Nat.le_of_ble_eq_true rfl) ?_
  have hT : TS vwCl D [(h0, .inr (1, [.int 0, .int 0, .int 0, .int 0, .int 0, .null, .null, .null, .null, .null, .null, .null, .null, .null, .null, .null, .null, .null, .null])), (q31, .inl (Z 0, 5, .inl (fun _ => 0)))] A s.heap H locs := hT
  refine w_putF (C := RX1) (T := TX1) (N := 19) (ci := 1) (q0 := 0) (k := 5) (ty0 := tyX1) (ty := .array .int) (ws' := [(h0, .inr (1, [.int 0, .int 0, .int 0, .int 0, .int 0, .ref q31, .null, .null, .null, .null, .null, .null, .null, .null, .null, .null, .null, .null, .null])), (q31, .inl (Z 0, 5, .inl (fun _ => 0)))]) hC hK hnm hT fi_X1 tyX1_ok nmX1 rfl rfl (by decide) rfl rfl rfl rfl rfl rfl (Nat.le_of_ble_eq_true rfl) rfl wq_307 dX1_init_33 (fun H locs hT => ?_)
  refine lv_aload_n hx hb dX1_init_36 rfl (lv_at hl 0 rfl) ?_
  refine lv_iconst (v := 5) hx hb dX1_init_37 (by decide) ?_
  refine w_newI (N := 5) hC hK hT wq_240 (by decide) (by decide) (by decide) (Nat.le_of_ble_eq_true rfl) (Nat.le_of_ble_eq_true rfl) dX1_init_38 (fun q38 H hT => ?_)
  refine W.widen (k := 2) (n := 10) (Nat.le_of_ble_eq_true rfl) (Nat.le_of_ble_eq_true rfl) ?_
  have hT : TS vwCl D [(h0, .inr (1, [.int 0, .int 0, .int 0, .int 0, .int 0, .ref q31, .null, .null, .null, .null, .null, .null, .null, .null, .null, .null, .null, .null, .null])), (q31, .inl (Z 0, 5, .inl (fun _ => 0))), (q38, .inl (Z 0, 5, .inl (fun _ => 0)))] A s.heap H locs := hT
  refine w_putF (C := RX1) (T := TX1) (N := 19) (ci := 1) (q0 := 0) (k := 6) (ty0 := tyX1) (ty := .array .int) (ws' := [(h0, .inr (1, [.int 0, .int 0, .int 0, .int 0, .int 0, .ref q31, .ref q38, .null, .null, .null, .null, .null, .null, .null, .null, .null, .null, .null, .null])), (q31, .inl (Z 0, 5, .inl (fun _ => 0))), (q38, .inl (Z 0, 5, .inl (fun _ => 0)))]) hC hK hnm hT fi_X1 tyX1_ok nmX1 rfl rfl (by decide) rfl rfl rfl rfl rfl rfl (Nat.le_of_ble_eq_true rfl) rfl wq_310 dX1_init_40 (fun H locs hT => ?_)
  refine lv_aload_n hx hb dX1_init_43 rfl (lv_at hl 0 rfl) ?_
  refine lv_iconst (v := 5) hx hb dX1_init_44 (by decide) ?_
  refine w_newI (N := 5) hC hK hT wq_240 (by decide) (by decide) (by decide) (Nat.le_of_ble_eq_true rfl) (Nat.le_of_ble_eq_true rfl) dX1_init_45 (fun q45 H hT => ?_)
  refine W.widen (k := 3) (n := 15) (Nat.le_of_ble_eq_true rfl) (Nat.le_of_ble_eq_true rfl) ?_
  have hT : TS vwCl D [(h0, .inr (1, [.int 0, .int 0, .int 0, .int 0, .int 0, .ref q31, .ref q38, .null, .null, .null, .null, .null, .null, .null, .null, .null, .null, .null, .null])), (q31, .inl (Z 0, 5, .inl (fun _ => 0))), (q38, .inl (Z 0, 5, .inl (fun _ => 0))), (q45, .inl (Z 0, 5, .inl (fun _ => 0)))] A s.heap H locs := hT
  refine w_putF (C := RX1) (T := TX1) (N := 19) (ci := 1) (q0 := 0) (k := 7) (ty0 := tyX1) (ty := .array .int) (ws' := [(h0, .inr (1, [.int 0, .int 0, .int 0, .int 0, .int 0, .ref q31, .ref q38, .ref q45, .null, .null, .null, .null, .null, .null, .null, .null, .null, .null, .null])), (q31, .inl (Z 0, 5, .inl (fun _ => 0))), (q38, .inl (Z 0, 5, .inl (fun _ => 0))), (q45, .inl (Z 0, 5, .inl (fun _ => 0)))]) hC hK hnm hT fi_X1 tyX1_ok nmX1 rfl rfl (by decide) rfl rfl rfl rfl rfl rfl (Nat.le_of_ble_eq_true rfl) rfl wq_313 dX1_init_47 (fun H locs hT => ?_)
  refine lv_aload_n hx hb dX1_init_50 rfl (lv_at hl 0 rfl) ?_
  refine lv_bipush (v := 60) hx hb dX1_init_51 (by decide) ?_
  refine w_newI (N := 60) hC hK hT wq_240 (by decide) (by decide) (by decide) (Nat.le_of_ble_eq_true rfl) (Nat.le_of_ble_eq_true rfl) dX1_init_53 (fun q53 H hT => ?_)
  refine W.widen (k := 4) (n := 75) (Nat.le_of_ble_eq_true rfl) (Nat.le_of_ble_eq_true rfl) ?_
  have hT : TS vwCl D [(h0, .inr (1, [.int 0, .int 0, .int 0, .int 0, .int 0, .ref q31, .ref q38, .ref q45, .null, .null, .null, .null, .null, .null, .null, .null, .null, .null, .null])), (q31, .inl (Z 0, 5, .inl (fun _ => 0))), (q38, .inl (Z 0, 5, .inl (fun _ => 0))), (q45, .inl (Z 0, 5, .inl (fun _ => 0))), (q53, .inl (Z 0, 60, .inl (fun _ => 0)))] A s.heap H locs := hT
  refine w_putF (C := RX1) (T := TX1) (N := 19) (ci := 1) (q0 := 0) (k := 8) (ty0 := tyX1) (ty := .array .int) (ws' := [(h0, .inr (1, [.int 0, .int 0, .int 0, .int 0, .int 0, .ref q31, .ref q38, .ref q45, .ref q53, .null, .null, .null, .null, .null, .null, .null, .null, .null, .null])), (q31, .inl (Z 0, 5, .inl (fun _ => 0))), (q38, .inl (Z 0, 5, .inl (fun _ => 0))), (q45, .inl (Z 0, 5, .inl (fun _ => 0))), (q53, .inl (Z 0, 60, .inl (fun _ => 0)))]) hC hK hnm hT fi_X1 tyX1_ok nmX1 rfl rfl (by decide) rfl rfl rfl rfl rfl rfl (Nat.le_of_ble_eq_true rfl) rfl wq_316 dX1_init_55 (fun H locs hT => ?_)
  refine lv_aload_n hx hb dX1_init_58 rfl (lv_at hl 0 rfl) ?_
  refine lv_iconst (v := 4) hx hb dX1_init_59 (by decide) ?_
  refine w_newI (N := 4) hC hK hT wq_240 (by decide) (by decide) (by decide) (Nat.le_of_ble_eq_true rfl) (Nat.le_of_ble_eq_true rfl) dX1_init_60 (fun q60 H hT => ?_)
  refine W.widen (k := 5) (n := 79) (Nat.le_of_ble_eq_true rfl) (Nat.le_of_ble_eq_true rfl) ?_
  have hT : TS vwCl D [(h0, .inr (1, [.int 0, .int 0, .int 0, .int 0, .int 0, .ref q31, .ref q38, .ref q45, .ref q53, .null, .null, .null, .null, .null, .null, .null, .null, .null, .null])), (q31, .inl (Z 0, 5, .inl (fun _ => 0))), (q38, .inl (Z 0, 5, .inl (fun _ => 0))), (q45, .inl (Z 0, 5, .inl (fun _ => 0))), (q53, .inl (Z 0, 60, .inl (fun _ => 0))), (q60, .inl (Z 0, 4, .inl (fun _ => 0)))] A s.heap H locs := hT
  refine w_putF (C := RX1) (T := TX1) (N := 19) (ci := 1) (q0 := 0) (k := 9) (ty0 := tyX1) (ty := .array .int) (ws' := [(h0, .inr (1, [.int 0, .int 0, .int 0, .int 0, .int 0, .ref q31, .ref q38, .ref q45, .ref q53, .ref q60, .null, .null, .null, .null, .null, .null, .null, .null, .null])), (q31, .inl (Z 0, 5, .inl (fun _ => 0))), (q38, .inl (Z 0, 5, .inl (fun _ => 0))), (q45, .inl (Z 0, 5, .inl (fun _ => 0))), (q53, .inl (Z 0, 60, .inl (fun _ => 0))), (q60, .inl (Z 0, 4, .inl (fun _ => 0)))]) hC hK hnm hT fi_X1 tyX1_ok nmX1 rfl rfl (by decide) rfl rfl rfl rfl rfl rfl (Nat.le_of_ble_eq_true rfl) rfl wq_319 dX1_init_62 (fun H locs hT => ?_)
  refine lv_aload_n hx hb dX1_init_65 rfl (lv_at hl 0 rfl) ?_
  refine lv_iconst (v := 4) hx hb dX1_init_66 (by decide) ?_
  refine w_newI (N := 4) hC hK hT wq_240 (by decide) (by decide) (by decide) (Nat.le_of_ble_eq_true rfl) (Nat.le_of_ble_eq_true rfl) dX1_init_67 (fun q67 H hT => ?_)
  refine W.widen (k := 6) (n := 83) (Nat.le_of_ble_eq_true rfl) (Nat.le_of_ble_eq_true rfl) ?_
  have hT : TS vwCl D [(h0, .inr (1, [.int 0, .int 0, .int 0, .int 0, .int 0, .ref q31, .ref q38, .ref q45, .ref q53, .ref q60, .null, .null, .null, .null, .null, .null, .null, .null, .null])), (q31, .inl (Z 0, 5, .inl (fun _ => 0))), (q38, .inl (Z 0, 5, .inl (fun _ => 0))), (q45, .inl (Z 0, 5, .inl (fun _ => 0))), (q53, .inl (Z 0, 60, .inl (fun _ => 0))), (q60, .inl (Z 0, 4, .inl (fun _ => 0))), (q67, .inl (Z 0, 4, .inl (fun _ => 0)))] A s.heap H locs := hT
  refine w_putF (C := RX1) (T := TX1) (N := 19) (ci := 1) (q0 := 0) (k := 10) (ty0 := tyX1) (ty := .array .int) (ws' := [(h0, .inr (1, [.int 0, .int 0, .int 0, .int 0, .int 0, .ref q31, .ref q38, .ref q45, .ref q53, .ref q60, .ref q67, .null, .null, .null, .null, .null, .null, .null, .null])), (q31, .inl (Z 0, 5, .inl (fun _ => 0))), (q38, .inl (Z 0, 5, .inl (fun _ => 0))), (q45, .inl (Z 0, 5, .inl (fun _ => 0))), (q53, .inl (Z 0, 60, .inl (fun _ => 0))), (q60, .inl (Z 0, 4, .inl (fun _ => 0))), (q67, .inl (Z 0, 4, .inl (fun _ => 0)))]) hC hK hnm hT fi_X1 tyX1_ok nmX1 rfl rfl (by decide) rfl rfl rfl rfl rfl rfl (Nat.le_of_ble_eq_true rfl) rfl wq_321 dX1_init_69 (fun H locs hT => ?_)
  refine lv_aload_n hx hb dX1_init_72 rfl (lv_at hl 0 rfl) ?_
  refine lv_bipush (v := 6) hx hb dX1_init_73 (by decide) ?_
  refine w_newI (N := 6) hC hK hT wq_240 (by decide) (by decide) (by decide) (Nat.le_of_ble_eq_true rfl) (Nat.le_of_ble_eq_true rfl) dX1_init_75 (fun q75 H hT => ?_)
  refine W.widen (k := 7) (n := 89) (Nat.le_of_ble_eq_true rfl) (Nat.le_of_ble_eq_true rfl) ?_
  have hT : TS vwCl D [(h0, .inr (1, [.int 0, .int 0, .int 0, .int 0, .int 0, .ref q31, .ref q38, .ref q45, .ref q53, .ref q60, .ref q67, .null, .null, .null, .null, .null, .null, .null, .null])), (q31, .inl (Z 0, 5, .inl (fun _ => 0))), (q38, .inl (Z 0, 5, .inl (fun _ => 0))), (q45, .inl (Z 0, 5, .inl (fun _ => 0))), (q53, .inl (Z 0, 60, .inl (fun _ => 0))), (q60, .inl (Z 0, 4, .inl (fun _ => 0))), (q67, .inl (Z 0, 4, .inl (fun _ => 0))), (q75, .inl (Z 0, 6, .inl (fun _ => 0)))] A s.heap H locs := hT
  refine w_putF (C := RX1) (T := TX1) (N := 19) (ci := 1) (q0 := 0) (k := 11) (ty0 := tyX1) (ty := .array .int) (ws' := [(h0, .inr (1, [.int 0, .int 0, .int 0, .int 0, .int 0, .ref q31, .ref q38, .ref q45, .ref q53, .ref q60, .ref q67, .ref q75, .null, .null, .null, .null, .null, .null, .null])), (q31, .inl (Z 0, 5, .inl (fun _ => 0))), (q38, .inl (Z 0, 5, .inl (fun _ => 0))), (q45, .inl (Z 0, 5, .inl (fun _ => 0))), (q53, .inl (Z 0, 60, .inl (fun _ => 0))), (q60, .inl (Z 0, 4, .inl (fun _ => 0))), (q67, .inl (Z 0, 4, .inl (fun _ => 0))), (q75, .inl (Z 0, 6, .inl (fun _ => 0)))]) hC hK hnm hT fi_X1 tyX1_ok nmX1 rfl rfl (by decide) rfl rfl rfl rfl rfl rfl (Nat.le_of_ble_eq_true rfl) rfl wq_323 dX1_init_77 (fun H locs hT => ?_)
  refine lv_aload_n hx hb dX1_init_80 rfl (lv_at hl 0 rfl) ?_
  refine lv_bipush (v := 6) hx hb dX1_init_81 (by decide) ?_
  refine w_newI (N := 6) hC hK hT wq_240 (by decide) (by decide) (by decide) (Nat.le_of_ble_eq_true rfl) (Nat.le_of_ble_eq_true rfl) dX1_init_83 (fun q83 H hT => ?_)
  refine W.widen (k := 8) (n := 95) (Nat.le_of_ble_eq_true rfl) (Nat.le_of_ble_eq_true rfl) ?_
  have hT : TS vwCl D [(h0, .inr (1, [.int 0, .int 0, .int 0, .int 0, .int 0, .ref q31, .ref q38, .ref q45, .ref q53, .ref q60, .ref q67, .ref q75, .null, .null, .null, .null, .null, .null, .null])), (q31, .inl (Z 0, 5, .inl (fun _ => 0))), (q38, .inl (Z 0, 5, .inl (fun _ => 0))), (q45, .inl (Z 0, 5, .inl (fun _ => 0))), (q53, .inl (Z 0, 60, .inl (fun _ => 0))), (q60, .inl (Z 0, 4, .inl (fun _ => 0))), (q67, .inl (Z 0, 4, .inl (fun _ => 0))), (q75, .inl (Z 0, 6, .inl (fun _ => 0))), (q83, .inl (Z 0, 6, .inl (fun _ => 0)))] A s.heap H locs := hT
  refine w_putF (C := RX1) (T := TX1) (N := 19) (ci := 1) (q0 := 0) (k := 12) (ty0 := tyX1) (ty := .array .int) (ws' := [(h0, .inr (1, [.int 0, .int 0, .int 0, .int 0, .int 0, .ref q31, .ref q38, .ref q45, .ref q53, .ref q60, .ref q67, .ref q75, .ref q83, .null, .null, .null, .null, .null, .null])), (q31, .inl (Z 0, 5, .inl (fun _ => 0))), (q38, .inl (Z 0, 5, .inl (fun _ => 0))), (q45, .inl (Z 0, 5, .inl (fun _ => 0))), (q53, .inl (Z 0, 60, .inl (fun _ => 0))), (q60, .inl (Z 0, 4, .inl (fun _ => 0))), (q67, .inl (Z 0, 4, .inl (fun _ => 0))), (q75, .inl (Z 0, 6, .inl (fun _ => 0))), (q83, .inl (Z 0, 6, .inl (fun _ => 0)))]) hC hK hnm hT fi_X1 tyX1_ok nmX1 rfl rfl (by decide) rfl rfl rfl rfl rfl rfl (Nat.le_of_ble_eq_true rfl) rfl wq_326 dX1_init_85 (fun H locs hT => ?_)
  refine lv_aload_n hx hb dX1_init_88 rfl (lv_at hl 0 rfl) ?_
  refine lv_bipush (v := 8) hx hb dX1_init_89 (by decide) ?_
  refine w_newI (N := 8) hC hK hT wq_240 (by decide) (by decide) (by decide) (Nat.le_of_ble_eq_true rfl) (Nat.le_of_ble_eq_true rfl) dX1_init_91 (fun q91 H hT => ?_)
  refine W.widen (k := 9) (n := 103) (Nat.le_of_ble_eq_true rfl) (Nat.le_of_ble_eq_true rfl) ?_
  have hT : TS vwCl D [(h0, .inr (1, [.int 0, .int 0, .int 0, .int 0, .int 0, .ref q31, .ref q38, .ref q45, .ref q53, .ref q60, .ref q67, .ref q75, .ref q83, .null, .null, .null, .null, .null, .null])), (q31, .inl (Z 0, 5, .inl (fun _ => 0))), (q38, .inl (Z 0, 5, .inl (fun _ => 0))), (q45, .inl (Z 0, 5, .inl (fun _ => 0))), (q53, .inl (Z 0, 60, .inl (fun _ => 0))), (q60, .inl (Z 0, 4, .inl (fun _ => 0))), (q67, .inl (Z 0, 4, .inl (fun _ => 0))), (q75, .inl (Z 0, 6, .inl (fun _ => 0))), (q83, .inl (Z 0, 6, .inl (fun _ => 0))), (q91, .inl (Z 0, 8, .inl (fun _ => 0)))] A s.heap H locs := hT
  refine w_putF (C := RX1) (T := TX1) (N := 19) (ci := 1) (q0 := 0) (k := 13) (ty0 := tyX1) (ty := .array .int) (ws' := [(h0, .inr (1, [.int 0, .int 0, .int 0, .int 0, .int 0, .ref q31, .ref q38, .ref q45, .ref q53, .ref q60, .ref q67, .ref q75, .ref q83, .ref q91, .null, .null, .null, .null, .null])), (q31, .inl (Z 0, 5, .inl (fun _ => 0))), (q38, .inl (Z 0, 5, .inl (fun _ => 0))), (q45, .inl (Z 0, 5, .inl (fun _ => 0))), (q53, .inl (Z 0, 60, .inl (fun _ => 0))), (q60, .inl (Z 0, 4, .inl (fun _ => 0))), (q67, .inl (Z 0, 4, .inl (fun _ => 0))), (q75, .inl (Z 0, 6, .inl (fun _ => 0))), (q83, .inl (Z 0, 6, .inl (fun _ => 0))), (q91, .inl (Z 0, 8, .inl (fun _ => 0)))]) hC hK hnm hT fi_X1 tyX1_ok nmX1 rfl rfl (by decide) rfl rfl rfl rfl rfl rfl (Nat.le_of_ble_eq_true rfl) rfl wq_329 dX1_init_93 (fun H locs hT => ?_)
  refine lv_aload_n hx hb dX1_init_96 rfl (lv_at hl 0 rfl) ?_
  refine lv_bipush (v := 8) hx hb dX1_init_97 (by decide) ?_
  refine w_newI (N := 8) hC hK hT wq_240 (by decide) (by decide) (by decide) (Nat.le_of_ble_eq_true rfl) (Nat.le_of_ble_eq_true rfl) dX1_init_99 (fun q99 H hT => ?_)
  refine W.widen (k := 10) (n := 111) (Nat.le_of_ble_eq_true rfl) (Nat.le_of_ble_eq_true rfl) ?_
  have hT : TS vwCl D [(h0, .inr (1, [.int 0, .int 0, .int 0, .int 0, .int 0, .ref q31, .ref q38, .ref q45, .ref q53, .ref q60, .ref q67, .ref q75, .ref q83, .ref q91, .null, .null, .null, .null, .null])), (q31, .inl (Z 0, 5, .inl (fun _ => 0))), (q38, .inl (Z 0, 5, .inl (fun _ => 0))), (q45, .inl (Z 0, 5, .inl (fun _ => 0))), (q53, .inl (Z 0, 60, .inl (fun _ => 0))), (q60, .inl (Z 0, 4, .inl (fun _ => 0))), (q67, .inl (Z 0, 4, .inl (fun _ => 0))), (q75, .inl (Z 0, 6, .inl (fun _ => 0))), (q83, .inl (Z 0, 6, .inl (fun _ => 0))), (q91, .inl (Z 0, 8, .inl (fun _ => 0))), (q99, .inl (Z 0, 8, .inl (fun _ => 0)))] A s.heap H locs := hT
  refine w_putF (C := RX1) (T := TX1) (N := 19) (ci := 1) (q0 := 0) (k := 14) (ty0 := tyX1) (ty := .array .int) (ws' := [(h0, .inr (1, [.int 0, .int 0, .int 0, .int 0, .int 0, .ref q31, .ref q38, .ref q45, .ref q53, .ref q60, .ref q67, .ref q75, .ref q83, .ref q91, .ref q99, .null, .null, .null, .null])), (q31, .inl (Z 0, 5, .inl (fun _ => 0))), (q38, .inl (Z 0, 5, .inl (fun _ => 0))), (q45, .inl (Z 0, 5, .inl (fun _ => 0))), (q53, .inl (Z 0, 60, .inl (fun _ => 0))), (q60, .inl (Z 0, 4, .inl (fun _ => 0))), (q67, .inl (Z 0, 4, .inl (fun _ => 0))), (q75, .inl (Z 0, 6, .inl (fun _ => 0))), (q83, .inl (Z 0, 6, .inl (fun _ => 0))), (q91, .inl (Z 0, 8, .inl (fun _ => 0))), (q99, .inl (Z 0, 8, .inl (fun _ => 0)))]) hC hK hnm hT fi_X1 tyX1_ok nmX1 rfl rfl (by decide) rfl rfl rfl rfl rfl rfl (Nat.le_of_ble_eq_true rfl) rfl wq_332 dX1_init_101 (fun H locs hT => ?_)
  refine lv_aload_n hx hb dX1_init_104 rfl (lv_at hl 0 rfl) ?_
  refine lv_bipush (v := 8) hx hb dX1_init_105 (by decide) ?_
  refine w_newI (N := 8) hC hK hT wq_240 (by decide) (by decide) (by decide) (Nat.le_of_ble_eq_true rfl) (Nat.le_of_ble_eq_true rfl) dX1_init_107 (fun q107 H hT => ?_)
  refine W.widen (k := 11) (n := 119) (Nat.le_of_ble_eq_true rfl) (Nat.le_of_ble_eq_true rfl) ?_
  have hT : TS vwCl D [(h0, .inr (1, [.int 0, .int 0, .int 0, .int 0, .int 0, .ref q31, .ref q38, .ref q45, .ref q53, .ref q60, .ref q67, .ref q75, .ref q83, .ref q91, .ref q99, .null, .null, .null, .null])), (q31, .inl (Z 0, 5, .inl (fun _ => 0))), (q38, .inl (Z 0, 5, .inl (fun _ => 0))), (q45, .inl (Z 0, 5, .inl (fun _ => 0))), (q53, .inl (Z 0, 60, .inl (fun _ => 0))), (q60, .inl (Z 0, 4, .inl (fun _ => 0))), (q67, .inl (Z 0, 4, .inl (fun _ => 0))), (q75, .inl (Z 0, 6, .inl (fun _ => 0))), (q83, .inl (Z 0, 6, .inl (fun _ => 0))), (q91, .inl (Z 0, 8, .inl (fun _ => 0))), (q99, .inl (Z 0, 8, .inl (fun _ => 0))), (q107, .inl (Z 0, 8, .inl (fun _ => 0)))] A s.heap H locs := hT
  refine w_putF (C := RX1) (T := TX1) (N := 19) (ci := 1) (q0 := 0) (k := 15) (ty0 := tyX1) (ty := .array .int) (ws' := [(h0, .inr (1, [.int 0, .int 0, .int 0, .int 0, .int 0, .ref q31, .ref q38, .ref q45, .ref q53, .ref q60, .ref q67, .ref q75, .ref q83, .ref q91, .ref q99, .ref q107, .null, .null, .null])), (q31, .inl (Z 0, 5, .inl (fun _ => 0))), (q38, .inl (Z 0, 5, .inl (fun _ => 0))), (q45, .inl (Z 0, 5, .inl (fun _ => 0))), (q53, .inl (Z 0, 60, .inl (fun _ => 0))), (q60, .inl (Z 0, 4, .inl (fun _ => 0))), (q67, .inl (Z 0, 4, .inl (fun _ => 0))), (q75, .inl (Z 0, 6, .inl (fun _ => 0))), (q83, .inl (Z 0, 6, .inl (fun _ => 0))), (q91, .inl (Z 0, 8, .inl (fun _ => 0))), (q99, .inl (Z 0, 8, .inl (fun _ => 0))), (q107, .inl (Z 0, 8, .inl (fun _ => 0)))]) hC hK hnm hT fi_X1 tyX1_ok nmX1 rfl rfl (by decide) rfl rfl rfl rfl rfl rfl (Nat.le_of_ble_eq_true rfl) rfl wq_334 dX1_init_109 (fun H locs hT => ?_)
  refine lv_aload_n hx hb dX1_init_112 rfl (lv_at hl 0 rfl) ?_
  refine lv_bipush (v := 8) hx hb dX1_init_113 (by decide) ?_
  refine w_newI (N := 8) hC hK hT wq_240 (by decide) (by decide) (by decide) (Nat.le_of_ble_eq_true rfl) (Nat.le_of_ble_eq_true rfl) dX1_init_115 (fun q115 H hT => ?_)
  refine W.widen (k := 12) (n := 127) (Nat.le_of_ble_eq_true rfl) (Nat.le_of_ble_eq_true rfl) ?_
  have hT : TS vwCl D [(h0, .inr (1, [.int 0, .int 0, .int 0, .int 0, .int 0, .ref q31, .ref q38, .ref q45, .ref q53, .ref q60, .ref q67, .ref q75, .ref q83, .ref q91, .ref q99, .ref q107, .null, .null, .null])), (q31, .inl (Z 0, 5, .inl (fun _ => 0))), (q38, .inl (Z 0, 5, .inl (fun _ => 0))), (q45, .inl (Z 0, 5, .inl (fun _ => 0))), (q53, .inl (Z 0, 60, .inl (fun _ => 0))), (q60, .inl (Z 0, 4, .inl (fun _ => 0))), (q67, .inl (Z 0, 4, .inl (fun _ => 0))), (q75, .inl (Z 0, 6, .inl (fun _ => 0))), (q83, .inl (Z 0, 6, .inl (fun _ => 0))), (q91, .inl (Z 0, 8, .inl (fun _ => 0))), (q99, .inl (Z 0, 8, .inl (fun _ => 0))), (q107, .inl (Z 0, 8, .inl (fun _ => 0))), (q115, .inl (Z 0, 8, .inl (fun _ => 0)))] A s.heap H locs := hT
  refine w_putF (C := RX1) (T := TX1) (N := 19) (ci := 1) (q0 := 0) (k := 16) (ty0 := tyX1) (ty := .array .int) (ws' := [(h0, .inr (1, [.int 0, .int 0, .int 0, .int 0, .int 0, .ref q31, .ref q38, .ref q45, .ref q53, .ref q60, .ref q67, .ref q75, .ref q83, .ref q91, .ref q99, .ref q107, .ref q115, .null, .null])), (q31, .inl (Z 0, 5, .inl (fun _ => 0))), (q38, .inl (Z 0, 5, .inl (fun _ => 0))), (q45, .inl (Z 0, 5, .inl (fun _ => 0))), (q53, .inl (Z 0, 60, .inl (fun _ => 0))), (q60, .inl (Z 0, 4, .inl (fun _ => 0))), (q67, .inl (Z 0, 4, .inl (fun _ => 0))), (q75, .inl (Z 0, 6, .inl (fun _ => 0))), (q83, .inl (Z 0, 6, .inl (fun _ => 0))), (q91, .inl (Z 0, 8, .inl (fun _ => 0))), (q99, .inl (Z 0, 8, .inl (fun _ => 0))), (q107, .inl (Z 0, 8, .inl (fun _ => 0))), (q115, .inl (Z 0, 8, .inl (fun _ => 0)))]) hC hK hnm hT fi_X1 tyX1_ok nmX1 rfl rfl (by decide) rfl rfl rfl rfl rfl rfl (Nat.le_of_ble_eq_true rfl) rfl wq_336 dX1_init_117 (fun H locs hT => ?_)
  refine lv_aload_n hx hb dX1_init_120 rfl (lv_at hl 0 rfl) ?_
  refine lv_bipush (v := 8) hx hb dX1_init_121 (by decide) ?_
  refine w_newI (N := 8) hC hK hT wq_240 (by decide) (by decide) (by decide) (Nat.le_of_ble_eq_true rfl) (Nat.le_of_ble_eq_true rfl) dX1_init_123 (fun q123 H hT => ?_)
  refine W.widen (k := 13) (n := 135) (Nat.le_of_ble_eq_true rfl) (Nat.le_of_ble_eq_true rfl) ?_
  have hT : TS vwCl D [(h0, .inr (1, [.int 0, .int 0, .int 0, .int 0, .int 0, .ref q31, .ref q38, .ref q45, .ref q53, .ref q60, .ref q67, .ref q75, .ref q83, .ref q91, .ref q99, .ref q107, .ref q115, .null, .null])), (q31, .inl (Z 0, 5, .inl (fun _ => 0))), (q38, .inl (Z 0, 5, .inl (fun _ => 0))), (q45, .inl (Z 0, 5, .inl (fun _ => 0))), (q53, .inl (Z 0, 60, .inl (fun _ => 0))), (q60, .inl (Z 0, 4, .inl (fun _ => 0))), (q67, .inl (Z 0, 4, .inl (fun _ => 0))), (q75, .inl (Z 0, 6, .inl (fun _ => 0))), (q83, .inl (Z 0, 6, .inl (fun _ => 0))), (q91, .inl (Z 0, 8, .inl (fun _ => 0))), (q99, .inl (Z 0, 8, .inl (fun _ => 0))), (q107, .inl (Z 0, 8, .inl (fun _ => 0))), (q115, .inl (Z 0, 8, .inl (fun _ => 0))), (q123, .inl (Z 0, 8, .inl (fun _ => 0)))] A s.heap H locs := hT
  refine w_putF (C := RX1) (T := TX1) (N := 19) (ci := 1) (q0 := 0) (k := 17) (ty0 := tyX1) (ty := .array .int) (ws' := [(h0, .inr (1, [.int 0, .int 0, .int 0, .int 0, .int 0, .ref q31, .ref q38, .ref q45, .ref q53, .ref q60, .ref q67, .ref q75, .ref q83, .ref q91, .ref q99, .ref q107, .ref q115, .ref q123, .null])), (q31, .inl (Z 0, 5, .inl (fun _ => 0))), (q38, .inl (Z 0, 5, .inl (fun _ => 0))), (q45, .inl (Z 0, 5, .inl (fun _ => 0))), (q53, .inl (Z 0, 60, .inl (fun _ => 0))), (q60, .inl (Z 0, 4, .inl (fun _ => 0))), (q67, .inl (Z 0, 4, .inl (fun _ => 0))), (q75, .inl (Z 0, 6, .inl (fun _ => 0))), (q83, .inl (Z 0, 6, .inl (fun _ => 0))), (q91, .inl (Z 0, 8, .inl (fun _ => 0))), (q99, .inl (Z 0, 8, .inl (fun _ => 0))), (q107, .inl (Z 0, 8, .inl (fun _ => 0))), (q115, .inl (Z 0, 8, .inl (fun _ => 0))), (q123, .inl (Z 0, 8, .inl (fun _ => 0)))]) hC hK hnm hT fi_X1 tyX1_ok nmX1 rfl rfl (by decide) rfl rfl rfl rfl rfl rfl (Nat.le_of_ble_eq_true rfl) rfl wq_339 dX1_init_125 (fun H locs hT => ?_)
  refine lv_aload_n hx hb dX1_init_128 rfl (lv_at hl 0 rfl) ?_
  refine w_newO (C := RX0) (T := TX0) (N := 8) (ci := 0) (ty0 := tyX0) (fs := [.int 0, .null, .null, .null, .null, .int 0, .null, .null]) hC hK hT fi_X0 tyX0_ok wq_247 wq_248 wq_82 rfl (by decide) (Nat.le_of_ble_eq_true rfl) (Nat.le_of_ble_eq_true rfl) dX1_init_129 (fun q129 H hT => ?_)
  refine W.widen (k := 14) (n := 143) (Nat.le_of_ble_eq_true rfl) (Nat.le_of_ble_eq_true rfl) ?_
  have hT : TS vwCl D [(h0, .inr (1, [.int 0, .int 0, .int 0, .int 0, .int 0, .ref q31, .ref q38, .ref q45, .ref q53, .ref q60, .ref q67, .ref q75, .ref q83, .ref q91, .ref q99, .ref q107, .ref q115, .ref q123, .null])), (q31, .inl (Z 0, 5, .inl (fun _ => 0))), (q38, .inl (Z 0, 5, .inl (fun _ => 0))), (q45, .inl (Z 0, 5, .inl (fun _ => 0))), (q53, .inl (Z 0, 60, .inl (fun _ => 0))), (q60, .inl (Z 0, 4, .inl (fun _ => 0))), (q67, .inl (Z 0, 4, .inl (fun _ => 0))), (q75, .inl (Z 0, 6, .inl (fun _ => 0))), (q83, .inl (Z 0, 6, .inl (fun _ => 0))), (q91, .inl (Z 0, 8, .inl (fun _ => 0))), (q99, .inl (Z 0, 8, .inl (fun _ => 0))), (q107, .inl (Z 0, 8, .inl (fun _ => 0))), (q115, .inl (Z 0, 8, .inl (fun _ => 0))), (q123, .inl (Z 0, 8, .inl (fun _ => 0))), (q129, .inr (0, [.int 0, .null, .null, .null, .null, .int 0, .null, .null]))] A s.heap H locs := hT
  refine lv_dup hx hb dX1_init_132 rfl ?_
  refine rwi_go (wsF := iw_X0_init Z q129) (u0 := none) (wr := [(h0, .inr (1, [.int 0, .int 0, .int 0, .int 0, .int 0, .ref q31, .ref q38, .ref q45, .ref q53, .ref q60, .ref q67, .ref q75, .ref q83, .ref q91, .ref q99, .ref q107, .ref q115, .ref q123, .null])), (q31, .inl (Z 0, 5, .inl (fun _ => 0))), (q38, .inl (Z 0, 5, .inl (fun _ => 0))), (q45, .inl (Z 0, 5, .inl (fun _ => 0))), (q53, .inl (Z 0, 60, .inl (fun _ => 0))), (q60, .inl (Z 0, 4, .inl (fun _ => 0))), (q67, .inl (Z 0, 4, .inl (fun _ => 0))), (q75, .inl (Z 0, 6, .inl (fun _ => 0))), (q83, .inl (Z 0, 6, .inl (fun _ => 0))), (q91, .inl (Z 0, 8, .inl (fun _ => 0))), (q99, .inl (Z 0, 8, .inl (fun _ => 0))), (q107, .inl (Z 0, 8, .inl (fun _ => 0))), (q115, .inl (Z 0, 8, .inl (fun _ => 0))), (q123, .inl (Z 0, 8, .inl (fun _ => 0)))]) (isC := [14]) (isR := [0, 1, 2, 3, 4, 5, 6, 7, 8, 9, 10, 11, 12, 13]) (runIN (As := []) hC hN (c_X0_init l D Z H.size q129) mi_X0_init wn_249 wq_250 rfl (by decide) (hT.1.sub [14] rfl) (hT.D'.sub [14] rfl rfl) hK rfl hl.1 rfl (Nat.le_of_ble_eq_true rfl) dX1_init_133 ⟨(Nat.le_of_ble_eq_true rfl), (Nat.le_of_ble_eq_true rfl)⟩) hT rfl rfl (by decide +kernel) (by decide +kernel) (fun u H locs hk hT => ?_)
  refine W.widen (k := 20) (n := 1007) (Nat.le_of_ble_eq_true rfl) (Nat.le_of_ble_eq_true rfl) ?_
  obtain ⟨a133, rfl, ha133⟩ := hk
  have hT : TS vwCl D [(h0, .inr (1, [.int 0, .int 0, .int 0, .int 0, .int 0, .ref q31, .ref q38, .ref q45, .ref q53, .ref q60, .ref q67, .ref q75, .ref q83, .ref q91, .ref q99, .ref q107, .ref q115, .ref q123, .null])), (q31, .inl (Z 0, 5, .inl (fun _ => 0))), (q38, .inl (Z 0, 5, .inl (fun _ => 0))), (q45, .inl (Z 0, 5, .inl (fun _ => 0))), (q53, .inl (Z 0, 60, .inl (fun _ => 0))), (q60, .inl (Z 0, 4, .inl (fun _ => 0))), (q67, .inl (Z 0, 4, .inl (fun _ => 0))), (q75, .inl (Z 0, 6, .inl (fun _ => 0))), (q83, .inl (Z 0, 6, .inl (fun _ => 0))), (q91, .inl (Z 0, 8, .inl (fun _ => 0))), (q99, .inl (Z 0, 8, .inl (fun _ => 0))), (q107, .inl (Z 0, 8, .inl (fun _ => 0))), (q115, .inl (Z 0, 8, .inl (fun _ => 0))), (q123, .inl (Z 0, 8, .inl (fun _ => 0))), (a133 40, .inr (0, [.int (zM 40 0), .ref (a133 41), .ref (a133 42), .ref (a133 43), .ref (a133 44), .int (zM 45 0), .ref (a133 46), .ref (a133 47)])), (a133 41, .inl (Z 0, 16, .inl (zM 41))), (a133 42, .inl (Z 0, 16, .inl (zM 42))), (a133 43, .inl (Z 0, 16, .inl (zM 43))), (a133 44, .inl (Z 0, 16, .inl (zM 44))), (a133 46, .inl (Z 0, 400, .inl (zM 46))), (a133 47, .inl (Z 0, 400, .inl (zM 47)))] A s.heap H locs := hT
  rw [← ha133]
  try rw [← ha133] at hT
  have hT : TS vwCl D [(h0, .inr (1, [.int 0, .int 0, .int 0, .int 0, .int 0, .ref q31, .ref q38, .ref q45, .ref q53, .ref q60, .ref q67, .ref q75, .ref q83, .ref q91, .ref q99, .ref q107, .ref q115, .ref q123, .null])), (q31, .inl (Z 0, 5, .inl (fun _ => 0))), (q38, .inl (Z 0, 5, .inl (fun _ => 0))), (q45, .inl (Z 0, 5, .inl (fun _ => 0))), (q53, .inl (Z 0, 60, .inl (fun _ => 0))), (q60, .inl (Z 0, 4, .inl (fun _ => 0))), (q67, .inl (Z 0, 4, .inl (fun _ => 0))), (q75, .inl (Z 0, 6, .inl (fun _ => 0))), (q83, .inl (Z 0, 6, .inl (fun _ => 0))), (q91, .inl (Z 0, 8, .inl (fun _ => 0))), (q99, .inl (Z 0, 8, .inl (fun _ => 0))), (q107, .inl (Z 0, 8, .inl (fun _ => 0))), (q115, .inl (Z 0, 8, .inl (fun _ => 0))), (q123, .inl (Z 0, 8, .inl (fun _ => 0))), (a133 40, .inr (0, [.int (zM 40 0), .ref (a133 41), .ref (a133 42), .ref (a133 43), .ref (a133 44), .int (zM 45 0), .ref (a133 46), .ref (a133 47)])), (a133 41, .inl (Z 0, 16, .inl (zM 41))), (a133 42, .inl (Z 0, 16, .inl (zM 42))), (a133 43, .inl (Z 0, 16, .inl (zM 43))), (a133 44, .inl (Z 0, 16, .inl (zM 44))), (a133 46, .inl (Z 0, 400, .inl (zM 46))), (a133 47, .inl (Z 0, 400, .inl (zM 47)))] A s.heap H locs := hT
  refine w_putF (C := RX1) (T := TX1) (N := 19) (ci := 1) (q0 := 0) (k := 18) (ty0 := tyX1) (ty := .object "TunnelLeggers$Orders") (ws' := [(h0, .inr (1, [.int 0, .int 0, .int 0, .int 0, .int 0, .ref q31, .ref q38, .ref q45, .ref q53, .ref q60, .ref q67, .ref q75, .ref q83, .ref q91, .ref q99, .ref q107, .ref q115, .ref q123, .ref (a133 40)])), (q31, .inl (Z 0, 5, .inl (fun _ => 0))), (q38, .inl (Z 0, 5, .inl (fun _ => 0))), (q45, .inl (Z 0, 5, .inl (fun _ => 0))), (q53, .inl (Z 0, 60, .inl (fun _ => 0))), (q60, .inl (Z 0, 4, .inl (fun _ => 0))), (q67, .inl (Z 0, 4, .inl (fun _ => 0))), (q75, .inl (Z 0, 6, .inl (fun _ => 0))), (q83, .inl (Z 0, 6, .inl (fun _ => 0))), (q91, .inl (Z 0, 8, .inl (fun _ => 0))), (q99, .inl (Z 0, 8, .inl (fun _ => 0))), (q107, .inl (Z 0, 8, .inl (fun _ => 0))), (q115, .inl (Z 0, 8, .inl (fun _ => 0))), (q123, .inl (Z 0, 8, .inl (fun _ => 0))), (a133 40, .inr (0, [.int (zM 40 0), .ref (a133 41), .ref (a133 42), .ref (a133 43), .ref (a133 44), .int (zM 45 0), .ref (a133 46), .ref (a133 47)])), (a133 41, .inl (Z 0, 16, .inl (zM 41))), (a133 42, .inl (Z 0, 16, .inl (zM 42))), (a133 43, .inl (Z 0, 16, .inl (zM 43))), (a133 44, .inl (Z 0, 16, .inl (zM 44))), (a133 46, .inl (Z 0, 400, .inl (zM 46))), (a133 47, .inl (Z 0, 400, .inl (zM 47)))]) hC hK hnm hT fi_X1 tyX1_ok nmX1 rfl rfl (by decide) rfl rfl rfl rfl rfl rfl (Nat.le_of_ble_eq_true rfl) rfl wq_342 dX1_init_136 (fun H locs hT => ?_)
  exact hret 139 ls _ _ (some (asc [(20, h0), (25, q31), (26, q38), (27, q45), (28, q53), (29, q60), (30, q67), (31, q75), (32, q83), (33, q91), (34, q99), (35, q107), (36, q115), (37, q123), (40, a133 40), (41, a133 41), (42, a133 42), (43, a133 43), (44, a133 44), (45, a133 45), (46, a133 46), (47, a133 47)])) ⟨_, rfl, rfl⟩ hT dX1_init_139
def iw_X4_init (Z : Nat → ClassId) (h0 : Nat) (m0 : Nat) : Option (Nat → Nat) → va_W
  | none => [(h0, .inr (4, [.null, .int 0, .int 0, .int 0, .null, .null, .null, .null, .null, .null, .null, .null, .null, .null, .null]))]
  | some a => [(a 0, .inr (4, [.ref m0, .int (tT0 1 0), .int (tT0 2 0), .int (tT0 3 0), .ref (a 4), .ref (a 5), .ref (a 6), .ref (a 7), .ref (a 8), .ref (a 9), .ref (a 10), .ref (a 11), .ref (a 12), .ref (a 13), .ref (a 14)])), (a 4, .inl (Z 0, 60, .inl (tT0 4))), (a 5, .inl (Z 0, 6, .inl (tT0 5))), (a 6, .inl (Z 0, 6, .inl (tT0 6))), (a 7, .inl (Z 0, 6, .inl (tT0 7))), (a 8, .inl (Z 0, 8, .inl (tT0 8))), (a 9, .inl (Z 0, 8, .inl (tT0 9))), (a 10, .inl (Z 0, 8, .inl (tT0 10))), (a 11, .inl (Z 0, 8, .inl (tT0 11))), (a 12, .inl (Z 0, 8, .inl (tT0 12))), (a 13, .inl (Z 0, 8, .inl (tT0 13))), (a 14, .inl (Z 0, 400, .inl (tT0 14)))]
set_option maxRecDepth 100000 in
set_option maxHeartbeats 4000000 in
theorem c_X4_init (l : Launch) (D : va_G) (Z : Nat → ClassId) (sz h0 : Nat) (m0 : Nat) : Met l yX4_init (wy yX4_init cX4_init 2 none) (rk 1 11 526) (pre vwCl D Z (iw_X4_init Z h0 m0 none) sz [.ref h0, .ref m0]) (poV vwCl D Z (iw_X4_init Z h0 m0) none sz (fun u => ∃ a, u = some a ∧ a 0 = h0)) 11 526 (va_A (iw_X4_init Z h0 m0 none) sz) := by
  refine rwv_of (wsF := iw_X4_init Z h0 m0) (u0 := none) (by decide +kernel) (Nat.le_of_ble_eq_true rfl) rfl ?_
  intro p e s m args below meth c Q A hC hN hsz hnm hT hK hret ls hl
  have hx := hC.1
  have hb := hC.2.1
  have hl : lv_has ls 2 [(0, .ref h0), (1, .ref m0)] := hl
  have hT : TS vwCl D [(h0, .inr (4, [.null, .int 0, .int 0, .int 0, .null, .null, .null, .null, .null, .null, .null, .null, .null, .null, .null]))] A s.heap s.heap [] := hT
  refine lv_aload_n hx hb dX4_init_0 rfl (lv_at hl 0 rfl) ?_
  refine w_objInit hC wq_424 wq_96 wq_97 hl.1 (by decide) (Nat.le_of_ble_eq_true rfl) dX4_init_1 ?_
  refine lv_aload_n hx hb dX4_init_4 rfl (lv_at hl 0 rfl) ?_
  refine lv_iconst (v := 0) hx hb dX4_init_5 (by decide) ?_
  refine w_put (C := RX4) (T := TX4) (N := 15) (ci := 4) (q0 := 0) (k := 1) (ty0 := tyX4) (ty := .int) (ws' := [(h0, .inr (4, [.null, .int 0, .int 0, .int 0, .null, .null, .null, .null, .null, .null, .null, .null, .null, .null, .null]))]) hC hK hT fi_X4 tyX4_ok nmX4 rfl rfl (by decide) rfl rfl rfl rfl rfl (Nat.le_of_ble_eq_true rfl) rfl wq_427 dX4_init_6 (fun H locs hT => ?_)
  refine lv_aload_n hx hb dX4_init_9 rfl (lv_at hl 0 rfl) ?_
  refine lv_iconst (v := 0) hx hb dX4_init_10 (by decide) ?_
  refine w_put (C := RX4) (T := TX4) (N := 15) (ci := 4) (q0 := 0) (k := 2) (ty0 := tyX4) (ty := .int) (ws' := [(h0, .inr (4, [.null, .int 0, .int 0, .int 0, .null, .null, .null, .null, .null, .null, .null, .null, .null, .null, .null]))]) hC hK hT fi_X4 tyX4_ok nmX4 rfl rfl (by decide) rfl rfl rfl rfl rfl (Nat.le_of_ble_eq_true rfl) rfl wq_429 dX4_init_11 (fun H locs hT => ?_)
  refine lv_aload_n hx hb dX4_init_14 rfl (lv_at hl 0 rfl) ?_
  refine lv_iconst (v := (-1)) hx hb dX4_init_15 (by decide) ?_
  refine w_put (C := RX4) (T := TX4) (N := 15) (ci := 4) (q0 := 0) (k := 3) (ty0 := tyX4) (ty := .int) (ws' := [(h0, .inr (4, [.null, .int 0, .int 0, .int (-1), .null, .null, .null, .null, .null, .null, .null, .null, .null, .null, .null]))]) hC hK hT fi_X4 tyX4_ok nmX4 rfl rfl (by decide) rfl rfl rfl rfl rfl (Nat.le_of_ble_eq_true rfl) rfl wq_431 dX4_init_16 (fun H locs hT => ?_)
  refine lv_aload_n hx hb dX4_init_19 rfl (lv_at hl 0 rfl) ?_
  refine lv_bipush (v := 60) hx hb dX4_init_20 (by decide) ?_
  refine w_newI (N := 60) hC hK hT wq_240 (by decide) (by decide) (by decide) (Nat.le_of_ble_eq_true rfl) (Nat.le_of_ble_eq_true rfl) dX4_init_22 (fun q22 H hT => ?_)
  refine W.widen (k := 1) (n := 60) (Nat.le_of_ble_eq_true rfl) (Nat.le_of_ble_eq_true rfl) ?_
  have hT : TS vwCl D [(h0, .inr (4, [.null, .int 0, .int 0, .int (-1), .null, .null, .null, .null, .null, .null, .null, .null, .null, .null, .null])), (q22, .inl (Z 0, 60, .inl (fun _ => 0)))] A s.heap H locs := hT
  refine w_putF (C := RX4) (T := TX4) (N := 15) (ci := 4) (q0 := 0) (k := 4) (ty0 := tyX4) (ty := .array .int) (ws' := [(h0, .inr (4, [.null, .int 0, .int 0, .int (-1), .ref q22, .null, .null, .null, .null, .null, .null, .null, .null, .null, .null])), (q22, .inl (Z 0, 60, .inl (fun _ => 0)))]) hC hK hnm hT fi_X4 tyX4_ok nmX4 rfl rfl (by decide) rfl rfl rfl rfl rfl rfl (Nat.le_of_ble_eq_true rfl) rfl wq_433 dX4_init_24 (fun H locs hT => ?_)
  refine lv_aload_n hx hb dX4_init_27 rfl (lv_at hl 0 rfl) ?_
  refine lv_bipush (v := 6) hx hb dX4_init_28 (by decide) ?_
  refine w_newI (N := 6) hC hK hT wq_240 (by decide) (by decide) (by decide) (Nat.le_of_ble_eq_true rfl) (Nat.le_of_ble_eq_true rfl) dX4_init_30 (fun q30 H hT => ?_)
  refine W.widen (k := 2) (n := 66) (Nat.le_of_ble_eq_true rfl) (Nat.le_of_ble_eq_true rfl) ?_
  have hT : TS vwCl D [(h0, .inr (4, [.null, .int 0, .int 0, .int (-1), .ref q22, .null, .null, .null, .null, .null, .null, .null, .null, .null, .null])), (q22, .inl (Z 0, 60, .inl (fun _ => 0))), (q30, .inl (Z 0, 6, .inl (fun _ => 0)))] A s.heap H locs := hT
  refine w_putF (C := RX4) (T := TX4) (N := 15) (ci := 4) (q0 := 0) (k := 5) (ty0 := tyX4) (ty := .array .int) (ws' := [(h0, .inr (4, [.null, .int 0, .int 0, .int (-1), .ref q22, .ref q30, .null, .null, .null, .null, .null, .null, .null, .null, .null])), (q22, .inl (Z 0, 60, .inl (fun _ => 0))), (q30, .inl (Z 0, 6, .inl (fun _ => 0)))]) hC hK hnm hT fi_X4 tyX4_ok nmX4 rfl rfl (by decide) rfl rfl rfl rfl rfl rfl (Nat.le_of_ble_eq_true rfl) rfl wq_435 dX4_init_32 (fun H locs hT => ?_)
  refine lv_aload_n hx hb dX4_init_35 rfl (lv_at hl 0 rfl) ?_
  refine lv_bipush (v := 6) hx hb dX4_init_36 (by decide) ?_
  refine w_newI (N := 6) hC hK hT wq_240 (by decide) (by decide) (by decide) (Nat.le_of_ble_eq_true rfl) (Nat.le_of_ble_eq_true rfl) dX4_init_38 (fun q38 H hT => ?_)
  refine W.widen (k := 3) (n := 72) (Nat.le_of_ble_eq_true rfl) (Nat.le_of_ble_eq_true rfl) ?_
  have hT : TS vwCl D [(h0, .inr (4, [.null, .int 0, .int 0, .int (-1), .ref q22, .ref q30, .null, .null, .null, .null, .null, .null, .null, .null, .null])), (q22, .inl (Z 0, 60, .inl (fun _ => 0))), (q30, .inl (Z 0, 6, .inl (fun _ => 0))), (q38, .inl (Z 0, 6, .inl (fun _ => 0)))] A s.heap H locs := hT
  refine w_putF (C := RX4) (T := TX4) (N := 15) (ci := 4) (q0 := 0) (k := 6) (ty0 := tyX4) (ty := .array .int) (ws' := [(h0, .inr (4, [.null, .int 0, .int 0, .int (-1), .ref q22, .ref q30, .ref q38, .null, .null, .null, .null, .null, .null, .null, .null])), (q22, .inl (Z 0, 60, .inl (fun _ => 0))), (q30, .inl (Z 0, 6, .inl (fun _ => 0))), (q38, .inl (Z 0, 6, .inl (fun _ => 0)))]) hC hK hnm hT fi_X4 tyX4_ok nmX4 rfl rfl (by decide) rfl rfl rfl rfl rfl rfl (Nat.le_of_ble_eq_true rfl) rfl wq_437 dX4_init_40 (fun H locs hT => ?_)
  refine lv_aload_n hx hb dX4_init_43 rfl (lv_at hl 0 rfl) ?_
  refine lv_bipush (v := 6) hx hb dX4_init_44 (by decide) ?_
  refine w_newI (N := 6) hC hK hT wq_240 (by decide) (by decide) (by decide) (Nat.le_of_ble_eq_true rfl) (Nat.le_of_ble_eq_true rfl) dX4_init_46 (fun q46 H hT => ?_)
  refine W.widen (k := 4) (n := 78) (Nat.le_of_ble_eq_true rfl) (Nat.le_of_ble_eq_true rfl) ?_
  have hT : TS vwCl D [(h0, .inr (4, [.null, .int 0, .int 0, .int (-1), .ref q22, .ref q30, .ref q38, .null, .null, .null, .null, .null, .null, .null, .null])), (q22, .inl (Z 0, 60, .inl (fun _ => 0))), (q30, .inl (Z 0, 6, .inl (fun _ => 0))), (q38, .inl (Z 0, 6, .inl (fun _ => 0))), (q46, .inl (Z 0, 6, .inl (fun _ => 0)))] A s.heap H locs := hT
  refine w_putF (C := RX4) (T := TX4) (N := 15) (ci := 4) (q0 := 0) (k := 7) (ty0 := tyX4) (ty := .array .int) (ws' := [(h0, .inr (4, [.null, .int 0, .int 0, .int (-1), .ref q22, .ref q30, .ref q38, .ref q46, .null, .null, .null, .null, .null, .null, .null])), (q22, .inl (Z 0, 60, .inl (fun _ => 0))), (q30, .inl (Z 0, 6, .inl (fun _ => 0))), (q38, .inl (Z 0, 6, .inl (fun _ => 0))), (q46, .inl (Z 0, 6, .inl (fun _ => 0)))]) hC hK hnm hT fi_X4 tyX4_ok nmX4 rfl rfl (by decide) rfl rfl rfl rfl rfl rfl (Nat.le_of_ble_eq_true rfl) rfl wq_439 dX4_init_48 (fun H locs hT => ?_)
  refine lv_aload_n hx hb dX4_init_51 rfl (lv_at hl 0 rfl) ?_
  refine lv_bipush (v := 8) hx hb dX4_init_52 (by decide) ?_
  refine w_newI (N := 8) hC hK hT wq_240 (by decide) (by decide) (by decide) (Nat.le_of_ble_eq_true rfl) (Nat.le_of_ble_eq_true rfl) dX4_init_54 (fun q54 H hT => ?_)
  refine W.widen (k := 5) (n := 86) (Nat.le_of_ble_eq_true rfl) (Nat.le_of_ble_eq_true rfl) ?_
  have hT : TS vwCl D [(h0, .inr (4, [.null, .int 0, .int 0, .int (-1), .ref q22, .ref q30, .ref q38, .ref q46, .null, .null, .null, .null, .null, .null, .null])), (q22, .inl (Z 0, 60, .inl (fun _ => 0))), (q30, .inl (Z 0, 6, .inl (fun _ => 0))), (q38, .inl (Z 0, 6, .inl (fun _ => 0))), (q46, .inl (Z 0, 6, .inl (fun _ => 0))), (q54, .inl (Z 0, 8, .inl (fun _ => 0)))] A s.heap H locs := hT
  refine w_putF (C := RX4) (T := TX4) (N := 15) (ci := 4) (q0 := 0) (k := 8) (ty0 := tyX4) (ty := .array .int) (ws' := [(h0, .inr (4, [.null, .int 0, .int 0, .int (-1), .ref q22, .ref q30, .ref q38, .ref q46, .ref q54, .null, .null, .null, .null, .null, .null])), (q22, .inl (Z 0, 60, .inl (fun _ => 0))), (q30, .inl (Z 0, 6, .inl (fun _ => 0))), (q38, .inl (Z 0, 6, .inl (fun _ => 0))), (q46, .inl (Z 0, 6, .inl (fun _ => 0))), (q54, .inl (Z 0, 8, .inl (fun _ => 0)))]) hC hK hnm hT fi_X4 tyX4_ok nmX4 rfl rfl (by decide) rfl rfl rfl rfl rfl rfl (Nat.le_of_ble_eq_true rfl) rfl wq_441 dX4_init_56 (fun H locs hT => ?_)
  refine lv_aload_n hx hb dX4_init_59 rfl (lv_at hl 0 rfl) ?_
  refine lv_bipush (v := 8) hx hb dX4_init_60 (by decide) ?_
  refine w_newI (N := 8) hC hK hT wq_240 (by decide) (by decide) (by decide) (Nat.le_of_ble_eq_true rfl) (Nat.le_of_ble_eq_true rfl) dX4_init_62 (fun q62 H hT => ?_)
  refine W.widen (k := 6) (n := 94) (Nat.le_of_ble_eq_true rfl) (Nat.le_of_ble_eq_true rfl) ?_
  have hT : TS vwCl D [(h0, .inr (4, [.null, .int 0, .int 0, .int (-1), .ref q22, .ref q30, .ref q38, .ref q46, .ref q54, .null, .null, .null, .null, .null, .null])), (q22, .inl (Z 0, 60, .inl (fun _ => 0))), (q30, .inl (Z 0, 6, .inl (fun _ => 0))), (q38, .inl (Z 0, 6, .inl (fun _ => 0))), (q46, .inl (Z 0, 6, .inl (fun _ => 0))), (q54, .inl (Z 0, 8, .inl (fun _ => 0))), (q62, .inl (Z 0, 8, .inl (fun _ => 0)))] A s.heap H locs := hT
  refine w_putF (C := RX4) (T := TX4) (N := 15) (ci := 4) (q0 := 0) (k := 9) (ty0 := tyX4) (ty := .array .int) (ws' := [(h0, .inr (4, [.null, .int 0, .int 0, .int (-1), .ref q22, .ref q30, .ref q38, .ref q46, .ref q54, .ref q62, .null, .null, .null, .null, .null])), (q22, .inl (Z 0, 60, .inl (fun _ => 0))), (q30, .inl (Z 0, 6, .inl (fun _ => 0))), (q38, .inl (Z 0, 6, .inl (fun _ => 0))), (q46, .inl (Z 0, 6, .inl (fun _ => 0))), (q54, .inl (Z 0, 8, .inl (fun _ => 0))), (q62, .inl (Z 0, 8, .inl (fun _ => 0)))]) hC hK hnm hT fi_X4 tyX4_ok nmX4 rfl rfl (by decide) rfl rfl rfl rfl rfl rfl (Nat.le_of_ble_eq_true rfl) rfl wq_443 dX4_init_64 (fun H locs hT => ?_)
  refine lv_aload_n hx hb dX4_init_67 rfl (lv_at hl 0 rfl) ?_
  refine lv_bipush (v := 8) hx hb dX4_init_68 (by decide) ?_
  refine w_newI (N := 8) hC hK hT wq_240 (by decide) (by decide) (by decide) (Nat.le_of_ble_eq_true rfl) (Nat.le_of_ble_eq_true rfl) dX4_init_70 (fun q70 H hT => ?_)
  refine W.widen (k := 7) (n := 102) (Nat.le_of_ble_eq_true rfl) (Nat.le_of_ble_eq_true rfl) ?_
  have hT : TS vwCl D [(h0, .inr (4, [.null, .int 0, .int 0, .int (-1), .ref q22, .ref q30, .ref q38, .ref q46, .ref q54, .ref q62, .null, .null, .null, .null, .null])), (q22, .inl (Z 0, 60, .inl (fun _ => 0))), (q30, .inl (Z 0, 6, .inl (fun _ => 0))), (q38, .inl (Z 0, 6, .inl (fun _ => 0))), (q46, .inl (Z 0, 6, .inl (fun _ => 0))), (q54, .inl (Z 0, 8, .inl (fun _ => 0))), (q62, .inl (Z 0, 8, .inl (fun _ => 0))), (q70, .inl (Z 0, 8, .inl (fun _ => 0)))] A s.heap H locs := hT
  refine w_putF (C := RX4) (T := TX4) (N := 15) (ci := 4) (q0 := 0) (k := 10) (ty0 := tyX4) (ty := .array .int) (ws' := [(h0, .inr (4, [.null, .int 0, .int 0, .int (-1), .ref q22, .ref q30, .ref q38, .ref q46, .ref q54, .ref q62, .ref q70, .null, .null, .null, .null])), (q22, .inl (Z 0, 60, .inl (fun _ => 0))), (q30, .inl (Z 0, 6, .inl (fun _ => 0))), (q38, .inl (Z 0, 6, .inl (fun _ => 0))), (q46, .inl (Z 0, 6, .inl (fun _ => 0))), (q54, .inl (Z 0, 8, .inl (fun _ => 0))), (q62, .inl (Z 0, 8, .inl (fun _ => 0))), (q70, .inl (Z 0, 8, .inl (fun _ => 0)))]) hC hK hnm hT fi_X4 tyX4_ok nmX4 rfl rfl (by decide) rfl rfl rfl rfl rfl rfl (Nat.le_of_ble_eq_true rfl) rfl wq_445 dX4_init_72 (fun H locs hT => ?_)
  refine lv_aload_n hx hb dX4_init_75 rfl (lv_at hl 0 rfl) ?_
  refine lv_bipush (v := 8) hx hb dX4_init_76 (by decide) ?_
  refine w_newI (N := 8) hC hK hT wq_240 (by decide) (by decide) (by decide) (Nat.le_of_ble_eq_true rfl) (Nat.le_of_ble_eq_true rfl) dX4_init_78 (fun q78 H hT => ?_)
  refine W.widen (k := 8) (n := 110) (Nat.le_of_ble_eq_true rfl) (Nat.le_of_ble_eq_true rfl) ?_
  have hT : TS vwCl D [(h0, .inr (4, [.null, .int 0, .int 0, .int (-1), .ref q22, .ref q30, .ref q38, .ref q46, .ref q54, .ref q62, .ref q70, .null, .null, .null, .null])), (q22, .inl (Z 0, 60, .inl (fun _ => 0))), (q30, .inl (Z 0, 6, .inl (fun _ => 0))), (q38, .inl (Z 0, 6, .inl (fun _ => 0))), (q46, .inl (Z 0, 6, .inl (fun _ => 0))), (q54, .inl (Z 0, 8, .inl (fun _ => 0))), (q62, .inl (Z 0, 8, .inl (fun _ => 0))), (q70, .inl (Z 0, 8, .inl (fun _ => 0))), (q78, .inl (Z 0, 8, .inl (fun _ => 0)))] A s.heap H locs := hT
  refine w_putF (C := RX4) (T := TX4) (N := 15) (ci := 4) (q0 := 0) (k := 11) (ty0 := tyX4) (ty := .array .int) (ws' := [(h0, .inr (4, [.null, .int 0, .int 0, .int (-1), .ref q22, .ref q30, .ref q38, .ref q46, .ref q54, .ref q62, .ref q70, .ref q78, .null, .null, .null])), (q22, .inl (Z 0, 60, .inl (fun _ => 0))), (q30, .inl (Z 0, 6, .inl (fun _ => 0))), (q38, .inl (Z 0, 6, .inl (fun _ => 0))), (q46, .inl (Z 0, 6, .inl (fun _ => 0))), (q54, .inl (Z 0, 8, .inl (fun _ => 0))), (q62, .inl (Z 0, 8, .inl (fun _ => 0))), (q70, .inl (Z 0, 8, .inl (fun _ => 0))), (q78, .inl (Z 0, 8, .inl (fun _ => 0)))]) hC hK hnm hT fi_X4 tyX4_ok nmX4 rfl rfl (by decide) rfl rfl rfl rfl rfl rfl (Nat.le_of_ble_eq_true rfl) rfl wq_447 dX4_init_80 (fun H locs hT => ?_)
  refine lv_aload_n hx hb dX4_init_83 rfl (lv_at hl 0 rfl) ?_
  refine lv_bipush (v := 8) hx hb dX4_init_84 (by decide) ?_
  refine w_newI (N := 8) hC hK hT wq_240 (by decide) (by decide) (by decide) (Nat.le_of_ble_eq_true rfl) (Nat.le_of_ble_eq_true rfl) dX4_init_86 (fun q86 H hT => ?_)
  refine W.widen (k := 9) (n := 118) (Nat.le_of_ble_eq_true rfl) (Nat.le_of_ble_eq_true rfl) ?_
  have hT : TS vwCl D [(h0, .inr (4, [.null, .int 0, .int 0, .int (-1), .ref q22, .ref q30, .ref q38, .ref q46, .ref q54, .ref q62, .ref q70, .ref q78, .null, .null, .null])), (q22, .inl (Z 0, 60, .inl (fun _ => 0))), (q30, .inl (Z 0, 6, .inl (fun _ => 0))), (q38, .inl (Z 0, 6, .inl (fun _ => 0))), (q46, .inl (Z 0, 6, .inl (fun _ => 0))), (q54, .inl (Z 0, 8, .inl (fun _ => 0))), (q62, .inl (Z 0, 8, .inl (fun _ => 0))), (q70, .inl (Z 0, 8, .inl (fun _ => 0))), (q78, .inl (Z 0, 8, .inl (fun _ => 0))), (q86, .inl (Z 0, 8, .inl (fun _ => 0)))] A s.heap H locs := hT
  refine w_putF (C := RX4) (T := TX4) (N := 15) (ci := 4) (q0 := 0) (k := 12) (ty0 := tyX4) (ty := .array .int) (ws' := [(h0, .inr (4, [.null, .int 0, .int 0, .int (-1), .ref q22, .ref q30, .ref q38, .ref q46, .ref q54, .ref q62, .ref q70, .ref q78, .ref q86, .null, .null])), (q22, .inl (Z 0, 60, .inl (fun _ => 0))), (q30, .inl (Z 0, 6, .inl (fun _ => 0))), (q38, .inl (Z 0, 6, .inl (fun _ => 0))), (q46, .inl (Z 0, 6, .inl (fun _ => 0))), (q54, .inl (Z 0, 8, .inl (fun _ => 0))), (q62, .inl (Z 0, 8, .inl (fun _ => 0))), (q70, .inl (Z 0, 8, .inl (fun _ => 0))), (q78, .inl (Z 0, 8, .inl (fun _ => 0))), (q86, .inl (Z 0, 8, .inl (fun _ => 0)))]) hC hK hnm hT fi_X4 tyX4_ok nmX4 rfl rfl (by decide) rfl rfl rfl rfl rfl rfl (Nat.le_of_ble_eq_true rfl) rfl wq_449 dX4_init_88 (fun H locs hT => ?_)
  refine lv_aload_n hx hb dX4_init_91 rfl (lv_at hl 0 rfl) ?_
  refine lv_bipush (v := 8) hx hb dX4_init_92 (by decide) ?_
  refine w_newI (N := 8) hC hK hT wq_240 (by decide) (by decide) (by decide) (Nat.le_of_ble_eq_true rfl) (Nat.le_of_ble_eq_true rfl) dX4_init_94 (fun q94 H hT => ?_)
  refine W.widen (k := 10) (n := 126) (Nat.le_of_ble_eq_true rfl) (Nat.le_of_ble_eq_true rfl) ?_
  have hT : TS vwCl D [(h0, .inr (4, [.null, .int 0, .int 0, .int (-1), .ref q22, .ref q30, .ref q38, .ref q46, .ref q54, .ref q62, .ref q70, .ref q78, .ref q86, .null, .null])), (q22, .inl (Z 0, 60, .inl (fun _ => 0))), (q30, .inl (Z 0, 6, .inl (fun _ => 0))), (q38, .inl (Z 0, 6, .inl (fun _ => 0))), (q46, .inl (Z 0, 6, .inl (fun _ => 0))), (q54, .inl (Z 0, 8, .inl (fun _ => 0))), (q62, .inl (Z 0, 8, .inl (fun _ => 0))), (q70, .inl (Z 0, 8, .inl (fun _ => 0))), (q78, .inl (Z 0, 8, .inl (fun _ => 0))), (q86, .inl (Z 0, 8, .inl (fun _ => 0))), (q94, .inl (Z 0, 8, .inl (fun _ => 0)))] A s.heap H locs := hT
  refine w_putF (C := RX4) (T := TX4) (N := 15) (ci := 4) (q0 := 0) (k := 13) (ty0 := tyX4) (ty := .array .int) (ws' := [(h0, .inr (4, [.null, .int 0, .int 0, .int (-1), .ref q22, .ref q30, .ref q38, .ref q46, .ref q54, .ref q62, .ref q70, .ref q78, .ref q86, .ref q94, .null])), (q22, .inl (Z 0, 60, .inl (fun _ => 0))), (q30, .inl (Z 0, 6, .inl (fun _ => 0))), (q38, .inl (Z 0, 6, .inl (fun _ => 0))), (q46, .inl (Z 0, 6, .inl (fun _ => 0))), (q54, .inl (Z 0, 8, .inl (fun _ => 0))), (q62, .inl (Z 0, 8, .inl (fun _ => 0))), (q70, .inl (Z 0, 8, .inl (fun _ => 0))), (q78, .inl (Z 0, 8, .inl (fun _ => 0))), (q86, .inl (Z 0, 8, .inl (fun _ => 0))), (q94, .inl (Z 0, 8, .inl (fun _ => 0)))]) hC hK hnm hT fi_X4 tyX4_ok nmX4 rfl rfl (by decide) rfl rfl rfl rfl rfl rfl (Nat.le_of_ble_eq_true rfl) rfl wq_451 dX4_init_96 (fun H locs hT => ?_)
  refine lv_aload_n hx hb dX4_init_99 rfl (lv_at hl 0 rfl) ?_
  refine lv_sipush (v := 400) hx hb dX4_init_100 (by decide) ?_
  refine w_newI (N := 400) hC hK hT wq_240 (by decide) (by decide) (by decide) (Nat.le_of_ble_eq_true rfl) (Nat.le_of_ble_eq_true rfl) dX4_init_103 (fun q103 H hT => ?_)
  refine W.widen (k := 11) (n := 526) (Nat.le_of_ble_eq_true rfl) (Nat.le_of_ble_eq_true rfl) ?_
  have hT : TS vwCl D [(h0, .inr (4, [.null, .int 0, .int 0, .int (-1), .ref q22, .ref q30, .ref q38, .ref q46, .ref q54, .ref q62, .ref q70, .ref q78, .ref q86, .ref q94, .null])), (q22, .inl (Z 0, 60, .inl (fun _ => 0))), (q30, .inl (Z 0, 6, .inl (fun _ => 0))), (q38, .inl (Z 0, 6, .inl (fun _ => 0))), (q46, .inl (Z 0, 6, .inl (fun _ => 0))), (q54, .inl (Z 0, 8, .inl (fun _ => 0))), (q62, .inl (Z 0, 8, .inl (fun _ => 0))), (q70, .inl (Z 0, 8, .inl (fun _ => 0))), (q78, .inl (Z 0, 8, .inl (fun _ => 0))), (q86, .inl (Z 0, 8, .inl (fun _ => 0))), (q94, .inl (Z 0, 8, .inl (fun _ => 0))), (q103, .inl (Z 0, 400, .inl (fun _ => 0)))] A s.heap H locs := hT
  refine w_putF (C := RX4) (T := TX4) (N := 15) (ci := 4) (q0 := 0) (k := 14) (ty0 := tyX4) (ty := .array .int) (ws' := [(h0, .inr (4, [.null, .int 0, .int 0, .int (-1), .ref q22, .ref q30, .ref q38, .ref q46, .ref q54, .ref q62, .ref q70, .ref q78, .ref q86, .ref q94, .ref q103])), (q22, .inl (Z 0, 60, .inl (fun _ => 0))), (q30, .inl (Z 0, 6, .inl (fun _ => 0))), (q38, .inl (Z 0, 6, .inl (fun _ => 0))), (q46, .inl (Z 0, 6, .inl (fun _ => 0))), (q54, .inl (Z 0, 8, .inl (fun _ => 0))), (q62, .inl (Z 0, 8, .inl (fun _ => 0))), (q70, .inl (Z 0, 8, .inl (fun _ => 0))), (q78, .inl (Z 0, 8, .inl (fun _ => 0))), (q86, .inl (Z 0, 8, .inl (fun _ => 0))), (q94, .inl (Z 0, 8, .inl (fun _ => 0))), (q103, .inl (Z 0, 400, .inl (fun _ => 0)))]) hC hK hnm hT fi_X4 tyX4_ok nmX4 rfl rfl (by decide) rfl rfl rfl rfl rfl rfl (Nat.le_of_ble_eq_true rfl) rfl wq_453 dX4_init_105 (fun H locs hT => ?_)
  refine lv_aload_n hx hb dX4_init_108 rfl (lv_at hl 0 rfl) ?_
  refine lv_aload_n hx hb dX4_init_109 rfl (lv_at hl 1 rfl) ?_
  refine w_put (C := RX4) (T := TX4) (N := 15) (ci := 4) (q0 := 0) (k := 0) (ty0 := tyX4) (ty := .object "TunnelLeggers$Plan") (ws' := [(h0, .inr (4, [.ref m0, .int 0, .int 0, .int (-1), .ref q22, .ref q30, .ref q38, .ref q46, .ref q54, .ref q62, .ref q70, .ref q78, .ref q86, .ref q94, .ref q103])), (q22, .inl (Z 0, 60, .inl (fun _ => 0))), (q30, .inl (Z 0, 6, .inl (fun _ => 0))), (q38, .inl (Z 0, 6, .inl (fun _ => 0))), (q46, .inl (Z 0, 6, .inl (fun _ => 0))), (q54, .inl (Z 0, 8, .inl (fun _ => 0))), (q62, .inl (Z 0, 8, .inl (fun _ => 0))), (q70, .inl (Z 0, 8, .inl (fun _ => 0))), (q78, .inl (Z 0, 8, .inl (fun _ => 0))), (q86, .inl (Z 0, 8, .inl (fun _ => 0))), (q94, .inl (Z 0, 8, .inl (fun _ => 0))), (q103, .inl (Z 0, 400, .inl (fun _ => 0)))]) hC hK hT fi_X4 tyX4_ok nmX4 rfl rfl (by decide) rfl rfl rfl rfl rfl (Nat.le_of_ble_eq_true rfl) rfl wq_425 dX4_init_110 (fun H locs hT => ?_)
  exact hret 113 ls _ _ (some (asc [(0, h0), (4, q22), (5, q30), (6, q38), (7, q46), (8, q54), (9, q62), (10, q70), (11, q78), (12, q86), (13, q94), (14, q103)])) ⟨_, rfl, rfl⟩ hT dX4_init_113
