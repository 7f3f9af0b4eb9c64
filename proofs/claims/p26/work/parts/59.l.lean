theorem wq_1361 : Cond.code yJ5_init_d00df cJ5_init_d00df 2 none ∈ lw_g := lw_g_mk (tb_6 (List.mem_of_getElem? (i := 97) rfl)) rfl
theorem wq_1362 : Cond.methodLink RJ5 3 objectInit ∈ lw_g := lw_g_mk (tb_6 (List.mem_of_getElem? (i := 98) rfl)) rfl
theorem wq_1358 : Cond.code yJ4_init_da8c8 cJ4_init_da8c8 1 none ∈ lw_g := lw_g_mk (tb_6 (List.mem_of_getElem? (i := 94) rfl)) rfl
theorem wq_1359 : Cond.methodLink RJ4 1 yJ5_init_d00df ∈ lw_g := lw_g_mk (tb_6 (List.mem_of_getElem? (i := 95) rfl)) rfl
theorem wq_1360 : Cond.instanceMethod yJ5_init_d00df ∈ lw_g := lw_g_mk (tb_6 (List.mem_of_getElem? (i := 96) rfl)) rfl
theorem wq_1393 : Cond.code yJ5_getValue_6d5f1 cJ5_getValue_6d5f1 1 (some (.array .byte)) ∈ lw_g := lw_g_mk (tb_6 (List.mem_of_getElem? (i := 129) rfl)) rfl
theorem wq_1401 : Cond.code yJ5_length_8abf5 cJ5_length_8abf5 1 (some .int) ∈ lw_g := lw_g_mk (tb_6 (List.mem_of_getElem? (i := 137) rfl)) rfl
theorem wq_1399 : Cond.code yJ4_length_8abf5 cJ4_length_8abf5 1 (some .int) ∈ lw_g := lw_g_mk (tb_6 (List.mem_of_getElem? (i := 135) rfl)) rfl
theorem wq_1400 : Cond.methodLink RJ4 343 yJ5_length_8abf5 ∈ lw_g := lw_g_mk (tb_6 (List.mem_of_getElem? (i := 136) rfl)) rfl
theorem wq_1396 : Cond.sameMethod yJ5_length_8abf5.cls yJ5_length_8abf5.cls yJ5_length_8abf5.name yJ5_length_8abf5.desc ∈ lw_g := lw_g_mk (tb_6 (List.mem_of_getElem? (i := 132) rfl)) rfl
theorem wq_1395 : Cond.instanceMethod yJ5_length_8abf5 ∈ lw_g := lw_g_mk (tb_6 (List.mem_of_getElem? (i := 131) rfl)) rfl
theorem wq_1411 : Cond.code yJ7_checkLength_df160 cJ7_checkLength_df160 2 none ∈ lw_g := lw_g_mk (tb_6 (List.mem_of_getElem? (i := 147) rfl)) rfl
theorem wq_1408 : Cond.code yJ7_copyOfRangeByte_39247 cJ7_copyOfRangeByte_39247 5 (some (.array .byte)) ∈ lw_g := lw_g_mk (tb_6 (List.mem_of_getElem? (i := 144) rfl)) rfl
theorem wq_1409 : Cond.methodLink RJ7 343 yJ7_checkLength_df160 ∈ lw_g := lw_g_mk (tb_6 (List.mem_of_getElem? (i := 145) rfl)) rfl
theorem wq_1410 : Cond.static yJ7_checkLength_df160 ∈ lw_g := lw_g_mk (tb_6 (List.mem_of_getElem? (i := 146) rfl)) rfl
theorem wq_1405 : Cond.code yJ7_copyOfRange_39247 cJ7_copyOfRange_39247 3 (some (.array .byte)) ∈ lw_g := lw_g_mk (tb_6 (List.mem_of_getElem? (i := 141) rfl)) rfl
theorem wq_1235 : Cond.methodLink RJ7 310 ⟨"[B", "clone", "()Ljava/lang/Object;"⟩ ∈ lw_g := lw_g_mk (tb_5 (List.mem_of_getElem? (i := 211) rfl)) rfl
theorem wq_1236 : Cond.sameMethod "[B" "java/lang/Object" "clone" "()Ljava/lang/Object;" ∈ lw_g := lw_g_mk (tb_5 (List.mem_of_getElem? (i := 212) rfl)) rfl
theorem wq_1237 : Cond.native ⟨"java/lang/Object", "clone", "()Ljava/lang/Object;"⟩ ∈ lw_g := lw_g_mk (tb_5 (List.mem_of_getElem? (i := 213) rfl)) rfl
theorem wq_1238 : Cond.instanceMethod ⟨"java/lang/Object", "clone", "()Ljava/lang/Object;"⟩ ∈ lw_g := lw_g_mk (tb_5 (List.mem_of_getElem? (i := 214) rfl)) rfl
theorem wq_1239 : Cond.selects "[B" ⟨"[B", "clone", "()Ljava/lang/Object;"⟩ ⟨"java/lang/Object", "clone", "()Ljava/lang/Object;"⟩ ∈ lw_g := lw_g_mk (tb_5 (List.mem_of_getElem? (i := 215) rfl)) rfl
theorem wq_1241 : Cond.classLink RJ7 311 "[B" ∈ lw_g := lw_g_mk (tb_5 (List.mem_of_getElem? (i := 217) rfl)) rfl
theorem wq_1406 : Cond.methodLink RJ7 339 yJ7_copyOfRangeByte_39247 ∈ lw_g := lw_g_mk (tb_6 (List.mem_of_getElem? (i := 142) rfl)) rfl
theorem wq_1407 : Cond.static yJ7_copyOfRangeByte_39247 ∈ lw_g := lw_g_mk (tb_6 (List.mem_of_getElem? (i := 143) rfl)) rfl
theorem dJ5_init_d00df_0 : decode cJ5_init_d00df 0 = .ok (.aload_n 0, 1) := by decide +kernel
theorem dJ5_init_d00df_1 : decode cJ5_init_d00df 1 = .ok (.invokespecial 3, 3) := by decide +kernel
theorem dJ5_init_d00df_4 : decode cJ5_init_d00df 4 = .ok (.getstatic 18, 3) := by decide +kernel
theorem dJ5_init_d00df_7 : decode cJ5_init_d00df 7 = .ok (.ifCond .eq 18, 3) := by decide +kernel
theorem dJ5_init_d00df_10 : decode cJ5_init_d00df 10 = .ok (.aload_n 0, 1) := by decide +kernel
theorem dJ5_init_d00df_11 : decode cJ5_init_d00df 11 = .ok (.iload_n 1, 1) := by decide +kernel
theorem dJ5_init_d00df_12 : decode cJ5_init_d00df 12 = .ok (.newarray .byte, 2) := by decide +kernel
theorem dJ5_init_d00df_14 : decode cJ5_init_d00df 14 = .ok (.putfield 15, 3) := by decide +kernel
theorem dJ5_init_d00df_17 : decode cJ5_init_d00df 17 = .ok (.aload_n 0, 1) := by decide +kernel
theorem dJ5_init_d00df_18 : decode cJ5_init_d00df 18 = .ok (.iconst 0, 1) := by decide +kernel
theorem dJ5_init_d00df_19 : decode cJ5_init_d00df 19 = .ok (.putfield 22, 3) := by decide +kernel
theorem dJ5_init_d00df_22 : decode cJ5_init_d00df 22 = .ok (.goto 16, 3) := by decide +kernel
theorem dJ5_init_d00df_25 : decode cJ5_init_d00df 25 = .ok (.aload_n 0, 1) := by decide +kernel
theorem dJ5_init_d00df_26 : decode cJ5_init_d00df 26 = .ok (.iload_n 1, 1) := by decide +kernel
theorem dJ5_init_d00df_27 : decode cJ5_init_d00df 27 = .ok (.invokestatic 26, 3) := by decide +kernel
theorem dJ5_init_d00df_30 : decode cJ5_init_d00df 30 = .ok (.putfield 15, 3) := by decide +kernel
theorem dJ5_init_d00df_33 : decode cJ5_init_d00df 33 = .ok (.aload_n 0, 1) := by decide +kernel
theorem dJ5_init_d00df_34 : decode cJ5_init_d00df 34 = .ok (.iconst 1, 1) := by decide +kernel
theorem dJ5_init_d00df_35 : decode cJ5_init_d00df 35 = .ok (.putfield 22, 3) := by decide +kernel
theorem dJ5_init_d00df_38 : decode cJ5_init_d00df 38 = .ok (.return_, 1) := by decide +kernel
theorem dJ4_init_da8c8_0 : decode cJ4_init_da8c8 0 = .ok (.aload_n 0, 1) := by decide +kernel
theorem dJ4_init_da8c8_1 : decode cJ4_init_da8c8 1 = .ok (.bipush 16, 2) := by decide +kernel
theorem dJ4_init_da8c8_3 : decode cJ4_init_da8c8 3 = .ok (.invokespecial 1, 3) := by decide +kernel
theorem dJ4_init_da8c8_6 : decode cJ4_init_da8c8 6 = .ok (.return_, 1) := by decide +kernel
theorem dJ5_getValue_6d5f1_0 : decode cJ5_getValue_6d5f1 0 = .ok (.aload_n 0, 1) := by decide +kernel
theorem dJ5_getValue_6d5f1_1 : decode cJ5_getValue_6d5f1 1 = .ok (.getfield 15, 3) := by decide +kernel
theorem dJ5_getValue_6d5f1_4 : decode cJ5_getValue_6d5f1 4 = .ok (.areturn, 1) := by decide +kernel
theorem dJ5_length_8abf5_0 : decode cJ5_length_8abf5 0 = .ok (.aload_n 0, 1) := by decide +kernel
theorem dJ5_length_8abf5_1 : decode cJ5_length_8abf5 1 = .ok (.getfield 79, 3) := by decide +kernel
theorem dJ5_length_8abf5_4 : decode cJ5_length_8abf5 4 = .ok (.ireturn, 1) := by decide +kernel
theorem dJ4_length_8abf5_0 : decode cJ4_length_8abf5 0 = .ok (.aload_n 0, 1) := by decide +kernel
theorem dJ4_length_8abf5_1 : decode cJ4_length_8abf5 1 = .ok (.invokespecial 343, 3) := by decide +kernel
theorem dJ4_length_8abf5_4 : decode cJ4_length_8abf5 4 = .ok (.ireturn, 1) := by decide +kernel
theorem dJ7_checkLength_df160_0 : decode cJ7_checkLength_df160 0 = .ok (.iload_n 1, 1) := by decide +kernel
theorem dJ7_checkLength_df160_1 : decode cJ7_checkLength_df160 1 = .ok (.iload_n 0, 1) := by decide +kernel
theorem dJ7_checkLength_df160_2 : decode cJ7_checkLength_df160 2 = .ok (.if_icmp .ge 35, 3) := by decide +kernel
theorem dJ7_checkLength_df160_5 : decode cJ7_checkLength_df160 5 = .ok (.new 43, 3) := by decide +kernel
theorem dJ7_checkLength_df160_8 : decode cJ7_checkLength_df160 8 = .ok (.dup, 1) := by decide +kernel
theorem dJ7_checkLength_df160_9 : decode cJ7_checkLength_df160 9 = .ok (.new 45, 3) := by decide +kernel
theorem dJ7_checkLength_df160_12 : decode cJ7_checkLength_df160 12 = .ok (.dup, 1) := by decide +kernel
theorem dJ7_checkLength_df160_13 : decode cJ7_checkLength_df160 13 = .ok (.invokespecial 47, 3) := by decide +kernel
theorem dJ7_checkLength_df160_16 : decode cJ7_checkLength_df160 16 = .ok (.iload_n 0, 1) := by decide +kernel
theorem dJ7_checkLength_df160_17 : decode cJ7_checkLength_df160 17 = .ok (.invokevirtual 54, 3) := by decide +kernel
theorem dJ7_checkLength_df160_20 : decode cJ7_checkLength_df160 20 = .ok (.ldc_w 337, 3) := by decide +kernel
theorem dJ7_checkLength_df160_23 : decode cJ7_checkLength_df160 23 = .ok (.invokevirtual 50, 3) := by decide +kernel
theorem dJ7_checkLength_df160_26 : decode cJ7_checkLength_df160 26 = .ok (.iload_n 1, 1) := by decide +kernel
theorem dJ7_checkLength_df160_27 : decode cJ7_checkLength_df160 27 = .ok (.invokevirtual 54, 3) := by decide +kernel
theorem dJ7_checkLength_df160_30 : decode cJ7_checkLength_df160 30 = .ok (.invokevirtual 61, 3) := by decide +kernel
theorem dJ7_checkLength_df160_33 : decode cJ7_checkLength_df160 33 = .ok (.invokespecial 65, 3) := by decide +kernel
theorem dJ7_checkLength_df160_36 : decode cJ7_checkLength_df160 36 = .ok (.athrow, 1) := by decide +kernel
theorem dJ7_checkLength_df160_37 : decode cJ7_checkLength_df160 37 = .ok (.return_, 1) := by decide +kernel
theorem dJ7_copyOfRangeByte_39247_0 : decode cJ7_copyOfRangeByte_39247 0 = .ok (.iload_n 1, 1) := by decide +kernel
theorem dJ7_copyOfRangeByte_39247_1 : decode cJ7_copyOfRangeByte_39247 1 = .ok (.iload_n 2, 1) := by decide +kernel
theorem dJ7_copyOfRangeByte_39247_2 : decode cJ7_copyOfRangeByte_39247 2 = .ok (.invokestatic 343, 3) := by decide +kernel
theorem dJ7_copyOfRangeByte_39247_5 : decode cJ7_copyOfRangeByte_39247 5 = .ok (.iload_n 2, 1) := by decide +kernel
theorem dJ7_copyOfRangeByte_39247_6 : decode cJ7_copyOfRangeByte_39247 6 = .ok (.iload_n 1, 1) := by decide +kernel
theorem dJ7_copyOfRangeByte_39247_7 : decode cJ7_copyOfRangeByte_39247 7 = .ok (.isub, 1) := by decide +kernel
theorem dJ7_copyOfRangeByte_39247_8 : decode cJ7_copyOfRangeByte_39247 8 = .ok (.istore_n 3, 1) := by decide +kernel
theorem dJ7_copyOfRangeByte_39247_9 : decode cJ7_copyOfRangeByte_39247 9 = .ok (.iload_n 3, 1) := by decide +kernel
theorem dJ7_copyOfRangeByte_39247_10 : decode cJ7_copyOfRangeByte_39247 10 = .ok (.newarray .byte, 2) := by decide +kernel
theorem dJ7_copyOfRangeByte_39247_12 : decode cJ7_copyOfRangeByte_39247 12 = .ok (.astore 4, 2) := by decide +kernel
theorem dJ7_copyOfRangeByte_39247_14 : decode cJ7_copyOfRangeByte_39247 14 = .ok (.aload_n 0, 1) := by decide +kernel
theorem dJ7_copyOfRangeByte_39247_15 : decode cJ7_copyOfRangeByte_39247 15 = .ok (.iload_n 1, 1) := by decide +kernel
theorem dJ7_copyOfRangeByte_39247_16 : decode cJ7_copyOfRangeByte_39247 16 = .ok (.aload 4, 2) := by decide +kernel
theorem dJ7_copyOfRangeByte_39247_18 : decode cJ7_copyOfRangeByte_39247 18 = .ok (.iconst 0, 1) := by decide +kernel
theorem dJ7_copyOfRangeByte_39247_19 : decode cJ7_copyOfRangeByte_39247 19 = .ok (.aload_n 0, 1) := by decide +kernel
theorem dJ7_copyOfRangeByte_39247_20 : decode cJ7_copyOfRangeByte_39247 20 = .ok (.arraylength, 1) := by decide +kernel
theorem dJ7_copyOfRangeByte_39247_21 : decode cJ7_copyOfRangeByte_39247 21 = .ok (.iload_n 1, 1) := by decide +kernel
theorem dJ7_copyOfRangeByte_39247_22 : decode cJ7_copyOfRangeByte_39247 22 = .ok (.isub, 1) := by decide +kernel
theorem dJ7_copyOfRangeByte_39247_23 : decode cJ7_copyOfRangeByte_39247 23 = .ok (.iload_n 3, 1) := by decide +kernel
theorem dJ7_copyOfRangeByte_39247_24 : decode cJ7_copyOfRangeByte_39247 24 = .ok (.invokestatic 304, 3) := by decide +kernel
theorem dJ7_copyOfRangeByte_39247_27 : decode cJ7_copyOfRangeByte_39247 27 = .ok (.invokestatic 150, 3) := by decide +kernel
theorem dJ7_copyOfRangeByte_39247_30 : decode cJ7_copyOfRangeByte_39247 30 = .ok (.aload 4, 2) := by decide +kernel
theorem dJ7_copyOfRangeByte_39247_32 : decode cJ7_copyOfRangeByte_39247 32 = .ok (.areturn, 1) := by decide +kernel
theorem dJ7_copyOfRange_39247_0 : decode cJ7_copyOfRange_39247 0 = .ok (.iload_n 1, 1) := by decide +kernel
theorem dJ7_copyOfRange_39247_1 : decode cJ7_copyOfRange_39247 1 = .ok (.ifCond .ne 9, 3) := by decide +kernel
theorem dJ7_copyOfRange_39247_4 : decode cJ7_copyOfRange_39247 4 = .ok (.iload_n 2, 1) := by decide +kernel
theorem dJ7_copyOfRange_39247_5 : decode cJ7_copyOfRange_39247 5 = .ok (.aload_n 0, 1) := by decide +kernel
theorem dJ7_copyOfRange_39247_6 : decode cJ7_copyOfRange_39247 6 = .ok (.arraylength, 1) := by decide +kernel
theorem dJ7_copyOfRange_39247_7 : decode cJ7_copyOfRange_39247 7 = .ok (.if_icmp .eq 10, 3) := by decide +kernel
theorem dJ7_copyOfRange_39247_10 : decode cJ7_copyOfRange_39247 10 = .ok (.aload_n 0, 1) := by decide +kernel
theorem dJ7_copyOfRange_39247_11 : decode cJ7_copyOfRange_39247 11 = .ok (.iload_n 1, 1) := by decide +kernel
theorem dJ7_copyOfRange_39247_12 : decode cJ7_copyOfRange_39247 12 = .ok (.iload_n 2, 1) := by decide +kernel
theorem dJ7_copyOfRange_39247_13 : decode cJ7_copyOfRange_39247 13 = .ok (.invokestatic 339, 3) := by decide +kernel
theorem dJ7_copyOfRange_39247_16 : decode cJ7_copyOfRange_39247 16 = .ok (.areturn, 1) := by decide +kernel
theorem dJ7_copyOfRange_39247_17 : decode cJ7_copyOfRange_39247 17 = .ok (.aload_n 0, 1) := by decide +kernel
theorem dJ7_copyOfRange_39247_18 : decode cJ7_copyOfRange_39247 18 = .ok (.invokevirtual 310, 3) := by decide +kernel
theorem dJ7_copyOfRange_39247_21 : decode cJ7_copyOfRange_39247 21 = .ok (.checkcast 311, 3) := by decide +kernel
theorem dJ7_copyOfRange_39247_24 : decode cJ7_copyOfRange_39247 24 = .ok (.areturn, 1) := by decide +kernel
theorem mi_J5_init_d00df : MInfo yJ5_init_d00df cJ5_init_d00df 2 none 1 := ⟨wq_1361, wq_65, by decide, ⟨by decide +kernel, by decide +kernel, by decide +kernel⟩, by decide +kernel⟩
theorem mi_J4_init_da8c8 : MInfo yJ4_init_da8c8 cJ4_init_da8c8 1 none 0 := ⟨wq_1358, wq_66, by decide, ⟨by decide +kernel, by decide +kernel, by decide +kernel⟩, by decide +kernel⟩
theorem mi_J5_getValue_6d5f1 : MInfo yJ5_getValue_6d5f1 cJ5_getValue_6d5f1 1 (some (.array .byte)) 0 := ⟨wq_1393, wq_65, by decide, ⟨by decide +kernel, by decide +kernel, by decide +kernel⟩, by decide +kernel⟩
theorem mi_J5_length_8abf5 : MInfo yJ5_length_8abf5 cJ5_length_8abf5 1 (some .int) 0 := ⟨wq_1401, wq_65, by decide, ⟨by decide +kernel, by decide +kernel, by decide +kernel⟩, by decide +kernel⟩
theorem mi_J4_length_8abf5 : MInfo yJ4_length_8abf5 cJ4_length_8abf5 1 (some .int) 0 := ⟨wq_1399, wq_66, by decide, ⟨by decide +kernel, by decide +kernel, by decide +kernel⟩, by decide +kernel⟩
theorem mi_J7_checkLength_df160 : MInfo yJ7_checkLength_df160 cJ7_checkLength_df160 2 none 2 := ⟨wq_1411, wq_72, by decide, ⟨by decide +kernel, by decide +kernel, by decide +kernel⟩, by decide +kernel⟩
theorem mi_J7_copyOfRangeByte_39247 : MInfo yJ7_copyOfRangeByte_39247 cJ7_copyOfRangeByte_39247 5 (some (.array .byte)) 3 := ⟨wq_1408, wq_72, by decide, ⟨by decide +kernel, by decide +kernel, by decide +kernel⟩, by decide +kernel⟩
theorem mi_J7_copyOfRange_39247 : MInfo yJ7_copyOfRange_39247 cJ7_copyOfRange_39247 3 (some (.array .byte)) 3 := ⟨wq_1405, wq_72, by decide, ⟨by decide +kernel, by decide +kernel, by decide +kernel⟩, by decide +kernel⟩
def sbN (Z : Nat → ClassId) (b : Nat) : Option Nat → va_W
  | none => [(b, .inr (8, [.null, .int 0, .int 0, .int 0]))]
  | some q => SBW Z b q 16 0 (fun _ => 0)
theorem SBI.nil (q : Nat) : SBI (q, 16, 0, fun _ => 0) [] := ⟨rfl, Nat.zero_le _, Nat.le_of_ble_eq_true rfl, fun i _ => show fits .byte (.int 0) = true from by decide, fun j hj => by simp at hj⟩
set_option maxRecDepth 100000 in
set_option maxHeartbeats 1000000 in
theorem c_asbInit (l : Launch) (D : va_G) (Z rx : Nat → ClassId) (sz b : Nat) : Met l yJ5_init_d00df (wy yJ5_init_d00df cJ5_init_d00df 2 none) (rk 1 1 16) (preG (RD rx) vwCl D Z (sbN Z b none) sz [.ref b, .int 16]) (poV vwCl D Z (sbN Z b) none sz (fun u => ∃ q, u = some q)) 1 16 (va_A (sbN Z b none) sz) := by
  refine rwv_ofG (by decide +kernel) (Nat.le_of_ble_eq_true rfl) rfl ?_
  intro p e s m args below meth c Q A hC hN hR hsz hnm hT hK hret ls hl
  have hJZ := hR.1
  have hT : TS vwCl D [(b, .inr (8, [.null, .int 0, .int 0, .int 0]))] A s.heap s.heap [] := hT
  have hx := hC.1
  have hb := hC.2.1
  have hts := hC.2.2.2.2
  have hl : lv_has ls 2 [(0, .ref b), (1, .int 16)] := hl
  refine lv_aload_n hx hb dJ5_init_d00df_0 rfl (lv_at hl 0 rfl) ?_
  refine w_objInit hC wq_1362 wq_96 wq_97 hl.1 (by decide) (Nat.le_of_ble_eq_true rfl) dJ5_init_d00df_1 ?_
  refine va_gets hx hb hJZ.cs hT.2.2.1 hC.2.2.2.1 (hts _ wq_1251) (fun _ h => h) dJ5_init_d00df_4 ?_
  refine lv_if_eq (tgt := 25) hx hb dJ5_init_d00df_7 (by decide) (fun z => absurd z (by decide)) (fun c_7 => ?_)
  refine lv_aload_n hx hb dJ5_init_d00df_10 rfl (lv_at hl 0 rfl) ?_
  refine lv_iload_n hx hb dJ5_init_d00df_11 rfl (lv_at hl 1 rfl) ?_
  refine w_newB (N := 16) hC hK hT wq_238 (by decide) (by decide) (by decide) (by show 0 + 1 ≤ 1; omega) (by show 0 + 16 ≤ 16; omega) dJ5_init_d00df_12 (fun q H hT => ?_)
  have hT : TS vwCl D [(b, .inr (8, [.null, .int 0, .int 0, .int 0])), (q, .inl (Z 2, 16, .inl (fun _ => 0)))] A s.heap H [] := hT
  refine W.widen (k := 1) (n := 16) (by omega) (by omega) ?_
  refine w_putJ (C := RJ4) (T := TJ4) (N := 4) (ci := 8) (q0 := 0) (k := 0) (ty0 := tyJ4) (ty := .array .byte) (ws' := [(b, .inr (8, [.ref q, .int 0, .int 0, .int 0])), (q, .inl (Z 2, 16, .inl (fun _ => 0)))]) hC hK hT fi_J4 tyJ4_ok nmJ4 rfl rfl (by decide) rfl rfl rfl rfl (Nat.le_of_ble_eq_true rfl) rfl wq_1363 dJ5_init_d00df_14 (fun H14 locs14 hT => ?_)
  refine lv_aload_n hx hb dJ5_init_d00df_17 rfl (lv_at hl 0 rfl) ?_
  refine lv_iconst (v := 0) hx hb dJ5_init_d00df_18 (by decide) ?_
  refine w_putJ (C := RJ4) (T := TJ4) (N := 4) (ci := 8) (q0 := 0) (k := 1) (ty0 := tyJ4) (ty := .byte) (ws' := sbN Z b (some q)) hC hK hT fi_J4 tyJ4_ok nmJ4 rfl rfl (by decide) rfl rfl rfl rfl (Nat.le_of_ble_eq_true rfl) rfl wq_1364 dJ5_init_d00df_19 (fun H19 locs19 hT => ?_)
  refine lv_goto (tgt := 38) hx hb dJ5_init_d00df_22 (by decide) ?_
  exact hret 38 ls _ _ (some q) ⟨q, rfl⟩ hT dJ5_init_d00df_38
set_option maxRecDepth 100000 in
set_option maxHeartbeats 1000000 in
theorem c_sbInit (l : Launch) (D : va_G) (Z rx : Nat → ClassId) (sz b : Nat) : Met l yJ4_init_da8c8 (wy yJ4_init_da8c8 cJ4_init_da8c8 1 none) (rk 2 1 16) (preG (RD rx) vwCl D Z (sbN Z b none) sz [.ref b]) (poV vwCl D Z (sbN Z b) none sz (fun u => ∃ q, u = some q)) 1 16 (va_A (sbN Z b none) sz) := by
  refine rwv_ofG (by decide +kernel) (Nat.le_of_ble_eq_true rfl) rfl ?_
  intro p e s m args below meth c Q A hC hN hR hsz hnm hT hK hret ls hl
  have hx := hC.1
  have hb := hC.2.1
  have hts := hC.2.2.2.2
  have hl : lv_has ls 1 [(0, .ref b)] := hl
  refine lv_aload_n hx hb dJ4_init_da8c8_0 rfl (lv_at hl 0 rfl) ?_
  refine lv_bipush (v := 16) hx hb dJ4_init_da8c8_1 (by decide) ?_
  have hT0 : TS vwCl D (sbN Z b none ++ []) A s.heap s.heap [] := hT
  refine goV (u0 := none) (wsF := sbN Z b) (runIG (As := [.int 16]) (RD.rg rx) hC hN (hT.rg (RD.rg rx) hR) (c_asbInit l D Z rx _ b) mi_J5_init_d00df wq_1359 wq_1360 rfl (by decide) hT.1 hT.D' hK rfl hl.1 rfl (Nat.le_of_ble_eq_true rfl) dJ4_init_da8c8_3 ⟨by omega, by omega⟩) rfl hT0 (fun u H1 locs1 hk hT => ?_)
  have hT : TS vwCl D (sbN Z b u) A s.heap H1 locs1 := hT.dropR
  refine W.widen (k := 1) (n := 16) (by omega) (by omega) ?_
  exact hret 6 ls _ _ u hk hT dJ4_init_da8c8_6
set_option maxRecDepth 100000 in
set_option maxHeartbeats 1000000 in
theorem c_getValue (l : Launch) (D : va_G) (Z rx : Nat → ClassId) (sz b v cap : Nat) (n : Int32) (f : Nat → Int32) : Met l yJ5_getValue_6d5f1 (wy yJ5_getValue_6d5f1 cJ5_getValue_6d5f1 1 (some (.array .byte))) (rk 0 0 0) (preG (RD rx) vwCl D Z (SBW Z b v cap n f) sz [.ref b]) (poQ vwCl D Z (fun _ : Unit => SBW Z b v cap n f) (fun _ => v) () sz (fun _ => True)) 0 0 (va_A (SBW Z b v cap n f) sz) := by
  refine rwq_ofG (wsF := fun _ : Unit => SBW Z b v cap n f) (u0 := ()) (by decide +kernel) (Nat.le_of_ble_eq_true rfl) rfl (Or.inr ⟨_, rfl⟩) ?_
  intro p e s m args below meth c Q A hC hN hR hsz hT hK hret ls hl
  have hx := hC.1
  have hb := hC.2.1
  have hts := hC.2.2.2.2
  have hl : lv_has ls 1 [(0, .ref b)] := hl
  refine lv_aload_n hx hb dJ5_getValue_6d5f1_0 rfl (lv_at hl 0 rfl) ?_
  refine w_getJ (C := RJ4) (T := TJ4) (N := 4) (ci := 8) (q0 := 0) (k := 0) hC hK hT.1 fi_J4 rfl rfl rfl (by decide) wq_1363 dJ5_getValue_6d5f1_1 ?_
  exact hret 4 ls _ _ () trivial hT dJ5_getValue_6d5f1_4
set_option maxRecDepth 100000 in
set_option maxHeartbeats 1000000 in
theorem c_asbLen (l : Launch) (D : va_G) (Z rx : Nat → ClassId) (sz b v cap : Nat) (n : Int32) (f : Nat → Int32) : Met l yJ5_length_8abf5 (wy yJ5_length_8abf5 cJ5_length_8abf5 1 (some .int)) (rk 0 0 0) (preG (RD rx) vwCl D Z (SBW Z b v cap n f) sz [.ref b]) (vp_Si (fun r => r = n)) 0 0 (fun _ => False) := by
  refine ro_ofG (ty := .int) (by decide +kernel) (Nat.le_of_ble_eq_true rfl) rfl ?_
  intro p e s m args below meth c Q A hC hN hR hsz hT hK hret ls hl
  have hx := hC.1
  have hb := hC.2.1
  have hts := hC.2.2.2.2
  have hl : lv_has ls 1 [(0, .ref b)] := hl
  refine lv_aload_n hx hb dJ5_length_8abf5_0 rfl (lv_at hl 0 rfl) ?_
  refine w_getJ (C := RJ4) (T := TJ4) (N := 4) (ci := 8) (q0 := 0) (k := 3) hC hK hT.1 fi_J4 rfl rfl rfl (by decide) wq_1366 dJ5_length_8abf5_1 ?_
  exact hret 4 ls _ rfl rfl dJ5_length_8abf5_4
set_option maxRecDepth 100000 in
set_option maxHeartbeats 1000000 in
theorem c_sbLen (l : Launch) (D : va_G) (Z rx : Nat → ClassId) (sz b v cap : Nat) (n : Int32) (f : Nat → Int32) : Met l yJ4_length_8abf5 (wy yJ4_length_8abf5 cJ4_length_8abf5 1 (some .int)) (rk 1 0 0) (preG (RD rx) vwCl D Z (SBW Z b v cap n f) sz [.ref b]) (vp_Si (fun r => r = n)) 0 0 (fun _ => False) := by
  refine ro_ofG (ty := .int) (by decide +kernel) (Nat.le_of_ble_eq_true rfl) rfl ?_
  intro p e s m args below meth c Q A hC hN hR hsz hT hK hret ls hl
  have hx := hC.1
  have hb := hC.2.1
  have hts := hC.2.2.2.2
  have hl : lv_has ls 1 [(0, .ref b)] := hl
  refine lv_aload_n hx hb dJ4_length_8abf5_0 rfl (lv_at hl 0 rfl) ?_
  refine ro_go (runSUG (C := RJ4) (As := []) (hK.1 8 _ rfl).2 (RD.rg rx) hC hN (hT.rg (RD.rg rx) hR) (c_asbLen l D Z rx _ b v cap n f) mi_J5_length_8abf5 wq_1400 wq_1396 wq_1208 wq_1395 (by decide) (by decide) hT.1 hT.D' hK (sb_recv (wr := []) hK (by rw [List.append_nil]; exact hT.1)) rfl hl.1 rfl (Nat.le_of_ble_eq_true rfl) dJ4_length_8abf5_1 ⟨Nat.zero_le _, Nat.zero_le _⟩) (fun r hr => ?_)
  subst hr
  exact hret 4 ls _ rfl rfl dJ4_length_8abf5_4
set_option maxRecDepth 100000 in
set_option maxHeartbeats 1000000 in
theorem c_ckLen (l : Launch) (D : va_G) (Z rx : Nat → ClassId) (sz n : Nat) (h1 : n < 2 ^ 31) : Met l yJ7_checkLength_df160 (wy yJ7_checkLength_df160 cJ7_checkLength_df160 2 none) (rk 0 0 0) (preG (RD rx) vwCl D Z [] sz [.int 0, .int (nI n)]) (poV vwCl D Z (fun _ : Unit => []) () sz (fun _ => True)) 0 0 (va_A [] sz) := by
  refine rwv_ofG (wsF := fun _ : Unit => []) (u0 := ()) (by decide +kernel) (Nat.le_of_ble_eq_true rfl) rfl ?_
  intro p e s m args below meth c Q A hC hN hR hsz hnm hT hK hret ls hl
  have hx := hC.1
  have hb := hC.2.1
  have hts := hC.2.2.2.2
  have hl : lv_has ls 2 [(0, .int 0), (1, .int (nI n))] := hl
  refine lv_iload_n hx hb dJ7_checkLength_df160_0 rfl (lv_at hl 1 rfl) ?_
  refine lv_iload_n hx hb dJ7_checkLength_df160_1 rfl (lv_at hl 0 rfl) ?_
  refine lv_icmp_ge (tgt := 37) hx hb dJ7_checkLength_df160_2 (by decide) (fun c_2 => ?_) (fun z => absurd (nI_pos' h1) z)
  exact hret 37 ls _ _ () trivial hT dJ7_checkLength_df160_37
def crW (Z : Nat → ClassId) (v cap : Nat) (f : Nat → Int32) (N : Nat) : Option (Nat × (Nat → Int32)) → va_W
  | none => [(v, .inl (Z 2, cap, .inl f))]
  | some u => [(v, .inl (Z 2, cap, .inl f)), (u.1, .inl (Z 2, N, .inl u.2))]
def crK (f : Nat → Int32) (N : Nat) (u : Option (Nat × (Nat → Int32))) : Prop := ∃ w g, u = some (w, g) ∧ ∀ j, j < N → g j = f j
set_option maxRecDepth 100000 in
set_option maxHeartbeats 1000000 in
theorem c_corb (l : Launch) (D : va_G) (Z rx : Nat → ClassId) (sz v cap N : Nat) (f : Nat → Int32) (h1 : N ≤ cap) (h2 : cap ≤ 4000) (hf : BF cap f) : Met l yJ7_copyOfRangeByte_39247 (wy yJ7_copyOfRangeByte_39247 cJ7_copyOfRangeByte_39247 5 (some (.array .byte))) (rk 2 1 N) (preG (RD rx) vwCl D Z (crW Z v cap f N none) sz [.ref v, .int 0, .int (nI N)]) (poQ vwCl D Z (crW Z v cap f N) (fun u => (u.getD (0, fun _ => 0)).1) none sz (crK f N)) 1 N (va_A (crW Z v cap f N none) sz) := by
  refine rwq_ofG (by decide +kernel) (Nat.le_of_ble_eq_true rfl) rfl (Or.inr ⟨_, rfl⟩) ?_
  intro p e s m args below meth c Q A hC hN hR hsz hT hK hret ls hl
  have hT : TS vwCl D [(v, .inl (Z 2, cap, .inl f))] A s.heap s.heap [] := hT
  have hx := hC.1
  have hb := hC.2.1
  have hts := hC.2.2.2.2
  have hl : lv_has ls 5 [(0, .ref v), (1, .int 0), (2, .int (nI N))] := hl
  refine lv_iload_n hx hb dJ7_copyOfRangeByte_39247_0 rfl (lv_at hl 1 rfl) ?_
  refine lv_iload_n hx hb dJ7_copyOfRangeByte_39247_1 rfl (lv_at hl 2 rfl) ?_
  have hT0 : TS vwCl D ([] ++ [(v, .inl (Z 2, cap, .inl f))]) A s.heap s.heap [] := hT
  refine goV (u0 := ()) (wsF := fun _ : Unit => []) (runSG (As := [.int 0, .int (nI N)]) (RD.rg rx) hC hN ((RD.rg rx).appL (hT0.rg (RD.rg rx) hR)) (c_ckLen l D Z rx _ N (by omega)) mi_J7_checkLength_df160 wq_1409 wq_1410 (by decide) va_P_nil va_D_nil hK rfl hl.1 rfl (Nat.le_of_ble_eq_true rfl) dJ7_copyOfRangeByte_39247_2 ⟨by omega, by omega⟩) rfl hT0 (fun u H1 locs1 hk hT => ?_)
  have hT : TS vwCl D [(v, .inl (Z 2, cap, .inl f))] A s.heap H1 locs1 := hT
  refine lv_iload_n hx hb dJ7_copyOfRangeByte_39247_5 rfl (lv_at hl 2 rfl) ?_
  refine lv_iload_n hx hb dJ7_copyOfRangeByte_39247_6 rfl (lv_at hl 1 rfl) ?_
  refine lv_isub hx hb dJ7_copyOfRangeByte_39247_7 ?_
  rw [show nI N - 0 = nI N from Int32.sub_zero _]
  refine lv_istore_n (lv' := [(3, .int (nI N)), (0, .ref v), (1, .int 0), (2, .int (nI N))]) hx hb dJ7_copyOfRangeByte_39247_8 rfl hl (by decide) rfl (fun ls hl => ?_)
  refine lv_iload_n hx hb dJ7_copyOfRangeByte_39247_9 rfl (lv_at hl 0 rfl) ?_
  refine w_newB (N := N) hC hK hT wq_238 (nI_pos (by omega)) (nI_clamp (by omega)) (by omega) (by show 0 + 0 + 1 ≤ 1; omega) (by show 0 + 0 + N ≤ N; omega) dJ7_copyOfRangeByte_39247_10 (fun q H hT => ?_)
  have hT : TS vwCl D [(v, .inl (Z 2, cap, .inl f)), (q, .inl (Z 2, N, .inl (fun _ => 0)))] A s.heap H _ := hT
  refine W.widen (k := 1) (n := N) (by omega) (by omega) ?_
  refine lv_astore (lv' := [(4, .ref q), (3, .int (nI N)), (0, .ref v), (1, .int 0), (2, .int (nI N))]) hx hb dJ7_copyOfRangeByte_39247_12 hl (by decide) rfl (fun ls hl => ?_)
  refine lv_aload_n hx hb dJ7_copyOfRangeByte_39247_14 rfl (lv_at hl 2 rfl) ?_
  refine lv_iload_n hx hb dJ7_copyOfRangeByte_39247_15 rfl (lv_at hl 3 rfl) ?_
  refine lv_aload hx hb dJ7_copyOfRangeByte_39247_16 (lv_at hl 0 rfl) ?_
  refine lv_iconst (v := 0) hx hb dJ7_copyOfRangeByte_39247_18 (by decide) ?_
  refine lv_aload_n hx hb dJ7_copyOfRangeByte_39247_19 rfl (lv_at hl 2 rfl) ?_
  refine w_alen (q0 := 0) (t0 := 2) hC hK hT.1 rfl rfl dJ7_copyOfRangeByte_39247_20 ?_
  refine lv_iload_n hx hb dJ7_copyOfRangeByte_39247_21 rfl (lv_at hl 3 rfl) ?_
  refine lv_isub hx hb dJ7_copyOfRangeByte_39247_22 ?_
  rw [show Int32.ofNat cap - 0 = Int32.ofNat cap from Int32.sub_zero _]
  refine lv_iload_n hx hb dJ7_copyOfRangeByte_39247_23 rfl (lv_at hl 1 rfl) ?_
  refine w_min hC wq_1242 (by decide) (Nat.le_of_ble_eq_true rfl) hl.1 ⟨Nat.le_refl _, Nat.le_refl _⟩ dJ7_copyOfRangeByte_39247_24 ?_
  rw [show mnv (Int32.ofNat cap) (nI N) = nI N from (mnv_nI (by omega) (by omega)).trans (by rw [Nat.min_eq_right (by omega)])]
  refine va_copyi hx hb (hC.2.2.1.trans hl.1.symm) hC.2.2.2.1 (hts _ wq_1243) (hts _ wq_1245) (hts _ wq_1244) (hts _ wq_73) hK hT.1 hT.2.1 hT.2.2.1 0 1 2 2 rfl rfl rfl rfl rfl (by decide) (by decide) (nI_pos (by omega)) (by rw [nI_clamp (by omega), clamp0]; omega) (by rw [nI_clamp (by omega), clamp0]; omega) (fun i hi => by rw [clamp0, Nat.zero_add]; rw [nI_clamp (by omega)] at hi; exact hf i (by omega)) (by show 1 ≤ 2; omega) (Nat.le_of_ble_eq_true rfl) dJ7_copyOfRangeByte_39247_27 (fun H2 locs2 hP1 hD1 hS1 => ?_)
  rw [nI_clamp (show N < 2 ^ 31 by omega), clamp0] at hP1 hD1
  have hT : TS vwCl D (crW Z v cap f N (some (q, va_cpy f (fun _ => 0) 0 0 N))) A s.heap H2 locs2 := ⟨hP1, hD1, hS1, hT.2.2.2⟩
  refine lv_aload hx hb dJ7_copyOfRangeByte_39247_30 (lv_at hl 0 rfl) ?_
  exact hret 32 ls _ _ (some (q, va_cpy f (fun _ => 0) 0 0 N)) ⟨q, _, rfl, fun j hj => by rw [pk_cpy_in (by omega) (by omega)]; congr 1; omega⟩ hT dJ7_copyOfRangeByte_39247_32
theorem fits_cell {c : ClassId} {n : Nat} {f : Nat → Int32} (hf : BF n f) : ∀ (i : Nat) (v : Value), (vp_cell c (n, .inl f)).slots[i]? = some v → fits .byte v = true := by
  intro i v h
  have hs : (arrV c n (fun j => Value.int (f j))).slots[i]? = some v := h
  have hi : i < n := by
    have := (Array.getElem?_eq_some_iff.mp hs).1
    rw [arrV_size] at this
    exact this
  rw [arrV_read _ _ hi] at hs
  cases hs
  exact hf i hi
set_option maxRecDepth 100000 in
set_option maxHeartbeats 1000000 in
theorem c_cor (l : Launch) (D : va_G) (Z rx : Nat → ClassId) (sz v cap N : Nat) (f : Nat → Int32) (h1 : N ≤ cap) (h2 : cap ≤ 4000) (hf : BF cap f) : Met l yJ7_copyOfRange_39247 (wy yJ7_copyOfRange_39247 cJ7_copyOfRange_39247 3 (some (.array .byte))) (rk 3 1 4000) (preG (RD rx) vwCl D Z (crW Z v cap f N none) sz [.ref v, .int 0, .int (nI N)]) (poQ vwCl D Z (crW Z v cap f N) (fun u => (u.getD (0, fun _ => 0)).1) none sz (crK f N)) 1 4000 (va_A (crW Z v cap f N none) sz) := by
  refine rwq_ofG (by decide +kernel) (Nat.le_of_ble_eq_true rfl) rfl (Or.inr ⟨_, rfl⟩) ?_
  intro p e s m args below meth c Q A hC hN hR hsz hT hK hret ls hl
  have hT : TS vwCl D [(v, .inl (Z 2, cap, .inl f))] A s.heap s.heap [] := hT
  have hx := hC.1
  have hb := hC.2.1
  have hts := hC.2.2.2.2
  have hl : lv_has ls 3 [(0, .ref v), (1, .int 0), (2, .int (nI N))] := hl
  refine lv_iload_n hx hb dJ7_copyOfRange_39247_0 rfl (lv_at hl 1 rfl) ?_
  refine lv_if_ne (tgt := 10) hx hb dJ7_copyOfRange_39247_1 (by decide) (fun z => absurd rfl z) (fun c_1 => ?_)
  refine lv_iload_n hx hb dJ7_copyOfRange_39247_4 rfl (lv_at hl 2 rfl) ?_
  refine lv_aload_n hx hb dJ7_copyOfRange_39247_5 rfl (lv_at hl 0 rfl) ?_
  refine w_alen (q0 := 0) (t0 := 2) hC hK hT.1 rfl rfl dJ7_copyOfRange_39247_6 ?_
  refine lv_icmp_eq (tgt := 17) hx hb dJ7_copyOfRange_39247_7 (by decide) (fun c_7 => ?_) (fun c_7 => ?_)
  · have hNc : cap = N := ((nI_eq (by omega) (by omega)).mp (show nI N = nI cap from c_7)).symm
    subst hNc
    refine lv_aload_n hx hb dJ7_copyOfRange_39247_17 rfl (lv_at hl 0 rfl) ?_
    have hbn : s.vm.findClass "[B" = some (Z 2) := (hK.2 2 _ rfl).2
    refine va_clone (ad := "[B") hx hb (hC.2.2.1.trans hl.1.symm) hC.2.2.2.1 (hts _ wq_1235) (hts _ wq_1236) (hts _ wq_1237) (hts _ wq_1238) (hts _ wq_1239) hR.selp.2 hK hT.1 hT.2.1 hT.2.2.1 hT.2.2.2 0 2 rfl rfl hbn (fits_cell hf) (by show 1 ≤ 3; omega) (Nat.le_of_ble_eq_true rfl) (by show 0 + 1 ≤ 1; omega) (by show 0 + cap ≤ 4000; omega) dJ7_copyOfRange_39247_18 (fun q H1 hK1 hP1 hD1 hS1 => ?_)
    have hT : TS vwCl D [(v, .inl (Z 2, cap, .inl f)), (q, .inl (Z 2, cap, .inl f))] A s.heap H1 _ := ⟨hP1, hD1, hS1, hT.2.2.2⟩
    refine W.widen (k := 1) (n := 4000) (by omega) (by show 0 + cap ≤ 4000; omega) ?_
    refine va_castA (nm := "[B") hx hb hC.2.2.2.1 (hts _ wq_1241) hT.1 1 rfl hbn dJ7_copyOfRange_39247_21 ?_
    exact hret 24 ls _ _ (some (q, f)) ⟨q, f, rfl, fun _ _ => rfl⟩ hT dJ7_copyOfRange_39247_24
  · refine lv_aload_n hx hb dJ7_copyOfRange_39247_10 rfl (lv_at hl 0 rfl) ?_
    refine lv_iload_n hx hb dJ7_copyOfRange_39247_11 rfl (lv_at hl 1 rfl) ?_
    refine lv_iload_n hx hb dJ7_copyOfRange_39247_12 rfl (lv_at hl 2 rfl) ?_
    have hT0 : TS vwCl D (crW Z v cap f N none ++ []) A s.heap s.heap [] := hT
    refine goQ (u0 := none) (g := fun u => (u.getD (0, fun _ => 0)).1) (wsF := crW Z v cap f N) (runSG (As := [.ref v, .int 0, .int (nI N)]) (RD.rg rx) hC hN (hT.rg (RD.rg rx) hR) (c_corb l D Z rx _ v cap N f h1 h2 hf) mi_J7_copyOfRangeByte_39247 wq_1406 wq_1407 (by decide) hT.1 hT.D' hK rfl hl.1 rfl (Nat.le_of_ble_eq_true rfl) dJ7_copyOfRange_39247_13 ⟨by omega, by omega⟩) rfl hT0 (fun u H1 locs1 hk hT => ?_)
    have hT : TS vwCl D (crW Z v cap f N u) A s.heap H1 locs1 := hT.dropR
    refine W.widen (k := 1) (n := 4000) (by omega) (by omega) ?_
    exact hret 16 ls _ _ u hk hT dJ7_copyOfRange_39247_16
