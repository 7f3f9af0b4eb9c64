theorem wq_1225 : Cond.code yJ8_newLength_cabcc cJ8_newLength_cabcc 4 (some .int) ∈ lw_g := lw_g_mk (tb_5 (List.mem_of_getElem? (i := 201) rfl)) rfl
theorem wq_70 : Cond.initialized RJ8 ∈ lw_g := lw_g_mk (tb_1 (List.mem_of_getElem? (i := 6) rfl)) rfl
theorem wq_1227 : Cond.constant RJ8 200 2147483639 ∈ lw_g := lw_g_mk (tb_5 (List.mem_of_getElem? (i := 203) rfl)) rfl
theorem wq_1226 : Cond.methodLink RJ8 194 Lib.Math.max.name ∈ lw_g := lw_g_mk (tb_5 (List.mem_of_getElem? (i := 202) rfl)) rfl
theorem wq_1222 : Cond.code yJ5_newCapacity_0f7a4 cJ5_newCapacity_0f7a4 6 (some .int) ∈ lw_g := lw_g_mk (tb_5 (List.mem_of_getElem? (i := 198) rfl)) rfl
theorem wq_65 : Cond.initialized RJ5 ∈ lw_g := lw_g_mk (tb_1 (List.mem_of_getElem? (i := 1) rfl)) rfl
theorem wq_1231 : Cond.constant RJ5 39 2147483647 ∈ lw_g := lw_g_mk (tb_5 (List.mem_of_getElem? (i := 207) rfl)) rfl
theorem wq_1363 : Cond.fieldLink RJ5 15 RJ5 "value" "[B" ∈ lw_g := lw_g_mk (tb_6 (List.mem_of_getElem? (i := 99) rfl)) rfl
theorem wq_1364 : Cond.fieldLink RJ5 22 RJ5 "coder" "B" ∈ lw_g := lw_g_mk (tb_6 (List.mem_of_getElem? (i := 100) rfl)) rfl
theorem wq_1223 : Cond.methodLink RJ5 114 yJ8_newLength_cabcc ∈ lw_g := lw_g_mk (tb_5 (List.mem_of_getElem? (i := 199) rfl)) rfl
theorem wq_1224 : Cond.static yJ8_newLength_cabcc ∈ lw_g := lw_g_mk (tb_5 (List.mem_of_getElem? (i := 200) rfl)) rfl
theorem wq_1245 : Cond.native arraycopyName ∈ lw_g := lw_g_mk (tb_5 (List.mem_of_getElem? (i := 221) rfl)) rfl
theorem wq_1244 : Cond.static arraycopyName ∈ lw_g := lw_g_mk (tb_5 (List.mem_of_getElem? (i := 220) rfl)) rfl
theorem wq_73 : Cond.initialized "java/lang/System" ∈ lw_g := lw_g_mk (tb_1 (List.mem_of_getElem? (i := 9) rfl)) rfl
theorem wq_1234 : Cond.code yJ7_copyOf_9075b cJ7_copyOf_9075b 3 (some (.array .byte)) ∈ lw_g := lw_g_mk (tb_5 (List.mem_of_getElem? (i := 210) rfl)) rfl
theorem wq_72 : Cond.initialized RJ7 ∈ lw_g := lw_g_mk (tb_1 (List.mem_of_getElem? (i := 8) rfl)) rfl
theorem wq_1242 : Cond.methodLink RJ7 304 Lib.Math.min.name ∈ lw_g := lw_g_mk (tb_5 (List.mem_of_getElem? (i := 218) rfl)) rfl
theorem wq_1243 : Cond.methodLink RJ7 150 arraycopyName ∈ lw_g := lw_g_mk (tb_5 (List.mem_of_getElem? (i := 219) rfl)) rfl
theorem wq_1218 : Cond.code yJ5_ensureCapacityInternal_d00df cJ5_ensureCapacityInternal_d00df 3 none ∈ lw_g := lw_g_mk (tb_5 (List.mem_of_getElem? (i := 194) rfl)) rfl
theorem wq_1219 : Cond.methodLink RJ5 104 yJ5_newCapacity_0f7a4 ∈ lw_g := lw_g_mk (tb_5 (List.mem_of_getElem? (i := 195) rfl)) rfl
theorem wq_1492 : Cond.sameMethod yJ5_newCapacity_0f7a4.cls yJ5_newCapacity_0f7a4.cls yJ5_newCapacity_0f7a4.name yJ5_newCapacity_0f7a4.desc ∈ lw_g := lw_g_mk (tb_6 (List.mem_of_getElem? (i := 228) rfl)) rfl
theorem wq_1221 : Cond.instanceMethod yJ5_newCapacity_0f7a4 ∈ lw_g := lw_g_mk (tb_5 (List.mem_of_getElem? (i := 197) rfl)) rfl
theorem wq_1232 : Cond.methodLink RJ5 108 yJ7_copyOf_9075b ∈ lw_g := lw_g_mk (tb_5 (List.mem_of_getElem? (i := 208) rfl)) rfl
theorem wq_1233 : Cond.static yJ7_copyOf_9075b ∈ lw_g := lw_g_mk (tb_5 (List.mem_of_getElem? (i := 209) rfl)) rfl
theorem dJ8_newLength_cabcc_0 : decode cJ8_newLength_cabcc 0 = .ok (.iload_n 0, 1) := by decide +kernel
theorem dJ8_newLength_cabcc_1 : decode cJ8_newLength_cabcc 1 = .ok (.iload_n 1, 1) := by decide +kernel
theorem dJ8_newLength_cabcc_2 : decode cJ8_newLength_cabcc 2 = .ok (.iload_n 2, 1) := by decide +kernel
theorem dJ8_newLength_cabcc_3 : decode cJ8_newLength_cabcc 3 = .ok (.invokestatic 194, 3) := by decide +kernel
theorem dJ8_newLength_cabcc_6 : decode cJ8_newLength_cabcc 6 = .ok (.iadd, 1) := by decide +kernel
theorem dJ8_newLength_cabcc_7 : decode cJ8_newLength_cabcc 7 = .ok (.istore_n 3, 1) := by decide +kernel
theorem dJ8_newLength_cabcc_8 : decode cJ8_newLength_cabcc 8 = .ok (.iconst 0, 1) := by decide +kernel
theorem dJ8_newLength_cabcc_9 : decode cJ8_newLength_cabcc 9 = .ok (.iload_n 3, 1) := by decide +kernel
theorem dJ8_newLength_cabcc_10 : decode cJ8_newLength_cabcc 10 = .ok (.if_icmp .ge 11, 3) := by decide +kernel
theorem dJ8_newLength_cabcc_13 : decode cJ8_newLength_cabcc 13 = .ok (.iload_n 3, 1) := by decide +kernel
theorem dJ8_newLength_cabcc_14 : decode cJ8_newLength_cabcc 14 = .ok (.ldc 200, 2) := by decide +kernel
theorem dJ8_newLength_cabcc_16 : decode cJ8_newLength_cabcc 16 = .ok (.if_icmp .gt 5, 3) := by decide +kernel
theorem dJ8_newLength_cabcc_19 : decode cJ8_newLength_cabcc 19 = .ok (.iload_n 3, 1) := by decide +kernel
theorem dJ8_newLength_cabcc_20 : decode cJ8_newLength_cabcc 20 = .ok (.ireturn, 1) := by decide +kernel
theorem dJ8_newLength_cabcc_21 : decode cJ8_newLength_cabcc 21 = .ok (.iload_n 0, 1) := by decide +kernel
theorem dJ8_newLength_cabcc_22 : decode cJ8_newLength_cabcc 22 = .ok (.iload_n 1, 1) := by decide +kernel
theorem dJ8_newLength_cabcc_23 : decode cJ8_newLength_cabcc 23 = .ok (.invokestatic 201, 3) := by decide +kernel
theorem dJ8_newLength_cabcc_26 : decode cJ8_newLength_cabcc 26 = .ok (.ireturn, 1) := by decide +kernel
theorem dJ5_newCapacity_0f7a4_0 : decode cJ5_newCapacity_0f7a4 0 = .ok (.aload_n 0, 1) := by decide +kernel
theorem dJ5_newCapacity_0f7a4_1 : decode cJ5_newCapacity_0f7a4 1 = .ok (.getfield 15, 3) := by decide +kernel
theorem dJ5_newCapacity_0f7a4_4 : decode cJ5_newCapacity_0f7a4 4 = .ok (.arraylength, 1) := by decide +kernel
theorem dJ5_newCapacity_0f7a4_5 : decode cJ5_newCapacity_0f7a4 5 = .ok (.istore_n 2, 1) := by decide +kernel
theorem dJ5_newCapacity_0f7a4_6 : decode cJ5_newCapacity_0f7a4 6 = .ok (.iload_n 1, 1) := by decide +kernel
theorem dJ5_newCapacity_0f7a4_7 : decode cJ5_newCapacity_0f7a4 7 = .ok (.aload_n 0, 1) := by decide +kernel
theorem dJ5_newCapacity_0f7a4_8 : decode cJ5_newCapacity_0f7a4 8 = .ok (.getfield 22, 3) := by decide +kernel
theorem dJ5_newCapacity_0f7a4_11 : decode cJ5_newCapacity_0f7a4 11 = .ok (.ishl, 1) := by decide +kernel
theorem dJ5_newCapacity_0f7a4_12 : decode cJ5_newCapacity_0f7a4 12 = .ok (.istore_n 3, 1) := by decide +kernel
theorem dJ5_newCapacity_0f7a4_13 : decode cJ5_newCapacity_0f7a4 13 = .ok (.iload_n 3, 1) := by decide +kernel
theorem dJ5_newCapacity_0f7a4_14 : decode cJ5_newCapacity_0f7a4 14 = .ok (.iload_n 2, 1) := by decide +kernel
theorem dJ5_newCapacity_0f7a4_15 : decode cJ5_newCapacity_0f7a4 15 = .ok (.isub, 1) := by decide +kernel
theorem dJ5_newCapacity_0f7a4_16 : decode cJ5_newCapacity_0f7a4 16 = .ok (.istore 4, 2) := by decide +kernel
theorem dJ5_newCapacity_0f7a4_18 : decode cJ5_newCapacity_0f7a4 18 = .ok (.iload_n 2, 1) := by decide +kernel
theorem dJ5_newCapacity_0f7a4_19 : decode cJ5_newCapacity_0f7a4 19 = .ok (.iload 4, 2) := by decide +kernel
theorem dJ5_newCapacity_0f7a4_21 : decode cJ5_newCapacity_0f7a4 21 = .ok (.iload_n 2, 1) := by decide +kernel
theorem dJ5_newCapacity_0f7a4_22 : decode cJ5_newCapacity_0f7a4 22 = .ok (.iconst 2, 1) := by decide +kernel
theorem dJ5_newCapacity_0f7a4_23 : decode cJ5_newCapacity_0f7a4 23 = .ok (.aload_n 0, 1) := by decide +kernel
theorem dJ5_newCapacity_0f7a4_24 : decode cJ5_newCapacity_0f7a4 24 = .ok (.getfield 22, 3) := by decide +kernel
theorem dJ5_newCapacity_0f7a4_27 : decode cJ5_newCapacity_0f7a4 27 = .ok (.ishl, 1) := by decide +kernel
theorem dJ5_newCapacity_0f7a4_28 : decode cJ5_newCapacity_0f7a4 28 = .ok (.iadd, 1) := by decide +kernel
theorem dJ5_newCapacity_0f7a4_29 : decode cJ5_newCapacity_0f7a4 29 = .ok (.invokestatic 114, 3) := by decide +kernel
theorem dJ5_newCapacity_0f7a4_32 : decode cJ5_newCapacity_0f7a4 32 = .ok (.istore 5, 2) := by decide +kernel
theorem dJ5_newCapacity_0f7a4_34 : decode cJ5_newCapacity_0f7a4 34 = .ok (.iload 5, 2) := by decide +kernel
theorem dJ5_newCapacity_0f7a4_36 : decode cJ5_newCapacity_0f7a4 36 = .ok (.ldc 39, 2) := by decide +kernel
theorem dJ5_newCapacity_0f7a4_38 : decode cJ5_newCapacity_0f7a4 38 = .ok (.if_icmp .ne 13, 3) := by decide +kernel
theorem dJ5_newCapacity_0f7a4_41 : decode cJ5_newCapacity_0f7a4 41 = .ok (.new 120, 3) := by decide +kernel
theorem dJ5_newCapacity_0f7a4_44 : decode cJ5_newCapacity_0f7a4 44 = .ok (.dup, 1) := by decide +kernel
theorem dJ5_newCapacity_0f7a4_45 : decode cJ5_newCapacity_0f7a4 45 = .ok (.ldc 122, 2) := by decide +kernel
theorem dJ5_newCapacity_0f7a4_47 : decode cJ5_newCapacity_0f7a4 47 = .ok (.invokespecial 124, 3) := by decide +kernel
theorem dJ5_newCapacity_0f7a4_50 : decode cJ5_newCapacity_0f7a4 50 = .ok (.athrow, 1) := by decide +kernel
theorem dJ5_newCapacity_0f7a4_51 : decode cJ5_newCapacity_0f7a4 51 = .ok (.iload 5, 2) := by decide +kernel
theorem dJ5_newCapacity_0f7a4_53 : decode cJ5_newCapacity_0f7a4 53 = .ok (.aload_n 0, 1) := by decide +kernel
theorem dJ5_newCapacity_0f7a4_54 : decode cJ5_newCapacity_0f7a4 54 = .ok (.getfield 22, 3) := by decide +kernel
theorem dJ5_newCapacity_0f7a4_57 : decode cJ5_newCapacity_0f7a4 57 = .ok (.ishr, 1) := by decide +kernel
theorem dJ5_newCapacity_0f7a4_58 : decode cJ5_newCapacity_0f7a4 58 = .ok (.ireturn, 1) := by decide +kernel
theorem dJ7_copyOf_9075b_0 : decode cJ7_copyOf_9075b 0 = .ok (.iload_n 1, 1) := by decide +kernel
theorem dJ7_copyOf_9075b_1 : decode cJ7_copyOf_9075b 1 = .ok (.aload_n 0, 1) := by decide +kernel
theorem dJ7_copyOf_9075b_2 : decode cJ7_copyOf_9075b 2 = .ok (.arraylength, 1) := by decide +kernel
theorem dJ7_copyOf_9075b_3 : decode cJ7_copyOf_9075b 3 = .ok (.if_icmp .ne 11, 3) := by decide +kernel
theorem dJ7_copyOf_9075b_6 : decode cJ7_copyOf_9075b 6 = .ok (.aload_n 0, 1) := by decide +kernel
theorem dJ7_copyOf_9075b_7 : decode cJ7_copyOf_9075b 7 = .ok (.invokevirtual 310, 3) := by decide +kernel
theorem dJ7_copyOf_9075b_10 : decode cJ7_copyOf_9075b 10 = .ok (.checkcast 311, 3) := by decide +kernel
theorem dJ7_copyOf_9075b_13 : decode cJ7_copyOf_9075b 13 = .ok (.areturn, 1) := by decide +kernel
theorem dJ7_copyOf_9075b_14 : decode cJ7_copyOf_9075b 14 = .ok (.iload_n 1, 1) := by decide +kernel
theorem dJ7_copyOf_9075b_15 : decode cJ7_copyOf_9075b 15 = .ok (.newarray .byte, 2) := by decide +kernel
theorem dJ7_copyOf_9075b_17 : decode cJ7_copyOf_9075b 17 = .ok (.astore_n 2, 1) := by decide +kernel
theorem dJ7_copyOf_9075b_18 : decode cJ7_copyOf_9075b 18 = .ok (.aload_n 0, 1) := by decide +kernel
theorem dJ7_copyOf_9075b_19 : decode cJ7_copyOf_9075b 19 = .ok (.iconst 0, 1) := by decide +kernel
theorem dJ7_copyOf_9075b_20 : decode cJ7_copyOf_9075b 20 = .ok (.aload_n 2, 1) := by decide +kernel
theorem dJ7_copyOf_9075b_21 : decode cJ7_copyOf_9075b 21 = .ok (.iconst 0, 1) := by decide +kernel
theorem dJ7_copyOf_9075b_22 : decode cJ7_copyOf_9075b 22 = .ok (.aload_n 0, 1) := by decide +kernel
theorem dJ7_copyOf_9075b_23 : decode cJ7_copyOf_9075b 23 = .ok (.arraylength, 1) := by decide +kernel
theorem dJ7_copyOf_9075b_24 : decode cJ7_copyOf_9075b 24 = .ok (.iload_n 1, 1) := by decide +kernel
theorem dJ7_copyOf_9075b_25 : decode cJ7_copyOf_9075b 25 = .ok (.invokestatic 304, 3) := by decide +kernel
theorem dJ7_copyOf_9075b_28 : decode cJ7_copyOf_9075b 28 = .ok (.invokestatic 150, 3) := by decide +kernel
theorem dJ7_copyOf_9075b_31 : decode cJ7_copyOf_9075b 31 = .ok (.aload_n 2, 1) := by decide +kernel
theorem dJ7_copyOf_9075b_32 : decode cJ7_copyOf_9075b 32 = .ok (.areturn, 1) := by decide +kernel
theorem dJ5_ensureCapacityInternal_d00df_0 : decode cJ5_ensureCapacityInternal_d00df 0 = .ok (.aload_n 0, 1) := by decide +kernel
theorem dJ5_ensureCapacityInternal_d00df_1 : decode cJ5_ensureCapacityInternal_d00df 1 = .ok (.getfield 15, 3) := by decide +kernel
theorem dJ5_ensureCapacityInternal_d00df_4 : decode cJ5_ensureCapacityInternal_d00df 4 = .ok (.arraylength, 1) := by decide +kernel
theorem dJ5_ensureCapacityInternal_d00df_5 : decode cJ5_ensureCapacityInternal_d00df 5 = .ok (.aload_n 0, 1) := by decide +kernel
theorem dJ5_ensureCapacityInternal_d00df_6 : decode cJ5_ensureCapacityInternal_d00df 6 = .ok (.getfield 22, 3) := by decide +kernel
theorem dJ5_ensureCapacityInternal_d00df_9 : decode cJ5_ensureCapacityInternal_d00df 9 = .ok (.ishr, 1) := by decide +kernel
theorem dJ5_ensureCapacityInternal_d00df_10 : decode cJ5_ensureCapacityInternal_d00df 10 = .ok (.istore_n 2, 1) := by decide +kernel
theorem dJ5_ensureCapacityInternal_d00df_11 : decode cJ5_ensureCapacityInternal_d00df 11 = .ok (.iload_n 1, 1) := by decide +kernel
theorem dJ5_ensureCapacityInternal_d00df_12 : decode cJ5_ensureCapacityInternal_d00df 12 = .ok (.iload_n 2, 1) := by decide +kernel
theorem dJ5_ensureCapacityInternal_d00df_13 : decode cJ5_ensureCapacityInternal_d00df 13 = .ok (.isub, 1) := by decide +kernel
theorem dJ5_ensureCapacityInternal_d00df_14 : decode cJ5_ensureCapacityInternal_d00df 14 = .ok (.ifCond .le 24, 3) := by decide +kernel
theorem dJ5_ensureCapacityInternal_d00df_17 : decode cJ5_ensureCapacityInternal_d00df 17 = .ok (.aload_n 0, 1) := by decide +kernel
theorem dJ5_ensureCapacityInternal_d00df_18 : decode cJ5_ensureCapacityInternal_d00df 18 = .ok (.aload_n 0, 1) := by decide +kernel
theorem dJ5_ensureCapacityInternal_d00df_19 : decode cJ5_ensureCapacityInternal_d00df 19 = .ok (.getfield 15, 3) := by decide +kernel
theorem dJ5_ensureCapacityInternal_d00df_22 : decode cJ5_ensureCapacityInternal_d00df 22 = .ok (.aload_n 0, 1) := by decide +kernel
theorem dJ5_ensureCapacityInternal_d00df_23 : decode cJ5_ensureCapacityInternal_d00df 23 = .ok (.iload_n 1, 1) := by decide +kernel
theorem dJ5_ensureCapacityInternal_d00df_24 : decode cJ5_ensureCapacityInternal_d00df 24 = .ok (.invokevirtual 104, 3) := by decide +kernel
theorem dJ5_ensureCapacityInternal_d00df_27 : decode cJ5_ensureCapacityInternal_d00df 27 = .ok (.aload_n 0, 1) := by decide +kernel
theorem dJ5_ensureCapacityInternal_d00df_28 : decode cJ5_ensureCapacityInternal_d00df 28 = .ok (.getfield 22, 3) := by decide +kernel
theorem dJ5_ensureCapacityInternal_d00df_31 : decode cJ5_ensureCapacityInternal_d00df 31 = .ok (.ishl, 1) := by decide +kernel
theorem dJ5_ensureCapacityInternal_d00df_32 : decode cJ5_ensureCapacityInternal_d00df 32 = .ok (.invokestatic 108, 3) := by decide +kernel
theorem dJ5_ensureCapacityInternal_d00df_35 : decode cJ5_ensureCapacityInternal_d00df 35 = .ok (.putfield 15, 3) := by decide +kernel
theorem dJ5_ensureCapacityInternal_d00df_38 : decode cJ5_ensureCapacityInternal_d00df 38 = .ok (.return_, 1) := by decide +kernel
theorem mi_J8_newLength_cabcc : MInfo yJ8_newLength_cabcc cJ8_newLength_cabcc 4 (some .int) 3 := ⟨wq_1225, wq_70, by decide, ⟨by decide +kernel, by decide +kernel, by decide +kernel⟩, by decide +kernel⟩
theorem mi_J5_newCapacity_0f7a4 : MInfo yJ5_newCapacity_0f7a4 cJ5_newCapacity_0f7a4 6 (some .int) 1 := ⟨wq_1222, wq_65, by decide, ⟨by decide +kernel, by decide +kernel, by decide +kernel⟩, by decide +kernel⟩
theorem mi_J7_copyOf_9075b : MInfo yJ7_copyOf_9075b cJ7_copyOf_9075b 3 (some (.array .byte)) 2 := ⟨wq_1234, wq_72, by decide, ⟨by decide +kernel, by decide +kernel, by decide +kernel⟩, by decide +kernel⟩
theorem mi_J5_ensureCapacityInternal_d00df : MInfo yJ5_ensureCapacityInternal_d00df cJ5_ensureCapacityInternal_d00df 3 none 1 := ⟨wq_1218, wq_65, by decide, ⟨by decide +kernel, by decide +kernel, by decide +kernel⟩, by decide +kernel⟩
/-! ===== StringBuilder ===== -/
def BF (n : Nat) (f : Nat → Int32) : Prop := ∀ i, i < n → fits .byte (.int (f i)) = true
def gcap (cap k : Nat) : Nat := cap + max (k - cap) (cap + 2)
def SBW (Z : Nat → ClassId) (b v cap : Nat) (n : Int32) (f : Nat → Int32) : va_W := [(b, .inr (8, [.ref v, .int 0, .int 0, .int n])), (v, .inl (Z 2, cap, .inl f))]
abbrev SBS : Type := Nat × Nat × Int32 × (Nat → Int32)
abbrev sbW (Z : Nat → ClassId) (b : Nat) (u : SBS) : va_W := SBW Z b u.1 u.2.1 u.2.2.1 u.2.2.2
/-- the builder's cells hold the text T -/
def SBI (u : SBS) (T : List Nat) : Prop := u.2.2.1 = nI T.length ∧ T.length ≤ u.2.1 ∧ u.2.1 ≤ 4000 ∧ BF u.2.1 u.2.2.2 ∧ ∀ j, j < T.length → u.2.2.2 j = nI (T.getD j 0)
theorem sh0 (x : Int32) : x >>> ((0 : Int32) &&& 31) = x := by
  rw [show ((0 : Int32) &&& 31) = 0 from by decide]
  exact Int32.shiftRight_zero
theorem sl0 (x : Int32) : x <<< ((0 : Int32) &&& 31) = x := by
  rw [show ((0 : Int32) &&& 31) = 0 from by decide]
  exact Int32.shiftLeft_zero
theorem sl2 : (2 : Int32) <<< ((0 : Int32) &&& 31) = 2 := by decide
theorem mxv_nI {a b : Nat} (ha : a < 2 ^ 31) (hb : b < 2 ^ 31) : mxv (nI a) (nI b) = nI (max a b) := by
  unfold mxv
  by_cases h : a < b
  · rw [if_pos (nI_lt h hb), Nat.max_eq_right (by omega)]
  · rw [if_neg (nI_nlt (by omega) ha), Nat.max_eq_left (by omega)]
theorem mnv_nI {a b : Nat} (ha : a < 2 ^ 31) (hb : b < 2 ^ 31) : mnv (nI a) (nI b) = nI (min a b) := by
  unfold mnv
  by_cases h : b < a
  · rw [if_pos (nI_lt h ha), Nat.min_eq_right (by omega)]
  · rw [if_neg (nI_nlt (by omega) hb), Nat.min_eq_left (by omega)]
section ROWSJ
variable {p : Program} {l : Launch} {e : Env} {s : State} {m : MethodId} {args : Array Value} {below : List Frame} {meth : Method} {c : Code} {H H0 : Heap} {locs : List Loc} {cells slots : Nat} {Q : State → Prop} {R : Room}
variable {pc : Nat} {ls : Array Slot} {rest st0 : List Value} {A : Nat → Prop} {cl : List vw_C} {D : va_G} {Z : Nat → ClassId} {ws ws' : va_W} {a : Nat}
variable {cc : ByteArray} {nL index : Nat} {own : String}
/-- fields that a superclass declares -/
theorem w_getJ {C : String} {T : u_T} {N ci q0 k : Nat} {fs : List Value} {v : Value} (hC : CallFix p m c cc nL s args lw_g own) (hK : va_K D cl (tysG Z) s) (hP : va_P D cl ws H) (hin : ∀ w ∈ u_ws C T N, w ∈ lw_g) (hc : cl[ci]? = some (C, T, N)) (he : ws[q0]? = some (a, .inr (ci, fs))) (hv : fs[k]? = some v) (hk : k < N)
    (hl : Cond.fieldLink own index (T k).1 (T k).2.1 (T k).2.2.1 ∈ lw_g) (hdg : decode cc pc = .ok (.getfield index, 3))
    (kk : W p l e R s m args below meth c H locs cells slots Q (F0 m (pc + 3) ls (v :: rest))) : W p l e R s m args below meth c H locs cells slots Q (F0 m pc ls (.ref a :: rest)) :=
  va_get hC.1 hC.2.1 hC.2.2.2.2 hin hC.2.2.2.1 hK hP q0 he hc k hk (hC.2.2.2.2 _ hl) (fun _ h => h) hv hdg kk
theorem w_putJ {C : String} {T : u_T} {N ci q0 k : Nat} {fs : List Value} {v : Value} {ty0 : Nat → FieldType} {ty : FieldType} (hC : CallFix p m c cc nL s args lw_g own) (hK : va_K D cl (tysG Z) s) (hT : TS cl D ws A H0 H locs) (hin : ∀ w ∈ u_ws C T N, w ∈ lw_g) (hty : ∀ k, k < N → parseFieldDescriptor (T k).2.2.1 = some (ty0 k)) (hnm : ∀ a, a < N → ∀ b, b < N → a ≠ b → (T a).2.1 ≠ (T b).2.1) (hc : cl[ci]? = some (C, T, N)) (he : ws[q0]? = some (a, .inr (ci, fs))) (hk : k < N) (hfin : (T k).2.2.2 = false)
    (hd : ty0 k = ty) (hn : narrow ty v = v) (hfit : fits ty v = true) (hlen : k < fs.length) (hset : ws.set q0 (a, .inr (ci, fs.set k v)) = ws')
    (hl : Cond.fieldLink own index (T k).1 (T k).2.1 (T k).2.2.1 ∈ lw_g) (hdg : decode cc pc = .ok (.putfield index, 3))
    (kk : ∀ (H1 : Heap) (locs1 : List Loc), TS cl D ws' A H0 H1 locs1 → W p l e R s m args below meth c H1 locs1 cells slots Q (F0 m (pc + 3) ls rest)) : W p l e R s m args below meth c H locs cells slots Q (F0 m pc ls (v :: .ref a :: rest)) :=
  va_put hC.1 hC.2.1 hC.2.2.2.2 hin ty0 hty hnm hC.2.2.2.1 hK hT.1 hT.2.1 hT.2.2.1 q0 he hc k hk (hC.2.2.2.2 _ hl) (fun _ h => h) hfin ((hty k hk).trans (by rw [hd])) hn hfit hlen hdg (fun H1 locs1 hP hD hS => kk H1 locs1 ⟨hset ▸ hP, hset ▸ hD, hS, hT.2.2.2⟩)
end ROWSJ
theorem TS.rg0 {R : (Nat → Prop) → R2} {cl : List vw_C} {D : va_G} {ws : va_W} {A : Nat → Prop} {s : State} {H0 H : Heap} {locs : List Loc} (hT : TS cl D ws A H0 H locs) (hG : RG R) (hH : s.heap = H0) (hR : R A s s.heap) : R (va_A ws H.size) s H := by
  subst hH
  exact hT.rg hG hR
section RUNU0
variable {p : Program} {l : Launch} {e : Env} {s : State} {m : MethodId} {args : Array Value} {below : List Frame} {meth : Method} {c : Code} {H H0 : Heap} {locs : List Loc} {cells slots : Nat} {Q : State → Prop}
variable {pc : Nat} {ls : Array Slot} {rest st0 : List Value} {A : Nat → Prop} {cl : List vw_C} {D : va_G} {Z : Nat → ClassId} {ws wr : va_W} {mc ms : Nat}
variable {y : MethodName} {bytes cc : ByteArray} {maxL nL n index : Nat} {ret : Option FieldType} {rn rn' mcR msR : Nat} {Qc : Array Value → State → Outcome → State → Prop} {free : Addr → Prop} {own host : String} {b : Addr} {As : List Value}
theorem runU0 {C : String} (hC : CallFix p m c cc nL s args lw_g own) (hN : NW s) (hM : Met l y (wy y bytes maxL ret) (rk rn' mc ms) (pre cl D Z ws H.size (.ref b :: As)) Qc mc ms free) (hi : MInfo y bytes maxL ret n) (hl : Cond.methodLink own index y ∈ lw_g) (hsm : Cond.sameMethod y.cls y.cls y.name y.desc ∈ lw_g) (hin : Cond.instanceMethod y ∈ lw_g) (hse : (Cond.selects C y y).before args s = true) (hlt : rn' < rn)
    (hP : va_P D cl ws H) (hD : va_D (fun _ => True) ws) (hK : va_K D cl (tysG Z) s) (hrc : ∃ cell : Cell, H[b]? = some cell ∧ cell.vm.isStatics = false ∧ s.vm.findClass C = some cell.cls)
    (hn : As.length = n) (hsize : ls.size = nL) (hstack : st0 = As.reverse ++ .ref b :: rest) (hW : (rest.map fun v => v.category).sum ≤ 8) (hdg : decode cc pc = .ok (.invokevirtual index, 3)) (hf : cells + mc ≤ mcR ∧ slots + ms ≤ msR) :
    va_Run p l e (rk rn mcR msR) s m args below meth c H locs cells slots mc ms (F0 m pc ls st0) rest (Qc (Value.ref b :: As).toArray) free := by
  have hts := hC.2.2.2.2
  have hcode : (Cond.code y bytes maxL ret).before args s = true := hts _ hi.1
  refine va_runU (As := As) (rest := rest) (C := C) (owner := y.cls) (x := y) hC hM ⟨⟨rfl, rfl, (rk_fit hlt hi.2.2.1).1, (rk_fit hlt hi.2.2.1).2, pay_in hts (wy_good hi.1), List.mem_cons_self⟩, hcode, hts _ hi.2.1, ⟨hi.2.2.2.1.1, hi.2.2.2.1.2.1⟩, fun sig h => ?_, hts _ hl, hts _ hsm, va_Decl.of (hts _ hin) hcode, hse, hts _ hin⟩ ⟨pre.blind, hrc, fun U hU hW => ⟨rfl, by rw [hU], by rw [hU]; exact hP, hD, va_K.moved hW.alike hK, NW.warm hW hN⟩⟩ rfl hn hsize hstack (lv_room hW) hdg hf
  have h2 := hi.2.2.2.1.2.2
  rw [h] at h2
  exact (Option.some.inj h2).symm
end RUNU0
theorem sb_recv {D : va_G} {Z : Nat → ClassId} {s : State} {H : Heap} {b v cap : Nat} {n : Int32} {f : Nat → Int32} {wr : va_W} (hK : va_K D vwCl (tysG Z) s) (hP : va_P D vwCl (SBW Z b v cap n f ++ wr) H) : ∃ cell : Cell, H[b]? = some cell ∧ cell.vm.isStatics = false ∧ s.vm.findClass RJ4 = some cell.cls := va_recv (q0 := 0) (ci := 8) (cl := vwCl) hK hP rfl rfl
set_option maxRecDepth 100000 in
set_option maxHeartbeats 1000000 in
theorem c_newLen (l : Launch) (D : va_G) (Z : Nat → ClassId) (sz : Nat) (o mn pf : Int32) (h1 : 0 < o + mxv mn pf) (h2 : o + mxv mn pf ≤ 2147483639) : Met l yJ8_newLength_cabcc (wy yJ8_newLength_cabcc cJ8_newLength_cabcc 4 (some .int)) (rk 1 0 0) (pre vwCl D Z [] sz [.int o, .int mn, .int pf]) (vp_Si (fun r => r = o + mxv mn pf)) 0 0 (fun _ => False) := by
  refine ro_of (ty := .int) (by decide +kernel) (Nat.le_of_ble_eq_true rfl) rfl ?_
  intro p e s m args below meth c Q hC hN hsz hP hD hK hret ls hl
  have hx := hC.1
  have hb := hC.2.1
  have hts := hC.2.2.2.2
  have hl : lv_has ls 4 [(0, .int o), (1, .int mn), (2, .int pf)] := hl
  refine lv_iload_n hx hb dJ8_newLength_cabcc_0 rfl (lv_at hl 0 rfl) ?_
  refine lv_iload_n hx hb dJ8_newLength_cabcc_1 rfl (lv_at hl 1 rfl) ?_
  refine lv_iload_n hx hb dJ8_newLength_cabcc_2 rfl (lv_at hl 2 rfl) ?_
  refine w_max hC wq_1226 (by decide) (Nat.le_of_ble_eq_true rfl) hl.1 ⟨Nat.le_refl _, Nat.le_refl _⟩ dJ8_newLength_cabcc_3 ?_
  refine lv_iadd hx hb dJ8_newLength_cabcc_6 ?_
  refine lv_istore_n (lv' := [(3, .int (o + ((mxv mn pf)))), (0, .int o), (1, .int mn), (2, .int pf)]) hx hb dJ8_newLength_cabcc_7 rfl hl (by decide) rfl (fun ls hl => ?_)
  refine lv_iconst (v := 0) hx hb dJ8_newLength_cabcc_8 (by decide) ?_
  refine lv_iload_n hx hb dJ8_newLength_cabcc_9 rfl (lv_at hl 0 rfl) ?_
  refine lv_icmp_ge (tgt := 21) hx hb dJ8_newLength_cabcc_10 (by decide) (fun z => absurd z (Int32.not_le.mpr h1)) (fun c_10 => ?_)
  refine lv_iload_n hx hb dJ8_newLength_cabcc_13 rfl (lv_at hl 0 rfl) ?_
  refine lv_ldc (v := 2147483639) hx hb hC.2.2.2.1 (hts _ wq_1227) dJ8_newLength_cabcc_14 ?_
  refine lv_icmp_gt (tgt := 21) hx hb dJ8_newLength_cabcc_16 (by decide) (fun z => absurd z (Int32.not_lt.mpr h2)) (fun c_16 => ?_)
  refine lv_iload_n hx hb dJ8_newLength_cabcc_19 rfl (lv_at hl 0 rfl) ?_
  exact hret 20 ls _ rfl rfl dJ8_newLength_cabcc_20
theorem va_P_nil {D : va_G} {cl : List vw_C} {H : Heap} : va_P D cl [] H := fun k q h => by simp at h
theorem va_D_nil {A : Nat → Prop} : va_D A [] := ⟨fun i j p q h => by simp at h, fun k q h => by simp at h⟩
set_option maxRecDepth 100000 in
set_option maxHeartbeats 1000000 in
theorem c_newCap (l : Launch) (D : va_G) (Z : Nat → ClassId) (sz b v cap k : Nat) (n : Int32) (f : Nat → Int32) (h1 : cap < k) (h2 : k ≤ 100000) : Met l yJ5_newCapacity_0f7a4 (wy yJ5_newCapacity_0f7a4 cJ5_newCapacity_0f7a4 6 (some .int)) (rk 2 0 0) (pre vwCl D Z (SBW Z b v cap n f) sz [.ref b, .int (nI k)]) (vp_Si (fun r => r = nI (gcap cap k))) 0 0 (fun _ => False) := by
  have hne : ¬ nI (gcap cap k) = 2147483647 := fun z => by
    have := (nI_eq (a := gcap cap k) (b := 2147483647) (by unfold gcap; omega) (by omega)).mp z
    unfold gcap at this
    omega
  have hg : Int32.ofNat cap + mxv (nI (k - cap)) (nI (cap + 2)) = nI (gcap cap k) := by
    rw [mxv_nI (by omega) (by omega)]
    exact nI_add cap _
  refine ro_of (ty := .int) (by decide +kernel) (Nat.le_of_ble_eq_true rfl) rfl ?_
  intro p e s m args below meth c Q hC hN hsz hP hD hK hret ls hl
  generalize hH : s.heap = H at hP hret ⊢
  have hT : TS vwCl D (SBW Z b v cap n f) (fun _ => True) H H [] := ⟨hP, hD, va_S.rf, fun _ _ => trivial⟩
  have hx := hC.1
  have hb := hC.2.1
  have hts := hC.2.2.2.2
  have hl : lv_has ls 6 [(0, .ref b), (1, .int (nI k))] := hl
  refine lv_aload_n hx hb dJ5_newCapacity_0f7a4_0 rfl (lv_at hl 0 rfl) ?_
  refine w_getJ (C := RJ4) (T := TJ4) (N := 4) (ci := 8) (q0 := 0) (k := 0) hC hK hT.1 fi_J4 rfl rfl rfl (by decide) wq_1363 dJ5_newCapacity_0f7a4_1 ?_
  refine w_alen (q0 := 1) (t0 := 2) hC hK hT.1 rfl rfl dJ5_newCapacity_0f7a4_4 ?_
  refine lv_istore_n (lv' := [(2, .int (Int32.ofNat cap)), (0, .ref b), (1, .int (nI k))]) hx hb dJ5_newCapacity_0f7a4_5 rfl hl (by decide) rfl (fun ls hl => ?_)
  refine lv_iload_n hx hb dJ5_newCapacity_0f7a4_6 rfl (lv_at hl 2 rfl) ?_
  refine lv_aload_n hx hb dJ5_newCapacity_0f7a4_7 rfl (lv_at hl 1 rfl) ?_
  refine w_getJ (C := RJ4) (T := TJ4) (N := 4) (ci := 8) (q0 := 0) (k := 1) hC hK hT.1 fi_J4 rfl rfl rfl (by decide) wq_1364 dJ5_newCapacity_0f7a4_8 ?_
  refine lv_ishl hx hb dJ5_newCapacity_0f7a4_11 ?_
  rw [sl0]
  refine lv_istore_n (lv' := [(3, .int (nI k)), (2, .int (Int32.ofNat cap)), (0, .ref b), (1, .int (nI k))]) hx hb dJ5_newCapacity_0f7a4_12 rfl hl (by decide) rfl (fun ls hl => ?_)
  refine lv_iload_n hx hb dJ5_newCapacity_0f7a4_13 rfl (lv_at hl 0 rfl) ?_
  refine lv_iload_n hx hb dJ5_newCapacity_0f7a4_14 rfl (lv_at hl 1 rfl) ?_
  refine lv_isub hx hb dJ5_newCapacity_0f7a4_15 ?_
  rw [show nI k - Int32.ofNat cap = nI (k - cap) from pk_sub (by omega)]
  refine lv_istore (lv' := [(4, .int (nI (k - cap))), (3, .int (nI k)), (2, .int (Int32.ofNat cap)), (0, .ref b), (1, .int (nI k))]) hx hb dJ5_newCapacity_0f7a4_16 hl (by decide) rfl (fun ls hl => ?_)
  refine lv_iload_n hx hb dJ5_newCapacity_0f7a4_18 rfl (lv_at hl 2 rfl) ?_
  refine lv_iload hx hb dJ5_newCapacity_0f7a4_19 (lv_at hl 0 rfl) ?_
  refine lv_iload_n hx hb dJ5_newCapacity_0f7a4_21 rfl (lv_at hl 2 rfl) ?_
  refine lv_iconst (v := 2) hx hb dJ5_newCapacity_0f7a4_22 (by decide) ?_
  refine lv_aload_n hx hb dJ5_newCapacity_0f7a4_23 rfl (lv_at hl 3 rfl) ?_
  refine w_getJ (C := RJ4) (T := TJ4) (N := 4) (ci := 8) (q0 := 0) (k := 1) hC hK hT.1 fi_J4 rfl rfl rfl (by decide) wq_1364 dJ5_newCapacity_0f7a4_24 ?_
  refine lv_ishl hx hb dJ5_newCapacity_0f7a4_27 ?_
  rw [sl0]
  refine lv_iadd hx hb dJ5_newCapacity_0f7a4_28 ?_
  rw [show Int32.ofNat cap + 2 = nI (cap + 2) from nI_add cap 2]
  refine ro_go (runS (As := [.int (Int32.ofNat cap), .int (nI (k - cap)), .int (nI (cap + 2))]) (ws := []) hC hN (c_newLen l D Z H.size _ _ _ ?_ ?_) mi_J8_newLength_cabcc wq_1223 wq_1224 (by decide) (va_P_nil) (va_D_nil) hK rfl hl.1 rfl (Nat.le_of_ble_eq_true rfl) dJ5_newCapacity_0f7a4_29 ⟨Nat.le_refl _, Nat.le_refl _⟩) (fun r hr => ?_)
  · rw [hg]; exact nI_lt (a := 0) (by unfold gcap; omega) (by unfold gcap; omega)
  · rw [hg]; exact nI_le (b := 2147483639) (by unfold gcap; omega) (by omega)
  rw [hg] at hr
  subst hr
  refine lv_istore (lv' := [(5, .int (nI (gcap cap k))), (4, .int (nI (k - cap))), (3, .int (nI k)), (2, .int (Int32.ofNat cap)), (0, .ref b), (1, .int (nI k))]) hx hb dJ5_newCapacity_0f7a4_32 hl (by decide) rfl (fun ls hl => ?_)
  refine lv_iload hx hb dJ5_newCapacity_0f7a4_34 (lv_at hl 0 rfl) ?_
  refine lv_ldc (v := 2147483647) hx hb hC.2.2.2.1 (hts _ wq_1231) dJ5_newCapacity_0f7a4_36 ?_
  refine lv_icmp_ne (tgt := 51) hx hb dJ5_newCapacity_0f7a4_38 (by decide) (fun c_38 => ?_) (fun z => absurd z hne)
  refine lv_iload hx hb dJ5_newCapacity_0f7a4_51 (lv_at hl 0 rfl) ?_
  refine lv_aload_n hx hb dJ5_newCapacity_0f7a4_53 rfl (lv_at hl 4 rfl) ?_
  refine w_getJ (C := RJ4) (T := TJ4) (N := 4) (ci := 8) (q0 := 0) (k := 1) hC hK hT.1 fi_J4 rfl rfl rfl (by decide) wq_1364 dJ5_newCapacity_0f7a4_54 ?_
  refine lv_ishr hx hb dJ5_newCapacity_0f7a4_57 ?_
  rw [sh0]
  exact hret 58 ls _ rfl rfl dJ5_newCapacity_0f7a4_58
def cpW (Z : Nat → ClassId) (v n : Nat) (f : Nat → Int32) (N : Nat) : Option Nat → va_W
  | none => [(v, .inl (Z 2, n, .inl f))]
  | some q => [(v, .inl (Z 2, n, .inl f)), (q, .inl (Z 2, N, .inl (va_cpy f (fun _ => 0) 0 0 n)))]
theorem clampI {n : Nat} (h : n < 2 ^ 31) : (Int32.ofNat n).toNatClampNeg = n := nI_clamp h
theorem clamp0 : (0 : Int32).toNatClampNeg = 0 := rfl
set_option maxRecDepth 100000 in
set_option maxHeartbeats 1000000 in
theorem c_copyOf (l : Launch) (D : va_G) (Z : Nat → ClassId) (R : (Nat → Prop) → R2) (sz v n N : Nat) (f : Nat → Int32) (h1 : n < N) (h2 : N ≤ 100000) (hf : BF n f) : Met l yJ7_copyOf_9075b (wy yJ7_copyOf_9075b cJ7_copyOf_9075b 3 (some (.array .byte))) (rk 1 1 N) (preG R vwCl D Z (cpW Z v n f N none) sz [.ref v, .int (nI N)]) (poQ vwCl D Z (cpW Z v n f N) (fun u => u.getD 0) none sz (fun u => ∃ q, u = some q)) 1 N (va_A (cpW Z v n f N none) sz) := by
  have hne : ¬ nI N = Int32.ofNat n := fun z => by
    have := (nI_eq (by omega) (by omega)).mp (show nI N = nI n from z)
    omega
  refine rwq_ofG (by decide +kernel) (Nat.le_of_ble_eq_true rfl) rfl (Or.inr ⟨_, rfl⟩) ?_
  intro p e s m args below meth c Q A hC hN hR hsz hT hK hret ls hl
  have hT : TS vwCl D [(v, .inl (Z 2, n, .inl f))] A s.heap s.heap [] := hT
  have hx := hC.1
  have hb := hC.2.1
  have hts := hC.2.2.2.2
  have hl : lv_has ls 3 [(0, .ref v), (1, .int (nI N))] := hl
  refine lv_iload_n hx hb dJ7_copyOf_9075b_0 rfl (lv_at hl 1 rfl) ?_
  refine lv_aload_n hx hb dJ7_copyOf_9075b_1 rfl (lv_at hl 0 rfl) ?_
  refine w_alen (q0 := 0) (t0 := 2) hC hK hT.1 rfl rfl dJ7_copyOf_9075b_2 ?_
  refine lv_icmp_ne (tgt := 14) hx hb dJ7_copyOf_9075b_3 (by decide) (fun c_3 => ?_) (fun z => absurd z hne)
  refine lv_iload_n hx hb dJ7_copyOf_9075b_14 rfl (lv_at hl 1 rfl) ?_
  refine w_newB (N := N) hC hK hT wq_238 (nI_pos (by omega)) (clampI (by omega)) (by omega) (by show 0 + 1 ≤ 1; omega) (by show 0 + N ≤ N; omega) dJ7_copyOf_9075b_15 (fun q H hT => ?_)
  have hT : TS vwCl D [(v, .inl (Z 2, n, .inl f)), (q, .inl (Z 2, N, .inl (fun _ => 0)))] A s.heap H [] := hT
  refine W.widen (k := 1) (n := N) (by omega) (by omega) ?_
  refine lv_astore_n (lv' := [(2, .ref q), (0, .ref v), (1, .int (nI N))]) hx hb dJ7_copyOf_9075b_17 rfl hl (by decide) rfl (fun ls hl => ?_)
  refine lv_aload_n hx hb dJ7_copyOf_9075b_18 rfl (lv_at hl 1 rfl) ?_
  refine lv_iconst (v := 0) hx hb dJ7_copyOf_9075b_19 (by decide) ?_
  refine lv_aload_n hx hb dJ7_copyOf_9075b_20 rfl (lv_at hl 0 rfl) ?_
  refine lv_iconst (v := 0) hx hb dJ7_copyOf_9075b_21 (by decide) ?_
  refine lv_aload_n hx hb dJ7_copyOf_9075b_22 rfl (lv_at hl 1 rfl) ?_
  refine w_alen (q0 := 0) (t0 := 2) hC hK hT.1 rfl rfl dJ7_copyOf_9075b_23 ?_
  refine lv_iload_n hx hb dJ7_copyOf_9075b_24 rfl (lv_at hl 2 rfl) ?_
  refine w_min hC wq_1242 (by decide) (Nat.le_of_ble_eq_true rfl) hl.1 ⟨Nat.le_refl _, Nat.le_refl _⟩ dJ7_copyOf_9075b_25 ?_
  rw [show mnv (Int32.ofNat n) (nI N) = nI n from (mnv_nI (by omega) (by omega)).trans (by rw [Nat.min_eq_left (by omega)])]
  refine va_copyi hx hb (hC.2.2.1.trans hl.1.symm) hC.2.2.2.1 (hts _ wq_1243) (hts _ wq_1245) (hts _ wq_1244) (hts _ wq_73) hK hT.1 hT.2.1 hT.2.2.1 0 1 2 2 rfl rfl rfl rfl rfl (by decide) (by decide) (nI_pos (by omega)) (by rw [nI_clamp (by omega), clamp0]; omega) (by rw [nI_clamp (by omega), clamp0]; omega) (fun i hi => by rw [clamp0, Nat.zero_add]; rw [nI_clamp (by omega)] at hi; exact hf i hi) (by show 1 ≤ 1; omega) (Nat.le_of_ble_eq_true rfl) dJ7_copyOf_9075b_28 (fun H1 locs1 hP1 hD1 hS1 => ?_)
  rw [nI_clamp (show n < 2 ^ 31 by omega), clamp0] at hP1 hD1
  have hT : TS vwCl D (cpW Z v n f N (some q)) A s.heap H1 locs1 := ⟨hP1, hD1, hS1, hT.2.2.2⟩
  refine lv_aload_n hx hb dJ7_copyOf_9075b_31 rfl (lv_at hl 0 rfl) ?_
  exact hret 32 ls H1 locs1 (some q) ⟨q, rfl⟩ hT dJ7_copyOf_9075b_32
set_option maxRecDepth 100000 in
set_option maxHeartbeats 1000000 in
theorem c_ensure (l : Launch) (D : va_G) (Z rx : Nat → ClassId) (sz b v cap k : Nat) (n : Int32) (f : Nat → Int32) (h1 : cap ≤ 4000) (h2 : k ≤ 1500) (hf : BF cap f) : Met l yJ5_ensureCapacityInternal_d00df (wy yJ5_ensureCapacityInternal_d00df cJ5_ensureCapacityInternal_d00df 3 none) (rk 3 1 4000) (preG (RD rx) vwCl D Z (sbW Z b (v, cap, n, f)) sz [.ref b, .int (nI k)]) (poV vwCl D Z (sbW Z b) (v, cap, n, f) sz (fun u => (k ≤ cap ∧ u = (v, cap, n, f)) ∨ (cap < k ∧ u.2.1 = gcap cap k ∧ u.2.2.1 = n ∧ u.2.2.2 = va_cpy f (fun _ => 0) 0 0 cap))) 1 4000 (va_A (sbW Z b (v, cap, n, f)) sz) := by
  have hsub : (nI k - Int32.ofNat cap).toInt = (k : Int) - cap := pk_sub_toInt (by omega) (by omega)
  have hle1 : nI k - Int32.ofNat cap ≤ 0 → k ≤ cap := fun z => by
    rw [Int32.le_iff_toInt_le, hsub] at z
    have : (0 : Int32).toInt = 0 := rfl
    omega
  have hlt1 : ¬ nI k - Int32.ofNat cap ≤ 0 → cap < k := fun z => by
    rw [Int32.le_iff_toInt_le, hsub] at z
    have : (0 : Int32).toInt = 0 := rfl
    omega
  refine rwv_ofG (by decide +kernel) (Nat.le_of_ble_eq_true rfl) rfl ?_
  intro p e s m args below meth c Q A hC hN hR hsz hnm hT hK hret ls hl
  have hRD := hR
  generalize hH : s.heap = H0 at hT hret ⊢
  have hT : TS vwCl D (SBW Z b v cap n f) A H0 H0 [] := hT
  have hx := hC.1
  have hb := hC.2.1
  have hts := hC.2.2.2.2
  have hl : lv_has ls 3 [(0, .ref b), (1, .int (nI k))] := hl
  refine lv_aload_n hx hb dJ5_ensureCapacityInternal_d00df_0 rfl (lv_at hl 0 rfl) ?_
  refine w_getJ (C := RJ4) (T := TJ4) (N := 4) (ci := 8) (q0 := 0) (k := 0) hC hK hT.1 fi_J4 rfl rfl rfl (by decide) wq_1363 dJ5_ensureCapacityInternal_d00df_1 ?_
  refine w_alen (q0 := 1) (t0 := 2) hC hK hT.1 rfl rfl dJ5_ensureCapacityInternal_d00df_4 ?_
  refine lv_aload_n hx hb dJ5_ensureCapacityInternal_d00df_5 rfl (lv_at hl 0 rfl) ?_
  refine w_getJ (C := RJ4) (T := TJ4) (N := 4) (ci := 8) (q0 := 0) (k := 1) hC hK hT.1 fi_J4 rfl rfl rfl (by decide) wq_1364 dJ5_ensureCapacityInternal_d00df_6 ?_
  refine lv_ishr hx hb dJ5_ensureCapacityInternal_d00df_9 ?_
  rw [sh0]
  refine lv_istore_n (lv' := [(2, .int (Int32.ofNat cap)), (0, .ref b), (1, .int (nI k))]) hx hb dJ5_ensureCapacityInternal_d00df_10 rfl hl (by decide) rfl (fun ls hl => ?_)
  refine lv_iload_n hx hb dJ5_ensureCapacityInternal_d00df_11 rfl (lv_at hl 2 rfl) ?_
  refine lv_iload_n hx hb dJ5_ensureCapacityInternal_d00df_12 rfl (lv_at hl 0 rfl) ?_
  refine lv_isub hx hb dJ5_ensureCapacityInternal_d00df_13 ?_
  refine lv_if_le (tgt := 38) hx hb dJ5_ensureCapacityInternal_d00df_14 (by decide) (fun c_14 => ?_) (fun c_14 => ?_)
  · have hle : k ≤ cap := hle1 c_14
    refine W.widen (k := 1) (n := 4000) (by omega) (by omega) ?_
    exact hret 38 ls _ _ (v, cap, n, f) (Or.inl ⟨by omega, rfl⟩) hT dJ5_ensureCapacityInternal_d00df_38
  · have hlt : cap < k := hlt1 c_14
    have hg1 : cap < gcap cap k := by unfold gcap; omega
    have hg2 : gcap cap k ≤ 4000 := by unfold gcap; omega
    refine lv_aload_n hx hb dJ5_ensureCapacityInternal_d00df_17 rfl (lv_at hl 1 rfl) ?_
    refine lv_aload_n hx hb dJ5_ensureCapacityInternal_d00df_18 rfl (lv_at hl 1 rfl) ?_
    refine w_getJ (C := RJ4) (T := TJ4) (N := 4) (ci := 8) (q0 := 0) (k := 0) hC hK hT.1 fi_J4 rfl rfl rfl (by decide) wq_1363 dJ5_ensureCapacityInternal_d00df_19 ?_
    refine lv_aload_n hx hb dJ5_ensureCapacityInternal_d00df_22 rfl (lv_at hl 1 rfl) ?_
    refine lv_iload_n hx hb dJ5_ensureCapacityInternal_d00df_23 rfl (lv_at hl 2 rfl) ?_
    refine ro_go (runU0 (C := RJ4) (As := [.int (nI k)]) (rest := [.ref v, .ref b]) hC hN (c_newCap l D Z H0.size b v cap k n f (by omega) (by omega)) mi_J5_newCapacity_0f7a4 wq_1219 wq_1492 wq_1221 (hRD.selp.use (List.mem_of_getElem? (i := 1) rfl)) (by decide) hT.1 hT.D' hK (sb_recv (wr := []) hK hT.1) rfl hl.1 rfl (Nat.le_of_ble_eq_true rfl) dJ5_ensureCapacityInternal_d00df_24 ⟨Nat.zero_le _, Nat.zero_le _⟩) (fun r hr => ?_)
    subst hr
    refine lv_aload_n hx hb dJ5_ensureCapacityInternal_d00df_27 rfl (lv_at hl 1 rfl) ?_
    refine w_getJ (C := RJ4) (T := TJ4) (N := 4) (ci := 8) (q0 := 0) (k := 1) hC hK hT.1 fi_J4 rfl rfl rfl (by decide) wq_1364 dJ5_ensureCapacityInternal_d00df_28 ?_
    refine lv_ishl hx hb dJ5_ensureCapacityInternal_d00df_31 ?_
    rw [sl0]
    have hT1 : TS vwCl D ([(v, .inl (Z 2, cap, .inl f))] ++ [(b, .inr (8, [.ref v, .int 0, .int 0, .int n]))]) A H0 H0 [] := hT.pick [1, 0] (by decide) rfl
    refine goQ (g := fun u => u.getD 0) (u0 := none) (wsF := cpW Z v cap f (gcap cap k)) (runSG (As := [.ref v, .int (nI (gcap cap k))]) (RD.rg rx) hC hN ((RD.rg rx).appL ((hT1.rg0 (RD.rg rx) hH hR))) (c_copyOf l D Z _ _ v cap (gcap cap k) f (by omega) (by omega) hf) mi_J7_copyOf_9075b wq_1232 wq_1233 (by decide) (hT1.dropR.1) (hT1.dropR.D') hK rfl hl.1 rfl (Nat.le_of_ble_eq_true rfl) dJ5_ensureCapacityInternal_d00df_32 ⟨by omega, by omega⟩) rfl hT1 (fun u H1 locs1 hk hT2 => ?_)
    obtain ⟨q, rfl⟩ := hk
    have hT : TS vwCl D [(v, .inl (Z 2, cap, .inl f)), (q, .inl (Z 2, gcap cap k, .inl (va_cpy f (fun _ => 0) 0 0 cap))), (b, .inr (8, [.ref v, .int 0, .int 0, .int n]))] A H0 H1 locs1 := hT2
    refine w_putJ (C := RJ4) (T := TJ4) (N := 4) (ci := 8) (q0 := 2) (k := 0) (ty0 := tyJ4) (ty := .array .byte) (ws' := [(v, .inl (Z 2, cap, .inl f)), (q, .inl (Z 2, gcap cap k, .inl (va_cpy f (fun _ => 0) 0 0 cap))), (b, .inr (8, [.ref q, .int 0, .int 0, .int n]))]) hC hK hT fi_J4 tyJ4_ok nmJ4 rfl rfl (by decide) rfl rfl rfl rfl (Nat.le_of_ble_eq_true rfl) rfl wq_1363 dJ5_ensureCapacityInternal_d00df_35 (fun H2 locs2 hT => ?_)
    have hT : TS vwCl D (sbW Z b (q, gcap cap k, n, va_cpy f (fun _ => 0) 0 0 cap)) A H0 H2 locs2 := hT.pick [2, 1] (by decide) rfl
    refine W.widen (k := 1) (n := 4000) (by omega) (by omega) ?_
    exact hret 38 ls _ _ (q, gcap cap k, n, va_cpy f (fun _ => 0) 0 0 cap) (Or.inr ⟨by omega, rfl, rfl, rfl⟩) hT dJ5_ensureCapacityInternal_d00df_38
