theorem wq_123 : Cond.fieldLink RJ0 38 "java/lang/String" "COMPACT_STRINGS" "Z" ∈ lw_g := lw_g_mk (tb_1 (List.mem_of_getElem? (i := 59) rfl)) rfl
theorem wq_1423 : Cond.fieldLink RJ0 15 "java/lang/String" "coder" "B" ∈ lw_g := lw_g_mk (tb_6 (List.mem_of_getElem? (i := 159) rfl)) rfl
theorem wq_1422 : Cond.fieldLink RJ0 9 "java/lang/String" "value" "[B" ∈ lw_g := lw_g_mk (tb_6 (List.mem_of_getElem? (i := 158) rfl)) rfl
theorem wq_140 : Cond.fieldLink RJ0 1053 "jdk/internal/util/Preconditions" "SIOOBE_FORMATTER" "Ljava/util/function/BiFunction;" ∈ lw_g := lw_g_mk (tb_1 (List.mem_of_getElem? (i := 76) rfl)) rfl
theorem wq_119 : Cond.methodLink RJ0 335 yJ0_coder_7d493 ∈ lw_g := lw_g_mk (tb_1 (List.mem_of_getElem? (i := 55) rfl)) rfl
theorem wq_130 : Cond.methodLink RJ0 492 yJ0_isLatin1_aae02 ∈ lw_g := lw_g_mk (tb_1 (List.mem_of_getElem? (i := 66) rfl)) rfl
theorem wq_134 : Cond.methodLink RJ0 495 yJ1_charAt_3b067 ∈ lw_g := lw_g_mk (tb_1 (List.mem_of_getElem? (i := 70) rfl)) rfl
theorem wq_137 : Cond.methodLink RJ1 9 yJ0_checkIndex_df160 ∈ lw_g := lw_g_mk (tb_1 (List.mem_of_getElem? (i := 73) rfl)) rfl
theorem wq_142 : Cond.methodLink RJ0 1059 yJ3_checkIndex_8e157 ∈ lw_g := lw_g_mk (tb_1 (List.mem_of_getElem? (i := 78) rfl)) rfl
theorem wq_120 : Cond.instanceMethod yJ0_coder_7d493 ∈ lw_g := lw_g_mk (tb_1 (List.mem_of_getElem? (i := 56) rfl)) rfl
theorem wq_121 : Cond.selects RJ0 yJ0_coder_7d493 yJ0_coder_7d493 ∈ lw_g := lw_g_mk (tb_1 (List.mem_of_getElem? (i := 57) rfl)) rfl
theorem wq_131 : Cond.instanceMethod yJ0_isLatin1_aae02 ∈ lw_g := lw_g_mk (tb_1 (List.mem_of_getElem? (i := 67) rfl)) rfl
theorem wq_132 : Cond.selects RJ0 yJ0_isLatin1_aae02 yJ0_isLatin1_aae02 ∈ lw_g := lw_g_mk (tb_1 (List.mem_of_getElem? (i := 68) rfl)) rfl
theorem wq_116 : Cond.instanceMethod yJ0_length_8abf5 ∈ lw_g := lw_g_mk (tb_1 (List.mem_of_getElem? (i := 52) rfl)) rfl
theorem wq_117 : Cond.selects RJ0 yJ0_length_8abf5 yJ0_length_8abf5 ∈ lw_g := lw_g_mk (tb_1 (List.mem_of_getElem? (i := 53) rfl)) rfl
theorem wq_143 : Cond.static yJ3_checkIndex_8e157 ∈ lw_g := lw_g_mk (tb_1 (List.mem_of_getElem? (i := 79) rfl)) rfl
theorem wq_138 : Cond.static yJ0_checkIndex_df160 ∈ lw_g := lw_g_mk (tb_1 (List.mem_of_getElem? (i := 74) rfl)) rfl
theorem wq_135 : Cond.static yJ1_charAt_3b067 ∈ lw_g := lw_g_mk (tb_1 (List.mem_of_getElem? (i := 71) rfl)) rfl
theorem wq_122 : Cond.code yJ0_coder_7d493 cJ0_coder_7d493 1 (some .byte) ∈ lw_g := lw_g_mk (tb_1 (List.mem_of_getElem? (i := 58) rfl)) rfl
theorem wq_67 : Cond.initialized RJ0 ∈ lw_g := lw_g_mk (tb_1 (List.mem_of_getElem? (i := 3) rfl)) rfl
theorem wq_133 : Cond.code yJ0_isLatin1_aae02 cJ0_isLatin1_aae02 1 (some .boolean) ∈ lw_g := lw_g_mk (tb_1 (List.mem_of_getElem? (i := 69) rfl)) rfl
theorem wq_118 : Cond.code yJ0_length_8abf5 cJ0_length_8abf5 1 (some .int) ∈ lw_g := lw_g_mk (tb_1 (List.mem_of_getElem? (i := 54) rfl)) rfl
theorem wq_144 : Cond.code yJ3_checkIndex_8e157 cJ3_checkIndex_8e157 3 (some .int) ∈ lw_g := lw_g_mk (tb_1 (List.mem_of_getElem? (i := 80) rfl)) rfl
theorem wq_74 : Cond.initialized RJ3 ∈ lw_g := lw_g_mk (tb_1 (List.mem_of_getElem? (i := 10) rfl)) rfl
theorem wq_139 : Cond.code yJ0_checkIndex_df160 cJ0_checkIndex_df160 2 none ∈ lw_g := lw_g_mk (tb_1 (List.mem_of_getElem? (i := 75) rfl)) rfl
theorem wq_136 : Cond.code yJ1_charAt_3b067 cJ1_charAt_3b067 2 (some .char) ∈ lw_g := lw_g_mk (tb_1 (List.mem_of_getElem? (i := 72) rfl)) rfl
theorem wq_75 : Cond.initialized RJ1 ∈ lw_g := lw_g_mk (tb_1 (List.mem_of_getElem? (i := 11) rfl)) rfl
theorem wq_129 : Cond.code yJ0_charAt_5068e cJ0_charAt_5068e 2 (some .char) ∈ lw_g := lw_g_mk (tb_1 (List.mem_of_getElem? (i := 65) rfl)) rfl
theorem wq_127 : Cond.instanceMethod yJ0_charAt_5068e ∈ lw_g := lw_g_mk (tb_1 (List.mem_of_getElem? (i := 63) rfl)) rfl
theorem wq_128 : Cond.selects RJ0 yJ0_charAt_5068e yJ0_charAt_5068e ∈ lw_g := lw_g_mk (tb_1 (List.mem_of_getElem? (i := 64) rfl)) rfl
theorem dJ0_coder_7d493_0 : decode cJ0_coder_7d493 0 = .ok (.getstatic 38, 3) := by decide +kernel
theorem dJ0_coder_7d493_3 : decode cJ0_coder_7d493 3 = .ok (.ifCond .eq 10, 3) := by decide +kernel
theorem dJ0_coder_7d493_6 : decode cJ0_coder_7d493 6 = .ok (.aload_n 0, 1) := by decide +kernel
theorem dJ0_coder_7d493_7 : decode cJ0_coder_7d493 7 = .ok (.getfield 15, 3) := by decide +kernel
theorem dJ0_coder_7d493_10 : decode cJ0_coder_7d493 10 = .ok (.goto 4, 3) := by decide +kernel
theorem dJ0_coder_7d493_13 : decode cJ0_coder_7d493 13 = .ok (.iconst 1, 1) := by decide +kernel
theorem dJ0_coder_7d493_14 : decode cJ0_coder_7d493 14 = .ok (.ireturn, 1) := by decide +kernel
theorem dJ0_isLatin1_aae02_0 : decode cJ0_isLatin1_aae02 0 = .ok (.getstatic 38, 3) := by decide +kernel
theorem dJ0_isLatin1_aae02_3 : decode cJ0_isLatin1_aae02 3 = .ok (.ifCond .eq 14, 3) := by decide +kernel
theorem dJ0_isLatin1_aae02_6 : decode cJ0_isLatin1_aae02 6 = .ok (.aload_n 0, 1) := by decide +kernel
theorem dJ0_isLatin1_aae02_7 : decode cJ0_isLatin1_aae02 7 = .ok (.getfield 15, 3) := by decide +kernel
theorem dJ0_isLatin1_aae02_10 : decode cJ0_isLatin1_aae02 10 = .ok (.ifCond .ne 7, 3) := by decide +kernel
theorem dJ0_isLatin1_aae02_13 : decode cJ0_isLatin1_aae02 13 = .ok (.iconst 1, 1) := by decide +kernel
theorem dJ0_isLatin1_aae02_14 : decode cJ0_isLatin1_aae02 14 = .ok (.goto 4, 3) := by decide +kernel
theorem dJ0_isLatin1_aae02_17 : decode cJ0_isLatin1_aae02 17 = .ok (.iconst 0, 1) := by decide +kernel
theorem dJ0_isLatin1_aae02_18 : decode cJ0_isLatin1_aae02 18 = .ok (.ireturn, 1) := by decide +kernel
theorem dJ0_length_8abf5_0 : decode cJ0_length_8abf5 0 = .ok (.aload_n 0, 1) := by decide +kernel
theorem dJ0_length_8abf5_1 : decode cJ0_length_8abf5 1 = .ok (.getfield 9, 3) := by decide +kernel
theorem dJ0_length_8abf5_4 : decode cJ0_length_8abf5 4 = .ok (.arraylength, 1) := by decide +kernel
theorem dJ0_length_8abf5_5 : decode cJ0_length_8abf5 5 = .ok (.aload_n 0, 1) := by decide +kernel
theorem dJ0_length_8abf5_6 : decode cJ0_length_8abf5 6 = .ok (.invokevirtual 335, 3) := by decide +kernel
theorem dJ0_length_8abf5_9 : decode cJ0_length_8abf5 9 = .ok (.ishr, 1) := by decide +kernel
theorem dJ0_length_8abf5_10 : decode cJ0_length_8abf5 10 = .ok (.ireturn, 1) := by decide +kernel
theorem dJ3_checkIndex_8e157_0 : decode cJ3_checkIndex_8e157 0 = .ok (.iload_n 0, 1) := by decide +kernel
theorem dJ3_checkIndex_8e157_1 : decode cJ3_checkIndex_8e157 1 = .ok (.ifCond .lt 8, 3) := by decide +kernel
theorem dJ3_checkIndex_8e157_4 : decode cJ3_checkIndex_8e157 4 = .ok (.iload_n 0, 1) := by decide +kernel
theorem dJ3_checkIndex_8e157_5 : decode cJ3_checkIndex_8e157 5 = .ok (.iload_n 1, 1) := by decide +kernel
theorem dJ3_checkIndex_8e157_6 : decode cJ3_checkIndex_8e157 6 = .ok (.if_icmp .lt 10, 3) := by decide +kernel
theorem dJ3_checkIndex_8e157_9 : decode cJ3_checkIndex_8e157 9 = .ok (.aload_n 2, 1) := by decide +kernel
theorem dJ3_checkIndex_8e157_10 : decode cJ3_checkIndex_8e157 10 = .ok (.iload_n 0, 1) := by decide +kernel
theorem dJ3_checkIndex_8e157_11 : decode cJ3_checkIndex_8e157 11 = .ok (.iload_n 1, 1) := by decide +kernel
theorem dJ3_checkIndex_8e157_12 : decode cJ3_checkIndex_8e157 12 = .ok (.invokestatic 95, 3) := by decide +kernel
theorem dJ3_checkIndex_8e157_15 : decode cJ3_checkIndex_8e157 15 = .ok (.athrow, 1) := by decide +kernel
theorem dJ3_checkIndex_8e157_16 : decode cJ3_checkIndex_8e157 16 = .ok (.iload_n 0, 1) := by decide +kernel
theorem dJ3_checkIndex_8e157_17 : decode cJ3_checkIndex_8e157 17 = .ok (.ireturn, 1) := by decide +kernel
theorem dJ0_checkIndex_df160_0 : decode cJ0_checkIndex_df160 0 = .ok (.iload_n 0, 1) := by decide +kernel
theorem dJ0_checkIndex_df160_1 : decode cJ0_checkIndex_df160 1 = .ok (.iload_n 1, 1) := by decide +kernel
theorem dJ0_checkIndex_df160_2 : decode cJ0_checkIndex_df160 2 = .ok (.getstatic 1053, 3) := by decide +kernel
theorem dJ0_checkIndex_df160_5 : decode cJ0_checkIndex_df160 5 = .ok (.invokestatic 1059, 3) := by decide +kernel
theorem dJ0_checkIndex_df160_8 : decode cJ0_checkIndex_df160 8 = .ok (.pop, 1) := by decide +kernel
theorem dJ0_checkIndex_df160_9 : decode cJ0_checkIndex_df160 9 = .ok (.return_, 1) := by decide +kernel
theorem dJ1_charAt_3b067_0 : decode cJ1_charAt_3b067 0 = .ok (.iload_n 1, 1) := by decide +kernel
theorem dJ1_charAt_3b067_1 : decode cJ1_charAt_3b067 1 = .ok (.aload_n 0, 1) := by decide +kernel
theorem dJ1_charAt_3b067_2 : decode cJ1_charAt_3b067 2 = .ok (.arraylength, 1) := by decide +kernel
theorem dJ1_charAt_3b067_3 : decode cJ1_charAt_3b067 3 = .ok (.invokestatic 9, 3) := by decide +kernel
theorem dJ1_charAt_3b067_6 : decode cJ1_charAt_3b067 6 = .ok (.aload_n 0, 1) := by decide +kernel
theorem dJ1_charAt_3b067_7 : decode cJ1_charAt_3b067 7 = .ok (.iload_n 1, 1) := by decide +kernel
theorem dJ1_charAt_3b067_8 : decode cJ1_charAt_3b067 8 = .ok (.baload, 1) := by decide +kernel
theorem dJ1_charAt_3b067_9 : decode cJ1_charAt_3b067 9 = .ok (.sipush 255, 3) := by decide +kernel
theorem dJ1_charAt_3b067_12 : decode cJ1_charAt_3b067 12 = .ok (.iand, 1) := by decide +kernel
theorem dJ1_charAt_3b067_13 : decode cJ1_charAt_3b067 13 = .ok (.i2c, 1) := by decide +kernel
theorem dJ1_charAt_3b067_14 : decode cJ1_charAt_3b067 14 = .ok (.ireturn, 1) := by decide +kernel
theorem dJ0_charAt_5068e_0 : decode cJ0_charAt_5068e 0 = .ok (.aload_n 0, 1) := by decide +kernel
theorem dJ0_charAt_5068e_1 : decode cJ0_charAt_5068e 1 = .ok (.invokevirtual 492, 3) := by decide +kernel
theorem dJ0_charAt_5068e_4 : decode cJ0_charAt_5068e 4 = .ok (.ifCond .eq 12, 3) := by decide +kernel
theorem dJ0_charAt_5068e_7 : decode cJ0_charAt_5068e 7 = .ok (.aload_n 0, 1) := by decide +kernel
theorem dJ0_charAt_5068e_8 : decode cJ0_charAt_5068e 8 = .ok (.getfield 9, 3) := by decide +kernel
theorem dJ0_charAt_5068e_11 : decode cJ0_charAt_5068e 11 = .ok (.iload_n 1, 1) := by decide +kernel
theorem dJ0_charAt_5068e_12 : decode cJ0_charAt_5068e 12 = .ok (.invokestatic 495, 3) := by decide +kernel
theorem dJ0_charAt_5068e_15 : decode cJ0_charAt_5068e 15 = .ok (.ireturn, 1) := by decide +kernel
theorem dJ0_charAt_5068e_16 : decode cJ0_charAt_5068e 16 = .ok (.aload_n 0, 1) := by decide +kernel
theorem dJ0_charAt_5068e_17 : decode cJ0_charAt_5068e 17 = .ok (.getfield 9, 3) := by decide +kernel
theorem dJ0_charAt_5068e_20 : decode cJ0_charAt_5068e 20 = .ok (.iload_n 1, 1) := by decide +kernel
theorem dJ0_charAt_5068e_21 : decode cJ0_charAt_5068e 21 = .ok (.invokestatic 498, 3) := by decide +kernel
theorem dJ0_charAt_5068e_24 : decode cJ0_charAt_5068e 24 = .ok (.ireturn, 1) := by decide +kernel
theorem mi_J0_coder_7d493 : MInfo yJ0_coder_7d493 cJ0_coder_7d493 1 (some .byte) 0 := ⟨wq_122, wq_67, by decide, ⟨by decide +kernel, by decide +kernel, by decide +kernel⟩, by decide +kernel⟩
theorem mi_J0_isLatin1_aae02 : MInfo yJ0_isLatin1_aae02 cJ0_isLatin1_aae02 1 (some .boolean) 0 := ⟨wq_133, wq_67, by decide, ⟨by decide +kernel, by decide +kernel, by decide +kernel⟩, by decide +kernel⟩
theorem mi_J0_length_8abf5 : MInfo yJ0_length_8abf5 cJ0_length_8abf5 1 (some .int) 0 := ⟨wq_118, wq_67, by decide, ⟨by decide +kernel, by decide +kernel, by decide +kernel⟩, by decide +kernel⟩
theorem mi_J3_checkIndex_8e157 : MInfo yJ3_checkIndex_8e157 cJ3_checkIndex_8e157 3 (some .int) 3 := ⟨wq_144, wq_74, by decide, ⟨by decide +kernel, by decide +kernel, by decide +kernel⟩, by decide +kernel⟩
theorem mi_J0_checkIndex_df160 : MInfo yJ0_checkIndex_df160 cJ0_checkIndex_df160 2 none 2 := ⟨wq_139, wq_67, by decide, ⟨by decide +kernel, by decide +kernel, by decide +kernel⟩, by decide +kernel⟩
theorem mi_J1_charAt_3b067 : MInfo yJ1_charAt_3b067 cJ1_charAt_3b067 2 (some .char) 2 := ⟨wq_136, wq_75, by decide, ⟨by decide +kernel, by decide +kernel, by decide +kernel⟩, by decide +kernel⟩
theorem mi_J0_charAt_5068e : MInfo yJ0_charAt_5068e cJ0_charAt_5068e 2 (some .char) 1 := ⟨wq_129, wq_67, by decide, ⟨by decide +kernel, by decide +kernel, by decide +kernel⟩, by decide +kernel⟩
/-! ===== strings: the JDK's length, charAt, indexOf over a text of single bytes ===== -/
abbrev NoA : Nat → Prop := fun _ => False
abbrev R2 : Type := State → Heap → Prop
def Steady (R : R2) : Prop := ∀ (u U : State) (H : Heap), u.vm.Alike U.vm → R u H → R U H
def jpre (R : R2) (av : List Value) : Array Value → State → Prop := va_Pc av (fun U => R U U.heap)
theorem jpre.blind {R : R2} {av : List Value} (hR : Steady R) : FrameBlind (jpre R av) := by
  intro a U g mk h
  obtain ⟨h1, h2⟩ := h
  exact ⟨h1, hR U (U.calling g mk a) _ (Vm.Alike.refl U.vm) h2⟩
abbrev JSt : String := "java/lang/String"
def JZ (A : Nat → Prop) : R2 := fun U H => va_Z JSt "COMPACT_STRINGS" "Z" (.int 1) A U H ∧ va_Zq "jdk/internal/util/Preconditions" "SIOOBE_FORMATTER" "Ljava/util/function/BiFunction;" A U H
def SE (a v n : Nat) (b : Nat → Int32) (A : Nat → Prop) : R2 := fun U H => va_O JSt a A U H ∧ va_OF JSt "coder" "B" (.int 0) a A U H ∧ va_OF JSt "value" "[B" (.ref v) a A U H ∧ va_T .byte v n (fun j => .int (b j)) A U H
def BE (v n : Nat) (b : Nat → Int32) (A : Nat → Prop) : R2 := fun U H => va_T .byte v n (fun j => .int (b j)) A U H
def JS (a v n : Nat) (b : Nat → Int32) (A : Nat → Prop) : R2 := fun U H => JZ A U H ∧ SE a v n b A U H
def JB (v n : Nat) (b : Nat → Int32) (A : Nat → Prop) : R2 := fun U H => JZ A U H ∧ BE v n b A U H
theorem JZ.steady {A : Nat → Prop} : Steady (JZ A) := fun _ _ _ hv h => ⟨h.1.moved hv, h.2.moved hv⟩
theorem SE.steady {a v n : Nat} {b : Nat → Int32} {A : Nat → Prop} : Steady (SE a v n b A) := fun _ _ _ hv h => ⟨h.1.moved hv, h.2.1.moved hv, h.2.2.1.moved hv, h.2.2.2.moved hv⟩
theorem BE.steady {v n : Nat} {b : Nat → Int32} {A : Nat → Prop} : Steady (BE v n b A) := fun _ _ _ hv h => va_T.moved hv h
theorem JS.steady {a v n : Nat} {b : Nat → Int32} {A : Nat → Prop} : Steady (JS a v n b A) := fun _ _ _ hv h => ⟨JZ.steady _ _ _ hv h.1, SE.steady _ _ _ hv h.2⟩
theorem JB.steady {v n : Nat} {b : Nat → Int32} {A : Nat → Prop} : Steady (JB v n b A) := fun _ _ _ hv h => ⟨JZ.steady _ _ _ hv h.1, BE.steady _ _ _ hv h.2⟩
theorem JZ.kept {A : Nat → Prop} {U : State} {H H1 : Heap} (h : JZ A U H) (hq : ∀ a : Nat, a < H.size → ¬ A a → H1[a]? = H[a]?) : JZ A U H1 := ⟨h.1.kept hq, h.2.kept hq⟩
theorem SE.kept {a v n : Nat} {b : Nat → Int32} {A : Nat → Prop} {U : State} {H H1 : Heap} (h : SE a v n b A U H) (hq : ∀ a : Nat, a < H.size → ¬ A a → H1[a]? = H[a]?) : SE a v n b A U H1 := ⟨h.1.kept hq, h.2.1.kept hq, h.2.2.1.kept hq, h.2.2.2.kept hq⟩
theorem JZ.narrow {A B : Nat → Prop} {U : State} {H : Heap} (h : JZ A U H) (hAB : ∀ q, B q → A q) : JZ B U H := ⟨h.1.narrow hAB, h.2.narrow hAB⟩
theorem SE.narrow {a v n : Nat} {b : Nat → Int32} {A B : Nat → Prop} {U : State} {H : Heap} (h : SE a v n b A U H) (hAB : ∀ q, B q → A q) : SE a v n b B U H := ⟨h.1.narrow hAB, h.2.1.narrow hAB, h.2.2.1.narrow hAB, h.2.2.2.narrow hAB⟩
theorem JS.kept {a v n : Nat} {b : Nat → Int32} {A : Nat → Prop} {U : State} {H H1 : Heap} (h : JS a v n b A U H) (hq : ∀ a : Nat, a < H.size → ¬ A a → H1[a]? = H[a]?) : JS a v n b A U H1 := ⟨h.1.kept hq, h.2.kept hq⟩
theorem JS.narrow {a v n : Nat} {b : Nat → Int32} {A B : Nat → Prop} {U : State} {H : Heap} (h : JS a v n b A U H) (hAB : ∀ q, B q → A q) : JS a v n b B U H := ⟨h.1.narrow hAB, h.2.narrow hAB⟩
theorem JS.bytes {a v n : Nat} {b : Nat → Int32} {A : Nat → Prop} {U : State} {H : Heap} (h : JS a v n b A U H) : JB v n b A U H := ⟨h.1, h.2.2.2.2⟩
/-- a JDK method that answers an int (or narrower) and writes nothing -/
theorem jo_of {l : Launch} {y : MethodName} {cc : ByteArray} {n : Nat} {ret : Option FieldType} {rn : Nat} {R : R2} {av : List Value} {ty : FieldType} {K : Int32 → Prop} (hy : plainName y.cls = true) (hn : (lg_sl av).length ≤ n) (hret : ret = some ty)
    (body : ∀ (p : Program) (e : Env) (s : State) (m : MethodId) (args : Array Value) (below : List Frame) (meth : Method) (c : Code) (Q : State → Prop), CallFix p m c cc n s args lw_g y.cls → R s s.heap →
      (∀ (pc : Nat) (ls : Array Slot) (r : Int32), K r → narrow ty (.int r) = .int r → decode cc pc = .ok (.ireturn, 1) → W p l e (rk rn 0 0) s m args below meth c s.heap [] 0 0 Q (F0 m pc ls [.int r])) →
      ∀ ls : Array Slot, lv_has ls n (lv_args 0 av) → W p l e (rk rn 0 0) s m args below meth c s.heap [] 0 0 Q (F0 m 0 ls [])) :
    Met l y (wy y cc n ret) (rk rn 0 0) (jpre R av) (vp_Si K) 0 0 (fun _ => False) := by
  refine Met.ofW (cc := cc) (maxL := n) (ret := ret) hy rfl ?_
  intro p e s m args below meth c s₁ B hml hv
  obtain ⟨rfl, hR⟩ := hv
  have hts : ∀ w ∈ lw_g, w.before av.toArray s = true := fun w hw => atoms_spec (ws := wy y cc n ret) B.pre w (List.mem_cons_of_mem _ hw)
  have hown : s.vm.findClass y.cls = some m.cls := findClass_of_methodNamed B.named
  have hlocks := B.notSynchronized
  have hl := lv_entry av (n := n) hn
  rw [lg_entry_eq]
  refine body p e s m av.toArray below meth c _ ⟨B.exec, B.bytes, hml, hown, hts⟩ hR ?_ _ hl
  intro pc ls r hr hnar hd
  exact W.zret (ty := ty) B.exec B.bytes (B.returns.trans hret) hnar (fun t ht _ => ⟨r, rfl, hr, ht⟩) (fun q h => by cases h) hd
def vp_Sv : Array Value → State → Outcome → State → Prop := fun _ st o t => o = .returned none ∧ t.heap = st.heap
/-- a JDK method that answers nothing and writes nothing -/
theorem jv_of {l : Launch} {y : MethodName} {cc : ByteArray} {n : Nat} {rn : Nat} {R : R2} {av : List Value} (hy : plainName y.cls = true) (hn : (lg_sl av).length ≤ n)
    (body : ∀ (p : Program) (e : Env) (s : State) (m : MethodId) (args : Array Value) (below : List Frame) (meth : Method) (c : Code) (Q : State → Prop), CallFix p m c cc n s args lw_g y.cls → R s s.heap →
      (∀ (pc : Nat) (ls : Array Slot), decode cc pc = .ok (.return_, 1) → W p l e (rk rn 0 0) s m args below meth c s.heap [] 0 0 Q (F0 m pc ls [])) →
      ∀ ls : Array Slot, lv_has ls n (lv_args 0 av) → W p l e (rk rn 0 0) s m args below meth c s.heap [] 0 0 Q (F0 m 0 ls [])) :
    Met l y (wy y cc n none) (rk rn 0 0) (jpre R av) vp_Sv 0 0 (fun _ => False) := by
  refine Met.ofW (cc := cc) (maxL := n) (ret := none) hy rfl ?_
  intro p e s m args below meth c s₁ B hml hv
  obtain ⟨rfl, hR⟩ := hv
  have hts : ∀ w ∈ lw_g, w.before av.toArray s = true := fun w hw => atoms_spec (ws := wy y cc n none) B.pre w (List.mem_cons_of_mem _ hw)
  have hown : s.vm.findClass y.cls = some m.cls := findClass_of_methodNamed B.named
  have hlocks := B.notSynchronized
  have hl := lv_entry av (n := n) hn
  rw [lg_entry_eq]
  refine body p e s m av.toArray below meth c _ ⟨B.exec, B.bytes, hml, hown, hts⟩ hR ?_ _ hl
  intro pc ls hd
  exact W.vret B.exec B.bytes B.returns (fun t ht hW => ⟨rfl, ht⟩) (fun q h => by cases h) hd
section JCALLS
variable {p : Program} {l : Launch} {e : Env} {s : State} {m : MethodId} {args : Array Value} {below : List Frame} {meth : Method} {c : Code} {H H0 : Heap} {locs : List Loc} {cells slots : Nat} {Q : State → Prop}
variable {pc : Nat} {ls : Array Slot} {rest st0 : List Value} {y : MethodName} {bytes cc : ByteArray} {maxL nL n index : Nat} {ret : Option FieldType} {rn rn' mcR msR : Nat} {Qc : Array Value → State → Outcome → State → Prop} {free : Addr → Prop} {own : String} {b : Addr} {As : List Value} {R : R2} {mc ms : Nat}
theorem runJV (hC : CallFix p m c cc nL s args lw_g own) (hM : Met l y (wy y bytes maxL ret) (rk rn' mc ms) (jpre R (.ref b :: As)) Qc mc ms free) (hi : MInfo y bytes maxL ret n) (hl : Cond.methodLink own index y ∈ lw_g) (hin : Cond.instanceMethod y ∈ lw_g) (hse : Cond.selects y.cls y y ∈ lw_g) (hlt : rn' < rn)
    (hS : Steady R) (hR : R s H) (hrecv : ∃ cell : Cell, H[b]? = some cell ∧ cell.vm.isStatics = false ∧ s.vm.findClass y.cls = some cell.cls)
    (hn : As.length = n) (hsize : ls.size = nL) (hstack : st0 = As.reverse ++ .ref b :: rest) (hW : (rest.map fun v => v.category).sum ≤ 8) (hdg : decode cc pc = .ok (.invokevirtual index, 3)) (hf : cells + mc ≤ mcR ∧ slots + ms ≤ msR) :
    va_Run p l e (rk rn mcR msR) s m args below meth c H locs cells slots mc ms (F0 m pc ls st0) rest (Qc (Value.ref b :: As).toArray) free := by
  have hts := hC.2.2.2.2
  refine va_runV (As := As) (rest := rest) (C := y.cls) hC hM ⟨callB_of n hts (wy_good hi.1) rfl rfl rfl (hts _ hi.2.1) (hts _ hl) hi.2.2.2.1 (rk_fit hlt hi.2.2.1), hts _ hin, hts _ hse⟩ ⟨jpre.blind hS, hrecv, fun U hU hW => ⟨rfl, by show R U U.heap; rw [hU]; exact hS _ _ _ hW.alike hR⟩⟩ rfl hn hsize hstack (lv_room hW) hdg hf
theorem runJS (hC : CallFix p m c cc nL s args lw_g own) (hM : Met l y (wy y bytes maxL ret) (rk rn' mc ms) (jpre R As) Qc mc ms free) (hi : MInfo y bytes maxL ret n) (hl : Cond.methodLink own index y ∈ lw_g) (hst : Cond.static y ∈ lw_g) (hlt : rn' < rn)
    (hS : Steady R) (hR : R s H)
    (hn : As.length = n) (hsize : ls.size = nL) (hstack : st0 = As.reverse ++ rest) (hW : (rest.map fun v => v.category).sum ≤ 8) (hdg : decode cc pc = .ok (.invokestatic index, 3)) (hf : cells + mc ≤ mcR ∧ slots + ms ≤ msR) :
    va_Run p l e (rk rn mcR msR) s m args below meth c H locs cells slots mc ms (F0 m pc ls st0) rest (Qc As.toArray) free := by
  have hts := hC.2.2.2.2
  refine va_runS (As := As) (rest := rest) hC hM ⟨callB_of n hts (wy_good hi.1) rfl rfl rfl (hts _ hi.2.1) (hts _ hl) hi.2.2.2.1 (rk_fit hlt hi.2.2.1), hts _ hst⟩ ⟨jpre.blind hS, fun U hU hW => ⟨rfl, by show R U U.heap; rw [hU]; exact hS _ _ _ hW.alike hR⟩⟩ rfl hn hsize hstack (lv_room hW) hdg hf
theorem jv_go {a : Array Value} (hr : va_Run p l e (rk rn mcR msR) s m args below meth c H locs cells slots 0 0 (F0 m pc ls st0) rest (vp_Sv a) (fun _ => False))
    (kk : W p l e (rk rn mcR msR) s m args below meth c H locs cells slots Q (F0 m (pc + 3) ls rest)) : W p l e (rk rn mcR msR) s m args below meth c H locs cells slots Q (F0 m pc ls st0) := by
  intro T hT X
  obtain ⟨v, st₀, t, T', L, h0, X', hL, e1, e2, ⟨hv, hh⟩, st⟩ := hr T hT X
  cases hv
  have hL0 : L = [] := List.eq_nil_iff_forall_not_mem.mpr (fun q h => hL q h)
  subst hL0
  rw [List.append_nil] at X'
  obtain ⟨t2, a1, b1⟩ := kk T' (e1.trans (hh.trans h0)) X'
  exact ⟨t2, st t2 a1, b1⟩
end JCALLS
theorem SE.recv {a v n : Nat} {b : Nat → Int32} {A : Nat → Prop} {U : State} {H : Heap} (h : SE a v n b A U H) : ∃ cell : Cell, H[a]? = some cell ∧ cell.vm.isStatics = false ∧ U.vm.findClass JSt = some cell.cls := by
  obtain ⟨cell, h1, h2, h3, -⟩ := h.1
  exact ⟨cell, h1, h2, h3⟩
theorem t_Trivial : Steady (fun _ _ => True) := fun _ _ _ _ _ => trivial
section JMETHODS
set_option maxRecDepth 100000
variable (l : Launch) (a v n : Nat) (b : Nat → Int32)
theorem c_coder : Met l yJ0_coder_7d493 (wy yJ0_coder_7d493 cJ0_coder_7d493 1 (some .byte)) (rk 0 0 0) (jpre (JS a v n b NoA) [.ref a]) (vp_Si (fun r => r = 0)) 0 0 (fun _ => False) := by
  refine jo_of (ty := .byte) (by decide +kernel) (Nat.le_of_ble_eq_true rfl) rfl ?_
  intro p e s m args below meth c Q hC hR hret ls hl
  have hx := hC.1
  have hb := hC.2.1
  have hts := hC.2.2.2.2
  have hl : lv_has ls 1 [(0, .ref a)] := hl
  refine va_gets hx hb hR.1.1 va_S.rf hC.2.2.2.1 (hts _ wq_123) (fun _ h => h) dJ0_coder_7d493_0 ?_
  refine lv_if_eq (tgt := 13) hx hb dJ0_coder_7d493_3 (by decide) (fun c1 => absurd c1 (by decide)) (fun c1 => ?_)
  refine lv_aload_n hx hb dJ0_coder_7d493_6 rfl (lv_at hl 0 rfl) ?_
  refine vk_getf hx hb hR.2.2.1 va_S.rf hC.2.2.2.1 (hts _ wq_1423) (fun _ h => h) dJ0_coder_7d493_7 ?_
  refine lv_goto (tgt := 14) hx hb dJ0_coder_7d493_10 (by decide) ?_
  exact hret 14 ls 0 rfl rfl dJ0_coder_7d493_14
theorem c_isLatin1 : Met l yJ0_isLatin1_aae02 (wy yJ0_isLatin1_aae02 cJ0_isLatin1_aae02 1 (some .boolean)) (rk 0 0 0) (jpre (JS a v n b NoA) [.ref a]) (vp_Si (fun r => r = 1)) 0 0 (fun _ => False) := by
  refine jo_of (ty := .boolean) (by decide +kernel) (Nat.le_of_ble_eq_true rfl) rfl ?_
  intro p e s m args below meth c Q hC hR hret ls hl
  have hx := hC.1
  have hb := hC.2.1
  have hts := hC.2.2.2.2
  have hl : lv_has ls 1 [(0, .ref a)] := hl
  refine va_gets hx hb hR.1.1 va_S.rf hC.2.2.2.1 (hts _ wq_123) (fun _ h => h) dJ0_isLatin1_aae02_0 ?_
  refine lv_if_eq (tgt := 17) hx hb dJ0_isLatin1_aae02_3 (by decide) (fun c1 => absurd c1 (by decide)) (fun c1 => ?_)
  refine lv_aload_n hx hb dJ0_isLatin1_aae02_6 rfl (lv_at hl 0 rfl) ?_
  refine vk_getf hx hb hR.2.2.1 va_S.rf hC.2.2.2.1 (hts _ wq_1423) (fun _ h => h) dJ0_isLatin1_aae02_7 ?_
  refine lv_if_ne (tgt := 17) hx hb dJ0_isLatin1_aae02_10 (by decide) (fun c1 => absurd rfl c1) (fun c1 => ?_)
  refine lv_iconst (v := 1) hx hb dJ0_isLatin1_aae02_13 (by decide) ?_
  refine lv_goto (tgt := 18) hx hb dJ0_isLatin1_aae02_14 (by decide) ?_
  exact hret 18 ls 1 rfl rfl dJ0_isLatin1_aae02_18
theorem c_slen : Met l yJ0_length_8abf5 (wy yJ0_length_8abf5 cJ0_length_8abf5 1 (some .int)) (rk 1 0 0) (jpre (JS a v n b NoA) [.ref a]) (vp_Si (fun r => r = Int32.ofNat n)) 0 0 (fun _ => False) := by
  refine jo_of (ty := .int) (by decide +kernel) (Nat.le_of_ble_eq_true rfl) rfl ?_
  intro p e s m args below meth c Q hC hR hret ls hl
  have hx := hC.1
  have hb := hC.2.1
  have hts := hC.2.2.2.2
  have hl : lv_has ls 1 [(0, .ref a)] := hl
  refine lv_aload_n hx hb dJ0_length_8abf5_0 rfl (lv_at hl 0 rfl) ?_
  refine vk_getf hx hb hR.2.2.2.1 va_S.rf hC.2.2.2.1 (hts _ wq_1422) (fun _ h => h) dJ0_length_8abf5_1 ?_
  refine va_tlen hx hb hR.2.2.2.2 va_S.rf rfl dJ0_length_8abf5_4 ?_
  refine lv_aload_n hx hb dJ0_length_8abf5_5 rfl (lv_at hl 0 rfl) ?_
  refine ro_go (runJV (As := []) hC (c_coder l a v n b) mi_J0_coder_7d493 wq_119 wq_120 wq_121 (by decide) JS.steady hR hR.2.recv rfl hl.1 rfl (Nat.le_of_ble_eq_true rfl) dJ0_length_8abf5_6 ⟨Nat.le_refl _, Nat.le_refl _⟩) (fun r hr => ?_)
  subst hr
  refine lv_ishr hx hb dJ0_length_8abf5_9 ?_
  refine hret 10 ls _ ?_ rfl dJ0_length_8abf5_10
  rw [show ((0 : Int32) &&& 31) = 0 from by decide]
  exact Int32.shiftRight_zero
theorem c_ck3 (i k : Int32) (w : Value) (hw : w.category = 1) (h1 : ¬ i < 0) (h2 : i < k) : Met l yJ3_checkIndex_8e157 (wy yJ3_checkIndex_8e157 cJ3_checkIndex_8e157 3 (some .int)) (rk 0 0 0) (jpre (fun _ _ => True) [.int i, .int k, w]) (vp_Si (fun _ => True)) 0 0 (fun _ => False) := by
  refine jo_of (ty := .int) (by decide +kernel) ?_ rfl ?_
  · cases w <;> first | exact Nat.le_of_ble_eq_true rfl | (exact absurd hw (by simp [Value.category]))
  · intro p e s m args below meth c Q hC hR hret ls hl
    have hx := hC.1
    have hb := hC.2.1
    have hl : lv_has ls 3 [(0, .int i), (1, .int k), (2, w)] := hl
    refine lv_iload_n hx hb dJ3_checkIndex_8e157_0 rfl (lv_at hl 0 rfl) ?_
    refine lv_if_lt (tgt := 9) hx hb dJ3_checkIndex_8e157_1 (by decide) (fun c1 => absurd c1 h1) (fun c1 => ?_)
    refine lv_iload_n hx hb dJ3_checkIndex_8e157_4 rfl (lv_at hl 0 rfl) ?_
    refine lv_iload_n hx hb dJ3_checkIndex_8e157_5 rfl (lv_at hl 1 rfl) ?_
    refine lv_icmp_lt (tgt := 16) hx hb dJ3_checkIndex_8e157_6 (by decide) (fun c2 => ?_) (fun c2 => absurd h2 c2)
    refine lv_iload_n hx hb dJ3_checkIndex_8e157_16 rfl (lv_at hl 0 rfl) ?_
    exact hret 17 ls _ trivial rfl dJ3_checkIndex_8e157_17
theorem c_ckS (i k : Int32) (h1 : ¬ i < 0) (h2 : i < k) : Met l yJ0_checkIndex_df160 (wy yJ0_checkIndex_df160 cJ0_checkIndex_df160 2 none) (rk 1 0 0) (jpre (JZ NoA) [.int i, .int k]) vp_Sv 0 0 (fun _ => False) := by
  refine jv_of (by decide +kernel) (Nat.le_of_ble_eq_true rfl) ?_
  intro p e s m args below meth c Q hC hR hret ls hl
  have hx := hC.1
  have hb := hC.2.1
  have hts := hC.2.2.2.2
  have hl : lv_has ls 2 [(0, .int i), (1, .int k)] := hl
  refine lv_iload_n hx hb dJ0_checkIndex_df160_0 rfl (lv_at hl 0 rfl) ?_
  refine lv_iload_n hx hb dJ0_checkIndex_df160_1 rfl (lv_at hl 1 rfl) ?_
  have go : ∀ w : Value, w.category = 1 → W p l e (rk 1 0 0) s m args below meth c s.heap [] 0 0 Q (F0 m 5 ls (w :: [.int k, .int i])) := by
    intro w hw
    refine ro_go (runJS (As := [.int i, .int k, w]) (rest := []) hC (c_ck3 l i k w hw h1 h2) mi_J3_checkIndex_8e157 wq_142 wq_143 (by decide) t_Trivial trivial rfl hl.1 rfl (Nat.le_of_ble_eq_true rfl) dJ0_checkIndex_df160_5 ⟨Nat.le_refl _, Nat.le_refl _⟩) (fun r hr => ?_)
    refine lv_pop hx hb dJ0_checkIndex_df160_8 rfl ?_
    exact hret 9 ls dJ0_checkIndex_df160_9
  rcases hR.2 with hz | ⟨t, hz⟩
  · exact va_gets hx hb hz va_S.rf hC.2.2.2.1 (hts _ wq_140) (fun _ h => h) dJ0_checkIndex_df160_2 (go _ rfl)
  · exact va_gets hx hb hz va_S.rf hC.2.2.2.1 (hts _ wq_140) (fun _ h => h) dJ0_checkIndex_df160_2 (go _ rfl)
def chv (b : Nat → Int32) (i : Int32) : Int32 := ((b i.toInt.toNat &&& 255).toUInt32 % 65536).toInt32
theorem chv_nar (b : Nat → Int32) (i : Int32) : narrow .char (.int (chv b i)) = .int (chv b i) := by
  show Value.int _ = Value.int _
  unfold chv
  congr 1
  generalize b i.toInt.toNat &&& 255 = x
  show ((x.toUInt32 % 65536).toInt32.toUInt32 % 65536).toInt32 = _
  congr 1
  show (x.toUInt32 % 65536) % 65536 = x.toUInt32 % 65536
  apply UInt32.toNat_inj.mp
  simp [UInt32.toNat_mod]
theorem c_lcharAt (i : Int32) (hn : n < 2 ^ 31) (hi : inb i n) : Met l yJ1_charAt_3b067 (wy yJ1_charAt_3b067 cJ1_charAt_3b067 2 (some .char)) (rk 2 0 0) (jpre (JB v n b NoA) [.ref v, .int i]) (vp_Si (fun r => r = chv b i)) 0 0 (fun _ => False) := by
  refine jo_of (ty := .char) (by decide +kernel) (Nat.le_of_ble_eq_true rfl) rfl ?_
  intro p e s m args below meth c Q hC hR hret ls hl
  have hx := hC.1
  have hb := hC.2.1
  have hl : lv_has ls 2 [(0, .ref v), (1, .int i)] := hl
  have h1 : ¬ i < 0 := fun z => absurd (i0_lt.mp z) (by have := hi.1; omega)
  have h2 : i < Int32.ofNat n := by
    rw [Int32.lt_iff_toInt_lt, Int32.toInt_ofNat_of_lt hn]; exact hi.2
  refine lv_iload_n hx hb dJ1_charAt_3b067_0 rfl (lv_at hl 1 rfl) ?_
  refine lv_aload_n hx hb dJ1_charAt_3b067_1 rfl (lv_at hl 0 rfl) ?_
  refine va_tlen hx hb hR.2 va_S.rf rfl dJ1_charAt_3b067_2 ?_
  refine jv_go (runJS (As := [.int i, .int (Int32.ofNat n)]) (rest := []) hC (c_ckS l i (Int32.ofNat n) h1 h2) mi_J0_checkIndex_df160 wq_137 wq_138 (by decide) JZ.steady hR.1 rfl hl.1 rfl (Nat.le_of_ble_eq_true rfl) dJ1_charAt_3b067_3 ⟨Nat.le_refl _, Nat.le_refl _⟩) ?_
  refine lv_aload_n hx hb dJ1_charAt_3b067_6 rfl (lv_at hl 0 rfl) ?_
  refine lv_iload_n hx hb dJ1_charAt_3b067_7 rfl (lv_at hl 1 rfl) ?_
  refine va_tb hx hb hR.2 va_S.rf (inb_in.mpr hi) rfl dJ1_charAt_3b067_8 ?_
  refine lv_sipush (v := 255) hx hb dJ1_charAt_3b067_9 (by decide) ?_
  refine lv_iand hx hb dJ1_charAt_3b067_12 ?_
  refine lv_i2c (v := chv b i) hx hb dJ1_charAt_3b067_13 rfl ?_
  exact hret 14 ls _ rfl (chv_nar b i) dJ1_charAt_3b067_14
theorem c_charAt (i : Int32) (hn : n < 2 ^ 31) (hi : inb i n) : Met l yJ0_charAt_5068e (wy yJ0_charAt_5068e cJ0_charAt_5068e 2 (some .char)) (rk 3 0 0) (jpre (JS a v n b NoA) [.ref a, .int i]) (vp_Si (fun r => r = chv b i)) 0 0 (fun _ => False) := by
  refine jo_of (ty := .char) (by decide +kernel) (Nat.le_of_ble_eq_true rfl) rfl ?_
  intro p e s m args below meth c Q hC hR hret ls hl
  have hx := hC.1
  have hb := hC.2.1
  have hts := hC.2.2.2.2
  have hl : lv_has ls 2 [(0, .ref a), (1, .int i)] := hl
  refine lv_aload_n hx hb dJ0_charAt_5068e_0 rfl (lv_at hl 0 rfl) ?_
  refine ro_go (runJV (As := []) hC (c_isLatin1 l a v n b) mi_J0_isLatin1_aae02 wq_130 wq_131 wq_132 (by decide) JS.steady hR hR.2.recv rfl hl.1 rfl (Nat.le_of_ble_eq_true rfl) dJ0_charAt_5068e_1 ⟨Nat.le_refl _, Nat.le_refl _⟩) (fun r hr => ?_)
  subst hr
  refine lv_if_eq (tgt := 16) hx hb dJ0_charAt_5068e_4 (by decide) (fun c1 => absurd c1 (by decide)) (fun c1 => ?_)
  refine lv_aload_n hx hb dJ0_charAt_5068e_7 rfl (lv_at hl 0 rfl) ?_
  refine vk_getf hx hb hR.2.2.2.1 va_S.rf hC.2.2.2.1 (hts _ wq_1422) (fun _ h => h) dJ0_charAt_5068e_8 ?_
  refine lv_iload_n hx hb dJ0_charAt_5068e_11 rfl (lv_at hl 1 rfl) ?_
  refine ro_go (runJS (As := [.ref v, .int i]) (rest := []) hC (c_lcharAt l v n b i hn hi) mi_J1_charAt_3b067 wq_134 wq_135 (by decide) JB.steady hR.bytes rfl hl.1 rfl (Nat.le_of_ble_eq_true rfl) dJ0_charAt_5068e_12 ⟨Nat.le_refl _, Nat.le_refl _⟩) (fun r hr => ?_)
  exact hret 15 ls r hr (by rw [hr]; exact chv_nar b i) dJ0_charAt_5068e_15
end JMETHODS
