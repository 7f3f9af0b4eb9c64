theorem wq_115 : Cond.methodLink RX3 107 yJ0_length_8abf5 ∈ lw_g := lw_g_mk (tb_1 (List.mem_of_getElem? (i := 51) rfl)) rfl
theorem wq_126 : Cond.methodLink RX3 114 yJ0_charAt_5068e ∈ lw_g := lw_g_mk (tb_1 (List.mem_of_getElem? (i := 62) rfl)) rfl
theorem wq_111 : Cond.methodLink RX3 41 yX3_addKeyword ∈ lw_g := lw_g_mk (tb_1 (List.mem_of_getElem? (i := 47) rfl)) rfl
theorem wq_114 : Cond.code yX3_addKeyword cX3_addKeyword 6 none ∈ lw_g := lw_g_mk (tb_1 (List.mem_of_getElem? (i := 50) rfl)) rfl
theorem wq_113 : Cond.instanceMethod yX3_addKeyword ∈ lw_g := lw_g_mk (tb_1 (List.mem_of_getElem? (i := 49) rfl)) rfl
theorem wq_0 : Cond.selects RX3 yX3_addKeyword yX3_addKeyword ∈ lw_g := lw_g_mk (tb_0 (List.mem_of_getElem? (i := 0) rfl)) rfl
theorem wq_109 : Cond.methodLink RX3 3 objectInit ∈ lw_g := lw_g_mk (tb_1 (List.mem_of_getElem? (i := 45) rfl)) rfl
theorem wq_108 : Cond.code yX3_init cX3_init 1 none ∈ lw_g := lw_g_mk (tb_1 (List.mem_of_getElem? (i := 44) rfl)) rfl
def KA (Z : Nat → ClassId) (a rx : Nat → Nat) (bp : Nat) (F : M2) (L : L2) : va_W := [(a 70, .inr (3, [.ref (a 71), .ref (a 72), .int (F 73 0), .ref (a 74), .ref (a 75), .ref (a 76), .ref bp, .int (F 78 0)])), (a 71, .inl (Z 1, 40, .inr (.inl (L 71)))), (a 72, .inl (Z 0, 40, .inl (F 72))), (a 74, .inl (Z 0, 401, .inl (F 74))), (a 75, .inl (Z 0, 401, .inl (F 75))), (a 76, .inl (Z 1, 401, .inr (.inl (L 76))))]
abbrev cutKA : List Nat := [0, 1, 2, 3, 4, 5]
set_option maxRecDepth 100000 in
theorem cutOkKA (Z : Nat → ClassId) (a rx : Nat → Nat) (bp : Nat) (F : M2) (L : L2) : Cut (KA Z a rx bp F L) (fun u : M2 × L2 => KA Z a rx bp u.1 u.2) (F, L) [] cutKA [] cutKA (fun u : M2 × L2 => KA Z a rx bp u.1 u.2) := ⟨rfl, rfl, rfl, fun i h => absurd h List.not_mem_nil, by decide, fun _ => rfl⟩
section ROWSKA
variable {p : Program} {l : Launch} {e : Env} {s : State} {m : MethodId} {args : Array Value} {below : List Frame} {meth : Method} {c : Code} {H H0 : Heap} {locs : List Loc} {cells slots : Nat} {Q : State → Prop} {R : Room} {rn mcR msR : Nat}
variable {pc : Nat} {ls : Array Slot} {rest : List Value} {A : Nat → Prop} {D : va_G}
variable {cc : ByteArray} {nL index : Nat} {own host : String}
theorem gKA_tok_0 {Z : Nat → ClassId} {a rx : Nat → Nat} {bp : Nat} {F : M2} {L : L2} (hC : CallFix p m c cc nL s args lw_g own) (hK : va_K D vwCl (tysG Z) s) (hP : va_P D vwCl (KA Z a rx bp F L) H) (hl : Cond.fieldLink own index RX3 "keyword" "[J" ∈ lw_g) (hdg : decode cc pc = .ok (.getfield index, 3)) (kk : W p l e R s m args below meth c H locs cells slots Q (F0 m (pc + 3) ls (.ref (a 71) :: rest))) : W p l e R s m args below meth c H locs cells slots Q (F0 m pc ls (.ref (a 70) :: rest)) :=
  w_get (C := RX3) (T := TX3) (N := 8) (ci := 3) (q0 := 0) (k := 0) hC hK hP fi_X3 rfl rfl rfl (by decide) rfl hl hdg kk
theorem gKA_tok_1 {Z : Nat → ClassId} {a rx : Nat → Nat} {bp : Nat} {F : M2} {L : L2} (hC : CallFix p m c cc nL s args lw_g own) (hK : va_K D vwCl (tysG Z) s) (hP : va_P D vwCl (KA Z a rx bp F L) H) (hl : Cond.fieldLink own index RX3 "keywordKind" "[I" ∈ lw_g) (hdg : decode cc pc = .ok (.getfield index, 3)) (kk : W p l e R s m args below meth c H locs cells slots Q (F0 m (pc + 3) ls (.ref (a 72) :: rest))) : W p l e R s m args below meth c H locs cells slots Q (F0 m pc ls (.ref (a 70) :: rest)) :=
  w_get (C := RX3) (T := TX3) (N := 8) (ci := 3) (q0 := 0) (k := 1) hC hK hP fi_X3 rfl rfl rfl (by decide) rfl hl hdg kk
theorem gKA_tok_2 {Z : Nat → ClassId} {a rx : Nat → Nat} {bp : Nat} {F : M2} {L : L2} (hC : CallFix p m c cc nL s args lw_g own) (hK : va_K D vwCl (tysG Z) s) (hP : va_P D vwCl (KA Z a rx bp F L) H) (hl : Cond.fieldLink own index RX3 "keywords" "I" ∈ lw_g) (hdg : decode cc pc = .ok (.getfield index, 3)) (kk : W p l e R s m args below meth c H locs cells slots Q (F0 m (pc + 3) ls (.int (F 73 0) :: rest))) : W p l e R s m args below meth c H locs cells slots Q (F0 m pc ls (.ref (a 70) :: rest)) :=
  w_get (C := RX3) (T := TX3) (N := 8) (ci := 3) (q0 := 0) (k := 2) hC hK hP fi_X3 rfl rfl rfl (by decide) rfl hl hdg kk
theorem pKA_tok_2 {Z : Nat → ClassId} {a rx : Nat → Nat} {bp : Nat} {F : M2} {L : L2} {x : Int32} (hC : CallFix p m c cc nL s args lw_g own) (hK : va_K D vwCl (tysG Z) s) (hT : TS vwCl D (KA Z a rx bp F L) A H0 H locs) (hl : Cond.fieldLink own index RX3 "keywords" "I" ∈ lw_g) (hdg : decode cc pc = .ok (.putfield index, 3)) (kk : ∀ (F1 : M2), F1 = up2 F 73 (fun _ => x) → ∀ (H1 : Heap) (locs1 : List Loc), TS vwCl D (KA Z a rx bp F1 L) A H0 H1 locs1 → W p l e R s m args below meth c H1 locs1 cells slots Q (F0 m (pc + 3) ls rest)) : W p l e R s m args below meth c H locs cells slots Q (F0 m pc ls (.int x :: .ref (a 70) :: rest)) :=
  w_put (C := RX3) (T := TX3) (N := 8) (ci := 3) (q0 := 0) (k := 2) (ty0 := tyX3) (ty := .int) (ws' := (KA Z a rx bp (up2 F 73 (fun _ => x)) L)) hC hK hT fi_X3 tyX3_ok nmX3 rfl rfl (by decide) rfl rfl rfl rfl rfl (Nat.le_of_ble_eq_true rfl) rfl hl hdg (fun H1 locs1 hT1 => kk _ rfl H1 locs1 hT1)
theorem uKA_keyword {Z : Nat → ClassId} {a rx : Nat → Nat} {bp : Nat} {F : M2} {L : L2} {i : Int32} {x : Int64} (hC : CallFix p m c cc nL s args lw_g own) (hN : NW s) (hK : va_K D vwCl (tysG Z) s) (hT : TS vwCl D (KA Z a rx bp F L) A H0 H locs) (hl : Cond.methodLinkNest own index yX5_put_ RX5 ∈ lw_n) (hlt : 0 < rn) (hsize : ls.size = nL) (hW : (rest.map fun v => v.category).sum ≤ 8) (hf : cells + 0 ≤ mcR ∧ slots + 0 ≤ msR) (hdg : decode cc pc = .ok (.invokestatic index, 3)) (kk : ∀ (L1 : L2), L1 = ul2 L 71 (putl (L 71) 40 i x) → ∀ (H1 : Heap) (locs1 : List Loc), TS vwCl D (KA Z a rx bp F L1) A H0 H1 locs1 → W p l e (rk rn mcR msR) s m args below meth c H1 locs1 cells slots Q (F0 m (pc + 3) ls rest)) : W p l e (rk rn mcR msR) s m args below meth c H locs cells slots Q (F0 m pc ls (.long x :: .int i :: .ref (a 71) :: rest)) :=
  w_pul (q0 := 1) (ws' := (KA Z a rx bp F (ul2 L 71 (putl (L 71) 40 i x)))) hC hN hK hT hl rfl rfl (by decide) hlt hsize hW hf hdg (fun H1 locs1 hT1 => kk _ rfl H1 locs1 hT1)
theorem uKA_kwKind {Z : Nat → ClassId} {a rx : Nat → Nat} {bp : Nat} {F : M2} {L : L2} {i : Int32} {x : Int32} (hC : CallFix p m c cc nL s args lw_g own) (hN : NW s) (hK : va_K D vwCl (tysG Z) s) (hT : TS vwCl D (KA Z a rx bp F L) A H0 H locs) (hl : Cond.methodLinkNest own index yX5_put RX5 ∈ lw_n) (hlt : 0 < rn) (hsize : ls.size = nL) (hW : (rest.map fun v => v.category).sum ≤ 8) (hf : cells + 0 ≤ mcR ∧ slots + 0 ≤ msR) (hdg : decode cc pc = .ok (.invokestatic index, 3)) (kk : ∀ (F1 : M2), F1 = up2 F 72 (putv (F 72) 40 i x) → ∀ (H1 : Heap) (locs1 : List Loc), TS vwCl D (KA Z a rx bp F1 L) A H0 H1 locs1 → W p l e (rk rn mcR msR) s m args below meth c H1 locs1 cells slots Q (F0 m (pc + 3) ls rest)) : W p l e (rk rn mcR msR) s m args below meth c H locs cells slots Q (F0 m pc ls (.int x :: .int i :: .ref (a 72) :: rest)) :=
  w_pu (q0 := 2) (ws' := (KA Z a rx bp (up2 F 72 (putv (F 72) 40 i x)) L)) hC hN hK hT hl rfl rfl (by decide) hlt hsize hW hf hdg (fun H1 locs1 hT1 => kk _ rfl H1 locs1 hT1)
end ROWSKA
set_option maxRecDepth 100000 in
theorem sx_EWKA (Z : Nat → ClassId) (a rx : Nat → Nat) (bp : Nat) (F : M2) (L : L2) : ([] : List Nat).map (fun i => (KA Z a rx bp F L)[i]?) = (EW Z).map some := rfl
theorem dX3_init_0 : decode cX3_init 0 = .ok (.aload_n 0, 1) := by decide +kernel
theorem dX3_init_1 : decode cX3_init 1 = .ok (.invokespecial 3, 3) := by decide +kernel
theorem dX3_init_4 : decode cX3_init 4 = .ok (.aload_n 0, 1) := by decide +kernel
theorem dX3_init_5 : decode cX3_init 5 = .ok (.bipush 40, 2) := by decide +kernel
theorem dX3_init_7 : decode cX3_init 7 = .ok (.newarray .long, 2) := by decide +kernel
theorem dX3_init_9 : decode cX3_init 9 = .ok (.putfield 11, 3) := by decide +kernel
theorem dX3_init_12 : decode cX3_init 12 = .ok (.aload_n 0, 1) := by decide +kernel
theorem dX3_init_13 : decode cX3_init 13 = .ok (.bipush 40, 2) := by decide +kernel
theorem dX3_init_15 : decode cX3_init 15 = .ok (.newarray .int, 2) := by decide +kernel
theorem dX3_init_17 : decode cX3_init 17 = .ok (.putfield 15, 3) := by decide +kernel
theorem dX3_init_20 : decode cX3_init 20 = .ok (.aload_n 0, 1) := by decide +kernel
theorem dX3_init_21 : decode cX3_init 21 = .ok (.iconst 0, 1) := by decide +kernel
theorem dX3_init_22 : decode cX3_init 22 = .ok (.putfield 19, 3) := by decide +kernel
theorem dX3_init_25 : decode cX3_init 25 = .ok (.aload_n 0, 1) := by decide +kernel
theorem dX3_init_26 : decode cX3_init 26 = .ok (.sipush 401, 3) := by decide +kernel
theorem dX3_init_29 : decode cX3_init 29 = .ok (.newarray .int, 2) := by decide +kernel
theorem dX3_init_31 : decode cX3_init 31 = .ok (.putfield 23, 3) := by decide +kernel
theorem dX3_init_34 : decode cX3_init 34 = .ok (.aload_n 0, 1) := by decide +kernel
theorem dX3_init_35 : decode cX3_init 35 = .ok (.sipush 401, 3) := by decide +kernel
theorem dX3_init_38 : decode cX3_init 38 = .ok (.newarray .int, 2) := by decide +kernel
theorem dX3_init_40 : decode cX3_init 40 = .ok (.putfield 26, 3) := by decide +kernel
theorem dX3_init_43 : decode cX3_init 43 = .ok (.aload_n 0, 1) := by decide +kernel
theorem dX3_init_44 : decode cX3_init 44 = .ok (.sipush 401, 3) := by decide +kernel
theorem dX3_init_47 : decode cX3_init 47 = .ok (.newarray .long, 2) := by decide +kernel
theorem dX3_init_49 : decode cX3_init 49 = .ok (.putfield 29, 3) := by decide +kernel
theorem dX3_init_52 : decode cX3_init 52 = .ok (.aload_n 0, 1) := by decide +kernel
theorem dX3_init_53 : decode cX3_init 53 = .ok (.iconst 0, 1) := by decide +kernel
theorem dX3_init_54 : decode cX3_init 54 = .ok (.newarray .byte, 2) := by decide +kernel
theorem dX3_init_56 : decode cX3_init 56 = .ok (.putfield 32, 3) := by decide +kernel
theorem dX3_init_59 : decode cX3_init 59 = .ok (.aload_n 0, 1) := by decide +kernel
theorem dX3_init_60 : decode cX3_init 60 = .ok (.iconst 0, 1) := by decide +kernel
theorem dX3_init_61 : decode cX3_init 61 = .ok (.putfield 36, 3) := by decide +kernel
theorem dX3_init_64 : decode cX3_init 64 = .ok (.aload_n 0, 1) := by decide +kernel
theorem dX3_init_65 : decode cX3_init 65 = .ok (.ldc 39, 2) := by decide +kernel
theorem dX3_init_67 : decode cX3_init 67 = .ok (.bipush 34, 2) := by decide +kernel
theorem dX3_init_69 : decode cX3_init 69 = .ok (.invokevirtual 41, 3) := by decide +kernel
theorem dX3_init_72 : decode cX3_init 72 = .ok (.aload_n 0, 1) := by decide +kernel
theorem dX3_init_73 : decode cX3_init 73 = .ok (.ldc 45, 2) := by decide +kernel
theorem dX3_init_75 : decode cX3_init 75 = .ok (.bipush 35, 2) := by decide +kernel
theorem dX3_init_77 : decode cX3_init 77 = .ok (.invokevirtual 41, 3) := by decide +kernel
theorem dX3_init_80 : decode cX3_init 80 = .ok (.aload_n 0, 1) := by decide +kernel
theorem dX3_init_81 : decode cX3_init 81 = .ok (.ldc 47, 2) := by decide +kernel
theorem dX3_init_83 : decode cX3_init 83 = .ok (.bipush 36, 2) := by decide +kernel
theorem dX3_init_85 : decode cX3_init 85 = .ok (.invokevirtual 41, 3) := by decide +kernel
theorem dX3_init_88 : decode cX3_init 88 = .ok (.aload_n 0, 1) := by decide +kernel
theorem dX3_init_89 : decode cX3_init 89 = .ok (.ldc 49, 2) := by decide +kernel
theorem dX3_init_91 : decode cX3_init 91 = .ok (.bipush 37, 2) := by decide +kernel
theorem dX3_init_93 : decode cX3_init 93 = .ok (.invokevirtual 41, 3) := by decide +kernel
theorem dX3_init_96 : decode cX3_init 96 = .ok (.aload_n 0, 1) := by decide +kernel
theorem dX3_init_97 : decode cX3_init 97 = .ok (.ldc 51, 2) := by decide +kernel
theorem dX3_init_99 : decode cX3_init 99 = .ok (.bipush 38, 2) := by decide +kernel
theorem dX3_init_101 : decode cX3_init 101 = .ok (.invokevirtual 41, 3) := by decide +kernel
theorem dX3_init_104 : decode cX3_init 104 = .ok (.aload_n 0, 1) := by decide +kernel
theorem dX3_init_105 : decode cX3_init 105 = .ok (.ldc 53, 2) := by decide +kernel
theorem dX3_init_107 : decode cX3_init 107 = .ok (.bipush 39, 2) := by decide +kernel
theorem dX3_init_109 : decode cX3_init 109 = .ok (.invokevirtual 41, 3) := by decide +kernel
theorem dX3_init_112 : decode cX3_init 112 = .ok (.aload_n 0, 1) := by decide +kernel
theorem dX3_init_113 : decode cX3_init 113 = .ok (.ldc 55, 2) := by decide +kernel
theorem dX3_init_115 : decode cX3_init 115 = .ok (.bipush 40, 2) := by decide +kernel
theorem dX3_init_117 : decode cX3_init 117 = .ok (.invokevirtual 41, 3) := by decide +kernel
theorem dX3_init_120 : decode cX3_init 120 = .ok (.aload_n 0, 1) := by decide +kernel
theorem dX3_init_121 : decode cX3_init 121 = .ok (.ldc 57, 2) := by decide +kernel
theorem dX3_init_123 : decode cX3_init 123 = .ok (.bipush 41, 2) := by decide +kernel
theorem dX3_init_125 : decode cX3_init 125 = .ok (.invokevirtual 41, 3) := by decide +kernel
theorem dX3_init_128 : decode cX3_init 128 = .ok (.aload_n 0, 1) := by decide +kernel
theorem dX3_init_129 : decode cX3_init 129 = .ok (.ldc 59, 2) := by decide +kernel
theorem dX3_init_131 : decode cX3_init 131 = .ok (.bipush 42, 2) := by decide +kernel
theorem dX3_init_133 : decode cX3_init 133 = .ok (.invokevirtual 41, 3) := by decide +kernel
theorem dX3_init_136 : decode cX3_init 136 = .ok (.aload_n 0, 1) := by decide +kernel
theorem dX3_init_137 : decode cX3_init 137 = .ok (.ldc 61, 2) := by decide +kernel
theorem dX3_init_139 : decode cX3_init 139 = .ok (.bipush 43, 2) := by decide +kernel
theorem dX3_init_141 : decode cX3_init 141 = .ok (.invokevirtual 41, 3) := by decide +kernel
theorem dX3_init_144 : decode cX3_init 144 = .ok (.aload_n 0, 1) := by decide +kernel
theorem dX3_init_145 : decode cX3_init 145 = .ok (.ldc 63, 2) := by decide +kernel
theorem dX3_init_147 : decode cX3_init 147 = .ok (.bipush 44, 2) := by decide +kernel
theorem dX3_init_149 : decode cX3_init 149 = .ok (.invokevirtual 41, 3) := by decide +kernel
theorem dX3_init_152 : decode cX3_init 152 = .ok (.aload_n 0, 1) := by decide +kernel
theorem dX3_init_153 : decode cX3_init 153 = .ok (.ldc 65, 2) := by decide +kernel
theorem dX3_init_155 : decode cX3_init 155 = .ok (.bipush 45, 2) := by decide +kernel
theorem dX3_init_157 : decode cX3_init 157 = .ok (.invokevirtual 41, 3) := by decide +kernel
theorem dX3_init_160 : decode cX3_init 160 = .ok (.aload_n 0, 1) := by decide +kernel
theorem dX3_init_161 : decode cX3_init 161 = .ok (.ldc 67, 2) := by decide +kernel
theorem dX3_init_163 : decode cX3_init 163 = .ok (.iconst 3, 1) := by decide +kernel
theorem dX3_init_164 : decode cX3_init 164 = .ok (.invokevirtual 41, 3) := by decide +kernel
theorem dX3_init_167 : decode cX3_init 167 = .ok (.aload_n 0, 1) := by decide +kernel
theorem dX3_init_168 : decode cX3_init 168 = .ok (.ldc 69, 2) := by decide +kernel
theorem dX3_init_170 : decode cX3_init 170 = .ok (.iconst 3, 1) := by decide +kernel
theorem dX3_init_171 : decode cX3_init 171 = .ok (.invokevirtual 41, 3) := by decide +kernel
theorem dX3_init_174 : decode cX3_init 174 = .ok (.aload_n 0, 1) := by decide +kernel
theorem dX3_init_175 : decode cX3_init 175 = .ok (.ldc 71, 2) := by decide +kernel
theorem dX3_init_177 : decode cX3_init 177 = .ok (.bipush 46, 2) := by decide +kernel
theorem dX3_init_179 : decode cX3_init 179 = .ok (.invokevirtual 41, 3) := by decide +kernel
theorem dX3_init_182 : decode cX3_init 182 = .ok (.aload_n 0, 1) := by decide +kernel
theorem dX3_init_183 : decode cX3_init 183 = .ok (.ldc 73, 2) := by decide +kernel
theorem dX3_init_185 : decode cX3_init 185 = .ok (.bipush 47, 2) := by decide +kernel
theorem dX3_init_187 : decode cX3_init 187 = .ok (.invokevirtual 41, 3) := by decide +kernel
theorem dX3_init_190 : decode cX3_init 190 = .ok (.aload_n 0, 1) := by decide +kernel
theorem dX3_init_191 : decode cX3_init 191 = .ok (.ldc 75, 2) := by decide +kernel
theorem dX3_init_193 : decode cX3_init 193 = .ok (.bipush 24, 2) := by decide +kernel
theorem dX3_init_195 : decode cX3_init 195 = .ok (.invokevirtual 41, 3) := by decide +kernel
theorem dX3_init_198 : decode cX3_init 198 = .ok (.aload_n 0, 1) := by decide +kernel
theorem dX3_init_199 : decode cX3_init 199 = .ok (.ldc 77, 2) := by decide +kernel
theorem dX3_init_201 : decode cX3_init 201 = .ok (.bipush 48, 2) := by decide +kernel
theorem dX3_init_203 : decode cX3_init 203 = .ok (.invokevirtual 41, 3) := by decide +kernel
theorem dX3_init_206 : decode cX3_init 206 = .ok (.aload_n 0, 1) := by decide +kernel
theorem dX3_init_207 : decode cX3_init 207 = .ok (.ldc 79, 2) := by decide +kernel
theorem dX3_init_209 : decode cX3_init 209 = .ok (.bipush 49, 2) := by decide +kernel
theorem dX3_init_211 : decode cX3_init 211 = .ok (.invokevirtual 41, 3) := by decide +kernel
theorem dX3_init_214 : decode cX3_init 214 = .ok (.aload_n 0, 1) := by decide +kernel
theorem dX3_init_215 : decode cX3_init 215 = .ok (.ldc 81, 2) := by decide +kernel
theorem dX3_init_217 : decode cX3_init 217 = .ok (.bipush 50, 2) := by decide +kernel
theorem dX3_init_219 : decode cX3_init 219 = .ok (.invokevirtual 41, 3) := by decide +kernel
theorem dX3_init_222 : decode cX3_init 222 = .ok (.aload_n 0, 1) := by decide +kernel
theorem dX3_init_223 : decode cX3_init 223 = .ok (.ldc 83, 2) := by decide +kernel
theorem dX3_init_225 : decode cX3_init 225 = .ok (.iconst 5, 1) := by decide +kernel
theorem dX3_init_226 : decode cX3_init 226 = .ok (.invokevirtual 41, 3) := by decide +kernel
theorem dX3_init_229 : decode cX3_init 229 = .ok (.aload_n 0, 1) := by decide +kernel
theorem dX3_init_230 : decode cX3_init 230 = .ok (.ldc 85, 2) := by decide +kernel
theorem dX3_init_232 : decode cX3_init 232 = .ok (.bipush 6, 2) := by decide +kernel
theorem dX3_init_234 : decode cX3_init 234 = .ok (.invokevirtual 41, 3) := by decide +kernel
theorem dX3_init_237 : decode cX3_init 237 = .ok (.aload_n 0, 1) := by decide +kernel
theorem dX3_init_238 : decode cX3_init 238 = .ok (.ldc 87, 2) := by decide +kernel
theorem dX3_init_240 : decode cX3_init 240 = .ok (.bipush 12, 2) := by decide +kernel
theorem dX3_init_242 : decode cX3_init 242 = .ok (.invokevirtual 41, 3) := by decide +kernel
theorem dX3_init_245 : decode cX3_init 245 = .ok (.aload_n 0, 1) := by decide +kernel
theorem dX3_init_246 : decode cX3_init 246 = .ok (.ldc 89, 2) := by decide +kernel
theorem dX3_init_248 : decode cX3_init 248 = .ok (.bipush 8, 2) := by decide +kernel
theorem dX3_init_250 : decode cX3_init 250 = .ok (.invokevirtual 41, 3) := by decide +kernel
theorem dX3_init_253 : decode cX3_init 253 = .ok (.aload_n 0, 1) := by decide +kernel
theorem dX3_init_254 : decode cX3_init 254 = .ok (.ldc 91, 2) := by decide +kernel
theorem dX3_init_256 : decode cX3_init 256 = .ok (.bipush 9, 2) := by decide +kernel
theorem dX3_init_258 : decode cX3_init 258 = .ok (.invokevirtual 41, 3) := by decide +kernel
theorem dX3_init_261 : decode cX3_init 261 = .ok (.aload_n 0, 1) := by decide +kernel
theorem dX3_init_262 : decode cX3_init 262 = .ok (.ldc 93, 2) := by decide +kernel
theorem dX3_init_264 : decode cX3_init 264 = .ok (.bipush 7, 2) := by decide +kernel
theorem dX3_init_266 : decode cX3_init 266 = .ok (.invokevirtual 41, 3) := by decide +kernel
theorem dX3_init_269 : decode cX3_init 269 = .ok (.aload_n 0, 1) := by decide +kernel
theorem dX3_init_270 : decode cX3_init 270 = .ok (.ldc 95, 2) := by decide +kernel
theorem dX3_init_272 : decode cX3_init 272 = .ok (.bipush 10, 2) := by decide +kernel
theorem dX3_init_274 : decode cX3_init 274 = .ok (.invokevirtual 41, 3) := by decide +kernel
theorem dX3_init_277 : decode cX3_init 277 = .ok (.aload_n 0, 1) := by decide +kernel
theorem dX3_init_278 : decode cX3_init 278 = .ok (.ldc 97, 2) := by decide +kernel
theorem dX3_init_280 : decode cX3_init 280 = .ok (.bipush 11, 2) := by decide +kernel
theorem dX3_init_282 : decode cX3_init 282 = .ok (.invokevirtual 41, 3) := by decide +kernel
theorem dX3_init_285 : decode cX3_init 285 = .ok (.aload_n 0, 1) := by decide +kernel
theorem dX3_init_286 : decode cX3_init 286 = .ok (.ldc 99, 2) := by decide +kernel
theorem dX3_init_288 : decode cX3_init 288 = .ok (.bipush 13, 2) := by decide +kernel
theorem dX3_init_290 : decode cX3_init 290 = .ok (.invokevirtual 41, 3) := by decide +kernel
theorem dX3_init_293 : decode cX3_init 293 = .ok (.aload_n 0, 1) := by decide +kernel
theorem dX3_init_294 : decode cX3_init 294 = .ok (.ldc 101, 2) := by decide +kernel
theorem dX3_init_296 : decode cX3_init 296 = .ok (.bipush 25, 2) := by decide +kernel
theorem dX3_init_298 : decode cX3_init 298 = .ok (.invokevirtual 41, 3) := by decide +kernel
theorem dX3_init_301 : decode cX3_init 301 = .ok (.aload_n 0, 1) := by decide +kernel
theorem dX3_init_302 : decode cX3_init 302 = .ok (.ldc 103, 2) := by decide +kernel
theorem dX3_init_304 : decode cX3_init 304 = .ok (.bipush 26, 2) := by decide +kernel
theorem dX3_init_306 : decode cX3_init 306 = .ok (.invokevirtual 41, 3) := by decide +kernel
theorem dX3_init_309 : decode cX3_init 309 = .ok (.aload_n 0, 1) := by decide +kernel
theorem dX3_init_310 : decode cX3_init 310 = .ok (.ldc 105, 2) := by decide +kernel
theorem dX3_init_312 : decode cX3_init 312 = .ok (.bipush 27, 2) := by decide +kernel
theorem dX3_init_314 : decode cX3_init 314 = .ok (.invokevirtual 41, 3) := by decide +kernel
theorem dX3_init_317 : decode cX3_init 317 = .ok (.return_, 1) := by decide +kernel
theorem mi_X3_init : MInfo yX3_init cX3_init 1 none 0 := ⟨wq_108, wq_80, by decide, ⟨by decide +kernel, by decide +kernel, by decide +kernel⟩, by decide +kernel⟩
theorem dX3_addKeyword_0 : decode cX3_addKeyword 0 = .ok (.lconst 0, 1) := by decide +kernel
theorem dX3_addKeyword_1 : decode cX3_addKeyword 1 = .ok (.lstore_n 3, 1) := by decide +kernel
theorem dX3_addKeyword_2 : decode cX3_addKeyword 2 = .ok (.iconst 0, 1) := by decide +kernel
theorem dX3_addKeyword_3 : decode cX3_addKeyword 3 = .ok (.istore 5, 2) := by decide +kernel
theorem dX3_addKeyword_5 : decode cX3_addKeyword 5 = .ok (.iload 5, 2) := by decide +kernel
theorem dX3_addKeyword_7 : decode cX3_addKeyword 7 = .ok (.aload_n 1, 1) := by decide +kernel
theorem dX3_addKeyword_8 : decode cX3_addKeyword 8 = .ok (.invokevirtual 107, 3) := by decide +kernel
theorem dX3_addKeyword_11 : decode cX3_addKeyword 11 = .ok (.if_icmp .ge 26, 3) := by decide +kernel
theorem dX3_addKeyword_14 : decode cX3_addKeyword 14 = .ok (.lload_n 3, 1) := by decide +kernel
theorem dX3_addKeyword_15 : decode cX3_addKeyword 15 = .ok (.ldc2_w 112, 3) := by decide +kernel
theorem dX3_addKeyword_18 : decode cX3_addKeyword 18 = .ok (.lmul, 1) := by decide +kernel
theorem dX3_addKeyword_19 : decode cX3_addKeyword 19 = .ok (.aload_n 1, 1) := by decide +kernel
theorem dX3_addKeyword_20 : decode cX3_addKeyword 20 = .ok (.iload 5, 2) := by decide +kernel
theorem dX3_addKeyword_22 : decode cX3_addKeyword 22 = .ok (.invokevirtual 114, 3) := by decide +kernel
theorem dX3_addKeyword_25 : decode cX3_addKeyword 25 = .ok (.invokestatic 118, 3) := by decide +kernel
theorem dX3_addKeyword_28 : decode cX3_addKeyword 28 = .ok (.i2l, 1) := by decide +kernel
theorem dX3_addKeyword_29 : decode cX3_addKeyword 29 = .ok (.ladd, 1) := by decide +kernel
theorem dX3_addKeyword_30 : decode cX3_addKeyword 30 = .ok (.lstore_n 3, 1) := by decide +kernel
theorem dX3_addKeyword_31 : decode cX3_addKeyword 31 = .ok (.iinc 5 1, 3) := by decide +kernel
theorem dX3_addKeyword_34 : decode cX3_addKeyword 34 = .ok (.goto (-29), 3) := by decide +kernel
theorem dX3_addKeyword_37 : decode cX3_addKeyword 37 = .ok (.aload_n 0, 1) := by decide +kernel
theorem dX3_addKeyword_38 : decode cX3_addKeyword 38 = .ok (.getfield 11, 3) := by decide +kernel
theorem dX3_addKeyword_41 : decode cX3_addKeyword 41 = .ok (.aload_n 0, 1) := by decide +kernel
theorem dX3_addKeyword_42 : decode cX3_addKeyword 42 = .ok (.getfield 19, 3) := by decide +kernel
theorem dX3_addKeyword_45 : decode cX3_addKeyword 45 = .ok (.lload_n 3, 1) := by decide +kernel
theorem dX3_addKeyword_46 : decode cX3_addKeyword 46 = .ok (.invokestatic 122, 3) := by decide +kernel
theorem dX3_addKeyword_49 : decode cX3_addKeyword 49 = .ok (.aload_n 0, 1) := by decide +kernel
theorem dX3_addKeyword_50 : decode cX3_addKeyword 50 = .ok (.getfield 15, 3) := by decide +kernel
theorem dX3_addKeyword_53 : decode cX3_addKeyword 53 = .ok (.aload_n 0, 1) := by decide +kernel
theorem dX3_addKeyword_54 : decode cX3_addKeyword 54 = .ok (.getfield 19, 3) := by decide +kernel
theorem dX3_addKeyword_57 : decode cX3_addKeyword 57 = .ok (.iload_n 2, 1) := by decide +kernel
theorem dX3_addKeyword_58 : decode cX3_addKeyword 58 = .ok (.invokestatic 126, 3) := by decide +kernel
theorem dX3_addKeyword_61 : decode cX3_addKeyword 61 = .ok (.aload_n 0, 1) := by decide +kernel
theorem dX3_addKeyword_62 : decode cX3_addKeyword 62 = .ok (.dup, 1) := by decide +kernel
theorem dX3_addKeyword_63 : decode cX3_addKeyword 63 = .ok (.getfield 19, 3) := by decide +kernel
theorem dX3_addKeyword_66 : decode cX3_addKeyword 66 = .ok (.iconst 1, 1) := by decide +kernel
theorem dX3_addKeyword_67 : decode cX3_addKeyword 67 = .ok (.iadd, 1) := by decide +kernel
theorem dX3_addKeyword_68 : decode cX3_addKeyword 68 = .ok (.putfield 19, 3) := by decide +kernel
theorem dX3_addKeyword_71 : decode cX3_addKeyword 71 = .ok (.return_, 1) := by decide +kernel
theorem mi_X3_addKeyword : MInfo yX3_addKeyword cX3_addKeyword 6 none 2 := ⟨wq_114, wq_80, by decide, ⟨by decide +kernel, by decide +kernel, by decide +kernel⟩, by decide +kernel⟩
def wp_X3_isLetterE (x0 : Int32) (K : Int32 → Prop) : Prop := ((x0 < 97 → K 0) ∧ (¬ x0 < 97 → ((122 < x0 → K 0) ∧ (¬ 122 < x0 → K 1))))
set_option maxRecDepth 100000 in
set_option maxHeartbeats 4000000 in
theorem c_X3_isLetterE (l : Launch) (D : va_G) (Z : Nat → ClassId) (sz : Nat) (x0 : Int32) (K : Int32 → Prop) (hm : wp_X3_isLetterE x0 K) : Met l yX3_isLetter (wy yX3_isLetter cX3_isLetter 1 (some .boolean)) (rk 1 0 0) (pre vwCl D Z (EW Z) sz [.int x0]) (vp_Si K) 0 0 (fun _ => False) := by
  refine ro_of (ty := .boolean) (by decide +kernel) (Nat.le_of_ble_eq_true rfl) rfl ?_
  intro p e s m args below meth c Q hC hN hsz hP hD hK hret ls hl
  have hx := hC.1
  have hb := hC.2.1
  have hl : lv_has ls 1 [(0, .int x0)] := hl
  refine lv_iload_n hx hb dX3_isLetter_0 rfl (lv_at hl 0 rfl) ?_
  refine lv_bipush (v := 97) hx hb dX3_isLetter_1 (by decide) ?_
  refine lv_icmp_lt (tgt := 16) hx hb dX3_isLetter_3 (by decide) (fun c_3 => ?_) (fun c_3 => ?_)
  · have hm := hm.1 c_3
    refine lv_iconst (v := 0) hx hb dX3_isLetter_16 (by decide) ?_
    exact hret 17 _ _ hm rfl dX3_isLetter_17
  · have hm := hm.2 c_3
    refine lv_iload_n hx hb dX3_isLetter_6 rfl (lv_at hl 0 rfl) ?_
    refine lv_bipush (v := 122) hx hb dX3_isLetter_7 (by decide) ?_
    refine lv_icmp_gt (tgt := 16) hx hb dX3_isLetter_9 (by decide) (fun c_9 => ?_) (fun c_9 => ?_)
    · have hm := hm.1 c_9
      refine lv_iconst (v := 0) hx hb dX3_isLetter_16 (by decide) ?_
      exact hret 17 _ _ hm rfl dX3_isLetter_17
    · have hm := hm.2 c_9
      refine lv_iconst (v := 1) hx hb dX3_isLetter_12 (by decide) ?_
      refine lv_goto (tgt := 17) hx hb dX3_isLetter_13 (by decide) ?_
      exact hret 17 _ _ hm rfl dX3_isLetter_17
section KX3_isLetterE
variable {p : Program} {l : Launch} {e : Env} {s : State} {m : MethodId} {args : Array Value} {below : List Frame} {meth : Method} {c : Code} {H H0 : Heap} {locs : List Loc} {cells slots : Nat} {Q : State → Prop} {R : Room} {rn mcR msR : Nat}
variable {pc : Nat} {ls : Array Slot} {rest : List Value} {A : Nat → Prop} {D : va_G}
variable {cc : ByteArray} {nL index : Nat} {own host : String}
theorem k_X3_isLetterE {Z : Nat → ClassId} {x0 : Int32} {K : Int32 → Prop} (hC : CallFix p m c cc nL s args lw_g own) (hN : NW s) (hK : va_K D vwCl (tysG Z) s) (hP : va_P D vwCl (EW Z) H) (hD : va_D (fun _ => True) (EW Z)) (hm : wp_X3_isLetterE x0 K) (hl : Cond.methodLink own index yX3_isLetter ∈ lw_g) (hlt : 1 < rn) (hsize : ls.size = nL) (hW : (rest.map fun v => v.category).sum ≤ 8) (hf : cells + 0 ≤ mcR ∧ slots + 0 ≤ msR) (hdg : decode cc pc = .ok (.invokestatic index, 3)) (kk : ∀ r : Int32, K r → W p l e (rk rn mcR msR) s m args below meth c H locs cells slots Q (F0 m (pc + 3) ls (.int r :: rest))) : W p l e (rk rn mcR msR) s m args below meth c H locs cells slots Q (F0 m pc ls (.int x0 :: rest)) :=
  ro_go (runS (As := [.int x0]) hC hN (c_X3_isLetterE l D Z  H.size x0 K hm) mi_X3_isLetter hl wq_168 hlt hP hD hK rfl hsize rfl hW hdg hf) kk
end KX3_isLetterE
def wp_X3_isDigitE (x0 : Int32) (K : Int32 → Prop) : Prop := ((x0 < 48 → K 0) ∧ (¬ x0 < 48 → ((57 < x0 → K 0) ∧ (¬ 57 < x0 → K 1))))
set_option maxRecDepth 100000 in
set_option maxHeartbeats 4000000 in
theorem c_X3_isDigitE (l : Launch) (D : va_G) (Z : Nat → ClassId) (sz : Nat) (x0 : Int32) (K : Int32 → Prop) (hm : wp_X3_isDigitE x0 K) : Met l yX3_isDigit (wy yX3_isDigit cX3_isDigit 1 (some .boolean)) (rk 1 0 0) (pre vwCl D Z (EW Z) sz [.int x0]) (vp_Si K) 0 0 (fun _ => False) := by
  refine ro_of (ty := .boolean) (by decide +kernel) (Nat.le_of_ble_eq_true rfl) rfl ?_
  intro p e s m args below meth c Q hC hN hsz hP hD hK hret ls hl
  have hx := hC.1
  have hb := hC.2.1
  have hl : lv_has ls 1 [(0, .int x0)] := hl
  refine lv_iload_n hx hb dX3_isDigit_0 rfl (lv_at hl 0 rfl) ?_
  refine lv_bipush (v := 48) hx hb dX3_isDigit_1 (by decide) ?_
  refine lv_icmp_lt (tgt := 16) hx hb dX3_isDigit_3 (by decide) (fun c_3 => ?_) (fun c_3 => ?_)
  · have hm := hm.1 c_3
    refine lv_iconst (v := 0) hx hb dX3_isDigit_16 (by decide) ?_
    exact hret 17 _ _ hm rfl dX3_isDigit_17
  · have hm := hm.2 c_3
    refine lv_iload_n hx hb dX3_isDigit_6 rfl (lv_at hl 0 rfl) ?_
    refine lv_bipush (v := 57) hx hb dX3_isDigit_7 (by decide) ?_
    refine lv_icmp_gt (tgt := 16) hx hb dX3_isDigit_9 (by decide) (fun c_9 => ?_) (fun c_9 => ?_)
    · have hm := hm.1 c_9
      refine lv_iconst (v := 0) hx hb dX3_isDigit_16 (by decide) ?_
      exact hret 17 _ _ hm rfl dX3_isDigit_17
    · have hm := hm.2 c_9
      refine lv_iconst (v := 1) hx hb dX3_isDigit_12 (by decide) ?_
      refine lv_goto (tgt := 17) hx hb dX3_isDigit_13 (by decide) ?_
      exact hret 17 _ _ hm rfl dX3_isDigit_17
section KX3_isDigitE
variable {p : Program} {l : Launch} {e : Env} {s : State} {m : MethodId} {args : Array Value} {below : List Frame} {meth : Method} {c : Code} {H H0 : Heap} {locs : List Loc} {cells slots : Nat} {Q : State → Prop} {R : Room} {rn mcR msR : Nat}
variable {pc : Nat} {ls : Array Slot} {rest : List Value} {A : Nat → Prop} {D : va_G}
variable {cc : ByteArray} {nL index : Nat} {own host : String}
theorem k_X3_isDigitE {Z : Nat → ClassId} {x0 : Int32} {K : Int32 → Prop} (hC : CallFix p m c cc nL s args lw_g own) (hN : NW s) (hK : va_K D vwCl (tysG Z) s) (hP : va_P D vwCl (EW Z) H) (hD : va_D (fun _ => True) (EW Z)) (hm : wp_X3_isDigitE x0 K) (hl : Cond.methodLink own index yX3_isDigit ∈ lw_g) (hlt : 1 < rn) (hsize : ls.size = nL) (hW : (rest.map fun v => v.category).sum ≤ 8) (hf : cells + 0 ≤ mcR ∧ slots + 0 ≤ msR) (hdg : decode cc pc = .ok (.invokestatic index, 3)) (kk : ∀ r : Int32, K r → W p l e (rk rn mcR msR) s m args below meth c H locs cells slots Q (F0 m (pc + 3) ls (.int r :: rest))) : W p l e (rk rn mcR msR) s m args below meth c H locs cells slots Q (F0 m pc ls (.int x0 :: rest)) :=
  ro_go (runS (As := [.int x0]) hC hN (c_X3_isDigitE l D Z  H.size x0 K hm) mi_X3_isDigit hl wq_171 hlt hP hD hK rfl hsize rfl hW hdg hf) kk
end KX3_isDigitE
def wp_X3_signOfWordE (x0 : Int32) (K : Int32 → Prop) : Prop := wp_X3_isLetterE x0 (fun r_1 => ((r_1 = 0 → wp_X3_isDigitE x0 (fun r_15 => ((r_15 = 0 → K 0) ∧ (¬ r_15 = 0 → K ((27 + x0) - 48))))) ∧ (¬ r_1 = 0 → K ((1 + x0) - 97))))
set_option maxRecDepth 100000 in
set_option maxHeartbeats 4000000 in
theorem c_X3_signOfWordE (l : Launch) (D : va_G) (Z : Nat → ClassId) (sz : Nat) (x0 : Int32) (K : Int32 → Prop) (hm : wp_X3_signOfWordE x0 K) : Met l yX3_signOfWord (wy yX3_signOfWord cX3_signOfWord 1 (some .int)) (rk 2 0 0) (pre vwCl D Z (EW Z) sz [.int x0]) (vp_Si K) 0 0 (fun _ => False) := by
  refine ro_of (ty := .int) (by decide +kernel) (Nat.le_of_ble_eq_true rfl) rfl ?_
  intro p e s m args below meth c Q hC hN hsz hP hD hK hret ls hl
  have hx := hC.1
  have hb := hC.2.1
  have hl : lv_has ls 1 [(0, .int x0)] := hl
  refine lv_iload_n hx hb dX3_signOfWord_0 rfl (lv_at hl 0 rfl) ?_
  refine k_X3_isLetterE hC hN hK hP hD hm wq_167 (by decide) hl.1 (Nat.le_of_ble_eq_true rfl) ⟨Nat.le_refl _, Nat.le_refl _⟩ dX3_signOfWord_1 (fun r_1 hm => ?_)
  refine lv_if_eq (tgt := 14) hx hb dX3_signOfWord_4 (by decide) (fun c_4 => ?_) (fun c_4 => ?_)
  · have hm := hm.1 c_4
    refine lv_iload_n hx hb dX3_signOfWord_14 rfl (lv_at hl 0 rfl) ?_
    refine k_X3_isDigitE hC hN hK hP hD hm wq_170 (by decide) hl.1 (Nat.le_of_ble_eq_true rfl) ⟨Nat.le_refl _, Nat.le_refl _⟩ dX3_signOfWord_15 (fun r_15 hm => ?_)
    refine lv_if_eq (tgt := 31) hx hb dX3_signOfWord_18 (by decide) (fun c_18 => ?_) (fun c_18 => ?_)
    · have hm := hm.1 c_18
      refine lv_iconst (v := 0) hx hb dX3_signOfWord_31 (by decide) ?_
      exact hret 32 _ _ hm rfl dX3_signOfWord_32
    · have hm := hm.2 c_18
      refine lv_bipush (v := 27) hx hb dX3_signOfWord_21 (by decide) ?_
      refine lv_iload_n hx hb dX3_signOfWord_23 rfl (lv_at hl 0 rfl) ?_
      refine lv_iadd hx hb dX3_signOfWord_24 ?_
      refine lv_bipush (v := 48) hx hb dX3_signOfWord_25 (by decide) ?_
      refine lv_isub hx hb dX3_signOfWord_27 ?_
      refine lv_goto (tgt := 32) hx hb dX3_signOfWord_28 (by decide) ?_
      exact hret 32 _ _ hm rfl dX3_signOfWord_32
  · have hm := hm.2 c_4
    refine lv_iconst (v := 1) hx hb dX3_signOfWord_7 (by decide) ?_
    refine lv_iload_n hx hb dX3_signOfWord_8 rfl (lv_at hl 0 rfl) ?_
    refine lv_iadd hx hb dX3_signOfWord_9 ?_
    refine lv_bipush (v := 97) hx hb dX3_signOfWord_10 (by decide) ?_
    refine lv_isub hx hb dX3_signOfWord_12 ?_
    exact hret 13 _ _ hm rfl dX3_signOfWord_13
section KX3_signOfWordE
variable {p : Program} {l : Launch} {e : Env} {s : State} {m : MethodId} {args : Array Value} {below : List Frame} {meth : Method} {c : Code} {H H0 : Heap} {locs : List Loc} {cells slots : Nat} {Q : State → Prop} {R : Room} {rn mcR msR : Nat}
variable {pc : Nat} {ls : Array Slot} {rest : List Value} {A : Nat → Prop} {D : va_G}
variable {cc : ByteArray} {nL index : Nat} {own host : String}
theorem k_X3_signOfWordE {Z : Nat → ClassId} {x0 : Int32} {K : Int32 → Prop} (hC : CallFix p m c cc nL s args lw_g own) (hN : NW s) (hK : va_K D vwCl (tysG Z) s) (hP : va_P D vwCl (EW Z) H) (hD : va_D (fun _ => True) (EW Z)) (hm : wp_X3_signOfWordE x0 K) (hl : Cond.methodLink own index yX3_signOfWord ∈ lw_g) (hlt : 2 < rn) (hsize : ls.size = nL) (hW : (rest.map fun v => v.category).sum ≤ 8) (hf : cells + 0 ≤ mcR ∧ slots + 0 ≤ msR) (hdg : decode cc pc = .ok (.invokestatic index, 3)) (kk : ∀ r : Int32, K r → W p l e (rk rn mcR msR) s m args below meth c H locs cells slots Q (F0 m (pc + 3) ls (.int r :: rest))) : W p l e (rk rn mcR msR) s m args below meth c H locs cells slots Q (F0 m pc ls (.int x0 :: rest)) :=
  ro_go (runS (As := [.int x0]) hC hN (c_X3_signOfWordE l D Z  H.size x0 K hm) mi_X3_signOfWord hl wq_165 hlt hP hD hK rfl hsize rfl hW hdg hf) kk
theorem kx_X3_signOfWordE {Z : Nat → ClassId} {x0 : Int32} {K : Int32 → Prop} {ws : va_W} {isC : List Nat} (hC : CallFix p m c cc nL s args lw_g own) (hN : NW s) (hK : va_K D vwCl (tysG Z) s) (hP : va_P D vwCl ws H) (hD : va_D (fun _ => True) ws) (hs : isC.map (fun i => ws[i]?) = (EW Z).map some) (hnd : va_nd isC = true) (hm : wp_X3_signOfWordE x0 K) (hl : Cond.methodLink own index yX3_signOfWord ∈ lw_g) (hlt : 2 < rn) (hsize : ls.size = nL) (hW : (rest.map fun v => v.category).sum ≤ 8) (hf : cells + 0 ≤ mcR ∧ slots + 0 ≤ msR) (hdg : decode cc pc = .ok (.invokestatic index, 3)) (kk : ∀ r : Int32, K r → W p l e (rk rn mcR msR) s m args below meth c H locs cells slots Q (F0 m (pc + 3) ls (.int r :: rest))) : W p l e (rk rn mcR msR) s m args below meth c H locs cells slots Q (F0 m pc ls (.int x0 :: rest)) :=
  ro_go (runS (As := [.int x0]) hC hN (c_X3_signOfWordE l D Z  H.size x0 K hm) mi_X3_signOfWord hl wq_165 hlt (hP.sub isC (map_fm hs)) (hD.sub isC hnd hs) hK rfl hsize rfl hW hdg hf) kk
end KX3_signOfWordE
def wl_X3_addKeyword_5 (w1 : Nat) (K : M2 → L2 → Prop) : Nat → M2 → L2 → Int32 → Int64 → Int32 → Prop
  | 0, _, _, _, _, _ => False
  | n + 1, F, L, v2, v3, v5 => (w1 < 65 ∧ (((Int32.ofNat (sn w1)) ≤ v5 → (∀ L_46 : L2, L_46 = ul2 L 71 (putl (L 71) 40 (F 73 0) v3) → (∀ F_58 : M2, F_58 = up2 F 72 (putv (F 72) 40 (F 73 0) v2) → (∀ F_68 : M2, F_68 = up2 F_58 73 (fun _ => (F_58 73 0) + 1) → K F_68 L_46)))) ∧ (¬ (Int32.ofNat (sn w1)) ≤ v5 → (w1 < 65 ∧ (inb v5 (sn w1) ∧ wp_X3_signOfWordE (chv (sb w1) v5) (fun r_25 => (∀ v3_30, v3_30 = (v3 * 37) + r_25.toInt64 → (∀ v5_31 : Int32, v5_31 = v5 + 1 → wl_X3_addKeyword_5 w1 K n F L v2 v3_30 v5_31))))))))
def wp_X3_addKeyword (w1 : Nat) (F : M2) (L : L2) (x2 : Int32) (K : M2 → L2 → Prop) : Prop := wl_X3_addKeyword_5 w1 K fK F L x2 0 0
set_option maxRecDepth 100000 in
set_option maxHeartbeats 4000000 in
theorem c_X3_addKeyword (l : Launch) (D : va_G) (Z : Nat → ClassId) (a rx : Nat → Nat) (bp : Nat) (F : M2) (L : L2) (sz : Nat) (w1 : Nat) (x2 : Int32) (K : M2 → L2 → Prop) (hm : wp_X3_addKeyword w1 F L x2 K) : Met l yX3_addKeyword (wy yX3_addKeyword cX3_addKeyword 6 none) (rk 4 0 0) (preR vwCl D Z rx (KA Z a rx bp F L) sz [.ref (a 70), .ref (rx w1), .int x2]) (poV vwCl D Z (fun u : M2 × L2 => KA Z a rx bp u.1 u.2) (F, L) sz (fun (u : M2 × L2) => K u.1 u.2)) 0 0 (va_A (KA Z a rx bp F L) sz) := by
  refine rwv_ofR (wsF := (fun u : M2 × L2 => KA Z a rx bp u.1 u.2)) (u0 := (F, L)) (by decide +kernel) (Nat.le_of_ble_eq_true rfl) rfl ?_
  intro p e s m args below meth c Q A hC hN hR hsz hnm hT hK hret ls hl
  have hx := hC.1
  have hb := hC.2.1
  have hl : lv_has ls 6 [(0, .ref (a 70)), (1, .ref (rx w1)), (2, .int x2)] := hl
  have hT : TS vwCl D (KA Z a rx bp F L) A s.heap s.heap [] := hT
  have L5 : ∀ (n5 : Nat), ∀ (F : M2) (L : L2) (v2 : Int32) (v3 : Int64) (v5 : Int32) (H : Heap) (locs : List Loc) (ls : Array Slot), wl_X3_addKeyword_5 w1 K n5 F L v2 v3 v5 → TS vwCl D (KA Z a rx bp F L) A s.heap H locs → lv_has ls 6 [(0, .ref (a 70)), (1, .ref (rx w1)), (2, .int v2), (3, .long v3), (5, .int v5)] → W p l e (rk 4 0 0) s m args below meth c H locs 0 0 Q (F0 m 5 ls []) := by
    intro n5
    induction n5 with
    | zero =>
      intro F L v2 v3 v5 H locs ls hm hT hl
      exact False.elim hm
    | succ n5 ih5 =>
      intro F L v2 v3 v5 H locs ls hm hT hl
      refine lv_iload hx hb dX3_addKeyword_5 (lv_at hl 4 rfl) ?_
      refine lv_aload_n hx hb dX3_addKeyword_7 rfl (lv_at hl 1 rfl) ?_
      refine w_slen hC hR hT.2.2.1 hm.1 wq_115 (by decide) hl.1 (Nat.le_of_ble_eq_true rfl) ⟨Nat.le_refl _, Nat.le_refl _⟩ dX3_addKeyword_8 ?_
      have hm := hm.2
      refine lv_icmp_ge (tgt := 37) hx hb dX3_addKeyword_11 (by decide) (fun c_11 => ?_) (fun c_11 => ?_)
      · have hm := hm.1 c_11
        refine lv_aload_n hx hb dX3_addKeyword_37 rfl (lv_at hl 0 rfl) ?_
        refine gKA_tok_0 hC hK hT.1 wq_210 dX3_addKeyword_38 ?_
        refine lv_aload_n hx hb dX3_addKeyword_41 rfl (lv_at hl 0 rfl) ?_
        refine gKA_tok_2 hC hK hT.1 wq_212 dX3_addKeyword_42 ?_
        refine lv_lload_n hx hb dX3_addKeyword_45 rfl (lv_at hl 3 rfl) ?_
        refine uKA_keyword hC hN hK hT wn_173 (by decide) hl.1 (Nat.le_of_ble_eq_true rfl) ⟨Nat.le_refl _, Nat.le_refl _⟩ dX3_addKeyword_46 (fun L_46 eL_46 H locs hT => ?_)
        have hm := hm L_46 eL_46
        refine lv_aload_n hx hb dX3_addKeyword_49 rfl (lv_at hl 0 rfl) ?_
        refine gKA_tok_1 hC hK hT.1 wq_211 dX3_addKeyword_50 ?_
        refine lv_aload_n hx hb dX3_addKeyword_53 rfl (lv_at hl 0 rfl) ?_
        refine gKA_tok_2 hC hK hT.1 wq_212 dX3_addKeyword_54 ?_
        refine lv_iload_n hx hb dX3_addKeyword_57 rfl (lv_at hl 2 rfl) ?_
        refine uKA_kwKind hC hN hK hT wn_176 (by decide) hl.1 (Nat.le_of_ble_eq_true rfl) ⟨Nat.le_refl _, Nat.le_refl _⟩ dX3_addKeyword_58 (fun F_58 eF_58 H locs hT => ?_)
        have hm := hm F_58 eF_58
        refine lv_aload_n hx hb dX3_addKeyword_61 rfl (lv_at hl 0 rfl) ?_
        refine lv_dup hx hb dX3_addKeyword_62 rfl ?_
        refine gKA_tok_2 hC hK hT.1 wq_212 dX3_addKeyword_63 ?_
        refine lv_iconst (v := 1) hx hb dX3_addKeyword_66 (by decide) ?_
        refine lv_iadd hx hb dX3_addKeyword_67 ?_
        refine pKA_tok_2 hC hK hT wq_212 dX3_addKeyword_68 (fun F_68 eF_68 H locs hT => ?_)
        have hm := hm F_68 eF_68
        exact hret 71 _ _ _ (F_68, L_46) hm hT dX3_addKeyword_71
      · have hm := hm.2 c_11
        refine lv_lload_n hx hb dX3_addKeyword_14 rfl (lv_at hl 3 rfl) ?_
        refine lv_ldc2 (v := 37) hx hb hC.2.2.2.1 (hC.2.2.2.2 _ wq_125) dX3_addKeyword_15 ?_
        refine lv_lmul hx hb dX3_addKeyword_18 ?_
        refine lv_aload_n hx hb dX3_addKeyword_19 rfl (lv_at hl 1 rfl) ?_
        refine lv_iload hx hb dX3_addKeyword_20 (lv_at hl 4 rfl) ?_
        refine w_schar hC hR hT.2.2.1 hm.1 hm.2.1 wq_126 (by decide) hl.1 (Nat.le_of_ble_eq_true rfl) ⟨Nat.le_refl _, Nat.le_refl _⟩ dX3_addKeyword_22 ?_
        have hm := hm.2.2
        refine kx_X3_signOfWordE hC hN hK hT.1 hT.D' (sx_EWKA Z a rx bp F L) rfl hm wq_164 (by decide) hl.1 (Nat.le_of_ble_eq_true rfl) ⟨Nat.le_refl _, Nat.le_refl _⟩ dX3_addKeyword_25 (fun r_25 hm => ?_)
        refine lv_i2l (v := r_25.toInt64) hx hb dX3_addKeyword_28 rfl ?_
        refine lv_ladd hx hb dX3_addKeyword_29 ?_
        refine lv_topl (fun v3_30 ev3_30 => ?_)
        have hm := hm v3_30 ev3_30
        refine lv_lstore_n (lv' := [(3, .long v3_30), (0, .ref (a 70)), (1, .ref (rx w1)), (2, .int v2), (5, .int v5)]) hx hb dX3_addKeyword_30 rfl hl (by decide) rfl (fun ls hl => ?_)
        obtain ⟨v5_31, ev5_31⟩ : ∃ y : Int32, y = v5 + 1 := ⟨_, rfl⟩
        have hm := hm v5_31 ev5_31
        refine lv_iinc (v := v5_31) (lv' := [(5, .int v5_31), (3, .long v3_30), (0, .ref (a 70)), (1, .ref (rx w1)), (2, .int v2)]) hx hb dX3_addKeyword_31 hl (k := 4) rfl (by rw [ev5_31]; rfl) (by decide) rfl (fun ls hl => ?_)
        refine lv_goto (tgt := 5) hx hb dX3_addKeyword_34 (by decide) ?_
        exact ih5 _ _ _ _ _ _ _ _ hm hT (lv_sub hl [2, 3, 4, 1, 0] rfl)
  refine lv_lconst (v := 0) hx hb dX3_addKeyword_0 (by decide) ?_
  refine lv_lstore_n (lv' := [(3, .long 0), (0, .ref (a 70)), (1, .ref (rx w1)), (2, .int x2)]) hx hb dX3_addKeyword_1 rfl hl (by decide) rfl (fun ls hl => ?_)
  refine lv_iconst (v := 0) hx hb dX3_addKeyword_2 (by decide) ?_
  refine lv_istore (lv' := [(5, .int 0), (3, .long 0), (0, .ref (a 70)), (1, .ref (rx w1)), (2, .int x2)]) hx hb dX3_addKeyword_3 hl (by decide) rfl (fun ls hl => ?_)
  exact L5 _ _ _ _ _ _ _ _ _ hm hT (lv_sub hl [2, 3, 4, 1, 0] rfl)
section KX3_addKeyword
variable {p : Program} {l : Launch} {e : Env} {s : State} {m : MethodId} {args : Array Value} {below : List Frame} {meth : Method} {c : Code} {H H0 : Heap} {locs : List Loc} {cells slots : Nat} {Q : State → Prop} {R : Room} {rn mcR msR : Nat}
variable {pc : Nat} {ls : Array Slot} {rest : List Value} {A : Nat → Prop} {D : va_G}
variable {cc : ByteArray} {nL index : Nat} {own host : String}
theorem k_X3_addKeyword {Z : Nat → ClassId} {a rx : Nat → Nat} {bp : Nat} {F : M2} {L : L2} {w1 : Nat} {x2 : Int32} {K : M2 → L2 → Prop} (hC : CallFix p m c cc nL s args lw_g own) (hN : NW s) (hR : RD rx (va_A (KA Z a rx bp F L) H.size) s H) (hK : va_K D vwCl (tysG Z) s) (hT : TS vwCl D (KA Z a rx bp F L) A H0 H locs) (hm : wp_X3_addKeyword w1 F L x2 K) (hl : Cond.methodLink own index yX3_addKeyword ∈ lw_g) (hlt : 4 < rn) (hsize : ls.size = nL) (hW : (rest.map fun v => v.category).sum ≤ 8) (hf : cells + 0 ≤ mcR ∧ slots + 0 ≤ msR) (hdg : decode cc pc = .ok (.invokevirtual index, 3)) (kk : ∀ (F1 : M2) (L1 : L2) (H1 : Heap) (locs1 : List Loc), K F1 L1 → TS vwCl D (KA Z a rx bp F1 L1) A H0 H1 locs1 → W p l e (rk rn mcR msR) s m args below meth c H1 locs1 cells slots Q (F0 m (pc + 3) ls (rest))) : W p l e (rk rn mcR msR) s m args below meth c H locs cells slots Q (F0 m pc ls (.int x2 :: .ref (rx w1) :: .ref (a 70) :: rest)) :=
  rwv_go (wsF := (fun u : M2 × L2 => KA Z a rx bp u.1 u.2)) (u0 := (F, L)) (wr := []) (isC := cutKA) (isR := []) (pm := cutKA) (ws' := (fun u : M2 × L2 => KA Z a rx bp u.1 u.2)) (runVR (As := [.ref (rx w1), .int x2]) hC hN hR (c_X3_addKeyword l D Z a rx bp F L H.size w1 x2 K hm) mi_X3_addKeyword hl wq_113 wq_0 hlt hT.1 hT.D' hK (q0 := 0) rfl rfl rfl hsize rfl hW hdg hf) (cutOkKA Z a rx bp F L) hT (fun u H1 locs1 hk hT1 => kk u.1 u.2 H1 locs1 hk hT1)
end KX3_addKeyword
def wp_X3_initT (F : M2) (L : L2) (K : M2 → L2 → Prop) : Prop := wp_X3_addKeyword 33 F L 34 (fun F_69 L_69 => wp_X3_addKeyword 34 F_69 L_69 35 (fun F_77 L_77 => wp_X3_addKeyword 35 F_77 L_77 36 (fun F_85 L_85 => wp_X3_addKeyword 36 F_85 L_85 37 (fun F_93 L_93 => wp_X3_addKeyword 37 F_93 L_93 38 (fun F_101 L_101 => wp_X3_addKeyword 38 F_101 L_101 39 (fun F_109 L_109 => wp_X3_addKeyword 39 F_109 L_109 40 (fun F_117 L_117 => wp_X3_addKeyword 40 F_117 L_117 41 (fun F_125 L_125 => wp_X3_addKeyword 41 F_125 L_125 42 (fun F_133 L_133 => wp_X3_addKeyword 42 F_133 L_133 43 (fun F_141 L_141 => wp_X3_addKeyword 43 F_141 L_141 44 (fun F_149 L_149 => wp_X3_addKeyword 44 F_149 L_149 45 (fun F_157 L_157 => wp_X3_addKeyword 45 F_157 L_157 3 (fun F_164 L_164 => wp_X3_addKeyword 46 F_164 L_164 3 (fun F_171 L_171 => wp_X3_addKeyword 47 F_171 L_171 46 (fun F_179 L_179 => wp_X3_addKeyword 48 F_179 L_179 47 (fun F_187 L_187 => wp_X3_addKeyword 49 F_187 L_187 24 (fun F_195 L_195 => wp_X3_addKeyword 50 F_195 L_195 48 (fun F_203 L_203 => wp_X3_addKeyword 51 F_203 L_203 49 (fun F_211 L_211 => wp_X3_addKeyword 52 F_211 L_211 50 (fun F_219 L_219 => wp_X3_addKeyword 53 F_219 L_219 5 (fun F_226 L_226 => wp_X3_addKeyword 54 F_226 L_226 6 (fun F_234 L_234 => wp_X3_addKeyword 55 F_234 L_234 12 (fun F_242 L_242 => wp_X3_addKeyword 56 F_242 L_242 8 (fun F_250 L_250 => wp_X3_addKeyword 57 F_250 L_250 9 (fun F_258 L_258 => wp_X3_addKeyword 58 F_258 L_258 7 (fun F_266 L_266 => wp_X3_addKeyword 59 F_266 L_266 10 (fun F_274 L_274 => wp_X3_addKeyword 60 F_274 L_274 11 (fun F_282 L_282 => wp_X3_addKeyword 61 F_282 L_282 13 (fun F_290 L_290 => wp_X3_addKeyword 62 F_290 L_290 25 (fun F_298 L_298 => wp_X3_addKeyword 63 F_298 L_298 26 (fun F_306 L_306 => wp_X3_addKeyword 64 F_306 L_306 27 (fun F_314 L_314 => K F_314 L_314))))))))))))))))))))))))))))))))
set_option maxRecDepth 100000 in
set_option maxHeartbeats 4000000 in
theorem t_X3_initT {p : Program} {l : Launch} {e : Env} {s : State} {m : MethodId} {args : Array Value} {below : List Frame} {meth : Method} {c : Code} {Q : State → Prop} {A : Nat → Prop} {D : va_G} {Z : Nat → ClassId} {a rx : Nat → Nat} {bp : Nat} {F : M2} {L : L2} {K : M2 → L2 → Prop} {H : Heap} {locs : List Loc} {ls : Array Slot} (hC : CallFix p m c cX3_init 1 s args lw_g yX3_init.cls) (hN : NW s) (hR : RD rx A s s.heap) (hK : va_K D vwCl (tysG Z) s) (hT : TS vwCl D (KA Z a rx bp F L) A s.heap H locs) (hm : wp_X3_initT F L K) (hret : ∀ (pc : Nat) (ls : Array Slot) (H : Heap) (locs : List Loc) (u : M2 × L2), K u.1 u.2 → TS vwCl D (KA Z a rx bp u.1 u.2) A s.heap H locs → decode cX3_init pc = .ok (.return_, 1) → W p l e (rk 5 6 1283) s m args below meth c H locs 6 1283 Q (F0 m pc ls [])) (hl : lv_has ls 1 [(0, .ref (a 70))]) : W p l e (rk 5 6 1283) s m args below meth c H locs 6 1283 Q (F0 m 64 ls []) := by
  have hx := hC.1
  have hb := hC.2.1
  refine lv_aload_n hx hb dX3_init_64 rfl (lv_at hl 0 rfl) ?_
  refine va_ldcS hx hb hC.2.2.2.1 hR.ldc33 dX3_init_65 ?_
  refine lv_bipush (v := 34) hx hb dX3_init_67 (by decide) ?_
  refine k_X3_addKeyword hC hN (hT.rd hR) hK hT hm wq_111 (by decide) hl.1 (Nat.le_of_ble_eq_true rfl) ⟨Nat.le_refl _, Nat.le_refl _⟩ dX3_init_69 (fun F_69 L_69 H locs hm hT => ?_)
  refine lv_aload_n hx hb dX3_init_72 rfl (lv_at hl 0 rfl) ?_
  refine va_ldcS hx hb hC.2.2.2.1 hR.ldc34 dX3_init_73 ?_
  refine lv_bipush (v := 35) hx hb dX3_init_75 (by decide) ?_
  refine k_X3_addKeyword hC hN (hT.rd hR) hK hT hm wq_111 (by decide) hl.1 (Nat.le_of_ble_eq_true rfl) ⟨Nat.le_refl _, Nat.le_refl _⟩ dX3_init_77 (fun F_77 L_77 H locs hm hT => ?_)
  refine lv_aload_n hx hb dX3_init_80 rfl (lv_at hl 0 rfl) ?_
  refine va_ldcS hx hb hC.2.2.2.1 hR.ldc35 dX3_init_81 ?_
  refine lv_bipush (v := 36) hx hb dX3_init_83 (by decide) ?_
  refine k_X3_addKeyword hC hN (hT.rd hR) hK hT hm wq_111 (by decide) hl.1 (Nat.le_of_ble_eq_true rfl) ⟨Nat.le_refl _, Nat.le_refl _⟩ dX3_init_85 (fun F_85 L_85 H locs hm hT => ?_)
  refine lv_aload_n hx hb dX3_init_88 rfl (lv_at hl 0 rfl) ?_
  refine va_ldcS hx hb hC.2.2.2.1 hR.ldc36 dX3_init_89 ?_
  refine lv_bipush (v := 37) hx hb dX3_init_91 (by decide) ?_
  refine k_X3_addKeyword hC hN (hT.rd hR) hK hT hm wq_111 (by decide) hl.1 (Nat.le_of_ble_eq_true rfl) ⟨Nat.le_refl _, Nat.le_refl _⟩ dX3_init_93 (fun F_93 L_93 H locs hm hT => ?_)
  refine lv_aload_n hx hb dX3_init_96 rfl (lv_at hl 0 rfl) ?_
  refine va_ldcS hx hb hC.2.2.2.1 hR.ldc37 dX3_init_97 ?_
  refine lv_bipush (v := 38) hx hb dX3_init_99 (by decide) ?_
  refine k_X3_addKeyword hC hN (hT.rd hR) hK hT hm wq_111 (by decide) hl.1 (Nat.le_of_ble_eq_true rfl) ⟨Nat.le_refl _, Nat.le_refl _⟩ dX3_init_101 (fun F_101 L_101 H locs hm hT => ?_)
  refine lv_aload_n hx hb dX3_init_104 rfl (lv_at hl 0 rfl) ?_
  refine va_ldcS hx hb hC.2.2.2.1 hR.ldc38 dX3_init_105 ?_
  refine lv_bipush (v := 39) hx hb dX3_init_107 (by decide) ?_
  refine k_X3_addKeyword hC hN (hT.rd hR) hK hT hm wq_111 (by decide) hl.1 (Nat.le_of_ble_eq_true rfl) ⟨Nat.le_refl _, Nat.le_refl _⟩ dX3_init_109 (fun F_109 L_109 H locs hm hT => ?_)
  refine lv_aload_n hx hb dX3_init_112 rfl (lv_at hl 0 rfl) ?_
  refine va_ldcS hx hb hC.2.2.2.1 hR.ldc39 dX3_init_113 ?_
  refine lv_bipush (v := 40) hx hb dX3_init_115 (by decide) ?_
  refine k_X3_addKeyword hC hN (hT.rd hR) hK hT hm wq_111 (by decide) hl.1 (Nat.le_of_ble_eq_true rfl) ⟨Nat.le_refl _, Nat.le_refl _⟩ dX3_init_117 (fun F_117 L_117 H locs hm hT => ?_)
  refine lv_aload_n hx hb dX3_init_120 rfl (lv_at hl 0 rfl) ?_
  refine va_ldcS hx hb hC.2.2.2.1 hR.ldc40 dX3_init_121 ?_
  refine lv_bipush (v := 41) hx hb dX3_init_123 (by decide) ?_
  refine k_X3_addKeyword hC hN (hT.rd hR) hK hT hm wq_111 (by decide) hl.1 (Nat.le_of_ble_eq_true rfl) ⟨Nat.le_refl _, Nat.le_refl _⟩ dX3_init_125 (fun F_125 L_125 H locs hm hT => ?_)
  refine lv_aload_n hx hb dX3_init_128 rfl (lv_at hl 0 rfl) ?_
  refine va_ldcS hx hb hC.2.2.2.1 hR.ldc41 dX3_init_129 ?_
  refine lv_bipush (v := 42) hx hb dX3_init_131 (by decide) ?_
  refine k_X3_addKeyword hC hN (hT.rd hR) hK hT hm wq_111 (by decide) hl.1 (Nat.le_of_ble_eq_true rfl) ⟨Nat.le_refl _, Nat.le_refl _⟩ dX3_init_133 (fun F_133 L_133 H locs hm hT => ?_)
  refine lv_aload_n hx hb dX3_init_136 rfl (lv_at hl 0 rfl) ?_
  refine va_ldcS hx hb hC.2.2.2.1 hR.ldc42 dX3_init_137 ?_
  refine lv_bipush (v := 43) hx hb dX3_init_139 (by decide) ?_
  refine k_X3_addKeyword hC hN (hT.rd hR) hK hT hm wq_111 (by decide) hl.1 (Nat.le_of_ble_eq_true rfl) ⟨Nat.le_refl _, Nat.le_refl _⟩ dX3_init_141 (fun F_141 L_141 H locs hm hT => ?_)
  refine lv_aload_n hx hb dX3_init_144 rfl (lv_at hl 0 rfl) ?_
  refine va_ldcS hx hb hC.2.2.2.1 hR.ldc43 dX3_init_145 ?_
  refine lv_bipush (v := 44) hx hb dX3_init_147 (by decide) ?_
  refine k_X3_addKeyword hC hN (hT.rd hR) hK hT hm wq_111 (by decide) hl.1 (Nat.le_of_ble_eq_true rfl) ⟨Nat.le_refl _, Nat.le_refl _⟩ dX3_init_149 (fun F_149 L_149 H locs hm hT => ?_)
  refine lv_aload_n hx hb dX3_init_152 rfl (lv_at hl 0 rfl) ?_
  refine va_ldcS hx hb hC.2.2.2.1 hR.ldc44 dX3_init_153 ?_
  refine lv_bipush (v := 45) hx hb dX3_init_155 (by decide) ?_
  refine k_X3_addKeyword hC hN (hT.rd hR) hK hT hm wq_111 (by decide) hl.1 (Nat.le_of_ble_eq_true rfl) ⟨Nat.le_refl _, Nat.le_refl _⟩ dX3_init_157 (fun F_157 L_157 H locs hm hT => ?_)
  refine lv_aload_n hx hb dX3_init_160 rfl (lv_at hl 0 rfl) ?_
  refine va_ldcS hx hb hC.2.2.2.1 hR.ldc45 dX3_init_161 ?_
  refine lv_iconst (v := 3) hx hb dX3_init_163 (by decide) ?_
  refine k_X3_addKeyword hC hN (hT.rd hR) hK hT hm wq_111 (by decide) hl.1 (Nat.le_of_ble_eq_true rfl) ⟨Nat.le_refl _, Nat.le_refl _⟩ dX3_init_164 (fun F_164 L_164 H locs hm hT => ?_)
  refine lv_aload_n hx hb dX3_init_167 rfl (lv_at hl 0 rfl) ?_
  refine va_ldcS hx hb hC.2.2.2.1 hR.ldc46 dX3_init_168 ?_
  refine lv_iconst (v := 3) hx hb dX3_init_170 (by decide) ?_
  refine k_X3_addKeyword hC hN (hT.rd hR) hK hT hm wq_111 (by decide) hl.1 (Nat.le_of_ble_eq_true rfl) ⟨Nat.le_refl _, Nat.le_refl _⟩ dX3_init_171 (fun F_171 L_171 H locs hm hT => ?_)
  refine lv_aload_n hx hb dX3_init_174 rfl (lv_at hl 0 rfl) ?_
  refine va_ldcS hx hb hC.2.2.2.1 hR.ldc47 dX3_init_175 ?_
  refine lv_bipush (v := 46) hx hb dX3_init_177 (by decide) ?_
  refine k_X3_addKeyword hC hN (hT.rd hR) hK hT hm wq_111 (by decide) hl.1 (Nat.le_of_ble_eq_true rfl) ⟨Nat.le_refl _, Nat.le_refl _⟩ dX3_init_179 (fun F_179 L_179 H locs hm hT => ?_)
  refine lv_aload_n hx hb dX3_init_182 rfl (lv_at hl 0 rfl) ?_
  refine va_ldcS hx hb hC.2.2.2.1 hR.ldc48 dX3_init_183 ?_
  refine lv_bipush (v := 47) hx hb dX3_init_185 (by decide) ?_
  refine k_X3_addKeyword hC hN (hT.rd hR) hK hT hm wq_111 (by decide) hl.1 (Nat.le_of_ble_eq_true rfl) ⟨Nat.le_refl _, Nat.le_refl _⟩ dX3_init_187 (fun F_187 L_187 H locs hm hT => ?_)
  refine lv_aload_n hx hb dX3_init_190 rfl (lv_at hl 0 rfl) ?_
  refine va_ldcS hx hb hC.2.2.2.1 hR.ldc49 dX3_init_191 ?_
  refine lv_bipush (v := 24) hx hb dX3_init_193 (by decide) ?_
  refine k_X3_addKeyword hC hN (hT.rd hR) hK hT hm wq_111 (by decide) hl.1 (Nat.le_of_ble_eq_true rfl) ⟨Nat.le_refl _, Nat.le_refl _⟩ dX3_init_195 (fun F_195 L_195 H locs hm hT => ?_)
  refine lv_aload_n hx hb dX3_init_198 rfl (lv_at hl 0 rfl) ?_
  refine va_ldcS hx hb hC.2.2.2.1 hR.ldc50 dX3_init_199 ?_
  refine lv_bipush (v := 48) hx hb dX3_init_201 (by decide) ?_
  refine k_X3_addKeyword hC hN (hT.rd hR) hK hT hm wq_111 (by decide) hl.1 (Nat.le_of_ble_eq_true rfl) ⟨Nat.le_refl _, Nat.le_refl _⟩ dX3_init_203 (fun F_203 L_203 H locs hm hT => ?_)
  refine lv_aload_n hx hb dX3_init_206 rfl (lv_at hl 0 rfl) ?_
  refine va_ldcS hx hb hC.2.2.2.1 hR.ldc51 dX3_init_207 ?_
  refine lv_bipush (v := 49) hx hb dX3_init_209 (by decide) ?_
  refine k_X3_addKeyword hC hN (hT.rd hR) hK hT hm wq_111 (by decide) hl.1 (Nat.le_of_ble_eq_true rfl) ⟨Nat.le_refl _, Nat.le_refl _⟩ dX3_init_211 (fun F_211 L_211 H locs hm hT => ?_)
  refine lv_aload_n hx hb dX3_init_214 rfl (lv_at hl 0 rfl) ?_
  refine va_ldcS hx hb hC.2.2.2.1 hR.ldc52 dX3_init_215 ?_
  refine lv_bipush (v := 50) hx hb dX3_init_217 (by decide) ?_
  refine k_X3_addKeyword hC hN (hT.rd hR) hK hT hm wq_111 (by decide) hl.1 (Nat.le_of_ble_eq_true rfl) ⟨Nat.le_refl _, Nat.le_refl _⟩ dX3_init_219 (fun F_219 L_219 H locs hm hT => ?_)
  refine lv_aload_n hx hb dX3_init_222 rfl (lv_at hl 0 rfl) ?_
  refine va_ldcS hx hb hC.2.2.2.1 hR.ldc53 dX3_init_223 ?_
  refine lv_iconst (v := 5) hx hb dX3_init_225 (by decide) ?_
  refine k_X3_addKeyword hC hN (hT.rd hR) hK hT hm wq_111 (by decide) hl.1 (Nat.le_of_ble_eq_true rfl) ⟨Nat.le_refl _, Nat.le_refl _⟩ dX3_init_226 (fun F_226 L_226 H locs hm hT => ?_)
  refine lv_aload_n hx hb dX3_init_229 rfl (lv_at hl 0 rfl) ?_
  refine va_ldcS hx hb hC.2.2.2.1 hR.ldc54 dX3_init_230 ?_
  refine lv_bipush (v := 6) hx hb dX3_init_232 (by decide) ?_
  refine k_X3_addKeyword hC hN (hT.rd hR) hK hT hm wq_111 (by decide) hl.1 (Nat.le_of_ble_eq_true rfl) ⟨Nat.le_refl _, Nat.le_refl _⟩ dX3_init_234 (fun F_234 L_234 H locs hm hT => ?_)
  refine lv_aload_n hx hb dX3_init_237 rfl (lv_at hl 0 rfl) ?_
  refine va_ldcS hx hb hC.2.2.2.1 hR.ldc55 dX3_init_238 ?_
  refine lv_bipush (v := 12) hx hb dX3_init_240 (by decide) ?_
  refine k_X3_addKeyword hC hN (hT.rd hR) hK hT hm wq_111 (by decide) hl.1 (Nat.le_of_ble_eq_true rfl) ⟨Nat.le_refl _, Nat.le_refl _⟩ dX3_init_242 (fun F_242 L_242 H locs hm hT => ?_)
  refine lv_aload_n hx hb dX3_init_245 rfl (lv_at hl 0 rfl) ?_
  refine va_ldcS hx hb hC.2.2.2.1 hR.ldc56 dX3_init_246 ?_
  refine lv_bipush (v := 8) hx hb dX3_init_248 (by decide) ?_
  refine k_X3_addKeyword hC hN (hT.rd hR) hK hT hm wq_111 (by decide) hl.1 (Nat.le_of_ble_eq_true rfl) ⟨Nat.le_refl _, Nat.le_refl _⟩ dX3_init_250 (fun F_250 L_250 H locs hm hT => ?_)
  refine lv_aload_n hx hb dX3_init_253 rfl (lv_at hl 0 rfl) ?_
  refine va_ldcS hx hb hC.2.2.2.1 hR.ldc57 dX3_init_254 ?_
  refine lv_bipush (v := 9) hx hb dX3_init_256 (by decide) ?_
  refine k_X3_addKeyword hC hN (hT.rd hR) hK hT hm wq_111 (by decide) hl.1 (Nat.le_of_ble_eq_true rfl) ⟨Nat.le_refl _, Nat.le_refl _⟩ dX3_init_258 (fun F_258 L_258 H locs hm hT => ?_)
  refine lv_aload_n hx hb dX3_init_261 rfl (lv_at hl 0 rfl) ?_
  refine va_ldcS hx hb hC.2.2.2.1 hR.ldc58 dX3_init_262 ?_
  refine lv_bipush (v := 7) hx hb dX3_init_264 (by decide) ?_
  refine k_X3_addKeyword hC hN (hT.rd hR) hK hT hm wq_111 (by decide) hl.1 (Nat.le_of_ble_eq_true rfl) ⟨Nat.le_refl _, Nat.le_refl _⟩ dX3_init_266 (fun F_266 L_266 H locs hm hT => ?_)
  refine lv_aload_n hx hb dX3_init_269 rfl (lv_at hl 0 rfl) ?_
  refine va_ldcS hx hb hC.2.2.2.1 hR.ldc59 dX3_init_270 ?_
  refine lv_bipush (v := 10) hx hb dX3_init_272 (by decide) ?_
  refine k_X3_addKeyword hC hN (hT.rd hR) hK hT hm wq_111 (by decide) hl.1 (Nat.le_of_ble_eq_true rfl) ⟨Nat.le_refl _, Nat.le_refl _⟩ dX3_init_274 (fun F_274 L_274 H locs hm hT => ?_)
  refine lv_aload_n hx hb dX3_init_277 rfl (lv_at hl 0 rfl) ?_
  refine va_ldcS hx hb hC.2.2.2.1 hR.ldc60 dX3_init_278 ?_
  refine lv_bipush (v := 11) hx hb dX3_init_280 (by decide) ?_
  refine k_X3_addKeyword hC hN (hT.rd hR) hK hT hm wq_111 (by decide) hl.1 (Nat.le_of_ble_eq_true rfl) ⟨Nat.le_refl _, Nat.le_refl _⟩ dX3_init_282 (fun F_282 L_282 H locs hm hT => ?_)
  refine lv_aload_n hx hb dX3_init_285 rfl (lv_at hl 0 rfl) ?_
  refine va_ldcS hx hb hC.2.2.2.1 hR.ldc61 dX3_init_286 ?_
  refine lv_bipush (v := 13) hx hb dX3_init_288 (by decide) ?_
  refine k_X3_addKeyword hC hN (hT.rd hR) hK hT hm wq_111 (by decide) hl.1 (Nat.le_of_ble_eq_true rfl) ⟨Nat.le_refl _, Nat.le_refl _⟩ dX3_init_290 (fun F_290 L_290 H locs hm hT => ?_)
  refine lv_aload_n hx hb dX3_init_293 rfl (lv_at hl 0 rfl) ?_
  refine va_ldcS hx hb hC.2.2.2.1 hR.ldc62 dX3_init_294 ?_
  refine lv_bipush (v := 25) hx hb dX3_init_296 (by decide) ?_
  refine k_X3_addKeyword hC hN (hT.rd hR) hK hT hm wq_111 (by decide) hl.1 (Nat.le_of_ble_eq_true rfl) ⟨Nat.le_refl _, Nat.le_refl _⟩ dX3_init_298 (fun F_298 L_298 H locs hm hT => ?_)
  refine lv_aload_n hx hb dX3_init_301 rfl (lv_at hl 0 rfl) ?_
  refine va_ldcS hx hb hC.2.2.2.1 hR.ldc63 dX3_init_302 ?_
  refine lv_bipush (v := 26) hx hb dX3_init_304 (by decide) ?_
  refine k_X3_addKeyword hC hN (hT.rd hR) hK hT hm wq_111 (by decide) hl.1 (Nat.le_of_ble_eq_true rfl) ⟨Nat.le_refl _, Nat.le_refl _⟩ dX3_init_306 (fun F_306 L_306 H locs hm hT => ?_)
  refine lv_aload_n hx hb dX3_init_309 rfl (lv_at hl 0 rfl) ?_
  refine va_ldcS hx hb hC.2.2.2.1 hR.ldc64 dX3_init_310 ?_
  refine lv_bipush (v := 27) hx hb dX3_init_312 (by decide) ?_
  refine k_X3_addKeyword hC hN (hT.rd hR) hK hT hm wq_111 (by decide) hl.1 (Nat.le_of_ble_eq_true rfl) ⟨Nat.le_refl _, Nat.le_refl _⟩ dX3_init_314 (fun F_314 L_314 H locs hm hT => ?_)
  exact hret 317 _ _ _ (F_314, L_314) hm hT dX3_init_317
def iw_X3_init (Z : Nat → ClassId) (rx : Nat → Nat) (h0 : Nat) : Option ((Nat → Nat) × Nat × M2 × L2) → va_W
  | none => [(h0, .inr (3, [.null, .null, .int 0, .null, .null, .null, .null, .int 0]))]
  | some u => KA Z u.1 rx u.2.1 u.2.2.1 u.2.2.2
set_option maxRecDepth 100000 in
set_option maxHeartbeats 4000000 in
theorem c_X3_init (l : Launch) (D : va_G) (Z : Nat → ClassId) (rx : Nat → Nat) (sz h0 : Nat) (K : M2 → L2 → Prop) (hm : wp_X3_initT zM zL K) : Met l yX3_init (wy yX3_init cX3_init 1 none) (rk 5 6 1283) (preR vwCl D Z rx (iw_X3_init Z rx h0 none) sz [.ref h0]) (poV vwCl D Z (iw_X3_init Z rx h0) none sz (fun u => ∃ a bp F L, u = some (a, bp, F, L) ∧ a 70 = h0 ∧ K F L)) 6 1283 (va_A (iw_X3_init Z rx h0 none) sz) := by
  refine rwv_ofR (wsF := iw_X3_init Z rx h0) (u0 := none) (by decide +kernel) (Nat.le_of_ble_eq_true rfl) rfl ?_
  intro p e s m args below meth c Q A hC hN hR hsz hnm hT hK hret ls hl
  have hx := hC.1
  have hb := hC.2.1
  have hl : lv_has ls 1 [(0, .ref h0)] := hl
  have hT : TS vwCl D [(h0, .inr (3, [.null, .null, .int 0, .null, .null, .null, .null, .int 0]))] A s.heap s.heap [] := hT
  refine lv_aload_n hx hb dX3_init_0 rfl (lv_at hl 0 rfl) ?_
  refine w_objInit hC wq_109 wq_96 wq_97 hl.1 (by decide) (Nat.le_of_ble_eq_true rfl) dX3_init_1 ?_
  refine lv_aload_n hx hb dX3_init_4 rfl (lv_at hl 0 rfl) ?_
  refine lv_bipush (v := 40) hx hb dX3_init_5 (by decide) ?_
  refine w_newJ (N := 40) hC hK hT wq_239 (by decide) (by decide) (by decide) (Nat.le_of_ble_eq_true rfl) (Nat.le_of_ble_eq_true rfl) dX3_init_7 (fun q7 H hT => ?_)
  refine W.widen (k := 1) (n := 40) (Nat.le_of_ble_eq_true rfl) (Nat.le_of_ble_eq_true rfl) ?_
  have hT : TS vwCl D [(h0, .inr (3, [.null, .null, .int 0, .null, .null, .null, .null, .int 0])), (q7, .inl (Z 1, 40, .inr (.inl (fun _ => 0))))] A s.heap H [] := hT
  refine w_putF (C := RX3) (T := TX3) (N := 8) (ci := 3) (q0 := 0) (k := 0) (ty0 := tyX3) (ty := .array .long) (ws' := [(h0, .inr (3, [.ref q7, .null, .int 0, .null, .null, .null, .null, .int 0])), (q7, .inl (Z 1, 40, .inr (.inl (fun _ => 0))))]) hC hK hnm hT fi_X3 tyX3_ok nmX3 rfl rfl (by decide) rfl rfl rfl rfl rfl rfl (Nat.le_of_ble_eq_true rfl) rfl wq_210 dX3_init_9 (fun H locs hT => ?_)
  refine lv_aload_n hx hb dX3_init_12 rfl (lv_at hl 0 rfl) ?_
  refine lv_bipush (v := 40) hx hb dX3_init_13 (by decide) ?_
  refine w_newI (N := 40) hC hK hT wq_240 (by decide) (by decide) (by decide) (Nat.le_of_ble_eq_true rfl) (Nat.le_of_ble_eq_true rfl) dX3_init_15 (fun q15 H hT => ?_)
  refine W.widen (k := 2) (n := 80) (Nat.le_of_ble_eq_true rfl) (Nat.le_of_ble_eq_true rfl) ?_
  have hT : TS vwCl D [(h0, .inr (3, [.ref q7, .null, .int 0, .null, .null, .null, .null, .int 0])), (q7, .inl (Z 1, 40, .inr (.inl (fun _ => 0)))), (q15, .inl (Z 0, 40, .inl (fun _ => 0)))] A s.heap H locs := hT
  refine w_putF (C := RX3) (T := TX3) (N := 8) (ci := 3) (q0 := 0) (k := 1) (ty0 := tyX3) (ty := .array .int) (ws' := [(h0, .inr (3, [.ref q7, .ref q15, .int 0, .null, .null, .null, .null, .int 0])), (q7, .inl (Z 1, 40, .inr (.inl (fun _ => 0)))), (q15, .inl (Z 0, 40, .inl (fun _ => 0)))]) hC hK hnm hT fi_X3 tyX3_ok nmX3 rfl rfl (by decide) rfl rfl rfl rfl rfl rfl (Nat.le_of_ble_eq_true rfl) rfl wq_211 dX3_init_17 (fun H locs hT => ?_)
  refine lv_aload_n hx hb dX3_init_20 rfl (lv_at hl 0 rfl) ?_
  refine lv_iconst (v := 0) hx hb dX3_init_21 (by decide) ?_
  refine w_put (C := RX3) (T := TX3) (N := 8) (ci := 3) (q0 := 0) (k := 2) (ty0 := tyX3) (ty := .int) (ws' := [(h0, .inr (3, [.ref q7, .ref q15, .int 0, .null, .null, .null, .null, .int 0])), (q7, .inl (Z 1, 40, .inr (.inl (fun _ => 0)))), (q15, .inl (Z 0, 40, .inl (fun _ => 0)))]) hC hK hT fi_X3 tyX3_ok nmX3 rfl rfl (by decide) rfl rfl rfl rfl rfl (Nat.le_of_ble_eq_true rfl) rfl wq_212 dX3_init_22 (fun H locs hT => ?_)
  refine lv_aload_n hx hb dX3_init_25 rfl (lv_at hl 0 rfl) ?_
  refine lv_sipush (v := 401) hx hb dX3_init_26 (by decide) ?_
  refine w_newI (N := 401) hC hK hT wq_240 (by decide) (by decide) (by decide) (Nat.le_of_ble_eq_true rfl) (Nat.le_of_ble_eq_true rfl) dX3_init_29 (fun q29 H hT => ?_)
  refine W.widen (k := 3) (n := 481) (Nat.le_of_ble_eq_true rfl) (Nat.le_of_ble_eq_true rfl) ?_
  have hT : TS vwCl D [(h0, .inr (3, [.ref q7, .ref q15, .int 0, .null, .null, .null, .null, .int 0])), (q7, .inl (Z 1, 40, .inr (.inl (fun _ => 0)))), (q15, .inl (Z 0, 40, .inl (fun _ => 0))), (q29, .inl (Z 0, 401, .inl (fun _ => 0)))] A s.heap H locs := hT
  refine w_putF (C := RX3) (T := TX3) (N := 8) (ci := 3) (q0 := 0) (k := 3) (ty0 := tyX3) (ty := .array .int) (ws' := [(h0, .inr (3, [.ref q7, .ref q15, .int 0, .ref q29, .null, .null, .null, .int 0])), (q7, .inl (Z 1, 40, .inr (.inl (fun _ => 0)))), (q15, .inl (Z 0, 40, .inl (fun _ => 0))), (q29, .inl (Z 0, 401, .inl (fun _ => 0)))]) hC hK hnm hT fi_X3 tyX3_ok nmX3 rfl rfl (by decide) rfl rfl rfl rfl rfl rfl (Nat.le_of_ble_eq_true rfl) rfl wq_213 dX3_init_31 (fun H locs hT => ?_)
  refine lv_aload_n hx hb dX3_init_34 rfl (lv_at hl 0 rfl) ?_
  refine lv_sipush (v := 401) hx hb dX3_init_35 (by decide) ?_
  refine w_newI (N := 401) hC hK hT wq_240 (by decide) (by decide) (by decide) (Nat.le_of_ble_eq_true rfl) (Nat.le_of_ble_eq_true rfl) dX3_init_38 (fun q38 H hT => ?_)
  refine W.widen (k := 4) (n := 882) (Nat.le_of_ble_eq_true rfl) (Nat.le_of_ble_eq_true rfl) ?_
  have hT : TS vwCl D [(h0, .inr (3, [.ref q7, .ref q15, .int 0, .ref q29, .null, .null, .null, .int 0])), (q7, .inl (Z 1, 40, .inr (.inl (fun _ => 0)))), (q15, .inl (Z 0, 40, .inl (fun _ => 0))), (q29, .inl (Z 0, 401, .inl (fun _ => 0))), (q38, .inl (Z 0, 401, .inl (fun _ => 0)))] A s.heap H locs := hT
  refine w_putF (C := RX3) (T := TX3) (N := 8) (ci := 3) (q0 := 0) (k := 4) (ty0 := tyX3) (ty := .array .int) (ws' := [(h0, .inr (3, [.ref q7, .ref q15, .int 0, .ref q29, .ref q38, .null, .null, .int 0])), (q7, .inl (Z 1, 40, .inr (.inl (fun _ => 0)))), (q15, .inl (Z 0, 40, .inl (fun _ => 0))), (q29, .inl (Z 0, 401, .inl (fun _ => 0))), (q38, .inl (Z 0, 401, .inl (fun _ => 0)))]) hC hK hnm hT fi_X3 tyX3_ok nmX3 rfl rfl (by decide) rfl rfl rfl rfl rfl rfl (Nat.le_of_ble_eq_true rfl) rfl wq_215 dX3_init_40 (fun H locs hT => ?_)
  refine lv_aload_n hx hb dX3_init_43 rfl (lv_at hl 0 rfl) ?_
  refine lv_sipush (v := 401) hx hb dX3_init_44 (by decide) ?_
  refine w_newJ (N := 401) hC hK hT wq_239 (by decide) (by decide) (by decide) (Nat.le_of_ble_eq_true rfl) (Nat.le_of_ble_eq_true rfl) dX3_init_47 (fun q47 H hT => ?_)
  refine W.widen (k := 5) (n := 1283) (Nat.le_of_ble_eq_true rfl) (Nat.le_of_ble_eq_true rfl) ?_
  have hT : TS vwCl D [(h0, .inr (3, [.ref q7, .ref q15, .int 0, .ref q29, .ref q38, .null, .null, .int 0])), (q7, .inl (Z 1, 40, .inr (.inl (fun _ => 0)))), (q15, .inl (Z 0, 40, .inl (fun _ => 0))), (q29, .inl (Z 0, 401, .inl (fun _ => 0))), (q38, .inl (Z 0, 401, .inl (fun _ => 0))), (q47, .inl (Z 1, 401, .inr (.inl (fun _ => 0))))] A s.heap H locs := hT
  refine w_putF (C := RX3) (T := TX3) (N := 8) (ci := 3) (q0 := 0) (k := 5) (ty0 := tyX3) (ty := .array .long) (ws' := [(h0, .inr (3, [.ref q7, .ref q15, .int 0, .ref q29, .ref q38, .ref q47, .null, .int 0])), (q7, .inl (Z 1, 40, .inr (.inl (fun _ => 0)))), (q15, .inl (Z 0, 40, .inl (fun _ => 0))), (q29, .inl (Z 0, 401, .inl (fun _ => 0))), (q38, .inl (Z 0, 401, .inl (fun _ => 0))), (q47, .inl (Z 1, 401, .inr (.inl (fun _ => 0))))]) hC hK hnm hT fi_X3 tyX3_ok nmX3 rfl rfl (by decide) rfl rfl rfl rfl rfl rfl (Nat.le_of_ble_eq_true rfl) rfl wq_217 dX3_init_49 (fun H locs hT => ?_)
  refine lv_aload_n hx hb dX3_init_52 rfl (lv_at hl 0 rfl) ?_
  refine lv_iconst (v := 0) hx hb dX3_init_53 (by decide) ?_
  refine w_newB (N := 0) hC hK hT wq_238 (by decide) (by decide) (by decide) (Nat.le_of_ble_eq_true rfl) (Nat.le_of_ble_eq_true rfl) dX3_init_54 (fun q54 H hT => ?_)
  refine W.widen (k := 6) (n := 1283) (Nat.le_of_ble_eq_true rfl) (Nat.le_of_ble_eq_true rfl) ?_
  have hT : TS vwCl D [(h0, .inr (3, [.ref q7, .ref q15, .int 0, .ref q29, .ref q38, .ref q47, .null, .int 0])), (q7, .inl (Z 1, 40, .inr (.inl (fun _ => 0)))), (q15, .inl (Z 0, 40, .inl (fun _ => 0))), (q29, .inl (Z 0, 401, .inl (fun _ => 0))), (q38, .inl (Z 0, 401, .inl (fun _ => 0))), (q47, .inl (Z 1, 401, .inr (.inl (fun _ => 0)))), (q54, .inl (Z 2, 0, .inl (fun _ => 0)))] A s.heap H locs := hT
  refine w_put (C := RX3) (T := TX3) (N := 8) (ci := 3) (q0 := 0) (k := 6) (ty0 := tyX3) (ty := .array .byte) (ws' := [(h0, .inr (3, [.ref q7, .ref q15, .int 0, .ref q29, .ref q38, .ref q47, .ref q54, .int 0])), (q7, .inl (Z 1, 40, .inr (.inl (fun _ => 0)))), (q15, .inl (Z 0, 40, .inl (fun _ => 0))), (q29, .inl (Z 0, 401, .inl (fun _ => 0))), (q38, .inl (Z 0, 401, .inl (fun _ => 0))), (q47, .inl (Z 1, 401, .inr (.inl (fun _ => 0)))), (q54, .inl (Z 2, 0, .inl (fun _ => 0)))]) hC hK hT fi_X3 tyX3_ok nmX3 rfl rfl (by decide) rfl rfl rfl rfl rfl (Nat.le_of_ble_eq_true rfl) rfl wq_219 dX3_init_56 (fun H locs hT => ?_)
  refine lv_aload_n hx hb dX3_init_59 rfl (lv_at hl 0 rfl) ?_
  refine lv_iconst (v := 0) hx hb dX3_init_60 (by decide) ?_
  refine w_put (C := RX3) (T := TX3) (N := 8) (ci := 3) (q0 := 0) (k := 7) (ty0 := tyX3) (ty := .int) (ws' := [(h0, .inr (3, [.ref q7, .ref q15, .int 0, .ref q29, .ref q38, .ref q47, .ref q54, .int 0])), (q7, .inl (Z 1, 40, .inr (.inl (fun _ => 0)))), (q15, .inl (Z 0, 40, .inl (fun _ => 0))), (q29, .inl (Z 0, 401, .inl (fun _ => 0))), (q38, .inl (Z 0, 401, .inl (fun _ => 0))), (q47, .inl (Z 1, 401, .inr (.inl (fun _ => 0)))), (q54, .inl (Z 2, 0, .inl (fun _ => 0)))]) hC hK hT fi_X3 tyX3_ok nmX3 rfl rfl (by decide) rfl rfl rfl rfl rfl (Nat.le_of_ble_eq_true rfl) rfl wq_220 dX3_init_61 (fun H locs hT => ?_)
  have hT := hT.pick (ws' := KA Z (asc [(70, h0), (71, q7), (72, q15), (74, q29), (75, q38), (76, q47)]) rx q54 zM zL) [0, 1, 2, 3, 4, 5] (by decide) rfl
  exact t_X3_initT hC hN hR hK hT hm (fun pc ls H locs u hk hT hd => hret pc ls H locs (some (asc [(70, h0), (71, q7), (72, q15), (74, q29), (75, q38), (76, q47)], q54, u.1, u.2)) ⟨_, _, _, _, rfl, rfl, hk⟩ hT hd) hl
