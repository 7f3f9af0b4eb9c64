theorem wq_887 : Cond.methodLink RX6 95 yX6_those ∈ lw_g := lw_g_mk (tb_4 (List.mem_of_getElem? (i := 103) rfl)) rfl
theorem wq_886 : Cond.code yX6_counts cX6_counts 6 (some (.array .int)) ∈ lw_g := lw_g_mk (tb_4 (List.mem_of_getElem? (i := 102) rfl)) rfl
theorem wq_888 : Cond.instanceMethod yX6_those ∈ lw_g := lw_g_mk (tb_4 (List.mem_of_getElem? (i := 104) rfl)) rfl
theorem wq_889 : Cond.selects RX6 yX6_those yX6_those ∈ lw_g := lw_g_mk (tb_4 (List.mem_of_getElem? (i := 105) rfl)) rfl
section ROWSSM3
variable {p : Program} {l : Launch} {e : Env} {s : State} {m : MethodId} {args : Array Value} {below : List Frame} {meth : Method} {c : Code} {H H0 : Heap} {locs : List Loc} {cells slots : Nat} {Q : State → Prop} {R : Room} {rn mcR msR : Nat}
variable {pc : Nat} {ls : Array Slot} {rest : List Value} {A : Nat → Prop} {D : va_G}
variable {cc : ByteArray} {nL index : Nat} {own host : String}
end ROWSSM3
section LX6_those0
variable {p : Program} {l : Launch} {e : Env} {s : State} {m : MethodId} {args : Array Value} {below : List Frame} {meth : Method} {c : Code} {H H0 : Heap} {locs : List Loc} {cells slots : Nat} {Q : State → Prop} {R : Room} {rn mcR msR : Nat}
variable {pc : Nat} {ls : Array Slot} {rest : List Value} {A : Nat → Prop} {D : va_G}
variable {cc : ByteArray} {nL index : Nat} {own host : String}
theorem k_X6_those {Z : Nat → ClassId} {sa : Nat} {o : Nat → Nat} {ro : Nat → Nat → Nat} {nn : Nat → Nat} {V S O : M2} {N : M2} {U : M2} {L : M2} {B : M2} {x1 : Int32} {K : Int32 → Prop} (hC : CallFix p m c cc nL s args lw_g own) (hN : NW s) (hK : va_K D vwCl (tysG Z) s) (hP : va_P D vwCl (SM Z sa o ro nn V S O N U L B) H) (hD : va_D (fun _ => True) (SM Z sa o ro nn V S O N U L B)) (hm : wp_X6_those nn V S O N U L B x1 K) (hl : Cond.methodLink own index yX6_those ∈ lw_g) (hlt : 1 < rn) (hsize : ls.size = nL) (hW : (rest.map fun v => v.category).sum ≤ 8) (hf : cells + 0 ≤ mcR ∧ slots + 0 ≤ msR) (hdg : decode cc pc = .ok (.invokevirtual index, 3)) (kk : ∀ r : Int32, K r → W p l e (rk rn mcR msR) s m args below meth c H locs cells slots Q (F0 m (pc + 3) ls (.int r :: rest))) : W p l e (rk rn mcR msR) s m args below meth c H locs cells slots Q (F0 m pc ls (.int x1 :: .ref (sa) :: rest)) :=
  ro_go (runV (As := [.int x1]) hC hN (c_X6_those l D Z sa o ro nn V S O N U L B H.size x1 K hm) mi_X6_those hl wq_888 wq_889 hlt hP hD hK (q0 := 0) rfl rfl rfl hsize rfl hW hdg hf) kk
end LX6_those0
theorem RT_g : RG (fun (_ : Nat → Prop) (_ : State) (_ : Heap) => True) := ⟨fun _ _ _ _ h _ => h, fun _ _ _ _ h _ => h, fun _ _ _ _ _ h => h, fun _ _ _ _ _ h => h⟩
def ctW (Z : Nat → ClassId) (sa : Nat) (o : Nat → Nat) (ro : Nat → Nat → Nat) (nn : Nat → Nat) (V S O N U L B : M2) : Option (Nat × (Nat → Int32)) → va_W
  | none => SM Z sa o ro nn V S O N U L B
  | some u => [(u.1, .inl (Z 0, 14, .inl u.2))] ++ SM Z sa o ro nn V S O N U L B
theorem dX6_counts_0 : decode cX6_counts 0 = .ok (.bipush 14, 2) := by decide +kernel
theorem dX6_counts_2 : decode cX6_counts 2 = .ok (.newarray .int, 2) := by decide +kernel
theorem dX6_counts_4 : decode cX6_counts 4 = .ok (.dup, 1) := by decide +kernel
theorem dX6_counts_5 : decode cX6_counts 5 = .ok (.iconst 0, 1) := by decide +kernel
theorem dX6_counts_6 : decode cX6_counts 6 = .ok (.aload_n 0, 1) := by decide +kernel
theorem dX6_counts_7 : decode cX6_counts 7 = .ok (.getfield 34, 3) := by decide +kernel
theorem dX6_counts_10 : decode cX6_counts 10 = .ok (.iastore, 1) := by decide +kernel
theorem dX6_counts_11 : decode cX6_counts 11 = .ok (.dup, 1) := by decide +kernel
theorem dX6_counts_12 : decode cX6_counts 12 = .ok (.iconst 1, 1) := by decide +kernel
theorem dX6_counts_13 : decode cX6_counts 13 = .ok (.aload_n 0, 1) := by decide +kernel
theorem dX6_counts_14 : decode cX6_counts 14 = .ok (.getfield 44, 3) := by decide +kernel
theorem dX6_counts_17 : decode cX6_counts 17 = .ok (.iastore, 1) := by decide +kernel
theorem dX6_counts_18 : decode cX6_counts 18 = .ok (.dup, 1) := by decide +kernel
theorem dX6_counts_19 : decode cX6_counts 19 = .ok (.iconst 2, 1) := by decide +kernel
theorem dX6_counts_20 : decode cX6_counts 20 = .ok (.aload_n 0, 1) := by decide +kernel
theorem dX6_counts_21 : decode cX6_counts 21 = .ok (.getfield 9, 3) := by decide +kernel
theorem dX6_counts_24 : decode cX6_counts 24 = .ok (.arraylength, 1) := by decide +kernel
theorem dX6_counts_25 : decode cX6_counts 25 = .ok (.iastore, 1) := by decide +kernel
theorem dX6_counts_26 : decode cX6_counts 26 = .ok (.dup, 1) := by decide +kernel
theorem dX6_counts_27 : decode cX6_counts 27 = .ok (.iconst 3, 1) := by decide +kernel
theorem dX6_counts_28 : decode cX6_counts 28 = .ok (.aload_n 0, 1) := by decide +kernel
theorem dX6_counts_29 : decode cX6_counts 29 = .ok (.getfield 15, 3) := by decide +kernel
theorem dX6_counts_32 : decode cX6_counts 32 = .ok (.arraylength, 1) := by decide +kernel
theorem dX6_counts_33 : decode cX6_counts 33 = .ok (.iastore, 1) := by decide +kernel
theorem dX6_counts_34 : decode cX6_counts 34 = .ok (.dup, 1) := by decide +kernel
theorem dX6_counts_35 : decode cX6_counts 35 = .ok (.iconst 4, 1) := by decide +kernel
theorem dX6_counts_36 : decode cX6_counts 36 = .ok (.aload_n 0, 1) := by decide +kernel
theorem dX6_counts_37 : decode cX6_counts 37 = .ok (.getfield 18, 3) := by decide +kernel
theorem dX6_counts_40 : decode cX6_counts 40 = .ok (.arraylength, 1) := by decide +kernel
theorem dX6_counts_41 : decode cX6_counts 41 = .ok (.iastore, 1) := by decide +kernel
theorem dX6_counts_42 : decode cX6_counts 42 = .ok (.dup, 1) := by decide +kernel
theorem dX6_counts_43 : decode cX6_counts 43 = .ok (.iconst 5, 1) := by decide +kernel
theorem dX6_counts_44 : decode cX6_counts 44 = .ok (.aload_n 0, 1) := by decide +kernel
theorem dX6_counts_45 : decode cX6_counts 45 = .ok (.getfield 21, 3) := by decide +kernel
theorem dX6_counts_48 : decode cX6_counts 48 = .ok (.arraylength, 1) := by decide +kernel
theorem dX6_counts_49 : decode cX6_counts 49 = .ok (.iastore, 1) := by decide +kernel
theorem dX6_counts_50 : decode cX6_counts 50 = .ok (.dup, 1) := by decide +kernel
theorem dX6_counts_51 : decode cX6_counts 51 = .ok (.bipush 6, 2) := by decide +kernel
theorem dX6_counts_53 : decode cX6_counts 53 = .ok (.aload_n 0, 1) := by decide +kernel
theorem dX6_counts_54 : decode cX6_counts 54 = .ok (.getfield 24, 3) := by decide +kernel
theorem dX6_counts_57 : decode cX6_counts 57 = .ok (.arraylength, 1) := by decide +kernel
theorem dX6_counts_58 : decode cX6_counts 58 = .ok (.iastore, 1) := by decide +kernel
theorem dX6_counts_59 : decode cX6_counts 59 = .ok (.dup, 1) := by decide +kernel
theorem dX6_counts_60 : decode cX6_counts 60 = .ok (.bipush 7, 2) := by decide +kernel
theorem dX6_counts_62 : decode cX6_counts 62 = .ok (.aload_n 0, 1) := by decide +kernel
theorem dX6_counts_63 : decode cX6_counts 63 = .ok (.getfield 27, 3) := by decide +kernel
theorem dX6_counts_66 : decode cX6_counts 66 = .ok (.arraylength, 1) := by decide +kernel
theorem dX6_counts_67 : decode cX6_counts 67 = .ok (.iastore, 1) := by decide +kernel
theorem dX6_counts_68 : decode cX6_counts 68 = .ok (.dup, 1) := by decide +kernel
theorem dX6_counts_69 : decode cX6_counts 69 = .ok (.bipush 8, 2) := by decide +kernel
theorem dX6_counts_71 : decode cX6_counts 71 = .ok (.aload_n 0, 1) := by decide +kernel
theorem dX6_counts_72 : decode cX6_counts 72 = .ok (.iconst 0, 1) := by decide +kernel
theorem dX6_counts_73 : decode cX6_counts 73 = .ok (.invokevirtual 95, 3) := by decide +kernel
theorem dX6_counts_76 : decode cX6_counts 76 = .ok (.iastore, 1) := by decide +kernel
theorem dX6_counts_77 : decode cX6_counts 77 = .ok (.dup, 1) := by decide +kernel
theorem dX6_counts_78 : decode cX6_counts 78 = .ok (.bipush 9, 2) := by decide +kernel
theorem dX6_counts_80 : decode cX6_counts 80 = .ok (.aload_n 0, 1) := by decide +kernel
theorem dX6_counts_81 : decode cX6_counts 81 = .ok (.iconst 1, 1) := by decide +kernel
theorem dX6_counts_82 : decode cX6_counts 82 = .ok (.invokevirtual 95, 3) := by decide +kernel
theorem dX6_counts_85 : decode cX6_counts 85 = .ok (.iastore, 1) := by decide +kernel
theorem dX6_counts_86 : decode cX6_counts 86 = .ok (.dup, 1) := by decide +kernel
theorem dX6_counts_87 : decode cX6_counts 87 = .ok (.bipush 10, 2) := by decide +kernel
theorem dX6_counts_89 : decode cX6_counts 89 = .ok (.aload_n 0, 1) := by decide +kernel
theorem dX6_counts_90 : decode cX6_counts 90 = .ok (.iconst 2, 1) := by decide +kernel
theorem dX6_counts_91 : decode cX6_counts 91 = .ok (.invokevirtual 95, 3) := by decide +kernel
theorem dX6_counts_94 : decode cX6_counts 94 = .ok (.iastore, 1) := by decide +kernel
theorem dX6_counts_95 : decode cX6_counts 95 = .ok (.dup, 1) := by decide +kernel
theorem dX6_counts_96 : decode cX6_counts 96 = .ok (.bipush 11, 2) := by decide +kernel
theorem dX6_counts_98 : decode cX6_counts 98 = .ok (.iconst 0, 1) := by decide +kernel
theorem dX6_counts_99 : decode cX6_counts 99 = .ok (.iastore, 1) := by decide +kernel
theorem dX6_counts_100 : decode cX6_counts 100 = .ok (.dup, 1) := by decide +kernel
theorem dX6_counts_101 : decode cX6_counts 101 = .ok (.bipush 12, 2) := by decide +kernel
theorem dX6_counts_103 : decode cX6_counts 103 = .ok (.iconst 0, 1) := by decide +kernel
theorem dX6_counts_104 : decode cX6_counts 104 = .ok (.iastore, 1) := by decide +kernel
theorem dX6_counts_105 : decode cX6_counts 105 = .ok (.dup, 1) := by decide +kernel
theorem dX6_counts_106 : decode cX6_counts 106 = .ok (.bipush 13, 2) := by decide +kernel
theorem dX6_counts_108 : decode cX6_counts 108 = .ok (.iconst 0, 1) := by decide +kernel
theorem dX6_counts_109 : decode cX6_counts 109 = .ok (.iastore, 1) := by decide +kernel
theorem dX6_counts_110 : decode cX6_counts 110 = .ok (.astore_n 1, 1) := by decide +kernel
theorem dX6_counts_111 : decode cX6_counts 111 = .ok (.aload_n 0, 1) := by decide +kernel
theorem dX6_counts_112 : decode cX6_counts 112 = .ok (.getfield 15, 3) := by decide +kernel
theorem dX6_counts_115 : decode cX6_counts 115 = .ok (.astore_n 2, 1) := by decide +kernel
theorem dX6_counts_116 : decode cX6_counts 116 = .ok (.aload_n 2, 1) := by decide +kernel
theorem dX6_counts_117 : decode cX6_counts 117 = .ok (.arraylength, 1) := by decide +kernel
theorem dX6_counts_118 : decode cX6_counts 118 = .ok (.istore_n 3, 1) := by decide +kernel
theorem dX6_counts_119 : decode cX6_counts 119 = .ok (.iconst 0, 1) := by decide +kernel
theorem dX6_counts_120 : decode cX6_counts 120 = .ok (.istore 4, 2) := by decide +kernel
theorem dX6_counts_122 : decode cX6_counts 122 = .ok (.iload 4, 2) := by decide +kernel
theorem dX6_counts_124 : decode cX6_counts 124 = .ok (.iload_n 3, 1) := by decide +kernel
theorem dX6_counts_125 : decode cX6_counts 125 = .ok (.if_icmp .ge 26, 3) := by decide +kernel
theorem dX6_counts_128 : decode cX6_counts 128 = .ok (.aload_n 2, 1) := by decide +kernel
theorem dX6_counts_129 : decode cX6_counts 129 = .ok (.iload 4, 2) := by decide +kernel
theorem dX6_counts_131 : decode cX6_counts 131 = .ok (.aaload, 1) := by decide +kernel
theorem dX6_counts_132 : decode cX6_counts 132 = .ok (.astore 5, 2) := by decide +kernel
theorem dX6_counts_134 : decode cX6_counts 134 = .ok (.aload_n 1, 1) := by decide +kernel
theorem dX6_counts_135 : decode cX6_counts 135 = .ok (.bipush 11, 2) := by decide +kernel
theorem dX6_counts_137 : decode cX6_counts 137 = .ok (.dup2, 1) := by decide +kernel
theorem dX6_counts_138 : decode cX6_counts 138 = .ok (.iaload, 1) := by decide +kernel
theorem dX6_counts_139 : decode cX6_counts 139 = .ok (.aload 5, 2) := by decide +kernel
theorem dX6_counts_141 : decode cX6_counts 141 = .ok (.iconst 1, 1) := by decide +kernel
theorem dX6_counts_142 : decode cX6_counts 142 = .ok (.iaload, 1) := by decide +kernel
theorem dX6_counts_143 : decode cX6_counts 143 = .ok (.iadd, 1) := by decide +kernel
theorem dX6_counts_144 : decode cX6_counts 144 = .ok (.iastore, 1) := by decide +kernel
theorem dX6_counts_145 : decode cX6_counts 145 = .ok (.iinc 4 1, 3) := by decide +kernel
theorem dX6_counts_148 : decode cX6_counts 148 = .ok (.goto (-26), 3) := by decide +kernel
theorem dX6_counts_151 : decode cX6_counts 151 = .ok (.aload_n 0, 1) := by decide +kernel
theorem dX6_counts_152 : decode cX6_counts 152 = .ok (.getfield 21, 3) := by decide +kernel
theorem dX6_counts_155 : decode cX6_counts 155 = .ok (.astore_n 2, 1) := by decide +kernel
theorem dX6_counts_156 : decode cX6_counts 156 = .ok (.aload_n 2, 1) := by decide +kernel
theorem dX6_counts_157 : decode cX6_counts 157 = .ok (.arraylength, 1) := by decide +kernel
theorem dX6_counts_158 : decode cX6_counts 158 = .ok (.istore_n 3, 1) := by decide +kernel
theorem dX6_counts_159 : decode cX6_counts 159 = .ok (.iconst 0, 1) := by decide +kernel
theorem dX6_counts_160 : decode cX6_counts 160 = .ok (.istore 4, 2) := by decide +kernel
theorem dX6_counts_162 : decode cX6_counts 162 = .ok (.iload 4, 2) := by decide +kernel
theorem dX6_counts_164 : decode cX6_counts 164 = .ok (.iload_n 3, 1) := by decide +kernel
theorem dX6_counts_165 : decode cX6_counts 165 = .ok (.if_icmp .ge 34, 3) := by decide +kernel
theorem dX6_counts_168 : decode cX6_counts 168 = .ok (.aload_n 2, 1) := by decide +kernel
theorem dX6_counts_169 : decode cX6_counts 169 = .ok (.iload 4, 2) := by decide +kernel
theorem dX6_counts_171 : decode cX6_counts 171 = .ok (.aaload, 1) := by decide +kernel
theorem dX6_counts_172 : decode cX6_counts 172 = .ok (.astore 5, 2) := by decide +kernel
theorem dX6_counts_174 : decode cX6_counts 174 = .ok (.aload_n 1, 1) := by decide +kernel
theorem dX6_counts_175 : decode cX6_counts 175 = .ok (.bipush 12, 2) := by decide +kernel
theorem dX6_counts_177 : decode cX6_counts 177 = .ok (.dup2, 1) := by decide +kernel
theorem dX6_counts_178 : decode cX6_counts 178 = .ok (.iaload, 1) := by decide +kernel
theorem dX6_counts_179 : decode cX6_counts 179 = .ok (.aload 5, 2) := by decide +kernel
theorem dX6_counts_181 : decode cX6_counts 181 = .ok (.iconst 3, 1) := by decide +kernel
theorem dX6_counts_182 : decode cX6_counts 182 = .ok (.iaload, 1) := by decide +kernel
theorem dX6_counts_183 : decode cX6_counts 183 = .ok (.ifCond .ge 7, 3) := by decide +kernel
theorem dX6_counts_186 : decode cX6_counts 186 = .ok (.iconst 0, 1) := by decide +kernel
theorem dX6_counts_187 : decode cX6_counts 187 = .ok (.goto 4, 3) := by decide +kernel
theorem dX6_counts_190 : decode cX6_counts 190 = .ok (.iconst 1, 1) := by decide +kernel
theorem dX6_counts_191 : decode cX6_counts 191 = .ok (.iadd, 1) := by decide +kernel
theorem dX6_counts_192 : decode cX6_counts 192 = .ok (.iastore, 1) := by decide +kernel
theorem dX6_counts_193 : decode cX6_counts 193 = .ok (.iinc 4 1, 3) := by decide +kernel
theorem dX6_counts_196 : decode cX6_counts 196 = .ok (.goto (-34), 3) := by decide +kernel
theorem dX6_counts_199 : decode cX6_counts 199 = .ok (.aload_n 1, 1) := by decide +kernel
theorem dX6_counts_200 : decode cX6_counts 200 = .ok (.areturn, 1) := by decide +kernel
theorem mi_X6_counts : MInfo yX6_counts cX6_counts 6 (some (.array .int)) 0 := ⟨wq_886, wq_69, by decide, ⟨by decide +kernel, by decide +kernel, by decide +kernel⟩, by decide +kernel⟩
def wl_X6_counts_162 (nn : Nat → Nat) (V : M2) (S : M2) (O : M2) (N : M2) (U : M2) (L : M2) (B : M2) (K : (Nat → Int32) → Prop) : Nat → (Nat → Int32) → Int32 → Int32 → Prop
  | 0, _, _, _ => False
  | n + 1, e2, v3, v4 => ((v3 ≤ v4 → K e2) ∧ (¬ v3 ≤ v4 → (inb v4 (nn 3) ∧ (inb (12 : Int32) (14) ∧ (inb v4 (nn 3) ∧ ((0 ≤ (L v4.toInt.toNat 3) → (inb (12 : Int32) (14) ∧ ∀ e2_192 : Nat → Int32, e2_192 = upd e2 12 ((e2 12) + 1) → (∀ v4_193 : Int32, v4_193 = v4 + 1 → wl_X6_counts_162 nn V S O N U L B K n e2_192 v3 v4_193))) ∧ (¬ 0 ≤ (L v4.toInt.toNat 3) → (inb (12 : Int32) (14) ∧ ∀ e2_192 : Nat → Int32, e2_192 = upd e2 12 ((e2 12) + 0) → (∀ v4_193 : Int32, v4_193 = v4 + 1 → wl_X6_counts_162 nn V S O N U L B K n e2_192 v3 v4_193)))))))))
def wl_X6_counts_122 (nn : Nat → Nat) (V : M2) (S : M2) (O : M2) (N : M2) (U : M2) (L : M2) (B : M2) (K : (Nat → Int32) → Prop) : Nat → (Nat → Int32) → Int32 → Int32 → Prop
  | 0, _, _, _ => False
  | n + 1, e2, v3, v4 => ((v3 ≤ v4 → (∀ v3_158, v3_158 = Int32.ofNat (nn 3) → wl_X6_counts_162 nn V S O N U L B K fK e2 v3_158 0)) ∧ (¬ v3 ≤ v4 → (inb v4 (nn 1) ∧ (inb (11 : Int32) (14) ∧ (inb v4 (nn 1) ∧ (inb (11 : Int32) (14) ∧ ∀ e2_144 : Nat → Int32, e2_144 = upd e2 11 ((e2 11) + (U v4.toInt.toNat 1)) → (∀ v4_145 : Int32, v4_145 = v4 + 1 → wl_X6_counts_122 nn V S O N U L B K n e2_144 v3 v4_145)))))))
def wp_X6_counts (nn : Nat → Nat) (V : M2) (S : M2) (O : M2) (N : M2) (U : M2) (L : M2) (B : M2) (K : (Nat → Int32) → Prop) : Prop := (inb (0 : Int32) (14) ∧ ∀ e2_10 : Nat → Int32, e2_10 = upd ((fun _ => 0)) 0 (N 0 0) → (inb (1 : Int32) (14) ∧ ∀ e2_17 : Nat → Int32, e2_17 = upd e2_10 1 (N 1 0) → (inb (2 : Int32) (14) ∧ ∀ e2_25 : Nat → Int32, e2_25 = upd e2_17 2 (Int32.ofNat (nn 0)) → (inb (3 : Int32) (14) ∧ ∀ e2_33 : Nat → Int32, e2_33 = upd e2_25 3 (Int32.ofNat (nn 1)) → (inb (4 : Int32) (14) ∧ ∀ e2_41 : Nat → Int32, e2_41 = upd e2_33 4 (Int32.ofNat (nn 2)) → (inb (5 : Int32) (14) ∧ ∀ e2_49 : Nat → Int32, e2_49 = upd e2_41 5 (Int32.ofNat (nn 3)) → (inb (6 : Int32) (14) ∧ ∀ e2_58 : Nat → Int32, e2_58 = upd e2_49 6 (Int32.ofNat (nn 4)) → (inb (7 : Int32) (14) ∧ ∀ e2_67 : Nat → Int32, e2_67 = upd e2_58 7 (Int32.ofNat (nn 5)) → wp_X6_those nn V S O N U L B 0 (fun r_73 => (inb (8 : Int32) (14) ∧ ∀ e2_76 : Nat → Int32, e2_76 = upd e2_67 8 r_73 → wp_X6_those nn V S O N U L B 1 (fun r_82 => (inb (9 : Int32) (14) ∧ ∀ e2_85 : Nat → Int32, e2_85 = upd e2_76 9 r_82 → wp_X6_those nn V S O N U L B 2 (fun r_91 => (inb (10 : Int32) (14) ∧ ∀ e2_94 : Nat → Int32, e2_94 = upd e2_85 10 r_91 → (inb (11 : Int32) (14) ∧ ∀ e2_99 : Nat → Int32, e2_99 = upd e2_94 11 0 → (inb (12 : Int32) (14) ∧ ∀ e2_104 : Nat → Int32, e2_104 = upd e2_99 12 0 → (inb (13 : Int32) (14) ∧ ∀ e2_109 : Nat → Int32, e2_109 = upd e2_104 13 0 → (∀ v3_118, v3_118 = Int32.ofNat (nn 1) → wl_X6_counts_122 nn V S O N U L B K fK e2_109 v3_118 0))))))))))))))))))
set_option maxRecDepth 100000 in
set_option maxHeartbeats 4000000 in
theorem c_X6_counts (l : Launch) (D : va_G) (Z : Nat → ClassId) (sa : Nat) (o : Nat → Nat) (ro : Nat → Nat → Nat) (nn : Nat → Nat) (V S O : M2) (N : M2) (U : M2) (L : M2) (B : M2) (sz : Nat) (K : (Nat → Int32) → Prop) (hm : wp_X6_counts nn V S O N U L B K) : Met l yX6_counts (wy yX6_counts cX6_counts 6 (some (.array .int))) (rk 2 1 14) (preG (fun _ _ _ => True) vwCl D Z (ctW Z sa o ro nn V S O N U L B none) sz [.ref sa]) (poQ vwCl D Z (ctW Z sa o ro nn V S O N U L B) (fun u => (u.getD (0, fun _ => 0)).1) none sz (fun u => ∃ q g, u = some (q, g) ∧ K g)) 1 14 (va_A (ctW Z sa o ro nn V S O N U L B none) sz) := by
  refine rwq_ofG (wsF := ctW Z sa o ro nn V S O N U L B) (u0 := none) (by decide +kernel) (Nat.le_of_ble_eq_true rfl) rfl (Or.inr ⟨_, rfl⟩) ?_
  intro p e s m args below meth c Q A hC hN hR hsz hT hK hret ls hl
  have hx := hC.1
  have hb := hC.2.1
  have hl : lv_has ls 6 [(0, .ref (sa))] := hl
  have hT : TS vwCl D (SM Z sa o ro nn V S O N U L B) A s.heap s.heap [] := hT
  have L162 : ∀ (n162 : Nat), ∀ (e2 : (Nat → Int32)) (v3 : Int32) (v4 : Int32) (ae2 : Nat) (H : Heap) (locs : List Loc) (ls : Array Slot) (cc cs : Nat), wl_X6_counts_162 nn V S O N U L B K n162 e2 v3 v4 → TS vwCl D ([(ae2, .inl (Z 0, 14, .inl e2))] ++ (SM Z sa o ro nn V S O N U L B)) A s.heap H locs → lv_has ls 6 [(1, .ref ae2), (2, .ref (o 3)), (3, .int v3), (4, .int v4)] → cc + (n162 * 0 + 0) ≤ 1 ∧ cs + (n162 * 0 + 0) ≤ 14 → W p l e (rk 2 1 14) s m args below meth c H locs cc cs Q (F0 m 162 ls []) := by
    intro n162
    induction n162 with
    | zero =>
      intro e2 v3 v4 ae2 H locs ls cc cs hm hT hl hcb
      exact False.elim hm
    | succ n162 ih162 =>
      intro e2 v3 v4 ae2 H locs ls cc cs hm hT hl hcb
      refine lv_iload hx hb dX6_counts_162 (lv_at hl 3 rfl) ?_
      refine lv_iload_n hx hb dX6_counts_164 rfl (lv_at hl 2 rfl) ?_
      refine lv_icmp_ge (tgt := 199) hx hb dX6_counts_165 (by decide) (fun c_165 => ?_) (fun c_165 => ?_)
      · have hm := hm.1 c_165
        refine lv_aload_n hx hb dX6_counts_199 rfl (lv_at hl 0 rfl) ?_
        refine W.widen (k := 1) (n := 14) (by omega) (by omega) ?_
        exact hret 200 ls H locs (some (ae2, e2)) ⟨_, _, rfl, hm⟩ hT dX6_counts_200
      · have hm := hm.2 c_165
        refine lv_aload_n hx hb dX6_counts_168 rfl (lv_at hl 1 rfl) ?_
        refine lv_iload hx hb dX6_counts_169 (lv_at hl 3 rfl) ?_
        refine w_aaldR (q0 := 5) hC hK hT.1 rfl hm.1 dX6_counts_171 ?_
        have hm := hm.2
        refine lv_astore (lv' := [(5, .ref (ro 3 v4.toInt.toNat)), (1, .ref ae2), (2, .ref (o 3)), (3, .int v3), (4, .int v4)]) hx hb dX6_counts_172 hl (by decide) rfl (fun ls hl => ?_)
        refine lv_aload_n hx hb dX6_counts_174 rfl (lv_at hl 1 rfl) ?_
        refine lv_bipush (v := 12) hx hb dX6_counts_175 (by decide) ?_
        refine lv_dup2_11 hx hb dX6_counts_177 rfl rfl ?_
        refine w_iald (q0 := 0) hC hK hT.1 rfl hm.1 dX6_counts_178 ?_
        rw [show (12 : Int32).toInt.toNat = 12 from rfl]
        have hm := hm.2
        refine lv_aload hx hb dX6_counts_179 (lv_at hl 0 rfl) ?_
        refine lv_iconst (v := 3) hx hb dX6_counts_181 (by decide) ?_
        refine wr_ld (jn := 3) (f := (fun X => [(ae2, .inl (Z 0, 14, .inl e2))] ++ SM Z sa o ro nn V S O N U X B)) (sm_pre (sm_3 Z sa o ro nn V S O N U B) _) hC hK hT.1 hm.1 (by decide) rfl dX6_counts_182 ?_
        have hm := hm.2
        refine lv_if_ge (tgt := 190) hx hb dX6_counts_183 (by decide) (fun c_183 => ?_) (fun c_183 => ?_)
        · have hm := hm.1 c_183
          refine lv_iconst (v := 1) hx hb dX6_counts_190 (by decide) ?_
          refine lv_iadd hx hb dX6_counts_191 ?_
          have hj192 := hm.1
          obtain ⟨e2_192, ee2_192⟩ : ∃ y : Nat → Int32, y = upd e2 12 ((e2 12) + 1) := ⟨_, rfl⟩
          have hm := hm.2 e2_192 ee2_192
          refine w_iast (q0 := 0) (ws' := ([(ae2, .inl (Z 0, 14, .inl e2_192))] ++ (SM Z sa o ro nn V S O N U L B))) hC hK hT rfl hj192 (by rw [ee2_192]; rfl) dX6_counts_192 (fun H locs hT => ?_)
          obtain ⟨v4_193, ev4_193⟩ : ∃ y : Int32, y = v4 + 1 := ⟨_, rfl⟩
          have hm := hm v4_193 ev4_193
          refine lv_iinc (v := v4_193) (lv' := [(4, .int v4_193), (5, .ref (ro 3 v4.toInt.toNat)), (1, .ref ae2), (2, .ref (o 3)), (3, .int v3)]) hx hb dX6_counts_193 hl (k := 4) rfl (by rw [ev4_193]; rfl) (by decide) rfl (fun ls hl => ?_)
          refine lv_goto (tgt := 162) hx hb dX6_counts_196 (by decide) ?_
          exact ih162 _ _ _ _ _ _ _ _ _ hm hT (lv_sub hl [2, 3, 4, 0] rfl) ⟨by omega, by omega⟩
        · have hm := hm.2 c_183
          refine lv_iconst (v := 0) hx hb dX6_counts_186 (by decide) ?_
          refine lv_goto (tgt := 191) hx hb dX6_counts_187 (by decide) ?_
          refine lv_iadd hx hb dX6_counts_191 ?_
          have hj192 := hm.1
          obtain ⟨e2_192, ee2_192⟩ : ∃ y : Nat → Int32, y = upd e2 12 ((e2 12) + 0) := ⟨_, rfl⟩
          have hm := hm.2 e2_192 ee2_192
          refine w_iast (q0 := 0) (ws' := ([(ae2, .inl (Z 0, 14, .inl e2_192))] ++ (SM Z sa o ro nn V S O N U L B))) hC hK hT rfl hj192 (by rw [ee2_192]; rfl) dX6_counts_192 (fun H locs hT => ?_)
          obtain ⟨v4_193, ev4_193⟩ : ∃ y : Int32, y = v4 + 1 := ⟨_, rfl⟩
          have hm := hm v4_193 ev4_193
          refine lv_iinc (v := v4_193) (lv' := [(4, .int v4_193), (5, .ref (ro 3 v4.toInt.toNat)), (1, .ref ae2), (2, .ref (o 3)), (3, .int v3)]) hx hb dX6_counts_193 hl (k := 4) rfl (by rw [ev4_193]; rfl) (by decide) rfl (fun ls hl => ?_)
          refine lv_goto (tgt := 162) hx hb dX6_counts_196 (by decide) ?_
          exact ih162 _ _ _ _ _ _ _ _ _ hm hT (lv_sub hl [2, 3, 4, 0] rfl) ⟨by omega, by omega⟩
  have L122 : ∀ (n122 : Nat), ∀ (e2 : (Nat → Int32)) (v3 : Int32) (v4 : Int32) (ae2 : Nat) (H : Heap) (locs : List Loc) (ls : Array Slot) (cc cs : Nat), wl_X6_counts_122 nn V S O N U L B K n122 e2 v3 v4 → TS vwCl D ([(ae2, .inl (Z 0, 14, .inl e2))] ++ (SM Z sa o ro nn V S O N U L B)) A s.heap H locs → lv_has ls 6 [(0, .ref (sa)), (1, .ref ae2), (2, .ref (o 1)), (3, .int v3), (4, .int v4)] → cc + (n122 * 0 + 0) ≤ 1 ∧ cs + (n122 * 0 + 0) ≤ 14 → W p l e (rk 2 1 14) s m args below meth c H locs cc cs Q (F0 m 122 ls []) := by
    intro n122
    induction n122 with
    | zero =>
      intro e2 v3 v4 ae2 H locs ls cc cs hm hT hl hcb
      exact False.elim hm
    | succ n122 ih122 =>
      intro e2 v3 v4 ae2 H locs ls cc cs hm hT hl hcb
      refine lv_iload hx hb dX6_counts_122 (lv_at hl 4 rfl) ?_
      refine lv_iload_n hx hb dX6_counts_124 rfl (lv_at hl 3 rfl) ?_
      refine lv_icmp_ge (tgt := 151) hx hb dX6_counts_125 (by decide) (fun c_125 => ?_) (fun c_125 => ?_)
      · have hm := hm.1 c_125
        refine lv_aload_n hx hb dX6_counts_151 rfl (lv_at hl 0 rfl) ?_
        refine w_get (C := RX6) (T := TX6) (N := 9) (ci := 6) (q0 := 1) (k := 5) hC hK hT.1 fi_X6 rfl rfl rfl (by decide) rfl wq_1175 dX6_counts_152 ?_
        refine lv_astore_n (lv' := [(2, .ref (o 3)), (0, .ref (sa)), (1, .ref ae2), (3, .int v3), (4, .int v4)]) hx hb dX6_counts_155 rfl hl (by decide) rfl (fun ls hl => ?_)
        refine lv_aload_n hx hb dX6_counts_156 rfl (lv_at hl 0 rfl) ?_
        refine w_alen (q0 := 5) (t0 := 3) hC hK hT.1 rfl rfl dX6_counts_157 ?_
        refine lv_topi (fun v3_158 ev3_158 => ?_)
        have hm := hm v3_158 ev3_158
        refine lv_istore_n (lv' := [(3, .int v3_158), (2, .ref (o 3)), (0, .ref (sa)), (1, .ref ae2), (4, .int v4)]) hx hb dX6_counts_158 rfl hl (by decide) rfl (fun ls hl => ?_)
        refine lv_iconst (v := 0) hx hb dX6_counts_159 (by decide) ?_
        refine lv_istore (lv' := [(4, .int 0), (3, .int v3_158), (2, .ref (o 3)), (0, .ref (sa)), (1, .ref ae2)]) hx hb dX6_counts_160 hl (by decide) rfl (fun ls hl => ?_)
        exact L162 _ _ _ _ _ _ _ _ _ _ hm hT (lv_sub hl [4, 2, 1, 0] rfl) ⟨by omega, by omega⟩
      · have hm := hm.2 c_125
        refine lv_aload_n hx hb dX6_counts_128 rfl (lv_at hl 2 rfl) ?_
        refine lv_iload hx hb dX6_counts_129 (lv_at hl 4 rfl) ?_
        refine w_aaldR (q0 := 3) hC hK hT.1 rfl hm.1 dX6_counts_131 ?_
        have hm := hm.2
        refine lv_astore (lv' := [(5, .ref (ro 1 v4.toInt.toNat)), (0, .ref (sa)), (1, .ref ae2), (2, .ref (o 1)), (3, .int v3), (4, .int v4)]) hx hb dX6_counts_132 hl (by decide) rfl (fun ls hl => ?_)
        refine lv_aload_n hx hb dX6_counts_134 rfl (lv_at hl 2 rfl) ?_
        refine lv_bipush (v := 11) hx hb dX6_counts_135 (by decide) ?_
        refine lv_dup2_11 hx hb dX6_counts_137 rfl rfl ?_
        refine w_iald (q0 := 0) hC hK hT.1 rfl hm.1 dX6_counts_138 ?_
        rw [show (11 : Int32).toInt.toNat = 11 from rfl]
        have hm := hm.2
        refine lv_aload hx hb dX6_counts_139 (lv_at hl 0 rfl) ?_
        refine lv_iconst (v := 1) hx hb dX6_counts_141 (by decide) ?_
        refine wr_ld (jn := 1) (f := (fun X => [(ae2, .inl (Z 0, 14, .inl e2))] ++ SM Z sa o ro nn V S O N X L B)) (sm_pre (sm_1 Z sa o ro nn V S O N L B) _) hC hK hT.1 hm.1 (by decide) rfl dX6_counts_142 ?_
        have hm := hm.2
        refine lv_iadd hx hb dX6_counts_143 ?_
        have hj144 := hm.1
        obtain ⟨e2_144, ee2_144⟩ : ∃ y : Nat → Int32, y = upd e2 11 ((e2 11) + (U v4.toInt.toNat 1)) := ⟨_, rfl⟩
        have hm := hm.2 e2_144 ee2_144
        refine w_iast (q0 := 0) (ws' := ([(ae2, .inl (Z 0, 14, .inl e2_144))] ++ (SM Z sa o ro nn V S O N U L B))) hC hK hT rfl hj144 (by rw [ee2_144]; rfl) dX6_counts_144 (fun H locs hT => ?_)
        obtain ⟨v4_145, ev4_145⟩ : ∃ y : Int32, y = v4 + 1 := ⟨_, rfl⟩
        have hm := hm v4_145 ev4_145
        refine lv_iinc (v := v4_145) (lv' := [(4, .int v4_145), (5, .ref (ro 1 v4.toInt.toNat)), (0, .ref (sa)), (1, .ref ae2), (2, .ref (o 1)), (3, .int v3)]) hx hb dX6_counts_145 hl (k := 5) rfl (by rw [ev4_145]; rfl) (by decide) rfl (fun ls hl => ?_)
        refine lv_goto (tgt := 122) hx hb dX6_counts_148 (by decide) ?_
        exact ih122 _ _ _ _ _ _ _ _ _ hm hT (lv_sub hl [2, 3, 4, 5, 0] rfl) ⟨by omega, by omega⟩
  refine lv_bipush (v := 14) hx hb dX6_counts_0 (by decide) ?_
  refine w_newI (N := 14) hC hK hT wq_240 (by decide) (by decide) (by decide) (by show _ ≤ 1; omega) (by show _ ≤ 14; omega) dX6_counts_2 (fun ae2 H hT => ?_)
  have hT : TS vwCl D ([(ae2, .inl (Z 0, 14, .inl ((fun _ => 0))))] ++ (SM Z sa o ro nn V S O N U L B)) A s.heap H _ := hT.front
  refine lv_dup hx hb dX6_counts_4 rfl ?_
  refine lv_iconst (v := 0) hx hb dX6_counts_5 (by decide) ?_
  refine lv_aload_n hx hb dX6_counts_6 rfl (lv_at hl 0 rfl) ?_
  refine w_get (C := RX6) (T := TX6) (N := 9) (ci := 6) (q0 := 1) (k := 0) hC hK hT.1 fi_X6 rfl rfl rfl (by decide) rfl wq_1165 dX6_counts_7 ?_
  have hj10 := hm.1
  obtain ⟨e2_10, ee2_10⟩ : ∃ y : Nat → Int32, y = upd ((fun _ => 0)) 0 (N 0 0) := ⟨_, rfl⟩
  have hm := hm.2 e2_10 ee2_10
  refine w_iast (q0 := 0) (ws' := ([(ae2, .inl (Z 0, 14, .inl e2_10))] ++ (SM Z sa o ro nn V S O N U L B))) hC hK hT rfl hj10 (by rw [ee2_10]; rfl) dX6_counts_10 (fun H locs hT => ?_)
  refine lv_dup hx hb dX6_counts_11 rfl ?_
  refine lv_iconst (v := 1) hx hb dX6_counts_12 (by decide) ?_
  refine lv_aload_n hx hb dX6_counts_13 rfl (lv_at hl 0 rfl) ?_
  refine w_get (C := RX6) (T := TX6) (N := 9) (ci := 6) (q0 := 1) (k := 1) hC hK hT.1 fi_X6 rfl rfl rfl (by decide) rfl wq_1167 dX6_counts_14 ?_
  have hj17 := hm.1
  obtain ⟨e2_17, ee2_17⟩ : ∃ y : Nat → Int32, y = upd e2_10 1 (N 1 0) := ⟨_, rfl⟩
  have hm := hm.2 e2_17 ee2_17
  refine w_iast (q0 := 0) (ws' := ([(ae2, .inl (Z 0, 14, .inl e2_17))] ++ (SM Z sa o ro nn V S O N U L B))) hC hK hT rfl hj17 (by rw [ee2_17]; rfl) dX6_counts_17 (fun H locs hT => ?_)
  refine lv_dup hx hb dX6_counts_18 rfl ?_
  refine lv_iconst (v := 2) hx hb dX6_counts_19 (by decide) ?_
  refine lv_aload_n hx hb dX6_counts_20 rfl (lv_at hl 0 rfl) ?_
  refine w_get (C := RX6) (T := TX6) (N := 9) (ci := 6) (q0 := 1) (k := 2) hC hK hT.1 fi_X6 rfl rfl rfl (by decide) rfl wq_1169 dX6_counts_21 ?_
  refine w_alen (q0 := 2) (t0 := 3) hC hK hT.1 rfl rfl dX6_counts_24 ?_
  have hj25 := hm.1
  obtain ⟨e2_25, ee2_25⟩ : ∃ y : Nat → Int32, y = upd e2_17 2 (Int32.ofNat (nn 0)) := ⟨_, rfl⟩
  have hm := hm.2 e2_25 ee2_25
  refine w_iast (q0 := 0) (ws' := ([(ae2, .inl (Z 0, 14, .inl e2_25))] ++ (SM Z sa o ro nn V S O N U L B))) hC hK hT rfl hj25 (by rw [ee2_25]; rfl) dX6_counts_25 (fun H locs hT => ?_)
  refine lv_dup hx hb dX6_counts_26 rfl ?_
  refine lv_iconst (v := 3) hx hb dX6_counts_27 (by decide) ?_
  refine lv_aload_n hx hb dX6_counts_28 rfl (lv_at hl 0 rfl) ?_
  refine w_get (C := RX6) (T := TX6) (N := 9) (ci := 6) (q0 := 1) (k := 3) hC hK hT.1 fi_X6 rfl rfl rfl (by decide) rfl wq_1171 dX6_counts_29 ?_
  refine w_alen (q0 := 3) (t0 := 3) hC hK hT.1 rfl rfl dX6_counts_32 ?_
  have hj33 := hm.1
  obtain ⟨e2_33, ee2_33⟩ : ∃ y : Nat → Int32, y = upd e2_25 3 (Int32.ofNat (nn 1)) := ⟨_, rfl⟩
  have hm := hm.2 e2_33 ee2_33
  refine w_iast (q0 := 0) (ws' := ([(ae2, .inl (Z 0, 14, .inl e2_33))] ++ (SM Z sa o ro nn V S O N U L B))) hC hK hT rfl hj33 (by rw [ee2_33]; rfl) dX6_counts_33 (fun H locs hT => ?_)
  refine lv_dup hx hb dX6_counts_34 rfl ?_
  refine lv_iconst (v := 4) hx hb dX6_counts_35 (by decide) ?_
  refine lv_aload_n hx hb dX6_counts_36 rfl (lv_at hl 0 rfl) ?_
  refine w_get (C := RX6) (T := TX6) (N := 9) (ci := 6) (q0 := 1) (k := 4) hC hK hT.1 fi_X6 rfl rfl rfl (by decide) rfl wq_1173 dX6_counts_37 ?_
  refine w_alen (q0 := 4) (t0 := 3) hC hK hT.1 rfl rfl dX6_counts_40 ?_
  have hj41 := hm.1
  obtain ⟨e2_41, ee2_41⟩ : ∃ y : Nat → Int32, y = upd e2_33 4 (Int32.ofNat (nn 2)) := ⟨_, rfl⟩
  have hm := hm.2 e2_41 ee2_41
  refine w_iast (q0 := 0) (ws' := ([(ae2, .inl (Z 0, 14, .inl e2_41))] ++ (SM Z sa o ro nn V S O N U L B))) hC hK hT rfl hj41 (by rw [ee2_41]; rfl) dX6_counts_41 (fun H locs hT => ?_)
  refine lv_dup hx hb dX6_counts_42 rfl ?_
  refine lv_iconst (v := 5) hx hb dX6_counts_43 (by decide) ?_
  refine lv_aload_n hx hb dX6_counts_44 rfl (lv_at hl 0 rfl) ?_
  refine w_get (C := RX6) (T := TX6) (N := 9) (ci := 6) (q0 := 1) (k := 5) hC hK hT.1 fi_X6 rfl rfl rfl (by decide) rfl wq_1175 dX6_counts_45 ?_
  refine w_alen (q0 := 5) (t0 := 3) hC hK hT.1 rfl rfl dX6_counts_48 ?_
  have hj49 := hm.1
  obtain ⟨e2_49, ee2_49⟩ : ∃ y : Nat → Int32, y = upd e2_41 5 (Int32.ofNat (nn 3)) := ⟨_, rfl⟩
  have hm := hm.2 e2_49 ee2_49
  refine w_iast (q0 := 0) (ws' := ([(ae2, .inl (Z 0, 14, .inl e2_49))] ++ (SM Z sa o ro nn V S O N U L B))) hC hK hT rfl hj49 (by rw [ee2_49]; rfl) dX6_counts_49 (fun H locs hT => ?_)
  refine lv_dup hx hb dX6_counts_50 rfl ?_
  refine lv_bipush (v := 6) hx hb dX6_counts_51 (by decide) ?_
  refine lv_aload_n hx hb dX6_counts_53 rfl (lv_at hl 0 rfl) ?_
  refine w_get (C := RX6) (T := TX6) (N := 9) (ci := 6) (q0 := 1) (k := 6) hC hK hT.1 fi_X6 rfl rfl rfl (by decide) rfl wq_1177 dX6_counts_54 ?_
  refine w_alen (q0 := 6) (t0 := 3) hC hK hT.1 rfl rfl dX6_counts_57 ?_
  have hj58 := hm.1
  obtain ⟨e2_58, ee2_58⟩ : ∃ y : Nat → Int32, y = upd e2_49 6 (Int32.ofNat (nn 4)) := ⟨_, rfl⟩
  have hm := hm.2 e2_58 ee2_58
  refine w_iast (q0 := 0) (ws' := ([(ae2, .inl (Z 0, 14, .inl e2_58))] ++ (SM Z sa o ro nn V S O N U L B))) hC hK hT rfl hj58 (by rw [ee2_58]; rfl) dX6_counts_58 (fun H locs hT => ?_)
  refine lv_dup hx hb dX6_counts_59 rfl ?_
  refine lv_bipush (v := 7) hx hb dX6_counts_60 (by decide) ?_
  refine lv_aload_n hx hb dX6_counts_62 rfl (lv_at hl 0 rfl) ?_
  refine w_get (C := RX6) (T := TX6) (N := 9) (ci := 6) (q0 := 1) (k := 7) hC hK hT.1 fi_X6 rfl rfl rfl (by decide) rfl wq_1179 dX6_counts_63 ?_
  refine w_alen (q0 := 7) (t0 := 3) hC hK hT.1 rfl rfl dX6_counts_66 ?_
  have hj67 := hm.1
  obtain ⟨e2_67, ee2_67⟩ : ∃ y : Nat → Int32, y = upd e2_58 7 (Int32.ofNat (nn 5)) := ⟨_, rfl⟩
  have hm := hm.2 e2_67 ee2_67
  refine w_iast (q0 := 0) (ws' := ([(ae2, .inl (Z 0, 14, .inl e2_67))] ++ (SM Z sa o ro nn V S O N U L B))) hC hK hT rfl hj67 (by rw [ee2_67]; rfl) dX6_counts_67 (fun H locs hT => ?_)
  refine lv_dup hx hb dX6_counts_68 rfl ?_
  refine lv_bipush (v := 8) hx hb dX6_counts_69 (by decide) ?_
  refine lv_aload_n hx hb dX6_counts_71 rfl (lv_at hl 0 rfl) ?_
  refine lv_iconst (v := 0) hx hb dX6_counts_72 (by decide) ?_
  refine k_X6_those hC hN hK hT.dropL.1 hT.dropL.D' hm wq_887 (by decide) hl.1 (Nat.le_of_ble_eq_true rfl) ⟨by omega, by omega⟩ dX6_counts_73 (fun r_73 hm => ?_)
  have hj76 := hm.1
  obtain ⟨e2_76, ee2_76⟩ : ∃ y : Nat → Int32, y = upd e2_67 8 r_73 := ⟨_, rfl⟩
  have hm := hm.2 e2_76 ee2_76
  refine w_iast (q0 := 0) (ws' := ([(ae2, .inl (Z 0, 14, .inl e2_76))] ++ (SM Z sa o ro nn V S O N U L B))) hC hK hT rfl hj76 (by rw [ee2_76]; rfl) dX6_counts_76 (fun H locs hT => ?_)
  refine lv_dup hx hb dX6_counts_77 rfl ?_
  refine lv_bipush (v := 9) hx hb dX6_counts_78 (by decide) ?_
  refine lv_aload_n hx hb dX6_counts_80 rfl (lv_at hl 0 rfl) ?_
  refine lv_iconst (v := 1) hx hb dX6_counts_81 (by decide) ?_
  refine k_X6_those hC hN hK hT.dropL.1 hT.dropL.D' hm wq_887 (by decide) hl.1 (Nat.le_of_ble_eq_true rfl) ⟨by omega, by omega⟩ dX6_counts_82 (fun r_82 hm => ?_)
  have hj85 := hm.1
  obtain ⟨e2_85, ee2_85⟩ : ∃ y : Nat → Int32, y = upd e2_76 9 r_82 := ⟨_, rfl⟩
  have hm := hm.2 e2_85 ee2_85
  refine w_iast (q0 := 0) (ws' := ([(ae2, .inl (Z 0, 14, .inl e2_85))] ++ (SM Z sa o ro nn V S O N U L B))) hC hK hT rfl hj85 (by rw [ee2_85]; rfl) dX6_counts_85 (fun H locs hT => ?_)
  refine lv_dup hx hb dX6_counts_86 rfl ?_
  refine lv_bipush (v := 10) hx hb dX6_counts_87 (by decide) ?_
  refine lv_aload_n hx hb dX6_counts_89 rfl (lv_at hl 0 rfl) ?_
  refine lv_iconst (v := 2) hx hb dX6_counts_90 (by decide) ?_
  refine k_X6_those hC hN hK hT.dropL.1 hT.dropL.D' hm wq_887 (by decide) hl.1 (Nat.le_of_ble_eq_true rfl) ⟨by omega, by omega⟩ dX6_counts_91 (fun r_91 hm => ?_)
  have hj94 := hm.1
  obtain ⟨e2_94, ee2_94⟩ : ∃ y : Nat → Int32, y = upd e2_85 10 r_91 := ⟨_, rfl⟩
  have hm := hm.2 e2_94 ee2_94
  refine w_iast (q0 := 0) (ws' := ([(ae2, .inl (Z 0, 14, .inl e2_94))] ++ (SM Z sa o ro nn V S O N U L B))) hC hK hT rfl hj94 (by rw [ee2_94]; rfl) dX6_counts_94 (fun H locs hT => ?_)
  refine lv_dup hx hb dX6_counts_95 rfl ?_
  refine lv_bipush (v := 11) hx hb dX6_counts_96 (by decide) ?_
  refine lv_iconst (v := 0) hx hb dX6_counts_98 (by decide) ?_
  have hj99 := hm.1
  obtain ⟨e2_99, ee2_99⟩ : ∃ y : Nat → Int32, y = upd e2_94 11 0 := ⟨_, rfl⟩
  have hm := hm.2 e2_99 ee2_99
  refine w_iast (q0 := 0) (ws' := ([(ae2, .inl (Z 0, 14, .inl e2_99))] ++ (SM Z sa o ro nn V S O N U L B))) hC hK hT rfl hj99 (by rw [ee2_99]; rfl) dX6_counts_99 (fun H locs hT => ?_)
  refine lv_dup hx hb dX6_counts_100 rfl ?_
  refine lv_bipush (v := 12) hx hb dX6_counts_101 (by decide) ?_
  refine lv_iconst (v := 0) hx hb dX6_counts_103 (by decide) ?_
  have hj104 := hm.1
  obtain ⟨e2_104, ee2_104⟩ : ∃ y : Nat → Int32, y = upd e2_99 12 0 := ⟨_, rfl⟩
  have hm := hm.2 e2_104 ee2_104
  refine w_iast (q0 := 0) (ws' := ([(ae2, .inl (Z 0, 14, .inl e2_104))] ++ (SM Z sa o ro nn V S O N U L B))) hC hK hT rfl hj104 (by rw [ee2_104]; rfl) dX6_counts_104 (fun H locs hT => ?_)
  refine lv_dup hx hb dX6_counts_105 rfl ?_
  refine lv_bipush (v := 13) hx hb dX6_counts_106 (by decide) ?_
  refine lv_iconst (v := 0) hx hb dX6_counts_108 (by decide) ?_
  have hj109 := hm.1
  obtain ⟨e2_109, ee2_109⟩ : ∃ y : Nat → Int32, y = upd e2_104 13 0 := ⟨_, rfl⟩
  have hm := hm.2 e2_109 ee2_109
  refine w_iast (q0 := 0) (ws' := ([(ae2, .inl (Z 0, 14, .inl e2_109))] ++ (SM Z sa o ro nn V S O N U L B))) hC hK hT rfl hj109 (by rw [ee2_109]; rfl) dX6_counts_109 (fun H locs hT => ?_)
  refine lv_astore_n (lv' := [(1, .ref ae2), (0, .ref (sa))]) hx hb dX6_counts_110 rfl hl (by decide) rfl (fun ls hl => ?_)
  refine lv_aload_n hx hb dX6_counts_111 rfl (lv_at hl 1 rfl) ?_
  refine w_get (C := RX6) (T := TX6) (N := 9) (ci := 6) (q0 := 1) (k := 3) hC hK hT.1 fi_X6 rfl rfl rfl (by decide) rfl wq_1171 dX6_counts_112 ?_
  refine lv_astore_n (lv' := [(2, .ref (o 1)), (1, .ref ae2), (0, .ref (sa))]) hx hb dX6_counts_115 rfl hl (by decide) rfl (fun ls hl => ?_)
  refine lv_aload_n hx hb dX6_counts_116 rfl (lv_at hl 0 rfl) ?_
  refine w_alen (q0 := 3) (t0 := 3) hC hK hT.1 rfl rfl dX6_counts_117 ?_
  refine lv_topi (fun v3_118 ev3_118 => ?_)
  have hm := hm v3_118 ev3_118
  refine lv_istore_n (lv' := [(3, .int v3_118), (2, .ref (o 1)), (1, .ref ae2), (0, .ref (sa))]) hx hb dX6_counts_118 rfl hl (by decide) rfl (fun ls hl => ?_)
  refine lv_iconst (v := 0) hx hb dX6_counts_119 (by decide) ?_
  refine lv_istore (lv' := [(4, .int 0), (3, .int v3_118), (2, .ref (o 1)), (1, .ref ae2), (0, .ref (sa))]) hx hb dX6_counts_120 hl (by decide) rfl (fun ls hl => ?_)
  exact L122 _ _ _ _ _ _ _ _ _ _ hm hT (lv_sub hl [4, 3, 2, 1, 0] rfl) ⟨by omega, by omega⟩
