theorem wq_877 : Cond.methodLink RX6 98 yX5_place ∈ lw_g := lw_g_mk (tb_4 (List.mem_of_getElem? (i := 93) rfl)) rfl
theorem wq_878 : Cond.methodLink RX6 103 yX5_bore ∈ lw_g := lw_g_mk (tb_4 (List.mem_of_getElem? (i := 94) rfl)) rfl
theorem wq_879 : Cond.methodLink RX6 106 yX5_legger ∈ lw_g := lw_g_mk (tb_4 (List.mem_of_getElem? (i := 95) rfl)) rfl
theorem wq_883 : Cond.methodLink RX6 116 yX6_counts ∈ lw_g := lw_g_mk (tb_4 (List.mem_of_getElem? (i := 99) rfl)) rfl
theorem wq_884 : Cond.instanceMethod yX6_counts ∈ lw_g := lw_g_mk (tb_4 (List.mem_of_getElem? (i := 100) rfl)) rfl
theorem wq_885 : Cond.selects RX6 yX6_counts yX6_counts ∈ lw_g := lw_g_mk (tb_4 (List.mem_of_getElem? (i := 101) rfl)) rfl
theorem wq_881 : Cond.methodLink RX6 112 yX5_crew ∈ lw_g := lw_g_mk (tb_4 (List.mem_of_getElem? (i := 97) rfl)) rfl
theorem wq_882 : Cond.methodLink RX6 115 yX5_canEnter ∈ lw_g := lw_g_mk (tb_4 (List.mem_of_getElem? (i := 98) rfl)) rfl
theorem wq_880 : Cond.methodLink RX6 109 yX5_boat ∈ lw_g := lw_g_mk (tb_4 (List.mem_of_getElem? (i := 96) rfl)) rfl
theorem wq_892 : Cond.methodLink RX6 123 yX5_worst ∈ lw_g := lw_g_mk (tb_4 (List.mem_of_getElem? (i := 108) rfl)) rfl
theorem wq_893 : Cond.methodLink RX6 127 yX5_mean ∈ lw_g := lw_g_mk (tb_4 (List.mem_of_getElem? (i := 109) rfl)) rfl
theorem wq_891 : Cond.methodLink RX6 120 yX5_count ∈ lw_g := lw_g_mk (tb_4 (List.mem_of_getElem? (i := 107) rfl)) rfl
theorem wq_876 : Cond.code yX6_isSame cX6_isSame 10 (some .boolean) ∈ lw_g := lw_g_mk (tb_4 (List.mem_of_getElem? (i := 92) rfl)) rfl
theorem wq_894 : Cond.instanceMethod yX5_mean ∈ lw_g := lw_g_mk (tb_4 (List.mem_of_getElem? (i := 110) rfl)) rfl
theorem wq_895 : Cond.selects RX5 yX5_mean yX5_mean ∈ lw_g := lw_g_mk (tb_4 (List.mem_of_getElem? (i := 111) rfl)) rfl
theorem wq_702 : Cond.instanceMethod yX5_worst ∈ lw_g := lw_g_mk (tb_3 (List.mem_of_getElem? (i := 158) rfl)) rfl
theorem wq_703 : Cond.selects RX5 yX5_worst yX5_worst ∈ lw_g := lw_g_mk (tb_3 (List.mem_of_getElem? (i := 159) rfl)) rfl
theorem wq_648 : Cond.instanceMethod yX5_canEnter ∈ lw_g := lw_g_mk (tb_3 (List.mem_of_getElem? (i := 104) rfl)) rfl
theorem wq_649 : Cond.selects RX5 yX5_canEnter yX5_canEnter ∈ lw_g := lw_g_mk (tb_3 (List.mem_of_getElem? (i := 105) rfl)) rfl
def LW (Z : Nat → ClassId) (a b q : Nat → Nat) (ca tp rd sp : Nat) (P : M2) (sa : Nat) (o : Nat → Nat) (ro : Nat → Nat → Nat) (nn : Nat → Nat) (V S O : M2) (ap : Nat) (F : M2) (G : M2) (C : M2) (N : M2) (U : M2) (L : M2) (B : M2) : va_W := [] ++ ((CA Z a b q ca tp rd sp P ap F G C) ++ ((SM Z sa o ro nn V S O N U L B) ++ []))
section ROWSSM4
variable {p : Program} {l : Launch} {e : Env} {s : State} {m : MethodId} {args : Array Value} {below : List Frame} {meth : Method} {c : Code} {H H0 : Heap} {locs : List Loc} {cells slots : Nat} {Q : State → Prop} {R : Room} {rn mcR msR : Nat}
variable {pc : Nat} {ls : Array Slot} {rest : List Value} {A : Nat → Prop} {D : va_G}
variable {cc : ByteArray} {nL index : Nat} {own host : String}
end ROWSSM4
section LX5_mean0x
variable {p : Program} {l : Launch} {e : Env} {s : State} {m : MethodId} {args : Array Value} {below : List Frame} {meth : Method} {c : Code} {H H0 : Heap} {locs : List Loc} {cells slots : Nat} {Q : State → Prop} {R : Room} {rn mcR msR : Nat}
variable {pc : Nat} {ls : Array Slot} {rest : List Value} {A : Nat → Prop} {D : va_G}
variable {cc : ByteArray} {nL index : Nat} {own host : String}
theorem kx_X5_mean {Z : Nat → ClassId} {a b q : Nat → Nat} {ca tp rd sp : Nat} {P : M2} {ap : Nat} {F : M2} {G : M2} {C : M2} {K : UInt64 → Nat → M2 → M2 → M2 → Prop} {ws wr : va_W} {isC isR pm : List Nat} {ws' : Nat × M2 × M2 × M2 → va_W} (hC : CallFix p m c cc nL s args lw_g own) (hN : NW s) (hK : va_K D vwCl (tysG Z) s) (hT : TS vwCl D ws A H0 H locs) (hc : Cut ws (fun u : Nat × M2 × M2 × M2 => CA Z a b q ca tp rd sp P u.1 u.2.1 u.2.2.1 u.2.2.2) (ap, F, G, C) wr isC isR pm ws') (hnd : va_nd isC = true) (hm : wp_X5_mean q P ap F G C K) (hl : Cond.methodLink own index yX5_mean ∈ lw_g) (hlt : 1 < rn) (hsize : ls.size = nL) (hW : (rest.map fun v => v.category).sum ≤ 8) (hf : cells + 0 ≤ mcR ∧ slots + 0 ≤ msR) (hdg : decode cc pc = .ok (.invokevirtual index, 3)) (kk : ∀ (r : UInt64) (ap1 : Nat) (F1 : M2) (G1 : M2) (C1 : M2) (H1 : Heap) (locs1 : List Loc), K r ap1 F1 G1 C1 → TS vwCl D (ws' (ap1, F1, G1, C1)) A H0 H1 locs1 → W p l e (rk rn mcR msR) s m args below meth c H1 locs1 cells slots Q (F0 m (pc + 3) ls (.double r :: rest))) : W p l e (rk rn mcR msR) s m args below meth c H locs cells slots Q (F0 m pc ls (.ref (ca) :: rest)) :=
  rwd_go (wsF := (fun u : Nat × M2 × M2 × M2 => CA Z a b q ca tp rd sp P u.1 u.2.1 u.2.2.1 u.2.2.2)) (u0 := (ap, F, G, C)) (wr := wr) (isC := isC) (isR := isR) (pm := pm) (ws' := ws') (runV (As := []) hC hN (c_X5_mean l D Z a b q ca tp rd sp P ap F G C H.size K hm) mi_X5_mean hl wq_894 wq_895 hlt (hT.1.sub isC (map_fm hc.1)) (hT.D'.sub isC hnd hc.1) hK (q0 := 45) rfl rfl rfl hsize rfl hW hdg hf) hc hT (fun r u H1 locs1 hk hT1 => kk r u.1 u.2.1 u.2.2.1 u.2.2.2 H1 locs1 hk hT1)
end LX5_mean0x
section LX5_worst0
variable {p : Program} {l : Launch} {e : Env} {s : State} {m : MethodId} {args : Array Value} {below : List Frame} {meth : Method} {c : Code} {H H0 : Heap} {locs : List Loc} {cells slots : Nat} {Q : State → Prop} {R : Room} {rn mcR msR : Nat}
variable {pc : Nat} {ls : Array Slot} {rest : List Value} {A : Nat → Prop} {D : va_G}
variable {cc : ByteArray} {nL index : Nat} {own host : String}
theorem k_X5_worst {Z : Nat → ClassId} {a b q : Nat → Nat} {ca tp rd sp : Nat} {P : M2} {ap : Nat} {F : M2} {G : M2} {C : M2} {K : Int32 → Prop} (hC : CallFix p m c cc nL s args lw_g own) (hN : NW s) (hK : va_K D vwCl (tysG Z) s) (hP : va_P D vwCl (CA Z a b q ca tp rd sp P ap F G C) H) (hD : va_D (fun _ => True) (CA Z a b q ca tp rd sp P ap F G C)) (hm : wp_X5_worst q P ap F G C K) (hl : Cond.methodLink own index yX5_worst ∈ lw_g) (hlt : 1 < rn) (hsize : ls.size = nL) (hW : (rest.map fun v => v.category).sum ≤ 8) (hf : cells + 0 ≤ mcR ∧ slots + 0 ≤ msR) (hdg : decode cc pc = .ok (.invokevirtual index, 3)) (kk : ∀ r : Int32, K r → W p l e (rk rn mcR msR) s m args below meth c H locs cells slots Q (F0 m (pc + 3) ls (.int r :: rest))) : W p l e (rk rn mcR msR) s m args below meth c H locs cells slots Q (F0 m pc ls (.ref (ca) :: rest)) :=
  ro_go (runV (As := []) hC hN (c_X5_worst l D Z a b q ca tp rd sp P ap F G C H.size K hm) mi_X5_worst hl wq_702 wq_703 hlt hP hD hK (q0 := 45) rfl rfl rfl hsize rfl hW hdg hf) kk
end LX5_worst0
section LX5_canEnter0x
variable {p : Program} {l : Launch} {e : Env} {s : State} {m : MethodId} {args : Array Value} {below : List Frame} {meth : Method} {c : Code} {H H0 : Heap} {locs : List Loc} {cells slots : Nat} {Q : State → Prop} {R : Room} {rn mcR msR : Nat}
variable {pc : Nat} {ls : Array Slot} {rest : List Value} {A : Nat → Prop} {D : va_G}
variable {cc : ByteArray} {nL index : Nat} {own host : String}
theorem kx_X5_canEnter {Z : Nat → ClassId} {a b q : Nat → Nat} {ca tp rd sp : Nat} {P : M2} {ap : Nat} {F : M2} {G : M2} {C : M2} {x1 : Int32} {K : Int32 → Nat → M2 → M2 → M2 → Prop} {ws wr : va_W} {isC isR pm : List Nat} {ws' : Nat × M2 × M2 × M2 → va_W} (hC : CallFix p m c cc nL s args lw_g own) (hN : NW s) (hK : va_K D vwCl (tysG Z) s) (hT : TS vwCl D ws A H0 H locs) (hc : Cut ws (fun u : Nat × M2 × M2 × M2 => CA Z a b q ca tp rd sp P u.1 u.2.1 u.2.2.1 u.2.2.2) (ap, F, G, C) wr isC isR pm ws') (hnd : va_nd isC = true) (hm : wp_X5_canEnter q P (fun _ => False) ap F G C x1 K) (hl : Cond.methodLink own index yX5_canEnter ∈ lw_g) (hlt : 7 < rn) (hsize : ls.size = nL) (hW : (rest.map fun v => v.category).sum ≤ 8) (hf : cells + 0 ≤ mcR ∧ slots + 0 ≤ msR) (hdg : decode cc pc = .ok (.invokevirtual index, 3)) (kk : ∀ (r : Int32) (ap1 : Nat) (F1 : M2) (G1 : M2) (C1 : M2) (H1 : Heap) (locs1 : List Loc), K r ap1 F1 G1 C1 → TS vwCl D (ws' (ap1, F1, G1, C1)) A H0 H1 locs1 → W p l e (rk rn mcR msR) s m args below meth c H1 locs1 cells slots Q (F0 m (pc + 3) ls (.int r :: rest))) : W p l e (rk rn mcR msR) s m args below meth c H locs cells slots Q (F0 m pc ls (.int x1 :: .ref (ca) :: rest)) :=
  rw_go (wsF := (fun u : Nat × M2 × M2 × M2 => CA Z a b q ca tp rd sp P u.1 u.2.1 u.2.2.1 u.2.2.2)) (u0 := (ap, F, G, C)) (wr := wr) (isC := isC) (isR := isR) (pm := pm) (ws' := ws') (runV (As := [.int x1]) hC hN (c_X5_canEnter l D Z a b q ca tp rd sp P ap F G C H.size x1 K hm) mi_X5_canEnter hl wq_648 wq_649 hlt (hT.1.sub isC (map_fm hc.1)) (hT.D'.sub isC hnd hc.1) hK (q0 := 45) rfl rfl rfl hsize rfl hW hdg hf) hc hT (fun r u H1 locs1 hk hT1 => kk r u.1 u.2.1 u.2.2.1 u.2.2.2 H1 locs1 hk hT1)
end LX5_canEnter0x
theorem dX6_isSame_0 : decode cX6_isSame 0 = .ok (.iconst (-1), 1) := by decide +kernel
theorem dX6_isSame_1 : decode cX6_isSame 1 = .ok (.istore_n 2, 1) := by decide +kernel
theorem dX6_isSame_2 : decode cX6_isSame 2 = .ok (.aload_n 0, 1) := by decide +kernel
theorem dX6_isSame_3 : decode cX6_isSame 3 = .ok (.getfield 9, 3) := by decide +kernel
theorem dX6_isSame_6 : decode cX6_isSame 6 = .ok (.arraylength, 1) := by decide +kernel
theorem dX6_isSame_7 : decode cX6_isSame 7 = .ok (.newarray .int, 2) := by decide +kernel
theorem dX6_isSame_9 : decode cX6_isSame 9 = .ok (.astore_n 3, 1) := by decide +kernel
theorem dX6_isSame_10 : decode cX6_isSame 10 = .ok (.iconst 0, 1) := by decide +kernel
theorem dX6_isSame_11 : decode cX6_isSame 11 = .ok (.istore 4, 2) := by decide +kernel
theorem dX6_isSame_13 : decode cX6_isSame 13 = .ok (.iload 4, 2) := by decide +kernel
theorem dX6_isSame_15 : decode cX6_isSame 15 = .ok (.aload_n 0, 1) := by decide +kernel
theorem dX6_isSame_16 : decode cX6_isSame 16 = .ok (.getfield 15, 3) := by decide +kernel
theorem dX6_isSame_19 : decode cX6_isSame 19 = .ok (.arraylength, 1) := by decide +kernel
theorem dX6_isSame_20 : decode cX6_isSame 20 = .ok (.if_icmp .ge 183, 3) := by decide +kernel
theorem dX6_isSame_23 : decode cX6_isSame 23 = .ok (.iconst 0, 1) := by decide +kernel
theorem dX6_isSame_24 : decode cX6_isSame 24 = .ok (.istore 5, 2) := by decide +kernel
theorem dX6_isSame_26 : decode cX6_isSame 26 = .ok (.aload_n 0, 1) := by decide +kernel
theorem dX6_isSame_27 : decode cX6_isSame 27 = .ok (.getfield 21, 3) := by decide +kernel
theorem dX6_isSame_30 : decode cX6_isSame 30 = .ok (.astore 6, 2) := by decide +kernel
theorem dX6_isSame_32 : decode cX6_isSame 32 = .ok (.aload 6, 2) := by decide +kernel
theorem dX6_isSame_34 : decode cX6_isSame 34 = .ok (.arraylength, 1) := by decide +kernel
theorem dX6_isSame_35 : decode cX6_isSame 35 = .ok (.istore 7, 2) := by decide +kernel
theorem dX6_isSame_37 : decode cX6_isSame 37 = .ok (.iconst 0, 1) := by decide +kernel
theorem dX6_isSame_38 : decode cX6_isSame 38 = .ok (.istore 8, 2) := by decide +kernel
theorem dX6_isSame_40 : decode cX6_isSame 40 = .ok (.iload 8, 2) := by decide +kernel
theorem dX6_isSame_42 : decode cX6_isSame 42 = .ok (.iload 7, 2) := by decide +kernel
theorem dX6_isSame_44 : decode cX6_isSame 44 = .ok (.if_icmp .ge 35, 3) := by decide +kernel
theorem dX6_isSame_47 : decode cX6_isSame 47 = .ok (.aload 6, 2) := by decide +kernel
theorem dX6_isSame_49 : decode cX6_isSame 49 = .ok (.iload 8, 2) := by decide +kernel
theorem dX6_isSame_51 : decode cX6_isSame 51 = .ok (.aaload, 1) := by decide +kernel
theorem dX6_isSame_52 : decode cX6_isSame 52 = .ok (.astore 9, 2) := by decide +kernel
theorem dX6_isSame_54 : decode cX6_isSame 54 = .ok (.iload 5, 2) := by decide +kernel
theorem dX6_isSame_56 : decode cX6_isSame 56 = .ok (.aload 9, 2) := by decide +kernel
theorem dX6_isSame_58 : decode cX6_isSame 58 = .ok (.iconst 3, 1) := by decide +kernel
theorem dX6_isSame_59 : decode cX6_isSame 59 = .ok (.iaload, 1) := by decide +kernel
theorem dX6_isSame_60 : decode cX6_isSame 60 = .ok (.iload 4, 2) := by decide +kernel
theorem dX6_isSame_62 : decode cX6_isSame 62 = .ok (.if_icmp .ne 7, 3) := by decide +kernel
theorem dX6_isSame_65 : decode cX6_isSame 65 = .ok (.iconst 1, 1) := by decide +kernel
theorem dX6_isSame_66 : decode cX6_isSame 66 = .ok (.goto 4, 3) := by decide +kernel
theorem dX6_isSame_69 : decode cX6_isSame 69 = .ok (.iconst 0, 1) := by decide +kernel
theorem dX6_isSame_70 : decode cX6_isSame 70 = .ok (.iadd, 1) := by decide +kernel
theorem dX6_isSame_71 : decode cX6_isSame 71 = .ok (.istore 5, 2) := by decide +kernel
theorem dX6_isSame_73 : decode cX6_isSame 73 = .ok (.iinc 8 1, 3) := by decide +kernel
theorem dX6_isSame_76 : decode cX6_isSame 76 = .ok (.goto (-36), 3) := by decide +kernel
theorem dX6_isSame_79 : decode cX6_isSame 79 = .ok (.aload_n 1, 1) := by decide +kernel
theorem dX6_isSame_80 : decode cX6_isSame 80 = .ok (.iload 4, 2) := by decide +kernel
theorem dX6_isSame_82 : decode cX6_isSame 82 = .ok (.iconst 0, 1) := by decide +kernel
theorem dX6_isSame_83 : decode cX6_isSame 83 = .ok (.invokevirtual 98, 3) := by decide +kernel
theorem dX6_isSame_86 : decode cX6_isSame 86 = .ok (.aload_n 0, 1) := by decide +kernel
theorem dX6_isSame_87 : decode cX6_isSame 87 = .ok (.getfield 15, 3) := by decide +kernel
theorem dX6_isSame_90 : decode cX6_isSame 90 = .ok (.iload 4, 2) := by decide +kernel
theorem dX6_isSame_92 : decode cX6_isSame 92 = .ok (.aaload, 1) := by decide +kernel
theorem dX6_isSame_93 : decode cX6_isSame 93 = .ok (.iconst 0, 1) := by decide +kernel
theorem dX6_isSame_94 : decode cX6_isSame 94 = .ok (.iaload, 1) := by decide +kernel
theorem dX6_isSame_95 : decode cX6_isSame 95 = .ok (.if_icmp .ne 50, 3) := by decide +kernel
theorem dX6_isSame_98 : decode cX6_isSame 98 = .ok (.aload_n 1, 1) := by decide +kernel
theorem dX6_isSame_99 : decode cX6_isSame 99 = .ok (.iload 4, 2) := by decide +kernel
theorem dX6_isSame_101 : decode cX6_isSame 101 = .ok (.iconst 1, 1) := by decide +kernel
theorem dX6_isSame_102 : decode cX6_isSame 102 = .ok (.invokevirtual 98, 3) := by decide +kernel
theorem dX6_isSame_105 : decode cX6_isSame 105 = .ok (.aload_n 0, 1) := by decide +kernel
theorem dX6_isSame_106 : decode cX6_isSame 106 = .ok (.getfield 15, 3) := by decide +kernel
theorem dX6_isSame_109 : decode cX6_isSame 109 = .ok (.iload 4, 2) := by decide +kernel
theorem dX6_isSame_111 : decode cX6_isSame 111 = .ok (.aaload, 1) := by decide +kernel
theorem dX6_isSame_112 : decode cX6_isSame 112 = .ok (.iconst 1, 1) := by decide +kernel
theorem dX6_isSame_113 : decode cX6_isSame 113 = .ok (.iaload, 1) := by decide +kernel
theorem dX6_isSame_114 : decode cX6_isSame 114 = .ok (.if_icmp .ne 31, 3) := by decide +kernel
theorem dX6_isSame_117 : decode cX6_isSame 117 = .ok (.aload_n 1, 1) := by decide +kernel
theorem dX6_isSame_118 : decode cX6_isSame 118 = .ok (.iload 4, 2) := by decide +kernel
theorem dX6_isSame_120 : decode cX6_isSame 120 = .ok (.iconst 2, 1) := by decide +kernel
theorem dX6_isSame_121 : decode cX6_isSame 121 = .ok (.invokevirtual 98, 3) := by decide +kernel
theorem dX6_isSame_124 : decode cX6_isSame 124 = .ok (.iload 5, 2) := by decide +kernel
theorem dX6_isSame_126 : decode cX6_isSame 126 = .ok (.if_icmp .ne 19, 3) := by decide +kernel
theorem dX6_isSame_129 : decode cX6_isSame 129 = .ok (.aload_n 1, 1) := by decide +kernel
theorem dX6_isSame_130 : decode cX6_isSame 130 = .ok (.iload 4, 2) := by decide +kernel
theorem dX6_isSame_132 : decode cX6_isSame 132 = .ok (.iconst 3, 1) := by decide +kernel
theorem dX6_isSame_133 : decode cX6_isSame 133 = .ok (.invokevirtual 98, 3) := by decide +kernel
theorem dX6_isSame_136 : decode cX6_isSame 136 = .ok (.aload_n 0, 1) := by decide +kernel
theorem dX6_isSame_137 : decode cX6_isSame 137 = .ok (.iload 4, 2) := by decide +kernel
theorem dX6_isSame_139 : decode cX6_isSame 139 = .ok (.invokevirtual 60, 3) := by decide +kernel
theorem dX6_isSame_142 : decode cX6_isSame 142 = .ok (.if_icmp .eq 5, 3) := by decide +kernel
theorem dX6_isSame_145 : decode cX6_isSame 145 = .ok (.iconst 0, 1) := by decide +kernel
theorem dX6_isSame_146 : decode cX6_isSame 146 = .ok (.ireturn, 1) := by decide +kernel
theorem dX6_isSame_147 : decode cX6_isSame 147 = .ok (.iload_n 2, 1) := by decide +kernel
theorem dX6_isSame_148 : decode cX6_isSame 148 = .ok (.ifCond .lt 23, 3) := by decide +kernel
theorem dX6_isSame_151 : decode cX6_isSame 151 = .ok (.aload_n 0, 1) := by decide +kernel
theorem dX6_isSame_152 : decode cX6_isSame 152 = .ok (.getfield 15, 3) := by decide +kernel
theorem dX6_isSame_155 : decode cX6_isSame 155 = .ok (.iload 4, 2) := by decide +kernel
theorem dX6_isSame_157 : decode cX6_isSame 157 = .ok (.aaload, 1) := by decide +kernel
theorem dX6_isSame_158 : decode cX6_isSame 158 = .ok (.iconst 1, 1) := by decide +kernel
theorem dX6_isSame_159 : decode cX6_isSame 159 = .ok (.iaload, 1) := by decide +kernel
theorem dX6_isSame_160 : decode cX6_isSame 160 = .ok (.aload_n 0, 1) := by decide +kernel
theorem dX6_isSame_161 : decode cX6_isSame 161 = .ok (.getfield 15, 3) := by decide +kernel
theorem dX6_isSame_164 : decode cX6_isSame 164 = .ok (.iload_n 2, 1) := by decide +kernel
theorem dX6_isSame_165 : decode cX6_isSame 165 = .ok (.aaload, 1) := by decide +kernel
theorem dX6_isSame_166 : decode cX6_isSame 166 = .ok (.iconst 1, 1) := by decide +kernel
theorem dX6_isSame_167 : decode cX6_isSame 167 = .ok (.iaload, 1) := by decide +kernel
theorem dX6_isSame_168 : decode cX6_isSame 168 = .ok (.if_icmp .ge 6, 3) := by decide +kernel
theorem dX6_isSame_171 : decode cX6_isSame 171 = .ok (.iload 4, 2) := by decide +kernel
theorem dX6_isSame_173 : decode cX6_isSame 173 = .ok (.istore_n 2, 1) := by decide +kernel
theorem dX6_isSame_174 : decode cX6_isSame 174 = .ok (.aload_n 3, 1) := by decide +kernel
theorem dX6_isSame_175 : decode cX6_isSame 175 = .ok (.aload_n 0, 1) := by decide +kernel
theorem dX6_isSame_176 : decode cX6_isSame 176 = .ok (.getfield 15, 3) := by decide +kernel
theorem dX6_isSame_179 : decode cX6_isSame 179 = .ok (.iload 4, 2) := by decide +kernel
theorem dX6_isSame_181 : decode cX6_isSame 181 = .ok (.aaload, 1) := by decide +kernel
theorem dX6_isSame_182 : decode cX6_isSame 182 = .ok (.iconst 0, 1) := by decide +kernel
theorem dX6_isSame_183 : decode cX6_isSame 183 = .ok (.iaload, 1) := by decide +kernel
theorem dX6_isSame_184 : decode cX6_isSame 184 = .ok (.dup2, 1) := by decide +kernel
theorem dX6_isSame_185 : decode cX6_isSame 185 = .ok (.iaload, 1) := by decide +kernel
theorem dX6_isSame_186 : decode cX6_isSame 186 = .ok (.aload_n 0, 1) := by decide +kernel
theorem dX6_isSame_187 : decode cX6_isSame 187 = .ok (.getfield 15, 3) := by decide +kernel
theorem dX6_isSame_190 : decode cX6_isSame 190 = .ok (.iload 4, 2) := by decide +kernel
theorem dX6_isSame_192 : decode cX6_isSame 192 = .ok (.aaload, 1) := by decide +kernel
theorem dX6_isSame_193 : decode cX6_isSame 193 = .ok (.iconst 1, 1) := by decide +kernel
theorem dX6_isSame_194 : decode cX6_isSame 194 = .ok (.iaload, 1) := by decide +kernel
theorem dX6_isSame_195 : decode cX6_isSame 195 = .ok (.iadd, 1) := by decide +kernel
theorem dX6_isSame_196 : decode cX6_isSame 196 = .ok (.iastore, 1) := by decide +kernel
theorem dX6_isSame_197 : decode cX6_isSame 197 = .ok (.iinc 4 1, 3) := by decide +kernel
theorem dX6_isSame_200 : decode cX6_isSame 200 = .ok (.goto (-187), 3) := by decide +kernel
theorem dX6_isSame_203 : decode cX6_isSame 203 = .ok (.iconst 0, 1) := by decide +kernel
theorem dX6_isSame_204 : decode cX6_isSame 204 = .ok (.istore 4, 2) := by decide +kernel
theorem dX6_isSame_206 : decode cX6_isSame 206 = .ok (.iload 4, 2) := by decide +kernel
theorem dX6_isSame_208 : decode cX6_isSame 208 = .ok (.aload_n 0, 1) := by decide +kernel
theorem dX6_isSame_209 : decode cX6_isSame 209 = .ok (.getfield 9, 3) := by decide +kernel
theorem dX6_isSame_212 : decode cX6_isSame 212 = .ok (.arraylength, 1) := by decide +kernel
theorem dX6_isSame_213 : decode cX6_isSame 213 = .ok (.if_icmp .ge 90, 3) := by decide +kernel
theorem dX6_isSame_216 : decode cX6_isSame 216 = .ok (.iconst 4, 1) := by decide +kernel
theorem dX6_isSame_217 : decode cX6_isSame 217 = .ok (.newarray .int, 2) := by decide +kernel
theorem dX6_isSame_219 : decode cX6_isSame 219 = .ok (.dup, 1) := by decide +kernel
theorem dX6_isSame_220 : decode cX6_isSame 220 = .ok (.iconst 0, 1) := by decide +kernel
theorem dX6_isSame_221 : decode cX6_isSame 221 = .ok (.aload_n 0, 1) := by decide +kernel
theorem dX6_isSame_222 : decode cX6_isSame 222 = .ok (.getfield 9, 3) := by decide +kernel
theorem dX6_isSame_225 : decode cX6_isSame 225 = .ok (.iload 4, 2) := by decide +kernel
theorem dX6_isSame_227 : decode cX6_isSame 227 = .ok (.aaload, 1) := by decide +kernel
theorem dX6_isSame_228 : decode cX6_isSame 228 = .ok (.iconst 0, 1) := by decide +kernel
theorem dX6_isSame_229 : decode cX6_isSame 229 = .ok (.iaload, 1) := by decide +kernel
theorem dX6_isSame_230 : decode cX6_isSame 230 = .ok (.iastore, 1) := by decide +kernel
theorem dX6_isSame_231 : decode cX6_isSame 231 = .ok (.dup, 1) := by decide +kernel
theorem dX6_isSame_232 : decode cX6_isSame 232 = .ok (.iconst 1, 1) := by decide +kernel
theorem dX6_isSame_233 : decode cX6_isSame 233 = .ok (.aload_n 0, 1) := by decide +kernel
theorem dX6_isSame_234 : decode cX6_isSame 234 = .ok (.getfield 9, 3) := by decide +kernel
theorem dX6_isSame_237 : decode cX6_isSame 237 = .ok (.iload 4, 2) := by decide +kernel
theorem dX6_isSame_239 : decode cX6_isSame 239 = .ok (.aaload, 1) := by decide +kernel
theorem dX6_isSame_240 : decode cX6_isSame 240 = .ok (.iconst 1, 1) := by decide +kernel
theorem dX6_isSame_241 : decode cX6_isSame 241 = .ok (.iaload, 1) := by decide +kernel
theorem dX6_isSame_242 : decode cX6_isSame 242 = .ok (.iastore, 1) := by decide +kernel
theorem dX6_isSame_243 : decode cX6_isSame 243 = .ok (.dup, 1) := by decide +kernel
theorem dX6_isSame_244 : decode cX6_isSame 244 = .ok (.iconst 2, 1) := by decide +kernel
theorem dX6_isSame_245 : decode cX6_isSame 245 = .ok (.aload_n 0, 1) := by decide +kernel
theorem dX6_isSame_246 : decode cX6_isSame 246 = .ok (.getfield 9, 3) := by decide +kernel
theorem dX6_isSame_249 : decode cX6_isSame 249 = .ok (.iload 4, 2) := by decide +kernel
theorem dX6_isSame_251 : decode cX6_isSame 251 = .ok (.aaload, 1) := by decide +kernel
theorem dX6_isSame_252 : decode cX6_isSame 252 = .ok (.iconst 2, 1) := by decide +kernel
theorem dX6_isSame_253 : decode cX6_isSame 253 = .ok (.iaload, 1) := by decide +kernel
theorem dX6_isSame_254 : decode cX6_isSame 254 = .ok (.iastore, 1) := by decide +kernel
theorem dX6_isSame_255 : decode cX6_isSame 255 = .ok (.dup, 1) := by decide +kernel
theorem dX6_isSame_256 : decode cX6_isSame 256 = .ok (.iconst 3, 1) := by decide +kernel
theorem dX6_isSame_257 : decode cX6_isSame 257 = .ok (.aload_n 3, 1) := by decide +kernel
theorem dX6_isSame_258 : decode cX6_isSame 258 = .ok (.iload 4, 2) := by decide +kernel
theorem dX6_isSame_260 : decode cX6_isSame 260 = .ok (.iaload, 1) := by decide +kernel
theorem dX6_isSame_261 : decode cX6_isSame 261 = .ok (.iastore, 1) := by decide +kernel
theorem dX6_isSame_262 : decode cX6_isSame 262 = .ok (.astore 5, 2) := by decide +kernel
theorem dX6_isSame_264 : decode cX6_isSame 264 = .ok (.iconst 0, 1) := by decide +kernel
theorem dX6_isSame_265 : decode cX6_isSame 265 = .ok (.istore 6, 2) := by decide +kernel
theorem dX6_isSame_267 : decode cX6_isSame 267 = .ok (.iload 6, 2) := by decide +kernel
theorem dX6_isSame_269 : decode cX6_isSame 269 = .ok (.iconst 4, 1) := by decide +kernel
theorem dX6_isSame_270 : decode cX6_isSame 270 = .ok (.if_icmp .ge 27, 3) := by decide +kernel
theorem dX6_isSame_273 : decode cX6_isSame 273 = .ok (.aload_n 1, 1) := by decide +kernel
theorem dX6_isSame_274 : decode cX6_isSame 274 = .ok (.iload 4, 2) := by decide +kernel
theorem dX6_isSame_276 : decode cX6_isSame 276 = .ok (.iload 6, 2) := by decide +kernel
theorem dX6_isSame_278 : decode cX6_isSame 278 = .ok (.invokevirtual 103, 3) := by decide +kernel
theorem dX6_isSame_281 : decode cX6_isSame 281 = .ok (.aload 5, 2) := by decide +kernel
theorem dX6_isSame_283 : decode cX6_isSame 283 = .ok (.iload 6, 2) := by decide +kernel
theorem dX6_isSame_285 : decode cX6_isSame 285 = .ok (.iaload, 1) := by decide +kernel
theorem dX6_isSame_286 : decode cX6_isSame 286 = .ok (.if_icmp .eq 5, 3) := by decide +kernel
theorem dX6_isSame_289 : decode cX6_isSame 289 = .ok (.iconst 0, 1) := by decide +kernel
theorem dX6_isSame_290 : decode cX6_isSame 290 = .ok (.ireturn, 1) := by decide +kernel
theorem dX6_isSame_291 : decode cX6_isSame 291 = .ok (.iinc 6 1, 3) := by decide +kernel
theorem dX6_isSame_294 : decode cX6_isSame 294 = .ok (.goto (-27), 3) := by decide +kernel
theorem dX6_isSame_297 : decode cX6_isSame 297 = .ok (.iinc 4 1, 3) := by decide +kernel
theorem dX6_isSame_300 : decode cX6_isSame 300 = .ok (.goto (-94), 3) := by decide +kernel
theorem dX6_isSame_303 : decode cX6_isSame 303 = .ok (.iconst 0, 1) := by decide +kernel
theorem dX6_isSame_304 : decode cX6_isSame 304 = .ok (.istore 4, 2) := by decide +kernel
theorem dX6_isSame_306 : decode cX6_isSame 306 = .ok (.iconst 0, 1) := by decide +kernel
theorem dX6_isSame_307 : decode cX6_isSame 307 = .ok (.istore 5, 2) := by decide +kernel
theorem dX6_isSame_309 : decode cX6_isSame 309 = .ok (.iload 5, 2) := by decide +kernel
theorem dX6_isSame_311 : decode cX6_isSame 311 = .ok (.aload_n 0, 1) := by decide +kernel
theorem dX6_isSame_312 : decode cX6_isSame 312 = .ok (.getfield 21, 3) := by decide +kernel
theorem dX6_isSame_315 : decode cX6_isSame 315 = .ok (.arraylength, 1) := by decide +kernel
theorem dX6_isSame_316 : decode cX6_isSame 316 = .ok (.if_icmp .ge 127, 3) := by decide +kernel
theorem dX6_isSame_319 : decode cX6_isSame 319 = .ok (.aload_n 0, 1) := by decide +kernel
theorem dX6_isSame_320 : decode cX6_isSame 320 = .ok (.getfield 21, 3) := by decide +kernel
theorem dX6_isSame_323 : decode cX6_isSame 323 = .ok (.iload 5, 2) := by decide +kernel
theorem dX6_isSame_325 : decode cX6_isSame 325 = .ok (.aaload, 1) := by decide +kernel
theorem dX6_isSame_326 : decode cX6_isSame 326 = .ok (.astore 6, 2) := by decide +kernel
theorem dX6_isSame_328 : decode cX6_isSame 328 = .ok (.bipush 7, 2) := by decide +kernel
theorem dX6_isSame_330 : decode cX6_isSame 330 = .ok (.newarray .int, 2) := by decide +kernel
theorem dX6_isSame_332 : decode cX6_isSame 332 = .ok (.dup, 1) := by decide +kernel
theorem dX6_isSame_333 : decode cX6_isSame 333 = .ok (.iconst 0, 1) := by decide +kernel
theorem dX6_isSame_334 : decode cX6_isSame 334 = .ok (.aload 6, 2) := by decide +kernel
theorem dX6_isSame_336 : decode cX6_isSame 336 = .ok (.iconst 0, 1) := by decide +kernel
theorem dX6_isSame_337 : decode cX6_isSame 337 = .ok (.iaload, 1) := by decide +kernel
theorem dX6_isSame_338 : decode cX6_isSame 338 = .ok (.iastore, 1) := by decide +kernel
theorem dX6_isSame_339 : decode cX6_isSame 339 = .ok (.dup, 1) := by decide +kernel
theorem dX6_isSame_340 : decode cX6_isSame 340 = .ok (.iconst 1, 1) := by decide +kernel
theorem dX6_isSame_341 : decode cX6_isSame 341 = .ok (.aload 6, 2) := by decide +kernel
theorem dX6_isSame_343 : decode cX6_isSame 343 = .ok (.iconst 1, 1) := by decide +kernel
theorem dX6_isSame_344 : decode cX6_isSame 344 = .ok (.iaload, 1) := by decide +kernel
theorem dX6_isSame_345 : decode cX6_isSame 345 = .ok (.iastore, 1) := by decide +kernel
theorem dX6_isSame_346 : decode cX6_isSame 346 = .ok (.dup, 1) := by decide +kernel
theorem dX6_isSame_347 : decode cX6_isSame 347 = .ok (.iconst 2, 1) := by decide +kernel
theorem dX6_isSame_348 : decode cX6_isSame 348 = .ok (.aload 6, 2) := by decide +kernel
theorem dX6_isSame_350 : decode cX6_isSame 350 = .ok (.iconst 2, 1) := by decide +kernel
theorem dX6_isSame_351 : decode cX6_isSame 351 = .ok (.iaload, 1) := by decide +kernel
theorem dX6_isSame_352 : decode cX6_isSame 352 = .ok (.iastore, 1) := by decide +kernel
theorem dX6_isSame_353 : decode cX6_isSame 353 = .ok (.dup, 1) := by decide +kernel
theorem dX6_isSame_354 : decode cX6_isSame 354 = .ok (.iconst 3, 1) := by decide +kernel
theorem dX6_isSame_355 : decode cX6_isSame 355 = .ok (.aload 6, 2) := by decide +kernel
theorem dX6_isSame_357 : decode cX6_isSame 357 = .ok (.iconst 3, 1) := by decide +kernel
theorem dX6_isSame_358 : decode cX6_isSame 358 = .ok (.iaload, 1) := by decide +kernel
theorem dX6_isSame_359 : decode cX6_isSame 359 = .ok (.ifCond .ge 7, 3) := by decide +kernel
theorem dX6_isSame_362 : decode cX6_isSame 362 = .ok (.iconst 1, 1) := by decide +kernel
theorem dX6_isSame_363 : decode cX6_isSame 363 = .ok (.goto 4, 3) := by decide +kernel
theorem dX6_isSame_366 : decode cX6_isSame 366 = .ok (.iconst 0, 1) := by decide +kernel
theorem dX6_isSame_367 : decode cX6_isSame 367 = .ok (.iastore, 1) := by decide +kernel
theorem dX6_isSame_368 : decode cX6_isSame 368 = .ok (.dup, 1) := by decide +kernel
theorem dX6_isSame_369 : decode cX6_isSame 369 = .ok (.iconst 4, 1) := by decide +kernel
theorem dX6_isSame_370 : decode cX6_isSame 370 = .ok (.aload_n 0, 1) := by decide +kernel
theorem dX6_isSame_371 : decode cX6_isSame 371 = .ok (.iload 5, 2) := by decide +kernel
theorem dX6_isSame_373 : decode cX6_isSame 373 = .ok (.invokevirtual 53, 3) := by decide +kernel
theorem dX6_isSame_376 : decode cX6_isSame 376 = .ok (.iastore, 1) := by decide +kernel
theorem dX6_isSame_377 : decode cX6_isSame 377 = .ok (.dup, 1) := by decide +kernel
theorem dX6_isSame_378 : decode cX6_isSame 378 = .ok (.iconst 5, 1) := by decide +kernel
theorem dX6_isSame_379 : decode cX6_isSame 379 = .ok (.aload 6, 2) := by decide +kernel
theorem dX6_isSame_381 : decode cX6_isSame 381 = .ok (.iconst 4, 1) := by decide +kernel
theorem dX6_isSame_382 : decode cX6_isSame 382 = .ok (.iaload, 1) := by decide +kernel
theorem dX6_isSame_383 : decode cX6_isSame 383 = .ok (.iastore, 1) := by decide +kernel
theorem dX6_isSame_384 : decode cX6_isSame 384 = .ok (.dup, 1) := by decide +kernel
theorem dX6_isSame_385 : decode cX6_isSame 385 = .ok (.bipush 6, 2) := by decide +kernel
theorem dX6_isSame_387 : decode cX6_isSame 387 = .ok (.aload 6, 2) := by decide +kernel
theorem dX6_isSame_389 : decode cX6_isSame 389 = .ok (.iconst 3, 1) := by decide +kernel
theorem dX6_isSame_390 : decode cX6_isSame 390 = .ok (.iaload, 1) := by decide +kernel
theorem dX6_isSame_391 : decode cX6_isSame 391 = .ok (.iastore, 1) := by decide +kernel
theorem dX6_isSame_392 : decode cX6_isSame 392 = .ok (.astore 7, 2) := by decide +kernel
theorem dX6_isSame_394 : decode cX6_isSame 394 = .ok (.iconst 0, 1) := by decide +kernel
theorem dX6_isSame_395 : decode cX6_isSame 395 = .ok (.istore 8, 2) := by decide +kernel
theorem dX6_isSame_397 : decode cX6_isSame 397 = .ok (.iload 8, 2) := by decide +kernel
theorem dX6_isSame_399 : decode cX6_isSame 399 = .ok (.bipush 7, 2) := by decide +kernel
theorem dX6_isSame_401 : decode cX6_isSame 401 = .ok (.if_icmp .ge 27, 3) := by decide +kernel
theorem dX6_isSame_404 : decode cX6_isSame 404 = .ok (.aload_n 1, 1) := by decide +kernel
theorem dX6_isSame_405 : decode cX6_isSame 405 = .ok (.iload 5, 2) := by decide +kernel
theorem dX6_isSame_407 : decode cX6_isSame 407 = .ok (.iload 8, 2) := by decide +kernel
theorem dX6_isSame_409 : decode cX6_isSame 409 = .ok (.invokevirtual 106, 3) := by decide +kernel
theorem dX6_isSame_412 : decode cX6_isSame 412 = .ok (.aload 7, 2) := by decide +kernel
theorem dX6_isSame_414 : decode cX6_isSame 414 = .ok (.iload 8, 2) := by decide +kernel
theorem dX6_isSame_416 : decode cX6_isSame 416 = .ok (.iaload, 1) := by decide +kernel
theorem dX6_isSame_417 : decode cX6_isSame 417 = .ok (.if_icmp .eq 5, 3) := by decide +kernel
theorem dX6_isSame_420 : decode cX6_isSame 420 = .ok (.iconst 0, 1) := by decide +kernel
theorem dX6_isSame_421 : decode cX6_isSame 421 = .ok (.ireturn, 1) := by decide +kernel
theorem dX6_isSame_422 : decode cX6_isSame 422 = .ok (.iinc 8 1, 3) := by decide +kernel
theorem dX6_isSame_425 : decode cX6_isSame 425 = .ok (.goto (-28), 3) := by decide +kernel
theorem dX6_isSame_428 : decode cX6_isSame 428 = .ok (.iload 4, 2) := by decide +kernel
theorem dX6_isSame_430 : decode cX6_isSame 430 = .ok (.aload 6, 2) := by decide +kernel
theorem dX6_isSame_432 : decode cX6_isSame 432 = .ok (.iconst 2, 1) := by decide +kernel
theorem dX6_isSame_433 : decode cX6_isSame 433 = .ok (.iaload, 1) := by decide +kernel
theorem dX6_isSame_434 : decode cX6_isSame 434 = .ok (.iadd, 1) := by decide +kernel
theorem dX6_isSame_435 : decode cX6_isSame 435 = .ok (.istore 4, 2) := by decide +kernel
theorem dX6_isSame_437 : decode cX6_isSame 437 = .ok (.iinc 5 1, 3) := by decide +kernel
theorem dX6_isSame_440 : decode cX6_isSame 440 = .ok (.goto (-131), 3) := by decide +kernel
theorem dX6_isSame_443 : decode cX6_isSame 443 = .ok (.iconst 0, 1) := by decide +kernel
theorem dX6_isSame_444 : decode cX6_isSame 444 = .ok (.istore 5, 2) := by decide +kernel
theorem dX6_isSame_446 : decode cX6_isSame 446 = .ok (.iload 5, 2) := by decide +kernel
theorem dX6_isSame_448 : decode cX6_isSame 448 = .ok (.aload_n 0, 1) := by decide +kernel
theorem dX6_isSame_449 : decode cX6_isSame 449 = .ok (.getfield 24, 3) := by decide +kernel
theorem dX6_isSame_452 : decode cX6_isSame 452 = .ok (.arraylength, 1) := by decide +kernel
theorem dX6_isSame_453 : decode cX6_isSame 453 = .ok (.if_icmp .ge 105, 3) := by decide +kernel
theorem dX6_isSame_456 : decode cX6_isSame 456 = .ok (.iconst 0, 1) := by decide +kernel
theorem dX6_isSame_457 : decode cX6_isSame 457 = .ok (.istore 6, 2) := by decide +kernel
theorem dX6_isSame_459 : decode cX6_isSame 459 = .ok (.iload 6, 2) := by decide +kernel
theorem dX6_isSame_461 : decode cX6_isSame 461 = .ok (.bipush 7, 2) := by decide +kernel
theorem dX6_isSame_463 : decode cX6_isSame 463 = .ok (.if_icmp .ge 32, 3) := by decide +kernel
theorem dX6_isSame_466 : decode cX6_isSame 466 = .ok (.aload_n 1, 1) := by decide +kernel
theorem dX6_isSame_467 : decode cX6_isSame 467 = .ok (.iload 5, 2) := by decide +kernel
theorem dX6_isSame_469 : decode cX6_isSame 469 = .ok (.iload 6, 2) := by decide +kernel
theorem dX6_isSame_471 : decode cX6_isSame 471 = .ok (.invokevirtual 109, 3) := by decide +kernel
theorem dX6_isSame_474 : decode cX6_isSame 474 = .ok (.aload_n 0, 1) := by decide +kernel
theorem dX6_isSame_475 : decode cX6_isSame 475 = .ok (.getfield 24, 3) := by decide +kernel
theorem dX6_isSame_478 : decode cX6_isSame 478 = .ok (.iload 5, 2) := by decide +kernel
theorem dX6_isSame_480 : decode cX6_isSame 480 = .ok (.aaload, 1) := by decide +kernel
theorem dX6_isSame_481 : decode cX6_isSame 481 = .ok (.iload 6, 2) := by decide +kernel
theorem dX6_isSame_483 : decode cX6_isSame 483 = .ok (.iaload, 1) := by decide +kernel
theorem dX6_isSame_484 : decode cX6_isSame 484 = .ok (.if_icmp .eq 5, 3) := by decide +kernel
theorem dX6_isSame_487 : decode cX6_isSame 487 = .ok (.iconst 0, 1) := by decide +kernel
theorem dX6_isSame_488 : decode cX6_isSame 488 = .ok (.ireturn, 1) := by decide +kernel
theorem dX6_isSame_489 : decode cX6_isSame 489 = .ok (.iinc 6 1, 3) := by decide +kernel
theorem dX6_isSame_492 : decode cX6_isSame 492 = .ok (.goto (-33), 3) := by decide +kernel
theorem dX6_isSame_495 : decode cX6_isSame 495 = .ok (.aload_n 1, 1) := by decide +kernel
theorem dX6_isSame_496 : decode cX6_isSame 496 = .ok (.iload 5, 2) := by decide +kernel
theorem dX6_isSame_498 : decode cX6_isSame 498 = .ok (.iconst 0, 1) := by decide +kernel
theorem dX6_isSame_499 : decode cX6_isSame 499 = .ok (.invokevirtual 112, 3) := by decide +kernel
theorem dX6_isSame_502 : decode cX6_isSame 502 = .ok (.aload_n 0, 1) := by decide +kernel
theorem dX6_isSame_503 : decode cX6_isSame 503 = .ok (.getfield 24, 3) := by decide +kernel
theorem dX6_isSame_506 : decode cX6_isSame 506 = .ok (.iload 5, 2) := by decide +kernel
theorem dX6_isSame_508 : decode cX6_isSame 508 = .ok (.aaload, 1) := by decide +kernel
theorem dX6_isSame_509 : decode cX6_isSame 509 = .ok (.bipush 7, 2) := by decide +kernel
theorem dX6_isSame_511 : decode cX6_isSame 511 = .ok (.iaload, 1) := by decide +kernel
theorem dX6_isSame_512 : decode cX6_isSame 512 = .ok (.if_icmp .ne 38, 3) := by decide +kernel
theorem dX6_isSame_515 : decode cX6_isSame 515 = .ok (.aload_n 1, 1) := by decide +kernel
theorem dX6_isSame_516 : decode cX6_isSame 516 = .ok (.iload 5, 2) := by decide +kernel
theorem dX6_isSame_518 : decode cX6_isSame 518 = .ok (.iconst 1, 1) := by decide +kernel
theorem dX6_isSame_519 : decode cX6_isSame 519 = .ok (.invokevirtual 112, 3) := by decide +kernel
theorem dX6_isSame_522 : decode cX6_isSame 522 = .ok (.aload_n 0, 1) := by decide +kernel
theorem dX6_isSame_523 : decode cX6_isSame 523 = .ok (.getfield 24, 3) := by decide +kernel
theorem dX6_isSame_526 : decode cX6_isSame 526 = .ok (.iload 5, 2) := by decide +kernel
theorem dX6_isSame_528 : decode cX6_isSame 528 = .ok (.aaload, 1) := by decide +kernel
theorem dX6_isSame_529 : decode cX6_isSame 529 = .ok (.bipush 8, 2) := by decide +kernel
theorem dX6_isSame_531 : decode cX6_isSame 531 = .ok (.iaload, 1) := by decide +kernel
theorem dX6_isSame_532 : decode cX6_isSame 532 = .ok (.if_icmp .ne 18, 3) := by decide +kernel
theorem dX6_isSame_535 : decode cX6_isSame 535 = .ok (.aload_n 1, 1) := by decide +kernel
theorem dX6_isSame_536 : decode cX6_isSame 536 = .ok (.iload 5, 2) := by decide +kernel
theorem dX6_isSame_538 : decode cX6_isSame 538 = .ok (.invokevirtual 115, 3) := by decide +kernel
theorem dX6_isSame_541 : decode cX6_isSame 541 = .ok (.aload_n 0, 1) := by decide +kernel
theorem dX6_isSame_542 : decode cX6_isSame 542 = .ok (.iload 5, 2) := by decide +kernel
theorem dX6_isSame_544 : decode cX6_isSame 544 = .ok (.invokevirtual 71, 3) := by decide +kernel
theorem dX6_isSame_547 : decode cX6_isSame 547 = .ok (.if_icmp .eq 5, 3) := by decide +kernel
theorem dX6_isSame_550 : decode cX6_isSame 550 = .ok (.iconst 0, 1) := by decide +kernel
theorem dX6_isSame_551 : decode cX6_isSame 551 = .ok (.ireturn, 1) := by decide +kernel
theorem dX6_isSame_552 : decode cX6_isSame 552 = .ok (.iinc 5 1, 3) := by decide +kernel
theorem dX6_isSame_555 : decode cX6_isSame 555 = .ok (.goto (-109), 3) := by decide +kernel
theorem dX6_isSame_558 : decode cX6_isSame 558 = .ok (.aload_n 0, 1) := by decide +kernel
theorem dX6_isSame_559 : decode cX6_isSame 559 = .ok (.invokevirtual 116, 3) := by decide +kernel
theorem dX6_isSame_562 : decode cX6_isSame 562 = .ok (.astore 5, 2) := by decide +kernel
theorem dX6_isSame_564 : decode cX6_isSame 564 = .ok (.iconst 0, 1) := by decide +kernel
theorem dX6_isSame_565 : decode cX6_isSame 565 = .ok (.istore 6, 2) := by decide +kernel
theorem dX6_isSame_567 : decode cX6_isSame 567 = .ok (.iload 6, 2) := by decide +kernel
theorem dX6_isSame_569 : decode cX6_isSame 569 = .ok (.bipush 14, 2) := by decide +kernel
theorem dX6_isSame_571 : decode cX6_isSame 571 = .ok (.if_icmp .ge 25, 3) := by decide +kernel
theorem dX6_isSame_574 : decode cX6_isSame 574 = .ok (.aload_n 1, 1) := by decide +kernel
theorem dX6_isSame_575 : decode cX6_isSame 575 = .ok (.iload 6, 2) := by decide +kernel
theorem dX6_isSame_577 : decode cX6_isSame 577 = .ok (.invokevirtual 120, 3) := by decide +kernel
theorem dX6_isSame_580 : decode cX6_isSame 580 = .ok (.aload 5, 2) := by decide +kernel
theorem dX6_isSame_582 : decode cX6_isSame 582 = .ok (.iload 6, 2) := by decide +kernel
theorem dX6_isSame_584 : decode cX6_isSame 584 = .ok (.iaload, 1) := by decide +kernel
theorem dX6_isSame_585 : decode cX6_isSame 585 = .ok (.if_icmp .eq 5, 3) := by decide +kernel
theorem dX6_isSame_588 : decode cX6_isSame 588 = .ok (.iconst 0, 1) := by decide +kernel
theorem dX6_isSame_589 : decode cX6_isSame 589 = .ok (.ireturn, 1) := by decide +kernel
theorem dX6_isSame_590 : decode cX6_isSame 590 = .ok (.iinc 6 1, 3) := by decide +kernel
theorem dX6_isSame_593 : decode cX6_isSame 593 = .ok (.goto (-26), 3) := by decide +kernel
theorem dX6_isSame_596 : decode cX6_isSame 596 = .ok (.aload_n 1, 1) := by decide +kernel
theorem dX6_isSame_597 : decode cX6_isSame 597 = .ok (.invokevirtual 123, 3) := by decide +kernel
theorem dX6_isSame_600 : decode cX6_isSame 600 = .ok (.iload_n 2, 1) := by decide +kernel
theorem dX6_isSame_601 : decode cX6_isSame 601 = .ok (.if_icmp .ne 37, 3) := by decide +kernel
theorem dX6_isSame_604 : decode cX6_isSame 604 = .ok (.aload_n 1, 1) := by decide +kernel
theorem dX6_isSame_605 : decode cX6_isSame 605 = .ok (.invokevirtual 127, 3) := by decide +kernel
theorem dX6_isSame_608 : decode cX6_isSame 608 = .ok (.aload_n 0, 1) := by decide +kernel
theorem dX6_isSame_609 : decode cX6_isSame 609 = .ok (.getfield 21, 3) := by decide +kernel
theorem dX6_isSame_612 : decode cX6_isSame 612 = .ok (.arraylength, 1) := by decide +kernel
theorem dX6_isSame_613 : decode cX6_isSame 613 = .ok (.ifCond .ne 7, 3) := by decide +kernel
theorem dX6_isSame_616 : decode cX6_isSame 616 = .ok (.dconst 0, 1) := by decide +kernel
theorem dX6_isSame_617 : decode cX6_isSame 617 = .ok (.goto 13, 3) := by decide +kernel
theorem dX6_isSame_620 : decode cX6_isSame 620 = .ok (.iload 4, 2) := by decide +kernel
theorem dX6_isSame_622 : decode cX6_isSame 622 = .ok (.i2d, 1) := by decide +kernel
theorem dX6_isSame_623 : decode cX6_isSame 623 = .ok (.aload_n 0, 1) := by decide +kernel
theorem dX6_isSame_624 : decode cX6_isSame 624 = .ok (.getfield 21, 3) := by decide +kernel
theorem dX6_isSame_627 : decode cX6_isSame 627 = .ok (.arraylength, 1) := by decide +kernel
theorem dX6_isSame_628 : decode cX6_isSame 628 = .ok (.i2d, 1) := by decide +kernel
theorem dX6_isSame_629 : decode cX6_isSame 629 = .ok (.ddiv, 1) := by decide +kernel
theorem dX6_isSame_630 : decode cX6_isSame 630 = .ok (.dcmp .l, 1) := by decide +kernel
theorem dX6_isSame_631 : decode cX6_isSame 631 = .ok (.ifCond .ne 7, 3) := by decide +kernel
theorem dX6_isSame_634 : decode cX6_isSame 634 = .ok (.iconst 1, 1) := by decide +kernel
theorem dX6_isSame_635 : decode cX6_isSame 635 = .ok (.goto 4, 3) := by decide +kernel
theorem dX6_isSame_638 : decode cX6_isSame 638 = .ok (.iconst 0, 1) := by decide +kernel
theorem dX6_isSame_639 : decode cX6_isSame 639 = .ok (.ireturn, 1) := by decide +kernel
theorem mi_X6_isSame : MInfo yX6_isSame cX6_isSame 10 (some .boolean) 1 := ⟨wq_876, wq_69, by decide, ⟨by decide +kernel, by decide +kernel, by decide +kernel⟩, by decide +kernel⟩
def wl_X6_isSame_567 (q : Nat → Nat) (P : M2) (nn : Nat → Nat) (V : M2) (S : M2) (O : M2) (K : Int32 → Nat → M2 → M2 → M2 → M2 → M2 → M2 → M2 → Prop) : Nat → Nat → M2 → M2 → M2 → M2 → M2 → M2 → M2 → (Nat → Int32) → Int32 → Int32 → Int32 → Prop
  | 0, _, _, _, _, _, _, _, _, _, _, _, _ => False
  | n + 1, ap, F, G, C, N, U, L, B, e559, v2, v4, v6 => ((14 ≤ v6 → wp_X5_worst q P ap F G C (fun r_597 => ((¬ r_597 = v2 → K 0 ap F G C N U L B) ∧ (r_597 = v2 → wp_X5_mean q P ap F G C (fun r_605 ap_605 F_605 G_605 C_605 => ((¬ (Int32.ofNat (nn 3)) = 0 → (vf_n64 (FP.ddiv (FP.i2d v4) (FP.i2d (Int32.ofNat (nn 3)))) ∧ ((¬ (Op.cmpValue (FP.dcmp r_605 (FP.ddiv (FP.i2d v4) (FP.i2d (Int32.ofNat (nn 3))))) CmpOp.l) = 0 → K 0 ap_605 F_605 G_605 C_605 N U L B) ∧ ((Op.cmpValue (FP.dcmp r_605 (FP.ddiv (FP.i2d v4) (FP.i2d (Int32.ofNat (nn 3))))) CmpOp.l) = 0 → K 1 ap_605 F_605 G_605 C_605 N U L B)))) ∧ ((Int32.ofNat (nn 3)) = 0 → ((¬ (Op.cmpValue (FP.dcmp r_605 FP.dconst0) CmpOp.l) = 0 → K 0 ap_605 F_605 G_605 C_605 N U L B) ∧ ((Op.cmpValue (FP.dcmp r_605 FP.dconst0) CmpOp.l) = 0 → K 1 ap_605 F_605 G_605 C_605 N U L B))))))))) ∧ (¬ 14 ≤ v6 → wp_X5_count q P (fun _ => False) ap F G C v6 (fun r_577 => (inb v6 (14) ∧ ((r_577 = (e559 v6.toInt.toNat) → (∀ v6_590 : Int32, v6_590 = v6 + 1 → wl_X6_isSame_567 q P nn V S O K n ap F G C N U L B e559 v2 v4 v6_590)) ∧ (¬ r_577 = (e559 v6.toInt.toNat) → K 0 ap F G C N U L B))))))
def wl_X6_isSame_459 (q : Nat → Nat) (P : M2) (nn : Nat → Nat) (V : M2) (S : M2) (O : M2) (C446 : Nat → M2 → M2 → M2 → M2 → M2 → M2 → M2 → Int32 → Int32 → Int32 → Prop) (K : Int32 → Nat → M2 → M2 → M2 → M2 → M2 → M2 → M2 → Prop) : Nat → Nat → M2 → M2 → M2 → M2 → M2 → M2 → M2 → Int32 → Int32 → Int32 → Int32 → Prop
  | 0, _, _, _, _, _, _, _, _, _, _, _, _ => False
  | n + 1, ap, F, G, C, N, U, L, B, v2, v4, v5, v6 => ((7 ≤ v6 → wp_X5_crew q P (fun _ => False) ap F G C v5 0 (fun r_499 => (inb v5 (nn 4) ∧ (inb v5 (nn 4) ∧ ((¬ r_499 = (B v5.toInt.toNat 7) → K 0 ap F G C N U L B) ∧ (r_499 = (B v5.toInt.toNat 7) → wp_X5_crew q P (fun _ => False) ap F G C v5 1 (fun r_519 => (inb v5 (nn 4) ∧ (inb v5 (nn 4) ∧ ((¬ r_519 = (B v5.toInt.toNat 8) → K 0 ap F G C N U L B) ∧ (r_519 = (B v5.toInt.toNat 8) → wp_X5_canEnter q P (fun _ => False) ap F G C v5 (fun r_538 ap_538 F_538 G_538 C_538 => wp_X6_canEnter nn V S O N U L B v5 (fun r_544 => ((r_538 = r_544 → (∀ v5_552 : Int32, v5_552 = v5 + 1 → C446 ap_538 F_538 G_538 C_538 N U L B v2 v4 v5_552)) ∧ (¬ r_538 = r_544 → K 0 ap_538 F_538 G_538 C_538 N U L B))))))))))))))) ∧ (¬ 7 ≤ v6 → wp_X5_boat q P (fun _ => False) ap F G C v5 v6 (fun r_471 => (inb v5 (nn 4) ∧ (inb v5 (nn 4) ∧ inb v6 9 ∧ ((r_471 = (B v5.toInt.toNat v6.toInt.toNat) → (∀ v6_489 : Int32, v6_489 = v6 + 1 → wl_X6_isSame_459 q P nn V S O C446 K n ap F G C N U L B v2 v4 v5 v6_489)) ∧ (¬ r_471 = (B v5.toInt.toNat v6.toInt.toNat) → K 0 ap F G C N U L B)))))))
def wl_X6_isSame_446 (q : Nat → Nat) (P : M2) (nn : Nat → Nat) (V : M2) (S : M2) (O : M2) (K : Int32 → Nat → M2 → M2 → M2 → M2 → M2 → M2 → M2 → Prop) : Nat → Nat → M2 → M2 → M2 → M2 → M2 → M2 → M2 → Int32 → Int32 → Int32 → Prop
  | 0, _, _, _, _, _, _, _, _, _, _, _ => False
  | n + 1, ap, F, G, C, N, U, L, B, v2, v4, v5 => (((Int32.ofNat (nn 4)) ≤ v5 → wp_X6_counts nn V S O N U L B (fun e559 => wl_X6_isSame_567 q P nn V S O K fK ap F G C N U L B e559 v2 v4 0)) ∧ (¬ (Int32.ofNat (nn 4)) ≤ v5 → wl_X6_isSame_459 q P nn V S O (wl_X6_isSame_446 q P nn V S O K n) K fK ap F G C N U L B v2 v4 v5 0))
def wl_X6_isSame_397 (q : Nat → Nat) (P : M2) (nn : Nat → Nat) (V : M2) (S : M2) (O : M2) (C309 : Nat → M2 → M2 → M2 → M2 → M2 → M2 → M2 → Int32 → Int32 → Int32 → Prop) (K : Int32 → Nat → M2 → M2 → M2 → M2 → M2 → M2 → M2 → Prop) : Nat → Nat → M2 → M2 → M2 → M2 → M2 → M2 → M2 → (Nat → Int32) → Int32 → Int32 → Int32 → Int32 → Int32 → Prop
  | 0, _, _, _, _, _, _, _, _, _, _, _, _, _, _ => False
  | n + 1, ap, F, G, C, N, U, L, B, e330, v2, v4, v5, v6, v8 => ((7 ≤ v8 → (inb v6 (nn 3) ∧ (∀ v4_435, v4_435 = v4 + (L v6.toInt.toNat 2) → (∀ v5_437 : Int32, v5_437 = v5 + 1 → C309 ap F G C N U L B v2 v4_435 v5_437)))) ∧ (¬ 7 ≤ v8 → wp_X5_legger q P (fun _ => False) ap F G C v5 v8 (fun r_409 => (inb v8 (7) ∧ ((r_409 = (e330 v8.toInt.toNat) → (∀ v8_422 : Int32, v8_422 = v8 + 1 → wl_X6_isSame_397 q P nn V S O C309 K n ap F G C N U L B e330 v2 v4 v5 v6 v8_422)) ∧ (¬ r_409 = (e330 v8.toInt.toNat) → K 0 ap F G C N U L B))))))
def wj_X6_isSame_367 (q : Nat → Nat) (P : M2) (nn : Nat → Nat) (V : M2) (S : M2) (O : M2) (C309 : Nat → M2 → M2 → M2 → M2 → M2 → M2 → M2 → Int32 → Int32 → Int32 → Prop) (K : Int32 → Nat → M2 → M2 → M2 → M2 → M2 → M2 → M2 → Prop) (ap : Nat) (F : M2) (G : M2) (C : M2) (N : M2) (U : M2) (L : M2) (B : M2) (e330 : (Nat → Int32)) (v2 : Int32) (v4 : Int32) (v5 : Int32) (v6 : Int32) (q0 : Int32) (q1 : Int32) : Prop := (inb q1 (7) ∧ ∀ e330_367 : Nat → Int32, e330_367 = upd e330 q1.toInt.toNat q0 → wp_X6_boatOf nn V S O N U L B v5 (fun r_373 => (inb (4 : Int32) (7) ∧ ∀ e330_376 : Nat → Int32, e330_376 = upd e330_367 4 r_373 → (inb v6 (nn 3) ∧ (inb (5 : Int32) (7) ∧ ∀ e330_383 : Nat → Int32, e330_383 = upd e330_376 5 (L v6.toInt.toNat 4) → (inb v6 (nn 3) ∧ (inb (6 : Int32) (7) ∧ ∀ e330_391 : Nat → Int32, e330_391 = upd e330_383 6 (L v6.toInt.toNat 3) → wl_X6_isSame_397 q P nn V S O C309 K fK ap F G C N U L B e330_391 v2 v4 v5 v6 0)))))))
def wl_X6_isSame_309 (q : Nat → Nat) (P : M2) (nn : Nat → Nat) (V : M2) (S : M2) (O : M2) (K : Int32 → Nat → M2 → M2 → M2 → M2 → M2 → M2 → M2 → Prop) : Nat → Nat → M2 → M2 → M2 → M2 → M2 → M2 → M2 → Int32 → Int32 → Int32 → Prop
  | 0, _, _, _, _, _, _, _, _, _, _, _ => False
  | n + 1, ap, F, G, C, N, U, L, B, v2, v4, v5 => (((Int32.ofNat (nn 3)) ≤ v5 → wl_X6_isSame_446 q P nn V S O K fK ap F G C N U L B v2 v4 0) ∧ (¬ (Int32.ofNat (nn 3)) ≤ v5 → (inb v5 (nn 3) ∧ (inb v5 (nn 3) ∧ (inb (0 : Int32) (7) ∧ ∀ e330_338 : Nat → Int32, e330_338 = upd ((fun _ => 0)) 0 (L v5.toInt.toNat 0) → (inb v5 (nn 3) ∧ (inb (1 : Int32) (7) ∧ ∀ e330_345 : Nat → Int32, e330_345 = upd e330_338 1 (L v5.toInt.toNat 1) → (inb v5 (nn 3) ∧ (inb (2 : Int32) (7) ∧ ∀ e330_352 : Nat → Int32, e330_352 = upd e330_345 2 (L v5.toInt.toNat 2) → (inb v5 (nn 3) ∧ ((0 ≤ (L v5.toInt.toNat 3) → wj_X6_isSame_367 q P nn V S O (wl_X6_isSame_309 q P nn V S O K n) K ap F G C N U L B e330_352 v2 v4 v5 v5 0 3) ∧ (¬ 0 ≤ (L v5.toInt.toNat 3) → wj_X6_isSame_367 q P nn V S O (wl_X6_isSame_309 q P nn V S O K n) K ap F G C N U L B e330_352 v2 v4 v5 v5 1 3))))))))))))
def wl_X6_isSame_267 (q : Nat → Nat) (P : M2) (nn : Nat → Nat) (V : M2) (S : M2) (O : M2) (C206 : Nat → M2 → M2 → M2 → M2 → M2 → M2 → M2 → (Nat → Int32) → Int32 → Int32 → Prop) (K : Int32 → Nat → M2 → M2 → M2 → M2 → M2 → M2 → M2 → Prop) : Nat → Nat → M2 → M2 → M2 → M2 → M2 → M2 → M2 → (Nat → Int32) → (Nat → Int32) → Int32 → Int32 → Int32 → Prop
  | 0, _, _, _, _, _, _, _, _, _, _, _, _, _ => False
  | n + 1, ap, F, G, C, N, U, L, B, e217, e7, v2, v4, v6 => ((4 ≤ v6 → (∀ v4_297 : Int32, v4_297 = v4 + 1 → C206 ap F G C N U L B e7 v2 v4_297)) ∧ (¬ 4 ≤ v6 → wp_X5_bore q P (fun _ => False) ap F G C v4 v6 (fun r_278 => (inb v6 (4) ∧ ((r_278 = (e217 v6.toInt.toNat) → (∀ v6_291 : Int32, v6_291 = v6 + 1 → wl_X6_isSame_267 q P nn V S O C206 K n ap F G C N U L B e217 e7 v2 v4 v6_291)) ∧ (¬ r_278 = (e217 v6.toInt.toNat) → K 0 ap F G C N U L B))))))
def wl_X6_isSame_206 (q : Nat → Nat) (P : M2) (nn : Nat → Nat) (V : M2) (S : M2) (O : M2) (K : Int32 → Nat → M2 → M2 → M2 → M2 → M2 → M2 → M2 → Prop) : Nat → Nat → M2 → M2 → M2 → M2 → M2 → M2 → M2 → (Nat → Int32) → Int32 → Int32 → Prop
  | 0, _, _, _, _, _, _, _, _, _, _, _ => False
  | n + 1, ap, F, G, C, N, U, L, B, e7, v2, v4 => (((Int32.ofNat (nn 0)) ≤ v4 → wl_X6_isSame_309 q P nn V S O K 8 ap F G C N U L B v2 0 0) ∧ (¬ (Int32.ofNat (nn 0)) ≤ v4 → (inb v4 (nn 0) ∧ (inb v4 (nn 0) ∧ (inb (0 : Int32) (4) ∧ ∀ e217_230 : Nat → Int32, e217_230 = upd ((fun _ => 0)) 0 (V v4.toInt.toNat 0) → (inb v4 (nn 0) ∧ (inb v4 (nn 0) ∧ (inb (1 : Int32) (4) ∧ ∀ e217_242 : Nat → Int32, e217_242 = upd e217_230 1 (V v4.toInt.toNat 1) → (inb v4 (nn 0) ∧ (inb v4 (nn 0) ∧ (inb (2 : Int32) (4) ∧ ∀ e217_254 : Nat → Int32, e217_254 = upd e217_242 2 (V v4.toInt.toNat 2) → (inb v4 (nn 0) ∧ (inb (3 : Int32) (4) ∧ ∀ e217_261 : Nat → Int32, e217_261 = upd e217_254 3 (e7 v4.toInt.toNat) → wl_X6_isSame_267 q P nn V S O (wl_X6_isSame_206 q P nn V S O K n) K fK ap F G C N U L B e217_261 e7 v2 v4 0)))))))))))))
def wj_X6_isSame_174 (q : Nat → Nat) (P : M2) (nn : Nat → Nat) (V : M2) (S : M2) (O : M2) (C13 : Nat → M2 → M2 → M2 → M2 → M2 → M2 → M2 → (Nat → Int32) → Int32 → Int32 → Prop) (K : Int32 → Nat → M2 → M2 → M2 → M2 → M2 → M2 → M2 → Prop) (ap : Nat) (F : M2) (G : M2) (C : M2) (N : M2) (U : M2) (L : M2) (B : M2) (e7 : (Nat → Int32)) (v2 : Int32) (v4 : Int32) : Prop := (inb v4 (nn 1) ∧ (inb v4 (nn 1) ∧ (inb (U v4.toInt.toNat 0) (nn 0) ∧ (inb v4 (nn 1) ∧ (inb v4 (nn 1) ∧ (inb (U v4.toInt.toNat 0) (nn 0) ∧ ∀ e7_196 : Nat → Int32, e7_196 = upd e7 ((U v4.toInt.toNat 0).toInt.toNat) ((e7 ((U v4.toInt.toNat 0).toInt.toNat)) + (U v4.toInt.toNat 1)) → (∀ v4_197 : Int32, v4_197 = v4 + 1 → C13 ap F G C N U L B e7_196 v2 v4_197)))))))
def wl_X6_isSame_40 (q : Nat → Nat) (P : M2) (nn : Nat → Nat) (V : M2) (S : M2) (O : M2) (C13 : Nat → M2 → M2 → M2 → M2 → M2 → M2 → M2 → (Nat → Int32) → Int32 → Int32 → Prop) (K : Int32 → Nat → M2 → M2 → M2 → M2 → M2 → M2 → M2 → Prop) : Nat → Nat → M2 → M2 → M2 → M2 → M2 → M2 → M2 → (Nat → Int32) → Int32 → Int32 → Int32 → Int32 → Int32 → Prop
  | 0, _, _, _, _, _, _, _, _, _, _, _, _, _, _ => False
  | n + 1, ap, F, G, C, N, U, L, B, e7, v2, v4, v5, v7, v8 => ((v7 ≤ v8 → wp_X5_place q P (fun _ => False) ap F G C v4 0 (fun r_83 => (inb v4 (nn 1) ∧ (inb v4 (nn 1) ∧ ((¬ r_83 = (U v4.toInt.toNat 0) → K 0 ap F G C N U L B) ∧ (r_83 = (U v4.toInt.toNat 0) → wp_X5_place q P (fun _ => False) ap F G C v4 1 (fun r_102 => (inb v4 (nn 1) ∧ (inb v4 (nn 1) ∧ ((¬ r_102 = (U v4.toInt.toNat 1) → K 0 ap F G C N U L B) ∧ (r_102 = (U v4.toInt.toNat 1) → wp_X5_place q P (fun _ => False) ap F G C v4 2 (fun r_121 => ((¬ r_121 = v5 → K 0 ap F G C N U L B) ∧ (r_121 = v5 → wp_X5_place q P (fun _ => False) ap F G C v4 3 (fun r_133 => wp_X6_boatAt nn V S O N U L B v4 (fun r_139 => ((r_133 = r_139 → ((v2 < 0 → wj_X6_isSame_174 q P nn V S O C13 K ap F G C N U L B e7 v4 v4) ∧ (¬ v2 < 0 → (inb v4 (nn 1) ∧ (inb v4 (nn 1) ∧ (inb v2 (nn 1) ∧ (inb v2 (nn 1) ∧ (((U v2.toInt.toNat 1) ≤ (U v4.toInt.toNat 1) → wj_X6_isSame_174 q P nn V S O C13 K ap F G C N U L B e7 v2 v4) ∧ (¬ (U v2.toInt.toNat 1) ≤ (U v4.toInt.toNat 1) → wj_X6_isSame_174 q P nn V S O C13 K ap F G C N U L B e7 v4 v4))))))))) ∧ (¬ r_133 = r_139 → K 0 ap F G C N U L B)))))))))))))))))) ∧ (¬ v7 ≤ v8 → (inb v8 (nn 3) ∧ (inb v8 (nn 3) ∧ ((¬ (L v8.toInt.toNat 3) = v4 → (∀ v5_71, v5_71 = v5 + 0 → (∀ v8_73 : Int32, v8_73 = v8 + 1 → wl_X6_isSame_40 q P nn V S O C13 K n ap F G C N U L B e7 v2 v4 v5_71 v7 v8_73))) ∧ ((L v8.toInt.toNat 3) = v4 → (∀ v5_71, v5_71 = v5 + 1 → (∀ v8_73 : Int32, v8_73 = v8 + 1 → wl_X6_isSame_40 q P nn V S O C13 K n ap F G C N U L B e7 v2 v4 v5_71 v7 v8_73))))))))
def wl_X6_isSame_13 (q : Nat → Nat) (P : M2) (nn : Nat → Nat) (V : M2) (S : M2) (O : M2) (K : Int32 → Nat → M2 → M2 → M2 → M2 → M2 → M2 → M2 → Prop) : Nat → Nat → M2 → M2 → M2 → M2 → M2 → M2 → M2 → (Nat → Int32) → Int32 → Int32 → Prop
  | 0, _, _, _, _, _, _, _, _, _, _, _ => False
  | n + 1, ap, F, G, C, N, U, L, B, e7, v2, v4 => (((Int32.ofNat (nn 1)) ≤ v4 → wl_X6_isSame_206 q P nn V S O K 4 ap F G C N U L B e7 v2 0) ∧ (¬ (Int32.ofNat (nn 1)) ≤ v4 → (∀ v7_35, v7_35 = Int32.ofNat (nn 3) → wl_X6_isSame_40 q P nn V S O (wl_X6_isSame_13 q P nn V S O K n) K fK ap F G C N U L B e7 v2 v4 0 v7_35 0)))
def wp_X6_isSame (q : Nat → Nat) (P : M2) (nn : Nat → Nat) (V : M2) (S : M2) (O : M2) (ap : Nat) (F : M2) (G : M2) (C : M2) (N : M2) (U : M2) (L : M2) (B : M2) (K : Int32 → Nat → M2 → M2 → M2 → M2 → M2 → M2 → M2 → Prop) : Prop := (nn 0 ≤ 64 ∧ wl_X6_isSame_13 q P nn V S O K fK ap F G C N U L B ((fun _ => 0)) ((-1)) 0)
set_option maxRecDepth 100000 in
set_option maxHeartbeats 4000000 in
theorem c_X6_isSame (l : Launch) (D : va_G) (Z : Nat → ClassId) (a b q : Nat → Nat) (ca tp rd sp : Nat) (P : M2) (sa : Nat) (o : Nat → Nat) (ro : Nat → Nat → Nat) (nn : Nat → Nat) (V S O : M2) (ap : Nat) (F : M2) (G : M2) (C : M2) (N : M2) (U : M2) (L : M2) (B : M2) (sz : Nat) (K : Int32 → Nat → M2 → M2 → M2 → M2 → M2 → M2 → M2 → Prop) (hm : wp_X6_isSame q P nn V S O ap F G C N U L B K) : Met l yX6_isSame (wy yX6_isSame cX6_isSame 10 (some .boolean)) (rk 8 14 150) (pre vwCl D Z (LW Z a b q ca tp rd sp P sa o ro nn V S O ap F G C N U L B) sz [.ref (sa), .ref (ca)]) (poI vwCl D Z (fun u : Nat × M2 × M2 × M2 × M2 × M2 × M2 × M2 => LW Z a b q ca tp rd sp P sa o ro nn V S O u.1 u.2.1 u.2.2.1 u.2.2.2.1 u.2.2.2.2.1 u.2.2.2.2.2.1 u.2.2.2.2.2.2.1 u.2.2.2.2.2.2.2) (ap, F, G, C, N, U, L, B) sz (fun (r : Int32) (u : Nat × M2 × M2 × M2 × M2 × M2 × M2 × M2) => K r u.1 u.2.1 u.2.2.1 u.2.2.2.1 u.2.2.2.2.1 u.2.2.2.2.2.1 u.2.2.2.2.2.2.1 u.2.2.2.2.2.2.2)) 14 150 (va_A (LW Z a b q ca tp rd sp P sa o ro nn V S O ap F G C N U L B) sz) := by
  refine rw_of (ty := .boolean) (wsF := (fun u : Nat × M2 × M2 × M2 × M2 × M2 × M2 × M2 => LW Z a b q ca tp rd sp P sa o ro nn V S O u.1 u.2.1 u.2.2.1 u.2.2.2.1 u.2.2.2.2.1 u.2.2.2.2.2.1 u.2.2.2.2.2.2.1 u.2.2.2.2.2.2.2)) (u0 := (ap, F, G, C, N, U, L, B)) (by decide +kernel) (Nat.le_of_ble_eq_true rfl) rfl ?_
  intro p e s m args below meth c Q A hC hN hsz hT hK hret ls hl
  have hx := hC.1
  have hb := hC.2.1
  have hl : lv_has ls 10 [(0, .ref (sa)), (1, .ref (ca))] := hl
  have hT : TS vwCl D (LW Z a b q ca tp rd sp P sa o ro nn V S O ap F G C N U L B) A s.heap s.heap [] := hT
  have hT : TS vwCl D ([] ++ ((CA Z a b q ca tp rd sp P ap F G C) ++ ((SM Z sa o ro nn V S O N U L B) ++ []))) A s.heap s.heap [] := hT
  have L567 : ∀ (n567 : Nat), ∀ (ap : Nat) (F : M2) (G : M2) (C : M2) (N : M2) (U : M2) (L : M2) (B : M2) (e559 : (Nat → Int32)) (v2 : Int32) (v4 : Int32) (v6 : Int32) (ae559 : Nat) (H : Heap) (locs : List Loc) (ls : Array Slot) (cc cs : Nat), wl_X6_isSame_567 q P nn V S O K n567 ap F G C N U L B e559 v2 v4 v6 → TS vwCl D ([(ae559, .inl (Z 0, 14, .inl e559))] ++ ((CA Z a b q ca tp rd sp P ap F G C) ++ ((SM Z sa o ro nn V S O N U L B) ++ []))) A s.heap H locs → lv_has ls 10 [(0, .ref (sa)), (1, .ref (ca)), (2, .int v2), (4, .int v4), (5, .ref ae559), (6, .int v6)] → cc + (n567 * 0 + 0) ≤ 14 ∧ cs + (n567 * 0 + 0) ≤ 150 → W p l e (rk 8 14 150) s m args below meth c H locs cc cs Q (F0 m 567 ls []) := by
    intro n567
    induction n567 with
    | zero =>
      intro ap F G C N U L B e559 v2 v4 v6 ae559 H locs ls cc cs hm hT hl hcb
      exact False.elim hm
    | succ n567 ih567 =>
      intro ap F G C N U L B e559 v2 v4 v6 ae559 H locs ls cc cs hm hT hl hcb
      refine lv_iload hx hb dX6_isSame_567 (lv_at hl 5 rfl) ?_
      refine lv_bipush (v := 14) hx hb dX6_isSame_569 (by decide) ?_
      refine lv_icmp_ge (tgt := 596) hx hb dX6_isSame_571 (by decide) (fun c_571 => ?_) (fun c_571 => ?_)
      · have hm := hm.1 c_571
        refine lv_aload_n hx hb dX6_isSame_596 rfl (lv_at hl 1 rfl) ?_
        refine k_X5_worst hC hN hK hT.dropL.dropR.1 hT.dropL.dropR.D' hm wq_892 (by decide) hl.1 (Nat.le_of_ble_eq_true rfl) ⟨by omega, by omega⟩ dX6_isSame_597 (fun r_597 hm => ?_)
        refine lv_iload_n hx hb dX6_isSame_600 rfl (lv_at hl 2 rfl) ?_
        refine lv_icmp_ne (tgt := 638) hx hb dX6_isSame_601 (by decide) (fun c_601 => ?_) (fun c_601 => ?_)
        · have hm := hm.1 c_601
          refine lv_iconst (v := 0) hx hb dX6_isSame_638 (by decide) ?_
          have hT : TS vwCl D ([] ++ ((CA Z a b q ca tp rd sp P ap F G C) ++ ((SM Z sa o ro nn V S O N U L B) ++ []))) A s.heap _ _ := hT.sub (List.Sublist.cons _ (List.Sublist.refl _))
          refine W.widen (k := 14) (n := 150) (by omega) (by omega) ?_
          exact hret 639 _ _ _ _ (ap, F, G, C, N, U, L, B) hm hT rfl dX6_isSame_639
        · have hm := hm.2 c_601
          refine lv_aload_n hx hb dX6_isSame_604 rfl (lv_at hl 1 rfl) ?_
          refine kx_X5_mean hC hN hK (hT.perm (pm2 _ _ _)) (Cut.app (N := 46) (wsF := fun u : Nat × M2 × M2 × M2 => CA Z a b q ca tp rd sp P u.1 u.2.1 u.2.2.1 u.2.2.2) (u0 := (ap, F, G, C)) (fun _ => rfl)) (range_nd _) hm wq_893 (by decide) hl.1 (Nat.le_of_ble_eq_true rfl) ⟨by omega, by omega⟩ dX6_isSame_605 (fun r_605 ap_605 F_605 G_605 C_605 H locs hm hT => ?_)
          have hT : TS vwCl D ([(ae559, .inl (Z 0, 14, .inl e559))] ++ ((CA Z a b q ca tp rd sp P ap_605 F_605 G_605 C_605) ++ ((SM Z sa o ro nn V S O N U L B) ++ []))) A s.heap H locs := hT.perm (pm2 _ _ _)
          refine lv_aload_n hx hb dX6_isSame_608 rfl (lv_at hl 0 rfl) ?_
          refine w_get (C := RX6) (T := TX6) (N := 9) (ci := 6) (q0 := 47) (k := 5) hC hK hT.1 fi_X6 rfl rfl rfl (by decide) rfl wq_1175 dX6_isSame_609 ?_
          refine w_alen (q0 := 51) (t0 := 3) hC hK hT.1 rfl rfl dX6_isSame_612 ?_
          refine lv_if_ne (tgt := 620) hx hb dX6_isSame_613 (by decide) (fun c_613 => ?_) (fun c_613 => ?_)
          · have hm := hm.1 c_613
            refine lv_iload hx hb dX6_isSame_620 (lv_at hl 3 rfl) ?_
            refine lv_i2d hx hb dX6_isSame_622 ?_
            refine lv_aload_n hx hb dX6_isSame_623 rfl (lv_at hl 0 rfl) ?_
            refine w_get (C := RX6) (T := TX6) (N := 9) (ci := 6) (q0 := 47) (k := 5) hC hK hT.1 fi_X6 rfl rfl rfl (by decide) rfl wq_1175 dX6_isSame_624 ?_
            refine w_alen (q0 := 51) (t0 := 3) hC hK hT.1 rfl rfl dX6_isSame_627 ?_
            refine lv_i2d hx hb dX6_isSame_628 ?_
            refine lv_ddiv hx hb dX6_isSame_629 hm.1 ?_
            have hm := hm.2
            refine lv_dcmp hx hb dX6_isSame_630 ?_
            refine lv_if_ne (tgt := 638) hx hb dX6_isSame_631 (by decide) (fun c_631 => ?_) (fun c_631 => ?_)
            · have hm := hm.1 c_631
              refine lv_iconst (v := 0) hx hb dX6_isSame_638 (by decide) ?_
              have hT : TS vwCl D ([] ++ ((CA Z a b q ca tp rd sp P ap_605 F_605 G_605 C_605) ++ ((SM Z sa o ro nn V S O N U L B) ++ []))) A s.heap _ _ := hT.sub (List.Sublist.cons _ (List.Sublist.refl _))
              refine W.widen (k := 14) (n := 150) (by omega) (by omega) ?_
              exact hret 639 _ _ _ _ (ap_605, F_605, G_605, C_605, N, U, L, B) hm hT rfl dX6_isSame_639
            · have hm := hm.2 c_631
              refine lv_iconst (v := 1) hx hb dX6_isSame_634 (by decide) ?_
              refine lv_goto (tgt := 639) hx hb dX6_isSame_635 (by decide) ?_
              have hT : TS vwCl D ([] ++ ((CA Z a b q ca tp rd sp P ap_605 F_605 G_605 C_605) ++ ((SM Z sa o ro nn V S O N U L B) ++ []))) A s.heap _ _ := hT.sub (List.Sublist.cons _ (List.Sublist.refl _))
              refine W.widen (k := 14) (n := 150) (by omega) (by omega) ?_
              exact hret 639 _ _ _ _ (ap_605, F_605, G_605, C_605, N, U, L, B) hm hT rfl dX6_isSame_639
          · have hm := hm.2 c_613
            refine lv_dconst0 hx hb dX6_isSame_616 ?_
            refine lv_goto (tgt := 630) hx hb dX6_isSame_617 (by decide) ?_
            refine lv_dcmp hx hb dX6_isSame_630 ?_
            refine lv_if_ne (tgt := 638) hx hb dX6_isSame_631 (by decide) (fun c_631 => ?_) (fun c_631 => ?_)
            · have hm := hm.1 c_631
              refine lv_iconst (v := 0) hx hb dX6_isSame_638 (by decide) ?_
              have hT : TS vwCl D ([] ++ ((CA Z a b q ca tp rd sp P ap_605 F_605 G_605 C_605) ++ ((SM Z sa o ro nn V S O N U L B) ++ []))) A s.heap _ _ := hT.sub (List.Sublist.cons _ (List.Sublist.refl _))
              refine W.widen (k := 14) (n := 150) (by omega) (by omega) ?_
              exact hret 639 _ _ _ _ (ap_605, F_605, G_605, C_605, N, U, L, B) hm hT rfl dX6_isSame_639
            · have hm := hm.2 c_631
              refine lv_iconst (v := 1) hx hb dX6_isSame_634 (by decide) ?_
              refine lv_goto (tgt := 639) hx hb dX6_isSame_635 (by decide) ?_
              have hT : TS vwCl D ([] ++ ((CA Z a b q ca tp rd sp P ap_605 F_605 G_605 C_605) ++ ((SM Z sa o ro nn V S O N U L B) ++ []))) A s.heap _ _ := hT.sub (List.Sublist.cons _ (List.Sublist.refl _))
              refine W.widen (k := 14) (n := 150) (by omega) (by omega) ?_
              exact hret 639 _ _ _ _ (ap_605, F_605, G_605, C_605, N, U, L, B) hm hT rfl dX6_isSame_639
      · have hm := hm.2 c_571
        refine lv_aload_n hx hb dX6_isSame_574 rfl (lv_at hl 1 rfl) ?_
        refine lv_iload hx hb dX6_isSame_575 (lv_at hl 5 rfl) ?_
        refine k_X5_count hC hN hK hT.dropL.dropR.1 hT.dropL.dropR.D' hm wq_891 (by decide) hl.1 (Nat.le_of_ble_eq_true rfl) ⟨by omega, by omega⟩ dX6_isSame_577 (fun r_577 hm => ?_)
        refine lv_aload hx hb dX6_isSame_580 (lv_at hl 4 rfl) ?_
        refine lv_iload hx hb dX6_isSame_582 (lv_at hl 5 rfl) ?_
        refine w_iald (q0 := 0) hC hK hT.1 rfl hm.1 dX6_isSame_584 ?_
        have hm := hm.2
        refine lv_icmp_eq (tgt := 590) hx hb dX6_isSame_585 (by decide) (fun c_585 => ?_) (fun c_585 => ?_)
        · have hm := hm.1 c_585
          obtain ⟨v6_590, ev6_590⟩ : ∃ y : Int32, y = v6 + 1 := ⟨_, rfl⟩
          have hm := hm v6_590 ev6_590
          refine lv_iinc (v := v6_590) (lv' := [(6, .int v6_590), (0, .ref (sa)), (1, .ref (ca)), (2, .int v2), (4, .int v4), (5, .ref ae559)]) hx hb dX6_isSame_590 hl (k := 5) rfl (by rw [ev6_590]; rfl) (by decide) rfl (fun ls hl => ?_)
          refine lv_goto (tgt := 567) hx hb dX6_isSame_593 (by decide) ?_
          exact ih567 _ _ _ _ _ _ _ _ _ _ _ _ _ _ _ _ _ _ hm hT (lv_sub hl [1, 2, 3, 4, 5, 0] rfl) ⟨by omega, by omega⟩
        · have hm := hm.2 c_585
          refine lv_iconst (v := 0) hx hb dX6_isSame_588 (by decide) ?_
          have hT : TS vwCl D ([] ++ ((CA Z a b q ca tp rd sp P ap F G C) ++ ((SM Z sa o ro nn V S O N U L B) ++ []))) A s.heap _ _ := hT.sub (List.Sublist.cons _ (List.Sublist.refl _))
          refine W.widen (k := 14) (n := 150) (by omega) (by omega) ?_
          exact hret 589 _ _ _ _ (ap, F, G, C, N, U, L, B) hm hT rfl dX6_isSame_589
  have L446 : ∀ (n446 : Nat), ∀ (ap : Nat) (F : M2) (G : M2) (C : M2) (N : M2) (U : M2) (L : M2) (B : M2) (v2 : Int32) (v4 : Int32) (v5 : Int32) (H : Heap) (locs : List Loc) (ls : Array Slot) (cc cs : Nat), wl_X6_isSame_446 q P nn V S O K n446 ap F G C N U L B v2 v4 v5 → TS vwCl D ([] ++ ((CA Z a b q ca tp rd sp P ap F G C) ++ ((SM Z sa o ro nn V S O N U L B) ++ []))) A s.heap H locs → lv_has ls 10 [(0, .ref (sa)), (1, .ref (ca)), (2, .int v2), (4, .int v4), (5, .int v5)] → cc + (n446 * 0 + 1) ≤ 14 ∧ cs + (n446 * 0 + 14) ≤ 150 → W p l e (rk 8 14 150) s m args below meth c H locs cc cs Q (F0 m 446 ls []) := by
    intro n446
    induction n446 with
    | zero =>
      intro ap F G C N U L B v2 v4 v5 H locs ls cc cs hm hT hl hcb
      exact False.elim hm
    | succ n446 ih446 =>
      have L459 : ∀ (n459 : Nat), ∀ (ap : Nat) (F : M2) (G : M2) (C : M2) (N : M2) (U : M2) (L : M2) (B : M2) (v2 : Int32) (v4 : Int32) (v5 : Int32) (v6 : Int32) (H : Heap) (locs : List Loc) (ls : Array Slot) (cc cs : Nat), wl_X6_isSame_459 q P nn V S O (wl_X6_isSame_446 q P nn V S O K n446) K n459 ap F G C N U L B v2 v4 v5 v6 → TS vwCl D ([] ++ ((CA Z a b q ca tp rd sp P ap F G C) ++ ((SM Z sa o ro nn V S O N U L B) ++ []))) A s.heap H locs → lv_has ls 10 [(0, .ref (sa)), (1, .ref (ca)), (2, .int v2), (4, .int v4), (5, .int v5), (6, .int v6)] → cc + (n459 * 0 + 0 + n446 * 0 + 1) ≤ 14 ∧ cs + (n459 * 0 + 0 + n446 * 0 + 14) ≤ 150 → W p l e (rk 8 14 150) s m args below meth c H locs cc cs Q (F0 m 459 ls []) := by
        intro n459
        induction n459 with
        | zero =>
          intro ap F G C N U L B v2 v4 v5 v6 H locs ls cc cs hm hT hl hcb
          exact False.elim hm
        | succ n459 ih459 =>
          intro ap F G C N U L B v2 v4 v5 v6 H locs ls cc cs hm hT hl hcb
          refine lv_iload hx hb dX6_isSame_459 (lv_at hl 5 rfl) ?_
          refine lv_bipush (v := 7) hx hb dX6_isSame_461 (by decide) ?_
          refine lv_icmp_ge (tgt := 495) hx hb dX6_isSame_463 (by decide) (fun c_463 => ?_) (fun c_463 => ?_)
          · have hm := hm.1 c_463
            refine lv_aload_n hx hb dX6_isSame_495 rfl (lv_at hl 1 rfl) ?_
            refine lv_iload hx hb dX6_isSame_496 (lv_at hl 4 rfl) ?_
            refine lv_iconst (v := 0) hx hb dX6_isSame_498 (by decide) ?_
            refine k_X5_crew hC hN hK hT.dropL.dropR.1 hT.dropL.dropR.D' hm wq_881 (by decide) hl.1 (Nat.le_of_ble_eq_true rfl) ⟨by omega, by omega⟩ dX6_isSame_499 (fun r_499 hm => ?_)
            refine lv_aload_n hx hb dX6_isSame_502 rfl (lv_at hl 0 rfl) ?_
            refine w_get (C := RX6) (T := TX6) (N := 9) (ci := 6) (q0 := 46) (k := 6) hC hK hT.1 fi_X6 rfl rfl rfl (by decide) rfl wq_1177 dX6_isSame_503 ?_
            refine lv_iload hx hb dX6_isSame_506 (lv_at hl 4 rfl) ?_
            refine w_aaldR (q0 := 51) hC hK hT.1 rfl hm.1 dX6_isSame_508 ?_
            have hm := hm.2
            refine lv_bipush (v := 7) hx hb dX6_isSame_509 (by decide) ?_
            refine wr_ld (jn := 7) (f := (fun X => [] ++ ((CA Z a b q ca tp rd sp P ap F G C) ++ (SM Z sa o ro nn V S O N U L X ++ [])))) (sm_pre (sm_pre (sm_suf (sm_4 Z sa o ro nn V S O N U L) _) _) _) hC hK hT.1 hm.1 (by decide) rfl dX6_isSame_511 ?_
            have hm := hm.2
            refine lv_icmp_ne (tgt := 550) hx hb dX6_isSame_512 (by decide) (fun c_512 => ?_) (fun c_512 => ?_)
            · have hm := hm.1 c_512
              refine lv_iconst (v := 0) hx hb dX6_isSame_550 (by decide) ?_
              refine W.widen (k := 14) (n := 150) (by omega) (by omega) ?_
              exact hret 551 _ _ _ _ (ap, F, G, C, N, U, L, B) hm hT rfl dX6_isSame_551
            · have hm := hm.2 c_512
              refine lv_aload_n hx hb dX6_isSame_515 rfl (lv_at hl 1 rfl) ?_
              refine lv_iload hx hb dX6_isSame_516 (lv_at hl 4 rfl) ?_
              refine lv_iconst (v := 1) hx hb dX6_isSame_518 (by decide) ?_
              refine k_X5_crew hC hN hK hT.dropL.dropR.1 hT.dropL.dropR.D' hm wq_881 (by decide) hl.1 (Nat.le_of_ble_eq_true rfl) ⟨by omega, by omega⟩ dX6_isSame_519 (fun r_519 hm => ?_)
              refine lv_aload_n hx hb dX6_isSame_522 rfl (lv_at hl 0 rfl) ?_
              refine w_get (C := RX6) (T := TX6) (N := 9) (ci := 6) (q0 := 46) (k := 6) hC hK hT.1 fi_X6 rfl rfl rfl (by decide) rfl wq_1177 dX6_isSame_523 ?_
              refine lv_iload hx hb dX6_isSame_526 (lv_at hl 4 rfl) ?_
              refine w_aaldR (q0 := 51) hC hK hT.1 rfl hm.1 dX6_isSame_528 ?_
              have hm := hm.2
              refine lv_bipush (v := 8) hx hb dX6_isSame_529 (by decide) ?_
              refine wr_ld (jn := 8) (f := (fun X => [] ++ ((CA Z a b q ca tp rd sp P ap F G C) ++ (SM Z sa o ro nn V S O N U L X ++ [])))) (sm_pre (sm_pre (sm_suf (sm_4 Z sa o ro nn V S O N U L) _) _) _) hC hK hT.1 hm.1 (by decide) rfl dX6_isSame_531 ?_
              have hm := hm.2
              refine lv_icmp_ne (tgt := 550) hx hb dX6_isSame_532 (by decide) (fun c_532 => ?_) (fun c_532 => ?_)
              · have hm := hm.1 c_532
                refine lv_iconst (v := 0) hx hb dX6_isSame_550 (by decide) ?_
                refine W.widen (k := 14) (n := 150) (by omega) (by omega) ?_
                exact hret 551 _ _ _ _ (ap, F, G, C, N, U, L, B) hm hT rfl dX6_isSame_551
              · have hm := hm.2 c_532
                refine lv_aload_n hx hb dX6_isSame_535 rfl (lv_at hl 1 rfl) ?_
                refine lv_iload hx hb dX6_isSame_536 (lv_at hl 4 rfl) ?_
                refine kx_X5_canEnter hC hN hK (hT.perm (pm2 _ _ _)) (Cut.app (N := 46) (wsF := fun u : Nat × M2 × M2 × M2 => CA Z a b q ca tp rd sp P u.1 u.2.1 u.2.2.1 u.2.2.2) (u0 := (ap, F, G, C)) (fun _ => rfl)) (range_nd _) hm wq_882 (by decide) hl.1 (Nat.le_of_ble_eq_true rfl) ⟨by omega, by omega⟩ dX6_isSame_538 (fun r_538 ap_538 F_538 G_538 C_538 H locs hm hT => ?_)
                have hT : TS vwCl D ([] ++ ((CA Z a b q ca tp rd sp P ap_538 F_538 G_538 C_538) ++ ((SM Z sa o ro nn V S O N U L B) ++ []))) A s.heap H locs := hT.perm (pm2 _ _ _)
                refine lv_aload_n hx hb dX6_isSame_541 rfl (lv_at hl 0 rfl) ?_
                refine lv_iload hx hb dX6_isSame_542 (lv_at hl 4 rfl) ?_
                refine k_X6_canEnter hC hN hK hT.dropL.dropL.dropR.1 hT.dropL.dropL.dropR.D' hm wq_845 (by decide) hl.1 (Nat.le_of_ble_eq_true rfl) ⟨by omega, by omega⟩ dX6_isSame_544 (fun r_544 hm => ?_)
                refine lv_icmp_eq (tgt := 552) hx hb dX6_isSame_547 (by decide) (fun c_547 => ?_) (fun c_547 => ?_)
                · have hm := hm.1 c_547
                  obtain ⟨v5_552, ev5_552⟩ : ∃ y : Int32, y = v5 + 1 := ⟨_, rfl⟩
                  have hm := hm v5_552 ev5_552
                  refine lv_iinc (v := v5_552) (lv' := [(5, .int v5_552), (0, .ref (sa)), (1, .ref (ca)), (2, .int v2), (4, .int v4), (6, .int v6)]) hx hb dX6_isSame_552 hl (k := 4) rfl (by rw [ev5_552]; rfl) (by decide) rfl (fun ls hl => ?_)
                  refine lv_goto (tgt := 446) hx hb dX6_isSame_555 (by decide) ?_
                  exact ih446 _ _ _ _ _ _ _ _ _ _ _ _ _ _ _ _ hm hT (lv_sub hl [1, 2, 3, 4, 0] rfl) ⟨by omega, by omega⟩
                · have hm := hm.2 c_547
                  refine lv_iconst (v := 0) hx hb dX6_isSame_550 (by decide) ?_
                  refine W.widen (k := 14) (n := 150) (by omega) (by omega) ?_
                  exact hret 551 _ _ _ _ (ap_538, F_538, G_538, C_538, N, U, L, B) hm hT rfl dX6_isSame_551
          · have hm := hm.2 c_463
            refine lv_aload_n hx hb dX6_isSame_466 rfl (lv_at hl 1 rfl) ?_
            refine lv_iload hx hb dX6_isSame_467 (lv_at hl 4 rfl) ?_
            refine lv_iload hx hb dX6_isSame_469 (lv_at hl 5 rfl) ?_
            refine k_X5_boat hC hN hK hT.dropL.dropR.1 hT.dropL.dropR.D' hm wq_880 (by decide) hl.1 (Nat.le_of_ble_eq_true rfl) ⟨by omega, by omega⟩ dX6_isSame_471 (fun r_471 hm => ?_)
            refine lv_aload_n hx hb dX6_isSame_474 rfl (lv_at hl 0 rfl) ?_
            refine w_get (C := RX6) (T := TX6) (N := 9) (ci := 6) (q0 := 46) (k := 6) hC hK hT.1 fi_X6 rfl rfl rfl (by decide) rfl wq_1177 dX6_isSame_475 ?_
            refine lv_iload hx hb dX6_isSame_478 (lv_at hl 4 rfl) ?_
            refine w_aaldR (q0 := 51) hC hK hT.1 rfl hm.1 dX6_isSame_480 ?_
            have hm := hm.2
            refine lv_iload hx hb dX6_isSame_481 (lv_at hl 5 rfl) ?_
            refine wr_ld (jn := v6.toInt.toNat) (f := (fun X => [] ++ ((CA Z a b q ca tp rd sp P ap F G C) ++ (SM Z sa o ro nn V S O N U L X ++ [])))) (sm_pre (sm_pre (sm_suf (sm_4 Z sa o ro nn V S O N U L) _) _) _) hC hK hT.1 hm.1 hm.2.1 rfl dX6_isSame_483 ?_
            have hm := hm.2.2
            refine lv_icmp_eq (tgt := 489) hx hb dX6_isSame_484 (by decide) (fun c_484 => ?_) (fun c_484 => ?_)
            · have hm := hm.1 c_484
              obtain ⟨v6_489, ev6_489⟩ : ∃ y : Int32, y = v6 + 1 := ⟨_, rfl⟩
              have hm := hm v6_489 ev6_489
              refine lv_iinc (v := v6_489) (lv' := [(6, .int v6_489), (0, .ref (sa)), (1, .ref (ca)), (2, .int v2), (4, .int v4), (5, .int v5)]) hx hb dX6_isSame_489 hl (k := 5) rfl (by rw [ev6_489]; rfl) (by decide) rfl (fun ls hl => ?_)
              refine lv_goto (tgt := 459) hx hb dX6_isSame_492 (by decide) ?_
              exact ih459 _ _ _ _ _ _ _ _ _ _ _ _ _ _ _ _ _ hm hT (lv_sub hl [1, 2, 3, 4, 5, 0] rfl) ⟨by omega, by omega⟩
            · have hm := hm.2 c_484
              refine lv_iconst (v := 0) hx hb dX6_isSame_487 (by decide) ?_
              refine W.widen (k := 14) (n := 150) (by omega) (by omega) ?_
              exact hret 488 _ _ _ _ (ap, F, G, C, N, U, L, B) hm hT rfl dX6_isSame_488
      intro ap F G C N U L B v2 v4 v5 H locs ls cc cs hm hT hl hcb
      refine lv_iload hx hb dX6_isSame_446 (lv_at hl 4 rfl) ?_
      refine lv_aload_n hx hb dX6_isSame_448 rfl (lv_at hl 0 rfl) ?_
      refine w_get (C := RX6) (T := TX6) (N := 9) (ci := 6) (q0 := 46) (k := 6) hC hK hT.1 fi_X6 rfl rfl rfl (by decide) rfl wq_1177 dX6_isSame_449 ?_
      refine w_alen (q0 := 51) (t0 := 3) hC hK hT.1 rfl rfl dX6_isSame_452 ?_
      refine lv_icmp_ge (tgt := 558) hx hb dX6_isSame_453 (by decide) (fun c_453 => ?_) (fun c_453 => ?_)
      · have hm := hm.1 c_453
        refine lv_aload_n hx hb dX6_isSame_558 rfl (lv_at hl 0 rfl) ?_
        have hT0 := hT.perm (pm3 _ _ _ _)
        refine goQ (u0 := none) (g := fun u => (u.getD (0, fun _ => 0)).1) (wsF := ctW Z sa o ro nn V S O N U L B) (runVG (As := []) RT_g hC hN trivial (c_X6_counts l D Z sa o ro nn V S O N U L B _ _ hm) mi_X6_counts wq_883 wq_884 wq_885 (by decide) hT0.dropR.1 hT0.dropR.D' hK (va_recv (q0 := 0) (ci := 6) hK hT0.dropR.1 rfl rfl) rfl hl.1 rfl (Nat.le_of_ble_eq_true rfl) dX6_isSame_559 ⟨by omega, by omega⟩) rfl hT0 (fun u H locs hk hT => ?_)
        obtain ⟨ae559, e559, rfl, hm⟩ := hk
        have hT : TS vwCl D ([(ae559, .inl (Z 0, 14, .inl e559))] ++ ((CA Z a b q ca tp rd sp P ap F G C) ++ ((SM Z sa o ro nn V S O N U L B) ++ []))) A s.heap H locs := hT.perm (List.Perm.cons _ (pm3' _ _ _ _))
        refine lv_astore (lv' := [(5, .ref ae559), (0, .ref (sa)), (1, .ref (ca)), (2, .int v2), (4, .int v4)]) hx hb dX6_isSame_562 hl (by decide) rfl (fun ls hl => ?_)
        refine lv_iconst (v := 0) hx hb dX6_isSame_564 (by decide) ?_
        refine lv_istore (lv' := [(6, .int 0), (5, .ref ae559), (0, .ref (sa)), (1, .ref (ca)), (2, .int v2), (4, .int v4)]) hx hb dX6_isSame_565 hl (by decide) rfl (fun ls hl => ?_)
        exact L567 _ _ _ _ _ _ _ _ _ _ _ _ _ _ _ _ _ _ _ hm hT (lv_sub hl [2, 3, 4, 5, 1, 0] rfl) ⟨by omega, by omega⟩
      · have hm := hm.2 c_453
        refine lv_iconst (v := 0) hx hb dX6_isSame_456 (by decide) ?_
        refine lv_istore (lv' := [(6, .int 0), (0, .ref (sa)), (1, .ref (ca)), (2, .int v2), (4, .int v4), (5, .int v5)]) hx hb dX6_isSame_457 hl (by decide) rfl (fun ls hl => ?_)
        exact L459 _ _ _ _ _ _ _ _ _ _ _ _ _ _ _ _ _ _ hm hT (lv_sub hl [1, 2, 3, 4, 5, 0] rfl) ⟨by omega, by omega⟩
  have L309 : ∀ (n309 : Nat), ∀ (ap : Nat) (F : M2) (G : M2) (C : M2) (N : M2) (U : M2) (L : M2) (B : M2) (v2 : Int32) (v4 : Int32) (v5 : Int32) (H : Heap) (locs : List Loc) (ls : Array Slot) (cc cs : Nat), wl_X6_isSame_309 q P nn V S O K n309 ap F G C N U L B v2 v4 v5 → TS vwCl D ([] ++ ((CA Z a b q ca tp rd sp P ap F G C) ++ ((SM Z sa o ro nn V S O N U L B) ++ []))) A s.heap H locs → lv_has ls 10 [(0, .ref (sa)), (1, .ref (ca)), (2, .int v2), (4, .int v4), (5, .int v5)] → cc + (n309 * 1 + 1) ≤ 14 ∧ cs + (n309 * 7 + 14) ≤ 150 → W p l e (rk 8 14 150) s m args below meth c H locs cc cs Q (F0 m 309 ls []) := by
    intro n309
    induction n309 with
    | zero =>
      intro ap F G C N U L B v2 v4 v5 H locs ls cc cs hm hT hl hcb
      exact False.elim hm
    | succ n309 ih309 =>
      have L397 : ∀ (n397 : Nat), ∀ (ap : Nat) (F : M2) (G : M2) (C : M2) (N : M2) (U : M2) (L : M2) (B : M2) (e330 : (Nat → Int32)) (v2 : Int32) (v4 : Int32) (v5 : Int32) (v6 : Int32) (v8 : Int32) (ae330 : Nat) (H : Heap) (locs : List Loc) (ls : Array Slot) (cc cs : Nat), wl_X6_isSame_397 q P nn V S O (wl_X6_isSame_309 q P nn V S O K n309) K n397 ap F G C N U L B e330 v2 v4 v5 v6 v8 → TS vwCl D ([(ae330, .inl (Z 0, 7, .inl e330))] ++ ((CA Z a b q ca tp rd sp P ap F G C) ++ ((SM Z sa o ro nn V S O N U L B) ++ []))) A s.heap H locs → lv_has ls 10 [(0, .ref (sa)), (1, .ref (ca)), (2, .int v2), (4, .int v4), (5, .int v5), (6, .ref (ro 3 v6.toInt.toNat)), (7, .ref ae330), (8, .int v8)] → cc + (n397 * 0 + 0 + n309 * 1 + 1) ≤ 14 ∧ cs + (n397 * 0 + 0 + n309 * 7 + 14) ≤ 150 → W p l e (rk 8 14 150) s m args below meth c H locs cc cs Q (F0 m 397 ls []) := by
        intro n397
        induction n397 with
        | zero =>
          intro ap F G C N U L B e330 v2 v4 v5 v6 v8 ae330 H locs ls cc cs hm hT hl hcb
          exact False.elim hm
        | succ n397 ih397 =>
          intro ap F G C N U L B e330 v2 v4 v5 v6 v8 ae330 H locs ls cc cs hm hT hl hcb
          refine lv_iload hx hb dX6_isSame_397 (lv_at hl 7 rfl) ?_
          refine lv_bipush (v := 7) hx hb dX6_isSame_399 (by decide) ?_
          refine lv_icmp_ge (tgt := 428) hx hb dX6_isSame_401 (by decide) (fun c_401 => ?_) (fun c_401 => ?_)
          · have hm := hm.1 c_401
            refine lv_iload hx hb dX6_isSame_428 (lv_at hl 3 rfl) ?_
            refine lv_aload hx hb dX6_isSame_430 (lv_at hl 5 rfl) ?_
            refine lv_iconst (v := 2) hx hb dX6_isSame_432 (by decide) ?_
            refine wr_ld (jn := 2) (f := (fun X => [(ae330, .inl (Z 0, 7, .inl e330))] ++ ((CA Z a b q ca tp rd sp P ap F G C) ++ (SM Z sa o ro nn V S O N U X B ++ [])))) (sm_pre (sm_pre (sm_suf (sm_3 Z sa o ro nn V S O N U B) _) _) _) hC hK hT.1 hm.1 (by decide) rfl dX6_isSame_433 ?_
            have hm := hm.2
            refine lv_iadd hx hb dX6_isSame_434 ?_
            refine lv_topi (fun v4_435 ev4_435 => ?_)
            have hm := hm v4_435 ev4_435
            refine lv_istore (lv' := [(4, .int v4_435), (0, .ref (sa)), (1, .ref (ca)), (2, .int v2), (5, .int v5), (6, .ref (ro 3 v6.toInt.toNat)), (7, .ref ae330), (8, .int v8)]) hx hb dX6_isSame_435 hl (by decide) rfl (fun ls hl => ?_)
            obtain ⟨v5_437, ev5_437⟩ : ∃ y : Int32, y = v5 + 1 := ⟨_, rfl⟩
            have hm := hm v5_437 ev5_437
            refine lv_iinc (v := v5_437) (lv' := [(5, .int v5_437), (4, .int v4_435), (0, .ref (sa)), (1, .ref (ca)), (2, .int v2), (6, .ref (ro 3 v6.toInt.toNat)), (7, .ref ae330), (8, .int v8)]) hx hb dX6_isSame_437 hl (k := 4) rfl (by rw [ev5_437]; rfl) (by decide) rfl (fun ls hl => ?_)
            refine lv_goto (tgt := 309) hx hb dX6_isSame_440 (by decide) ?_
            have hT : TS vwCl D ([] ++ ((CA Z a b q ca tp rd sp P ap F G C) ++ ((SM Z sa o ro nn V S O N U L B) ++ []))) A s.heap _ _ := hT.sub (List.Sublist.cons _ (List.Sublist.refl _))
            exact ih309 _ _ _ _ _ _ _ _ _ _ _ _ _ _ _ _ hm hT (lv_sub hl [2, 3, 4, 1, 0] rfl) ⟨by omega, by omega⟩
          · have hm := hm.2 c_401
            refine lv_aload_n hx hb dX6_isSame_404 rfl (lv_at hl 1 rfl) ?_
            refine lv_iload hx hb dX6_isSame_405 (lv_at hl 4 rfl) ?_
            refine lv_iload hx hb dX6_isSame_407 (lv_at hl 7 rfl) ?_
            refine k_X5_legger hC hN hK hT.dropL.dropR.1 hT.dropL.dropR.D' hm wq_879 (by decide) hl.1 (Nat.le_of_ble_eq_true rfl) ⟨by omega, by omega⟩ dX6_isSame_409 (fun r_409 hm => ?_)
            refine lv_aload hx hb dX6_isSame_412 (lv_at hl 6 rfl) ?_
            refine lv_iload hx hb dX6_isSame_414 (lv_at hl 7 rfl) ?_
            refine w_iald (q0 := 0) hC hK hT.1 rfl hm.1 dX6_isSame_416 ?_
            have hm := hm.2
            refine lv_icmp_eq (tgt := 422) hx hb dX6_isSame_417 (by decide) (fun c_417 => ?_) (fun c_417 => ?_)
            · have hm := hm.1 c_417
              obtain ⟨v8_422, ev8_422⟩ : ∃ y : Int32, y = v8 + 1 := ⟨_, rfl⟩
              have hm := hm v8_422 ev8_422
              refine lv_iinc (v := v8_422) (lv' := [(8, .int v8_422), (0, .ref (sa)), (1, .ref (ca)), (2, .int v2), (4, .int v4), (5, .int v5), (6, .ref (ro 3 v6.toInt.toNat)), (7, .ref ae330)]) hx hb dX6_isSame_422 hl (k := 7) rfl (by rw [ev8_422]; rfl) (by decide) rfl (fun ls hl => ?_)
              refine lv_goto (tgt := 397) hx hb dX6_isSame_425 (by decide) ?_
              exact ih397 _ _ _ _ _ _ _ _ _ _ _ _ _ _ _ _ _ _ _ _ hm hT (lv_sub hl [1, 2, 3, 4, 5, 6, 7, 0] rfl) ⟨by omega, by omega⟩
            · have hm := hm.2 c_417
              refine lv_iconst (v := 0) hx hb dX6_isSame_420 (by decide) ?_
              have hT : TS vwCl D ([] ++ ((CA Z a b q ca tp rd sp P ap F G C) ++ ((SM Z sa o ro nn V S O N U L B) ++ []))) A s.heap _ _ := hT.sub (List.Sublist.cons _ (List.Sublist.refl _))
              refine W.widen (k := 14) (n := 150) (by omega) (by omega) ?_
              exact hret 421 _ _ _ _ (ap, F, G, C, N, U, L, B) hm hT rfl dX6_isSame_421
      have L367 : ∀ (ap : Nat) (F : M2) (G : M2) (C : M2) (N : M2) (U : M2) (L : M2) (B : M2) (e330 : (Nat → Int32)) (v2 : Int32) (v4 : Int32) (v5 : Int32) (v6 : Int32) (q0 : Int32) (q1 : Int32) (ae330 : Nat) (H : Heap) (locs : List Loc) (ls : Array Slot) (cc cs : Nat), wj_X6_isSame_367 q P nn V S O (wl_X6_isSame_309 q P nn V S O K n309) K ap F G C N U L B e330 v2 v4 v5 v6 q0 q1 → TS vwCl D ([(ae330, .inl (Z 0, 7, .inl e330))] ++ ((CA Z a b q ca tp rd sp P ap F G C) ++ ((SM Z sa o ro nn V S O N U L B) ++ []))) A s.heap H locs → lv_has ls 10 [(0, .ref (sa)), (1, .ref (ca)), (2, .int v2), (4, .int v4), (5, .int v5), (6, .ref (ro 3 v6.toInt.toNat))] → cc + (0 + n309 * 1 + 1) ≤ 14 ∧ cs + (0 + n309 * 7 + 14) ≤ 150 → W p l e (rk 8 14 150) s m args below meth c H locs cc cs Q (F0 m 367 ls [.int q0, .int q1, .ref ae330, .ref ae330]) := by
        intro ap F G C N U L B e330 v2 v4 v5 v6 q0 q1 ae330 H locs ls cc cs hm hT hl hcb
        have hj367 := hm.1
        obtain ⟨e330_367, ee330_367⟩ : ∃ y : Nat → Int32, y = upd e330 q1.toInt.toNat q0 := ⟨_, rfl⟩
        have hm := hm.2 e330_367 ee330_367
        refine w_iast (q0 := 0) (ws' := ([(ae330, .inl (Z 0, 7, .inl e330_367))] ++ ((CA Z a b q ca tp rd sp P ap F G C) ++ ((SM Z sa o ro nn V S O N U L B) ++ [])))) hC hK hT rfl hj367 (by rw [ee330_367]; rfl) dX6_isSame_367 (fun H locs hT => ?_)
        refine lv_dup hx hb dX6_isSame_368 rfl ?_
        refine lv_iconst (v := 4) hx hb dX6_isSame_369 (by decide) ?_
        refine lv_aload_n hx hb dX6_isSame_370 rfl (lv_at hl 0 rfl) ?_
        refine lv_iload hx hb dX6_isSame_371 (lv_at hl 4 rfl) ?_
        refine k_X6_boatOf hC hN hK hT.dropL.dropL.dropR.1 hT.dropL.dropL.dropR.D' hm wq_857 (by decide) hl.1 (Nat.le_of_ble_eq_true rfl) ⟨by omega, by omega⟩ dX6_isSame_373 (fun r_373 hm => ?_)
        have hj376 := hm.1
        obtain ⟨e330_376, ee330_376⟩ : ∃ y : Nat → Int32, y = upd e330_367 4 r_373 := ⟨_, rfl⟩
        have hm := hm.2 e330_376 ee330_376
        refine w_iast (q0 := 0) (ws' := ([(ae330, .inl (Z 0, 7, .inl e330_376))] ++ ((CA Z a b q ca tp rd sp P ap F G C) ++ ((SM Z sa o ro nn V S O N U L B) ++ [])))) hC hK hT rfl hj376 (by rw [ee330_376]; rfl) dX6_isSame_376 (fun H locs hT => ?_)
        refine lv_dup hx hb dX6_isSame_377 rfl ?_
        refine lv_iconst (v := 5) hx hb dX6_isSame_378 (by decide) ?_
        refine lv_aload hx hb dX6_isSame_379 (lv_at hl 5 rfl) ?_
        refine lv_iconst (v := 4) hx hb dX6_isSame_381 (by decide) ?_
        refine wr_ld (jn := 4) (f := (fun X => [(ae330, .inl (Z 0, 7, .inl e330_376))] ++ ((CA Z a b q ca tp rd sp P ap F G C) ++ (SM Z sa o ro nn V S O N U X B ++ [])))) (sm_pre (sm_pre (sm_suf (sm_3 Z sa o ro nn V S O N U B) _) _) _) hC hK hT.1 hm.1 (by decide) rfl dX6_isSame_382 ?_
        have hm := hm.2
        have hj383 := hm.1
        obtain ⟨e330_383, ee330_383⟩ : ∃ y : Nat → Int32, y = upd e330_376 5 (L v6.toInt.toNat 4) := ⟨_, rfl⟩
        have hm := hm.2 e330_383 ee330_383
        refine w_iast (q0 := 0) (ws' := ([(ae330, .inl (Z 0, 7, .inl e330_383))] ++ ((CA Z a b q ca tp rd sp P ap F G C) ++ ((SM Z sa o ro nn V S O N U L B) ++ [])))) hC hK hT rfl hj383 (by rw [ee330_383]; rfl) dX6_isSame_383 (fun H locs hT => ?_)
        refine lv_dup hx hb dX6_isSame_384 rfl ?_
        refine lv_bipush (v := 6) hx hb dX6_isSame_385 (by decide) ?_
        refine lv_aload hx hb dX6_isSame_387 (lv_at hl 5 rfl) ?_
        refine lv_iconst (v := 3) hx hb dX6_isSame_389 (by decide) ?_
        refine wr_ld (jn := 3) (f := (fun X => [(ae330, .inl (Z 0, 7, .inl e330_383))] ++ ((CA Z a b q ca tp rd sp P ap F G C) ++ (SM Z sa o ro nn V S O N U X B ++ [])))) (sm_pre (sm_pre (sm_suf (sm_3 Z sa o ro nn V S O N U B) _) _) _) hC hK hT.1 hm.1 (by decide) rfl dX6_isSame_390 ?_
        have hm := hm.2
        have hj391 := hm.1
        obtain ⟨e330_391, ee330_391⟩ : ∃ y : Nat → Int32, y = upd e330_383 6 (L v6.toInt.toNat 3) := ⟨_, rfl⟩
        have hm := hm.2 e330_391 ee330_391
        refine w_iast (q0 := 0) (ws' := ([(ae330, .inl (Z 0, 7, .inl e330_391))] ++ ((CA Z a b q ca tp rd sp P ap F G C) ++ ((SM Z sa o ro nn V S O N U L B) ++ [])))) hC hK hT rfl hj391 (by rw [ee330_391]; rfl) dX6_isSame_391 (fun H locs hT => ?_)
        refine lv_astore (lv' := [(7, .ref ae330), (0, .ref (sa)), (1, .ref (ca)), (2, .int v2), (4, .int v4), (5, .int v5), (6, .ref (ro 3 v6.toInt.toNat))]) hx hb dX6_isSame_392 hl (by decide) rfl (fun ls hl => ?_)
        refine lv_iconst (v := 0) hx hb dX6_isSame_394 (by decide) ?_
        refine lv_istore (lv' := [(8, .int 0), (7, .ref ae330), (0, .ref (sa)), (1, .ref (ca)), (2, .int v2), (4, .int v4), (5, .int v5), (6, .ref (ro 3 v6.toInt.toNat))]) hx hb dX6_isSame_395 hl (by decide) rfl (fun ls hl => ?_)
        exact L397 _ _ _ _ _ _ _ _ _ _ _ _ _ _ _ _ _ _ _ _ _ hm hT (lv_sub hl [2, 3, 4, 5, 6, 7, 1, 0] rfl) ⟨by omega, by omega⟩
      intro ap F G C N U L B v2 v4 v5 H locs ls cc cs hm hT hl hcb
      refine lv_iload hx hb dX6_isSame_309 (lv_at hl 4 rfl) ?_
      refine lv_aload_n hx hb dX6_isSame_311 rfl (lv_at hl 0 rfl) ?_
      refine w_get (C := RX6) (T := TX6) (N := 9) (ci := 6) (q0 := 46) (k := 5) hC hK hT.1 fi_X6 rfl rfl rfl (by decide) rfl wq_1175 dX6_isSame_312 ?_
      refine w_alen (q0 := 50) (t0 := 3) hC hK hT.1 rfl rfl dX6_isSame_315 ?_
      refine lv_icmp_ge (tgt := 443) hx hb dX6_isSame_316 (by decide) (fun c_316 => ?_) (fun c_316 => ?_)
      · have hm := hm.1 c_316
        refine lv_iconst (v := 0) hx hb dX6_isSame_443 (by decide) ?_
        refine lv_istore (lv' := [(5, .int 0), (0, .ref (sa)), (1, .ref (ca)), (2, .int v2), (4, .int v4)]) hx hb dX6_isSame_444 hl (by decide) rfl (fun ls hl => ?_)
        exact L446 _ _ _ _ _ _ _ _ _ _ _ _ _ _ _ _ _ hm hT (lv_sub hl [1, 2, 3, 4, 0] rfl) ⟨by omega, by omega⟩
      · have hm := hm.2 c_316
        refine lv_aload_n hx hb dX6_isSame_319 rfl (lv_at hl 0 rfl) ?_
        refine w_get (C := RX6) (T := TX6) (N := 9) (ci := 6) (q0 := 46) (k := 5) hC hK hT.1 fi_X6 rfl rfl rfl (by decide) rfl wq_1175 dX6_isSame_320 ?_
        refine lv_iload hx hb dX6_isSame_323 (lv_at hl 4 rfl) ?_
        refine w_aaldR (q0 := 50) hC hK hT.1 rfl hm.1 dX6_isSame_325 ?_
        have hm := hm.2
        refine lv_astore (lv' := [(6, .ref (ro 3 v5.toInt.toNat)), (0, .ref (sa)), (1, .ref (ca)), (2, .int v2), (4, .int v4), (5, .int v5)]) hx hb dX6_isSame_326 hl (by decide) rfl (fun ls hl => ?_)
        refine lv_bipush (v := 7) hx hb dX6_isSame_328 (by decide) ?_
        refine w_newI (N := 7) hC hK hT wq_240 (by decide) (by decide) (by decide) (by show _ ≤ 14; omega) (by show _ ≤ 150; omega) dX6_isSame_330 (fun ae330 H hT => ?_)
        have hT : TS vwCl D ([(ae330, .inl (Z 0, 7, .inl ((fun _ => 0))))] ++ ((CA Z a b q ca tp rd sp P ap F G C) ++ ((SM Z sa o ro nn V S O N U L B) ++ []))) A s.heap H _ := hT.front
        refine lv_dup hx hb dX6_isSame_332 rfl ?_
        refine lv_iconst (v := 0) hx hb dX6_isSame_333 (by decide) ?_
        refine lv_aload hx hb dX6_isSame_334 (lv_at hl 0 rfl) ?_
        refine lv_iconst (v := 0) hx hb dX6_isSame_336 (by decide) ?_
        refine wr_ld (jn := 0) (f := (fun X => [(ae330, .inl (Z 0, 7, .inl ((fun _ => 0))))] ++ ((CA Z a b q ca tp rd sp P ap F G C) ++ (SM Z sa o ro nn V S O N U X B ++ [])))) (sm_pre (sm_pre (sm_suf (sm_3 Z sa o ro nn V S O N U B) _) _) _) hC hK hT.1 hm.1 (by decide) rfl dX6_isSame_337 ?_
        have hm := hm.2
        have hj338 := hm.1
        obtain ⟨e330_338, ee330_338⟩ : ∃ y : Nat → Int32, y = upd ((fun _ => 0)) 0 (L v5.toInt.toNat 0) := ⟨_, rfl⟩
        have hm := hm.2 e330_338 ee330_338
        refine w_iast (q0 := 0) (ws' := ([(ae330, .inl (Z 0, 7, .inl e330_338))] ++ ((CA Z a b q ca tp rd sp P ap F G C) ++ ((SM Z sa o ro nn V S O N U L B) ++ [])))) hC hK hT rfl hj338 (by rw [ee330_338]; rfl) dX6_isSame_338 (fun H locs hT => ?_)
        refine lv_dup hx hb dX6_isSame_339 rfl ?_
        refine lv_iconst (v := 1) hx hb dX6_isSame_340 (by decide) ?_
        refine lv_aload hx hb dX6_isSame_341 (lv_at hl 0 rfl) ?_
        refine lv_iconst (v := 1) hx hb dX6_isSame_343 (by decide) ?_
        refine wr_ld (jn := 1) (f := (fun X => [(ae330, .inl (Z 0, 7, .inl e330_338))] ++ ((CA Z a b q ca tp rd sp P ap F G C) ++ (SM Z sa o ro nn V S O N U X B ++ [])))) (sm_pre (sm_pre (sm_suf (sm_3 Z sa o ro nn V S O N U B) _) _) _) hC hK hT.1 hm.1 (by decide) rfl dX6_isSame_344 ?_
        have hm := hm.2
        have hj345 := hm.1
        obtain ⟨e330_345, ee330_345⟩ : ∃ y : Nat → Int32, y = upd e330_338 1 (L v5.toInt.toNat 1) := ⟨_, rfl⟩
        have hm := hm.2 e330_345 ee330_345
        refine w_iast (q0 := 0) (ws' := ([(ae330, .inl (Z 0, 7, .inl e330_345))] ++ ((CA Z a b q ca tp rd sp P ap F G C) ++ ((SM Z sa o ro nn V S O N U L B) ++ [])))) hC hK hT rfl hj345 (by rw [ee330_345]; rfl) dX6_isSame_345 (fun H locs hT => ?_)
        refine lv_dup hx hb dX6_isSame_346 rfl ?_
        refine lv_iconst (v := 2) hx hb dX6_isSame_347 (by decide) ?_
        refine lv_aload hx hb dX6_isSame_348 (lv_at hl 0 rfl) ?_
        refine lv_iconst (v := 2) hx hb dX6_isSame_350 (by decide) ?_
        refine wr_ld (jn := 2) (f := (fun X => [(ae330, .inl (Z 0, 7, .inl e330_345))] ++ ((CA Z a b q ca tp rd sp P ap F G C) ++ (SM Z sa o ro nn V S O N U X B ++ [])))) (sm_pre (sm_pre (sm_suf (sm_3 Z sa o ro nn V S O N U B) _) _) _) hC hK hT.1 hm.1 (by decide) rfl dX6_isSame_351 ?_
        have hm := hm.2
        have hj352 := hm.1
        obtain ⟨e330_352, ee330_352⟩ : ∃ y : Nat → Int32, y = upd e330_345 2 (L v5.toInt.toNat 2) := ⟨_, rfl⟩
        have hm := hm.2 e330_352 ee330_352
        refine w_iast (q0 := 0) (ws' := ([(ae330, .inl (Z 0, 7, .inl e330_352))] ++ ((CA Z a b q ca tp rd sp P ap F G C) ++ ((SM Z sa o ro nn V S O N U L B) ++ [])))) hC hK hT rfl hj352 (by rw [ee330_352]; rfl) dX6_isSame_352 (fun H locs hT => ?_)
        refine lv_dup hx hb dX6_isSame_353 rfl ?_
        refine lv_iconst (v := 3) hx hb dX6_isSame_354 (by decide) ?_
        refine lv_aload hx hb dX6_isSame_355 (lv_at hl 0 rfl) ?_
        refine lv_iconst (v := 3) hx hb dX6_isSame_357 (by decide) ?_
        refine wr_ld (jn := 3) (f := (fun X => [(ae330, .inl (Z 0, 7, .inl e330_352))] ++ ((CA Z a b q ca tp rd sp P ap F G C) ++ (SM Z sa o ro nn V S O N U X B ++ [])))) (sm_pre (sm_pre (sm_suf (sm_3 Z sa o ro nn V S O N U B) _) _) _) hC hK hT.1 hm.1 (by decide) rfl dX6_isSame_358 ?_
        have hm := hm.2
        refine lv_if_ge (tgt := 366) hx hb dX6_isSame_359 (by decide) (fun c_359 => ?_) (fun c_359 => ?_)
        · have hm := hm.1 c_359
          refine lv_iconst (v := 0) hx hb dX6_isSame_366 (by decide) ?_
          exact L367 _ _ _ _ _ _ _ _ _ _ _ _ _ _ _ _ _ _ _ _ _ hm hT (lv_sub hl [1, 2, 3, 4, 5, 0] rfl) ⟨by omega, by omega⟩
        · have hm := hm.2 c_359
          refine lv_iconst (v := 1) hx hb dX6_isSame_362 (by decide) ?_
          refine lv_goto (tgt := 367) hx hb dX6_isSame_363 (by decide) ?_
          exact L367 _ _ _ _ _ _ _ _ _ _ _ _ _ _ _ _ _ _ _ _ _ hm hT (lv_sub hl [1, 2, 3, 4, 5, 0] rfl) ⟨by omega, by omega⟩
  have L206 : ∀ (n206 : Nat), ∀ (ap : Nat) (F : M2) (G : M2) (C : M2) (N : M2) (U : M2) (L : M2) (B : M2) (e7 : (Nat → Int32)) (v2 : Int32) (v4 : Int32) (ae7 : Nat) (H : Heap) (locs : List Loc) (ls : Array Slot) (cc cs : Nat), wl_X6_isSame_206 q P nn V S O K n206 ap F G C N U L B e7 v2 v4 → TS vwCl D ([(ae7, .inl (Z 0, nn 0, .inl e7))] ++ ((CA Z a b q ca tp rd sp P ap F G C) ++ ((SM Z sa o ro nn V S O N U L B) ++ []))) A s.heap H locs → lv_has ls 10 [(0, .ref (sa)), (1, .ref (ca)), (2, .int v2), (3, .ref ae7), (4, .int v4)] → cc + (n206 * 1 + 9) ≤ 14 ∧ cs + (n206 * 4 + 70) ≤ 150 → W p l e (rk 8 14 150) s m args below meth c H locs cc cs Q (F0 m 206 ls []) := by
    intro n206
    induction n206 with
    | zero =>
      intro ap F G C N U L B e7 v2 v4 ae7 H locs ls cc cs hm hT hl hcb
      exact False.elim hm
    | succ n206 ih206 =>
      have L267 : ∀ (n267 : Nat), ∀ (ap : Nat) (F : M2) (G : M2) (C : M2) (N : M2) (U : M2) (L : M2) (B : M2) (e217 : (Nat → Int32)) (e7 : (Nat → Int32)) (v2 : Int32) (v4 : Int32) (v6 : Int32) (ae217 : Nat) (ae7 : Nat) (H : Heap) (locs : List Loc) (ls : Array Slot) (cc cs : Nat), wl_X6_isSame_267 q P nn V S O (wl_X6_isSame_206 q P nn V S O K n206) K n267 ap F G C N U L B e217 e7 v2 v4 v6 → TS vwCl D ([(ae217, .inl (Z 0, 4, .inl e217)), (ae7, .inl (Z 0, nn 0, .inl e7))] ++ ((CA Z a b q ca tp rd sp P ap F G C) ++ ((SM Z sa o ro nn V S O N U L B) ++ []))) A s.heap H locs → lv_has ls 10 [(0, .ref (sa)), (1, .ref (ca)), (2, .int v2), (3, .ref ae7), (4, .int v4), (5, .ref ae217), (6, .int v6)] → cc + (n267 * 0 + 0 + n206 * 1 + 9) ≤ 14 ∧ cs + (n267 * 0 + 0 + n206 * 4 + 70) ≤ 150 → W p l e (rk 8 14 150) s m args below meth c H locs cc cs Q (F0 m 267 ls []) := by
        intro n267
        induction n267 with
        | zero =>
          intro ap F G C N U L B e217 e7 v2 v4 v6 ae217 ae7 H locs ls cc cs hm hT hl hcb
          exact False.elim hm
        | succ n267 ih267 =>
          intro ap F G C N U L B e217 e7 v2 v4 v6 ae217 ae7 H locs ls cc cs hm hT hl hcb
          refine lv_iload hx hb dX6_isSame_267 (lv_at hl 6 rfl) ?_
          refine lv_iconst (v := 4) hx hb dX6_isSame_269 (by decide) ?_
          refine lv_icmp_ge (tgt := 297) hx hb dX6_isSame_270 (by decide) (fun c_270 => ?_) (fun c_270 => ?_)
          · have hm := hm.1 c_270
            obtain ⟨v4_297, ev4_297⟩ : ∃ y : Int32, y = v4 + 1 := ⟨_, rfl⟩
            have hm := hm v4_297 ev4_297
            refine lv_iinc (v := v4_297) (lv' := [(4, .int v4_297), (0, .ref (sa)), (1, .ref (ca)), (2, .int v2), (3, .ref ae7), (5, .ref ae217), (6, .int v6)]) hx hb dX6_isSame_297 hl (k := 4) rfl (by rw [ev4_297]; rfl) (by decide) rfl (fun ls hl => ?_)
            refine lv_goto (tgt := 206) hx hb dX6_isSame_300 (by decide) ?_
            have hT : TS vwCl D ([(ae7, .inl (Z 0, nn 0, .inl e7))] ++ ((CA Z a b q ca tp rd sp P ap F G C) ++ ((SM Z sa o ro nn V S O N U L B) ++ []))) A s.heap _ _ := hT.sub (List.Sublist.cons _ (List.Sublist.cons₂ _ (List.Sublist.refl _)))
            exact ih206 _ _ _ _ _ _ _ _ _ _ _ _ _ _ _ _ _ hm hT (lv_sub hl [1, 2, 3, 4, 0] rfl) ⟨by omega, by omega⟩
          · have hm := hm.2 c_270
            refine lv_aload_n hx hb dX6_isSame_273 rfl (lv_at hl 1 rfl) ?_
            refine lv_iload hx hb dX6_isSame_274 (lv_at hl 4 rfl) ?_
            refine lv_iload hx hb dX6_isSame_276 (lv_at hl 6 rfl) ?_
            refine k_X5_bore hC hN hK hT.dropL.dropR.1 hT.dropL.dropR.D' hm wq_878 (by decide) hl.1 (Nat.le_of_ble_eq_true rfl) ⟨by omega, by omega⟩ dX6_isSame_278 (fun r_278 hm => ?_)
            refine lv_aload hx hb dX6_isSame_281 (lv_at hl 5 rfl) ?_
            refine lv_iload hx hb dX6_isSame_283 (lv_at hl 6 rfl) ?_
            refine w_iald (q0 := 0) hC hK hT.1 rfl hm.1 dX6_isSame_285 ?_
            have hm := hm.2
            refine lv_icmp_eq (tgt := 291) hx hb dX6_isSame_286 (by decide) (fun c_286 => ?_) (fun c_286 => ?_)
            · have hm := hm.1 c_286
              obtain ⟨v6_291, ev6_291⟩ : ∃ y : Int32, y = v6 + 1 := ⟨_, rfl⟩
              have hm := hm v6_291 ev6_291
              refine lv_iinc (v := v6_291) (lv' := [(6, .int v6_291), (0, .ref (sa)), (1, .ref (ca)), (2, .int v2), (3, .ref ae7), (4, .int v4), (5, .ref ae217)]) hx hb dX6_isSame_291 hl (k := 6) rfl (by rw [ev6_291]; rfl) (by decide) rfl (fun ls hl => ?_)
              refine lv_goto (tgt := 267) hx hb dX6_isSame_294 (by decide) ?_
              exact ih267 _ _ _ _ _ _ _ _ _ _ _ _ _ _ _ _ _ _ _ _ hm hT (lv_sub hl [1, 2, 3, 4, 5, 6, 0] rfl) ⟨by omega, by omega⟩
            · have hm := hm.2 c_286
              refine lv_iconst (v := 0) hx hb dX6_isSame_289 (by decide) ?_
              have hT : TS vwCl D ([] ++ ((CA Z a b q ca tp rd sp P ap F G C) ++ ((SM Z sa o ro nn V S O N U L B) ++ []))) A s.heap _ _ := hT.sub (List.Sublist.cons _ (List.Sublist.cons _ (List.Sublist.refl _)))
              refine W.widen (k := 14) (n := 150) (by omega) (by omega) ?_
              exact hret 290 _ _ _ _ (ap, F, G, C, N, U, L, B) hm hT rfl dX6_isSame_290
      intro ap F G C N U L B e7 v2 v4 ae7 H locs ls cc cs hm hT hl hcb
      refine lv_iload hx hb dX6_isSame_206 (lv_at hl 4 rfl) ?_
      refine lv_aload_n hx hb dX6_isSame_208 rfl (lv_at hl 0 rfl) ?_
      refine w_get (C := RX6) (T := TX6) (N := 9) (ci := 6) (q0 := 47) (k := 2) hC hK hT.1 fi_X6 rfl rfl rfl (by decide) rfl wq_1169 dX6_isSame_209 ?_
      refine w_alen (q0 := 48) (t0 := 3) hC hK hT.1 rfl rfl dX6_isSame_212 ?_
      refine lv_icmp_ge (tgt := 303) hx hb dX6_isSame_213 (by decide) (fun c_213 => ?_) (fun c_213 => ?_)
      · have hm := hm.1 c_213
        refine lv_iconst (v := 0) hx hb dX6_isSame_303 (by decide) ?_
        refine lv_istore (lv' := [(4, .int 0), (0, .ref (sa)), (1, .ref (ca)), (2, .int v2), (3, .ref ae7)]) hx hb dX6_isSame_304 hl (by decide) rfl (fun ls hl => ?_)
        refine lv_iconst (v := 0) hx hb dX6_isSame_306 (by decide) ?_
        refine lv_istore (lv' := [(5, .int 0), (4, .int 0), (0, .ref (sa)), (1, .ref (ca)), (2, .int v2), (3, .ref ae7)]) hx hb dX6_isSame_307 hl (by decide) rfl (fun ls hl => ?_)
        have hT : TS vwCl D ([] ++ ((CA Z a b q ca tp rd sp P ap F G C) ++ ((SM Z sa o ro nn V S O N U L B) ++ []))) A s.heap _ _ := hT.sub (List.Sublist.cons _ (List.Sublist.refl _))
        exact L309 _ _ _ _ _ _ _ _ _ _ _ _ _ _ _ _ _ hm hT (lv_sub hl [2, 3, 4, 1, 0] rfl) ⟨by omega, by omega⟩
      · have hm := hm.2 c_213
        refine lv_iconst (v := 4) hx hb dX6_isSame_216 (by decide) ?_
        refine w_newI (N := 4) hC hK hT wq_240 (by decide) (by decide) (by decide) (by show _ ≤ 14; omega) (by show _ ≤ 150; omega) dX6_isSame_217 (fun ae217 H hT => ?_)
        have hT : TS vwCl D ([(ae217, .inl (Z 0, 4, .inl ((fun _ => 0)))), (ae7, .inl (Z 0, nn 0, .inl e7))] ++ ((CA Z a b q ca tp rd sp P ap F G C) ++ ((SM Z sa o ro nn V S O N U L B) ++ []))) A s.heap H _ := hT.front
        refine lv_dup hx hb dX6_isSame_219 rfl ?_
        refine lv_iconst (v := 0) hx hb dX6_isSame_220 (by decide) ?_
        refine lv_aload_n hx hb dX6_isSame_221 rfl (lv_at hl 0 rfl) ?_
        refine w_get (C := RX6) (T := TX6) (N := 9) (ci := 6) (q0 := 48) (k := 2) hC hK hT.1 fi_X6 rfl rfl rfl (by decide) rfl wq_1169 dX6_isSame_222 ?_
        refine lv_iload hx hb dX6_isSame_225 (lv_at hl 4 rfl) ?_
        refine w_aaldR (q0 := 49) hC hK hT.1 rfl hm.1 dX6_isSame_227 ?_
        have hm := hm.2
        refine lv_iconst (v := 0) hx hb dX6_isSame_228 (by decide) ?_
        refine wr_ld (jn := 0) (f := (fun X => [(ae217, .inl (Z 0, 4, .inl ((fun _ => 0)))), (ae7, .inl (Z 0, nn 0, .inl e7))] ++ ((CA Z a b q ca tp rd sp P ap F G C) ++ (SM Z sa o ro nn X S O N U L B ++ [])))) (sm_pre (sm_pre (sm_suf (sm_0 Z sa o ro nn S O N U L B) _) _) _) hC hK hT.1 hm.1 (by decide) rfl dX6_isSame_229 ?_
        have hm := hm.2
        have hj230 := hm.1
        obtain ⟨e217_230, ee217_230⟩ : ∃ y : Nat → Int32, y = upd ((fun _ => 0)) 0 (V v4.toInt.toNat 0) := ⟨_, rfl⟩
        have hm := hm.2 e217_230 ee217_230
        refine w_iast (q0 := 0) (ws' := ([(ae217, .inl (Z 0, 4, .inl e217_230)), (ae7, .inl (Z 0, nn 0, .inl e7))] ++ ((CA Z a b q ca tp rd sp P ap F G C) ++ ((SM Z sa o ro nn V S O N U L B) ++ [])))) hC hK hT rfl hj230 (by rw [ee217_230]; rfl) dX6_isSame_230 (fun H locs hT => ?_)
        refine lv_dup hx hb dX6_isSame_231 rfl ?_
        refine lv_iconst (v := 1) hx hb dX6_isSame_232 (by decide) ?_
        refine lv_aload_n hx hb dX6_isSame_233 rfl (lv_at hl 0 rfl) ?_
        refine w_get (C := RX6) (T := TX6) (N := 9) (ci := 6) (q0 := 48) (k := 2) hC hK hT.1 fi_X6 rfl rfl rfl (by decide) rfl wq_1169 dX6_isSame_234 ?_
        refine lv_iload hx hb dX6_isSame_237 (lv_at hl 4 rfl) ?_
        refine w_aaldR (q0 := 49) hC hK hT.1 rfl hm.1 dX6_isSame_239 ?_
        have hm := hm.2
        refine lv_iconst (v := 1) hx hb dX6_isSame_240 (by decide) ?_
        refine wr_ld (jn := 1) (f := (fun X => [(ae217, .inl (Z 0, 4, .inl e217_230)), (ae7, .inl (Z 0, nn 0, .inl e7))] ++ ((CA Z a b q ca tp rd sp P ap F G C) ++ (SM Z sa o ro nn X S O N U L B ++ [])))) (sm_pre (sm_pre (sm_suf (sm_0 Z sa o ro nn S O N U L B) _) _) _) hC hK hT.1 hm.1 (by decide) rfl dX6_isSame_241 ?_
        have hm := hm.2
        have hj242 := hm.1
        obtain ⟨e217_242, ee217_242⟩ : ∃ y : Nat → Int32, y = upd e217_230 1 (V v4.toInt.toNat 1) := ⟨_, rfl⟩
        have hm := hm.2 e217_242 ee217_242
        refine w_iast (q0 := 0) (ws' := ([(ae217, .inl (Z 0, 4, .inl e217_242)), (ae7, .inl (Z 0, nn 0, .inl e7))] ++ ((CA Z a b q ca tp rd sp P ap F G C) ++ ((SM Z sa o ro nn V S O N U L B) ++ [])))) hC hK hT rfl hj242 (by rw [ee217_242]; rfl) dX6_isSame_242 (fun H locs hT => ?_)
        refine lv_dup hx hb dX6_isSame_243 rfl ?_
        refine lv_iconst (v := 2) hx hb dX6_isSame_244 (by decide) ?_
        refine lv_aload_n hx hb dX6_isSame_245 rfl (lv_at hl 0 rfl) ?_
        refine w_get (C := RX6) (T := TX6) (N := 9) (ci := 6) (q0 := 48) (k := 2) hC hK hT.1 fi_X6 rfl rfl rfl (by decide) rfl wq_1169 dX6_isSame_246 ?_
        refine lv_iload hx hb dX6_isSame_249 (lv_at hl 4 rfl) ?_
        refine w_aaldR (q0 := 49) hC hK hT.1 rfl hm.1 dX6_isSame_251 ?_
        have hm := hm.2
        refine lv_iconst (v := 2) hx hb dX6_isSame_252 (by decide) ?_
        refine wr_ld (jn := 2) (f := (fun X => [(ae217, .inl (Z 0, 4, .inl e217_242)), (ae7, .inl (Z 0, nn 0, .inl e7))] ++ ((CA Z a b q ca tp rd sp P ap F G C) ++ (SM Z sa o ro nn X S O N U L B ++ [])))) (sm_pre (sm_pre (sm_suf (sm_0 Z sa o ro nn S O N U L B) _) _) _) hC hK hT.1 hm.1 (by decide) rfl dX6_isSame_253 ?_
        have hm := hm.2
        have hj254 := hm.1
        obtain ⟨e217_254, ee217_254⟩ : ∃ y : Nat → Int32, y = upd e217_242 2 (V v4.toInt.toNat 2) := ⟨_, rfl⟩
        have hm := hm.2 e217_254 ee217_254
        refine w_iast (q0 := 0) (ws' := ([(ae217, .inl (Z 0, 4, .inl e217_254)), (ae7, .inl (Z 0, nn 0, .inl e7))] ++ ((CA Z a b q ca tp rd sp P ap F G C) ++ ((SM Z sa o ro nn V S O N U L B) ++ [])))) hC hK hT rfl hj254 (by rw [ee217_254]; rfl) dX6_isSame_254 (fun H locs hT => ?_)
        refine lv_dup hx hb dX6_isSame_255 rfl ?_
        refine lv_iconst (v := 3) hx hb dX6_isSame_256 (by decide) ?_
        refine lv_aload_n hx hb dX6_isSame_257 rfl (lv_at hl 3 rfl) ?_
        refine lv_iload hx hb dX6_isSame_258 (lv_at hl 4 rfl) ?_
        refine w_iald (q0 := 1) hC hK hT.1 rfl hm.1 dX6_isSame_260 ?_
        have hm := hm.2
        have hj261 := hm.1
        obtain ⟨e217_261, ee217_261⟩ : ∃ y : Nat → Int32, y = upd e217_254 3 (e7 v4.toInt.toNat) := ⟨_, rfl⟩
        have hm := hm.2 e217_261 ee217_261
        refine w_iast (q0 := 0) (ws' := ([(ae217, .inl (Z 0, 4, .inl e217_261)), (ae7, .inl (Z 0, nn 0, .inl e7))] ++ ((CA Z a b q ca tp rd sp P ap F G C) ++ ((SM Z sa o ro nn V S O N U L B) ++ [])))) hC hK hT rfl hj261 (by rw [ee217_261]; rfl) dX6_isSame_261 (fun H locs hT => ?_)
        refine lv_astore (lv' := [(5, .ref ae217), (0, .ref (sa)), (1, .ref (ca)), (2, .int v2), (3, .ref ae7), (4, .int v4)]) hx hb dX6_isSame_262 hl (by decide) rfl (fun ls hl => ?_)
        refine lv_iconst (v := 0) hx hb dX6_isSame_264 (by decide) ?_
        refine lv_istore (lv' := [(6, .int 0), (5, .ref ae217), (0, .ref (sa)), (1, .ref (ca)), (2, .int v2), (3, .ref ae7), (4, .int v4)]) hx hb dX6_isSame_265 hl (by decide) rfl (fun ls hl => ?_)
        exact L267 _ _ _ _ _ _ _ _ _ _ _ _ _ _ _ _ _ _ _ _ _ hm hT (lv_sub hl [2, 3, 4, 5, 6, 1, 0] rfl) ⟨by omega, by omega⟩
  have L13 : ∀ (n13 : Nat), ∀ (ap : Nat) (F : M2) (G : M2) (C : M2) (N : M2) (U : M2) (L : M2) (B : M2) (e7 : (Nat → Int32)) (v2 : Int32) (v4 : Int32) (ae7 : Nat) (H : Heap) (locs : List Loc) (ls : Array Slot) (cc cs : Nat), wl_X6_isSame_13 q P nn V S O K n13 ap F G C N U L B e7 v2 v4 → TS vwCl D ([(ae7, .inl (Z 0, nn 0, .inl e7))] ++ ((CA Z a b q ca tp rd sp P ap F G C) ++ ((SM Z sa o ro nn V S O N U L B) ++ []))) A s.heap H locs → lv_has ls 10 [(0, .ref (sa)), (1, .ref (ca)), (2, .int v2), (3, .ref ae7), (4, .int v4)] → cc + (n13 * 0 + 13) ≤ 14 ∧ cs + (n13 * 0 + 86) ≤ 150 → W p l e (rk 8 14 150) s m args below meth c H locs cc cs Q (F0 m 13 ls []) := by
    intro n13
    induction n13 with
    | zero =>
      intro ap F G C N U L B e7 v2 v4 ae7 H locs ls cc cs hm hT hl hcb
      exact False.elim hm
    | succ n13 ih13 =>
      have L174 : ∀ (ap : Nat) (F : M2) (G : M2) (C : M2) (N : M2) (U : M2) (L : M2) (B : M2) (e7 : (Nat → Int32)) (v2 : Int32) (v4 : Int32) (ae7 : Nat) (H : Heap) (locs : List Loc) (ls : Array Slot) (cc cs : Nat), wj_X6_isSame_174 q P nn V S O (wl_X6_isSame_13 q P nn V S O K n13) K ap F G C N U L B e7 v2 v4 → TS vwCl D ([(ae7, .inl (Z 0, nn 0, .inl e7))] ++ ((CA Z a b q ca tp rd sp P ap F G C) ++ ((SM Z sa o ro nn V S O N U L B) ++ []))) A s.heap H locs → lv_has ls 10 [(0, .ref (sa)), (1, .ref (ca)), (2, .int v2), (3, .ref ae7), (4, .int v4)] → cc + (0 + n13 * 0 + 13) ≤ 14 ∧ cs + (0 + n13 * 0 + 86) ≤ 150 → W p l e (rk 8 14 150) s m args below meth c H locs cc cs Q (F0 m 174 ls []) := by
        intro ap F G C N U L B e7 v2 v4 ae7 H locs ls cc cs hm hT hl hcb
        refine lv_aload_n hx hb dX6_isSame_174 rfl (lv_at hl 3 rfl) ?_
        refine lv_aload_n hx hb dX6_isSame_175 rfl (lv_at hl 0 rfl) ?_
        refine w_get (C := RX6) (T := TX6) (N := 9) (ci := 6) (q0 := 47) (k := 3) hC hK hT.1 fi_X6 rfl rfl rfl (by decide) rfl wq_1171 dX6_isSame_176 ?_
        refine lv_iload hx hb dX6_isSame_179 (lv_at hl 4 rfl) ?_
        refine w_aaldR (q0 := 49) hC hK hT.1 rfl hm.1 dX6_isSame_181 ?_
        have hm := hm.2
        refine lv_iconst (v := 0) hx hb dX6_isSame_182 (by decide) ?_
        refine wr_ld (jn := 0) (f := (fun X => [(ae7, .inl (Z 0, nn 0, .inl e7))] ++ ((CA Z a b q ca tp rd sp P ap F G C) ++ (SM Z sa o ro nn V S O N X L B ++ [])))) (sm_pre (sm_pre (sm_suf (sm_1 Z sa o ro nn V S O N L B) _) _) _) hC hK hT.1 hm.1 (by decide) rfl dX6_isSame_183 ?_
        have hm := hm.2
        refine lv_dup2_11 hx hb dX6_isSame_184 rfl rfl ?_
        refine w_iald (q0 := 0) hC hK hT.1 rfl hm.1 dX6_isSame_185 ?_
        have hm := hm.2
        refine lv_aload_n hx hb dX6_isSame_186 rfl (lv_at hl 0 rfl) ?_
        refine w_get (C := RX6) (T := TX6) (N := 9) (ci := 6) (q0 := 47) (k := 3) hC hK hT.1 fi_X6 rfl rfl rfl (by decide) rfl wq_1171 dX6_isSame_187 ?_
        refine lv_iload hx hb dX6_isSame_190 (lv_at hl 4 rfl) ?_
        refine w_aaldR (q0 := 49) hC hK hT.1 rfl hm.1 dX6_isSame_192 ?_
        have hm := hm.2
        refine lv_iconst (v := 1) hx hb dX6_isSame_193 (by decide) ?_
        refine wr_ld (jn := 1) (f := (fun X => [(ae7, .inl (Z 0, nn 0, .inl e7))] ++ ((CA Z a b q ca tp rd sp P ap F G C) ++ (SM Z sa o ro nn V S O N X L B ++ [])))) (sm_pre (sm_pre (sm_suf (sm_1 Z sa o ro nn V S O N L B) _) _) _) hC hK hT.1 hm.1 (by decide) rfl dX6_isSame_194 ?_
        have hm := hm.2
        refine lv_iadd hx hb dX6_isSame_195 ?_
        have hj196 := hm.1
        obtain ⟨e7_196, ee7_196⟩ : ∃ y : Nat → Int32, y = upd e7 ((U v4.toInt.toNat 0).toInt.toNat) ((e7 ((U v4.toInt.toNat 0).toInt.toNat)) + (U v4.toInt.toNat 1)) := ⟨_, rfl⟩
        have hm := hm.2 e7_196 ee7_196
        refine w_iast (q0 := 0) (ws' := ([(ae7, .inl (Z 0, nn 0, .inl e7_196))] ++ ((CA Z a b q ca tp rd sp P ap F G C) ++ ((SM Z sa o ro nn V S O N U L B) ++ [])))) hC hK hT rfl hj196 (by rw [ee7_196]; rfl) dX6_isSame_196 (fun H locs hT => ?_)
        obtain ⟨v4_197, ev4_197⟩ : ∃ y : Int32, y = v4 + 1 := ⟨_, rfl⟩
        have hm := hm v4_197 ev4_197
        refine lv_iinc (v := v4_197) (lv' := [(4, .int v4_197), (0, .ref (sa)), (1, .ref (ca)), (2, .int v2), (3, .ref ae7)]) hx hb dX6_isSame_197 hl (k := 4) rfl (by rw [ev4_197]; rfl) (by decide) rfl (fun ls hl => ?_)
        refine lv_goto (tgt := 13) hx hb dX6_isSame_200 (by decide) ?_
        exact ih13 _ _ _ _ _ _ _ _ _ _ _ _ _ _ _ _ _ hm hT (lv_sub hl [1, 2, 3, 4, 0] rfl) ⟨by omega, by omega⟩
      have L40 : ∀ (n40 : Nat), ∀ (ap : Nat) (F : M2) (G : M2) (C : M2) (N : M2) (U : M2) (L : M2) (B : M2) (e7 : (Nat → Int32)) (v2 : Int32) (v4 : Int32) (v5 : Int32) (v7 : Int32) (v8 : Int32) (ae7 : Nat) (H : Heap) (locs : List Loc) (ls : Array Slot) (cc cs : Nat), wl_X6_isSame_40 q P nn V S O (wl_X6_isSame_13 q P nn V S O K n13) K n40 ap F G C N U L B e7 v2 v4 v5 v7 v8 → TS vwCl D ([(ae7, .inl (Z 0, nn 0, .inl e7))] ++ ((CA Z a b q ca tp rd sp P ap F G C) ++ ((SM Z sa o ro nn V S O N U L B) ++ []))) A s.heap H locs → lv_has ls 10 [(0, .ref (sa)), (1, .ref (ca)), (2, .int v2), (3, .ref ae7), (4, .int v4), (5, .int v5), (6, .ref (o 3)), (7, .int v7), (8, .int v8)] → cc + (n40 * 0 + 0 + n13 * 0 + 13) ≤ 14 ∧ cs + (n40 * 0 + 0 + n13 * 0 + 86) ≤ 150 → W p l e (rk 8 14 150) s m args below meth c H locs cc cs Q (F0 m 40 ls []) := by
        intro n40
        induction n40 with
        | zero =>
          intro ap F G C N U L B e7 v2 v4 v5 v7 v8 ae7 H locs ls cc cs hm hT hl hcb
          exact False.elim hm
        | succ n40 ih40 =>
          intro ap F G C N U L B e7 v2 v4 v5 v7 v8 ae7 H locs ls cc cs hm hT hl hcb
          refine lv_iload hx hb dX6_isSame_40 (lv_at hl 8 rfl) ?_
          refine lv_iload hx hb dX6_isSame_42 (lv_at hl 7 rfl) ?_
          refine lv_icmp_ge (tgt := 79) hx hb dX6_isSame_44 (by decide) (fun c_44 => ?_) (fun c_44 => ?_)
          · have hm := hm.1 c_44
            refine lv_aload_n hx hb dX6_isSame_79 rfl (lv_at hl 1 rfl) ?_
            refine lv_iload hx hb dX6_isSame_80 (lv_at hl 4 rfl) ?_
            refine lv_iconst (v := 0) hx hb dX6_isSame_82 (by decide) ?_
            refine k_X5_place hC hN hK hT.dropL.dropR.1 hT.dropL.dropR.D' hm wq_877 (by decide) hl.1 (Nat.le_of_ble_eq_true rfl) ⟨by omega, by omega⟩ dX6_isSame_83 (fun r_83 hm => ?_)
            refine lv_aload_n hx hb dX6_isSame_86 rfl (lv_at hl 0 rfl) ?_
            refine w_get (C := RX6) (T := TX6) (N := 9) (ci := 6) (q0 := 47) (k := 3) hC hK hT.1 fi_X6 rfl rfl rfl (by decide) rfl wq_1171 dX6_isSame_87 ?_
            refine lv_iload hx hb dX6_isSame_90 (lv_at hl 4 rfl) ?_
            refine w_aaldR (q0 := 49) hC hK hT.1 rfl hm.1 dX6_isSame_92 ?_
            have hm := hm.2
            refine lv_iconst (v := 0) hx hb dX6_isSame_93 (by decide) ?_
            refine wr_ld (jn := 0) (f := (fun X => [(ae7, .inl (Z 0, nn 0, .inl e7))] ++ ((CA Z a b q ca tp rd sp P ap F G C) ++ (SM Z sa o ro nn V S O N X L B ++ [])))) (sm_pre (sm_pre (sm_suf (sm_1 Z sa o ro nn V S O N L B) _) _) _) hC hK hT.1 hm.1 (by decide) rfl dX6_isSame_94 ?_
            have hm := hm.2
            refine lv_icmp_ne (tgt := 145) hx hb dX6_isSame_95 (by decide) (fun c_95 => ?_) (fun c_95 => ?_)
            · have hm := hm.1 c_95
              refine lv_iconst (v := 0) hx hb dX6_isSame_145 (by decide) ?_
              have hT : TS vwCl D ([] ++ ((CA Z a b q ca tp rd sp P ap F G C) ++ ((SM Z sa o ro nn V S O N U L B) ++ []))) A s.heap _ _ := hT.sub (List.Sublist.cons _ (List.Sublist.refl _))
              refine W.widen (k := 14) (n := 150) (by omega) (by omega) ?_
              exact hret 146 _ _ _ _ (ap, F, G, C, N, U, L, B) hm hT rfl dX6_isSame_146
            · have hm := hm.2 c_95
              refine lv_aload_n hx hb dX6_isSame_98 rfl (lv_at hl 1 rfl) ?_
              refine lv_iload hx hb dX6_isSame_99 (lv_at hl 4 rfl) ?_
              refine lv_iconst (v := 1) hx hb dX6_isSame_101 (by decide) ?_
              refine k_X5_place hC hN hK hT.dropL.dropR.1 hT.dropL.dropR.D' hm wq_877 (by decide) hl.1 (Nat.le_of_ble_eq_true rfl) ⟨by omega, by omega⟩ dX6_isSame_102 (fun r_102 hm => ?_)
              refine lv_aload_n hx hb dX6_isSame_105 rfl (lv_at hl 0 rfl) ?_
              refine w_get (C := RX6) (T := TX6) (N := 9) (ci := 6) (q0 := 47) (k := 3) hC hK hT.1 fi_X6 rfl rfl rfl (by decide) rfl wq_1171 dX6_isSame_106 ?_
              refine lv_iload hx hb dX6_isSame_109 (lv_at hl 4 rfl) ?_
              refine w_aaldR (q0 := 49) hC hK hT.1 rfl hm.1 dX6_isSame_111 ?_
              have hm := hm.2
              refine lv_iconst (v := 1) hx hb dX6_isSame_112 (by decide) ?_
              refine wr_ld (jn := 1) (f := (fun X => [(ae7, .inl (Z 0, nn 0, .inl e7))] ++ ((CA Z a b q ca tp rd sp P ap F G C) ++ (SM Z sa o ro nn V S O N X L B ++ [])))) (sm_pre (sm_pre (sm_suf (sm_1 Z sa o ro nn V S O N L B) _) _) _) hC hK hT.1 hm.1 (by decide) rfl dX6_isSame_113 ?_
              have hm := hm.2
              refine lv_icmp_ne (tgt := 145) hx hb dX6_isSame_114 (by decide) (fun c_114 => ?_) (fun c_114 => ?_)
              · have hm := hm.1 c_114
                refine lv_iconst (v := 0) hx hb dX6_isSame_145 (by decide) ?_
                have hT : TS vwCl D ([] ++ ((CA Z a b q ca tp rd sp P ap F G C) ++ ((SM Z sa o ro nn V S O N U L B) ++ []))) A s.heap _ _ := hT.sub (List.Sublist.cons _ (List.Sublist.refl _))
                refine W.widen (k := 14) (n := 150) (by omega) (by omega) ?_
                exact hret 146 _ _ _ _ (ap, F, G, C, N, U, L, B) hm hT rfl dX6_isSame_146
              · have hm := hm.2 c_114
                refine lv_aload_n hx hb dX6_isSame_117 rfl (lv_at hl 1 rfl) ?_
                refine lv_iload hx hb dX6_isSame_118 (lv_at hl 4 rfl) ?_
                refine lv_iconst (v := 2) hx hb dX6_isSame_120 (by decide) ?_
                refine k_X5_place hC hN hK hT.dropL.dropR.1 hT.dropL.dropR.D' hm wq_877 (by decide) hl.1 (Nat.le_of_ble_eq_true rfl) ⟨by omega, by omega⟩ dX6_isSame_121 (fun r_121 hm => ?_)
                refine lv_iload hx hb dX6_isSame_124 (lv_at hl 5 rfl) ?_
                refine lv_icmp_ne (tgt := 145) hx hb dX6_isSame_126 (by decide) (fun c_126 => ?_) (fun c_126 => ?_)
                · have hm := hm.1 c_126
                  refine lv_iconst (v := 0) hx hb dX6_isSame_145 (by decide) ?_
                  have hT : TS vwCl D ([] ++ ((CA Z a b q ca tp rd sp P ap F G C) ++ ((SM Z sa o ro nn V S O N U L B) ++ []))) A s.heap _ _ := hT.sub (List.Sublist.cons _ (List.Sublist.refl _))
                  refine W.widen (k := 14) (n := 150) (by omega) (by omega) ?_
                  exact hret 146 _ _ _ _ (ap, F, G, C, N, U, L, B) hm hT rfl dX6_isSame_146
                · have hm := hm.2 c_126
                  refine lv_aload_n hx hb dX6_isSame_129 rfl (lv_at hl 1 rfl) ?_
                  refine lv_iload hx hb dX6_isSame_130 (lv_at hl 4 rfl) ?_
                  refine lv_iconst (v := 3) hx hb dX6_isSame_132 (by decide) ?_
                  refine k_X5_place hC hN hK hT.dropL.dropR.1 hT.dropL.dropR.D' hm wq_877 (by decide) hl.1 (Nat.le_of_ble_eq_true rfl) ⟨by omega, by omega⟩ dX6_isSame_133 (fun r_133 hm => ?_)
                  refine lv_aload_n hx hb dX6_isSame_136 rfl (lv_at hl 0 rfl) ?_
                  refine lv_iload hx hb dX6_isSame_137 (lv_at hl 4 rfl) ?_
                  refine k_X6_boatAt hC hN hK hT.dropL.dropL.dropR.1 hT.dropL.dropL.dropR.D' hm wq_849 (by decide) hl.1 (Nat.le_of_ble_eq_true rfl) ⟨by omega, by omega⟩ dX6_isSame_139 (fun r_139 hm => ?_)
                  refine lv_icmp_eq (tgt := 147) hx hb dX6_isSame_142 (by decide) (fun c_142 => ?_) (fun c_142 => ?_)
                  · have hm := hm.1 c_142
                    refine lv_iload_n hx hb dX6_isSame_147 rfl (lv_at hl 2 rfl) ?_
                    refine lv_if_lt (tgt := 171) hx hb dX6_isSame_148 (by decide) (fun c_148 => ?_) (fun c_148 => ?_)
                    · have hm := hm.1 c_148
                      refine lv_iload hx hb dX6_isSame_171 (lv_at hl 4 rfl) ?_
                      refine lv_istore_n (lv' := [(2, .int v4), (0, .ref (sa)), (1, .ref (ca)), (3, .ref ae7), (4, .int v4), (5, .int v5), (6, .ref (o 3)), (7, .int v7), (8, .int v8)]) hx hb dX6_isSame_173 rfl hl (by decide) rfl (fun ls hl => ?_)
                      exact L174 _ _ _ _ _ _ _ _ _ _ _ _ _ _ _ _ _ hm hT (lv_sub hl [1, 2, 0, 3, 4] rfl) ⟨by omega, by omega⟩
                    · have hm := hm.2 c_148
                      refine lv_aload_n hx hb dX6_isSame_151 rfl (lv_at hl 0 rfl) ?_
                      refine w_get (C := RX6) (T := TX6) (N := 9) (ci := 6) (q0 := 47) (k := 3) hC hK hT.1 fi_X6 rfl rfl rfl (by decide) rfl wq_1171 dX6_isSame_152 ?_
                      refine lv_iload hx hb dX6_isSame_155 (lv_at hl 4 rfl) ?_
                      refine w_aaldR (q0 := 49) hC hK hT.1 rfl hm.1 dX6_isSame_157 ?_
                      have hm := hm.2
                      refine lv_iconst (v := 1) hx hb dX6_isSame_158 (by decide) ?_
                      refine wr_ld (jn := 1) (f := (fun X => [(ae7, .inl (Z 0, nn 0, .inl e7))] ++ ((CA Z a b q ca tp rd sp P ap F G C) ++ (SM Z sa o ro nn V S O N X L B ++ [])))) (sm_pre (sm_pre (sm_suf (sm_1 Z sa o ro nn V S O N L B) _) _) _) hC hK hT.1 hm.1 (by decide) rfl dX6_isSame_159 ?_
                      have hm := hm.2
                      refine lv_aload_n hx hb dX6_isSame_160 rfl (lv_at hl 0 rfl) ?_
                      refine w_get (C := RX6) (T := TX6) (N := 9) (ci := 6) (q0 := 47) (k := 3) hC hK hT.1 fi_X6 rfl rfl rfl (by decide) rfl wq_1171 dX6_isSame_161 ?_
                      refine lv_iload_n hx hb dX6_isSame_164 rfl (lv_at hl 2 rfl) ?_
                      refine w_aaldR (q0 := 49) hC hK hT.1 rfl hm.1 dX6_isSame_165 ?_
                      have hm := hm.2
                      refine lv_iconst (v := 1) hx hb dX6_isSame_166 (by decide) ?_
                      refine wr_ld (jn := 1) (f := (fun X => [(ae7, .inl (Z 0, nn 0, .inl e7))] ++ ((CA Z a b q ca tp rd sp P ap F G C) ++ (SM Z sa o ro nn V S O N X L B ++ [])))) (sm_pre (sm_pre (sm_suf (sm_1 Z sa o ro nn V S O N L B) _) _) _) hC hK hT.1 hm.1 (by decide) rfl dX6_isSame_167 ?_
                      have hm := hm.2
                      refine lv_icmp_ge (tgt := 174) hx hb dX6_isSame_168 (by decide) (fun c_168 => ?_) (fun c_168 => ?_)
                      · have hm := hm.1 c_168
                        exact L174 _ _ _ _ _ _ _ _ _ _ _ _ _ _ _ _ _ hm hT (lv_sub hl [0, 1, 2, 3, 4] rfl) ⟨by omega, by omega⟩
                      · have hm := hm.2 c_168
                        refine lv_iload hx hb dX6_isSame_171 (lv_at hl 4 rfl) ?_
                        refine lv_istore_n (lv' := [(2, .int v4), (0, .ref (sa)), (1, .ref (ca)), (3, .ref ae7), (4, .int v4), (5, .int v5), (6, .ref (o 3)), (7, .int v7), (8, .int v8)]) hx hb dX6_isSame_173 rfl hl (by decide) rfl (fun ls hl => ?_)
                        exact L174 _ _ _ _ _ _ _ _ _ _ _ _ _ _ _ _ _ hm hT (lv_sub hl [1, 2, 0, 3, 4] rfl) ⟨by omega, by omega⟩
                  · have hm := hm.2 c_142
                    refine lv_iconst (v := 0) hx hb dX6_isSame_145 (by decide) ?_
                    have hT : TS vwCl D ([] ++ ((CA Z a b q ca tp rd sp P ap F G C) ++ ((SM Z sa o ro nn V S O N U L B) ++ []))) A s.heap _ _ := hT.sub (List.Sublist.cons _ (List.Sublist.refl _))
                    refine W.widen (k := 14) (n := 150) (by omega) (by omega) ?_
                    exact hret 146 _ _ _ _ (ap, F, G, C, N, U, L, B) hm hT rfl dX6_isSame_146
          · have hm := hm.2 c_44
            refine lv_aload hx hb dX6_isSame_47 (lv_at hl 6 rfl) ?_
            refine lv_iload hx hb dX6_isSame_49 (lv_at hl 8 rfl) ?_
            refine w_aaldR (q0 := 51) hC hK hT.1 rfl hm.1 dX6_isSame_51 ?_
            have hm := hm.2
            refine lv_astore (lv' := [(9, .ref (ro 3 v8.toInt.toNat)), (0, .ref (sa)), (1, .ref (ca)), (2, .int v2), (3, .ref ae7), (4, .int v4), (5, .int v5), (6, .ref (o 3)), (7, .int v7), (8, .int v8)]) hx hb dX6_isSame_52 hl (by decide) rfl (fun ls hl => ?_)
            refine lv_iload hx hb dX6_isSame_54 (lv_at hl 6 rfl) ?_
            refine lv_aload hx hb dX6_isSame_56 (lv_at hl 0 rfl) ?_
            refine lv_iconst (v := 3) hx hb dX6_isSame_58 (by decide) ?_
            refine wr_ld (jn := 3) (f := (fun X => [(ae7, .inl (Z 0, nn 0, .inl e7))] ++ ((CA Z a b q ca tp rd sp P ap F G C) ++ (SM Z sa o ro nn V S O N U X B ++ [])))) (sm_pre (sm_pre (sm_suf (sm_3 Z sa o ro nn V S O N U B) _) _) _) hC hK hT.1 hm.1 (by decide) rfl dX6_isSame_59 ?_
            have hm := hm.2
            refine lv_iload hx hb dX6_isSame_60 (lv_at hl 5 rfl) ?_
            refine lv_icmp_ne (tgt := 69) hx hb dX6_isSame_62 (by decide) (fun c_62 => ?_) (fun c_62 => ?_)
            · have hm := hm.1 c_62
              refine lv_iconst (v := 0) hx hb dX6_isSame_69 (by decide) ?_
              refine lv_iadd hx hb dX6_isSame_70 ?_
              refine lv_topi (fun v5_71 ev5_71 => ?_)
              have hm := hm v5_71 ev5_71
              refine lv_istore (lv' := [(5, .int v5_71), (9, .ref (ro 3 v8.toInt.toNat)), (0, .ref (sa)), (1, .ref (ca)), (2, .int v2), (3, .ref ae7), (4, .int v4), (6, .ref (o 3)), (7, .int v7), (8, .int v8)]) hx hb dX6_isSame_71 hl (by decide) rfl (fun ls hl => ?_)
              obtain ⟨v8_73, ev8_73⟩ : ∃ y : Int32, y = v8 + 1 := ⟨_, rfl⟩
              have hm := hm v8_73 ev8_73
              refine lv_iinc (v := v8_73) (lv' := [(8, .int v8_73), (5, .int v5_71), (9, .ref (ro 3 v8.toInt.toNat)), (0, .ref (sa)), (1, .ref (ca)), (2, .int v2), (3, .ref ae7), (4, .int v4), (6, .ref (o 3)), (7, .int v7)]) hx hb dX6_isSame_73 hl (k := 9) rfl (by rw [ev8_73]; rfl) (by decide) rfl (fun ls hl => ?_)
              refine lv_goto (tgt := 40) hx hb dX6_isSame_76 (by decide) ?_
              exact ih40 _ _ _ _ _ _ _ _ _ _ _ _ _ _ _ _ _ _ _ _ hm hT (lv_sub hl [3, 4, 5, 6, 7, 1, 8, 9, 0] rfl) ⟨by omega, by omega⟩
            · have hm := hm.2 c_62
              refine lv_iconst (v := 1) hx hb dX6_isSame_65 (by decide) ?_
              refine lv_goto (tgt := 70) hx hb dX6_isSame_66 (by decide) ?_
              refine lv_iadd hx hb dX6_isSame_70 ?_
              refine lv_topi (fun v5_71 ev5_71 => ?_)
              have hm := hm v5_71 ev5_71
              refine lv_istore (lv' := [(5, .int v5_71), (9, .ref (ro 3 v8.toInt.toNat)), (0, .ref (sa)), (1, .ref (ca)), (2, .int v2), (3, .ref ae7), (4, .int v4), (6, .ref (o 3)), (7, .int v7), (8, .int v8)]) hx hb dX6_isSame_71 hl (by decide) rfl (fun ls hl => ?_)
              obtain ⟨v8_73, ev8_73⟩ : ∃ y : Int32, y = v8 + 1 := ⟨_, rfl⟩
              have hm := hm v8_73 ev8_73
              refine lv_iinc (v := v8_73) (lv' := [(8, .int v8_73), (5, .int v5_71), (9, .ref (ro 3 v8.toInt.toNat)), (0, .ref (sa)), (1, .ref (ca)), (2, .int v2), (3, .ref ae7), (4, .int v4), (6, .ref (o 3)), (7, .int v7)]) hx hb dX6_isSame_73 hl (k := 9) rfl (by rw [ev8_73]; rfl) (by decide) rfl (fun ls hl => ?_)
              refine lv_goto (tgt := 40) hx hb dX6_isSame_76 (by decide) ?_
              exact ih40 _ _ _ _ _ _ _ _ _ _ _ _ _ _ _ _ _ _ _ _ hm hT (lv_sub hl [3, 4, 5, 6, 7, 1, 8, 9, 0] rfl) ⟨by omega, by omega⟩
      intro ap F G C N U L B e7 v2 v4 ae7 H locs ls cc cs hm hT hl hcb
      refine lv_iload hx hb dX6_isSame_13 (lv_at hl 4 rfl) ?_
      refine lv_aload_n hx hb dX6_isSame_15 rfl (lv_at hl 0 rfl) ?_
      refine w_get (C := RX6) (T := TX6) (N := 9) (ci := 6) (q0 := 47) (k := 3) hC hK hT.1 fi_X6 rfl rfl rfl (by decide) rfl wq_1171 dX6_isSame_16 ?_
      refine w_alen (q0 := 49) (t0 := 3) hC hK hT.1 rfl rfl dX6_isSame_19 ?_
      refine lv_icmp_ge (tgt := 203) hx hb dX6_isSame_20 (by decide) (fun c_20 => ?_) (fun c_20 => ?_)
      · have hm := hm.1 c_20
        refine lv_iconst (v := 0) hx hb dX6_isSame_203 (by decide) ?_
        refine lv_istore (lv' := [(4, .int 0), (0, .ref (sa)), (1, .ref (ca)), (2, .int v2), (3, .ref ae7)]) hx hb dX6_isSame_204 hl (by decide) rfl (fun ls hl => ?_)
        exact L206 _ _ _ _ _ _ _ _ _ _ _ _ _ _ _ _ _ _ hm hT (lv_sub hl [1, 2, 3, 4, 0] rfl) ⟨by omega, by omega⟩
      · have hm := hm.2 c_20
        refine lv_iconst (v := 0) hx hb dX6_isSame_23 (by decide) ?_
        refine lv_istore (lv' := [(5, .int 0), (0, .ref (sa)), (1, .ref (ca)), (2, .int v2), (3, .ref ae7), (4, .int v4)]) hx hb dX6_isSame_24 hl (by decide) rfl (fun ls hl => ?_)
        refine lv_aload_n hx hb dX6_isSame_26 rfl (lv_at hl 1 rfl) ?_
        refine w_get (C := RX6) (T := TX6) (N := 9) (ci := 6) (q0 := 47) (k := 5) hC hK hT.1 fi_X6 rfl rfl rfl (by decide) rfl wq_1175 dX6_isSame_27 ?_
        refine lv_astore (lv' := [(6, .ref (o 3)), (5, .int 0), (0, .ref (sa)), (1, .ref (ca)), (2, .int v2), (3, .ref ae7), (4, .int v4)]) hx hb dX6_isSame_30 hl (by decide) rfl (fun ls hl => ?_)
        refine lv_aload hx hb dX6_isSame_32 (lv_at hl 0 rfl) ?_
        refine w_alen (q0 := 51) (t0 := 3) hC hK hT.1 rfl rfl dX6_isSame_34 ?_
        refine lv_topi (fun v7_35 ev7_35 => ?_)
        have hm := hm v7_35 ev7_35
        refine lv_istore (lv' := [(7, .int v7_35), (6, .ref (o 3)), (5, .int 0), (0, .ref (sa)), (1, .ref (ca)), (2, .int v2), (3, .ref ae7), (4, .int v4)]) hx hb dX6_isSame_35 hl (by decide) rfl (fun ls hl => ?_)
        refine lv_iconst (v := 0) hx hb dX6_isSame_37 (by decide) ?_
        refine lv_istore (lv' := [(8, .int 0), (7, .int v7_35), (6, .ref (o 3)), (5, .int 0), (0, .ref (sa)), (1, .ref (ca)), (2, .int v2), (3, .ref ae7), (4, .int v4)]) hx hb dX6_isSame_38 hl (by decide) rfl (fun ls hl => ?_)
        exact L40 _ _ _ _ _ _ _ _ _ _ _ _ _ _ _ _ _ _ _ _ _ hm hT (lv_sub hl [4, 5, 6, 7, 8, 3, 2, 1, 0] rfl) ⟨by omega, by omega⟩
  refine lv_iconst (v := (-1)) hx hb dX6_isSame_0 (by decide) ?_
  refine lv_istore_n (lv' := [(2, .int ((-1))), (0, .ref (sa)), (1, .ref (ca))]) hx hb dX6_isSame_1 rfl hl (by decide) rfl (fun ls hl => ?_)
  refine lv_aload_n hx hb dX6_isSame_2 rfl (lv_at hl 1 rfl) ?_
  refine w_get (C := RX6) (T := TX6) (N := 9) (ci := 6) (q0 := 46) (k := 2) hC hK hT.1 fi_X6 rfl rfl rfl (by decide) rfl wq_1169 dX6_isSame_3 ?_
  refine w_alen (q0 := 47) (t0 := 3) hC hK hT.1 rfl rfl dX6_isSame_6 ?_
  have hz7 := hm.1
  have hm := hm.2
  refine w_newI (N := nn 0) hC hK hT wq_240 (nI_pos (by omega)) (clampI (by omega)) (by omega) (by show _ ≤ 14; omega) (by show _ ≤ 150; omega) dX6_isSame_7 (fun ae7 H hT => ?_)
  have hT : TS vwCl D ([(ae7, .inl (Z 0, nn 0, .inl ((fun _ => 0))))] ++ ((CA Z a b q ca tp rd sp P ap F G C) ++ ((SM Z sa o ro nn V S O N U L B) ++ []))) A s.heap H _ := hT.front
  refine lv_astore_n (lv' := [(3, .ref ae7), (2, .int ((-1))), (0, .ref (sa)), (1, .ref (ca))]) hx hb dX6_isSame_9 rfl hl (by decide) rfl (fun ls hl => ?_)
  refine lv_iconst (v := 0) hx hb dX6_isSame_10 (by decide) ?_
  refine lv_istore (lv' := [(4, .int 0), (3, .ref ae7), (2, .int ((-1))), (0, .ref (sa)), (1, .ref (ca))]) hx hb dX6_isSame_11 hl (by decide) rfl (fun ls hl => ?_)
  exact L13 _ _ _ _ _ _ _ _ _ _ _ _ _ _ _ _ _ _ hm hT (lv_sub hl [3, 4, 2, 1, 0] rfl) ⟨by omega, by omega⟩
section KX6_isSame
variable {p : Program} {l : Launch} {e : Env} {s : State} {m : MethodId} {args : Array Value} {below : List Frame} {meth : Method} {c : Code} {H H0 : Heap} {locs : List Loc} {cells slots : Nat} {Q : State → Prop} {R : Room} {rn mcR msR : Nat}
variable {pc : Nat} {ls : Array Slot} {rest : List Value} {A : Nat → Prop} {D : va_G}
variable {cc : ByteArray} {nL index : Nat} {own host : String}
end KX6_isSame
