theorem wn_1012 : Cond.fieldLinkNest RX2 121 RX5 "BORE_LINE" "[I" RX5 ∈ lw_n := lw_n_mk (tb_4 (List.mem_of_getElem? (i := 228) rfl)) rfl
theorem wq_1014 : Cond.methodLink RX2 124 yX2_takeAll ∈ lw_g := lw_g_mk (tb_4 (List.mem_of_getElem? (i := 230) rfl)) rfl
theorem wq_386 : Cond.fieldLink RX2 18 RX2 "boreNames" "[J" ∈ lw_g := lw_g_mk (tb_2 (List.mem_of_getElem? (i := 82) rfl)) rfl
theorem wq_290 : Cond.fieldLink RX2 128 RX1 "bores" "I" ∈ lw_g := lw_g_mk (tb_1 (List.mem_of_getElem? (i := 226) rfl)) rfl
theorem wq_1022 : Cond.methodLink RX2 131 yX2_needNew ∈ lw_g := lw_g_mk (tb_4 (List.mem_of_getElem? (i := 238) rfl)) rfl
theorem wq_1034 : Cond.methodLink RX2 135 yX2_needRange ∈ lw_g := lw_g_mk (tb_5 (List.mem_of_getElem? (i := 10) rfl)) rfl
theorem wn_1042 : Cond.methodLinkNest RX2 139 yX5_put_ RX5 ∈ lw_n := lw_n_mk (tb_5 (List.mem_of_getElem? (i := 18) rfl)) rfl
theorem wq_1043 : Cond.methodLink RX2 143 yX1_addBore ∈ lw_g := lw_g_mk (tb_5 (List.mem_of_getElem? (i := 19) rfl)) rfl
theorem wn_1052 : Cond.fieldLinkNest RX2 146 RX5 "SHAFT_LINE" "[I" RX5 ∈ lw_n := lw_n_mk (tb_5 (List.mem_of_getElem? (i := 28) rfl)) rfl
theorem wq_387 : Cond.fieldLink RX2 22 RX2 "shaftNames" "[J" ∈ lw_g := lw_g_mk (tb_2 (List.mem_of_getElem? (i := 83) rfl)) rfl
theorem wq_297 : Cond.fieldLink RX2 149 RX1 "shafts" "I" ∈ lw_g := lw_g_mk (tb_1 (List.mem_of_getElem? (i := 233) rfl)) rfl
theorem wq_294 : Cond.fieldLink RX2 152 RX1 "places" "I" ∈ lw_g := lw_g_mk (tb_1 (List.mem_of_getElem? (i := 230) rfl)) rfl
theorem wq_1054 : Cond.methodLink RX2 155 yX1_addShaft ∈ lw_g := lw_g_mk (tb_5 (List.mem_of_getElem? (i := 30) rfl)) rfl
theorem wn_1062 : Cond.fieldLinkNest RX2 158 RX5 "LEGGER_LINE" "[I" RX5 ∈ lw_n := lw_n_mk (tb_5 (List.mem_of_getElem? (i := 38) rfl)) rfl
theorem wq_1064 : Cond.methodLink RX2 164 yX1_addLegger ∈ lw_g := lw_g_mk (tb_5 (List.mem_of_getElem? (i := 40) rfl)) rfl
theorem wn_1072 : Cond.fieldLinkNest RX2 167 RX5 "BOAT_LINE" "[I" RX5 ∈ lw_n := lw_n_mk (tb_5 (List.mem_of_getElem? (i := 48) rfl)) rfl
theorem wq_1078 : Cond.methodLink RX2 177 yX1_addBoat ∈ lw_g := lw_g_mk (tb_5 (List.mem_of_getElem? (i := 54) rfl)) rfl
theorem wq_256 : Cond.fieldLink RX2 185 RX0 "told" "I" ∈ lw_g := lw_g_mk (tb_1 (List.mem_of_getElem? (i := 192) rfl)) rfl
theorem wq_266 : Cond.fieldLink RX2 190 RX0 "emitted" "I" ∈ lw_g := lw_g_mk (tb_1 (List.mem_of_getElem? (i := 202) rfl)) rfl
theorem wq_1141 : Cond.methodLink RX2 196 yX0_add ∈ lw_g := lw_g_mk (tb_5 (List.mem_of_getElem? (i := 117) rfl)) rfl
theorem wq_1008 : Cond.methodLink RX2 99 yX2_boreLine ∈ lw_g := lw_g_mk (tb_4 (List.mem_of_getElem? (i := 224) rfl)) rfl
theorem wq_1048 : Cond.methodLink RX2 102 yX2_shaftLine ∈ lw_g := lw_g_mk (tb_5 (List.mem_of_getElem? (i := 24) rfl)) rfl
theorem wq_1058 : Cond.methodLink RX2 105 yX2_leggerLine ∈ lw_g := lw_g_mk (tb_5 (List.mem_of_getElem? (i := 34) rfl)) rfl
theorem wq_1068 : Cond.methodLink RX2 108 yX2_boatLine ∈ lw_g := lw_g_mk (tb_5 (List.mem_of_getElem? (i := 44) rfl)) rfl
theorem wn_1082 : Cond.fieldLinkNest RX2 111 RX5 "WHISTLE_HEAD" "[I" RX5 ∈ lw_n := lw_n_mk (tb_5 (List.mem_of_getElem? (i := 58) rfl)) rfl
theorem wq_1084 : Cond.methodLink RX2 114 yX2_orderLine ∈ lw_g := lw_g_mk (tb_5 (List.mem_of_getElem? (i := 60) rfl)) rfl
theorem wn_1145 : Cond.fieldLinkNest RX2 118 RX5 "REST_HEAD" "[I" RX5 ∈ lw_n := lw_n_mk (tb_5 (List.mem_of_getElem? (i := 121) rfl)) rfl
theorem wq_951 : Cond.methodLink RX3 129 yX3_behindBlanks ∈ lw_g := lw_g_mk (tb_4 (List.mem_of_getElem? (i := 167) rfl)) rfl
theorem wq_215 : Cond.fieldLink RX3 26 RX3 "start" "[I" ∈ lw_g := lw_g_mk (tb_1 (List.mem_of_getElem? (i := 151) rfl)) rfl
theorem wq_959 : Cond.methodLink RX3 132 yX3_readOne ∈ lw_g := lw_g_mk (tb_4 (List.mem_of_getElem? (i := 175) rfl)) rfl
theorem wq_947 : Cond.methodLink RX2 51 yX3_read ∈ lw_g := lw_g_mk (tb_4 (List.mem_of_getElem? (i := 163) rfl)) rfl
theorem wq_991 : Cond.methodLink RX2 55 yX1_clear ∈ lw_g := lw_g_mk (tb_4 (List.mem_of_getElem? (i := 207) rfl)) rfl
theorem wq_1004 : Cond.methodLink RX2 62 yX2_line ∈ lw_g := lw_g_mk (tb_4 (List.mem_of_getElem? (i := 220) rfl)) rfl
theorem wq_216 : Cond.fieldLink RX2 70 RX3 "start" "[I" ∈ lw_g := lw_g_mk (tb_1 (List.mem_of_getElem? (i := 152) rfl)) rfl
theorem wq_394 : Cond.fieldLink RX2 48 RX2 "faultAt" "I" ∈ lw_g := lw_g_mk (tb_2 (List.mem_of_getElem? (i := 90) rfl)) rfl
theorem wq_1017 : Cond.code yX2_takeAll cX2_takeAll 3 (some .boolean) ∈ lw_g := lw_g_mk (tb_4 (List.mem_of_getElem? (i := 233) rfl)) rfl
theorem wq_1011 : Cond.code yX2_boreLine cX2_boreLine 2 (some .boolean) ∈ lw_g := lw_g_mk (tb_4 (List.mem_of_getElem? (i := 227) rfl)) rfl
theorem wq_1051 : Cond.code yX2_shaftLine cX2_shaftLine 2 (some .boolean) ∈ lw_g := lw_g_mk (tb_5 (List.mem_of_getElem? (i := 27) rfl)) rfl
theorem wq_1061 : Cond.code yX2_leggerLine cX2_leggerLine 2 (some .boolean) ∈ lw_g := lw_g_mk (tb_5 (List.mem_of_getElem? (i := 37) rfl)) rfl
theorem wq_1071 : Cond.code yX2_boatLine cX2_boatLine 4 (some .boolean) ∈ lw_g := lw_g_mk (tb_5 (List.mem_of_getElem? (i := 47) rfl)) rfl
theorem wq_1087 : Cond.code yX2_orderLine cX2_orderLine 6 (some .boolean) ∈ lw_g := lw_g_mk (tb_5 (List.mem_of_getElem? (i := 63) rfl)) rfl
theorem wq_1007 : Cond.code yX2_line cX2_line 1 (some .boolean) ∈ lw_g := lw_g_mk (tb_4 (List.mem_of_getElem? (i := 223) rfl)) rfl
theorem wq_1016 : Cond.instanceMethod yX2_takeAll ∈ lw_g := lw_g_mk (tb_4 (List.mem_of_getElem? (i := 232) rfl)) rfl
theorem wq_40 : Cond.selects RX2 yX2_takeAll yX2_takeAll ∈ lw_g := lw_g_mk (tb_0 (List.mem_of_getElem? (i := 40) rfl)) rfl
theorem wq_1010 : Cond.instanceMethod yX2_boreLine ∈ lw_g := lw_g_mk (tb_4 (List.mem_of_getElem? (i := 226) rfl)) rfl
theorem wq_39 : Cond.selects RX2 yX2_boreLine yX2_boreLine ∈ lw_g := lw_g_mk (tb_0 (List.mem_of_getElem? (i := 39) rfl)) rfl
theorem wq_1050 : Cond.instanceMethod yX2_shaftLine ∈ lw_g := lw_g_mk (tb_5 (List.mem_of_getElem? (i := 26) rfl)) rfl
theorem wq_46 : Cond.selects RX2 yX2_shaftLine yX2_shaftLine ∈ lw_g := lw_g_mk (tb_0 (List.mem_of_getElem? (i := 46) rfl)) rfl
theorem wq_1060 : Cond.instanceMethod yX2_leggerLine ∈ lw_g := lw_g_mk (tb_5 (List.mem_of_getElem? (i := 36) rfl)) rfl
theorem wq_47 : Cond.selects RX2 yX2_leggerLine yX2_leggerLine ∈ lw_g := lw_g_mk (tb_0 (List.mem_of_getElem? (i := 47) rfl)) rfl
theorem wq_1070 : Cond.instanceMethod yX2_boatLine ∈ lw_g := lw_g_mk (tb_5 (List.mem_of_getElem? (i := 46) rfl)) rfl
theorem wq_48 : Cond.selects RX2 yX2_boatLine yX2_boatLine ∈ lw_g := lw_g_mk (tb_0 (List.mem_of_getElem? (i := 48) rfl)) rfl
theorem wq_1086 : Cond.instanceMethod yX2_orderLine ∈ lw_g := lw_g_mk (tb_5 (List.mem_of_getElem? (i := 62) rfl)) rfl
theorem wq_50 : Cond.selects RX2 yX2_orderLine yX2_orderLine ∈ lw_g := lw_g_mk (tb_0 (List.mem_of_getElem? (i := 50) rfl)) rfl
theorem wq_1006 : Cond.instanceMethod yX2_line ∈ lw_g := lw_g_mk (tb_4 (List.mem_of_getElem? (i := 222) rfl)) rfl
theorem wq_38 : Cond.selects RX2 yX2_line yX2_line ∈ lw_g := lw_g_mk (tb_0 (List.mem_of_getElem? (i := 38) rfl)) rfl
theorem wq_950 : Cond.code yX3_read cX3_read 6 none ∈ lw_g := lw_g_mk (tb_4 (List.mem_of_getElem? (i := 166) rfl)) rfl
theorem wq_946 : Cond.code yX2_read cX2_read 6 (some .int) ∈ lw_g := lw_g_mk (tb_4 (List.mem_of_getElem? (i := 162) rfl)) rfl
theorem wq_948 : Cond.instanceMethod yX3_read ∈ lw_g := lw_g_mk (tb_4 (List.mem_of_getElem? (i := 164) rfl)) rfl
theorem wq_949 : Cond.selects RX3 yX3_read yX3_read ∈ lw_g := lw_g_mk (tb_4 (List.mem_of_getElem? (i := 165) rfl)) rfl
theorem wq_1142 : Cond.instanceMethod yX0_add ∈ lw_g := lw_g_mk (tb_5 (List.mem_of_getElem? (i := 118) rfl)) rfl
theorem wq_1143 : Cond.selects RX0 yX0_add yX0_add ∈ lw_g := lw_g_mk (tb_5 (List.mem_of_getElem? (i := 119) rfl)) rfl
theorem wq_992 : Cond.instanceMethod yX1_clear ∈ lw_g := lw_g_mk (tb_4 (List.mem_of_getElem? (i := 208) rfl)) rfl
theorem wq_993 : Cond.selects RX1 yX1_clear yX1_clear ∈ lw_g := lw_g_mk (tb_4 (List.mem_of_getElem? (i := 209) rfl)) rfl
theorem wq_1044 : Cond.instanceMethod yX1_addBore ∈ lw_g := lw_g_mk (tb_5 (List.mem_of_getElem? (i := 20) rfl)) rfl
theorem wq_1045 : Cond.selects RX1 yX1_addBore yX1_addBore ∈ lw_g := lw_g_mk (tb_5 (List.mem_of_getElem? (i := 21) rfl)) rfl
theorem wq_1055 : Cond.instanceMethod yX1_addShaft ∈ lw_g := lw_g_mk (tb_5 (List.mem_of_getElem? (i := 31) rfl)) rfl
theorem wq_1056 : Cond.selects RX1 yX1_addShaft yX1_addShaft ∈ lw_g := lw_g_mk (tb_5 (List.mem_of_getElem? (i := 32) rfl)) rfl
theorem wq_1065 : Cond.instanceMethod yX1_addLegger ∈ lw_g := lw_g_mk (tb_5 (List.mem_of_getElem? (i := 41) rfl)) rfl
theorem wq_1066 : Cond.selects RX1 yX1_addLegger yX1_addLegger ∈ lw_g := lw_g_mk (tb_5 (List.mem_of_getElem? (i := 42) rfl)) rfl
theorem wq_1079 : Cond.instanceMethod yX1_addBoat ∈ lw_g := lw_g_mk (tb_5 (List.mem_of_getElem? (i := 55) rfl)) rfl
theorem wq_1080 : Cond.selects RX1 yX1_addBoat yX1_addBoat ∈ lw_g := lw_g_mk (tb_5 (List.mem_of_getElem? (i := 56) rfl)) rfl
theorem wq_953 : Cond.instanceMethod yX3_behindBlanks ∈ lw_g := lw_g_mk (tb_4 (List.mem_of_getElem? (i := 169) rfl)) rfl
theorem wq_29 : Cond.selects RX3 yX3_behindBlanks yX3_behindBlanks ∈ lw_g := lw_g_mk (tb_0 (List.mem_of_getElem? (i := 29) rfl)) rfl
theorem wq_961 : Cond.instanceMethod yX3_readOne ∈ lw_g := lw_g_mk (tb_4 (List.mem_of_getElem? (i := 177) rfl)) rfl
theorem wq_31 : Cond.selects RX3 yX3_readOne yX3_readOne ∈ lw_g := lw_g_mk (tb_0 (List.mem_of_getElem? (i := 31) rfl)) rfl
theorem wq_1024 : Cond.instanceMethod yX2_needNew ∈ lw_g := lw_g_mk (tb_5 (List.mem_of_getElem? (i := 0) rfl)) rfl
theorem wq_42 : Cond.selects RX2 yX2_needNew yX2_needNew ∈ lw_g := lw_g_mk (tb_0 (List.mem_of_getElem? (i := 42) rfl)) rfl
theorem wq_1036 : Cond.instanceMethod yX2_needRange ∈ lw_g := lw_g_mk (tb_5 (List.mem_of_getElem? (i := 12) rfl)) rfl
theorem wq_44 : Cond.selects RX2 yX2_needRange yX2_needRange ∈ lw_g := lw_g_mk (tb_0 (List.mem_of_getElem? (i := 44) rfl)) rfl
def RK (Z : Nat → ClassId) (a q rx : Nat → Nat) (F : M2) (L : L2) : va_W := [(a 60, .inr (2, [.ref (a 70), .ref (a 61), .ref (a 62), .ref (a 63), .ref (a 64), .ref (q 20), .int (F 66 0), .int (F 67 0), .int (F 68 0), .int (F 69 0)])), (a 61, .inl (Z 1, 5, .inr (.inl (L 61)))), (a 62, .inl (Z 1, 4, .inr (.inl (L 62)))), (a 63, .inl (Z 1, 6, .inr (.inl (L 63)))), (a 64, .inl (Z 1, 8, .inr (.inl (L 64)))), (a 70, .inr (3, [.ref (a 71), .ref (a 72), .int (F 73 0), .ref (a 74), .ref (a 75), .ref (a 76), .ref (a 80), .int (F 78 0)])), (a 71, .inl (Z 1, 40, .inr (.inl (L 71)))), (a 72, .inl (Z 0, 40, .inl (F 72))), (a 74, .inl (Z 0, 401, .inl (F 74))), (a 75, .inl (Z 0, 401, .inl (F 75))), (a 76, .inl (Z 1, 401, .inr (.inl (L 76)))), (a 80, .inl (Z 2, 2000, .inl (F 80))), (q 20, .inr (1, [.int (F 20 0), .int (F 21 0), .int (F 22 0), .int (F 23 0), .int (F 24 0), .ref (q 25), .ref (q 26), .ref (q 27), .ref (q 28), .ref (q 29), .ref (q 30), .ref (q 31), .ref (q 32), .ref (q 33), .ref (q 34), .ref (q 35), .ref (q 36), .ref (q 37), .ref (q 40)])), (q 25, .inl (Z 0, 5, .inl (F 25))), (q 26, .inl (Z 0, 5, .inl (F 26))), (q 27, .inl (Z 0, 5, .inl (F 27))), (q 28, .inl (Z 0, 60, .inl (F 28))), (q 29, .inl (Z 0, 4, .inl (F 29))), (q 30, .inl (Z 0, 4, .inl (F 30))), (q 31, .inl (Z 0, 6, .inl (F 31))), (q 32, .inl (Z 0, 6, .inl (F 32))), (q 33, .inl (Z 0, 8, .inl (F 33))), (q 34, .inl (Z 0, 8, .inl (F 34))), (q 35, .inl (Z 0, 8, .inl (F 35))), (q 36, .inl (Z 0, 8, .inl (F 36))), (q 37, .inl (Z 0, 8, .inl (F 37))), (q 40, .inr (0, [.int (F 40 0), .ref (q 41), .ref (q 42), .ref (q 43), .ref (q 44), .int (F 45 0), .ref (q 46), .ref (q 47)])), (q 41, .inl (Z 0, 16, .inl (F 41))), (q 42, .inl (Z 0, 16, .inl (F 42))), (q 43, .inl (Z 0, 16, .inl (F 43))), (q 44, .inl (Z 0, 16, .inl (F 44))), (q 46, .inl (Z 0, 400, .inl (F 46))), (q 47, .inl (Z 0, 400, .inl (F 47)))]
abbrev cutRK : List Nat := [0, 1, 2, 3, 4, 5, 6, 7, 8, 9, 10, 11, 12, 13, 14, 15, 16, 17, 18, 19, 20, 21, 22, 23, 24, 25, 26, 27, 28, 29, 30, 31, 32]
set_option maxRecDepth 100000 in
theorem cutOkRK (Z : Nat → ClassId) (a q rx : Nat → Nat) (F : M2) (L : L2) : Cut (RK Z a q rx F L) (fun u : M2 × L2 => RK Z a q rx u.1 u.2) (F, L) [] cutRK [] cutRK (fun u : M2 × L2 => RK Z a q rx u.1 u.2) := ⟨rfl, rfl, rfl, fun i h => absurd h List.not_mem_nil, by decide, fun _ => rfl⟩
section ROWSRK
variable {p : Program} {l : Launch} {e : Env} {s : State} {m : MethodId} {args : Array Value} {below : List Frame} {meth : Method} {c : Code} {H H0 : Heap} {locs : List Loc} {cells slots : Nat} {Q : State → Prop} {R : Room} {rn mcR msR : Nat}
variable {pc : Nat} {ls : Array Slot} {rest : List Value} {A : Nat → Prop} {D : va_G}
variable {cc : ByteArray} {nL index : Nat} {own host : String}
theorem gRK_orders_0 {Z : Nat → ClassId} {a q rx : Nat → Nat} {F : M2} {L : L2} (hC : CallFix p m c cc nL s args lw_g own) (hK : va_K D vwCl (tysG Z) s) (hP : va_P D vwCl (RK Z a q rx F L) H) (hl : Cond.fieldLink own index RX0 "told" "I" ∈ lw_g) (hdg : decode cc pc = .ok (.getfield index, 3)) (kk : W p l e R s m args below meth c H locs cells slots Q (F0 m (pc + 3) ls (.int (F 40 0) :: rest))) : W p l e R s m args below meth c H locs cells slots Q (F0 m pc ls (.ref (q 40) :: rest)) :=
  w_get (C := RX0) (T := TX0) (N := 8) (ci := 0) (q0 := 26) (k := 0) hC hK hP fi_X0 rfl rfl rfl (by decide) rfl hl hdg kk
theorem gRK_orders_5 {Z : Nat → ClassId} {a q rx : Nat → Nat} {F : M2} {L : L2} (hC : CallFix p m c cc nL s args lw_g own) (hK : va_K D vwCl (tysG Z) s) (hP : va_P D vwCl (RK Z a q rx F L) H) (hl : Cond.fieldLink own index RX0 "emitted" "I" ∈ lw_g) (hdg : decode cc pc = .ok (.getfield index, 3)) (kk : W p l e R s m args below meth c H locs cells slots Q (F0 m (pc + 3) ls (.int (F 45 0) :: rest))) : W p l e R s m args below meth c H locs cells slots Q (F0 m pc ls (.ref (q 40) :: rest)) :=
  w_get (C := RX0) (T := TX0) (N := 8) (ci := 0) (q0 := 26) (k := 5) hC hK hP fi_X0 rfl rfl rfl (by decide) rfl hl hdg kk
theorem gRK_plan_0 {Z : Nat → ClassId} {a q rx : Nat → Nat} {F : M2} {L : L2} (hC : CallFix p m c cc nL s args lw_g own) (hK : va_K D vwCl (tysG Z) s) (hP : va_P D vwCl (RK Z a q rx F L) H) (hl : Cond.fieldLink own index RX1 "bores" "I" ∈ lw_g) (hdg : decode cc pc = .ok (.getfield index, 3)) (kk : W p l e R s m args below meth c H locs cells slots Q (F0 m (pc + 3) ls (.int (F 20 0) :: rest))) : W p l e R s m args below meth c H locs cells slots Q (F0 m pc ls (.ref (q 20) :: rest)) :=
  w_get (C := RX1) (T := TX1) (N := 19) (ci := 1) (q0 := 12) (k := 0) hC hK hP fi_X1 rfl rfl rfl (by decide) rfl hl hdg kk
theorem gRK_plan_1 {Z : Nat → ClassId} {a q rx : Nat → Nat} {F : M2} {L : L2} (hC : CallFix p m c cc nL s args lw_g own) (hK : va_K D vwCl (tysG Z) s) (hP : va_P D vwCl (RK Z a q rx F L) H) (hl : Cond.fieldLink own index RX1 "places" "I" ∈ lw_g) (hdg : decode cc pc = .ok (.getfield index, 3)) (kk : W p l e R s m args below meth c H locs cells slots Q (F0 m (pc + 3) ls (.int (F 21 0) :: rest))) : W p l e R s m args below meth c H locs cells slots Q (F0 m pc ls (.ref (q 20) :: rest)) :=
  w_get (C := RX1) (T := TX1) (N := 19) (ci := 1) (q0 := 12) (k := 1) hC hK hP fi_X1 rfl rfl rfl (by decide) rfl hl hdg kk
theorem gRK_plan_2 {Z : Nat → ClassId} {a q rx : Nat → Nat} {F : M2} {L : L2} (hC : CallFix p m c cc nL s args lw_g own) (hK : va_K D vwCl (tysG Z) s) (hP : va_P D vwCl (RK Z a q rx F L) H) (hl : Cond.fieldLink own index RX1 "shafts" "I" ∈ lw_g) (hdg : decode cc pc = .ok (.getfield index, 3)) (kk : W p l e R s m args below meth c H locs cells slots Q (F0 m (pc + 3) ls (.int (F 22 0) :: rest))) : W p l e R s m args below meth c H locs cells slots Q (F0 m pc ls (.ref (q 20) :: rest)) :=
  w_get (C := RX1) (T := TX1) (N := 19) (ci := 1) (q0 := 12) (k := 2) hC hK hP fi_X1 rfl rfl rfl (by decide) rfl hl hdg kk
theorem gRK_plan_3 {Z : Nat → ClassId} {a q rx : Nat → Nat} {F : M2} {L : L2} (hC : CallFix p m c cc nL s args lw_g own) (hK : va_K D vwCl (tysG Z) s) (hP : va_P D vwCl (RK Z a q rx F L) H) (hl : Cond.fieldLink own index RX1 "leggers" "I" ∈ lw_g) (hdg : decode cc pc = .ok (.getfield index, 3)) (kk : W p l e R s m args below meth c H locs cells slots Q (F0 m (pc + 3) ls (.int (F 23 0) :: rest))) : W p l e R s m args below meth c H locs cells slots Q (F0 m pc ls (.ref (q 20) :: rest)) :=
  w_get (C := RX1) (T := TX1) (N := 19) (ci := 1) (q0 := 12) (k := 3) hC hK hP fi_X1 rfl rfl rfl (by decide) rfl hl hdg kk
theorem gRK_plan_4 {Z : Nat → ClassId} {a q rx : Nat → Nat} {F : M2} {L : L2} (hC : CallFix p m c cc nL s args lw_g own) (hK : va_K D vwCl (tysG Z) s) (hP : va_P D vwCl (RK Z a q rx F L) H) (hl : Cond.fieldLink own index RX1 "boats" "I" ∈ lw_g) (hdg : decode cc pc = .ok (.getfield index, 3)) (kk : W p l e R s m args below meth c H locs cells slots Q (F0 m (pc + 3) ls (.int (F 24 0) :: rest))) : W p l e R s m args below meth c H locs cells slots Q (F0 m pc ls (.ref (q 20) :: rest)) :=
  w_get (C := RX1) (T := TX1) (N := 19) (ci := 1) (q0 := 12) (k := 4) hC hK hP fi_X1 rfl rfl rfl (by decide) rfl hl hdg kk
theorem gRK_plan_18 {Z : Nat → ClassId} {a q rx : Nat → Nat} {F : M2} {L : L2} (hC : CallFix p m c cc nL s args lw_g own) (hK : va_K D vwCl (tysG Z) s) (hP : va_P D vwCl (RK Z a q rx F L) H) (hl : Cond.fieldLink own index RX1 "orders" "LTunnelLeggers$Orders;" ∈ lw_g) (hdg : decode cc pc = .ok (.getfield index, 3)) (kk : W p l e R s m args below meth c H locs cells slots Q (F0 m (pc + 3) ls (.ref (q 40) :: rest))) : W p l e R s m args below meth c H locs cells slots Q (F0 m pc ls (.ref (q 20) :: rest)) :=
  w_get (C := RX1) (T := TX1) (N := 19) (ci := 1) (q0 := 12) (k := 18) hC hK hP fi_X1 rfl rfl rfl (by decide) rfl hl hdg kk
theorem gRK_rd_0 {Z : Nat → ClassId} {a q rx : Nat → Nat} {F : M2} {L : L2} (hC : CallFix p m c cc nL s args lw_g own) (hK : va_K D vwCl (tysG Z) s) (hP : va_P D vwCl (RK Z a q rx F L) H) (hl : Cond.fieldLink own index RX2 "tokens" "LTunnelLeggers$Tokens;" ∈ lw_g) (hdg : decode cc pc = .ok (.getfield index, 3)) (kk : W p l e R s m args below meth c H locs cells slots Q (F0 m (pc + 3) ls (.ref (a 70) :: rest))) : W p l e R s m args below meth c H locs cells slots Q (F0 m pc ls (.ref (a 60) :: rest)) :=
  w_get (C := RX2) (T := TX2) (N := 10) (ci := 2) (q0 := 0) (k := 0) hC hK hP fi_X2 rfl rfl rfl (by decide) rfl hl hdg kk
theorem gRK_rd_1 {Z : Nat → ClassId} {a q rx : Nat → Nat} {F : M2} {L : L2} (hC : CallFix p m c cc nL s args lw_g own) (hK : va_K D vwCl (tysG Z) s) (hP : va_P D vwCl (RK Z a q rx F L) H) (hl : Cond.fieldLink own index RX2 "boreNames" "[J" ∈ lw_g) (hdg : decode cc pc = .ok (.getfield index, 3)) (kk : W p l e R s m args below meth c H locs cells slots Q (F0 m (pc + 3) ls (.ref (a 61) :: rest))) : W p l e R s m args below meth c H locs cells slots Q (F0 m pc ls (.ref (a 60) :: rest)) :=
  w_get (C := RX2) (T := TX2) (N := 10) (ci := 2) (q0 := 0) (k := 1) hC hK hP fi_X2 rfl rfl rfl (by decide) rfl hl hdg kk
theorem gRK_rd_2 {Z : Nat → ClassId} {a q rx : Nat → Nat} {F : M2} {L : L2} (hC : CallFix p m c cc nL s args lw_g own) (hK : va_K D vwCl (tysG Z) s) (hP : va_P D vwCl (RK Z a q rx F L) H) (hl : Cond.fieldLink own index RX2 "shaftNames" "[J" ∈ lw_g) (hdg : decode cc pc = .ok (.getfield index, 3)) (kk : W p l e R s m args below meth c H locs cells slots Q (F0 m (pc + 3) ls (.ref (a 62) :: rest))) : W p l e R s m args below meth c H locs cells slots Q (F0 m pc ls (.ref (a 60) :: rest)) :=
  w_get (C := RX2) (T := TX2) (N := 10) (ci := 2) (q0 := 0) (k := 2) hC hK hP fi_X2 rfl rfl rfl (by decide) rfl hl hdg kk
theorem gRK_rd_3 {Z : Nat → ClassId} {a q rx : Nat → Nat} {F : M2} {L : L2} (hC : CallFix p m c cc nL s args lw_g own) (hK : va_K D vwCl (tysG Z) s) (hP : va_P D vwCl (RK Z a q rx F L) H) (hl : Cond.fieldLink own index RX2 "leggerNames" "[J" ∈ lw_g) (hdg : decode cc pc = .ok (.getfield index, 3)) (kk : W p l e R s m args below meth c H locs cells slots Q (F0 m (pc + 3) ls (.ref (a 63) :: rest))) : W p l e R s m args below meth c H locs cells slots Q (F0 m pc ls (.ref (a 60) :: rest)) :=
  w_get (C := RX2) (T := TX2) (N := 10) (ci := 2) (q0 := 0) (k := 3) hC hK hP fi_X2 rfl rfl rfl (by decide) rfl hl hdg kk
theorem gRK_rd_4 {Z : Nat → ClassId} {a q rx : Nat → Nat} {F : M2} {L : L2} (hC : CallFix p m c cc nL s args lw_g own) (hK : va_K D vwCl (tysG Z) s) (hP : va_P D vwCl (RK Z a q rx F L) H) (hl : Cond.fieldLink own index RX2 "boatNames" "[J" ∈ lw_g) (hdg : decode cc pc = .ok (.getfield index, 3)) (kk : W p l e R s m args below meth c H locs cells slots Q (F0 m (pc + 3) ls (.ref (a 64) :: rest))) : W p l e R s m args below meth c H locs cells slots Q (F0 m pc ls (.ref (a 60) :: rest)) :=
  w_get (C := RX2) (T := TX2) (N := 10) (ci := 2) (q0 := 0) (k := 4) hC hK hP fi_X2 rfl rfl rfl (by decide) rfl hl hdg kk
theorem gRK_rd_5 {Z : Nat → ClassId} {a q rx : Nat → Nat} {F : M2} {L : L2} (hC : CallFix p m c cc nL s args lw_g own) (hK : va_K D vwCl (tysG Z) s) (hP : va_P D vwCl (RK Z a q rx F L) H) (hl : Cond.fieldLink own index RX2 "plan" "LTunnelLeggers$Plan;" ∈ lw_g) (hdg : decode cc pc = .ok (.getfield index, 3)) (kk : W p l e R s m args below meth c H locs cells slots Q (F0 m (pc + 3) ls (.ref (q 20) :: rest))) : W p l e R s m args below meth c H locs cells slots Q (F0 m pc ls (.ref (a 60) :: rest)) :=
  w_get (C := RX2) (T := TX2) (N := 10) (ci := 2) (q0 := 0) (k := 5) hC hK hP fi_X2 rfl rfl rfl (by decide) rfl hl hdg kk
theorem gRK_rd_6 {Z : Nat → ClassId} {a q rx : Nat → Nat} {F : M2} {L : L2} (hC : CallFix p m c cc nL s args lw_g own) (hK : va_K D vwCl (tysG Z) s) (hP : va_P D vwCl (RK Z a q rx F L) H) (hl : Cond.fieldLink own index RX2 "next" "I" ∈ lw_g) (hdg : decode cc pc = .ok (.getfield index, 3)) (kk : W p l e R s m args below meth c H locs cells slots Q (F0 m (pc + 3) ls (.int (F 66 0) :: rest))) : W p l e R s m args below meth c H locs cells slots Q (F0 m pc ls (.ref (a 60) :: rest)) :=
  w_get (C := RX2) (T := TX2) (N := 10) (ci := 2) (q0 := 0) (k := 6) hC hK hP fi_X2 rfl rfl rfl (by decide) rfl hl hdg kk
theorem gRK_rd_7 {Z : Nat → ClassId} {a q rx : Nat → Nat} {F : M2} {L : L2} (hC : CallFix p m c cc nL s args lw_g own) (hK : va_K D vwCl (tysG Z) s) (hP : va_P D vwCl (RK Z a q rx F L) H) (hl : Cond.fieldLink own index RX2 "fault" "I" ∈ lw_g) (hdg : decode cc pc = .ok (.getfield index, 3)) (kk : W p l e R s m args below meth c H locs cells slots Q (F0 m (pc + 3) ls (.int (F 67 0) :: rest))) : W p l e R s m args below meth c H locs cells slots Q (F0 m pc ls (.ref (a 60) :: rest)) :=
  w_get (C := RX2) (T := TX2) (N := 10) (ci := 2) (q0 := 0) (k := 7) hC hK hP fi_X2 rfl rfl rfl (by decide) rfl hl hdg kk
theorem gRK_tok_5 {Z : Nat → ClassId} {a q rx : Nat → Nat} {F : M2} {L : L2} (hC : CallFix p m c cc nL s args lw_g own) (hK : va_K D vwCl (tysG Z) s) (hP : va_P D vwCl (RK Z a q rx F L) H) (hl : Cond.fieldLink own index RX3 "value" "[J" ∈ lw_g) (hdg : decode cc pc = .ok (.getfield index, 3)) (kk : W p l e R s m args below meth c H locs cells slots Q (F0 m (pc + 3) ls (.ref (a 76) :: rest))) : W p l e R s m args below meth c H locs cells slots Q (F0 m pc ls (.ref (a 70) :: rest)) :=
  w_get (C := RX3) (T := TX3) (N := 8) (ci := 3) (q0 := 5) (k := 5) hC hK hP fi_X3 rfl rfl rfl (by decide) rfl hl hdg kk
theorem uRK_nB {Z : Nat → ClassId} {a q rx : Nat → Nat} {F : M2} {L : L2} {i : Int32} {x : Int64} (hC : CallFix p m c cc nL s args lw_g own) (hN : NW s) (hK : va_K D vwCl (tysG Z) s) (hT : TS vwCl D (RK Z a q rx F L) A H0 H locs) (hl : Cond.methodLinkNest own index yX5_put_ RX5 ∈ lw_n) (hlt : 0 < rn) (hsize : ls.size = nL) (hW : (rest.map fun v => v.category).sum ≤ 8) (hf : cells + 0 ≤ mcR ∧ slots + 0 ≤ msR) (hdg : decode cc pc = .ok (.invokestatic index, 3)) (kk : ∀ (L1 : L2), L1 = ul2 L 61 (putl (L 61) 5 i x) → ∀ (H1 : Heap) (locs1 : List Loc), TS vwCl D (RK Z a q rx F L1) A H0 H1 locs1 → W p l e (rk rn mcR msR) s m args below meth c H1 locs1 cells slots Q (F0 m (pc + 3) ls rest)) : W p l e (rk rn mcR msR) s m args below meth c H locs cells slots Q (F0 m pc ls (.long x :: .int i :: .ref (a 61) :: rest)) :=
  w_pul (q0 := 1) (ws' := (RK Z a q rx F (ul2 L 61 (putl (L 61) 5 i x)))) hC hN hK hT hl rfl rfl (by decide) hlt hsize hW hf hdg (fun H1 locs1 hT1 => kk _ rfl H1 locs1 hT1)
theorem uRK_nL {Z : Nat → ClassId} {a q rx : Nat → Nat} {F : M2} {L : L2} {i : Int32} {x : Int64} (hC : CallFix p m c cc nL s args lw_g own) (hN : NW s) (hK : va_K D vwCl (tysG Z) s) (hT : TS vwCl D (RK Z a q rx F L) A H0 H locs) (hl : Cond.methodLinkNest own index yX5_put_ RX5 ∈ lw_n) (hlt : 0 < rn) (hsize : ls.size = nL) (hW : (rest.map fun v => v.category).sum ≤ 8) (hf : cells + 0 ≤ mcR ∧ slots + 0 ≤ msR) (hdg : decode cc pc = .ok (.invokestatic index, 3)) (kk : ∀ (L1 : L2), L1 = ul2 L 63 (putl (L 63) 6 i x) → ∀ (H1 : Heap) (locs1 : List Loc), TS vwCl D (RK Z a q rx F L1) A H0 H1 locs1 → W p l e (rk rn mcR msR) s m args below meth c H1 locs1 cells slots Q (F0 m (pc + 3) ls rest)) : W p l e (rk rn mcR msR) s m args below meth c H locs cells slots Q (F0 m pc ls (.long x :: .int i :: .ref (a 63) :: rest)) :=
  w_pul (q0 := 3) (ws' := (RK Z a q rx F (ul2 L 63 (putl (L 63) 6 i x)))) hC hN hK hT hl rfl rfl (by decide) hlt hsize hW hf hdg (fun H1 locs1 hT1 => kk _ rfl H1 locs1 hT1)
theorem uRK_nO {Z : Nat → ClassId} {a q rx : Nat → Nat} {F : M2} {L : L2} {i : Int32} {x : Int64} (hC : CallFix p m c cc nL s args lw_g own) (hN : NW s) (hK : va_K D vwCl (tysG Z) s) (hT : TS vwCl D (RK Z a q rx F L) A H0 H locs) (hl : Cond.methodLinkNest own index yX5_put_ RX5 ∈ lw_n) (hlt : 0 < rn) (hsize : ls.size = nL) (hW : (rest.map fun v => v.category).sum ≤ 8) (hf : cells + 0 ≤ mcR ∧ slots + 0 ≤ msR) (hdg : decode cc pc = .ok (.invokestatic index, 3)) (kk : ∀ (L1 : L2), L1 = ul2 L 64 (putl (L 64) 8 i x) → ∀ (H1 : Heap) (locs1 : List Loc), TS vwCl D (RK Z a q rx F L1) A H0 H1 locs1 → W p l e (rk rn mcR msR) s m args below meth c H1 locs1 cells slots Q (F0 m (pc + 3) ls rest)) : W p l e (rk rn mcR msR) s m args below meth c H locs cells slots Q (F0 m pc ls (.long x :: .int i :: .ref (a 64) :: rest)) :=
  w_pul (q0 := 4) (ws' := (RK Z a q rx F (ul2 L 64 (putl (L 64) 8 i x)))) hC hN hK hT hl rfl rfl (by decide) hlt hsize hW hf hdg (fun H1 locs1 hT1 => kk _ rfl H1 locs1 hT1)
theorem uRK_nS {Z : Nat → ClassId} {a q rx : Nat → Nat} {F : M2} {L : L2} {i : Int32} {x : Int64} (hC : CallFix p m c cc nL s args lw_g own) (hN : NW s) (hK : va_K D vwCl (tysG Z) s) (hT : TS vwCl D (RK Z a q rx F L) A H0 H locs) (hl : Cond.methodLinkNest own index yX5_put_ RX5 ∈ lw_n) (hlt : 0 < rn) (hsize : ls.size = nL) (hW : (rest.map fun v => v.category).sum ≤ 8) (hf : cells + 0 ≤ mcR ∧ slots + 0 ≤ msR) (hdg : decode cc pc = .ok (.invokestatic index, 3)) (kk : ∀ (L1 : L2), L1 = ul2 L 62 (putl (L 62) 4 i x) → ∀ (H1 : Heap) (locs1 : List Loc), TS vwCl D (RK Z a q rx F L1) A H0 H1 locs1 → W p l e (rk rn mcR msR) s m args below meth c H1 locs1 cells slots Q (F0 m (pc + 3) ls rest)) : W p l e (rk rn mcR msR) s m args below meth c H locs cells slots Q (F0 m pc ls (.long x :: .int i :: .ref (a 62) :: rest)) :=
  w_pul (q0 := 2) (ws' := (RK Z a q rx F (ul2 L 62 (putl (L 62) 4 i x)))) hC hN hK hT hl rfl rfl (by decide) hlt hsize hW hf hdg (fun H1 locs1 hT1 => kk _ rfl H1 locs1 hT1)
end ROWSRK
set_option maxRecDepth 100000 in
theorem sx_KWRK (Z : Nat → ClassId) (a q rx : Nat → Nat) (F : M2) (L : L2) : ([0, 1, 2, 3, 4, 5, 6, 7, 8, 9, 10, 11, 12, 13, 14, 15, 16, 17, 18, 19, 20, 21, 22, 23, 24, 25, 26, 27, 28, 29, 30, 31, 32] : List Nat).map (fun i => (RK Z a q rx F L)[i]?) = (KW Z a q (q 20) F L).map some := rfl
set_option maxRecDepth 100000 in
theorem cx_KWRK (Z : Nat → ClassId) (a q rx : Nat → Nat) (F : M2) (L : L2) : Cut (RK Z a q rx F L) (fun u : M2 × L2 => KW Z a q (q 20) u.1 u.2) (F, L) [] [0, 1, 2, 3, 4, 5, 6, 7, 8, 9, 10, 11, 12, 13, 14, 15, 16, 17, 18, 19, 20, 21, 22, 23, 24, 25, 26, 27, 28, 29, 30, 31, 32] [] [0, 1, 2, 3, 4, 5, 6, 7, 8, 9, 10, 11, 12, 13, 14, 15, 16, 17, 18, 19, 20, 21, 22, 23, 24, 25, 26, 27, 28, 29, 30, 31, 32] (fun u : M2 × L2 => (RK Z a q rx u.1 u.2)) := ⟨rfl, rfl, rfl, by decide, rfl, fun _ => rfl⟩
section LX0_add0x
variable {p : Program} {l : Launch} {e : Env} {s : State} {m : MethodId} {args : Array Value} {below : List Frame} {meth : Method} {c : Code} {H H0 : Heap} {locs : List Loc} {cells slots : Nat} {Q : State → Prop} {R : Room} {rn mcR msR : Nat}
variable {pc : Nat} {ls : Array Slot} {rest : List Value} {A : Nat → Prop} {D : va_G}
variable {cc : ByteArray} {nL index : Nat} {own host : String}
theorem kx_X0_add {Z : Nat → ClassId} {a q : Nat → Nat} {F : M2} {L : L2} {x1 : Int32} {x2 : Int32} {x3 : Int32} {K : M2 → L2 → Prop} {ws wr : va_W} {isC isR pm : List Nat} {ws' : M2 × L2 → va_W} (hC : CallFix p m c cc nL s args lw_g own) (hN : NW s) (hK : va_K D vwCl (tysG Z) s) (hT : TS vwCl D ws A H0 H locs) (hc : Cut ws (fun u : M2 × L2 => KW Z a q (q 20) u.1 u.2) (F, L) wr isC isR pm ws') (hnd : va_nd isC = true) (hm : wp_X0_add F L x1 x2 x3 K) (hl : Cond.methodLink own index yX0_add ∈ lw_g) (hlt : 1 < rn) (hsize : ls.size = nL) (hW : (rest.map fun v => v.category).sum ≤ 8) (hf : cells + 0 ≤ mcR ∧ slots + 0 ≤ msR) (hdg : decode cc pc = .ok (.invokevirtual index, 3)) (kk : ∀ (F1 : M2) (L1 : L2) (H1 : Heap) (locs1 : List Loc), K F1 L1 → TS vwCl D (ws' (F1, L1)) A H0 H1 locs1 → W p l e (rk rn mcR msR) s m args below meth c H1 locs1 cells slots Q (F0 m (pc + 3) ls (rest))) : W p l e (rk rn mcR msR) s m args below meth c H locs cells slots Q (F0 m pc ls (.int x3 :: .int x2 :: .int x1 :: .ref (q 40) :: rest)) :=
  rwv_go (wsF := (fun u : M2 × L2 => KW Z a q (q 20) u.1 u.2)) (u0 := (F, L)) (wr := wr) (isC := isC) (isR := isR) (pm := pm) (ws' := ws') (runV (As := [.int x1, .int x2, .int x3]) hC hN (c_X0_add l D Z a q F L H.size x1 x2 x3 K hm) mi_X0_add hl wq_1142 wq_1143 hlt (hT.1.sub isC (map_fm hc.1)) (hT.D'.sub isC hnd hc.1) hK (q0 := 26) rfl rfl rfl hsize rfl hW hdg hf) hc hT (fun u H1 locs1 hk hT1 => kk u.1 u.2 H1 locs1 hk hT1)
end LX0_add0x
section LX1_clear0x
variable {p : Program} {l : Launch} {e : Env} {s : State} {m : MethodId} {args : Array Value} {below : List Frame} {meth : Method} {c : Code} {H H0 : Heap} {locs : List Loc} {cells slots : Nat} {Q : State → Prop} {R : Room} {rn mcR msR : Nat}
variable {pc : Nat} {ls : Array Slot} {rest : List Value} {A : Nat → Prop} {D : va_G}
variable {cc : ByteArray} {nL index : Nat} {own host : String}
theorem kx_X1_clear {Z : Nat → ClassId} {a q : Nat → Nat} {F : M2} {L : L2} {K : M2 → L2 → Prop} {ws wr : va_W} {isC isR pm : List Nat} {ws' : M2 × L2 → va_W} (hC : CallFix p m c cc nL s args lw_g own) (hN : NW s) (hK : va_K D vwCl (tysG Z) s) (hT : TS vwCl D ws A H0 H locs) (hc : Cut ws (fun u : M2 × L2 => KW Z a q (q 20) u.1 u.2) (F, L) wr isC isR pm ws') (hnd : va_nd isC = true) (hm : wp_X1_clear F L K) (hl : Cond.methodLink own index yX1_clear ∈ lw_g) (hlt : 2 < rn) (hsize : ls.size = nL) (hW : (rest.map fun v => v.category).sum ≤ 8) (hf : cells + 0 ≤ mcR ∧ slots + 0 ≤ msR) (hdg : decode cc pc = .ok (.invokevirtual index, 3)) (kk : ∀ (F1 : M2) (L1 : L2) (H1 : Heap) (locs1 : List Loc), K F1 L1 → TS vwCl D (ws' (F1, L1)) A H0 H1 locs1 → W p l e (rk rn mcR msR) s m args below meth c H1 locs1 cells slots Q (F0 m (pc + 3) ls (rest))) : W p l e (rk rn mcR msR) s m args below meth c H locs cells slots Q (F0 m pc ls (.ref (q 20) :: rest)) :=
  rwv_go (wsF := (fun u : M2 × L2 => KW Z a q (q 20) u.1 u.2)) (u0 := (F, L)) (wr := wr) (isC := isC) (isR := isR) (pm := pm) (ws' := ws') (runV (As := []) hC hN (c_X1_clear l D Z a q F L H.size K hm) mi_X1_clear hl wq_992 wq_993 hlt (hT.1.sub isC (map_fm hc.1)) (hT.D'.sub isC hnd hc.1) hK (q0 := 12) rfl rfl rfl hsize rfl hW hdg hf) hc hT (fun u H1 locs1 hk hT1 => kk u.1 u.2 H1 locs1 hk hT1)
end LX1_clear0x
section LX1_addBore0x
variable {p : Program} {l : Launch} {e : Env} {s : State} {m : MethodId} {args : Array Value} {below : List Frame} {meth : Method} {c : Code} {H H0 : Heap} {locs : List Loc} {cells slots : Nat} {Q : State → Prop} {R : Room} {rn mcR msR : Nat}
variable {pc : Nat} {ls : Array Slot} {rest : List Value} {A : Nat → Prop} {D : va_G}
variable {cc : ByteArray} {nL index : Nat} {own host : String}
theorem kx_X1_addBore {Z : Nat → ClassId} {a q : Nat → Nat} {F : M2} {L : L2} {x1 : Int32} {x2 : Int32} {K : M2 → L2 → Prop} {ws wr : va_W} {isC isR pm : List Nat} {ws' : M2 × L2 → va_W} (hC : CallFix p m c cc nL s args lw_g own) (hN : NW s) (hK : va_K D vwCl (tysG Z) s) (hT : TS vwCl D ws A H0 H locs) (hc : Cut ws (fun u : M2 × L2 => KW Z a q (q 20) u.1 u.2) (F, L) wr isC isR pm ws') (hnd : va_nd isC = true) (hm : wp_X1_addBore F L x1 x2 K) (hl : Cond.methodLink own index yX1_addBore ∈ lw_g) (hlt : 1 < rn) (hsize : ls.size = nL) (hW : (rest.map fun v => v.category).sum ≤ 8) (hf : cells + 0 ≤ mcR ∧ slots + 0 ≤ msR) (hdg : decode cc pc = .ok (.invokevirtual index, 3)) (kk : ∀ (F1 : M2) (L1 : L2) (H1 : Heap) (locs1 : List Loc), K F1 L1 → TS vwCl D (ws' (F1, L1)) A H0 H1 locs1 → W p l e (rk rn mcR msR) s m args below meth c H1 locs1 cells slots Q (F0 m (pc + 3) ls (rest))) : W p l e (rk rn mcR msR) s m args below meth c H locs cells slots Q (F0 m pc ls (.int x2 :: .int x1 :: .ref (q 20) :: rest)) :=
  rwv_go (wsF := (fun u : M2 × L2 => KW Z a q (q 20) u.1 u.2)) (u0 := (F, L)) (wr := wr) (isC := isC) (isR := isR) (pm := pm) (ws' := ws') (runV (As := [.int x1, .int x2]) hC hN (c_X1_addBore l D Z a q F L H.size x1 x2 K hm) mi_X1_addBore hl wq_1044 wq_1045 hlt (hT.1.sub isC (map_fm hc.1)) (hT.D'.sub isC hnd hc.1) hK (q0 := 12) rfl rfl rfl hsize rfl hW hdg hf) hc hT (fun u H1 locs1 hk hT1 => kk u.1 u.2 H1 locs1 hk hT1)
end LX1_addBore0x
section LX1_addShaft0x
variable {p : Program} {l : Launch} {e : Env} {s : State} {m : MethodId} {args : Array Value} {below : List Frame} {meth : Method} {c : Code} {H H0 : Heap} {locs : List Loc} {cells slots : Nat} {Q : State → Prop} {R : Room} {rn mcR msR : Nat}
variable {pc : Nat} {ls : Array Slot} {rest : List Value} {A : Nat → Prop} {D : va_G}
variable {cc : ByteArray} {nL index : Nat} {own host : String}
theorem kx_X1_addShaft {Z : Nat → ClassId} {a q : Nat → Nat} {F : M2} {L : L2} {x1 : Int32} {x2 : Int32} {K : M2 → L2 → Prop} {ws wr : va_W} {isC isR pm : List Nat} {ws' : M2 × L2 → va_W} (hC : CallFix p m c cc nL s args lw_g own) (hN : NW s) (hK : va_K D vwCl (tysG Z) s) (hT : TS vwCl D ws A H0 H locs) (hc : Cut ws (fun u : M2 × L2 => KW Z a q (q 20) u.1 u.2) (F, L) wr isC isR pm ws') (hnd : va_nd isC = true) (hm : wp_X1_addShaft F L x1 x2 K) (hl : Cond.methodLink own index yX1_addShaft ∈ lw_g) (hlt : 1 < rn) (hsize : ls.size = nL) (hW : (rest.map fun v => v.category).sum ≤ 8) (hf : cells + 0 ≤ mcR ∧ slots + 0 ≤ msR) (hdg : decode cc pc = .ok (.invokevirtual index, 3)) (kk : ∀ (F1 : M2) (L1 : L2) (H1 : Heap) (locs1 : List Loc), K F1 L1 → TS vwCl D (ws' (F1, L1)) A H0 H1 locs1 → W p l e (rk rn mcR msR) s m args below meth c H1 locs1 cells slots Q (F0 m (pc + 3) ls (rest))) : W p l e (rk rn mcR msR) s m args below meth c H locs cells slots Q (F0 m pc ls (.int x2 :: .int x1 :: .ref (q 20) :: rest)) :=
  rwv_go (wsF := (fun u : M2 × L2 => KW Z a q (q 20) u.1 u.2)) (u0 := (F, L)) (wr := wr) (isC := isC) (isR := isR) (pm := pm) (ws' := ws') (runV (As := [.int x1, .int x2]) hC hN (c_X1_addShaft l D Z a q F L H.size x1 x2 K hm) mi_X1_addShaft hl wq_1055 wq_1056 hlt (hT.1.sub isC (map_fm hc.1)) (hT.D'.sub isC hnd hc.1) hK (q0 := 12) rfl rfl rfl hsize rfl hW hdg hf) hc hT (fun u H1 locs1 hk hT1 => kk u.1 u.2 H1 locs1 hk hT1)
end LX1_addShaft0x
section LX1_addLegger0x
variable {p : Program} {l : Launch} {e : Env} {s : State} {m : MethodId} {args : Array Value} {below : List Frame} {meth : Method} {c : Code} {H H0 : Heap} {locs : List Loc} {cells slots : Nat} {Q : State → Prop} {R : Room} {rn mcR msR : Nat}
variable {pc : Nat} {ls : Array Slot} {rest : List Value} {A : Nat → Prop} {D : va_G}
variable {cc : ByteArray} {nL index : Nat} {own host : String}
theorem kx_X1_addLegger {Z : Nat → ClassId} {a q : Nat → Nat} {F : M2} {L : L2} {x1 : Int32} {x2 : Int32} {K : M2 → L2 → Prop} {ws wr : va_W} {isC isR pm : List Nat} {ws' : M2 × L2 → va_W} (hC : CallFix p m c cc nL s args lw_g own) (hN : NW s) (hK : va_K D vwCl (tysG Z) s) (hT : TS vwCl D ws A H0 H locs) (hc : Cut ws (fun u : M2 × L2 => KW Z a q (q 20) u.1 u.2) (F, L) wr isC isR pm ws') (hnd : va_nd isC = true) (hm : wp_X1_addLegger F L x1 x2 K) (hl : Cond.methodLink own index yX1_addLegger ∈ lw_g) (hlt : 1 < rn) (hsize : ls.size = nL) (hW : (rest.map fun v => v.category).sum ≤ 8) (hf : cells + 0 ≤ mcR ∧ slots + 0 ≤ msR) (hdg : decode cc pc = .ok (.invokevirtual index, 3)) (kk : ∀ (F1 : M2) (L1 : L2) (H1 : Heap) (locs1 : List Loc), K F1 L1 → TS vwCl D (ws' (F1, L1)) A H0 H1 locs1 → W p l e (rk rn mcR msR) s m args below meth c H1 locs1 cells slots Q (F0 m (pc + 3) ls (rest))) : W p l e (rk rn mcR msR) s m args below meth c H locs cells slots Q (F0 m pc ls (.int x2 :: .int x1 :: .ref (q 20) :: rest)) :=
  rwv_go (wsF := (fun u : M2 × L2 => KW Z a q (q 20) u.1 u.2)) (u0 := (F, L)) (wr := wr) (isC := isC) (isR := isR) (pm := pm) (ws' := ws') (runV (As := [.int x1, .int x2]) hC hN (c_X1_addLegger l D Z a q F L H.size x1 x2 K hm) mi_X1_addLegger hl wq_1065 wq_1066 hlt (hT.1.sub isC (map_fm hc.1)) (hT.D'.sub isC hnd hc.1) hK (q0 := 12) rfl rfl rfl hsize rfl hW hdg hf) hc hT (fun u H1 locs1 hk hT1 => kk u.1 u.2 H1 locs1 hk hT1)
end LX1_addLegger0x
section LX1_addBoat0x
variable {p : Program} {l : Launch} {e : Env} {s : State} {m : MethodId} {args : Array Value} {below : List Frame} {meth : Method} {c : Code} {H H0 : Heap} {locs : List Loc} {cells slots : Nat} {Q : State → Prop} {R : Room} {rn mcR msR : Nat}
variable {pc : Nat} {ls : Array Slot} {rest : List Value} {A : Nat → Prop} {D : va_G}
variable {cc : ByteArray} {nL index : Nat} {own host : String}
theorem kx_X1_addBoat {Z : Nat → ClassId} {a q : Nat → Nat} {F : M2} {L : L2} {x1 : Int32} {x2 : Int32} {x3 : Int32} {x4 : Int32} {x5 : Int32} {K : M2 → L2 → Prop} {ws wr : va_W} {isC isR pm : List Nat} {ws' : M2 × L2 → va_W} (hC : CallFix p m c cc nL s args lw_g own) (hN : NW s) (hK : va_K D vwCl (tysG Z) s) (hT : TS vwCl D ws A H0 H locs) (hc : Cut ws (fun u : M2 × L2 => KW Z a q (q 20) u.1 u.2) (F, L) wr isC isR pm ws') (hnd : va_nd isC = true) (hm : wp_X1_addBoat F L x1 x2 x3 x4 x5 K) (hl : Cond.methodLink own index yX1_addBoat ∈ lw_g) (hlt : 1 < rn) (hsize : ls.size = nL) (hW : (rest.map fun v => v.category).sum ≤ 8) (hf : cells + 0 ≤ mcR ∧ slots + 0 ≤ msR) (hdg : decode cc pc = .ok (.invokevirtual index, 3)) (kk : ∀ (F1 : M2) (L1 : L2) (H1 : Heap) (locs1 : List Loc), K F1 L1 → TS vwCl D (ws' (F1, L1)) A H0 H1 locs1 → W p l e (rk rn mcR msR) s m args below meth c H1 locs1 cells slots Q (F0 m (pc + 3) ls (rest))) : W p l e (rk rn mcR msR) s m args below meth c H locs cells slots Q (F0 m pc ls (.int x5 :: .int x4 :: .int x3 :: .int x2 :: .int x1 :: .ref (q 20) :: rest)) :=
  rwv_go (wsF := (fun u : M2 × L2 => KW Z a q (q 20) u.1 u.2)) (u0 := (F, L)) (wr := wr) (isC := isC) (isR := isR) (pm := pm) (ws' := ws') (runV (As := [.int x1, .int x2, .int x3, .int x4, .int x5]) hC hN (c_X1_addBoat l D Z a q F L H.size x1 x2 x3 x4 x5 K hm) mi_X1_addBoat hl wq_1079 wq_1080 hlt (hT.1.sub isC (map_fm hc.1)) (hT.D'.sub isC hnd hc.1) hK (q0 := 12) rfl rfl rfl hsize rfl hW hdg hf) hc hT (fun u H1 locs1 hk hT1 => kk u.1 u.2 H1 locs1 hk hT1)
end LX1_addBoat0x
section LX3_behindBlanks0x
variable {p : Program} {l : Launch} {e : Env} {s : State} {m : MethodId} {args : Array Value} {below : List Frame} {meth : Method} {c : Code} {H H0 : Heap} {locs : List Loc} {cells slots : Nat} {Q : State → Prop} {R : Room} {rn mcR msR : Nat}
variable {pc : Nat} {ls : Array Slot} {rest : List Value} {A : Nat → Prop} {D : va_G}
variable {cc : ByteArray} {nL index : Nat} {own host : String}
theorem kx_X3_behindBlanks {Z : Nat → ClassId} {a q : Nat → Nat} {rp : Nat} {F : M2} {L : L2} {x1 : Int32} {K : Int32 → Prop} {ws : va_W} {isC : List Nat} (hC : CallFix p m c cc nL s args lw_g own) (hN : NW s) (hK : va_K D vwCl (tysG Z) s) (hP : va_P D vwCl ws H) (hD : va_D (fun _ => True) ws) (hs : isC.map (fun i => ws[i]?) = (KW Z a q rp F L).map some) (hnd : va_nd isC = true) (hm : wp_X3_behindBlanks F L x1 K) (hl : Cond.methodLink own index yX3_behindBlanks ∈ lw_g) (hlt : 2 < rn) (hsize : ls.size = nL) (hW : (rest.map fun v => v.category).sum ≤ 8) (hf : cells + 0 ≤ mcR ∧ slots + 0 ≤ msR) (hdg : decode cc pc = .ok (.invokevirtual index, 3)) (kk : ∀ r : Int32, K r → W p l e (rk rn mcR msR) s m args below meth c H locs cells slots Q (F0 m (pc + 3) ls (.int r :: rest))) : W p l e (rk rn mcR msR) s m args below meth c H locs cells slots Q (F0 m pc ls (.int x1 :: .ref (a 70) :: rest)) :=
  ro_go (runV (As := [.int x1]) hC hN (c_X3_behindBlanks l D Z a q rp F L H.size x1 K hm) mi_X3_behindBlanks hl wq_953 wq_29 hlt (hP.sub isC (map_fm hs)) (hD.sub isC hnd hs) hK (q0 := 5) rfl rfl rfl hsize rfl hW hdg hf) kk
end LX3_behindBlanks0x
section LX3_readOne0x
variable {p : Program} {l : Launch} {e : Env} {s : State} {m : MethodId} {args : Array Value} {below : List Frame} {meth : Method} {c : Code} {H H0 : Heap} {locs : List Loc} {cells slots : Nat} {Q : State → Prop} {R : Room} {rn mcR msR : Nat}
variable {pc : Nat} {ls : Array Slot} {rest : List Value} {A : Nat → Prop} {D : va_G}
variable {cc : ByteArray} {nL index : Nat} {own host : String}
theorem kx_X3_readOne {Z : Nat → ClassId} {a q : Nat → Nat} {rp : Nat} {F : M2} {L : L2} {x1 : Int32} {x2 : Int32} {K : Int32 → M2 → L2 → Prop} {ws wr : va_W} {isC isR pm : List Nat} {ws' : M2 × L2 → va_W} (hC : CallFix p m c cc nL s args lw_g own) (hN : NW s) (hK : va_K D vwCl (tysG Z) s) (hT : TS vwCl D ws A H0 H locs) (hc : Cut ws (fun u : M2 × L2 => KW Z a q rp u.1 u.2) (F, L) wr isC isR pm ws') (hnd : va_nd isC = true) (hm : wp_X3_readOne F L x1 x2 K) (hl : Cond.methodLink own index yX3_readOne ∈ lw_g) (hlt : 4 < rn) (hsize : ls.size = nL) (hW : (rest.map fun v => v.category).sum ≤ 8) (hf : cells + 0 ≤ mcR ∧ slots + 0 ≤ msR) (hdg : decode cc pc = .ok (.invokevirtual index, 3)) (kk : ∀ (r : Int32) (F1 : M2) (L1 : L2) (H1 : Heap) (locs1 : List Loc), K r F1 L1 → TS vwCl D (ws' (F1, L1)) A H0 H1 locs1 → W p l e (rk rn mcR msR) s m args below meth c H1 locs1 cells slots Q (F0 m (pc + 3) ls (.int r :: rest))) : W p l e (rk rn mcR msR) s m args below meth c H locs cells slots Q (F0 m pc ls (.int x2 :: .int x1 :: .ref (a 70) :: rest)) :=
  rw_go (wsF := (fun u : M2 × L2 => KW Z a q rp u.1 u.2)) (u0 := (F, L)) (wr := wr) (isC := isC) (isR := isR) (pm := pm) (ws' := ws') (runV (As := [.int x1, .int x2]) hC hN (c_X3_readOne l D Z a q rp F L H.size x1 x2 K hm) mi_X3_readOne hl wq_961 wq_31 hlt (hT.1.sub isC (map_fm hc.1)) (hT.D'.sub isC hnd hc.1) hK (q0 := 5) rfl rfl rfl hsize rfl hW hdg hf) hc hT (fun r u H1 locs1 hk hT1 => kk r u.1 u.2 H1 locs1 hk hT1)
end LX3_readOne0x
section LX2_peek0x
variable {p : Program} {l : Launch} {e : Env} {s : State} {m : MethodId} {args : Array Value} {below : List Frame} {meth : Method} {c : Code} {H H0 : Heap} {locs : List Loc} {cells slots : Nat} {Q : State → Prop} {R : Room} {rn mcR msR : Nat}
variable {pc : Nat} {ls : Array Slot} {rest : List Value} {A : Nat → Prop} {D : va_G}
variable {cc : ByteArray} {nL index : Nat} {own host : String}
theorem kx_X2_peek {Z : Nat → ClassId} {a q : Nat → Nat} {F : M2} {L : L2} {K : Int32 → Prop} {ws : va_W} {isC : List Nat} (hC : CallFix p m c cc nL s args lw_g own) (hN : NW s) (hK : va_K D vwCl (tysG Z) s) (hP : va_P D vwCl ws H) (hD : va_D (fun _ => True) ws) (hs : isC.map (fun i => ws[i]?) = (KW Z a q (q 20) F L).map some) (hnd : va_nd isC = true) (hm : wp_X2_peek F L K) (hl : Cond.methodLink own index yX2_peek ∈ lw_g) (hlt : 1 < rn) (hsize : ls.size = nL) (hW : (rest.map fun v => v.category).sum ≤ 8) (hf : cells + 0 ≤ mcR ∧ slots + 0 ≤ msR) (hdg : decode cc pc = .ok (.invokevirtual index, 3)) (kk : ∀ r : Int32, K r → W p l e (rk rn mcR msR) s m args below meth c H locs cells slots Q (F0 m (pc + 3) ls (.int r :: rest))) : W p l e (rk rn mcR msR) s m args below meth c H locs cells slots Q (F0 m pc ls (.ref (a 60) :: rest)) :=
  ro_go (runV (As := []) hC hN (c_X2_peek l D Z a q F L H.size K hm) mi_X2_peek hl wq_1001 wq_37 hlt (hP.sub isC (map_fm hs)) (hD.sub isC hnd hs) hK (q0 := 0) rfl rfl rfl hsize rfl hW hdg hf) kk
end LX2_peek0x
section LX2_number0x
variable {p : Program} {l : Launch} {e : Env} {s : State} {m : MethodId} {args : Array Value} {below : List Frame} {meth : Method} {c : Code} {H H0 : Heap} {locs : List Loc} {cells slots : Nat} {Q : State → Prop} {R : Room} {rn mcR msR : Nat}
variable {pc : Nat} {ls : Array Slot} {rest : List Value} {A : Nat → Prop} {D : va_G}
variable {cc : ByteArray} {nL index : Nat} {own host : String}
theorem kx_X2_number {Z : Nat → ClassId} {a q : Nat → Nat} {F : M2} {L : L2} {x1 : Int32} {K : Int32 → Prop} {ws : va_W} {isC : List Nat} (hC : CallFix p m c cc nL s args lw_g own) (hN : NW s) (hK : va_K D vwCl (tysG Z) s) (hP : va_P D vwCl ws H) (hD : va_D (fun _ => True) ws) (hs : isC.map (fun i => ws[i]?) = (KW Z a q (q 20) F L).map some) (hnd : va_nd isC = true) (hm : wp_X2_number F L x1 K) (hl : Cond.methodLink own index yX2_number ∈ lw_g) (hlt : 1 < rn) (hsize : ls.size = nL) (hW : (rest.map fun v => v.category).sum ≤ 8) (hf : cells + 0 ≤ mcR ∧ slots + 0 ≤ msR) (hdg : decode cc pc = .ok (.invokevirtual index, 3)) (kk : ∀ r : Int32, K r → W p l e (rk rn mcR msR) s m args below meth c H locs cells slots Q (F0 m (pc + 3) ls (.int r :: rest))) : W p l e (rk rn mcR msR) s m args below meth c H locs cells slots Q (F0 m pc ls (.int x1 :: .ref (a 60) :: rest)) :=
  ro_go (runV (As := [.int x1]) hC hN (c_X2_number l D Z a q F L H.size x1 K hm) mi_X2_number hl wq_1040 wq_45 hlt (hP.sub isC (map_fm hs)) (hD.sub isC hnd hs) hK (q0 := 0) rfl rfl rfl hsize rfl hW hdg hf) kk
end LX2_number0x
section LX2_take0x
variable {p : Program} {l : Launch} {e : Env} {s : State} {m : MethodId} {args : Array Value} {below : List Frame} {meth : Method} {c : Code} {H H0 : Heap} {locs : List Loc} {cells slots : Nat} {Q : State → Prop} {R : Room} {rn mcR msR : Nat}
variable {pc : Nat} {ls : Array Slot} {rest : List Value} {A : Nat → Prop} {D : va_G}
variable {cc : ByteArray} {nL index : Nat} {own host : String}
theorem kx_X2_take {Z : Nat → ClassId} {a q : Nat → Nat} {F : M2} {L : L2} {x1 : Int32} {K : Int32 → M2 → L2 → Prop} {ws wr : va_W} {isC isR pm : List Nat} {ws' : M2 × L2 → va_W} (hC : CallFix p m c cc nL s args lw_g own) (hN : NW s) (hK : va_K D vwCl (tysG Z) s) (hT : TS vwCl D ws A H0 H locs) (hc : Cut ws (fun u : M2 × L2 => KW Z a q (q 20) u.1 u.2) (F, L) wr isC isR pm ws') (hnd : va_nd isC = true) (hm : wp_X2_take F L x1 K) (hl : Cond.methodLink own index yX2_take ∈ lw_g) (hlt : 1 < rn) (hsize : ls.size = nL) (hW : (rest.map fun v => v.category).sum ≤ 8) (hf : cells + 0 ≤ mcR ∧ slots + 0 ≤ msR) (hdg : decode cc pc = .ok (.invokevirtual index, 3)) (kk : ∀ (r : Int32) (F1 : M2) (L1 : L2) (H1 : Heap) (locs1 : List Loc), K r F1 L1 → TS vwCl D (ws' (F1, L1)) A H0 H1 locs1 → W p l e (rk rn mcR msR) s m args below meth c H1 locs1 cells slots Q (F0 m (pc + 3) ls (.int r :: rest))) : W p l e (rk rn mcR msR) s m args below meth c H locs cells slots Q (F0 m pc ls (.int x1 :: .ref (a 60) :: rest)) :=
  rw_go (wsF := (fun u : M2 × L2 => KW Z a q (q 20) u.1 u.2)) (u0 := (F, L)) (wr := wr) (isC := isC) (isR := isR) (pm := pm) (ws' := ws') (runV (As := [.int x1]) hC hN (c_X2_take l D Z a q F L H.size x1 K hm) mi_X2_take hl wq_1020 wq_41 hlt (hT.1.sub isC (map_fm hc.1)) (hT.D'.sub isC hnd hc.1) hK (q0 := 0) rfl rfl rfl hsize rfl hW hdg hf) hc hT (fun r u H1 locs1 hk hT1 => kk r u.1 u.2 H1 locs1 hk hT1)
end LX2_take0x
section LX2_tellFault0x
variable {p : Program} {l : Launch} {e : Env} {s : State} {m : MethodId} {args : Array Value} {below : List Frame} {meth : Method} {c : Code} {H H0 : Heap} {locs : List Loc} {cells slots : Nat} {Q : State → Prop} {R : Room} {rn mcR msR : Nat}
variable {pc : Nat} {ls : Array Slot} {rest : List Value} {A : Nat → Prop} {D : va_G}
variable {cc : ByteArray} {nL index : Nat} {own host : String}
theorem kx_X2_tellFault {Z : Nat → ClassId} {a q : Nat → Nat} {F : M2} {L : L2} {x1 : Int32} {x2 : Int32} {K : M2 → L2 → Prop} {ws wr : va_W} {isC isR pm : List Nat} {ws' : M2 × L2 → va_W} (hC : CallFix p m c cc nL s args lw_g own) (hN : NW s) (hK : va_K D vwCl (tysG Z) s) (hT : TS vwCl D ws A H0 H locs) (hc : Cut ws (fun u : M2 × L2 => KW Z a q (q 20) u.1 u.2) (F, L) wr isC isR pm ws') (hnd : va_nd isC = true) (hm : wp_X2_tellFault F L x1 x2 K) (hl : Cond.methodLink own index yX2_tellFault ∈ lw_g) (hlt : 1 < rn) (hsize : ls.size = nL) (hW : (rest.map fun v => v.category).sum ≤ 8) (hf : cells + 0 ≤ mcR ∧ slots + 0 ≤ msR) (hdg : decode cc pc = .ok (.invokevirtual index, 3)) (kk : ∀ (F1 : M2) (L1 : L2) (H1 : Heap) (locs1 : List Loc), K F1 L1 → TS vwCl D (ws' (F1, L1)) A H0 H1 locs1 → W p l e (rk rn mcR msR) s m args below meth c H1 locs1 cells slots Q (F0 m (pc + 3) ls (rest))) : W p l e (rk rn mcR msR) s m args below meth c H locs cells slots Q (F0 m pc ls (.int x2 :: .int x1 :: .ref (a 60) :: rest)) :=
  rwv_go (wsF := (fun u : M2 × L2 => KW Z a q (q 20) u.1 u.2)) (u0 := (F, L)) (wr := wr) (isC := isC) (isR := isR) (pm := pm) (ws' := ws') (runV (As := [.int x1, .int x2]) hC hN (c_X2_tellFault l D Z a q F L H.size x1 x2 K hm) mi_X2_tellFault hl wq_1032 wq_43 hlt (hT.1.sub isC (map_fm hc.1)) (hT.D'.sub isC hnd hc.1) hK (q0 := 0) rfl rfl rfl hsize rfl hW hdg hf) hc hT (fun u H1 locs1 hk hT1 => kk u.1 u.2 H1 locs1 hk hT1)
end LX2_tellFault0x
section LX2_needNew_nB0x
variable {p : Program} {l : Launch} {e : Env} {s : State} {m : MethodId} {args : Array Value} {below : List Frame} {meth : Method} {c : Code} {H H0 : Heap} {locs : List Loc} {cells slots : Nat} {Q : State → Prop} {R : Room} {rn mcR msR : Nat}
variable {pc : Nat} {ls : Array Slot} {rest : List Value} {A : Nat → Prop} {D : va_G}
variable {cc : ByteArray} {nL index : Nat} {own host : String}
theorem kx_X2_needNew_nB {Z : Nat → ClassId} {a q : Nat → Nat} {F : M2} {L : L2} {x2 : Int32} {x3 : Int32} {K : M2 → L2 → Prop} {ws wr : va_W} {isC isR pm : List Nat} {ws' : M2 × L2 → va_W} (hC : CallFix p m c cc nL s args lw_g own) (hN : NW s) (hK : va_K D vwCl (tysG Z) s) (hT : TS vwCl D ws A H0 H locs) (hc : Cut ws (fun u : M2 × L2 => KW Z a q (q 20) u.1 u.2) (F, L) wr isC isR pm ws') (hnd : va_nd isC = true) (hm : wp_X2_needNew_nB F L x2 x3 K) (hl : Cond.methodLink own index yX2_needNew ∈ lw_g) (hlt : 2 < rn) (hsize : ls.size = nL) (hW : (rest.map fun v => v.category).sum ≤ 8) (hf : cells + 0 ≤ mcR ∧ slots + 0 ≤ msR) (hdg : decode cc pc = .ok (.invokevirtual index, 3)) (kk : ∀ (F1 : M2) (L1 : L2) (H1 : Heap) (locs1 : List Loc), K F1 L1 → TS vwCl D (ws' (F1, L1)) A H0 H1 locs1 → W p l e (rk rn mcR msR) s m args below meth c H1 locs1 cells slots Q (F0 m (pc + 3) ls (rest))) : W p l e (rk rn mcR msR) s m args below meth c H locs cells slots Q (F0 m pc ls (.int x3 :: .int x2 :: .ref (a 61) :: .ref (a 60) :: rest)) :=
  rwv_go (wsF := (fun u : M2 × L2 => KW Z a q (q 20) u.1 u.2)) (u0 := (F, L)) (wr := wr) (isC := isC) (isR := isR) (pm := pm) (ws' := ws') (runV (As := [.ref (a 61), .int x2, .int x3]) hC hN (c_X2_needNew_nB l D Z a q F L H.size x2 x3 K hm) mi_X2_needNew hl wq_1024 wq_42 hlt (hT.1.sub isC (map_fm hc.1)) (hT.D'.sub isC hnd hc.1) hK (q0 := 0) rfl rfl rfl hsize rfl hW hdg hf) hc hT (fun u H1 locs1 hk hT1 => kk u.1 u.2 H1 locs1 hk hT1)
end LX2_needNew_nB0x
section LX2_needNew_nS0x
variable {p : Program} {l : Launch} {e : Env} {s : State} {m : MethodId} {args : Array Value} {below : List Frame} {meth : Method} {c : Code} {H H0 : Heap} {locs : List Loc} {cells slots : Nat} {Q : State → Prop} {R : Room} {rn mcR msR : Nat}
variable {pc : Nat} {ls : Array Slot} {rest : List Value} {A : Nat → Prop} {D : va_G}
variable {cc : ByteArray} {nL index : Nat} {own host : String}
theorem kx_X2_needNew_nS {Z : Nat → ClassId} {a q : Nat → Nat} {F : M2} {L : L2} {x2 : Int32} {x3 : Int32} {K : M2 → L2 → Prop} {ws wr : va_W} {isC isR pm : List Nat} {ws' : M2 × L2 → va_W} (hC : CallFix p m c cc nL s args lw_g own) (hN : NW s) (hK : va_K D vwCl (tysG Z) s) (hT : TS vwCl D ws A H0 H locs) (hc : Cut ws (fun u : M2 × L2 => KW Z a q (q 20) u.1 u.2) (F, L) wr isC isR pm ws') (hnd : va_nd isC = true) (hm : wp_X2_needNew_nS F L x2 x3 K) (hl : Cond.methodLink own index yX2_needNew ∈ lw_g) (hlt : 2 < rn) (hsize : ls.size = nL) (hW : (rest.map fun v => v.category).sum ≤ 8) (hf : cells + 0 ≤ mcR ∧ slots + 0 ≤ msR) (hdg : decode cc pc = .ok (.invokevirtual index, 3)) (kk : ∀ (F1 : M2) (L1 : L2) (H1 : Heap) (locs1 : List Loc), K F1 L1 → TS vwCl D (ws' (F1, L1)) A H0 H1 locs1 → W p l e (rk rn mcR msR) s m args below meth c H1 locs1 cells slots Q (F0 m (pc + 3) ls (rest))) : W p l e (rk rn mcR msR) s m args below meth c H locs cells slots Q (F0 m pc ls (.int x3 :: .int x2 :: .ref (a 62) :: .ref (a 60) :: rest)) :=
  rwv_go (wsF := (fun u : M2 × L2 => KW Z a q (q 20) u.1 u.2)) (u0 := (F, L)) (wr := wr) (isC := isC) (isR := isR) (pm := pm) (ws' := ws') (runV (As := [.ref (a 62), .int x2, .int x3]) hC hN (c_X2_needNew_nS l D Z a q F L H.size x2 x3 K hm) mi_X2_needNew hl wq_1024 wq_42 hlt (hT.1.sub isC (map_fm hc.1)) (hT.D'.sub isC hnd hc.1) hK (q0 := 0) rfl rfl rfl hsize rfl hW hdg hf) hc hT (fun u H1 locs1 hk hT1 => kk u.1 u.2 H1 locs1 hk hT1)
end LX2_needNew_nS0x
section LX2_needNew_nL0x
variable {p : Program} {l : Launch} {e : Env} {s : State} {m : MethodId} {args : Array Value} {below : List Frame} {meth : Method} {c : Code} {H H0 : Heap} {locs : List Loc} {cells slots : Nat} {Q : State → Prop} {R : Room} {rn mcR msR : Nat}
variable {pc : Nat} {ls : Array Slot} {rest : List Value} {A : Nat → Prop} {D : va_G}
variable {cc : ByteArray} {nL index : Nat} {own host : String}
theorem kx_X2_needNew_nL {Z : Nat → ClassId} {a q : Nat → Nat} {F : M2} {L : L2} {x2 : Int32} {x3 : Int32} {K : M2 → L2 → Prop} {ws wr : va_W} {isC isR pm : List Nat} {ws' : M2 × L2 → va_W} (hC : CallFix p m c cc nL s args lw_g own) (hN : NW s) (hK : va_K D vwCl (tysG Z) s) (hT : TS vwCl D ws A H0 H locs) (hc : Cut ws (fun u : M2 × L2 => KW Z a q (q 20) u.1 u.2) (F, L) wr isC isR pm ws') (hnd : va_nd isC = true) (hm : wp_X2_needNew_nL F L x2 x3 K) (hl : Cond.methodLink own index yX2_needNew ∈ lw_g) (hlt : 2 < rn) (hsize : ls.size = nL) (hW : (rest.map fun v => v.category).sum ≤ 8) (hf : cells + 0 ≤ mcR ∧ slots + 0 ≤ msR) (hdg : decode cc pc = .ok (.invokevirtual index, 3)) (kk : ∀ (F1 : M2) (L1 : L2) (H1 : Heap) (locs1 : List Loc), K F1 L1 → TS vwCl D (ws' (F1, L1)) A H0 H1 locs1 → W p l e (rk rn mcR msR) s m args below meth c H1 locs1 cells slots Q (F0 m (pc + 3) ls (rest))) : W p l e (rk rn mcR msR) s m args below meth c H locs cells slots Q (F0 m pc ls (.int x3 :: .int x2 :: .ref (a 63) :: .ref (a 60) :: rest)) :=
  rwv_go (wsF := (fun u : M2 × L2 => KW Z a q (q 20) u.1 u.2)) (u0 := (F, L)) (wr := wr) (isC := isC) (isR := isR) (pm := pm) (ws' := ws') (runV (As := [.ref (a 63), .int x2, .int x3]) hC hN (c_X2_needNew_nL l D Z a q F L H.size x2 x3 K hm) mi_X2_needNew hl wq_1024 wq_42 hlt (hT.1.sub isC (map_fm hc.1)) (hT.D'.sub isC hnd hc.1) hK (q0 := 0) rfl rfl rfl hsize rfl hW hdg hf) hc hT (fun u H1 locs1 hk hT1 => kk u.1 u.2 H1 locs1 hk hT1)
end LX2_needNew_nL0x
section LX2_needNew_nO0x
variable {p : Program} {l : Launch} {e : Env} {s : State} {m : MethodId} {args : Array Value} {below : List Frame} {meth : Method} {c : Code} {H H0 : Heap} {locs : List Loc} {cells slots : Nat} {Q : State → Prop} {R : Room} {rn mcR msR : Nat}
variable {pc : Nat} {ls : Array Slot} {rest : List Value} {A : Nat → Prop} {D : va_G}
variable {cc : ByteArray} {nL index : Nat} {own host : String}
theorem kx_X2_needNew_nO {Z : Nat → ClassId} {a q : Nat → Nat} {F : M2} {L : L2} {x2 : Int32} {x3 : Int32} {K : M2 → L2 → Prop} {ws wr : va_W} {isC isR pm : List Nat} {ws' : M2 × L2 → va_W} (hC : CallFix p m c cc nL s args lw_g own) (hN : NW s) (hK : va_K D vwCl (tysG Z) s) (hT : TS vwCl D ws A H0 H locs) (hc : Cut ws (fun u : M2 × L2 => KW Z a q (q 20) u.1 u.2) (F, L) wr isC isR pm ws') (hnd : va_nd isC = true) (hm : wp_X2_needNew_nO F L x2 x3 K) (hl : Cond.methodLink own index yX2_needNew ∈ lw_g) (hlt : 2 < rn) (hsize : ls.size = nL) (hW : (rest.map fun v => v.category).sum ≤ 8) (hf : cells + 0 ≤ mcR ∧ slots + 0 ≤ msR) (hdg : decode cc pc = .ok (.invokevirtual index, 3)) (kk : ∀ (F1 : M2) (L1 : L2) (H1 : Heap) (locs1 : List Loc), K F1 L1 → TS vwCl D (ws' (F1, L1)) A H0 H1 locs1 → W p l e (rk rn mcR msR) s m args below meth c H1 locs1 cells slots Q (F0 m (pc + 3) ls (rest))) : W p l e (rk rn mcR msR) s m args below meth c H locs cells slots Q (F0 m pc ls (.int x3 :: .int x2 :: .ref (a 64) :: .ref (a 60) :: rest)) :=
  rwv_go (wsF := (fun u : M2 × L2 => KW Z a q (q 20) u.1 u.2)) (u0 := (F, L)) (wr := wr) (isC := isC) (isR := isR) (pm := pm) (ws' := ws') (runV (As := [.ref (a 64), .int x2, .int x3]) hC hN (c_X2_needNew_nO l D Z a q F L H.size x2 x3 K hm) mi_X2_needNew hl wq_1024 wq_42 hlt (hT.1.sub isC (map_fm hc.1)) (hT.D'.sub isC hnd hc.1) hK (q0 := 0) rfl rfl rfl hsize rfl hW hdg hf) hc hT (fun u H1 locs1 hk hT1 => kk u.1 u.2 H1 locs1 hk hT1)
end LX2_needNew_nO0x
section LX2_needKnown_nL0x
variable {p : Program} {l : Launch} {e : Env} {s : State} {m : MethodId} {args : Array Value} {below : List Frame} {meth : Method} {c : Code} {H H0 : Heap} {locs : List Loc} {cells slots : Nat} {Q : State → Prop} {R : Room} {rn mcR msR : Nat}
variable {pc : Nat} {ls : Array Slot} {rest : List Value} {A : Nat → Prop} {D : va_G}
variable {cc : ByteArray} {nL index : Nat} {own host : String}
theorem kx_X2_needKnown_nL {Z : Nat → ClassId} {a q : Nat → Nat} {F : M2} {L : L2} {x2 : Int32} {x3 : Int32} {K : Int32 → M2 → L2 → Prop} {ws wr : va_W} {isC isR pm : List Nat} {ws' : M2 × L2 → va_W} (hC : CallFix p m c cc nL s args lw_g own) (hN : NW s) (hK : va_K D vwCl (tysG Z) s) (hT : TS vwCl D ws A H0 H locs) (hc : Cut ws (fun u : M2 × L2 => KW Z a q (q 20) u.1 u.2) (F, L) wr isC isR pm ws') (hnd : va_nd isC = true) (hm : wp_X2_needKnown_nL F L x2 x3 K) (hl : Cond.methodLink own index yX2_needKnown ∈ lw_g) (hlt : 2 < rn) (hsize : ls.size = nL) (hW : (rest.map fun v => v.category).sum ≤ 8) (hf : cells + 0 ≤ mcR ∧ slots + 0 ≤ msR) (hdg : decode cc pc = .ok (.invokevirtual index, 3)) (kk : ∀ (r : Int32) (F1 : M2) (L1 : L2) (H1 : Heap) (locs1 : List Loc), K r F1 L1 → TS vwCl D (ws' (F1, L1)) A H0 H1 locs1 → W p l e (rk rn mcR msR) s m args below meth c H1 locs1 cells slots Q (F0 m (pc + 3) ls (.int r :: rest))) : W p l e (rk rn mcR msR) s m args below meth c H locs cells slots Q (F0 m pc ls (.int x3 :: .int x2 :: .ref (a 63) :: .ref (a 60) :: rest)) :=
  rw_go (wsF := (fun u : M2 × L2 => KW Z a q (q 20) u.1 u.2)) (u0 := (F, L)) (wr := wr) (isC := isC) (isR := isR) (pm := pm) (ws' := ws') (runV (As := [.ref (a 63), .int x2, .int x3]) hC hN (c_X2_needKnown_nL l D Z a q F L H.size x2 x3 K hm) mi_X2_needKnown hl wq_1076 wq_49 hlt (hT.1.sub isC (map_fm hc.1)) (hT.D'.sub isC hnd hc.1) hK (q0 := 0) rfl rfl rfl hsize rfl hW hdg hf) hc hT (fun r u H1 locs1 hk hT1 => kk r u.1 u.2 H1 locs1 hk hT1)
end LX2_needKnown_nL0x
section LX2_needRange0x
variable {p : Program} {l : Launch} {e : Env} {s : State} {m : MethodId} {args : Array Value} {below : List Frame} {meth : Method} {c : Code} {H H0 : Heap} {locs : List Loc} {cells slots : Nat} {Q : State → Prop} {R : Room} {rn mcR msR : Nat}
variable {pc : Nat} {ls : Array Slot} {rest : List Value} {A : Nat → Prop} {D : va_G}
variable {cc : ByteArray} {nL index : Nat} {own host : String}
theorem kx_X2_needRange {Z : Nat → ClassId} {a q : Nat → Nat} {F : M2} {L : L2} {x1 : Int32} {x2 : Int32} {x3 : Int32} {K : M2 → L2 → Prop} {ws wr : va_W} {isC isR pm : List Nat} {ws' : M2 × L2 → va_W} (hC : CallFix p m c cc nL s args lw_g own) (hN : NW s) (hK : va_K D vwCl (tysG Z) s) (hT : TS vwCl D ws A H0 H locs) (hc : Cut ws (fun u : M2 × L2 => KW Z a q (q 20) u.1 u.2) (F, L) wr isC isR pm ws') (hnd : va_nd isC = true) (hm : wp_X2_needRange F L x1 x2 x3 K) (hl : Cond.methodLink own index yX2_needRange ∈ lw_g) (hlt : 2 < rn) (hsize : ls.size = nL) (hW : (rest.map fun v => v.category).sum ≤ 8) (hf : cells + 0 ≤ mcR ∧ slots + 0 ≤ msR) (hdg : decode cc pc = .ok (.invokevirtual index, 3)) (kk : ∀ (F1 : M2) (L1 : L2) (H1 : Heap) (locs1 : List Loc), K F1 L1 → TS vwCl D (ws' (F1, L1)) A H0 H1 locs1 → W p l e (rk rn mcR msR) s m args below meth c H1 locs1 cells slots Q (F0 m (pc + 3) ls (rest))) : W p l e (rk rn mcR msR) s m args below meth c H locs cells slots Q (F0 m pc ls (.int x3 :: .int x2 :: .int x1 :: .ref (a 60) :: rest)) :=
  rwv_go (wsF := (fun u : M2 × L2 => KW Z a q (q 20) u.1 u.2)) (u0 := (F, L)) (wr := wr) (isC := isC) (isR := isR) (pm := pm) (ws' := ws') (runV (As := [.int x1, .int x2, .int x3]) hC hN (c_X2_needRange l D Z a q F L H.size x1 x2 x3 K hm) mi_X2_needRange hl wq_1036 wq_44 hlt (hT.1.sub isC (map_fm hc.1)) (hT.D'.sub isC hnd hc.1) hK (q0 := 0) rfl rfl rfl hsize rfl hW hdg hf) hc hT (fun u H1 locs1 hk hT1 => kk u.1 u.2 H1 locs1 hk hT1)
end LX2_needRange0x
section LX2_test0x
variable {p : Program} {l : Launch} {e : Env} {s : State} {m : MethodId} {args : Array Value} {below : List Frame} {meth : Method} {c : Code} {H H0 : Heap} {locs : List Loc} {cells slots : Nat} {Q : State → Prop} {R : Room} {rn mcR msR : Nat}
variable {pc : Nat} {ls : Array Slot} {rest : List Value} {A : Nat → Prop} {D : va_G}
variable {cc : ByteArray} {nL index : Nat} {own host : String}
theorem kx_X2_test {Z : Nat → ClassId} {a q : Nat → Nat} {F : M2} {L : L2} {x1 : Int32} {K : Int32 → M2 → L2 → Prop} {ws wr : va_W} {isC isR pm : List Nat} {ws' : M2 × L2 → va_W} (hC : CallFix p m c cc nL s args lw_g own) (hN : NW s) (hK : va_K D vwCl (tysG Z) s) (hT : TS vwCl D ws A H0 H locs) (hc : Cut ws (fun u : M2 × L2 => KW Z a q (q 20) u.1 u.2) (F, L) wr isC isR pm ws') (hnd : va_nd isC = true) (hm : wp_X2_test (gX2 120) F L x1 K) (hl : Cond.methodLink own index yX2_test ∈ lw_g) (hlt : 10 + 120 < rn) (hsize : ls.size = nL) (hW : (rest.map fun v => v.category).sum ≤ 8) (hf : cells + 0 ≤ mcR ∧ slots + 0 ≤ msR) (hdg : decode cc pc = .ok (.invokevirtual index, 3)) (kk : ∀ (r : Int32) (F1 : M2) (L1 : L2) (H1 : Heap) (locs1 : List Loc), K r F1 L1 → TS vwCl D (ws' (F1, L1)) A H0 H1 locs1 → W p l e (rk rn mcR msR) s m args below meth c H1 locs1 cells slots Q (F0 m (pc + 3) ls (.int r :: rest))) : W p l e (rk rn mcR msR) s m args below meth c H locs cells slots Q (F0 m pc ls (.int x1 :: .ref (a 60) :: rest)) :=
  rw_go (wsF := (fun u : M2 × L2 => KW Z a q (q 20) u.1 u.2)) (u0 := (F, L)) (wr := wr) (isC := isC) (isR := isR) (pm := pm) (ws' := ws') (runV (As := [.int x1]) hC hN (c_X2_test 120 (gX2_ih 120) l D Z a q F L H.size x1 K hm) mi_X2_test hl wq_1090 wq_51 hlt (hT.1.sub isC (map_fm hc.1)) (hT.D'.sub isC hnd hc.1) hK (q0 := 0) rfl rfl rfl hsize rfl hW hdg hf) hc hT (fun r u H1 locs1 hk hT1 => kk r u.1 u.2 H1 locs1 hk hT1)
end LX2_test0x
theorem dX2_takeAll_0 : decode cX2_takeAll 0 = .ok (.iconst 0, 1) := by decide +kernel
theorem dX2_takeAll_1 : decode cX2_takeAll 1 = .ok (.istore_n 2, 1) := by decide +kernel
theorem dX2_takeAll_2 : decode cX2_takeAll 2 = .ok (.iload_n 2, 1) := by decide +kernel
theorem dX2_takeAll_3 : decode cX2_takeAll 3 = .ok (.aload_n 1, 1) := by decide +kernel
theorem dX2_takeAll_4 : decode cX2_takeAll 4 = .ok (.arraylength, 1) := by decide +kernel
theorem dX2_takeAll_5 : decode cX2_takeAll 5 = .ok (.if_icmp .ge 21, 3) := by decide +kernel
theorem dX2_takeAll_8 : decode cX2_takeAll 8 = .ok (.aload_n 0, 1) := by decide +kernel
theorem dX2_takeAll_9 : decode cX2_takeAll 9 = .ok (.aload_n 1, 1) := by decide +kernel
theorem dX2_takeAll_10 : decode cX2_takeAll 10 = .ok (.iload_n 2, 1) := by decide +kernel
theorem dX2_takeAll_11 : decode cX2_takeAll 11 = .ok (.iaload, 1) := by decide +kernel
theorem dX2_takeAll_12 : decode cX2_takeAll 12 = .ok (.invokevirtual 66, 3) := by decide +kernel
theorem dX2_takeAll_15 : decode cX2_takeAll 15 = .ok (.ifCond .ne 5, 3) := by decide +kernel
theorem dX2_takeAll_18 : decode cX2_takeAll 18 = .ok (.iconst 0, 1) := by decide +kernel
theorem dX2_takeAll_19 : decode cX2_takeAll 19 = .ok (.ireturn, 1) := by decide +kernel
theorem dX2_takeAll_20 : decode cX2_takeAll 20 = .ok (.iinc 2 1, 3) := by decide +kernel
theorem dX2_takeAll_23 : decode cX2_takeAll 23 = .ok (.goto (-21), 3) := by decide +kernel
theorem dX2_takeAll_26 : decode cX2_takeAll 26 = .ok (.iconst 1, 1) := by decide +kernel
theorem dX2_takeAll_27 : decode cX2_takeAll 27 = .ok (.ireturn, 1) := by decide +kernel
theorem dX2_boreLine_0 : decode cX2_boreLine 0 = .ok (.aload_n 0, 1) := by decide +kernel
theorem dX2_boreLine_1 : decode cX2_boreLine 1 = .ok (.getstatic 121, 3) := by decide +kernel
theorem dX2_boreLine_4 : decode cX2_boreLine 4 = .ok (.invokevirtual 124, 3) := by decide +kernel
theorem dX2_boreLine_7 : decode cX2_boreLine 7 = .ok (.ifCond .ne 5, 3) := by decide +kernel
theorem dX2_boreLine_10 : decode cX2_boreLine 10 = .ok (.iconst 0, 1) := by decide +kernel
theorem dX2_boreLine_11 : decode cX2_boreLine 11 = .ok (.ireturn, 1) := by decide +kernel
theorem dX2_boreLine_12 : decode cX2_boreLine 12 = .ok (.aload_n 0, 1) := by decide +kernel
theorem dX2_boreLine_13 : decode cX2_boreLine 13 = .ok (.aload_n 0, 1) := by decide +kernel
theorem dX2_boreLine_14 : decode cX2_boreLine 14 = .ok (.getfield 18, 3) := by decide +kernel
theorem dX2_boreLine_17 : decode cX2_boreLine 17 = .ok (.aload_n 0, 1) := by decide +kernel
theorem dX2_boreLine_18 : decode cX2_boreLine 18 = .ok (.getfield 34, 3) := by decide +kernel
theorem dX2_boreLine_21 : decode cX2_boreLine 21 = .ok (.getfield 128, 3) := by decide +kernel
theorem dX2_boreLine_24 : decode cX2_boreLine 24 = .ok (.iload_n 1, 1) := by decide +kernel
theorem dX2_boreLine_25 : decode cX2_boreLine 25 = .ok (.iconst 1, 1) := by decide +kernel
theorem dX2_boreLine_26 : decode cX2_boreLine 26 = .ok (.iadd, 1) := by decide +kernel
theorem dX2_boreLine_27 : decode cX2_boreLine 27 = .ok (.invokevirtual 131, 3) := by decide +kernel
theorem dX2_boreLine_30 : decode cX2_boreLine 30 = .ok (.aload_n 0, 1) := by decide +kernel
theorem dX2_boreLine_31 : decode cX2_boreLine 31 = .ok (.iload_n 1, 1) := by decide +kernel
theorem dX2_boreLine_32 : decode cX2_boreLine 32 = .ok (.iconst 3, 1) := by decide +kernel
theorem dX2_boreLine_33 : decode cX2_boreLine 33 = .ok (.iadd, 1) := by decide +kernel
theorem dX2_boreLine_34 : decode cX2_boreLine 34 = .ok (.iconst 1, 1) := by decide +kernel
theorem dX2_boreLine_35 : decode cX2_boreLine 35 = .ok (.bipush 12, 2) := by decide +kernel
theorem dX2_boreLine_37 : decode cX2_boreLine 37 = .ok (.invokevirtual 135, 3) := by decide +kernel
theorem dX2_boreLine_40 : decode cX2_boreLine 40 = .ok (.aload_n 0, 1) := by decide +kernel
theorem dX2_boreLine_41 : decode cX2_boreLine 41 = .ok (.iload_n 1, 1) := by decide +kernel
theorem dX2_boreLine_42 : decode cX2_boreLine 42 = .ok (.iconst 5, 1) := by decide +kernel
theorem dX2_boreLine_43 : decode cX2_boreLine 43 = .ok (.iadd, 1) := by decide +kernel
theorem dX2_boreLine_44 : decode cX2_boreLine 44 = .ok (.iconst 0, 1) := by decide +kernel
theorem dX2_boreLine_45 : decode cX2_boreLine 45 = .ok (.bipush 9, 2) := by decide +kernel
theorem dX2_boreLine_47 : decode cX2_boreLine 47 = .ok (.invokevirtual 135, 3) := by decide +kernel
theorem dX2_boreLine_50 : decode cX2_boreLine 50 = .ok (.aload_n 0, 1) := by decide +kernel
theorem dX2_boreLine_51 : decode cX2_boreLine 51 = .ok (.getfield 42, 3) := by decide +kernel
theorem dX2_boreLine_54 : decode cX2_boreLine 54 = .ok (.ifCond .ne 51, 3) := by decide +kernel
theorem dX2_boreLine_57 : decode cX2_boreLine 57 = .ok (.aload_n 0, 1) := by decide +kernel
theorem dX2_boreLine_58 : decode cX2_boreLine 58 = .ok (.getfield 18, 3) := by decide +kernel
theorem dX2_boreLine_61 : decode cX2_boreLine 61 = .ok (.aload_n 0, 1) := by decide +kernel
theorem dX2_boreLine_62 : decode cX2_boreLine 62 = .ok (.getfield 34, 3) := by decide +kernel
theorem dX2_boreLine_65 : decode cX2_boreLine 65 = .ok (.getfield 128, 3) := by decide +kernel
theorem dX2_boreLine_68 : decode cX2_boreLine 68 = .ok (.aload_n 0, 1) := by decide +kernel
theorem dX2_boreLine_69 : decode cX2_boreLine 69 = .ok (.getfield 12, 3) := by decide +kernel
theorem dX2_boreLine_72 : decode cX2_boreLine 72 = .ok (.getfield 81, 3) := by decide +kernel
theorem dX2_boreLine_75 : decode cX2_boreLine 75 = .ok (.iload_n 1, 1) := by decide +kernel
theorem dX2_boreLine_76 : decode cX2_boreLine 76 = .ok (.iconst 1, 1) := by decide +kernel
theorem dX2_boreLine_77 : decode cX2_boreLine 77 = .ok (.iadd, 1) := by decide +kernel
theorem dX2_boreLine_78 : decode cX2_boreLine 78 = .ok (.invokestatic 84, 3) := by decide +kernel
theorem dX2_boreLine_81 : decode cX2_boreLine 81 = .ok (.invokestatic 139, 3) := by decide +kernel
theorem dX2_boreLine_84 : decode cX2_boreLine 84 = .ok (.aload_n 0, 1) := by decide +kernel
theorem dX2_boreLine_85 : decode cX2_boreLine 85 = .ok (.getfield 34, 3) := by decide +kernel
theorem dX2_boreLine_88 : decode cX2_boreLine 88 = .ok (.aload_n 0, 1) := by decide +kernel
theorem dX2_boreLine_89 : decode cX2_boreLine 89 = .ok (.iload_n 1, 1) := by decide +kernel
theorem dX2_boreLine_90 : decode cX2_boreLine 90 = .ok (.iconst 3, 1) := by decide +kernel
theorem dX2_boreLine_91 : decode cX2_boreLine 91 = .ok (.iadd, 1) := by decide +kernel
theorem dX2_boreLine_92 : decode cX2_boreLine 92 = .ok (.invokevirtual 95, 3) := by decide +kernel
theorem dX2_boreLine_95 : decode cX2_boreLine 95 = .ok (.aload_n 0, 1) := by decide +kernel
theorem dX2_boreLine_96 : decode cX2_boreLine 96 = .ok (.iload_n 1, 1) := by decide +kernel
theorem dX2_boreLine_97 : decode cX2_boreLine 97 = .ok (.iconst 5, 1) := by decide +kernel
theorem dX2_boreLine_98 : decode cX2_boreLine 98 = .ok (.iadd, 1) := by decide +kernel
theorem dX2_boreLine_99 : decode cX2_boreLine 99 = .ok (.invokevirtual 95, 3) := by decide +kernel
theorem dX2_boreLine_102 : decode cX2_boreLine 102 = .ok (.invokevirtual 143, 3) := by decide +kernel
theorem dX2_boreLine_105 : decode cX2_boreLine 105 = .ok (.iconst 1, 1) := by decide +kernel
theorem dX2_boreLine_106 : decode cX2_boreLine 106 = .ok (.ireturn, 1) := by decide +kernel
theorem dX2_shaftLine_0 : decode cX2_shaftLine 0 = .ok (.aload_n 0, 1) := by decide +kernel
theorem dX2_shaftLine_1 : decode cX2_shaftLine 1 = .ok (.getstatic 146, 3) := by decide +kernel
theorem dX2_shaftLine_4 : decode cX2_shaftLine 4 = .ok (.invokevirtual 124, 3) := by decide +kernel
theorem dX2_shaftLine_7 : decode cX2_shaftLine 7 = .ok (.ifCond .ne 5, 3) := by decide +kernel
theorem dX2_shaftLine_10 : decode cX2_shaftLine 10 = .ok (.iconst 0, 1) := by decide +kernel
theorem dX2_shaftLine_11 : decode cX2_shaftLine 11 = .ok (.ireturn, 1) := by decide +kernel
theorem dX2_shaftLine_12 : decode cX2_shaftLine 12 = .ok (.aload_n 0, 1) := by decide +kernel
theorem dX2_shaftLine_13 : decode cX2_shaftLine 13 = .ok (.aload_n 0, 1) := by decide +kernel
theorem dX2_shaftLine_14 : decode cX2_shaftLine 14 = .ok (.getfield 22, 3) := by decide +kernel
theorem dX2_shaftLine_17 : decode cX2_shaftLine 17 = .ok (.aload_n 0, 1) := by decide +kernel
theorem dX2_shaftLine_18 : decode cX2_shaftLine 18 = .ok (.getfield 34, 3) := by decide +kernel
theorem dX2_shaftLine_21 : decode cX2_shaftLine 21 = .ok (.getfield 149, 3) := by decide +kernel
theorem dX2_shaftLine_24 : decode cX2_shaftLine 24 = .ok (.iload_n 1, 1) := by decide +kernel
theorem dX2_shaftLine_25 : decode cX2_shaftLine 25 = .ok (.iconst 1, 1) := by decide +kernel
theorem dX2_shaftLine_26 : decode cX2_shaftLine 26 = .ok (.iadd, 1) := by decide +kernel
theorem dX2_shaftLine_27 : decode cX2_shaftLine 27 = .ok (.invokevirtual 131, 3) := by decide +kernel
theorem dX2_shaftLine_30 : decode cX2_shaftLine 30 = .ok (.aload_n 0, 1) := by decide +kernel
theorem dX2_shaftLine_31 : decode cX2_shaftLine 31 = .ok (.iload_n 1, 1) := by decide +kernel
theorem dX2_shaftLine_32 : decode cX2_shaftLine 32 = .ok (.iconst 3, 1) := by decide +kernel
theorem dX2_shaftLine_33 : decode cX2_shaftLine 33 = .ok (.iadd, 1) := by decide +kernel
theorem dX2_shaftLine_34 : decode cX2_shaftLine 34 = .ok (.iconst 0, 1) := by decide +kernel
theorem dX2_shaftLine_35 : decode cX2_shaftLine 35 = .ok (.aload_n 0, 1) := by decide +kernel
theorem dX2_shaftLine_36 : decode cX2_shaftLine 36 = .ok (.getfield 34, 3) := by decide +kernel
theorem dX2_shaftLine_39 : decode cX2_shaftLine 39 = .ok (.getfield 152, 3) := by decide +kernel
theorem dX2_shaftLine_42 : decode cX2_shaftLine 42 = .ok (.iconst 1, 1) := by decide +kernel
theorem dX2_shaftLine_43 : decode cX2_shaftLine 43 = .ok (.isub, 1) := by decide +kernel
theorem dX2_shaftLine_44 : decode cX2_shaftLine 44 = .ok (.invokevirtual 135, 3) := by decide +kernel
theorem dX2_shaftLine_47 : decode cX2_shaftLine 47 = .ok (.aload_n 0, 1) := by decide +kernel
theorem dX2_shaftLine_48 : decode cX2_shaftLine 48 = .ok (.iload_n 1, 1) := by decide +kernel
theorem dX2_shaftLine_49 : decode cX2_shaftLine 49 = .ok (.iconst 5, 1) := by decide +kernel
theorem dX2_shaftLine_50 : decode cX2_shaftLine 50 = .ok (.iadd, 1) := by decide +kernel
theorem dX2_shaftLine_51 : decode cX2_shaftLine 51 = .ok (.iconst 1, 1) := by decide +kernel
theorem dX2_shaftLine_52 : decode cX2_shaftLine 52 = .ok (.bipush 30, 2) := by decide +kernel
theorem dX2_shaftLine_54 : decode cX2_shaftLine 54 = .ok (.invokevirtual 135, 3) := by decide +kernel
theorem dX2_shaftLine_57 : decode cX2_shaftLine 57 = .ok (.aload_n 0, 1) := by decide +kernel
theorem dX2_shaftLine_58 : decode cX2_shaftLine 58 = .ok (.getfield 42, 3) := by decide +kernel
theorem dX2_shaftLine_61 : decode cX2_shaftLine 61 = .ok (.ifCond .ne 51, 3) := by decide +kernel
theorem dX2_shaftLine_64 : decode cX2_shaftLine 64 = .ok (.aload_n 0, 1) := by decide +kernel
theorem dX2_shaftLine_65 : decode cX2_shaftLine 65 = .ok (.getfield 22, 3) := by decide +kernel
theorem dX2_shaftLine_68 : decode cX2_shaftLine 68 = .ok (.aload_n 0, 1) := by decide +kernel
theorem dX2_shaftLine_69 : decode cX2_shaftLine 69 = .ok (.getfield 34, 3) := by decide +kernel
theorem dX2_shaftLine_72 : decode cX2_shaftLine 72 = .ok (.getfield 149, 3) := by decide +kernel
theorem dX2_shaftLine_75 : decode cX2_shaftLine 75 = .ok (.aload_n 0, 1) := by decide +kernel
theorem dX2_shaftLine_76 : decode cX2_shaftLine 76 = .ok (.getfield 12, 3) := by decide +kernel
theorem dX2_shaftLine_79 : decode cX2_shaftLine 79 = .ok (.getfield 81, 3) := by decide +kernel
theorem dX2_shaftLine_82 : decode cX2_shaftLine 82 = .ok (.iload_n 1, 1) := by decide +kernel
theorem dX2_shaftLine_83 : decode cX2_shaftLine 83 = .ok (.iconst 1, 1) := by decide +kernel
theorem dX2_shaftLine_84 : decode cX2_shaftLine 84 = .ok (.iadd, 1) := by decide +kernel
theorem dX2_shaftLine_85 : decode cX2_shaftLine 85 = .ok (.invokestatic 84, 3) := by decide +kernel
theorem dX2_shaftLine_88 : decode cX2_shaftLine 88 = .ok (.invokestatic 139, 3) := by decide +kernel
theorem dX2_shaftLine_91 : decode cX2_shaftLine 91 = .ok (.aload_n 0, 1) := by decide +kernel
theorem dX2_shaftLine_92 : decode cX2_shaftLine 92 = .ok (.getfield 34, 3) := by decide +kernel
theorem dX2_shaftLine_95 : decode cX2_shaftLine 95 = .ok (.aload_n 0, 1) := by decide +kernel
theorem dX2_shaftLine_96 : decode cX2_shaftLine 96 = .ok (.iload_n 1, 1) := by decide +kernel
theorem dX2_shaftLine_97 : decode cX2_shaftLine 97 = .ok (.iconst 3, 1) := by decide +kernel
theorem dX2_shaftLine_98 : decode cX2_shaftLine 98 = .ok (.iadd, 1) := by decide +kernel
theorem dX2_shaftLine_99 : decode cX2_shaftLine 99 = .ok (.invokevirtual 95, 3) := by decide +kernel
theorem dX2_shaftLine_102 : decode cX2_shaftLine 102 = .ok (.aload_n 0, 1) := by decide +kernel
theorem dX2_shaftLine_103 : decode cX2_shaftLine 103 = .ok (.iload_n 1, 1) := by decide +kernel
theorem dX2_shaftLine_104 : decode cX2_shaftLine 104 = .ok (.iconst 5, 1) := by decide +kernel
theorem dX2_shaftLine_105 : decode cX2_shaftLine 105 = .ok (.iadd, 1) := by decide +kernel
theorem dX2_shaftLine_106 : decode cX2_shaftLine 106 = .ok (.invokevirtual 95, 3) := by decide +kernel
theorem dX2_shaftLine_109 : decode cX2_shaftLine 109 = .ok (.invokevirtual 155, 3) := by decide +kernel
theorem dX2_shaftLine_112 : decode cX2_shaftLine 112 = .ok (.iconst 1, 1) := by decide +kernel
theorem dX2_shaftLine_113 : decode cX2_shaftLine 113 = .ok (.ireturn, 1) := by decide +kernel
theorem dX2_leggerLine_0 : decode cX2_leggerLine 0 = .ok (.aload_n 0, 1) := by decide +kernel
theorem dX2_leggerLine_1 : decode cX2_leggerLine 1 = .ok (.getstatic 158, 3) := by decide +kernel
theorem dX2_leggerLine_4 : decode cX2_leggerLine 4 = .ok (.invokevirtual 124, 3) := by decide +kernel
theorem dX2_leggerLine_7 : decode cX2_leggerLine 7 = .ok (.ifCond .ne 5, 3) := by decide +kernel
theorem dX2_leggerLine_10 : decode cX2_leggerLine 10 = .ok (.iconst 0, 1) := by decide +kernel
theorem dX2_leggerLine_11 : decode cX2_leggerLine 11 = .ok (.ireturn, 1) := by decide +kernel
theorem dX2_leggerLine_12 : decode cX2_leggerLine 12 = .ok (.aload_n 0, 1) := by decide +kernel
theorem dX2_leggerLine_13 : decode cX2_leggerLine 13 = .ok (.aload_n 0, 1) := by decide +kernel
theorem dX2_leggerLine_14 : decode cX2_leggerLine 14 = .ok (.getfield 25, 3) := by decide +kernel
theorem dX2_leggerLine_17 : decode cX2_leggerLine 17 = .ok (.aload_n 0, 1) := by decide +kernel
theorem dX2_leggerLine_18 : decode cX2_leggerLine 18 = .ok (.getfield 34, 3) := by decide +kernel
theorem dX2_leggerLine_21 : decode cX2_leggerLine 21 = .ok (.getfield 161, 3) := by decide +kernel
theorem dX2_leggerLine_24 : decode cX2_leggerLine 24 = .ok (.iload_n 1, 1) := by decide +kernel
theorem dX2_leggerLine_25 : decode cX2_leggerLine 25 = .ok (.iconst 1, 1) := by decide +kernel
theorem dX2_leggerLine_26 : decode cX2_leggerLine 26 = .ok (.iadd, 1) := by decide +kernel
theorem dX2_leggerLine_27 : decode cX2_leggerLine 27 = .ok (.invokevirtual 131, 3) := by decide +kernel
theorem dX2_leggerLine_30 : decode cX2_leggerLine 30 = .ok (.aload_n 0, 1) := by decide +kernel
theorem dX2_leggerLine_31 : decode cX2_leggerLine 31 = .ok (.iload_n 1, 1) := by decide +kernel
theorem dX2_leggerLine_32 : decode cX2_leggerLine 32 = .ok (.iconst 3, 1) := by decide +kernel
theorem dX2_leggerLine_33 : decode cX2_leggerLine 33 = .ok (.iadd, 1) := by decide +kernel
theorem dX2_leggerLine_34 : decode cX2_leggerLine 34 = .ok (.iconst 1, 1) := by decide +kernel
theorem dX2_leggerLine_35 : decode cX2_leggerLine 35 = .ok (.bipush 9, 2) := by decide +kernel
theorem dX2_leggerLine_37 : decode cX2_leggerLine 37 = .ok (.invokevirtual 135, 3) := by decide +kernel
theorem dX2_leggerLine_40 : decode cX2_leggerLine 40 = .ok (.aload_n 0, 1) := by decide +kernel
theorem dX2_leggerLine_41 : decode cX2_leggerLine 41 = .ok (.iload_n 1, 1) := by decide +kernel
theorem dX2_leggerLine_42 : decode cX2_leggerLine 42 = .ok (.iconst 5, 1) := by decide +kernel
theorem dX2_leggerLine_43 : decode cX2_leggerLine 43 = .ok (.iadd, 1) := by decide +kernel
theorem dX2_leggerLine_44 : decode cX2_leggerLine 44 = .ok (.iconst 1, 1) := by decide +kernel
theorem dX2_leggerLine_45 : decode cX2_leggerLine 45 = .ok (.bipush 9, 2) := by decide +kernel
theorem dX2_leggerLine_47 : decode cX2_leggerLine 47 = .ok (.invokevirtual 135, 3) := by decide +kernel
theorem dX2_leggerLine_50 : decode cX2_leggerLine 50 = .ok (.aload_n 0, 1) := by decide +kernel
theorem dX2_leggerLine_51 : decode cX2_leggerLine 51 = .ok (.getfield 42, 3) := by decide +kernel
theorem dX2_leggerLine_54 : decode cX2_leggerLine 54 = .ok (.ifCond .ne 51, 3) := by decide +kernel
theorem dX2_leggerLine_57 : decode cX2_leggerLine 57 = .ok (.aload_n 0, 1) := by decide +kernel
theorem dX2_leggerLine_58 : decode cX2_leggerLine 58 = .ok (.getfield 25, 3) := by decide +kernel
theorem dX2_leggerLine_61 : decode cX2_leggerLine 61 = .ok (.aload_n 0, 1) := by decide +kernel
theorem dX2_leggerLine_62 : decode cX2_leggerLine 62 = .ok (.getfield 34, 3) := by decide +kernel
theorem dX2_leggerLine_65 : decode cX2_leggerLine 65 = .ok (.getfield 161, 3) := by decide +kernel
theorem dX2_leggerLine_68 : decode cX2_leggerLine 68 = .ok (.aload_n 0, 1) := by decide +kernel
theorem dX2_leggerLine_69 : decode cX2_leggerLine 69 = .ok (.getfield 12, 3) := by decide +kernel
theorem dX2_leggerLine_72 : decode cX2_leggerLine 72 = .ok (.getfield 81, 3) := by decide +kernel
theorem dX2_leggerLine_75 : decode cX2_leggerLine 75 = .ok (.iload_n 1, 1) := by decide +kernel
theorem dX2_leggerLine_76 : decode cX2_leggerLine 76 = .ok (.iconst 1, 1) := by decide +kernel
theorem dX2_leggerLine_77 : decode cX2_leggerLine 77 = .ok (.iadd, 1) := by decide +kernel
theorem dX2_leggerLine_78 : decode cX2_leggerLine 78 = .ok (.invokestatic 84, 3) := by decide +kernel
theorem dX2_leggerLine_81 : decode cX2_leggerLine 81 = .ok (.invokestatic 139, 3) := by decide +kernel
theorem dX2_leggerLine_84 : decode cX2_leggerLine 84 = .ok (.aload_n 0, 1) := by decide +kernel
theorem dX2_leggerLine_85 : decode cX2_leggerLine 85 = .ok (.getfield 34, 3) := by decide +kernel
theorem dX2_leggerLine_88 : decode cX2_leggerLine 88 = .ok (.aload_n 0, 1) := by decide +kernel
theorem dX2_leggerLine_89 : decode cX2_leggerLine 89 = .ok (.iload_n 1, 1) := by decide +kernel
theorem dX2_leggerLine_90 : decode cX2_leggerLine 90 = .ok (.iconst 3, 1) := by decide +kernel
theorem dX2_leggerLine_91 : decode cX2_leggerLine 91 = .ok (.iadd, 1) := by decide +kernel
theorem dX2_leggerLine_92 : decode cX2_leggerLine 92 = .ok (.invokevirtual 95, 3) := by decide +kernel
theorem dX2_leggerLine_95 : decode cX2_leggerLine 95 = .ok (.aload_n 0, 1) := by decide +kernel
theorem dX2_leggerLine_96 : decode cX2_leggerLine 96 = .ok (.iload_n 1, 1) := by decide +kernel
theorem dX2_leggerLine_97 : decode cX2_leggerLine 97 = .ok (.iconst 5, 1) := by decide +kernel
theorem dX2_leggerLine_98 : decode cX2_leggerLine 98 = .ok (.iadd, 1) := by decide +kernel
theorem dX2_leggerLine_99 : decode cX2_leggerLine 99 = .ok (.invokevirtual 95, 3) := by decide +kernel
theorem dX2_leggerLine_102 : decode cX2_leggerLine 102 = .ok (.invokevirtual 164, 3) := by decide +kernel
theorem dX2_leggerLine_105 : decode cX2_leggerLine 105 = .ok (.iconst 1, 1) := by decide +kernel
theorem dX2_leggerLine_106 : decode cX2_leggerLine 106 = .ok (.ireturn, 1) := by decide +kernel
theorem dX2_boatLine_0 : decode cX2_boatLine 0 = .ok (.aload_n 0, 1) := by decide +kernel
theorem dX2_boatLine_1 : decode cX2_boatLine 1 = .ok (.getstatic 167, 3) := by decide +kernel
theorem dX2_boatLine_4 : decode cX2_boatLine 4 = .ok (.invokevirtual 124, 3) := by decide +kernel
theorem dX2_boatLine_7 : decode cX2_boatLine 7 = .ok (.ifCond .ne 5, 3) := by decide +kernel
theorem dX2_boatLine_10 : decode cX2_boatLine 10 = .ok (.iconst 0, 1) := by decide +kernel
theorem dX2_boatLine_11 : decode cX2_boatLine 11 = .ok (.ireturn, 1) := by decide +kernel
theorem dX2_boatLine_12 : decode cX2_boatLine 12 = .ok (.aload_n 0, 1) := by decide +kernel
theorem dX2_boatLine_13 : decode cX2_boatLine 13 = .ok (.aload_n 0, 1) := by decide +kernel
theorem dX2_boatLine_14 : decode cX2_boatLine 14 = .ok (.getfield 28, 3) := by decide +kernel
theorem dX2_boatLine_17 : decode cX2_boatLine 17 = .ok (.aload_n 0, 1) := by decide +kernel
theorem dX2_boatLine_18 : decode cX2_boatLine 18 = .ok (.getfield 34, 3) := by decide +kernel
theorem dX2_boatLine_21 : decode cX2_boatLine 21 = .ok (.getfield 170, 3) := by decide +kernel
theorem dX2_boatLine_24 : decode cX2_boatLine 24 = .ok (.iload_n 1, 1) := by decide +kernel
theorem dX2_boatLine_25 : decode cX2_boatLine 25 = .ok (.iconst 1, 1) := by decide +kernel
theorem dX2_boatLine_26 : decode cX2_boatLine 26 = .ok (.iadd, 1) := by decide +kernel
theorem dX2_boatLine_27 : decode cX2_boatLine 27 = .ok (.invokevirtual 131, 3) := by decide +kernel
theorem dX2_boatLine_30 : decode cX2_boatLine 30 = .ok (.aload_n 0, 1) := by decide +kernel
theorem dX2_boatLine_31 : decode cX2_boatLine 31 = .ok (.iload_n 1, 1) := by decide +kernel
theorem dX2_boatLine_32 : decode cX2_boatLine 32 = .ok (.iconst 3, 1) := by decide +kernel
theorem dX2_boatLine_33 : decode cX2_boatLine 33 = .ok (.iadd, 1) := by decide +kernel
theorem dX2_boatLine_34 : decode cX2_boatLine 34 = .ok (.iconst 1, 1) := by decide +kernel
theorem dX2_boatLine_35 : decode cX2_boatLine 35 = .ok (.bipush 60, 2) := by decide +kernel
theorem dX2_boatLine_37 : decode cX2_boatLine 37 = .ok (.invokevirtual 135, 3) := by decide +kernel
theorem dX2_boatLine_40 : decode cX2_boatLine 40 = .ok (.aload_n 0, 1) := by decide +kernel
theorem dX2_boatLine_41 : decode cX2_boatLine 41 = .ok (.iload_n 1, 1) := by decide +kernel
theorem dX2_boatLine_42 : decode cX2_boatLine 42 = .ok (.bipush 7, 2) := by decide +kernel
theorem dX2_boatLine_44 : decode cX2_boatLine 44 = .ok (.iadd, 1) := by decide +kernel
theorem dX2_boatLine_45 : decode cX2_boatLine 45 = .ok (.iconst 0, 1) := by decide +kernel
theorem dX2_boatLine_46 : decode cX2_boatLine 46 = .ok (.sipush 999, 3) := by decide +kernel
theorem dX2_boatLine_49 : decode cX2_boatLine 49 = .ok (.invokevirtual 135, 3) := by decide +kernel
theorem dX2_boatLine_52 : decode cX2_boatLine 52 = .ok (.aload_n 0, 1) := by decide +kernel
theorem dX2_boatLine_53 : decode cX2_boatLine 53 = .ok (.aload_n 0, 1) := by decide +kernel
theorem dX2_boatLine_54 : decode cX2_boatLine 54 = .ok (.getfield 25, 3) := by decide +kernel
theorem dX2_boatLine_57 : decode cX2_boatLine 57 = .ok (.aload_n 0, 1) := by decide +kernel
theorem dX2_boatLine_58 : decode cX2_boatLine 58 = .ok (.getfield 34, 3) := by decide +kernel
theorem dX2_boatLine_61 : decode cX2_boatLine 61 = .ok (.getfield 161, 3) := by decide +kernel
theorem dX2_boatLine_64 : decode cX2_boatLine 64 = .ok (.iload_n 1, 1) := by decide +kernel
theorem dX2_boatLine_65 : decode cX2_boatLine 65 = .ok (.bipush 9, 2) := by decide +kernel
theorem dX2_boatLine_67 : decode cX2_boatLine 67 = .ok (.iadd, 1) := by decide +kernel
theorem dX2_boatLine_68 : decode cX2_boatLine 68 = .ok (.invokevirtual 173, 3) := by decide +kernel
theorem dX2_boatLine_71 : decode cX2_boatLine 71 = .ok (.istore_n 2, 1) := by decide +kernel
theorem dX2_boatLine_72 : decode cX2_boatLine 72 = .ok (.aload_n 0, 1) := by decide +kernel
theorem dX2_boatLine_73 : decode cX2_boatLine 73 = .ok (.aload_n 0, 1) := by decide +kernel
theorem dX2_boatLine_74 : decode cX2_boatLine 74 = .ok (.getfield 25, 3) := by decide +kernel
theorem dX2_boatLine_77 : decode cX2_boatLine 77 = .ok (.aload_n 0, 1) := by decide +kernel
theorem dX2_boatLine_78 : decode cX2_boatLine 78 = .ok (.getfield 34, 3) := by decide +kernel
theorem dX2_boatLine_81 : decode cX2_boatLine 81 = .ok (.getfield 161, 3) := by decide +kernel
theorem dX2_boatLine_84 : decode cX2_boatLine 84 = .ok (.iload_n 1, 1) := by decide +kernel
theorem dX2_boatLine_85 : decode cX2_boatLine 85 = .ok (.bipush 11, 2) := by decide +kernel
theorem dX2_boatLine_87 : decode cX2_boatLine 87 = .ok (.iadd, 1) := by decide +kernel
theorem dX2_boatLine_88 : decode cX2_boatLine 88 = .ok (.invokevirtual 173, 3) := by decide +kernel
theorem dX2_boatLine_91 : decode cX2_boatLine 91 = .ok (.istore_n 3, 1) := by decide +kernel
theorem dX2_boatLine_92 : decode cX2_boatLine 92 = .ok (.iload_n 3, 1) := by decide +kernel
theorem dX2_boatLine_93 : decode cX2_boatLine 93 = .ok (.iload_n 2, 1) := by decide +kernel
theorem dX2_boatLine_94 : decode cX2_boatLine 94 = .ok (.if_icmp .ne 12, 3) := by decide +kernel
theorem dX2_boatLine_97 : decode cX2_boatLine 97 = .ok (.aload_n 0, 1) := by decide +kernel
theorem dX2_boatLine_98 : decode cX2_boatLine 98 = .ok (.iconst 5, 1) := by decide +kernel
theorem dX2_boatLine_99 : decode cX2_boatLine 99 = .ok (.iload_n 1, 1) := by decide +kernel
theorem dX2_boatLine_100 : decode cX2_boatLine 100 = .ok (.bipush 11, 2) := by decide +kernel
theorem dX2_boatLine_102 : decode cX2_boatLine 102 = .ok (.iadd, 1) := by decide +kernel
theorem dX2_boatLine_103 : decode cX2_boatLine 103 = .ok (.invokevirtual 91, 3) := by decide +kernel
theorem dX2_boatLine_106 : decode cX2_boatLine 106 = .ok (.aload_n 0, 1) := by decide +kernel
theorem dX2_boatLine_107 : decode cX2_boatLine 107 = .ok (.getfield 42, 3) := by decide +kernel
theorem dX2_boatLine_110 : decode cX2_boatLine 110 = .ok (.ifCond .ne 61, 3) := by decide +kernel
theorem dX2_boatLine_113 : decode cX2_boatLine 113 = .ok (.aload_n 0, 1) := by decide +kernel
theorem dX2_boatLine_114 : decode cX2_boatLine 114 = .ok (.getfield 28, 3) := by decide +kernel
theorem dX2_boatLine_117 : decode cX2_boatLine 117 = .ok (.aload_n 0, 1) := by decide +kernel
theorem dX2_boatLine_118 : decode cX2_boatLine 118 = .ok (.getfield 34, 3) := by decide +kernel
theorem dX2_boatLine_121 : decode cX2_boatLine 121 = .ok (.getfield 170, 3) := by decide +kernel
theorem dX2_boatLine_124 : decode cX2_boatLine 124 = .ok (.aload_n 0, 1) := by decide +kernel
theorem dX2_boatLine_125 : decode cX2_boatLine 125 = .ok (.getfield 12, 3) := by decide +kernel
theorem dX2_boatLine_128 : decode cX2_boatLine 128 = .ok (.getfield 81, 3) := by decide +kernel
theorem dX2_boatLine_131 : decode cX2_boatLine 131 = .ok (.iload_n 1, 1) := by decide +kernel
theorem dX2_boatLine_132 : decode cX2_boatLine 132 = .ok (.iconst 1, 1) := by decide +kernel
theorem dX2_boatLine_133 : decode cX2_boatLine 133 = .ok (.iadd, 1) := by decide +kernel
theorem dX2_boatLine_134 : decode cX2_boatLine 134 = .ok (.invokestatic 84, 3) := by decide +kernel
theorem dX2_boatLine_137 : decode cX2_boatLine 137 = .ok (.invokestatic 139, 3) := by decide +kernel
theorem dX2_boatLine_140 : decode cX2_boatLine 140 = .ok (.aload_n 0, 1) := by decide +kernel
theorem dX2_boatLine_141 : decode cX2_boatLine 141 = .ok (.getfield 34, 3) := by decide +kernel
theorem dX2_boatLine_144 : decode cX2_boatLine 144 = .ok (.aload_n 0, 1) := by decide +kernel
theorem dX2_boatLine_145 : decode cX2_boatLine 145 = .ok (.iload_n 1, 1) := by decide +kernel
theorem dX2_boatLine_146 : decode cX2_boatLine 146 = .ok (.iconst 3, 1) := by decide +kernel
theorem dX2_boatLine_147 : decode cX2_boatLine 147 = .ok (.iadd, 1) := by decide +kernel
theorem dX2_boatLine_148 : decode cX2_boatLine 148 = .ok (.invokevirtual 95, 3) := by decide +kernel
theorem dX2_boatLine_151 : decode cX2_boatLine 151 = .ok (.aload_n 0, 1) := by decide +kernel
theorem dX2_boatLine_152 : decode cX2_boatLine 152 = .ok (.iload_n 1, 1) := by decide +kernel
theorem dX2_boatLine_153 : decode cX2_boatLine 153 = .ok (.iconst 5, 1) := by decide +kernel
theorem dX2_boatLine_154 : decode cX2_boatLine 154 = .ok (.iadd, 1) := by decide +kernel
theorem dX2_boatLine_155 : decode cX2_boatLine 155 = .ok (.invokevirtual 95, 3) := by decide +kernel
theorem dX2_boatLine_158 : decode cX2_boatLine 158 = .ok (.aload_n 0, 1) := by decide +kernel
theorem dX2_boatLine_159 : decode cX2_boatLine 159 = .ok (.iload_n 1, 1) := by decide +kernel
theorem dX2_boatLine_160 : decode cX2_boatLine 160 = .ok (.bipush 7, 2) := by decide +kernel
theorem dX2_boatLine_162 : decode cX2_boatLine 162 = .ok (.iadd, 1) := by decide +kernel
theorem dX2_boatLine_163 : decode cX2_boatLine 163 = .ok (.invokevirtual 95, 3) := by decide +kernel
theorem dX2_boatLine_166 : decode cX2_boatLine 166 = .ok (.iload_n 2, 1) := by decide +kernel
theorem dX2_boatLine_167 : decode cX2_boatLine 167 = .ok (.iload_n 3, 1) := by decide +kernel
theorem dX2_boatLine_168 : decode cX2_boatLine 168 = .ok (.invokevirtual 177, 3) := by decide +kernel
theorem dX2_boatLine_171 : decode cX2_boatLine 171 = .ok (.iconst 1, 1) := by decide +kernel
theorem dX2_boatLine_172 : decode cX2_boatLine 172 = .ok (.ireturn, 1) := by decide +kernel
theorem dX2_orderLine_0 : decode cX2_orderLine 0 = .ok (.aload_n 0, 1) := by decide +kernel
theorem dX2_orderLine_1 : decode cX2_orderLine 1 = .ok (.getfield 38, 3) := by decide +kernel
theorem dX2_orderLine_4 : decode cX2_orderLine 4 = .ok (.istore_n 3, 1) := by decide +kernel
theorem dX2_orderLine_5 : decode cX2_orderLine 5 = .ok (.aload_n 0, 1) := by decide +kernel
theorem dX2_orderLine_6 : decode cX2_orderLine 6 = .ok (.getfield 34, 3) := by decide +kernel
theorem dX2_orderLine_9 : decode cX2_orderLine 9 = .ok (.getfield 181, 3) := by decide +kernel
theorem dX2_orderLine_12 : decode cX2_orderLine 12 = .ok (.getfield 185, 3) := by decide +kernel
theorem dX2_orderLine_15 : decode cX2_orderLine 15 = .ok (.bipush 16, 2) := by decide +kernel
theorem dX2_orderLine_17 : decode cX2_orderLine 17 = .ok (.if_icmp .lt 9, 3) := by decide +kernel
theorem dX2_orderLine_20 : decode cX2_orderLine 20 = .ok (.aload_n 0, 1) := by decide +kernel
theorem dX2_orderLine_21 : decode cX2_orderLine 21 = .ok (.iconst 4, 1) := by decide +kernel
theorem dX2_orderLine_22 : decode cX2_orderLine 22 = .ok (.iload_n 3, 1) := by decide +kernel
theorem dX2_orderLine_23 : decode cX2_orderLine 23 = .ok (.invokevirtual 91, 3) := by decide +kernel
theorem dX2_orderLine_26 : decode cX2_orderLine 26 = .ok (.aload_n 0, 1) := by decide +kernel
theorem dX2_orderLine_27 : decode cX2_orderLine 27 = .ok (.aload_n 2, 1) := by decide +kernel
theorem dX2_orderLine_28 : decode cX2_orderLine 28 = .ok (.invokevirtual 124, 3) := by decide +kernel
theorem dX2_orderLine_31 : decode cX2_orderLine 31 = .ok (.ifCond .ne 5, 3) := by decide +kernel
theorem dX2_orderLine_34 : decode cX2_orderLine 34 = .ok (.iconst 0, 1) := by decide +kernel
theorem dX2_orderLine_35 : decode cX2_orderLine 35 = .ok (.ireturn, 1) := by decide +kernel
theorem dX2_orderLine_36 : decode cX2_orderLine 36 = .ok (.iload_n 1, 1) := by decide +kernel
theorem dX2_orderLine_37 : decode cX2_orderLine 37 = .ok (.bipush 48, 2) := by decide +kernel
theorem dX2_orderLine_39 : decode cX2_orderLine 39 = .ok (.if_icmp .ne 13, 3) := by decide +kernel
theorem dX2_orderLine_42 : decode cX2_orderLine 42 = .ok (.aload_n 0, 1) := by decide +kernel
theorem dX2_orderLine_43 : decode cX2_orderLine 43 = .ok (.iload_n 3, 1) := by decide +kernel
theorem dX2_orderLine_44 : decode cX2_orderLine 44 = .ok (.iconst 1, 1) := by decide +kernel
theorem dX2_orderLine_45 : decode cX2_orderLine 45 = .ok (.iadd, 1) := by decide +kernel
theorem dX2_orderLine_46 : decode cX2_orderLine 46 = .ok (.invokevirtual 95, 3) := by decide +kernel
theorem dX2_orderLine_49 : decode cX2_orderLine 49 = .ok (.goto 21, 3) := by decide +kernel
theorem dX2_orderLine_52 : decode cX2_orderLine 52 = .ok (.aload_n 0, 1) := by decide +kernel
theorem dX2_orderLine_53 : decode cX2_orderLine 53 = .ok (.aload_n 0, 1) := by decide +kernel
theorem dX2_orderLine_54 : decode cX2_orderLine 54 = .ok (.getfield 25, 3) := by decide +kernel
theorem dX2_orderLine_57 : decode cX2_orderLine 57 = .ok (.aload_n 0, 1) := by decide +kernel
theorem dX2_orderLine_58 : decode cX2_orderLine 58 = .ok (.getfield 34, 3) := by decide +kernel
theorem dX2_orderLine_61 : decode cX2_orderLine 61 = .ok (.getfield 161, 3) := by decide +kernel
theorem dX2_orderLine_64 : decode cX2_orderLine 64 = .ok (.iload_n 3, 1) := by decide +kernel
theorem dX2_orderLine_65 : decode cX2_orderLine 65 = .ok (.iconst 1, 1) := by decide +kernel
theorem dX2_orderLine_66 : decode cX2_orderLine 66 = .ok (.iadd, 1) := by decide +kernel
theorem dX2_orderLine_67 : decode cX2_orderLine 67 = .ok (.invokevirtual 173, 3) := by decide +kernel
theorem dX2_orderLine_70 : decode cX2_orderLine 70 = .ok (.istore 4, 2) := by decide +kernel
theorem dX2_orderLine_72 : decode cX2_orderLine 72 = .ok (.aload_n 0, 1) := by decide +kernel
theorem dX2_orderLine_73 : decode cX2_orderLine 73 = .ok (.getfield 34, 3) := by decide +kernel
theorem dX2_orderLine_76 : decode cX2_orderLine 76 = .ok (.getfield 181, 3) := by decide +kernel
theorem dX2_orderLine_79 : decode cX2_orderLine 79 = .ok (.getfield 190, 3) := by decide +kernel
theorem dX2_orderLine_82 : decode cX2_orderLine 82 = .ok (.istore 5, 2) := by decide +kernel
theorem dX2_orderLine_84 : decode cX2_orderLine 84 = .ok (.aload_n 0, 1) := by decide +kernel
theorem dX2_orderLine_85 : decode cX2_orderLine 85 = .ok (.iconst 0, 1) := by decide +kernel
theorem dX2_orderLine_86 : decode cX2_orderLine 86 = .ok (.invokevirtual 193, 3) := by decide +kernel
theorem dX2_orderLine_89 : decode cX2_orderLine 89 = .ok (.ifCond .ne 5, 3) := by decide +kernel
theorem dX2_orderLine_92 : decode cX2_orderLine 92 = .ok (.iconst 0, 1) := by decide +kernel
theorem dX2_orderLine_93 : decode cX2_orderLine 93 = .ok (.ireturn, 1) := by decide +kernel
theorem dX2_orderLine_94 : decode cX2_orderLine 94 = .ok (.aload_n 0, 1) := by decide +kernel
theorem dX2_orderLine_95 : decode cX2_orderLine 95 = .ok (.getfield 42, 3) := by decide +kernel
theorem dX2_orderLine_98 : decode cX2_orderLine 98 = .ok (.ifCond .ne 18, 3) := by decide +kernel
theorem dX2_orderLine_101 : decode cX2_orderLine 101 = .ok (.aload_n 0, 1) := by decide +kernel
theorem dX2_orderLine_102 : decode cX2_orderLine 102 = .ok (.getfield 34, 3) := by decide +kernel
theorem dX2_orderLine_105 : decode cX2_orderLine 105 = .ok (.getfield 181, 3) := by decide +kernel
theorem dX2_orderLine_108 : decode cX2_orderLine 108 = .ok (.iload_n 1, 1) := by decide +kernel
theorem dX2_orderLine_109 : decode cX2_orderLine 109 = .ok (.iload 4, 2) := by decide +kernel
theorem dX2_orderLine_111 : decode cX2_orderLine 111 = .ok (.iload 5, 2) := by decide +kernel
theorem dX2_orderLine_113 : decode cX2_orderLine 113 = .ok (.invokevirtual 196, 3) := by decide +kernel
theorem dX2_orderLine_116 : decode cX2_orderLine 116 = .ok (.iconst 1, 1) := by decide +kernel
theorem dX2_orderLine_117 : decode cX2_orderLine 117 = .ok (.ireturn, 1) := by decide +kernel
theorem dX2_line_0 : decode cX2_line 0 = .ok (.aload_n 0, 1) := by decide +kernel
theorem dX2_line_1 : decode cX2_line 1 = .ok (.invokevirtual 58, 3) := by decide +kernel
theorem dX2_line_4 : decode cX2_line 4 = .ok (.tableswitch 136 34 49 #[80, 136, 136, 89, 136, 136, 98, 136, 136, 107, 136, 136, 136, 136, 116, 126], 80) := by decide +kernel
theorem dX2_line_84 : decode cX2_line 84 = .ok (.aload_n 0, 1) := by decide +kernel
theorem dX2_line_85 : decode cX2_line 85 = .ok (.aload_n 0, 1) := by decide +kernel
theorem dX2_line_86 : decode cX2_line 86 = .ok (.getfield 38, 3) := by decide +kernel
theorem dX2_line_89 : decode cX2_line 89 = .ok (.invokevirtual 99, 3) := by decide +kernel
theorem dX2_line_92 : decode cX2_line 92 = .ok (.ireturn, 1) := by decide +kernel
theorem dX2_line_93 : decode cX2_line 93 = .ok (.aload_n 0, 1) := by decide +kernel
theorem dX2_line_94 : decode cX2_line 94 = .ok (.aload_n 0, 1) := by decide +kernel
theorem dX2_line_95 : decode cX2_line 95 = .ok (.getfield 38, 3) := by decide +kernel
theorem dX2_line_98 : decode cX2_line 98 = .ok (.invokevirtual 102, 3) := by decide +kernel
theorem dX2_line_101 : decode cX2_line 101 = .ok (.ireturn, 1) := by decide +kernel
theorem dX2_line_102 : decode cX2_line 102 = .ok (.aload_n 0, 1) := by decide +kernel
theorem dX2_line_103 : decode cX2_line 103 = .ok (.aload_n 0, 1) := by decide +kernel
theorem dX2_line_104 : decode cX2_line 104 = .ok (.getfield 38, 3) := by decide +kernel
theorem dX2_line_107 : decode cX2_line 107 = .ok (.invokevirtual 105, 3) := by decide +kernel
theorem dX2_line_110 : decode cX2_line 110 = .ok (.ireturn, 1) := by decide +kernel
theorem dX2_line_111 : decode cX2_line 111 = .ok (.aload_n 0, 1) := by decide +kernel
theorem dX2_line_112 : decode cX2_line 112 = .ok (.aload_n 0, 1) := by decide +kernel
theorem dX2_line_113 : decode cX2_line 113 = .ok (.getfield 38, 3) := by decide +kernel
theorem dX2_line_116 : decode cX2_line 116 = .ok (.invokevirtual 108, 3) := by decide +kernel
theorem dX2_line_119 : decode cX2_line 119 = .ok (.ireturn, 1) := by decide +kernel
theorem dX2_line_120 : decode cX2_line 120 = .ok (.aload_n 0, 1) := by decide +kernel
theorem dX2_line_121 : decode cX2_line 121 = .ok (.bipush 48, 2) := by decide +kernel
theorem dX2_line_123 : decode cX2_line 123 = .ok (.getstatic 111, 3) := by decide +kernel
theorem dX2_line_126 : decode cX2_line 126 = .ok (.invokevirtual 114, 3) := by decide +kernel
theorem dX2_line_129 : decode cX2_line 129 = .ok (.ireturn, 1) := by decide +kernel
theorem dX2_line_130 : decode cX2_line 130 = .ok (.aload_n 0, 1) := by decide +kernel
theorem dX2_line_131 : decode cX2_line 131 = .ok (.bipush 49, 2) := by decide +kernel
theorem dX2_line_133 : decode cX2_line 133 = .ok (.getstatic 118, 3) := by decide +kernel
theorem dX2_line_136 : decode cX2_line 136 = .ok (.invokevirtual 114, 3) := by decide +kernel
theorem dX2_line_139 : decode cX2_line 139 = .ok (.ireturn, 1) := by decide +kernel
theorem dX2_line_140 : decode cX2_line 140 = .ok (.iconst 0, 1) := by decide +kernel
theorem dX2_line_141 : decode cX2_line 141 = .ok (.ireturn, 1) := by decide +kernel
theorem mi_X2_takeAll : MInfo yX2_takeAll cX2_takeAll 3 (some .boolean) 1 := ⟨wq_1017, wq_79, by decide, ⟨by decide +kernel, by decide +kernel, by decide +kernel⟩, by decide +kernel⟩
theorem mi_X2_boreLine : MInfo yX2_boreLine cX2_boreLine 2 (some .boolean) 1 := ⟨wq_1011, wq_79, by decide, ⟨by decide +kernel, by decide +kernel, by decide +kernel⟩, by decide +kernel⟩
theorem mi_X2_shaftLine : MInfo yX2_shaftLine cX2_shaftLine 2 (some .boolean) 1 := ⟨wq_1051, wq_79, by decide, ⟨by decide +kernel, by decide +kernel, by decide +kernel⟩, by decide +kernel⟩
theorem mi_X2_leggerLine : MInfo yX2_leggerLine cX2_leggerLine 2 (some .boolean) 1 := ⟨wq_1061, wq_79, by decide, ⟨by decide +kernel, by decide +kernel, by decide +kernel⟩, by decide +kernel⟩
theorem mi_X2_boatLine : MInfo yX2_boatLine cX2_boatLine 4 (some .boolean) 1 := ⟨wq_1071, wq_79, by decide, ⟨by decide +kernel, by decide +kernel, by decide +kernel⟩, by decide +kernel⟩
theorem mi_X2_orderLine : MInfo yX2_orderLine cX2_orderLine 6 (some .boolean) 2 := ⟨wq_1087, wq_79, by decide, ⟨by decide +kernel, by decide +kernel, by decide +kernel⟩, by decide +kernel⟩
theorem mi_X2_line : MInfo yX2_line cX2_line 1 (some .boolean) 0 := ⟨wq_1007, wq_79, by decide, ⟨by decide +kernel, by decide +kernel, by decide +kernel⟩, by decide +kernel⟩
def wl_X2_takeAll_BORE_LINE_2 (K : Int32 → M2 → L2 → Prop) : Nat → M2 → L2 → Int32 → Prop
  | 0, _, _, _ => False
  | n + 1, F, L, v2 => (((Int32.ofNat 6) ≤ v2 → K 1 F L) ∧ (¬ (Int32.ofNat 6) ≤ v2 → (inb v2 6 ∧ wp_X2_take F L (kBORE_LINE  v2.toInt.toNat) (fun r_12 F_12 L_12 => ((¬ r_12 = 0 → (∀ v2_20 : Int32, v2_20 = v2 + 1 → wl_X2_takeAll_BORE_LINE_2 K n F_12 L_12 v2_20)) ∧ (r_12 = 0 → K 0 F_12 L_12))))))
def wp_X2_takeAll_BORE_LINE (F : M2) (L : L2) (K : Int32 → M2 → L2 → Prop) : Prop := wl_X2_takeAll_BORE_LINE_2 K fK F L 0
set_option maxRecDepth 100000 in
set_option maxHeartbeats 4000000 in
theorem c_X2_takeAll_BORE_LINE (l : Launch) (D : va_G) (Z : Nat → ClassId) (a q rx : Nat → Nat) (F : M2) (L : L2) (sz : Nat) (K : Int32 → M2 → L2 → Prop) (hm : wp_X2_takeAll_BORE_LINE F L K) : Met l yX2_takeAll (wy yX2_takeAll cX2_takeAll 3 (some .boolean)) (rk 2 0 0) (preR vwCl D Z rx (RK Z a q rx F L) sz [.ref (a 60), .ref (rx 200)]) (poI vwCl D Z (fun u : M2 × L2 => RK Z a q rx u.1 u.2) (F, L) sz (fun (r : Int32) (u : M2 × L2) => K r u.1 u.2)) 0 0 (va_A (RK Z a q rx F L) sz) := by
  refine rw_ofR (ty := .boolean) (wsF := (fun u : M2 × L2 => RK Z a q rx u.1 u.2)) (u0 := (F, L)) (by decide +kernel) (Nat.le_of_ble_eq_true rfl) rfl ?_
  intro p e s m args below meth c Q A hC hN hR hsz hT hK hret ls hl
  have hx := hC.1
  have hb := hC.2.1
  have hl : lv_has ls 3 [(0, .ref (a 60)), (1, .ref (rx 200))] := hl
  have hT : TS vwCl D (RK Z a q rx F L) A s.heap s.heap [] := hT
  have L2 : ∀ (n2 : Nat), ∀ (F : M2) (L : L2) (v2 : Int32) (H : Heap) (locs : List Loc) (ls : Array Slot), wl_X2_takeAll_BORE_LINE_2 K n2 F L v2 → TS vwCl D (RK Z a q rx F L) A s.heap H locs → lv_has ls 3 [(0, .ref (a 60)), (1, .ref (rx 200)), (2, .int v2)] → W p l e (rk 2 0 0) s m args below meth c H locs 0 0 Q (F0 m 2 ls []) := by
    intro n2
    induction n2 with
    | zero =>
      intro F L v2 H locs ls hm hT hl
      exact False.elim hm
    | succ n2 ih2 =>
      intro F L v2 H locs ls hm hT hl
      refine lv_iload_n hx hb dX2_takeAll_2 rfl (lv_at hl 2 rfl) ?_
      refine lv_aload_n hx hb dX2_takeAll_3 rfl (lv_at hl 1 rfl) ?_
      refine va_tlen hx hb hR.TBORE_LINE hT.2.2.1 rfl dX2_takeAll_4 ?_
      refine lv_icmp_ge (tgt := 26) hx hb dX2_takeAll_5 (by decide) (fun c_5 => ?_) (fun c_5 => ?_)
      · have hm := hm.1 c_5
        refine lv_iconst (v := 1) hx hb dX2_takeAll_26 (by decide) ?_
        exact hret 27 _ _ _ _ (F, L) hm hT rfl dX2_takeAll_27
      · have hm := hm.2 c_5
        refine lv_aload_n hx hb dX2_takeAll_8 rfl (lv_at hl 0 rfl) ?_
        refine lv_aload_n hx hb dX2_takeAll_9 rfl (lv_at hl 1 rfl) ?_
        refine lv_iload_n hx hb dX2_takeAll_10 rfl (lv_at hl 2 rfl) ?_
        refine va_ti hx hb hR.TBORE_LINE hT.2.2.1 (inb_in.mpr hm.1) rfl dX2_takeAll_11 ?_
        have hm := hm.2
        refine kx_X2_take hC hN hK hT (cx_KWRK Z a q rx F L) rfl hm wq_1018 (by decide) hl.1 (Nat.le_of_ble_eq_true rfl) ⟨Nat.le_refl _, Nat.le_refl _⟩ dX2_takeAll_12 (fun r_12 F_12 L_12 H locs hm hT => ?_)
        have hT : TS vwCl D (RK Z a q rx F_12 L_12) A s.heap H locs := hT
        refine lv_if_ne (tgt := 20) hx hb dX2_takeAll_15 (by decide) (fun c_15 => ?_) (fun c_15 => ?_)
        · have hm := hm.1 c_15
          obtain ⟨v2_20, ev2_20⟩ : ∃ y : Int32, y = v2 + 1 := ⟨_, rfl⟩
          have hm := hm v2_20 ev2_20
          refine lv_iinc (v := v2_20) (lv' := [(2, .int v2_20), (0, .ref (a 60)), (1, .ref (rx 200))]) hx hb dX2_takeAll_20 hl (k := 2) rfl (by rw [ev2_20]; rfl) (by decide) rfl (fun ls hl => ?_)
          refine lv_goto (tgt := 2) hx hb dX2_takeAll_23 (by decide) ?_
          exact ih2 _ _ _ _ _ _ hm hT (lv_sub hl [1, 2, 0] rfl)
        · have hm := hm.2 c_15
          refine lv_iconst (v := 0) hx hb dX2_takeAll_18 (by decide) ?_
          exact hret 19 _ _ _ _ (F_12, L_12) hm hT rfl dX2_takeAll_19
  refine lv_iconst (v := 0) hx hb dX2_takeAll_0 (by decide) ?_
  refine lv_istore_n (lv' := [(2, .int 0), (0, .ref (a 60)), (1, .ref (rx 200))]) hx hb dX2_takeAll_1 rfl hl (by decide) rfl (fun ls hl => ?_)
  exact L2 _ _ _ _ _ _ _ hm hT (lv_sub hl [1, 2, 0] rfl)
section KX2_takeAll_BORE_LINE
variable {p : Program} {l : Launch} {e : Env} {s : State} {m : MethodId} {args : Array Value} {below : List Frame} {meth : Method} {c : Code} {H H0 : Heap} {locs : List Loc} {cells slots : Nat} {Q : State → Prop} {R : Room} {rn mcR msR : Nat}
variable {pc : Nat} {ls : Array Slot} {rest : List Value} {A : Nat → Prop} {D : va_G}
variable {cc : ByteArray} {nL index : Nat} {own host : String}
theorem k_X2_takeAll_BORE_LINE {Z : Nat → ClassId} {a q rx : Nat → Nat} {F : M2} {L : L2} {K : Int32 → M2 → L2 → Prop} (hC : CallFix p m c cc nL s args lw_g own) (hN : NW s) (hR : RD rx (va_A (RK Z a q rx F L) H.size) s H) (hK : va_K D vwCl (tysG Z) s) (hT : TS vwCl D (RK Z a q rx F L) A H0 H locs) (hm : wp_X2_takeAll_BORE_LINE F L K) (hl : Cond.methodLink own index yX2_takeAll ∈ lw_g) (hlt : 2 < rn) (hsize : ls.size = nL) (hW : (rest.map fun v => v.category).sum ≤ 8) (hf : cells + 0 ≤ mcR ∧ slots + 0 ≤ msR) (hdg : decode cc pc = .ok (.invokevirtual index, 3)) (kk : ∀ (r : Int32) (F1 : M2) (L1 : L2) (H1 : Heap) (locs1 : List Loc), K r F1 L1 → TS vwCl D (RK Z a q rx F1 L1) A H0 H1 locs1 → W p l e (rk rn mcR msR) s m args below meth c H1 locs1 cells slots Q (F0 m (pc + 3) ls (.int r :: rest))) : W p l e (rk rn mcR msR) s m args below meth c H locs cells slots Q (F0 m pc ls (.ref (rx 200) :: .ref (a 60) :: rest)) :=
  rw_go (wsF := (fun u : M2 × L2 => RK Z a q rx u.1 u.2)) (u0 := (F, L)) (wr := []) (isC := cutRK) (isR := []) (pm := cutRK) (ws' := (fun u : M2 × L2 => RK Z a q rx u.1 u.2)) (runVR (As := [.ref (rx 200)]) hC hN hR (c_X2_takeAll_BORE_LINE l D Z a q rx F L H.size K hm) mi_X2_takeAll hl wq_1016 wq_40 hlt hT.1 hT.D' hK (q0 := 0) rfl rfl rfl hsize rfl hW hdg hf) (cutOkRK Z a q rx F L) hT (fun r u H1 locs1 hk hT1 => kk r u.1 u.2 H1 locs1 hk hT1)
end KX2_takeAll_BORE_LINE
def wl_X2_takeAll_SHAFT_LINE_2 (K : Int32 → M2 → L2 → Prop) : Nat → M2 → L2 → Int32 → Prop
  | 0, _, _, _ => False
  | n + 1, F, L, v2 => (((Int32.ofNat 6) ≤ v2 → K 1 F L) ∧ (¬ (Int32.ofNat 6) ≤ v2 → (inb v2 6 ∧ wp_X2_take F L (kSHAFT_LINE  v2.toInt.toNat) (fun r_12 F_12 L_12 => ((¬ r_12 = 0 → (∀ v2_20 : Int32, v2_20 = v2 + 1 → wl_X2_takeAll_SHAFT_LINE_2 K n F_12 L_12 v2_20)) ∧ (r_12 = 0 → K 0 F_12 L_12))))))
def wp_X2_takeAll_SHAFT_LINE (F : M2) (L : L2) (K : Int32 → M2 → L2 → Prop) : Prop := wl_X2_takeAll_SHAFT_LINE_2 K fK F L 0
set_option maxRecDepth 100000 in
set_option maxHeartbeats 4000000 in
theorem c_X2_takeAll_SHAFT_LINE (l : Launch) (D : va_G) (Z : Nat → ClassId) (a q rx : Nat → Nat) (F : M2) (L : L2) (sz : Nat) (K : Int32 → M2 → L2 → Prop) (hm : wp_X2_takeAll_SHAFT_LINE F L K) : Met l yX2_takeAll (wy yX2_takeAll cX2_takeAll 3 (some .boolean)) (rk 2 0 0) (preR vwCl D Z rx (RK Z a q rx F L) sz [.ref (a 60), .ref (rx 201)]) (poI vwCl D Z (fun u : M2 × L2 => RK Z a q rx u.1 u.2) (F, L) sz (fun (r : Int32) (u : M2 × L2) => K r u.1 u.2)) 0 0 (va_A (RK Z a q rx F L) sz) := by
  refine rw_ofR (ty := .boolean) (wsF := (fun u : M2 × L2 => RK Z a q rx u.1 u.2)) (u0 := (F, L)) (by decide +kernel) (Nat.le_of_ble_eq_true rfl) rfl ?_
  intro p e s m args below meth c Q A hC hN hR hsz hT hK hret ls hl
  have hx := hC.1
  have hb := hC.2.1
  have hl : lv_has ls 3 [(0, .ref (a 60)), (1, .ref (rx 201))] := hl
  have hT : TS vwCl D (RK Z a q rx F L) A s.heap s.heap [] := hT
  have L2 : ∀ (n2 : Nat), ∀ (F : M2) (L : L2) (v2 : Int32) (H : Heap) (locs : List Loc) (ls : Array Slot), wl_X2_takeAll_SHAFT_LINE_2 K n2 F L v2 → TS vwCl D (RK Z a q rx F L) A s.heap H locs → lv_has ls 3 [(0, .ref (a 60)), (1, .ref (rx 201)), (2, .int v2)] → W p l e (rk 2 0 0) s m args below meth c H locs 0 0 Q (F0 m 2 ls []) := by
    intro n2
    induction n2 with
    | zero =>
      intro F L v2 H locs ls hm hT hl
      exact False.elim hm
    | succ n2 ih2 =>
      intro F L v2 H locs ls hm hT hl
      refine lv_iload_n hx hb dX2_takeAll_2 rfl (lv_at hl 2 rfl) ?_
      refine lv_aload_n hx hb dX2_takeAll_3 rfl (lv_at hl 1 rfl) ?_
      refine va_tlen hx hb hR.TSHAFT_LINE hT.2.2.1 rfl dX2_takeAll_4 ?_
      refine lv_icmp_ge (tgt := 26) hx hb dX2_takeAll_5 (by decide) (fun c_5 => ?_) (fun c_5 => ?_)
      · have hm := hm.1 c_5
        refine lv_iconst (v := 1) hx hb dX2_takeAll_26 (by decide) ?_
        exact hret 27 _ _ _ _ (F, L) hm hT rfl dX2_takeAll_27
      · have hm := hm.2 c_5
        refine lv_aload_n hx hb dX2_takeAll_8 rfl (lv_at hl 0 rfl) ?_
        refine lv_aload_n hx hb dX2_takeAll_9 rfl (lv_at hl 1 rfl) ?_
        refine lv_iload_n hx hb dX2_takeAll_10 rfl (lv_at hl 2 rfl) ?_
        refine va_ti hx hb hR.TSHAFT_LINE hT.2.2.1 (inb_in.mpr hm.1) rfl dX2_takeAll_11 ?_
        have hm := hm.2
        refine kx_X2_take hC hN hK hT (cx_KWRK Z a q rx F L) rfl hm wq_1018 (by decide) hl.1 (Nat.le_of_ble_eq_true rfl) ⟨Nat.le_refl _, Nat.le_refl _⟩ dX2_takeAll_12 (fun r_12 F_12 L_12 H locs hm hT => ?_)
        have hT : TS vwCl D (RK Z a q rx F_12 L_12) A s.heap H locs := hT
        refine lv_if_ne (tgt := 20) hx hb dX2_takeAll_15 (by decide) (fun c_15 => ?_) (fun c_15 => ?_)
        · have hm := hm.1 c_15
          obtain ⟨v2_20, ev2_20⟩ : ∃ y : Int32, y = v2 + 1 := ⟨_, rfl⟩
          have hm := hm v2_20 ev2_20
          refine lv_iinc (v := v2_20) (lv' := [(2, .int v2_20), (0, .ref (a 60)), (1, .ref (rx 201))]) hx hb dX2_takeAll_20 hl (k := 2) rfl (by rw [ev2_20]; rfl) (by decide) rfl (fun ls hl => ?_)
          refine lv_goto (tgt := 2) hx hb dX2_takeAll_23 (by decide) ?_
          exact ih2 _ _ _ _ _ _ hm hT (lv_sub hl [1, 2, 0] rfl)
        · have hm := hm.2 c_15
          refine lv_iconst (v := 0) hx hb dX2_takeAll_18 (by decide) ?_
          exact hret 19 _ _ _ _ (F_12, L_12) hm hT rfl dX2_takeAll_19
  refine lv_iconst (v := 0) hx hb dX2_takeAll_0 (by decide) ?_
  refine lv_istore_n (lv' := [(2, .int 0), (0, .ref (a 60)), (1, .ref (rx 201))]) hx hb dX2_takeAll_1 rfl hl (by decide) rfl (fun ls hl => ?_)
  exact L2 _ _ _ _ _ _ _ hm hT (lv_sub hl [1, 2, 0] rfl)
section KX2_takeAll_SHAFT_LINE
variable {p : Program} {l : Launch} {e : Env} {s : State} {m : MethodId} {args : Array Value} {below : List Frame} {meth : Method} {c : Code} {H H0 : Heap} {locs : List Loc} {cells slots : Nat} {Q : State → Prop} {R : Room} {rn mcR msR : Nat}
variable {pc : Nat} {ls : Array Slot} {rest : List Value} {A : Nat → Prop} {D : va_G}
variable {cc : ByteArray} {nL index : Nat} {own host : String}
theorem k_X2_takeAll_SHAFT_LINE {Z : Nat → ClassId} {a q rx : Nat → Nat} {F : M2} {L : L2} {K : Int32 → M2 → L2 → Prop} (hC : CallFix p m c cc nL s args lw_g own) (hN : NW s) (hR : RD rx (va_A (RK Z a q rx F L) H.size) s H) (hK : va_K D vwCl (tysG Z) s) (hT : TS vwCl D (RK Z a q rx F L) A H0 H locs) (hm : wp_X2_takeAll_SHAFT_LINE F L K) (hl : Cond.methodLink own index yX2_takeAll ∈ lw_g) (hlt : 2 < rn) (hsize : ls.size = nL) (hW : (rest.map fun v => v.category).sum ≤ 8) (hf : cells + 0 ≤ mcR ∧ slots + 0 ≤ msR) (hdg : decode cc pc = .ok (.invokevirtual index, 3)) (kk : ∀ (r : Int32) (F1 : M2) (L1 : L2) (H1 : Heap) (locs1 : List Loc), K r F1 L1 → TS vwCl D (RK Z a q rx F1 L1) A H0 H1 locs1 → W p l e (rk rn mcR msR) s m args below meth c H1 locs1 cells slots Q (F0 m (pc + 3) ls (.int r :: rest))) : W p l e (rk rn mcR msR) s m args below meth c H locs cells slots Q (F0 m pc ls (.ref (rx 201) :: .ref (a 60) :: rest)) :=
  rw_go (wsF := (fun u : M2 × L2 => RK Z a q rx u.1 u.2)) (u0 := (F, L)) (wr := []) (isC := cutRK) (isR := []) (pm := cutRK) (ws' := (fun u : M2 × L2 => RK Z a q rx u.1 u.2)) (runVR (As := [.ref (rx 201)]) hC hN hR (c_X2_takeAll_SHAFT_LINE l D Z a q rx F L H.size K hm) mi_X2_takeAll hl wq_1016 wq_40 hlt hT.1 hT.D' hK (q0 := 0) rfl rfl rfl hsize rfl hW hdg hf) (cutOkRK Z a q rx F L) hT (fun r u H1 locs1 hk hT1 => kk r u.1 u.2 H1 locs1 hk hT1)
end KX2_takeAll_SHAFT_LINE
def wl_X2_takeAll_LEGGER_LINE_2 (K : Int32 → M2 → L2 → Prop) : Nat → M2 → L2 → Int32 → Prop
  | 0, _, _, _ => False
  | n + 1, F, L, v2 => (((Int32.ofNat 6) ≤ v2 → K 1 F L) ∧ (¬ (Int32.ofNat 6) ≤ v2 → (inb v2 6 ∧ wp_X2_take F L (kLEGGER_LINE  v2.toInt.toNat) (fun r_12 F_12 L_12 => ((¬ r_12 = 0 → (∀ v2_20 : Int32, v2_20 = v2 + 1 → wl_X2_takeAll_LEGGER_LINE_2 K n F_12 L_12 v2_20)) ∧ (r_12 = 0 → K 0 F_12 L_12))))))
def wp_X2_takeAll_LEGGER_LINE (F : M2) (L : L2) (K : Int32 → M2 → L2 → Prop) : Prop := wl_X2_takeAll_LEGGER_LINE_2 K fK F L 0
set_option maxRecDepth 100000 in
set_option maxHeartbeats 4000000 in
theorem c_X2_takeAll_LEGGER_LINE (l : Launch) (D : va_G) (Z : Nat → ClassId) (a q rx : Nat → Nat) (F : M2) (L : L2) (sz : Nat) (K : Int32 → M2 → L2 → Prop) (hm : wp_X2_takeAll_LEGGER_LINE F L K) : Met l yX2_takeAll (wy yX2_takeAll cX2_takeAll 3 (some .boolean)) (rk 2 0 0) (preR vwCl D Z rx (RK Z a q rx F L) sz [.ref (a 60), .ref (rx 202)]) (poI vwCl D Z (fun u : M2 × L2 => RK Z a q rx u.1 u.2) (F, L) sz (fun (r : Int32) (u : M2 × L2) => K r u.1 u.2)) 0 0 (va_A (RK Z a q rx F L) sz) := by
  refine rw_ofR (ty := .boolean) (wsF := (fun u : M2 × L2 => RK Z a q rx u.1 u.2)) (u0 := (F, L)) (by decide +kernel) (Nat.le_of_ble_eq_true rfl) rfl ?_
  intro p e s m args below meth c Q A hC hN hR hsz hT hK hret ls hl
  have hx := hC.1
  have hb := hC.2.1
  have hl : lv_has ls 3 [(0, .ref (a 60)), (1, .ref (rx 202))] := hl
  have hT : TS vwCl D (RK Z a q rx F L) A s.heap s.heap [] := hT
  have L2 : ∀ (n2 : Nat), ∀ (F : M2) (L : L2) (v2 : Int32) (H : Heap) (locs : List Loc) (ls : Array Slot), wl_X2_takeAll_LEGGER_LINE_2 K n2 F L v2 → TS vwCl D (RK Z a q rx F L) A s.heap H locs → lv_has ls 3 [(0, .ref (a 60)), (1, .ref (rx 202)), (2, .int v2)] → W p l e (rk 2 0 0) s m args below meth c H locs 0 0 Q (F0 m 2 ls []) := by
    intro n2
    induction n2 with
    | zero =>
      intro F L v2 H locs ls hm hT hl
      exact False.elim hm
    | succ n2 ih2 =>
      intro F L v2 H locs ls hm hT hl
      refine lv_iload_n hx hb dX2_takeAll_2 rfl (lv_at hl 2 rfl) ?_
      refine lv_aload_n hx hb dX2_takeAll_3 rfl (lv_at hl 1 rfl) ?_
      refine va_tlen hx hb hR.TLEGGER_LINE hT.2.2.1 rfl dX2_takeAll_4 ?_
      refine lv_icmp_ge (tgt := 26) hx hb dX2_takeAll_5 (by decide) (fun c_5 => ?_) (fun c_5 => ?_)
      · have hm := hm.1 c_5
        refine lv_iconst (v := 1) hx hb dX2_takeAll_26 (by decide) ?_
        exact hret 27 _ _ _ _ (F, L) hm hT rfl dX2_takeAll_27
      · have hm := hm.2 c_5
        refine lv_aload_n hx hb dX2_takeAll_8 rfl (lv_at hl 0 rfl) ?_
        refine lv_aload_n hx hb dX2_takeAll_9 rfl (lv_at hl 1 rfl) ?_
        refine lv_iload_n hx hb dX2_takeAll_10 rfl (lv_at hl 2 rfl) ?_
        refine va_ti hx hb hR.TLEGGER_LINE hT.2.2.1 (inb_in.mpr hm.1) rfl dX2_takeAll_11 ?_
        have hm := hm.2
        refine kx_X2_take hC hN hK hT (cx_KWRK Z a q rx F L) rfl hm wq_1018 (by decide) hl.1 (Nat.le_of_ble_eq_true rfl) ⟨Nat.le_refl _, Nat.le_refl _⟩ dX2_takeAll_12 (fun r_12 F_12 L_12 H locs hm hT => ?_)
        have hT : TS vwCl D (RK Z a q rx F_12 L_12) A s.heap H locs := hT
        refine lv_if_ne (tgt := 20) hx hb dX2_takeAll_15 (by decide) (fun c_15 => ?_) (fun c_15 => ?_)
        · have hm := hm.1 c_15
          obtain ⟨v2_20, ev2_20⟩ : ∃ y : Int32, y = v2 + 1 := ⟨_, rfl⟩
          have hm := hm v2_20 ev2_20
          refine lv_iinc (v := v2_20) (lv' := [(2, .int v2_20), (0, .ref (a 60)), (1, .ref (rx 202))]) hx hb dX2_takeAll_20 hl (k := 2) rfl (by rw [ev2_20]; rfl) (by decide) rfl (fun ls hl => ?_)
          refine lv_goto (tgt := 2) hx hb dX2_takeAll_23 (by decide) ?_
          exact ih2 _ _ _ _ _ _ hm hT (lv_sub hl [1, 2, 0] rfl)
        · have hm := hm.2 c_15
          refine lv_iconst (v := 0) hx hb dX2_takeAll_18 (by decide) ?_
          exact hret 19 _ _ _ _ (F_12, L_12) hm hT rfl dX2_takeAll_19
  refine lv_iconst (v := 0) hx hb dX2_takeAll_0 (by decide) ?_
  refine lv_istore_n (lv' := [(2, .int 0), (0, .ref (a 60)), (1, .ref (rx 202))]) hx hb dX2_takeAll_1 rfl hl (by decide) rfl (fun ls hl => ?_)
  exact L2 _ _ _ _ _ _ _ hm hT (lv_sub hl [1, 2, 0] rfl)
section KX2_takeAll_LEGGER_LINE
variable {p : Program} {l : Launch} {e : Env} {s : State} {m : MethodId} {args : Array Value} {below : List Frame} {meth : Method} {c : Code} {H H0 : Heap} {locs : List Loc} {cells slots : Nat} {Q : State → Prop} {R : Room} {rn mcR msR : Nat}
variable {pc : Nat} {ls : Array Slot} {rest : List Value} {A : Nat → Prop} {D : va_G}
variable {cc : ByteArray} {nL index : Nat} {own host : String}
theorem k_X2_takeAll_LEGGER_LINE {Z : Nat → ClassId} {a q rx : Nat → Nat} {F : M2} {L : L2} {K : Int32 → M2 → L2 → Prop} (hC : CallFix p m c cc nL s args lw_g own) (hN : NW s) (hR : RD rx (va_A (RK Z a q rx F L) H.size) s H) (hK : va_K D vwCl (tysG Z) s) (hT : TS vwCl D (RK Z a q rx F L) A H0 H locs) (hm : wp_X2_takeAll_LEGGER_LINE F L K) (hl : Cond.methodLink own index yX2_takeAll ∈ lw_g) (hlt : 2 < rn) (hsize : ls.size = nL) (hW : (rest.map fun v => v.category).sum ≤ 8) (hf : cells + 0 ≤ mcR ∧ slots + 0 ≤ msR) (hdg : decode cc pc = .ok (.invokevirtual index, 3)) (kk : ∀ (r : Int32) (F1 : M2) (L1 : L2) (H1 : Heap) (locs1 : List Loc), K r F1 L1 → TS vwCl D (RK Z a q rx F1 L1) A H0 H1 locs1 → W p l e (rk rn mcR msR) s m args below meth c H1 locs1 cells slots Q (F0 m (pc + 3) ls (.int r :: rest))) : W p l e (rk rn mcR msR) s m args below meth c H locs cells slots Q (F0 m pc ls (.ref (rx 202) :: .ref (a 60) :: rest)) :=
  rw_go (wsF := (fun u : M2 × L2 => RK Z a q rx u.1 u.2)) (u0 := (F, L)) (wr := []) (isC := cutRK) (isR := []) (pm := cutRK) (ws' := (fun u : M2 × L2 => RK Z a q rx u.1 u.2)) (runVR (As := [.ref (rx 202)]) hC hN hR (c_X2_takeAll_LEGGER_LINE l D Z a q rx F L H.size K hm) mi_X2_takeAll hl wq_1016 wq_40 hlt hT.1 hT.D' hK (q0 := 0) rfl rfl rfl hsize rfl hW hdg hf) (cutOkRK Z a q rx F L) hT (fun r u H1 locs1 hk hT1 => kk r u.1 u.2 H1 locs1 hk hT1)
end KX2_takeAll_LEGGER_LINE
def wl_X2_takeAll_BOAT_LINE_2 (K : Int32 → M2 → L2 → Prop) : Nat → M2 → L2 → Int32 → Prop
  | 0, _, _, _ => False
  | n + 1, F, L, v2 => (((Int32.ofNat 12) ≤ v2 → K 1 F L) ∧ (¬ (Int32.ofNat 12) ≤ v2 → (inb v2 12 ∧ wp_X2_take F L (kBOAT_LINE  v2.toInt.toNat) (fun r_12 F_12 L_12 => ((¬ r_12 = 0 → (∀ v2_20 : Int32, v2_20 = v2 + 1 → wl_X2_takeAll_BOAT_LINE_2 K n F_12 L_12 v2_20)) ∧ (r_12 = 0 → K 0 F_12 L_12))))))
def wp_X2_takeAll_BOAT_LINE (F : M2) (L : L2) (K : Int32 → M2 → L2 → Prop) : Prop := wl_X2_takeAll_BOAT_LINE_2 K fK F L 0
set_option maxRecDepth 100000 in
set_option maxHeartbeats 4000000 in
theorem c_X2_takeAll_BOAT_LINE (l : Launch) (D : va_G) (Z : Nat → ClassId) (a q rx : Nat → Nat) (F : M2) (L : L2) (sz : Nat) (K : Int32 → M2 → L2 → Prop) (hm : wp_X2_takeAll_BOAT_LINE F L K) : Met l yX2_takeAll (wy yX2_takeAll cX2_takeAll 3 (some .boolean)) (rk 2 0 0) (preR vwCl D Z rx (RK Z a q rx F L) sz [.ref (a 60), .ref (rx 203)]) (poI vwCl D Z (fun u : M2 × L2 => RK Z a q rx u.1 u.2) (F, L) sz (fun (r : Int32) (u : M2 × L2) => K r u.1 u.2)) 0 0 (va_A (RK Z a q rx F L) sz) := by
  refine rw_ofR (ty := .boolean) (wsF := (fun u : M2 × L2 => RK Z a q rx u.1 u.2)) (u0 := (F, L)) (by decide +kernel) (Nat.le_of_ble_eq_true rfl) rfl ?_
  intro p e s m args below meth c Q A hC hN hR hsz hT hK hret ls hl
  have hx := hC.1
  have hb := hC.2.1
  have hl : lv_has ls 3 [(0, .ref (a 60)), (1, .ref (rx 203))] := hl
  have hT : TS vwCl D (RK Z a q rx F L) A s.heap s.heap [] := hT
  have L2 : ∀ (n2 : Nat), ∀ (F : M2) (L : L2) (v2 : Int32) (H : Heap) (locs : List Loc) (ls : Array Slot), wl_X2_takeAll_BOAT_LINE_2 K n2 F L v2 → TS vwCl D (RK Z a q rx F L) A s.heap H locs → lv_has ls 3 [(0, .ref (a 60)), (1, .ref (rx 203)), (2, .int v2)] → W p l e (rk 2 0 0) s m args below meth c H locs 0 0 Q (F0 m 2 ls []) := by
    intro n2
    induction n2 with
    | zero =>
      intro F L v2 H locs ls hm hT hl
      exact False.elim hm
    | succ n2 ih2 =>
      intro F L v2 H locs ls hm hT hl
      refine lv_iload_n hx hb dX2_takeAll_2 rfl (lv_at hl 2 rfl) ?_
      refine lv_aload_n hx hb dX2_takeAll_3 rfl (lv_at hl 1 rfl) ?_
      refine va_tlen hx hb hR.TBOAT_LINE hT.2.2.1 rfl dX2_takeAll_4 ?_
      refine lv_icmp_ge (tgt := 26) hx hb dX2_takeAll_5 (by decide) (fun c_5 => ?_) (fun c_5 => ?_)
      · have hm := hm.1 c_5
        refine lv_iconst (v := 1) hx hb dX2_takeAll_26 (by decide) ?_
        exact hret 27 _ _ _ _ (F, L) hm hT rfl dX2_takeAll_27
      · have hm := hm.2 c_5
        refine lv_aload_n hx hb dX2_takeAll_8 rfl (lv_at hl 0 rfl) ?_
        refine lv_aload_n hx hb dX2_takeAll_9 rfl (lv_at hl 1 rfl) ?_
        refine lv_iload_n hx hb dX2_takeAll_10 rfl (lv_at hl 2 rfl) ?_
        refine va_ti hx hb hR.TBOAT_LINE hT.2.2.1 (inb_in.mpr hm.1) rfl dX2_takeAll_11 ?_
        have hm := hm.2
        refine kx_X2_take hC hN hK hT (cx_KWRK Z a q rx F L) rfl hm wq_1018 (by decide) hl.1 (Nat.le_of_ble_eq_true rfl) ⟨Nat.le_refl _, Nat.le_refl _⟩ dX2_takeAll_12 (fun r_12 F_12 L_12 H locs hm hT => ?_)
        have hT : TS vwCl D (RK Z a q rx F_12 L_12) A s.heap H locs := hT
        refine lv_if_ne (tgt := 20) hx hb dX2_takeAll_15 (by decide) (fun c_15 => ?_) (fun c_15 => ?_)
        · have hm := hm.1 c_15
          obtain ⟨v2_20, ev2_20⟩ : ∃ y : Int32, y = v2 + 1 := ⟨_, rfl⟩
          have hm := hm v2_20 ev2_20
          refine lv_iinc (v := v2_20) (lv' := [(2, .int v2_20), (0, .ref (a 60)), (1, .ref (rx 203))]) hx hb dX2_takeAll_20 hl (k := 2) rfl (by rw [ev2_20]; rfl) (by decide) rfl (fun ls hl => ?_)
          refine lv_goto (tgt := 2) hx hb dX2_takeAll_23 (by decide) ?_
          exact ih2 _ _ _ _ _ _ hm hT (lv_sub hl [1, 2, 0] rfl)
        · have hm := hm.2 c_15
          refine lv_iconst (v := 0) hx hb dX2_takeAll_18 (by decide) ?_
          exact hret 19 _ _ _ _ (F_12, L_12) hm hT rfl dX2_takeAll_19
  refine lv_iconst (v := 0) hx hb dX2_takeAll_0 (by decide) ?_
  refine lv_istore_n (lv' := [(2, .int 0), (0, .ref (a 60)), (1, .ref (rx 203))]) hx hb dX2_takeAll_1 rfl hl (by decide) rfl (fun ls hl => ?_)
  exact L2 _ _ _ _ _ _ _ hm hT (lv_sub hl [1, 2, 0] rfl)
section KX2_takeAll_BOAT_LINE
variable {p : Program} {l : Launch} {e : Env} {s : State} {m : MethodId} {args : Array Value} {below : List Frame} {meth : Method} {c : Code} {H H0 : Heap} {locs : List Loc} {cells slots : Nat} {Q : State → Prop} {R : Room} {rn mcR msR : Nat}
variable {pc : Nat} {ls : Array Slot} {rest : List Value} {A : Nat → Prop} {D : va_G}
variable {cc : ByteArray} {nL index : Nat} {own host : String}
theorem k_X2_takeAll_BOAT_LINE {Z : Nat → ClassId} {a q rx : Nat → Nat} {F : M2} {L : L2} {K : Int32 → M2 → L2 → Prop} (hC : CallFix p m c cc nL s args lw_g own) (hN : NW s) (hR : RD rx (va_A (RK Z a q rx F L) H.size) s H) (hK : va_K D vwCl (tysG Z) s) (hT : TS vwCl D (RK Z a q rx F L) A H0 H locs) (hm : wp_X2_takeAll_BOAT_LINE F L K) (hl : Cond.methodLink own index yX2_takeAll ∈ lw_g) (hlt : 2 < rn) (hsize : ls.size = nL) (hW : (rest.map fun v => v.category).sum ≤ 8) (hf : cells + 0 ≤ mcR ∧ slots + 0 ≤ msR) (hdg : decode cc pc = .ok (.invokevirtual index, 3)) (kk : ∀ (r : Int32) (F1 : M2) (L1 : L2) (H1 : Heap) (locs1 : List Loc), K r F1 L1 → TS vwCl D (RK Z a q rx F1 L1) A H0 H1 locs1 → W p l e (rk rn mcR msR) s m args below meth c H1 locs1 cells slots Q (F0 m (pc + 3) ls (.int r :: rest))) : W p l e (rk rn mcR msR) s m args below meth c H locs cells slots Q (F0 m pc ls (.ref (rx 203) :: .ref (a 60) :: rest)) :=
  rw_go (wsF := (fun u : M2 × L2 => RK Z a q rx u.1 u.2)) (u0 := (F, L)) (wr := []) (isC := cutRK) (isR := []) (pm := cutRK) (ws' := (fun u : M2 × L2 => RK Z a q rx u.1 u.2)) (runVR (As := [.ref (rx 203)]) hC hN hR (c_X2_takeAll_BOAT_LINE l D Z a q rx F L H.size K hm) mi_X2_takeAll hl wq_1016 wq_40 hlt hT.1 hT.D' hK (q0 := 0) rfl rfl rfl hsize rfl hW hdg hf) (cutOkRK Z a q rx F L) hT (fun r u H1 locs1 hk hT1 => kk r u.1 u.2 H1 locs1 hk hT1)
end KX2_takeAll_BOAT_LINE
def wl_X2_takeAll_WHISTLE_HEAD_2 (K : Int32 → M2 → L2 → Prop) : Nat → M2 → L2 → Int32 → Prop
  | 0, _, _, _ => False
  | n + 1, F, L, v2 => (((Int32.ofNat 3) ≤ v2 → K 1 F L) ∧ (¬ (Int32.ofNat 3) ≤ v2 → (inb v2 3 ∧ wp_X2_take F L (kWHISTLE_HEAD  v2.toInt.toNat) (fun r_12 F_12 L_12 => ((¬ r_12 = 0 → (∀ v2_20 : Int32, v2_20 = v2 + 1 → wl_X2_takeAll_WHISTLE_HEAD_2 K n F_12 L_12 v2_20)) ∧ (r_12 = 0 → K 0 F_12 L_12))))))
def wp_X2_takeAll_WHISTLE_HEAD (F : M2) (L : L2) (K : Int32 → M2 → L2 → Prop) : Prop := wl_X2_takeAll_WHISTLE_HEAD_2 K fK F L 0
set_option maxRecDepth 100000 in
set_option maxHeartbeats 4000000 in
theorem c_X2_takeAll_WHISTLE_HEAD (l : Launch) (D : va_G) (Z : Nat → ClassId) (a q rx : Nat → Nat) (F : M2) (L : L2) (sz : Nat) (K : Int32 → M2 → L2 → Prop) (hm : wp_X2_takeAll_WHISTLE_HEAD F L K) : Met l yX2_takeAll (wy yX2_takeAll cX2_takeAll 3 (some .boolean)) (rk 2 0 0) (preR vwCl D Z rx (RK Z a q rx F L) sz [.ref (a 60), .ref (rx 204)]) (poI vwCl D Z (fun u : M2 × L2 => RK Z a q rx u.1 u.2) (F, L) sz (fun (r : Int32) (u : M2 × L2) => K r u.1 u.2)) 0 0 (va_A (RK Z a q rx F L) sz) := by
  refine rw_ofR (ty := .boolean) (wsF := (fun u : M2 × L2 => RK Z a q rx u.1 u.2)) (u0 := (F, L)) (by decide +kernel) (Nat.le_of_ble_eq_true rfl) rfl ?_
  intro p e s m args below meth c Q A hC hN hR hsz hT hK hret ls hl
  have hx := hC.1
  have hb := hC.2.1
  have hl : lv_has ls 3 [(0, .ref (a 60)), (1, .ref (rx 204))] := hl
  have hT : TS vwCl D (RK Z a q rx F L) A s.heap s.heap [] := hT
  have L2 : ∀ (n2 : Nat), ∀ (F : M2) (L : L2) (v2 : Int32) (H : Heap) (locs : List Loc) (ls : Array Slot), wl_X2_takeAll_WHISTLE_HEAD_2 K n2 F L v2 → TS vwCl D (RK Z a q rx F L) A s.heap H locs → lv_has ls 3 [(0, .ref (a 60)), (1, .ref (rx 204)), (2, .int v2)] → W p l e (rk 2 0 0) s m args below meth c H locs 0 0 Q (F0 m 2 ls []) := by
    intro n2
    induction n2 with
    | zero =>
      intro F L v2 H locs ls hm hT hl
      exact False.elim hm
    | succ n2 ih2 =>
      intro F L v2 H locs ls hm hT hl
      refine lv_iload_n hx hb dX2_takeAll_2 rfl (lv_at hl 2 rfl) ?_
      refine lv_aload_n hx hb dX2_takeAll_3 rfl (lv_at hl 1 rfl) ?_
      refine va_tlen hx hb hR.TWHISTLE_HEAD hT.2.2.1 rfl dX2_takeAll_4 ?_
      refine lv_icmp_ge (tgt := 26) hx hb dX2_takeAll_5 (by decide) (fun c_5 => ?_) (fun c_5 => ?_)
      · have hm := hm.1 c_5
        refine lv_iconst (v := 1) hx hb dX2_takeAll_26 (by decide) ?_
        exact hret 27 _ _ _ _ (F, L) hm hT rfl dX2_takeAll_27
      · have hm := hm.2 c_5
        refine lv_aload_n hx hb dX2_takeAll_8 rfl (lv_at hl 0 rfl) ?_
        refine lv_aload_n hx hb dX2_takeAll_9 rfl (lv_at hl 1 rfl) ?_
        refine lv_iload_n hx hb dX2_takeAll_10 rfl (lv_at hl 2 rfl) ?_
        refine va_ti hx hb hR.TWHISTLE_HEAD hT.2.2.1 (inb_in.mpr hm.1) rfl dX2_takeAll_11 ?_
        have hm := hm.2
        refine kx_X2_take hC hN hK hT (cx_KWRK Z a q rx F L) rfl hm wq_1018 (by decide) hl.1 (Nat.le_of_ble_eq_true rfl) ⟨Nat.le_refl _, Nat.le_refl _⟩ dX2_takeAll_12 (fun r_12 F_12 L_12 H locs hm hT => ?_)
        have hT : TS vwCl D (RK Z a q rx F_12 L_12) A s.heap H locs := hT
        refine lv_if_ne (tgt := 20) hx hb dX2_takeAll_15 (by decide) (fun c_15 => ?_) (fun c_15 => ?_)
        · have hm := hm.1 c_15
          obtain ⟨v2_20, ev2_20⟩ : ∃ y : Int32, y = v2 + 1 := ⟨_, rfl⟩
          have hm := hm v2_20 ev2_20
          refine lv_iinc (v := v2_20) (lv' := [(2, .int v2_20), (0, .ref (a 60)), (1, .ref (rx 204))]) hx hb dX2_takeAll_20 hl (k := 2) rfl (by rw [ev2_20]; rfl) (by decide) rfl (fun ls hl => ?_)
          refine lv_goto (tgt := 2) hx hb dX2_takeAll_23 (by decide) ?_
          exact ih2 _ _ _ _ _ _ hm hT (lv_sub hl [1, 2, 0] rfl)
        · have hm := hm.2 c_15
          refine lv_iconst (v := 0) hx hb dX2_takeAll_18 (by decide) ?_
          exact hret 19 _ _ _ _ (F_12, L_12) hm hT rfl dX2_takeAll_19
  refine lv_iconst (v := 0) hx hb dX2_takeAll_0 (by decide) ?_
  refine lv_istore_n (lv' := [(2, .int 0), (0, .ref (a 60)), (1, .ref (rx 204))]) hx hb dX2_takeAll_1 rfl hl (by decide) rfl (fun ls hl => ?_)
  exact L2 _ _ _ _ _ _ _ hm hT (lv_sub hl [1, 2, 0] rfl)
section KX2_takeAll_WHISTLE_HEAD
variable {p : Program} {l : Launch} {e : Env} {s : State} {m : MethodId} {args : Array Value} {below : List Frame} {meth : Method} {c : Code} {H H0 : Heap} {locs : List Loc} {cells slots : Nat} {Q : State → Prop} {R : Room} {rn mcR msR : Nat}
variable {pc : Nat} {ls : Array Slot} {rest : List Value} {A : Nat → Prop} {D : va_G}
variable {cc : ByteArray} {nL index : Nat} {own host : String}
theorem k_X2_takeAll_WHISTLE_HEAD {Z : Nat → ClassId} {a q rx : Nat → Nat} {F : M2} {L : L2} {K : Int32 → M2 → L2 → Prop} (hC : CallFix p m c cc nL s args lw_g own) (hN : NW s) (hR : RD rx (va_A (RK Z a q rx F L) H.size) s H) (hK : va_K D vwCl (tysG Z) s) (hT : TS vwCl D (RK Z a q rx F L) A H0 H locs) (hm : wp_X2_takeAll_WHISTLE_HEAD F L K) (hl : Cond.methodLink own index yX2_takeAll ∈ lw_g) (hlt : 2 < rn) (hsize : ls.size = nL) (hW : (rest.map fun v => v.category).sum ≤ 8) (hf : cells + 0 ≤ mcR ∧ slots + 0 ≤ msR) (hdg : decode cc pc = .ok (.invokevirtual index, 3)) (kk : ∀ (r : Int32) (F1 : M2) (L1 : L2) (H1 : Heap) (locs1 : List Loc), K r F1 L1 → TS vwCl D (RK Z a q rx F1 L1) A H0 H1 locs1 → W p l e (rk rn mcR msR) s m args below meth c H1 locs1 cells slots Q (F0 m (pc + 3) ls (.int r :: rest))) : W p l e (rk rn mcR msR) s m args below meth c H locs cells slots Q (F0 m pc ls (.ref (rx 204) :: .ref (a 60) :: rest)) :=
  rw_go (wsF := (fun u : M2 × L2 => RK Z a q rx u.1 u.2)) (u0 := (F, L)) (wr := []) (isC := cutRK) (isR := []) (pm := cutRK) (ws' := (fun u : M2 × L2 => RK Z a q rx u.1 u.2)) (runVR (As := [.ref (rx 204)]) hC hN hR (c_X2_takeAll_WHISTLE_HEAD l D Z a q rx F L H.size K hm) mi_X2_takeAll hl wq_1016 wq_40 hlt hT.1 hT.D' hK (q0 := 0) rfl rfl rfl hsize rfl hW hdg hf) (cutOkRK Z a q rx F L) hT (fun r u H1 locs1 hk hT1 => kk r u.1 u.2 H1 locs1 hk hT1)
end KX2_takeAll_WHISTLE_HEAD
def wl_X2_takeAll_REST_HEAD_2 (K : Int32 → M2 → L2 → Prop) : Nat → M2 → L2 → Int32 → Prop
  | 0, _, _, _ => False
  | n + 1, F, L, v2 => (((Int32.ofNat 3) ≤ v2 → K 1 F L) ∧ (¬ (Int32.ofNat 3) ≤ v2 → (inb v2 3 ∧ wp_X2_take F L (kREST_HEAD  v2.toInt.toNat) (fun r_12 F_12 L_12 => ((¬ r_12 = 0 → (∀ v2_20 : Int32, v2_20 = v2 + 1 → wl_X2_takeAll_REST_HEAD_2 K n F_12 L_12 v2_20)) ∧ (r_12 = 0 → K 0 F_12 L_12))))))
def wp_X2_takeAll_REST_HEAD (F : M2) (L : L2) (K : Int32 → M2 → L2 → Prop) : Prop := wl_X2_takeAll_REST_HEAD_2 K fK F L 0
set_option maxRecDepth 100000 in
set_option maxHeartbeats 4000000 in
theorem c_X2_takeAll_REST_HEAD (l : Launch) (D : va_G) (Z : Nat → ClassId) (a q rx : Nat → Nat) (F : M2) (L : L2) (sz : Nat) (K : Int32 → M2 → L2 → Prop) (hm : wp_X2_takeAll_REST_HEAD F L K) : Met l yX2_takeAll (wy yX2_takeAll cX2_takeAll 3 (some .boolean)) (rk 2 0 0) (preR vwCl D Z rx (RK Z a q rx F L) sz [.ref (a 60), .ref (rx 205)]) (poI vwCl D Z (fun u : M2 × L2 => RK Z a q rx u.1 u.2) (F, L) sz (fun (r : Int32) (u : M2 × L2) => K r u.1 u.2)) 0 0 (va_A (RK Z a q rx F L) sz) := by
  refine rw_ofR (ty := .boolean) (wsF := (fun u : M2 × L2 => RK Z a q rx u.1 u.2)) (u0 := (F, L)) (by decide +kernel) (Nat.le_of_ble_eq_true rfl) rfl ?_
  intro p e s m args below meth c Q A hC hN hR hsz hT hK hret ls hl
  have hx := hC.1
  have hb := hC.2.1
  have hl : lv_has ls 3 [(0, .ref (a 60)), (1, .ref (rx 205))] := hl
  have hT : TS vwCl D (RK Z a q rx F L) A s.heap s.heap [] := hT
  have L2 : ∀ (n2 : Nat), ∀ (F : M2) (L : L2) (v2 : Int32) (H : Heap) (locs : List Loc) (ls : Array Slot), wl_X2_takeAll_REST_HEAD_2 K n2 F L v2 → TS vwCl D (RK Z a q rx F L) A s.heap H locs → lv_has ls 3 [(0, .ref (a 60)), (1, .ref (rx 205)), (2, .int v2)] → W p l e (rk 2 0 0) s m args below meth c H locs 0 0 Q (F0 m 2 ls []) := by
    intro n2
    induction n2 with
    | zero =>
      intro F L v2 H locs ls hm hT hl
      exact False.elim hm
    | succ n2 ih2 =>
      intro F L v2 H locs ls hm hT hl
      refine lv_iload_n hx hb dX2_takeAll_2 rfl (lv_at hl 2 rfl) ?_
      refine lv_aload_n hx hb dX2_takeAll_3 rfl (lv_at hl 1 rfl) ?_
      refine va_tlen hx hb hR.TREST_HEAD hT.2.2.1 rfl dX2_takeAll_4 ?_
      refine lv_icmp_ge (tgt := 26) hx hb dX2_takeAll_5 (by decide) (fun c_5 => ?_) (fun c_5 => ?_)
      · have hm := hm.1 c_5
        refine lv_iconst (v := 1) hx hb dX2_takeAll_26 (by decide) ?_
        exact hret 27 _ _ _ _ (F, L) hm hT rfl dX2_takeAll_27
      · have hm := hm.2 c_5
        refine lv_aload_n hx hb dX2_takeAll_8 rfl (lv_at hl 0 rfl) ?_
        refine lv_aload_n hx hb dX2_takeAll_9 rfl (lv_at hl 1 rfl) ?_
        refine lv_iload_n hx hb dX2_takeAll_10 rfl (lv_at hl 2 rfl) ?_
        refine va_ti hx hb hR.TREST_HEAD hT.2.2.1 (inb_in.mpr hm.1) rfl dX2_takeAll_11 ?_
        have hm := hm.2
        refine kx_X2_take hC hN hK hT (cx_KWRK Z a q rx F L) rfl hm wq_1018 (by decide) hl.1 (Nat.le_of_ble_eq_true rfl) ⟨Nat.le_refl _, Nat.le_refl _⟩ dX2_takeAll_12 (fun r_12 F_12 L_12 H locs hm hT => ?_)
        have hT : TS vwCl D (RK Z a q rx F_12 L_12) A s.heap H locs := hT
        refine lv_if_ne (tgt := 20) hx hb dX2_takeAll_15 (by decide) (fun c_15 => ?_) (fun c_15 => ?_)
        · have hm := hm.1 c_15
          obtain ⟨v2_20, ev2_20⟩ : ∃ y : Int32, y = v2 + 1 := ⟨_, rfl⟩
          have hm := hm v2_20 ev2_20
          refine lv_iinc (v := v2_20) (lv' := [(2, .int v2_20), (0, .ref (a 60)), (1, .ref (rx 205))]) hx hb dX2_takeAll_20 hl (k := 2) rfl (by rw [ev2_20]; rfl) (by decide) rfl (fun ls hl => ?_)
          refine lv_goto (tgt := 2) hx hb dX2_takeAll_23 (by decide) ?_
          exact ih2 _ _ _ _ _ _ hm hT (lv_sub hl [1, 2, 0] rfl)
        · have hm := hm.2 c_15
          refine lv_iconst (v := 0) hx hb dX2_takeAll_18 (by decide) ?_
          exact hret 19 _ _ _ _ (F_12, L_12) hm hT rfl dX2_takeAll_19
  refine lv_iconst (v := 0) hx hb dX2_takeAll_0 (by decide) ?_
  refine lv_istore_n (lv' := [(2, .int 0), (0, .ref (a 60)), (1, .ref (rx 205))]) hx hb dX2_takeAll_1 rfl hl (by decide) rfl (fun ls hl => ?_)
  exact L2 _ _ _ _ _ _ _ hm hT (lv_sub hl [1, 2, 0] rfl)
section KX2_takeAll_REST_HEAD
variable {p : Program} {l : Launch} {e : Env} {s : State} {m : MethodId} {args : Array Value} {below : List Frame} {meth : Method} {c : Code} {H H0 : Heap} {locs : List Loc} {cells slots : Nat} {Q : State → Prop} {R : Room} {rn mcR msR : Nat}
variable {pc : Nat} {ls : Array Slot} {rest : List Value} {A : Nat → Prop} {D : va_G}
variable {cc : ByteArray} {nL index : Nat} {own host : String}
theorem k_X2_takeAll_REST_HEAD {Z : Nat → ClassId} {a q rx : Nat → Nat} {F : M2} {L : L2} {K : Int32 → M2 → L2 → Prop} (hC : CallFix p m c cc nL s args lw_g own) (hN : NW s) (hR : RD rx (va_A (RK Z a q rx F L) H.size) s H) (hK : va_K D vwCl (tysG Z) s) (hT : TS vwCl D (RK Z a q rx F L) A H0 H locs) (hm : wp_X2_takeAll_REST_HEAD F L K) (hl : Cond.methodLink own index yX2_takeAll ∈ lw_g) (hlt : 2 < rn) (hsize : ls.size = nL) (hW : (rest.map fun v => v.category).sum ≤ 8) (hf : cells + 0 ≤ mcR ∧ slots + 0 ≤ msR) (hdg : decode cc pc = .ok (.invokevirtual index, 3)) (kk : ∀ (r : Int32) (F1 : M2) (L1 : L2) (H1 : Heap) (locs1 : List Loc), K r F1 L1 → TS vwCl D (RK Z a q rx F1 L1) A H0 H1 locs1 → W p l e (rk rn mcR msR) s m args below meth c H1 locs1 cells slots Q (F0 m (pc + 3) ls (.int r :: rest))) : W p l e (rk rn mcR msR) s m args below meth c H locs cells slots Q (F0 m pc ls (.ref (rx 205) :: .ref (a 60) :: rest)) :=
  rw_go (wsF := (fun u : M2 × L2 => RK Z a q rx u.1 u.2)) (u0 := (F, L)) (wr := []) (isC := cutRK) (isR := []) (pm := cutRK) (ws' := (fun u : M2 × L2 => RK Z a q rx u.1 u.2)) (runVR (As := [.ref (rx 205)]) hC hN hR (c_X2_takeAll_REST_HEAD l D Z a q rx F L H.size K hm) mi_X2_takeAll hl wq_1016 wq_40 hlt hT.1 hT.D' hK (q0 := 0) rfl rfl rfl hsize rfl hW hdg hf) (cutOkRK Z a q rx F L) hT (fun r u H1 locs1 hk hT1 => kk r u.1 u.2 H1 locs1 hk hT1)
end KX2_takeAll_REST_HEAD
def wp_X2_boreLine (F : M2) (L : L2) (x1 : Int32) (K : Int32 → M2 → L2 → Prop) : Prop := wp_X2_takeAll_BORE_LINE F L (fun r_4 F_4 L_4 => ((¬ r_4 = 0 → wp_X2_needNew_nB F_4 L_4 (F_4 20 0) (x1 + 1) (fun F_27 L_27 => wp_X2_needRange F_27 L_27 (x1 + 3) 1 12 (fun F_37 L_37 => wp_X2_needRange F_37 L_37 (x1 + 5) 0 9 (fun F_47 L_47 => ((¬ (F_47 67 0) = 0 → K 1 F_47 L_47) ∧ ((F_47 67 0) = 0 → (∀ L_81 : L2, L_81 = ul2 L_47 61 (putl (L_47 61) 5 (F_47 20 0) (atl (L_47 76) 401 (x1 + 1))) → wp_X2_number F_47 L_81 (x1 + 3) (fun r_92 => wp_X2_number F_47 L_81 (x1 + 5) (fun r_99 => wp_X1_addBore F_47 L_81 r_92 r_99 (fun F_102 L_102 => K 1 F_102 L_102)))))))))) ∧ (r_4 = 0 → K 0 F_4 L_4)))
set_option maxRecDepth 100000 in
set_option maxHeartbeats 4000000 in
theorem c_X2_boreLine (l : Launch) (D : va_G) (Z : Nat → ClassId) (a q rx : Nat → Nat) (F : M2) (L : L2) (sz : Nat) (x1 : Int32) (K : Int32 → M2 → L2 → Prop) (hm : wp_X2_boreLine F L x1 K) : Met l yX2_boreLine (wy yX2_boreLine cX2_boreLine 2 (some .boolean)) (rk 3 0 0) (preR vwCl D Z rx (RK Z a q rx F L) sz [.ref (a 60), .int x1]) (poI vwCl D Z (fun u : M2 × L2 => RK Z a q rx u.1 u.2) (F, L) sz (fun (r : Int32) (u : M2 × L2) => K r u.1 u.2)) 0 0 (va_A (RK Z a q rx F L) sz) := by
  refine rw_ofR (ty := .boolean) (wsF := (fun u : M2 × L2 => RK Z a q rx u.1 u.2)) (u0 := (F, L)) (by decide +kernel) (Nat.le_of_ble_eq_true rfl) rfl ?_
  intro p e s m args below meth c Q A hC hN hR hsz hT hK hret ls hl
  have hx := hC.1
  have hb := hC.2.1
  have hl : lv_has ls 2 [(0, .ref (a 60)), (1, .int x1)] := hl
  have hT : TS vwCl D (RK Z a q rx F L) A s.heap s.heap [] := hT
  refine lv_aload_n hx hb dX2_boreLine_0 rfl (lv_at hl 0 rfl) ?_
  refine va_getsN hx hb hR.BORE_LINE hT.2.2.1 hC.2.2.2.1 (va_Nw.use rfl (hN _ wn_1012)) (fun _ h => h) dX2_boreLine_1 ?_
  refine k_X2_takeAll_BORE_LINE hC hN (hT.rd hR) hK hT hm wq_1014 (by decide) hl.1 (Nat.le_of_ble_eq_true rfl) ⟨Nat.le_refl _, Nat.le_refl _⟩ dX2_boreLine_4 (fun r_4 F_4 L_4 H locs hm hT => ?_)
  refine lv_if_ne (tgt := 12) hx hb dX2_boreLine_7 (by decide) (fun c_7 => ?_) (fun c_7 => ?_)
  · have hm := hm.1 c_7
    refine lv_aload_n hx hb dX2_boreLine_12 rfl (lv_at hl 0 rfl) ?_
    refine lv_aload_n hx hb dX2_boreLine_13 rfl (lv_at hl 0 rfl) ?_
    refine gRK_rd_1 hC hK hT.1 wq_386 dX2_boreLine_14 ?_
    refine lv_aload_n hx hb dX2_boreLine_17 rfl (lv_at hl 0 rfl) ?_
    refine gRK_rd_5 hC hK hT.1 wq_390 dX2_boreLine_18 ?_
    refine gRK_plan_0 hC hK hT.1 wq_290 dX2_boreLine_21 ?_
    refine lv_iload_n hx hb dX2_boreLine_24 rfl (lv_at hl 1 rfl) ?_
    refine lv_iconst (v := 1) hx hb dX2_boreLine_25 (by decide) ?_
    refine lv_iadd hx hb dX2_boreLine_26 ?_
    refine kx_X2_needNew_nB hC hN hK hT (cx_KWRK Z a q rx F_4 L_4) rfl hm wq_1022 (by decide) hl.1 (Nat.le_of_ble_eq_true rfl) ⟨Nat.le_refl _, Nat.le_refl _⟩ dX2_boreLine_27 (fun F_27 L_27 H locs hm hT => ?_)
    have hT : TS vwCl D (RK Z a q rx F_27 L_27) A s.heap H locs := hT
    refine lv_aload_n hx hb dX2_boreLine_30 rfl (lv_at hl 0 rfl) ?_
    refine lv_iload_n hx hb dX2_boreLine_31 rfl (lv_at hl 1 rfl) ?_
    refine lv_iconst (v := 3) hx hb dX2_boreLine_32 (by decide) ?_
    refine lv_iadd hx hb dX2_boreLine_33 ?_
    refine lv_iconst (v := 1) hx hb dX2_boreLine_34 (by decide) ?_
    refine lv_bipush (v := 12) hx hb dX2_boreLine_35 (by decide) ?_
    refine kx_X2_needRange hC hN hK hT (cx_KWRK Z a q rx F_27 L_27) rfl hm wq_1034 (by decide) hl.1 (Nat.le_of_ble_eq_true rfl) ⟨Nat.le_refl _, Nat.le_refl _⟩ dX2_boreLine_37 (fun F_37 L_37 H locs hm hT => ?_)
    have hT : TS vwCl D (RK Z a q rx F_37 L_37) A s.heap H locs := hT
    refine lv_aload_n hx hb dX2_boreLine_40 rfl (lv_at hl 0 rfl) ?_
    refine lv_iload_n hx hb dX2_boreLine_41 rfl (lv_at hl 1 rfl) ?_
    refine lv_iconst (v := 5) hx hb dX2_boreLine_42 (by decide) ?_
    refine lv_iadd hx hb dX2_boreLine_43 ?_
    refine lv_iconst (v := 0) hx hb dX2_boreLine_44 (by decide) ?_
    refine lv_bipush (v := 9) hx hb dX2_boreLine_45 (by decide) ?_
    refine kx_X2_needRange hC hN hK hT (cx_KWRK Z a q rx F_37 L_37) rfl hm wq_1034 (by decide) hl.1 (Nat.le_of_ble_eq_true rfl) ⟨Nat.le_refl _, Nat.le_refl _⟩ dX2_boreLine_47 (fun F_47 L_47 H locs hm hT => ?_)
    have hT : TS vwCl D (RK Z a q rx F_47 L_47) A s.heap H locs := hT
    refine lv_aload_n hx hb dX2_boreLine_50 rfl (lv_at hl 0 rfl) ?_
    refine gRK_rd_7 hC hK hT.1 wq_392 dX2_boreLine_51 ?_
    refine lv_if_ne (tgt := 105) hx hb dX2_boreLine_54 (by decide) (fun c_54 => ?_) (fun c_54 => ?_)
    · have hm := hm.1 c_54
      refine lv_iconst (v := 1) hx hb dX2_boreLine_105 (by decide) ?_
      exact hret 106 _ _ _ _ (F_47, L_47) hm hT rfl dX2_boreLine_106
    · have hm := hm.2 c_54
      refine lv_aload_n hx hb dX2_boreLine_57 rfl (lv_at hl 0 rfl) ?_
      refine gRK_rd_1 hC hK hT.1 wq_386 dX2_boreLine_58 ?_
      refine lv_aload_n hx hb dX2_boreLine_61 rfl (lv_at hl 0 rfl) ?_
      refine gRK_rd_5 hC hK hT.1 wq_390 dX2_boreLine_62 ?_
      refine gRK_plan_0 hC hK hT.1 wq_290 dX2_boreLine_65 ?_
      refine lv_aload_n hx hb dX2_boreLine_68 rfl (lv_at hl 0 rfl) ?_
      refine gRK_rd_0 hC hK hT.1 wq_385 dX2_boreLine_69 ?_
      refine gRK_tok_5 hC hK hT.1 wq_218 dX2_boreLine_72 ?_
      refine lv_iload_n hx hb dX2_boreLine_75 rfl (lv_at hl 1 rfl) ?_
      refine lv_iconst (v := 1) hx hb dX2_boreLine_76 (by decide) ?_
      refine lv_iadd hx hb dX2_boreLine_77 ?_
      refine w_atl (q0 := 10) hC hN hK hT.1 wn_1026 rfl (by decide) (by decide) hl.1 (Nat.le_of_ble_eq_true rfl) ⟨Nat.le_refl _, Nat.le_refl _⟩ dX2_boreLine_78 ?_
      refine uRK_nB hC hN hK hT wn_1042 (by decide) hl.1 (Nat.le_of_ble_eq_true rfl) ⟨Nat.le_refl _, Nat.le_refl _⟩ dX2_boreLine_81 (fun L_81 eL_81 H locs hT => ?_)
      have hm := hm L_81 eL_81
      refine lv_aload_n hx hb dX2_boreLine_84 rfl (lv_at hl 0 rfl) ?_
      refine gRK_rd_5 hC hK hT.1 wq_390 dX2_boreLine_85 ?_
      refine lv_aload_n hx hb dX2_boreLine_88 rfl (lv_at hl 0 rfl) ?_
      refine lv_iload_n hx hb dX2_boreLine_89 rfl (lv_at hl 1 rfl) ?_
      refine lv_iconst (v := 3) hx hb dX2_boreLine_90 (by decide) ?_
      refine lv_iadd hx hb dX2_boreLine_91 ?_
      refine kx_X2_number hC hN hK hT.1 hT.D' (sx_KWRK Z a q rx F_47 L_81) rfl hm wq_1038 (by decide) hl.1 (Nat.le_of_ble_eq_true rfl) ⟨Nat.le_refl _, Nat.le_refl _⟩ dX2_boreLine_92 (fun r_92 hm => ?_)
      refine lv_aload_n hx hb dX2_boreLine_95 rfl (lv_at hl 0 rfl) ?_
      refine lv_iload_n hx hb dX2_boreLine_96 rfl (lv_at hl 1 rfl) ?_
      refine lv_iconst (v := 5) hx hb dX2_boreLine_97 (by decide) ?_
      refine lv_iadd hx hb dX2_boreLine_98 ?_
      refine kx_X2_number hC hN hK hT.1 hT.D' (sx_KWRK Z a q rx F_47 L_81) rfl hm wq_1038 (by decide) hl.1 (Nat.le_of_ble_eq_true rfl) ⟨Nat.le_refl _, Nat.le_refl _⟩ dX2_boreLine_99 (fun r_99 hm => ?_)
      refine kx_X1_addBore hC hN hK hT (cx_KWRK Z a q rx F_47 L_81) rfl hm wq_1043 (by decide) hl.1 (Nat.le_of_ble_eq_true rfl) ⟨Nat.le_refl _, Nat.le_refl _⟩ dX2_boreLine_102 (fun F_102 L_102 H locs hm hT => ?_)
      have hT : TS vwCl D (RK Z a q rx F_102 L_102) A s.heap H locs := hT
      refine lv_iconst (v := 1) hx hb dX2_boreLine_105 (by decide) ?_
      exact hret 106 _ _ _ _ (F_102, L_102) hm hT rfl dX2_boreLine_106
  · have hm := hm.2 c_7
    refine lv_iconst (v := 0) hx hb dX2_boreLine_10 (by decide) ?_
    exact hret 11 _ _ _ _ (F_4, L_4) hm hT rfl dX2_boreLine_11
section KX2_boreLine
variable {p : Program} {l : Launch} {e : Env} {s : State} {m : MethodId} {args : Array Value} {below : List Frame} {meth : Method} {c : Code} {H H0 : Heap} {locs : List Loc} {cells slots : Nat} {Q : State → Prop} {R : Room} {rn mcR msR : Nat}
variable {pc : Nat} {ls : Array Slot} {rest : List Value} {A : Nat → Prop} {D : va_G}
variable {cc : ByteArray} {nL index : Nat} {own host : String}
theorem k_X2_boreLine {Z : Nat → ClassId} {a q rx : Nat → Nat} {F : M2} {L : L2} {x1 : Int32} {K : Int32 → M2 → L2 → Prop} (hC : CallFix p m c cc nL s args lw_g own) (hN : NW s) (hR : RD rx (va_A (RK Z a q rx F L) H.size) s H) (hK : va_K D vwCl (tysG Z) s) (hT : TS vwCl D (RK Z a q rx F L) A H0 H locs) (hm : wp_X2_boreLine F L x1 K) (hl : Cond.methodLink own index yX2_boreLine ∈ lw_g) (hlt : 3 < rn) (hsize : ls.size = nL) (hW : (rest.map fun v => v.category).sum ≤ 8) (hf : cells + 0 ≤ mcR ∧ slots + 0 ≤ msR) (hdg : decode cc pc = .ok (.invokevirtual index, 3)) (kk : ∀ (r : Int32) (F1 : M2) (L1 : L2) (H1 : Heap) (locs1 : List Loc), K r F1 L1 → TS vwCl D (RK Z a q rx F1 L1) A H0 H1 locs1 → W p l e (rk rn mcR msR) s m args below meth c H1 locs1 cells slots Q (F0 m (pc + 3) ls (.int r :: rest))) : W p l e (rk rn mcR msR) s m args below meth c H locs cells slots Q (F0 m pc ls (.int x1 :: .ref (a 60) :: rest)) :=
  rw_go (wsF := (fun u : M2 × L2 => RK Z a q rx u.1 u.2)) (u0 := (F, L)) (wr := []) (isC := cutRK) (isR := []) (pm := cutRK) (ws' := (fun u : M2 × L2 => RK Z a q rx u.1 u.2)) (runVR (As := [.int x1]) hC hN hR (c_X2_boreLine l D Z a q rx F L H.size x1 K hm) mi_X2_boreLine hl wq_1010 wq_39 hlt hT.1 hT.D' hK (q0 := 0) rfl rfl rfl hsize rfl hW hdg hf) (cutOkRK Z a q rx F L) hT (fun r u H1 locs1 hk hT1 => kk r u.1 u.2 H1 locs1 hk hT1)
end KX2_boreLine
def wp_X2_shaftLine (F : M2) (L : L2) (x1 : Int32) (K : Int32 → M2 → L2 → Prop) : Prop := wp_X2_takeAll_SHAFT_LINE F L (fun r_4 F_4 L_4 => ((¬ r_4 = 0 → wp_X2_needNew_nS F_4 L_4 (F_4 22 0) (x1 + 1) (fun F_27 L_27 => wp_X2_needRange F_27 L_27 (x1 + 3) 0 ((F_27 21 0) - 1) (fun F_44 L_44 => wp_X2_needRange F_44 L_44 (x1 + 5) 1 30 (fun F_54 L_54 => ((¬ (F_54 67 0) = 0 → K 1 F_54 L_54) ∧ ((F_54 67 0) = 0 → (∀ L_88 : L2, L_88 = ul2 L_54 62 (putl (L_54 62) 4 (F_54 22 0) (atl (L_54 76) 401 (x1 + 1))) → wp_X2_number F_54 L_88 (x1 + 3) (fun r_99 => wp_X2_number F_54 L_88 (x1 + 5) (fun r_106 => wp_X1_addShaft F_54 L_88 r_99 r_106 (fun F_109 L_109 => K 1 F_109 L_109)))))))))) ∧ (r_4 = 0 → K 0 F_4 L_4)))
set_option maxRecDepth 100000 in
set_option maxHeartbeats 4000000 in
theorem c_X2_shaftLine (l : Launch) (D : va_G) (Z : Nat → ClassId) (a q rx : Nat → Nat) (F : M2) (L : L2) (sz : Nat) (x1 : Int32) (K : Int32 → M2 → L2 → Prop) (hm : wp_X2_shaftLine F L x1 K) : Met l yX2_shaftLine (wy yX2_shaftLine cX2_shaftLine 2 (some .boolean)) (rk 3 0 0) (preR vwCl D Z rx (RK Z a q rx F L) sz [.ref (a 60), .int x1]) (poI vwCl D Z (fun u : M2 × L2 => RK Z a q rx u.1 u.2) (F, L) sz (fun (r : Int32) (u : M2 × L2) => K r u.1 u.2)) 0 0 (va_A (RK Z a q rx F L) sz) := by
  refine rw_ofR (ty := .boolean) (wsF := (fun u : M2 × L2 => RK Z a q rx u.1 u.2)) (u0 := (F, L)) (by decide +kernel) (Nat.le_of_ble_eq_true rfl) rfl ?_
  intro p e s m args below meth c Q A hC hN hR hsz hT hK hret ls hl
  have hx := hC.1
  have hb := hC.2.1
  have hl : lv_has ls 2 [(0, .ref (a 60)), (1, .int x1)] := hl
  have hT : TS vwCl D (RK Z a q rx F L) A s.heap s.heap [] := hT
  refine lv_aload_n hx hb dX2_shaftLine_0 rfl (lv_at hl 0 rfl) ?_
  refine va_getsN hx hb hR.SHAFT_LINE hT.2.2.1 hC.2.2.2.1 (va_Nw.use rfl (hN _ wn_1052)) (fun _ h => h) dX2_shaftLine_1 ?_
  refine k_X2_takeAll_SHAFT_LINE hC hN (hT.rd hR) hK hT hm wq_1014 (by decide) hl.1 (Nat.le_of_ble_eq_true rfl) ⟨Nat.le_refl _, Nat.le_refl _⟩ dX2_shaftLine_4 (fun r_4 F_4 L_4 H locs hm hT => ?_)
  refine lv_if_ne (tgt := 12) hx hb dX2_shaftLine_7 (by decide) (fun c_7 => ?_) (fun c_7 => ?_)
  · have hm := hm.1 c_7
    refine lv_aload_n hx hb dX2_shaftLine_12 rfl (lv_at hl 0 rfl) ?_
    refine lv_aload_n hx hb dX2_shaftLine_13 rfl (lv_at hl 0 rfl) ?_
    refine gRK_rd_2 hC hK hT.1 wq_387 dX2_shaftLine_14 ?_
    refine lv_aload_n hx hb dX2_shaftLine_17 rfl (lv_at hl 0 rfl) ?_
    refine gRK_rd_5 hC hK hT.1 wq_390 dX2_shaftLine_18 ?_
    refine gRK_plan_2 hC hK hT.1 wq_297 dX2_shaftLine_21 ?_
    refine lv_iload_n hx hb dX2_shaftLine_24 rfl (lv_at hl 1 rfl) ?_
    refine lv_iconst (v := 1) hx hb dX2_shaftLine_25 (by decide) ?_
    refine lv_iadd hx hb dX2_shaftLine_26 ?_
    refine kx_X2_needNew_nS hC hN hK hT (cx_KWRK Z a q rx F_4 L_4) rfl hm wq_1022 (by decide) hl.1 (Nat.le_of_ble_eq_true rfl) ⟨Nat.le_refl _, Nat.le_refl _⟩ dX2_shaftLine_27 (fun F_27 L_27 H locs hm hT => ?_)
    have hT : TS vwCl D (RK Z a q rx F_27 L_27) A s.heap H locs := hT
    refine lv_aload_n hx hb dX2_shaftLine_30 rfl (lv_at hl 0 rfl) ?_
    refine lv_iload_n hx hb dX2_shaftLine_31 rfl (lv_at hl 1 rfl) ?_
    refine lv_iconst (v := 3) hx hb dX2_shaftLine_32 (by decide) ?_
    refine lv_iadd hx hb dX2_shaftLine_33 ?_
    refine lv_iconst (v := 0) hx hb dX2_shaftLine_34 (by decide) ?_
    refine lv_aload_n hx hb dX2_shaftLine_35 rfl (lv_at hl 0 rfl) ?_
    refine gRK_rd_5 hC hK hT.1 wq_390 dX2_shaftLine_36 ?_
    refine gRK_plan_1 hC hK hT.1 wq_294 dX2_shaftLine_39 ?_
    refine lv_iconst (v := 1) hx hb dX2_shaftLine_42 (by decide) ?_
    refine lv_isub hx hb dX2_shaftLine_43 ?_
    refine kx_X2_needRange hC hN hK hT (cx_KWRK Z a q rx F_27 L_27) rfl hm wq_1034 (by decide) hl.1 (Nat.le_of_ble_eq_true rfl) ⟨Nat.le_refl _, Nat.le_refl _⟩ dX2_shaftLine_44 (fun F_44 L_44 H locs hm hT => ?_)
    have hT : TS vwCl D (RK Z a q rx F_44 L_44) A s.heap H locs := hT
    refine lv_aload_n hx hb dX2_shaftLine_47 rfl (lv_at hl 0 rfl) ?_
    refine lv_iload_n hx hb dX2_shaftLine_48 rfl (lv_at hl 1 rfl) ?_
    refine lv_iconst (v := 5) hx hb dX2_shaftLine_49 (by decide) ?_
    refine lv_iadd hx hb dX2_shaftLine_50 ?_
    refine lv_iconst (v := 1) hx hb dX2_shaftLine_51 (by decide) ?_
    refine lv_bipush (v := 30) hx hb dX2_shaftLine_52 (by decide) ?_
    refine kx_X2_needRange hC hN hK hT (cx_KWRK Z a q rx F_44 L_44) rfl hm wq_1034 (by decide) hl.1 (Nat.le_of_ble_eq_true rfl) ⟨Nat.le_refl _, Nat.le_refl _⟩ dX2_shaftLine_54 (fun F_54 L_54 H locs hm hT => ?_)
    have hT : TS vwCl D (RK Z a q rx F_54 L_54) A s.heap H locs := hT
    refine lv_aload_n hx hb dX2_shaftLine_57 rfl (lv_at hl 0 rfl) ?_
    refine gRK_rd_7 hC hK hT.1 wq_392 dX2_shaftLine_58 ?_
    refine lv_if_ne (tgt := 112) hx hb dX2_shaftLine_61 (by decide) (fun c_61 => ?_) (fun c_61 => ?_)
    · have hm := hm.1 c_61
      refine lv_iconst (v := 1) hx hb dX2_shaftLine_112 (by decide) ?_
      exact hret 113 _ _ _ _ (F_54, L_54) hm hT rfl dX2_shaftLine_113
    · have hm := hm.2 c_61
      refine lv_aload_n hx hb dX2_shaftLine_64 rfl (lv_at hl 0 rfl) ?_
      refine gRK_rd_2 hC hK hT.1 wq_387 dX2_shaftLine_65 ?_
      refine lv_aload_n hx hb dX2_shaftLine_68 rfl (lv_at hl 0 rfl) ?_
      refine gRK_rd_5 hC hK hT.1 wq_390 dX2_shaftLine_69 ?_
      refine gRK_plan_2 hC hK hT.1 wq_297 dX2_shaftLine_72 ?_
      refine lv_aload_n hx hb dX2_shaftLine_75 rfl (lv_at hl 0 rfl) ?_
      refine gRK_rd_0 hC hK hT.1 wq_385 dX2_shaftLine_76 ?_
      refine gRK_tok_5 hC hK hT.1 wq_218 dX2_shaftLine_79 ?_
      refine lv_iload_n hx hb dX2_shaftLine_82 rfl (lv_at hl 1 rfl) ?_
      refine lv_iconst (v := 1) hx hb dX2_shaftLine_83 (by decide) ?_
      refine lv_iadd hx hb dX2_shaftLine_84 ?_
      refine w_atl (q0 := 10) hC hN hK hT.1 wn_1026 rfl (by decide) (by decide) hl.1 (Nat.le_of_ble_eq_true rfl) ⟨Nat.le_refl _, Nat.le_refl _⟩ dX2_shaftLine_85 ?_
      refine uRK_nS hC hN hK hT wn_1042 (by decide) hl.1 (Nat.le_of_ble_eq_true rfl) ⟨Nat.le_refl _, Nat.le_refl _⟩ dX2_shaftLine_88 (fun L_88 eL_88 H locs hT => ?_)
      have hm := hm L_88 eL_88
      refine lv_aload_n hx hb dX2_shaftLine_91 rfl (lv_at hl 0 rfl) ?_
      refine gRK_rd_5 hC hK hT.1 wq_390 dX2_shaftLine_92 ?_
      refine lv_aload_n hx hb dX2_shaftLine_95 rfl (lv_at hl 0 rfl) ?_
      refine lv_iload_n hx hb dX2_shaftLine_96 rfl (lv_at hl 1 rfl) ?_
      refine lv_iconst (v := 3) hx hb dX2_shaftLine_97 (by decide) ?_
      refine lv_iadd hx hb dX2_shaftLine_98 ?_
      refine kx_X2_number hC hN hK hT.1 hT.D' (sx_KWRK Z a q rx F_54 L_88) rfl hm wq_1038 (by decide) hl.1 (Nat.le_of_ble_eq_true rfl) ⟨Nat.le_refl _, Nat.le_refl _⟩ dX2_shaftLine_99 (fun r_99 hm => ?_)
      refine lv_aload_n hx hb dX2_shaftLine_102 rfl (lv_at hl 0 rfl) ?_
      refine lv_iload_n hx hb dX2_shaftLine_103 rfl (lv_at hl 1 rfl) ?_
      refine lv_iconst (v := 5) hx hb dX2_shaftLine_104 (by decide) ?_
      refine lv_iadd hx hb dX2_shaftLine_105 ?_
      refine kx_X2_number hC hN hK hT.1 hT.D' (sx_KWRK Z a q rx F_54 L_88) rfl hm wq_1038 (by decide) hl.1 (Nat.le_of_ble_eq_true rfl) ⟨Nat.le_refl _, Nat.le_refl _⟩ dX2_shaftLine_106 (fun r_106 hm => ?_)
      refine kx_X1_addShaft hC hN hK hT (cx_KWRK Z a q rx F_54 L_88) rfl hm wq_1054 (by decide) hl.1 (Nat.le_of_ble_eq_true rfl) ⟨Nat.le_refl _, Nat.le_refl _⟩ dX2_shaftLine_109 (fun F_109 L_109 H locs hm hT => ?_)
      have hT : TS vwCl D (RK Z a q rx F_109 L_109) A s.heap H locs := hT
      refine lv_iconst (v := 1) hx hb dX2_shaftLine_112 (by decide) ?_
      exact hret 113 _ _ _ _ (F_109, L_109) hm hT rfl dX2_shaftLine_113
  · have hm := hm.2 c_7
    refine lv_iconst (v := 0) hx hb dX2_shaftLine_10 (by decide) ?_
    exact hret 11 _ _ _ _ (F_4, L_4) hm hT rfl dX2_shaftLine_11
section KX2_shaftLine
variable {p : Program} {l : Launch} {e : Env} {s : State} {m : MethodId} {args : Array Value} {below : List Frame} {meth : Method} {c : Code} {H H0 : Heap} {locs : List Loc} {cells slots : Nat} {Q : State → Prop} {R : Room} {rn mcR msR : Nat}
variable {pc : Nat} {ls : Array Slot} {rest : List Value} {A : Nat → Prop} {D : va_G}
variable {cc : ByteArray} {nL index : Nat} {own host : String}
theorem k_X2_shaftLine {Z : Nat → ClassId} {a q rx : Nat → Nat} {F : M2} {L : L2} {x1 : Int32} {K : Int32 → M2 → L2 → Prop} (hC : CallFix p m c cc nL s args lw_g own) (hN : NW s) (hR : RD rx (va_A (RK Z a q rx F L) H.size) s H) (hK : va_K D vwCl (tysG Z) s) (hT : TS vwCl D (RK Z a q rx F L) A H0 H locs) (hm : wp_X2_shaftLine F L x1 K) (hl : Cond.methodLink own index yX2_shaftLine ∈ lw_g) (hlt : 3 < rn) (hsize : ls.size = nL) (hW : (rest.map fun v => v.category).sum ≤ 8) (hf : cells + 0 ≤ mcR ∧ slots + 0 ≤ msR) (hdg : decode cc pc = .ok (.invokevirtual index, 3)) (kk : ∀ (r : Int32) (F1 : M2) (L1 : L2) (H1 : Heap) (locs1 : List Loc), K r F1 L1 → TS vwCl D (RK Z a q rx F1 L1) A H0 H1 locs1 → W p l e (rk rn mcR msR) s m args below meth c H1 locs1 cells slots Q (F0 m (pc + 3) ls (.int r :: rest))) : W p l e (rk rn mcR msR) s m args below meth c H locs cells slots Q (F0 m pc ls (.int x1 :: .ref (a 60) :: rest)) :=
  rw_go (wsF := (fun u : M2 × L2 => RK Z a q rx u.1 u.2)) (u0 := (F, L)) (wr := []) (isC := cutRK) (isR := []) (pm := cutRK) (ws' := (fun u : M2 × L2 => RK Z a q rx u.1 u.2)) (runVR (As := [.int x1]) hC hN hR (c_X2_shaftLine l D Z a q rx F L H.size x1 K hm) mi_X2_shaftLine hl wq_1050 wq_46 hlt hT.1 hT.D' hK (q0 := 0) rfl rfl rfl hsize rfl hW hdg hf) (cutOkRK Z a q rx F L) hT (fun r u H1 locs1 hk hT1 => kk r u.1 u.2 H1 locs1 hk hT1)
end KX2_shaftLine
def wp_X2_leggerLine (F : M2) (L : L2) (x1 : Int32) (K : Int32 → M2 → L2 → Prop) : Prop := wp_X2_takeAll_LEGGER_LINE F L (fun r_4 F_4 L_4 => ((¬ r_4 = 0 → wp_X2_needNew_nL F_4 L_4 (F_4 23 0) (x1 + 1) (fun F_27 L_27 => wp_X2_needRange F_27 L_27 (x1 + 3) 1 9 (fun F_37 L_37 => wp_X2_needRange F_37 L_37 (x1 + 5) 1 9 (fun F_47 L_47 => ((¬ (F_47 67 0) = 0 → K 1 F_47 L_47) ∧ ((F_47 67 0) = 0 → (∀ L_81 : L2, L_81 = ul2 L_47 63 (putl (L_47 63) 6 (F_47 23 0) (atl (L_47 76) 401 (x1 + 1))) → wp_X2_number F_47 L_81 (x1 + 3) (fun r_92 => wp_X2_number F_47 L_81 (x1 + 5) (fun r_99 => wp_X1_addLegger F_47 L_81 r_92 r_99 (fun F_102 L_102 => K 1 F_102 L_102)))))))))) ∧ (r_4 = 0 → K 0 F_4 L_4)))
set_option maxRecDepth 100000 in
set_option maxHeartbeats 4000000 in
theorem c_X2_leggerLine (l : Launch) (D : va_G) (Z : Nat → ClassId) (a q rx : Nat → Nat) (F : M2) (L : L2) (sz : Nat) (x1 : Int32) (K : Int32 → M2 → L2 → Prop) (hm : wp_X2_leggerLine F L x1 K) : Met l yX2_leggerLine (wy yX2_leggerLine cX2_leggerLine 2 (some .boolean)) (rk 3 0 0) (preR vwCl D Z rx (RK Z a q rx F L) sz [.ref (a 60), .int x1]) (poI vwCl D Z (fun u : M2 × L2 => RK Z a q rx u.1 u.2) (F, L) sz (fun (r : Int32) (u : M2 × L2) => K r u.1 u.2)) 0 0 (va_A (RK Z a q rx F L) sz) := by
  refine rw_ofR (ty := .boolean) (wsF := (fun u : M2 × L2 => RK Z a q rx u.1 u.2)) (u0 := (F, L)) (by decide +kernel) (Nat.le_of_ble_eq_true rfl) rfl ?_
  intro p e s m args below meth c Q A hC hN hR hsz hT hK hret ls hl
  have hx := hC.1
  have hb := hC.2.1
  have hl : lv_has ls 2 [(0, .ref (a 60)), (1, .int x1)] := hl
  have hT : TS vwCl D (RK Z a q rx F L) A s.heap s.heap [] := hT
  refine lv_aload_n hx hb dX2_leggerLine_0 rfl (lv_at hl 0 rfl) ?_
  refine va_getsN hx hb hR.LEGGER_LINE hT.2.2.1 hC.2.2.2.1 (va_Nw.use rfl (hN _ wn_1062)) (fun _ h => h) dX2_leggerLine_1 ?_
  refine k_X2_takeAll_LEGGER_LINE hC hN (hT.rd hR) hK hT hm wq_1014 (by decide) hl.1 (Nat.le_of_ble_eq_true rfl) ⟨Nat.le_refl _, Nat.le_refl _⟩ dX2_leggerLine_4 (fun r_4 F_4 L_4 H locs hm hT => ?_)
  refine lv_if_ne (tgt := 12) hx hb dX2_leggerLine_7 (by decide) (fun c_7 => ?_) (fun c_7 => ?_)
  · have hm := hm.1 c_7
    refine lv_aload_n hx hb dX2_leggerLine_12 rfl (lv_at hl 0 rfl) ?_
    refine lv_aload_n hx hb dX2_leggerLine_13 rfl (lv_at hl 0 rfl) ?_
    refine gRK_rd_3 hC hK hT.1 wq_388 dX2_leggerLine_14 ?_
    refine lv_aload_n hx hb dX2_leggerLine_17 rfl (lv_at hl 0 rfl) ?_
    refine gRK_rd_5 hC hK hT.1 wq_390 dX2_leggerLine_18 ?_
    refine gRK_plan_3 hC hK hT.1 wq_302 dX2_leggerLine_21 ?_
    refine lv_iload_n hx hb dX2_leggerLine_24 rfl (lv_at hl 1 rfl) ?_
    refine lv_iconst (v := 1) hx hb dX2_leggerLine_25 (by decide) ?_
    refine lv_iadd hx hb dX2_leggerLine_26 ?_
    refine kx_X2_needNew_nL hC hN hK hT (cx_KWRK Z a q rx F_4 L_4) rfl hm wq_1022 (by decide) hl.1 (Nat.le_of_ble_eq_true rfl) ⟨Nat.le_refl _, Nat.le_refl _⟩ dX2_leggerLine_27 (fun F_27 L_27 H locs hm hT => ?_)
    have hT : TS vwCl D (RK Z a q rx F_27 L_27) A s.heap H locs := hT
    refine lv_aload_n hx hb dX2_leggerLine_30 rfl (lv_at hl 0 rfl) ?_
    refine lv_iload_n hx hb dX2_leggerLine_31 rfl (lv_at hl 1 rfl) ?_
    refine lv_iconst (v := 3) hx hb dX2_leggerLine_32 (by decide) ?_
    refine lv_iadd hx hb dX2_leggerLine_33 ?_
    refine lv_iconst (v := 1) hx hb dX2_leggerLine_34 (by decide) ?_
    refine lv_bipush (v := 9) hx hb dX2_leggerLine_35 (by decide) ?_
    refine kx_X2_needRange hC hN hK hT (cx_KWRK Z a q rx F_27 L_27) rfl hm wq_1034 (by decide) hl.1 (Nat.le_of_ble_eq_true rfl) ⟨Nat.le_refl _, Nat.le_refl _⟩ dX2_leggerLine_37 (fun F_37 L_37 H locs hm hT => ?_)
    have hT : TS vwCl D (RK Z a q rx F_37 L_37) A s.heap H locs := hT
    refine lv_aload_n hx hb dX2_leggerLine_40 rfl (lv_at hl 0 rfl) ?_
    refine lv_iload_n hx hb dX2_leggerLine_41 rfl (lv_at hl 1 rfl) ?_
    refine lv_iconst (v := 5) hx hb dX2_leggerLine_42 (by decide) ?_
    refine lv_iadd hx hb dX2_leggerLine_43 ?_
    refine lv_iconst (v := 1) hx hb dX2_leggerLine_44 (by decide) ?_
    refine lv_bipush (v := 9) hx hb dX2_leggerLine_45 (by decide) ?_
    refine kx_X2_needRange hC hN hK hT (cx_KWRK Z a q rx F_37 L_37) rfl hm wq_1034 (by decide) hl.1 (Nat.le_of_ble_eq_true rfl) ⟨Nat.le_refl _, Nat.le_refl _⟩ dX2_leggerLine_47 (fun F_47 L_47 H locs hm hT => ?_)
    have hT : TS vwCl D (RK Z a q rx F_47 L_47) A s.heap H locs := hT
    refine lv_aload_n hx hb dX2_leggerLine_50 rfl (lv_at hl 0 rfl) ?_
    refine gRK_rd_7 hC hK hT.1 wq_392 dX2_leggerLine_51 ?_
    refine lv_if_ne (tgt := 105) hx hb dX2_leggerLine_54 (by decide) (fun c_54 => ?_) (fun c_54 => ?_)
    · have hm := hm.1 c_54
      refine lv_iconst (v := 1) hx hb dX2_leggerLine_105 (by decide) ?_
      exact hret 106 _ _ _ _ (F_47, L_47) hm hT rfl dX2_leggerLine_106
    · have hm := hm.2 c_54
      refine lv_aload_n hx hb dX2_leggerLine_57 rfl (lv_at hl 0 rfl) ?_
      refine gRK_rd_3 hC hK hT.1 wq_388 dX2_leggerLine_58 ?_
      refine lv_aload_n hx hb dX2_leggerLine_61 rfl (lv_at hl 0 rfl) ?_
      refine gRK_rd_5 hC hK hT.1 wq_390 dX2_leggerLine_62 ?_
      refine gRK_plan_3 hC hK hT.1 wq_302 dX2_leggerLine_65 ?_
      refine lv_aload_n hx hb dX2_leggerLine_68 rfl (lv_at hl 0 rfl) ?_
      refine gRK_rd_0 hC hK hT.1 wq_385 dX2_leggerLine_69 ?_
      refine gRK_tok_5 hC hK hT.1 wq_218 dX2_leggerLine_72 ?_
      refine lv_iload_n hx hb dX2_leggerLine_75 rfl (lv_at hl 1 rfl) ?_
      refine lv_iconst (v := 1) hx hb dX2_leggerLine_76 (by decide) ?_
      refine lv_iadd hx hb dX2_leggerLine_77 ?_
      refine w_atl (q0 := 10) hC hN hK hT.1 wn_1026 rfl (by decide) (by decide) hl.1 (Nat.le_of_ble_eq_true rfl) ⟨Nat.le_refl _, Nat.le_refl _⟩ dX2_leggerLine_78 ?_
      refine uRK_nL hC hN hK hT wn_1042 (by decide) hl.1 (Nat.le_of_ble_eq_true rfl) ⟨Nat.le_refl _, Nat.le_refl _⟩ dX2_leggerLine_81 (fun L_81 eL_81 H locs hT => ?_)
      have hm := hm L_81 eL_81
      refine lv_aload_n hx hb dX2_leggerLine_84 rfl (lv_at hl 0 rfl) ?_
      refine gRK_rd_5 hC hK hT.1 wq_390 dX2_leggerLine_85 ?_
      refine lv_aload_n hx hb dX2_leggerLine_88 rfl (lv_at hl 0 rfl) ?_
      refine lv_iload_n hx hb dX2_leggerLine_89 rfl (lv_at hl 1 rfl) ?_
      refine lv_iconst (v := 3) hx hb dX2_leggerLine_90 (by decide) ?_
      refine lv_iadd hx hb dX2_leggerLine_91 ?_
      refine kx_X2_number hC hN hK hT.1 hT.D' (sx_KWRK Z a q rx F_47 L_81) rfl hm wq_1038 (by decide) hl.1 (Nat.le_of_ble_eq_true rfl) ⟨Nat.le_refl _, Nat.le_refl _⟩ dX2_leggerLine_92 (fun r_92 hm => ?_)
      refine lv_aload_n hx hb dX2_leggerLine_95 rfl (lv_at hl 0 rfl) ?_
      refine lv_iload_n hx hb dX2_leggerLine_96 rfl (lv_at hl 1 rfl) ?_
      refine lv_iconst (v := 5) hx hb dX2_leggerLine_97 (by decide) ?_
      refine lv_iadd hx hb dX2_leggerLine_98 ?_
      refine kx_X2_number hC hN hK hT.1 hT.D' (sx_KWRK Z a q rx F_47 L_81) rfl hm wq_1038 (by decide) hl.1 (Nat.le_of_ble_eq_true rfl) ⟨Nat.le_refl _, Nat.le_refl _⟩ dX2_leggerLine_99 (fun r_99 hm => ?_)
      refine kx_X1_addLegger hC hN hK hT (cx_KWRK Z a q rx F_47 L_81) rfl hm wq_1064 (by decide) hl.1 (Nat.le_of_ble_eq_true rfl) ⟨Nat.le_refl _, Nat.le_refl _⟩ dX2_leggerLine_102 (fun F_102 L_102 H locs hm hT => ?_)
      have hT : TS vwCl D (RK Z a q rx F_102 L_102) A s.heap H locs := hT
      refine lv_iconst (v := 1) hx hb dX2_leggerLine_105 (by decide) ?_
      exact hret 106 _ _ _ _ (F_102, L_102) hm hT rfl dX2_leggerLine_106
  · have hm := hm.2 c_7
    refine lv_iconst (v := 0) hx hb dX2_leggerLine_10 (by decide) ?_
    exact hret 11 _ _ _ _ (F_4, L_4) hm hT rfl dX2_leggerLine_11
section KX2_leggerLine
variable {p : Program} {l : Launch} {e : Env} {s : State} {m : MethodId} {args : Array Value} {below : List Frame} {meth : Method} {c : Code} {H H0 : Heap} {locs : List Loc} {cells slots : Nat} {Q : State → Prop} {R : Room} {rn mcR msR : Nat}
variable {pc : Nat} {ls : Array Slot} {rest : List Value} {A : Nat → Prop} {D : va_G}
variable {cc : ByteArray} {nL index : Nat} {own host : String}
theorem k_X2_leggerLine {Z : Nat → ClassId} {a q rx : Nat → Nat} {F : M2} {L : L2} {x1 : Int32} {K : Int32 → M2 → L2 → Prop} (hC : CallFix p m c cc nL s args lw_g own) (hN : NW s) (hR : RD rx (va_A (RK Z a q rx F L) H.size) s H) (hK : va_K D vwCl (tysG Z) s) (hT : TS vwCl D (RK Z a q rx F L) A H0 H locs) (hm : wp_X2_leggerLine F L x1 K) (hl : Cond.methodLink own index yX2_leggerLine ∈ lw_g) (hlt : 3 < rn) (hsize : ls.size = nL) (hW : (rest.map fun v => v.category).sum ≤ 8) (hf : cells + 0 ≤ mcR ∧ slots + 0 ≤ msR) (hdg : decode cc pc = .ok (.invokevirtual index, 3)) (kk : ∀ (r : Int32) (F1 : M2) (L1 : L2) (H1 : Heap) (locs1 : List Loc), K r F1 L1 → TS vwCl D (RK Z a q rx F1 L1) A H0 H1 locs1 → W p l e (rk rn mcR msR) s m args below meth c H1 locs1 cells slots Q (F0 m (pc + 3) ls (.int r :: rest))) : W p l e (rk rn mcR msR) s m args below meth c H locs cells slots Q (F0 m pc ls (.int x1 :: .ref (a 60) :: rest)) :=
  rw_go (wsF := (fun u : M2 × L2 => RK Z a q rx u.1 u.2)) (u0 := (F, L)) (wr := []) (isC := cutRK) (isR := []) (pm := cutRK) (ws' := (fun u : M2 × L2 => RK Z a q rx u.1 u.2)) (runVR (As := [.int x1]) hC hN hR (c_X2_leggerLine l D Z a q rx F L H.size x1 K hm) mi_X2_leggerLine hl wq_1060 wq_47 hlt hT.1 hT.D' hK (q0 := 0) rfl rfl rfl hsize rfl hW hdg hf) (cutOkRK Z a q rx F L) hT (fun r u H1 locs1 hk hT1 => kk r u.1 u.2 H1 locs1 hk hT1)
end KX2_leggerLine
def wj_X2_boatLine_106 (K : Int32 → M2 → L2 → Prop) (F : M2) (L : L2) (v1 : Int32) (v2 : Int32) (v3 : Int32) : Prop := ((¬ (F 67 0) = 0 → K 1 F L) ∧ ((F 67 0) = 0 → (∀ L_137 : L2, L_137 = ul2 L 64 (putl (L 64) 8 (F 24 0) (atl (L 76) 401 (v1 + 1))) → wp_X2_number F L_137 (v1 + 3) (fun r_148 => wp_X2_number F L_137 (v1 + 5) (fun r_155 => wp_X2_number F L_137 (v1 + 7) (fun r_163 => wp_X1_addBoat F L_137 r_148 r_155 r_163 v2 v3 (fun F_168 L_168 => K 1 F_168 L_168)))))))
def wp_X2_boatLine (F : M2) (L : L2) (x1 : Int32) (K : Int32 → M2 → L2 → Prop) : Prop := wp_X2_takeAll_BOAT_LINE F L (fun r_4 F_4 L_4 => ((¬ r_4 = 0 → wp_X2_needNew_nO F_4 L_4 (F_4 24 0) (x1 + 1) (fun F_27 L_27 => wp_X2_needRange F_27 L_27 (x1 + 3) 1 60 (fun F_37 L_37 => wp_X2_needRange F_37 L_37 (x1 + 7) 0 999 (fun F_49 L_49 => wp_X2_needKnown_nL F_49 L_49 (F_49 23 0) (x1 + 9) (fun r_68 F_68 L_68 => wp_X2_needKnown_nL F_68 L_68 (F_68 23 0) (x1 + 11) (fun r_88 F_88 L_88 => ((¬ r_88 = r_68 → wj_X2_boatLine_106 K F_88 L_88 x1 r_68 r_88) ∧ (r_88 = r_68 → wp_X2_tellFault F_88 L_88 5 (x1 + 11) (fun F_103 L_103 => wj_X2_boatLine_106 K F_103 L_103 x1 r_68 r_88))))))))) ∧ (r_4 = 0 → K 0 F_4 L_4)))
set_option maxRecDepth 100000 in
set_option maxHeartbeats 4000000 in
theorem c_X2_boatLine (l : Launch) (D : va_G) (Z : Nat → ClassId) (a q rx : Nat → Nat) (F : M2) (L : L2) (sz : Nat) (x1 : Int32) (K : Int32 → M2 → L2 → Prop) (hm : wp_X2_boatLine F L x1 K) : Met l yX2_boatLine (wy yX2_boatLine cX2_boatLine 4 (some .boolean)) (rk 3 0 0) (preR vwCl D Z rx (RK Z a q rx F L) sz [.ref (a 60), .int x1]) (poI vwCl D Z (fun u : M2 × L2 => RK Z a q rx u.1 u.2) (F, L) sz (fun (r : Int32) (u : M2 × L2) => K r u.1 u.2)) 0 0 (va_A (RK Z a q rx F L) sz) := by
  refine rw_ofR (ty := .boolean) (wsF := (fun u : M2 × L2 => RK Z a q rx u.1 u.2)) (u0 := (F, L)) (by decide +kernel) (Nat.le_of_ble_eq_true rfl) rfl ?_
  intro p e s m args below meth c Q A hC hN hR hsz hT hK hret ls hl
  have hx := hC.1
  have hb := hC.2.1
  have hl : lv_has ls 4 [(0, .ref (a 60)), (1, .int x1)] := hl
  have hT : TS vwCl D (RK Z a q rx F L) A s.heap s.heap [] := hT
  have L106 : ∀ (F : M2) (L : L2) (v1 : Int32) (v2 : Int32) (v3 : Int32) (H : Heap) (locs : List Loc) (ls : Array Slot), wj_X2_boatLine_106 K F L v1 v2 v3 → TS vwCl D (RK Z a q rx F L) A s.heap H locs → lv_has ls 4 [(0, .ref (a 60)), (1, .int v1), (2, .int v2), (3, .int v3)] → W p l e (rk 3 0 0) s m args below meth c H locs 0 0 Q (F0 m 106 ls []) := by
    intro F L v1 v2 v3 H locs ls hm hT hl
    refine lv_aload_n hx hb dX2_boatLine_106 rfl (lv_at hl 0 rfl) ?_
    refine gRK_rd_7 hC hK hT.1 wq_392 dX2_boatLine_107 ?_
    refine lv_if_ne (tgt := 171) hx hb dX2_boatLine_110 (by decide) (fun c_110 => ?_) (fun c_110 => ?_)
    · have hm := hm.1 c_110
      refine lv_iconst (v := 1) hx hb dX2_boatLine_171 (by decide) ?_
      exact hret 172 _ _ _ _ (F, L) hm hT rfl dX2_boatLine_172
    · have hm := hm.2 c_110
      refine lv_aload_n hx hb dX2_boatLine_113 rfl (lv_at hl 0 rfl) ?_
      refine gRK_rd_4 hC hK hT.1 wq_389 dX2_boatLine_114 ?_
      refine lv_aload_n hx hb dX2_boatLine_117 rfl (lv_at hl 0 rfl) ?_
      refine gRK_rd_5 hC hK hT.1 wq_390 dX2_boatLine_118 ?_
      refine gRK_plan_4 hC hK hT.1 wq_306 dX2_boatLine_121 ?_
      refine lv_aload_n hx hb dX2_boatLine_124 rfl (lv_at hl 0 rfl) ?_
      refine gRK_rd_0 hC hK hT.1 wq_385 dX2_boatLine_125 ?_
      refine gRK_tok_5 hC hK hT.1 wq_218 dX2_boatLine_128 ?_
      refine lv_iload_n hx hb dX2_boatLine_131 rfl (lv_at hl 1 rfl) ?_
      refine lv_iconst (v := 1) hx hb dX2_boatLine_132 (by decide) ?_
      refine lv_iadd hx hb dX2_boatLine_133 ?_
      refine w_atl (q0 := 10) hC hN hK hT.1 wn_1026 rfl (by decide) (by decide) hl.1 (Nat.le_of_ble_eq_true rfl) ⟨Nat.le_refl _, Nat.le_refl _⟩ dX2_boatLine_134 ?_
      refine uRK_nO hC hN hK hT wn_1042 (by decide) hl.1 (Nat.le_of_ble_eq_true rfl) ⟨Nat.le_refl _, Nat.le_refl _⟩ dX2_boatLine_137 (fun L_137 eL_137 H locs hT => ?_)
      have hm := hm L_137 eL_137
      refine lv_aload_n hx hb dX2_boatLine_140 rfl (lv_at hl 0 rfl) ?_
      refine gRK_rd_5 hC hK hT.1 wq_390 dX2_boatLine_141 ?_
      refine lv_aload_n hx hb dX2_boatLine_144 rfl (lv_at hl 0 rfl) ?_
      refine lv_iload_n hx hb dX2_boatLine_145 rfl (lv_at hl 1 rfl) ?_
      refine lv_iconst (v := 3) hx hb dX2_boatLine_146 (by decide) ?_
      refine lv_iadd hx hb dX2_boatLine_147 ?_
      refine kx_X2_number hC hN hK hT.1 hT.D' (sx_KWRK Z a q rx F L_137) rfl hm wq_1038 (by decide) hl.1 (Nat.le_of_ble_eq_true rfl) ⟨Nat.le_refl _, Nat.le_refl _⟩ dX2_boatLine_148 (fun r_148 hm => ?_)
      refine lv_aload_n hx hb dX2_boatLine_151 rfl (lv_at hl 0 rfl) ?_
      refine lv_iload_n hx hb dX2_boatLine_152 rfl (lv_at hl 1 rfl) ?_
      refine lv_iconst (v := 5) hx hb dX2_boatLine_153 (by decide) ?_
      refine lv_iadd hx hb dX2_boatLine_154 ?_
      refine kx_X2_number hC hN hK hT.1 hT.D' (sx_KWRK Z a q rx F L_137) rfl hm wq_1038 (by decide) hl.1 (Nat.le_of_ble_eq_true rfl) ⟨Nat.le_refl _, Nat.le_refl _⟩ dX2_boatLine_155 (fun r_155 hm => ?_)
      refine lv_aload_n hx hb dX2_boatLine_158 rfl (lv_at hl 0 rfl) ?_
      refine lv_iload_n hx hb dX2_boatLine_159 rfl (lv_at hl 1 rfl) ?_
      refine lv_bipush (v := 7) hx hb dX2_boatLine_160 (by decide) ?_
      refine lv_iadd hx hb dX2_boatLine_162 ?_
      refine kx_X2_number hC hN hK hT.1 hT.D' (sx_KWRK Z a q rx F L_137) rfl hm wq_1038 (by decide) hl.1 (Nat.le_of_ble_eq_true rfl) ⟨Nat.le_refl _, Nat.le_refl _⟩ dX2_boatLine_163 (fun r_163 hm => ?_)
      refine lv_iload_n hx hb dX2_boatLine_166 rfl (lv_at hl 2 rfl) ?_
      refine lv_iload_n hx hb dX2_boatLine_167 rfl (lv_at hl 3 rfl) ?_
      refine kx_X1_addBoat hC hN hK hT (cx_KWRK Z a q rx F L_137) rfl hm wq_1078 (by decide) hl.1 (Nat.le_of_ble_eq_true rfl) ⟨Nat.le_refl _, Nat.le_refl _⟩ dX2_boatLine_168 (fun F_168 L_168 H locs hm hT => ?_)
      have hT : TS vwCl D (RK Z a q rx F_168 L_168) A s.heap H locs := hT
      refine lv_iconst (v := 1) hx hb dX2_boatLine_171 (by decide) ?_
      exact hret 172 _ _ _ _ (F_168, L_168) hm hT rfl dX2_boatLine_172
  refine lv_aload_n hx hb dX2_boatLine_0 rfl (lv_at hl 0 rfl) ?_
  refine va_getsN hx hb hR.BOAT_LINE hT.2.2.1 hC.2.2.2.1 (va_Nw.use rfl (hN _ wn_1072)) (fun _ h => h) dX2_boatLine_1 ?_
  refine k_X2_takeAll_BOAT_LINE hC hN (hT.rd hR) hK hT hm wq_1014 (by decide) hl.1 (Nat.le_of_ble_eq_true rfl) ⟨Nat.le_refl _, Nat.le_refl _⟩ dX2_boatLine_4 (fun r_4 F_4 L_4 H locs hm hT => ?_)
  refine lv_if_ne (tgt := 12) hx hb dX2_boatLine_7 (by decide) (fun c_7 => ?_) (fun c_7 => ?_)
  · have hm := hm.1 c_7
    refine lv_aload_n hx hb dX2_boatLine_12 rfl (lv_at hl 0 rfl) ?_
    refine lv_aload_n hx hb dX2_boatLine_13 rfl (lv_at hl 0 rfl) ?_
    refine gRK_rd_4 hC hK hT.1 wq_389 dX2_boatLine_14 ?_
    refine lv_aload_n hx hb dX2_boatLine_17 rfl (lv_at hl 0 rfl) ?_
    refine gRK_rd_5 hC hK hT.1 wq_390 dX2_boatLine_18 ?_
    refine gRK_plan_4 hC hK hT.1 wq_306 dX2_boatLine_21 ?_
    refine lv_iload_n hx hb dX2_boatLine_24 rfl (lv_at hl 1 rfl) ?_
    refine lv_iconst (v := 1) hx hb dX2_boatLine_25 (by decide) ?_
    refine lv_iadd hx hb dX2_boatLine_26 ?_
    refine kx_X2_needNew_nO hC hN hK hT (cx_KWRK Z a q rx F_4 L_4) rfl hm wq_1022 (by decide) hl.1 (Nat.le_of_ble_eq_true rfl) ⟨Nat.le_refl _, Nat.le_refl _⟩ dX2_boatLine_27 (fun F_27 L_27 H locs hm hT => ?_)
    have hT : TS vwCl D (RK Z a q rx F_27 L_27) A s.heap H locs := hT
    refine lv_aload_n hx hb dX2_boatLine_30 rfl (lv_at hl 0 rfl) ?_
    refine lv_iload_n hx hb dX2_boatLine_31 rfl (lv_at hl 1 rfl) ?_
    refine lv_iconst (v := 3) hx hb dX2_boatLine_32 (by decide) ?_
    refine lv_iadd hx hb dX2_boatLine_33 ?_
    refine lv_iconst (v := 1) hx hb dX2_boatLine_34 (by decide) ?_
    refine lv_bipush (v := 60) hx hb dX2_boatLine_35 (by decide) ?_
    refine kx_X2_needRange hC hN hK hT (cx_KWRK Z a q rx F_27 L_27) rfl hm wq_1034 (by decide) hl.1 (Nat.le_of_ble_eq_true rfl) ⟨Nat.le_refl _, Nat.le_refl _⟩ dX2_boatLine_37 (fun F_37 L_37 H locs hm hT => ?_)
    have hT : TS vwCl D (RK Z a q rx F_37 L_37) A s.heap H locs := hT
    refine lv_aload_n hx hb dX2_boatLine_40 rfl (lv_at hl 0 rfl) ?_
    refine lv_iload_n hx hb dX2_boatLine_41 rfl (lv_at hl 1 rfl) ?_
    refine lv_bipush (v := 7) hx hb dX2_boatLine_42 (by decide) ?_
    refine lv_iadd hx hb dX2_boatLine_44 ?_
    refine lv_iconst (v := 0) hx hb dX2_boatLine_45 (by decide) ?_
    refine lv_sipush (v := 999) hx hb dX2_boatLine_46 (by decide) ?_
    refine kx_X2_needRange hC hN hK hT (cx_KWRK Z a q rx F_37 L_37) rfl hm wq_1034 (by decide) hl.1 (Nat.le_of_ble_eq_true rfl) ⟨Nat.le_refl _, Nat.le_refl _⟩ dX2_boatLine_49 (fun F_49 L_49 H locs hm hT => ?_)
    have hT : TS vwCl D (RK Z a q rx F_49 L_49) A s.heap H locs := hT
    refine lv_aload_n hx hb dX2_boatLine_52 rfl (lv_at hl 0 rfl) ?_
    refine lv_aload_n hx hb dX2_boatLine_53 rfl (lv_at hl 0 rfl) ?_
    refine gRK_rd_3 hC hK hT.1 wq_388 dX2_boatLine_54 ?_
    refine lv_aload_n hx hb dX2_boatLine_57 rfl (lv_at hl 0 rfl) ?_
    refine gRK_rd_5 hC hK hT.1 wq_390 dX2_boatLine_58 ?_
    refine gRK_plan_3 hC hK hT.1 wq_302 dX2_boatLine_61 ?_
    refine lv_iload_n hx hb dX2_boatLine_64 rfl (lv_at hl 1 rfl) ?_
    refine lv_bipush (v := 9) hx hb dX2_boatLine_65 (by decide) ?_
    refine lv_iadd hx hb dX2_boatLine_67 ?_
    refine kx_X2_needKnown_nL hC hN hK hT (cx_KWRK Z a q rx F_49 L_49) rfl hm wq_1074 (by decide) hl.1 (Nat.le_of_ble_eq_true rfl) ⟨Nat.le_refl _, Nat.le_refl _⟩ dX2_boatLine_68 (fun r_68 F_68 L_68 H locs hm hT => ?_)
    have hT : TS vwCl D (RK Z a q rx F_68 L_68) A s.heap H locs := hT
    refine lv_istore_n (lv' := [(2, .int r_68), (0, .ref (a 60)), (1, .int x1)]) hx hb dX2_boatLine_71 rfl hl (by decide) rfl (fun ls hl => ?_)
    refine lv_aload_n hx hb dX2_boatLine_72 rfl (lv_at hl 1 rfl) ?_
    refine lv_aload_n hx hb dX2_boatLine_73 rfl (lv_at hl 1 rfl) ?_
    refine gRK_rd_3 hC hK hT.1 wq_388 dX2_boatLine_74 ?_
    refine lv_aload_n hx hb dX2_boatLine_77 rfl (lv_at hl 1 rfl) ?_
    refine gRK_rd_5 hC hK hT.1 wq_390 dX2_boatLine_78 ?_
    refine gRK_plan_3 hC hK hT.1 wq_302 dX2_boatLine_81 ?_
    refine lv_iload_n hx hb dX2_boatLine_84 rfl (lv_at hl 2 rfl) ?_
    refine lv_bipush (v := 11) hx hb dX2_boatLine_85 (by decide) ?_
    refine lv_iadd hx hb dX2_boatLine_87 ?_
    refine kx_X2_needKnown_nL hC hN hK hT (cx_KWRK Z a q rx F_68 L_68) rfl hm wq_1074 (by decide) hl.1 (Nat.le_of_ble_eq_true rfl) ⟨Nat.le_refl _, Nat.le_refl _⟩ dX2_boatLine_88 (fun r_88 F_88 L_88 H locs hm hT => ?_)
    have hT : TS vwCl D (RK Z a q rx F_88 L_88) A s.heap H locs := hT
    refine lv_istore_n (lv' := [(3, .int r_88), (2, .int r_68), (0, .ref (a 60)), (1, .int x1)]) hx hb dX2_boatLine_91 rfl hl (by decide) rfl (fun ls hl => ?_)
    refine lv_iload_n hx hb dX2_boatLine_92 rfl (lv_at hl 0 rfl) ?_
    refine lv_iload_n hx hb dX2_boatLine_93 rfl (lv_at hl 1 rfl) ?_
    refine lv_icmp_ne (tgt := 106) hx hb dX2_boatLine_94 (by decide) (fun c_94 => ?_) (fun c_94 => ?_)
    · have hm := hm.1 c_94
      exact L106 _ _ _ _ _ _ _ _ hm hT (lv_sub hl [2, 3, 1, 0] rfl)
    · have hm := hm.2 c_94
      refine lv_aload_n hx hb dX2_boatLine_97 rfl (lv_at hl 2 rfl) ?_
      refine lv_iconst (v := 5) hx hb dX2_boatLine_98 (by decide) ?_
      refine lv_iload_n hx hb dX2_boatLine_99 rfl (lv_at hl 3 rfl) ?_
      refine lv_bipush (v := 11) hx hb dX2_boatLine_100 (by decide) ?_
      refine lv_iadd hx hb dX2_boatLine_102 ?_
      refine kx_X2_tellFault hC hN hK hT (cx_KWRK Z a q rx F_88 L_88) rfl hm wq_1030 (by decide) hl.1 (Nat.le_of_ble_eq_true rfl) ⟨Nat.le_refl _, Nat.le_refl _⟩ dX2_boatLine_103 (fun F_103 L_103 H locs hm hT => ?_)
      have hT : TS vwCl D (RK Z a q rx F_103 L_103) A s.heap H locs := hT
      exact L106 _ _ _ _ _ _ _ _ hm hT (lv_sub hl [2, 3, 1, 0] rfl)
  · have hm := hm.2 c_7
    refine lv_iconst (v := 0) hx hb dX2_boatLine_10 (by decide) ?_
    exact hret 11 _ _ _ _ (F_4, L_4) hm hT rfl dX2_boatLine_11
section KX2_boatLine
variable {p : Program} {l : Launch} {e : Env} {s : State} {m : MethodId} {args : Array Value} {below : List Frame} {meth : Method} {c : Code} {H H0 : Heap} {locs : List Loc} {cells slots : Nat} {Q : State → Prop} {R : Room} {rn mcR msR : Nat}
variable {pc : Nat} {ls : Array Slot} {rest : List Value} {A : Nat → Prop} {D : va_G}
variable {cc : ByteArray} {nL index : Nat} {own host : String}
theorem k_X2_boatLine {Z : Nat → ClassId} {a q rx : Nat → Nat} {F : M2} {L : L2} {x1 : Int32} {K : Int32 → M2 → L2 → Prop} (hC : CallFix p m c cc nL s args lw_g own) (hN : NW s) (hR : RD rx (va_A (RK Z a q rx F L) H.size) s H) (hK : va_K D vwCl (tysG Z) s) (hT : TS vwCl D (RK Z a q rx F L) A H0 H locs) (hm : wp_X2_boatLine F L x1 K) (hl : Cond.methodLink own index yX2_boatLine ∈ lw_g) (hlt : 3 < rn) (hsize : ls.size = nL) (hW : (rest.map fun v => v.category).sum ≤ 8) (hf : cells + 0 ≤ mcR ∧ slots + 0 ≤ msR) (hdg : decode cc pc = .ok (.invokevirtual index, 3)) (kk : ∀ (r : Int32) (F1 : M2) (L1 : L2) (H1 : Heap) (locs1 : List Loc), K r F1 L1 → TS vwCl D (RK Z a q rx F1 L1) A H0 H1 locs1 → W p l e (rk rn mcR msR) s m args below meth c H1 locs1 cells slots Q (F0 m (pc + 3) ls (.int r :: rest))) : W p l e (rk rn mcR msR) s m args below meth c H locs cells slots Q (F0 m pc ls (.int x1 :: .ref (a 60) :: rest)) :=
  rw_go (wsF := (fun u : M2 × L2 => RK Z a q rx u.1 u.2)) (u0 := (F, L)) (wr := []) (isC := cutRK) (isR := []) (pm := cutRK) (ws' := (fun u : M2 × L2 => RK Z a q rx u.1 u.2)) (runVR (As := [.int x1]) hC hN hR (c_X2_boatLine l D Z a q rx F L H.size x1 K hm) mi_X2_boatLine hl wq_1070 wq_48 hlt hT.1 hT.D' hK (q0 := 0) rfl rfl rfl hsize rfl hW hdg hf) (cutOkRK Z a q rx F L) hT (fun r u H1 locs1 hk hT1 => kk r u.1 u.2 H1 locs1 hk hT1)
end KX2_boatLine
def wj_X2_orderLine_WHISTLE_HEAD_70 (K : Int32 → M2 → L2 → Prop) (F : M2) (L : L2) (v1 : Int32) (q0 : Int32) : Prop := (∀ v5_82, v5_82 = F 45 0 → wp_X2_test (gX2 120) F L 0 (fun r_86 F_86 L_86 => ((¬ r_86 = 0 → ((¬ (F_86 67 0) = 0 → K 1 F_86 L_86) ∧ ((F_86 67 0) = 0 → wp_X0_add F_86 L_86 v1 q0 v5_82 (fun F_113 L_113 => K 1 F_113 L_113)))) ∧ (r_86 = 0 → K 0 F_86 L_86))))
def wj_X2_orderLine_WHISTLE_HEAD_26 (K : Int32 → M2 → L2 → Prop) (F : M2) (L : L2) (v1 : Int32) (v3 : Int32) : Prop := wp_X2_takeAll_WHISTLE_HEAD F L (fun r_28 F_28 L_28 => ((¬ r_28 = 0 → ((¬ v1 = 48 → wp_X2_needKnown_nL F_28 L_28 (F_28 23 0) (v3 + 1) (fun r_67 F_67 L_67 => wj_X2_orderLine_WHISTLE_HEAD_70 K F_67 L_67 v1 r_67)) ∧ (v1 = 48 → wp_X2_number F_28 L_28 (v3 + 1) (fun r_46 => wj_X2_orderLine_WHISTLE_HEAD_70 K F_28 L_28 v1 r_46)))) ∧ (r_28 = 0 → K 0 F_28 L_28)))
def wp_X2_orderLine_WHISTLE_HEAD (F : M2) (L : L2) (x1 : Int32) (K : Int32 → M2 → L2 → Prop) : Prop := (∀ v3_4, v3_4 = F 66 0 → (((F 40 0) < 16 → wj_X2_orderLine_WHISTLE_HEAD_26 K F L x1 v3_4) ∧ (¬ (F 40 0) < 16 → wp_X2_tellFault F L 4 v3_4 (fun F_23 L_23 => wj_X2_orderLine_WHISTLE_HEAD_26 K F_23 L_23 x1 v3_4))))
set_option maxRecDepth 100000 in
set_option maxHeartbeats 4000000 in
theorem c_X2_orderLine_WHISTLE_HEAD (l : Launch) (D : va_G) (Z : Nat → ClassId) (a q rx : Nat → Nat) (F : M2) (L : L2) (sz : Nat) (x1 : Int32) (K : Int32 → M2 → L2 → Prop) (hm : wp_X2_orderLine_WHISTLE_HEAD F L x1 K) : Met l yX2_orderLine (wy yX2_orderLine cX2_orderLine 6 (some .boolean)) (rk 131 0 0) (preR vwCl D Z rx (RK Z a q rx F L) sz [.ref (a 60), .int x1, .ref (rx 204)]) (poI vwCl D Z (fun u : M2 × L2 => RK Z a q rx u.1 u.2) (F, L) sz (fun (r : Int32) (u : M2 × L2) => K r u.1 u.2)) 0 0 (va_A (RK Z a q rx F L) sz) := by
  refine rw_ofR (ty := .boolean) (wsF := (fun u : M2 × L2 => RK Z a q rx u.1 u.2)) (u0 := (F, L)) (by decide +kernel) (Nat.le_of_ble_eq_true rfl) rfl ?_
  intro p e s m args below meth c Q A hC hN hR hsz hT hK hret ls hl
  have hx := hC.1
  have hb := hC.2.1
  have hl : lv_has ls 6 [(0, .ref (a 60)), (1, .int x1), (2, .ref (rx 204))] := hl
  have hT : TS vwCl D (RK Z a q rx F L) A s.heap s.heap [] := hT
  have L70 : ∀ (F : M2) (L : L2) (v1 : Int32) (q0 : Int32) (H : Heap) (locs : List Loc) (ls : Array Slot), wj_X2_orderLine_WHISTLE_HEAD_70 K F L v1 q0 → TS vwCl D (RK Z a q rx F L) A s.heap H locs → lv_has ls 6 [(0, .ref (a 60)), (1, .int v1)] → W p l e (rk 131 0 0) s m args below meth c H locs 0 0 Q (F0 m 70 ls [.int q0]) := by
    intro F L v1 q0 H locs ls hm hT hl
    refine lv_istore (lv' := [(4, .int q0), (0, .ref (a 60)), (1, .int v1)]) hx hb dX2_orderLine_70 hl (by decide) rfl (fun ls hl => ?_)
    refine lv_aload_n hx hb dX2_orderLine_72 rfl (lv_at hl 1 rfl) ?_
    refine gRK_rd_5 hC hK hT.1 wq_390 dX2_orderLine_73 ?_
    refine gRK_plan_18 hC hK hT.1 wq_345 dX2_orderLine_76 ?_
    refine gRK_orders_5 hC hK hT.1 wq_266 dX2_orderLine_79 ?_
    refine lv_topi (fun v5_82 ev5_82 => ?_)
    have hm := hm v5_82 ev5_82
    refine lv_istore (lv' := [(5, .int v5_82), (4, .int q0), (0, .ref (a 60)), (1, .int v1)]) hx hb dX2_orderLine_82 hl (by decide) rfl (fun ls hl => ?_)
    refine lv_aload_n hx hb dX2_orderLine_84 rfl (lv_at hl 2 rfl) ?_
    refine lv_iconst (v := 0) hx hb dX2_orderLine_85 (by decide) ?_
    refine kx_X2_test hC hN hK hT (cx_KWRK Z a q rx F L) rfl hm wq_1088 (by decide) hl.1 (Nat.le_of_ble_eq_true rfl) ⟨Nat.le_refl _, Nat.le_refl _⟩ dX2_orderLine_86 (fun r_86 F_86 L_86 H locs hm hT => ?_)
    have hT : TS vwCl D (RK Z a q rx F_86 L_86) A s.heap H locs := hT
    refine lv_if_ne (tgt := 94) hx hb dX2_orderLine_89 (by decide) (fun c_89 => ?_) (fun c_89 => ?_)
    · have hm := hm.1 c_89
      refine lv_aload_n hx hb dX2_orderLine_94 rfl (lv_at hl 2 rfl) ?_
      refine gRK_rd_7 hC hK hT.1 wq_392 dX2_orderLine_95 ?_
      refine lv_if_ne (tgt := 116) hx hb dX2_orderLine_98 (by decide) (fun c_98 => ?_) (fun c_98 => ?_)
      · have hm := hm.1 c_98
        refine lv_iconst (v := 1) hx hb dX2_orderLine_116 (by decide) ?_
        exact hret 117 _ _ _ _ (F_86, L_86) hm hT rfl dX2_orderLine_117
      · have hm := hm.2 c_98
        refine lv_aload_n hx hb dX2_orderLine_101 rfl (lv_at hl 2 rfl) ?_
        refine gRK_rd_5 hC hK hT.1 wq_390 dX2_orderLine_102 ?_
        refine gRK_plan_18 hC hK hT.1 wq_345 dX2_orderLine_105 ?_
        refine lv_iload_n hx hb dX2_orderLine_108 rfl (lv_at hl 3 rfl) ?_
        refine lv_iload hx hb dX2_orderLine_109 (lv_at hl 1 rfl) ?_
        refine lv_iload hx hb dX2_orderLine_111 (lv_at hl 0 rfl) ?_
        refine kx_X0_add hC hN hK hT (cx_KWRK Z a q rx F_86 L_86) rfl hm wq_1141 (by decide) hl.1 (Nat.le_of_ble_eq_true rfl) ⟨Nat.le_refl _, Nat.le_refl _⟩ dX2_orderLine_113 (fun F_113 L_113 H locs hm hT => ?_)
        have hT : TS vwCl D (RK Z a q rx F_113 L_113) A s.heap H locs := hT
        refine lv_iconst (v := 1) hx hb dX2_orderLine_116 (by decide) ?_
        exact hret 117 _ _ _ _ (F_113, L_113) hm hT rfl dX2_orderLine_117
    · have hm := hm.2 c_89
      refine lv_iconst (v := 0) hx hb dX2_orderLine_92 (by decide) ?_
      exact hret 93 _ _ _ _ (F_86, L_86) hm hT rfl dX2_orderLine_93
  have L26 : ∀ (F : M2) (L : L2) (v1 : Int32) (v3 : Int32) (H : Heap) (locs : List Loc) (ls : Array Slot), wj_X2_orderLine_WHISTLE_HEAD_26 K F L v1 v3 → TS vwCl D (RK Z a q rx F L) A s.heap H locs → lv_has ls 6 [(0, .ref (a 60)), (1, .int v1), (2, .ref (rx 204)), (3, .int v3)] → W p l e (rk 131 0 0) s m args below meth c H locs 0 0 Q (F0 m 26 ls []) := by
    intro F L v1 v3 H locs ls hm hT hl
    refine lv_aload_n hx hb dX2_orderLine_26 rfl (lv_at hl 0 rfl) ?_
    refine lv_aload_n hx hb dX2_orderLine_27 rfl (lv_at hl 2 rfl) ?_
    refine k_X2_takeAll_WHISTLE_HEAD hC hN (hT.rd hR) hK hT hm wq_1014 (by decide) hl.1 (Nat.le_of_ble_eq_true rfl) ⟨Nat.le_refl _, Nat.le_refl _⟩ dX2_orderLine_28 (fun r_28 F_28 L_28 H locs hm hT => ?_)
    refine lv_if_ne (tgt := 36) hx hb dX2_orderLine_31 (by decide) (fun c_31 => ?_) (fun c_31 => ?_)
    · have hm := hm.1 c_31
      refine lv_iload_n hx hb dX2_orderLine_36 rfl (lv_at hl 1 rfl) ?_
      refine lv_bipush (v := 48) hx hb dX2_orderLine_37 (by decide) ?_
      refine lv_icmp_ne (tgt := 52) hx hb dX2_orderLine_39 (by decide) (fun c_39 => ?_) (fun c_39 => ?_)
      · have hm := hm.1 c_39
        refine lv_aload_n hx hb dX2_orderLine_52 rfl (lv_at hl 0 rfl) ?_
        refine lv_aload_n hx hb dX2_orderLine_53 rfl (lv_at hl 0 rfl) ?_
        refine gRK_rd_3 hC hK hT.1 wq_388 dX2_orderLine_54 ?_
        refine lv_aload_n hx hb dX2_orderLine_57 rfl (lv_at hl 0 rfl) ?_
        refine gRK_rd_5 hC hK hT.1 wq_390 dX2_orderLine_58 ?_
        refine gRK_plan_3 hC hK hT.1 wq_302 dX2_orderLine_61 ?_
        refine lv_iload_n hx hb dX2_orderLine_64 rfl (lv_at hl 3 rfl) ?_
        refine lv_iconst (v := 1) hx hb dX2_orderLine_65 (by decide) ?_
        refine lv_iadd hx hb dX2_orderLine_66 ?_
        refine kx_X2_needKnown_nL hC hN hK hT (cx_KWRK Z a q rx F_28 L_28) rfl hm wq_1074 (by decide) hl.1 (Nat.le_of_ble_eq_true rfl) ⟨Nat.le_refl _, Nat.le_refl _⟩ dX2_orderLine_67 (fun r_67 F_67 L_67 H locs hm hT => ?_)
        have hT : TS vwCl D (RK Z a q rx F_67 L_67) A s.heap H locs := hT
        exact L70 _ _ _ _ _ _ _ hm hT (lv_sub hl [0, 1] rfl)
      · have hm := hm.2 c_39
        refine lv_aload_n hx hb dX2_orderLine_42 rfl (lv_at hl 0 rfl) ?_
        refine lv_iload_n hx hb dX2_orderLine_43 rfl (lv_at hl 3 rfl) ?_
        refine lv_iconst (v := 1) hx hb dX2_orderLine_44 (by decide) ?_
        refine lv_iadd hx hb dX2_orderLine_45 ?_
        refine kx_X2_number hC hN hK hT.1 hT.D' (sx_KWRK Z a q rx F_28 L_28) rfl hm wq_1038 (by decide) hl.1 (Nat.le_of_ble_eq_true rfl) ⟨Nat.le_refl _, Nat.le_refl _⟩ dX2_orderLine_46 (fun r_46 hm => ?_)
        refine lv_goto (tgt := 70) hx hb dX2_orderLine_49 (by decide) ?_
        exact L70 _ _ _ _ _ _ _ hm hT (lv_sub hl [0, 1] rfl)
    · have hm := hm.2 c_31
      refine lv_iconst (v := 0) hx hb dX2_orderLine_34 (by decide) ?_
      exact hret 35 _ _ _ _ (F_28, L_28) hm hT rfl dX2_orderLine_35
  refine lv_aload_n hx hb dX2_orderLine_0 rfl (lv_at hl 0 rfl) ?_
  refine gRK_rd_6 hC hK hT.1 wq_391 dX2_orderLine_1 ?_
  refine lv_topi (fun v3_4 ev3_4 => ?_)
  have hm := hm v3_4 ev3_4
  refine lv_istore_n (lv' := [(3, .int v3_4), (0, .ref (a 60)), (1, .int x1), (2, .ref (rx 204))]) hx hb dX2_orderLine_4 rfl hl (by decide) rfl (fun ls hl => ?_)
  refine lv_aload_n hx hb dX2_orderLine_5 rfl (lv_at hl 1 rfl) ?_
  refine gRK_rd_5 hC hK hT.1 wq_390 dX2_orderLine_6 ?_
  refine gRK_plan_18 hC hK hT.1 wq_345 dX2_orderLine_9 ?_
  refine gRK_orders_0 hC hK hT.1 wq_256 dX2_orderLine_12 ?_
  refine lv_bipush (v := 16) hx hb dX2_orderLine_15 (by decide) ?_
  refine lv_icmp_lt (tgt := 26) hx hb dX2_orderLine_17 (by decide) (fun c_17 => ?_) (fun c_17 => ?_)
  · have hm := hm.1 c_17
    exact L26 _ _ _ _ _ _ _ hm hT (lv_sub hl [1, 2, 3, 0] rfl)
  · have hm := hm.2 c_17
    refine lv_aload_n hx hb dX2_orderLine_20 rfl (lv_at hl 1 rfl) ?_
    refine lv_iconst (v := 4) hx hb dX2_orderLine_21 (by decide) ?_
    refine lv_iload_n hx hb dX2_orderLine_22 rfl (lv_at hl 0 rfl) ?_
    refine kx_X2_tellFault hC hN hK hT (cx_KWRK Z a q rx F L) rfl hm wq_1030 (by decide) hl.1 (Nat.le_of_ble_eq_true rfl) ⟨Nat.le_refl _, Nat.le_refl _⟩ dX2_orderLine_23 (fun F_23 L_23 H locs hm hT => ?_)
    have hT : TS vwCl D (RK Z a q rx F_23 L_23) A s.heap H locs := hT
    exact L26 _ _ _ _ _ _ _ hm hT (lv_sub hl [1, 2, 3, 0] rfl)
section KX2_orderLine_WHISTLE_HEAD
variable {p : Program} {l : Launch} {e : Env} {s : State} {m : MethodId} {args : Array Value} {below : List Frame} {meth : Method} {c : Code} {H H0 : Heap} {locs : List Loc} {cells slots : Nat} {Q : State → Prop} {R : Room} {rn mcR msR : Nat}
variable {pc : Nat} {ls : Array Slot} {rest : List Value} {A : Nat → Prop} {D : va_G}
variable {cc : ByteArray} {nL index : Nat} {own host : String}
theorem k_X2_orderLine_WHISTLE_HEAD {Z : Nat → ClassId} {a q rx : Nat → Nat} {F : M2} {L : L2} {x1 : Int32} {K : Int32 → M2 → L2 → Prop} (hC : CallFix p m c cc nL s args lw_g own) (hN : NW s) (hR : RD rx (va_A (RK Z a q rx F L) H.size) s H) (hK : va_K D vwCl (tysG Z) s) (hT : TS vwCl D (RK Z a q rx F L) A H0 H locs) (hm : wp_X2_orderLine_WHISTLE_HEAD F L x1 K) (hl : Cond.methodLink own index yX2_orderLine ∈ lw_g) (hlt : 131 < rn) (hsize : ls.size = nL) (hW : (rest.map fun v => v.category).sum ≤ 8) (hf : cells + 0 ≤ mcR ∧ slots + 0 ≤ msR) (hdg : decode cc pc = .ok (.invokevirtual index, 3)) (kk : ∀ (r : Int32) (F1 : M2) (L1 : L2) (H1 : Heap) (locs1 : List Loc), K r F1 L1 → TS vwCl D (RK Z a q rx F1 L1) A H0 H1 locs1 → W p l e (rk rn mcR msR) s m args below meth c H1 locs1 cells slots Q (F0 m (pc + 3) ls (.int r :: rest))) : W p l e (rk rn mcR msR) s m args below meth c H locs cells slots Q (F0 m pc ls (.ref (rx 204) :: .int x1 :: .ref (a 60) :: rest)) :=
  rw_go (wsF := (fun u : M2 × L2 => RK Z a q rx u.1 u.2)) (u0 := (F, L)) (wr := []) (isC := cutRK) (isR := []) (pm := cutRK) (ws' := (fun u : M2 × L2 => RK Z a q rx u.1 u.2)) (runVR (As := [.int x1, .ref (rx 204)]) hC hN hR (c_X2_orderLine_WHISTLE_HEAD l D Z a q rx F L H.size x1 K hm) mi_X2_orderLine hl wq_1086 wq_50 hlt hT.1 hT.D' hK (q0 := 0) rfl rfl rfl hsize rfl hW hdg hf) (cutOkRK Z a q rx F L) hT (fun r u H1 locs1 hk hT1 => kk r u.1 u.2 H1 locs1 hk hT1)
end KX2_orderLine_WHISTLE_HEAD
def wj_X2_orderLine_REST_HEAD_70 (K : Int32 → M2 → L2 → Prop) (F : M2) (L : L2) (v1 : Int32) (q0 : Int32) : Prop := (∀ v5_82, v5_82 = F 45 0 → wp_X2_test (gX2 120) F L 0 (fun r_86 F_86 L_86 => ((¬ r_86 = 0 → ((¬ (F_86 67 0) = 0 → K 1 F_86 L_86) ∧ ((F_86 67 0) = 0 → wp_X0_add F_86 L_86 v1 q0 v5_82 (fun F_113 L_113 => K 1 F_113 L_113)))) ∧ (r_86 = 0 → K 0 F_86 L_86))))
def wj_X2_orderLine_REST_HEAD_26 (K : Int32 → M2 → L2 → Prop) (F : M2) (L : L2) (v1 : Int32) (v3 : Int32) : Prop := wp_X2_takeAll_REST_HEAD F L (fun r_28 F_28 L_28 => ((¬ r_28 = 0 → ((¬ v1 = 48 → wp_X2_needKnown_nL F_28 L_28 (F_28 23 0) (v3 + 1) (fun r_67 F_67 L_67 => wj_X2_orderLine_REST_HEAD_70 K F_67 L_67 v1 r_67)) ∧ (v1 = 48 → wp_X2_number F_28 L_28 (v3 + 1) (fun r_46 => wj_X2_orderLine_REST_HEAD_70 K F_28 L_28 v1 r_46)))) ∧ (r_28 = 0 → K 0 F_28 L_28)))
def wp_X2_orderLine_REST_HEAD (F : M2) (L : L2) (x1 : Int32) (K : Int32 → M2 → L2 → Prop) : Prop := (∀ v3_4, v3_4 = F 66 0 → (((F 40 0) < 16 → wj_X2_orderLine_REST_HEAD_26 K F L x1 v3_4) ∧ (¬ (F 40 0) < 16 → wp_X2_tellFault F L 4 v3_4 (fun F_23 L_23 => wj_X2_orderLine_REST_HEAD_26 K F_23 L_23 x1 v3_4))))
set_option maxRecDepth 100000 in
set_option maxHeartbeats 4000000 in
theorem c_X2_orderLine_REST_HEAD (l : Launch) (D : va_G) (Z : Nat → ClassId) (a q rx : Nat → Nat) (F : M2) (L : L2) (sz : Nat) (x1 : Int32) (K : Int32 → M2 → L2 → Prop) (hm : wp_X2_orderLine_REST_HEAD F L x1 K) : Met l yX2_orderLine (wy yX2_orderLine cX2_orderLine 6 (some .boolean)) (rk 131 0 0) (preR vwCl D Z rx (RK Z a q rx F L) sz [.ref (a 60), .int x1, .ref (rx 205)]) (poI vwCl D Z (fun u : M2 × L2 => RK Z a q rx u.1 u.2) (F, L) sz (fun (r : Int32) (u : M2 × L2) => K r u.1 u.2)) 0 0 (va_A (RK Z a q rx F L) sz) := by
  refine rw_ofR (ty := .boolean) (wsF := (fun u : M2 × L2 => RK Z a q rx u.1 u.2)) (u0 := (F, L)) (by decide +kernel) (Nat.le_of_ble_eq_true rfl) rfl ?_
  intro p e s m args below meth c Q A hC hN hR hsz hT hK hret ls hl
  have hx := hC.1
  have hb := hC.2.1
  have hl : lv_has ls 6 [(0, .ref (a 60)), (1, .int x1), (2, .ref (rx 205))] := hl
  have hT : TS vwCl D (RK Z a q rx F L) A s.heap s.heap [] := hT
  have L70 : ∀ (F : M2) (L : L2) (v1 : Int32) (q0 : Int32) (H : Heap) (locs : List Loc) (ls : Array Slot), wj_X2_orderLine_REST_HEAD_70 K F L v1 q0 → TS vwCl D (RK Z a q rx F L) A s.heap H locs → lv_has ls 6 [(0, .ref (a 60)), (1, .int v1)] → W p l e (rk 131 0 0) s m args below meth c H locs 0 0 Q (F0 m 70 ls [.int q0]) := by
    intro F L v1 q0 H locs ls hm hT hl
    refine lv_istore (lv' := [(4, .int q0), (0, .ref (a 60)), (1, .int v1)]) hx hb dX2_orderLine_70 hl (by decide) rfl (fun ls hl => ?_)
    refine lv_aload_n hx hb dX2_orderLine_72 rfl (lv_at hl 1 rfl) ?_
    refine gRK_rd_5 hC hK hT.1 wq_390 dX2_orderLine_73 ?_
    refine gRK_plan_18 hC hK hT.1 wq_345 dX2_orderLine_76 ?_
    refine gRK_orders_5 hC hK hT.1 wq_266 dX2_orderLine_79 ?_
    refine lv_topi (fun v5_82 ev5_82 => ?_)
    have hm := hm v5_82 ev5_82
    refine lv_istore (lv' := [(5, .int v5_82), (4, .int q0), (0, .ref (a 60)), (1, .int v1)]) hx hb dX2_orderLine_82 hl (by decide) rfl (fun ls hl => ?_)
    refine lv_aload_n hx hb dX2_orderLine_84 rfl (lv_at hl 2 rfl) ?_
    refine lv_iconst (v := 0) hx hb dX2_orderLine_85 (by decide) ?_
    refine kx_X2_test hC hN hK hT (cx_KWRK Z a q rx F L) rfl hm wq_1088 (by decide) hl.1 (Nat.le_of_ble_eq_true rfl) ⟨Nat.le_refl _, Nat.le_refl _⟩ dX2_orderLine_86 (fun r_86 F_86 L_86 H locs hm hT => ?_)
    have hT : TS vwCl D (RK Z a q rx F_86 L_86) A s.heap H locs := hT
    refine lv_if_ne (tgt := 94) hx hb dX2_orderLine_89 (by decide) (fun c_89 => ?_) (fun c_89 => ?_)
    · have hm := hm.1 c_89
      refine lv_aload_n hx hb dX2_orderLine_94 rfl (lv_at hl 2 rfl) ?_
      refine gRK_rd_7 hC hK hT.1 wq_392 dX2_orderLine_95 ?_
      refine lv_if_ne (tgt := 116) hx hb dX2_orderLine_98 (by decide) (fun c_98 => ?_) (fun c_98 => ?_)
      · have hm := hm.1 c_98
        refine lv_iconst (v := 1) hx hb dX2_orderLine_116 (by decide) ?_
        exact hret 117 _ _ _ _ (F_86, L_86) hm hT rfl dX2_orderLine_117
      · have hm := hm.2 c_98
        refine lv_aload_n hx hb dX2_orderLine_101 rfl (lv_at hl 2 rfl) ?_
        refine gRK_rd_5 hC hK hT.1 wq_390 dX2_orderLine_102 ?_
        refine gRK_plan_18 hC hK hT.1 wq_345 dX2_orderLine_105 ?_
        refine lv_iload_n hx hb dX2_orderLine_108 rfl (lv_at hl 3 rfl) ?_
        refine lv_iload hx hb dX2_orderLine_109 (lv_at hl 1 rfl) ?_
        refine lv_iload hx hb dX2_orderLine_111 (lv_at hl 0 rfl) ?_
        refine kx_X0_add hC hN hK hT (cx_KWRK Z a q rx F_86 L_86) rfl hm wq_1141 (by decide) hl.1 (Nat.le_of_ble_eq_true rfl) ⟨Nat.le_refl _, Nat.le_refl _⟩ dX2_orderLine_113 (fun F_113 L_113 H locs hm hT => ?_)
        have hT : TS vwCl D (RK Z a q rx F_113 L_113) A s.heap H locs := hT
        refine lv_iconst (v := 1) hx hb dX2_orderLine_116 (by decide) ?_
        exact hret 117 _ _ _ _ (F_113, L_113) hm hT rfl dX2_orderLine_117
    · have hm := hm.2 c_89
      refine lv_iconst (v := 0) hx hb dX2_orderLine_92 (by decide) ?_
      exact hret 93 _ _ _ _ (F_86, L_86) hm hT rfl dX2_orderLine_93
  have L26 : ∀ (F : M2) (L : L2) (v1 : Int32) (v3 : Int32) (H : Heap) (locs : List Loc) (ls : Array Slot), wj_X2_orderLine_REST_HEAD_26 K F L v1 v3 → TS vwCl D (RK Z a q rx F L) A s.heap H locs → lv_has ls 6 [(0, .ref (a 60)), (1, .int v1), (2, .ref (rx 205)), (3, .int v3)] → W p l e (rk 131 0 0) s m args below meth c H locs 0 0 Q (F0 m 26 ls []) := by
    intro F L v1 v3 H locs ls hm hT hl
    refine lv_aload_n hx hb dX2_orderLine_26 rfl (lv_at hl 0 rfl) ?_
    refine lv_aload_n hx hb dX2_orderLine_27 rfl (lv_at hl 2 rfl) ?_
    refine k_X2_takeAll_REST_HEAD hC hN (hT.rd hR) hK hT hm wq_1014 (by decide) hl.1 (Nat.le_of_ble_eq_true rfl) ⟨Nat.le_refl _, Nat.le_refl _⟩ dX2_orderLine_28 (fun r_28 F_28 L_28 H locs hm hT => ?_)
    refine lv_if_ne (tgt := 36) hx hb dX2_orderLine_31 (by decide) (fun c_31 => ?_) (fun c_31 => ?_)
    · have hm := hm.1 c_31
      refine lv_iload_n hx hb dX2_orderLine_36 rfl (lv_at hl 1 rfl) ?_
      refine lv_bipush (v := 48) hx hb dX2_orderLine_37 (by decide) ?_
      refine lv_icmp_ne (tgt := 52) hx hb dX2_orderLine_39 (by decide) (fun c_39 => ?_) (fun c_39 => ?_)
      · have hm := hm.1 c_39
        refine lv_aload_n hx hb dX2_orderLine_52 rfl (lv_at hl 0 rfl) ?_
        refine lv_aload_n hx hb dX2_orderLine_53 rfl (lv_at hl 0 rfl) ?_
        refine gRK_rd_3 hC hK hT.1 wq_388 dX2_orderLine_54 ?_
        refine lv_aload_n hx hb dX2_orderLine_57 rfl (lv_at hl 0 rfl) ?_
        refine gRK_rd_5 hC hK hT.1 wq_390 dX2_orderLine_58 ?_
        refine gRK_plan_3 hC hK hT.1 wq_302 dX2_orderLine_61 ?_
        refine lv_iload_n hx hb dX2_orderLine_64 rfl (lv_at hl 3 rfl) ?_
        refine lv_iconst (v := 1) hx hb dX2_orderLine_65 (by decide) ?_
        refine lv_iadd hx hb dX2_orderLine_66 ?_
        refine kx_X2_needKnown_nL hC hN hK hT (cx_KWRK Z a q rx F_28 L_28) rfl hm wq_1074 (by decide) hl.1 (Nat.le_of_ble_eq_true rfl) ⟨Nat.le_refl _, Nat.le_refl _⟩ dX2_orderLine_67 (fun r_67 F_67 L_67 H locs hm hT => ?_)
        have hT : TS vwCl D (RK Z a q rx F_67 L_67) A s.heap H locs := hT
        exact L70 _ _ _ _ _ _ _ hm hT (lv_sub hl [0, 1] rfl)
      · have hm := hm.2 c_39
        refine lv_aload_n hx hb dX2_orderLine_42 rfl (lv_at hl 0 rfl) ?_
        refine lv_iload_n hx hb dX2_orderLine_43 rfl (lv_at hl 3 rfl) ?_
        refine lv_iconst (v := 1) hx hb dX2_orderLine_44 (by decide) ?_
        refine lv_iadd hx hb dX2_orderLine_45 ?_
        refine kx_X2_number hC hN hK hT.1 hT.D' (sx_KWRK Z a q rx F_28 L_28) rfl hm wq_1038 (by decide) hl.1 (Nat.le_of_ble_eq_true rfl) ⟨Nat.le_refl _, Nat.le_refl _⟩ dX2_orderLine_46 (fun r_46 hm => ?_)
        refine lv_goto (tgt := 70) hx hb dX2_orderLine_49 (by decide) ?_
        exact L70 _ _ _ _ _ _ _ hm hT (lv_sub hl [0, 1] rfl)
    · have hm := hm.2 c_31
      refine lv_iconst (v := 0) hx hb dX2_orderLine_34 (by decide) ?_
      exact hret 35 _ _ _ _ (F_28, L_28) hm hT rfl dX2_orderLine_35
  refine lv_aload_n hx hb dX2_orderLine_0 rfl (lv_at hl 0 rfl) ?_
  refine gRK_rd_6 hC hK hT.1 wq_391 dX2_orderLine_1 ?_
  refine lv_topi (fun v3_4 ev3_4 => ?_)
  have hm := hm v3_4 ev3_4
  refine lv_istore_n (lv' := [(3, .int v3_4), (0, .ref (a 60)), (1, .int x1), (2, .ref (rx 205))]) hx hb dX2_orderLine_4 rfl hl (by decide) rfl (fun ls hl => ?_)
  refine lv_aload_n hx hb dX2_orderLine_5 rfl (lv_at hl 1 rfl) ?_
  refine gRK_rd_5 hC hK hT.1 wq_390 dX2_orderLine_6 ?_
  refine gRK_plan_18 hC hK hT.1 wq_345 dX2_orderLine_9 ?_
  refine gRK_orders_0 hC hK hT.1 wq_256 dX2_orderLine_12 ?_
  refine lv_bipush (v := 16) hx hb dX2_orderLine_15 (by decide) ?_
  refine lv_icmp_lt (tgt := 26) hx hb dX2_orderLine_17 (by decide) (fun c_17 => ?_) (fun c_17 => ?_)
  · have hm := hm.1 c_17
    exact L26 _ _ _ _ _ _ _ hm hT (lv_sub hl [1, 2, 3, 0] rfl)
  · have hm := hm.2 c_17
    refine lv_aload_n hx hb dX2_orderLine_20 rfl (lv_at hl 1 rfl) ?_
    refine lv_iconst (v := 4) hx hb dX2_orderLine_21 (by decide) ?_
    refine lv_iload_n hx hb dX2_orderLine_22 rfl (lv_at hl 0 rfl) ?_
    refine kx_X2_tellFault hC hN hK hT (cx_KWRK Z a q rx F L) rfl hm wq_1030 (by decide) hl.1 (Nat.le_of_ble_eq_true rfl) ⟨Nat.le_refl _, Nat.le_refl _⟩ dX2_orderLine_23 (fun F_23 L_23 H locs hm hT => ?_)
    have hT : TS vwCl D (RK Z a q rx F_23 L_23) A s.heap H locs := hT
    exact L26 _ _ _ _ _ _ _ hm hT (lv_sub hl [1, 2, 3, 0] rfl)
section KX2_orderLine_REST_HEAD
variable {p : Program} {l : Launch} {e : Env} {s : State} {m : MethodId} {args : Array Value} {below : List Frame} {meth : Method} {c : Code} {H H0 : Heap} {locs : List Loc} {cells slots : Nat} {Q : State → Prop} {R : Room} {rn mcR msR : Nat}
variable {pc : Nat} {ls : Array Slot} {rest : List Value} {A : Nat → Prop} {D : va_G}
variable {cc : ByteArray} {nL index : Nat} {own host : String}
theorem k_X2_orderLine_REST_HEAD {Z : Nat → ClassId} {a q rx : Nat → Nat} {F : M2} {L : L2} {x1 : Int32} {K : Int32 → M2 → L2 → Prop} (hC : CallFix p m c cc nL s args lw_g own) (hN : NW s) (hR : RD rx (va_A (RK Z a q rx F L) H.size) s H) (hK : va_K D vwCl (tysG Z) s) (hT : TS vwCl D (RK Z a q rx F L) A H0 H locs) (hm : wp_X2_orderLine_REST_HEAD F L x1 K) (hl : Cond.methodLink own index yX2_orderLine ∈ lw_g) (hlt : 131 < rn) (hsize : ls.size = nL) (hW : (rest.map fun v => v.category).sum ≤ 8) (hf : cells + 0 ≤ mcR ∧ slots + 0 ≤ msR) (hdg : decode cc pc = .ok (.invokevirtual index, 3)) (kk : ∀ (r : Int32) (F1 : M2) (L1 : L2) (H1 : Heap) (locs1 : List Loc), K r F1 L1 → TS vwCl D (RK Z a q rx F1 L1) A H0 H1 locs1 → W p l e (rk rn mcR msR) s m args below meth c H1 locs1 cells slots Q (F0 m (pc + 3) ls (.int r :: rest))) : W p l e (rk rn mcR msR) s m args below meth c H locs cells slots Q (F0 m pc ls (.ref (rx 205) :: .int x1 :: .ref (a 60) :: rest)) :=
  rw_go (wsF := (fun u : M2 × L2 => RK Z a q rx u.1 u.2)) (u0 := (F, L)) (wr := []) (isC := cutRK) (isR := []) (pm := cutRK) (ws' := (fun u : M2 × L2 => RK Z a q rx u.1 u.2)) (runVR (As := [.int x1, .ref (rx 205)]) hC hN hR (c_X2_orderLine_REST_HEAD l D Z a q rx F L H.size x1 K hm) mi_X2_orderLine hl wq_1086 wq_50 hlt hT.1 hT.D' hK (q0 := 0) rfl rfl rfl hsize rfl hW hdg hf) (cutOkRK Z a q rx F L) hT (fun r u H1 locs1 hk hT1 => kk r u.1 u.2 H1 locs1 hk hT1)
end KX2_orderLine_REST_HEAD
def wp_X2_line (F : M2) (L : L2) (K : Int32 → M2 → L2 → Prop) : Prop := wp_X2_peek F L (fun r_1 => ((r_1 = 34 → wp_X2_boreLine F L (F 66 0) (fun r_89 F_89 L_89 => (zb r_89 ∧ K r_89 F_89 L_89))) ∧ (r_1 = 37 → wp_X2_shaftLine F L (F 66 0) (fun r_98 F_98 L_98 => (zb r_98 ∧ K r_98 F_98 L_98))) ∧ (r_1 = 40 → wp_X2_leggerLine F L (F 66 0) (fun r_107 F_107 L_107 => (zb r_107 ∧ K r_107 F_107 L_107))) ∧ (r_1 = 43 → wp_X2_boatLine F L (F 66 0) (fun r_116 F_116 L_116 => (zb r_116 ∧ K r_116 F_116 L_116))) ∧ (r_1 = 48 → wp_X2_orderLine_WHISTLE_HEAD F L 48 (fun r_126 F_126 L_126 => (zb r_126 ∧ K r_126 F_126 L_126))) ∧ (r_1 = 49 → wp_X2_orderLine_REST_HEAD F L 49 (fun r_136 F_136 L_136 => (zb r_136 ∧ K r_136 F_136 L_136))) ∧ (¬ r_1 = 34 → ¬ r_1 = 37 → ¬ r_1 = 40 → ¬ r_1 = 43 → ¬ r_1 = 48 → ¬ r_1 = 49 → K 0 F L)))
set_option maxRecDepth 100000 in
set_option maxHeartbeats 4000000 in
theorem c_X2_line (l : Launch) (D : va_G) (Z : Nat → ClassId) (a q rx : Nat → Nat) (F : M2) (L : L2) (sz : Nat) (K : Int32 → M2 → L2 → Prop) (hm : wp_X2_line F L K) : Met l yX2_line (wy yX2_line cX2_line 1 (some .boolean)) (rk 132 0 0) (preR vwCl D Z rx (RK Z a q rx F L) sz [.ref (a 60)]) (poI vwCl D Z (fun u : M2 × L2 => RK Z a q rx u.1 u.2) (F, L) sz (fun (r : Int32) (u : M2 × L2) => K r u.1 u.2)) 0 0 (va_A (RK Z a q rx F L) sz) := by
  refine rw_ofR (ty := .boolean) (wsF := (fun u : M2 × L2 => RK Z a q rx u.1 u.2)) (u0 := (F, L)) (by decide +kernel) (Nat.le_of_ble_eq_true rfl) rfl ?_
  intro p e s m args below meth c Q A hC hN hR hsz hT hK hret ls hl
  have hx := hC.1
  have hb := hC.2.1
  have hl : lv_has ls 1 [(0, .ref (a 60))] := hl
  have hT : TS vwCl D (RK Z a q rx F L) A s.heap s.heap [] := hT
  refine lv_aload_n hx hb dX2_line_0 rfl (lv_at hl 0 rfl) ?_
  refine kx_X2_peek hC hN hK hT.1 hT.D' (sx_KWRK Z a q rx F L) rfl hm wq_999 (by decide) hl.1 (Nat.le_of_ble_eq_true rfl) ⟨Nat.le_refl _, Nat.le_refl _⟩ dX2_line_1 (fun r_1 hm => ?_)
  by_cases s4_0 : r_1 = 34
  · have hm := hm.1 s4_0
    refine w_swi (off := 80) (tgt := 84) 34 hx hb dX2_line_4 s4_0 (by decide) (by decide) (by decide) (by decide) ?_
    refine lv_aload_n hx hb dX2_line_84 rfl (lv_at hl 0 rfl) ?_
    refine lv_aload_n hx hb dX2_line_85 rfl (lv_at hl 0 rfl) ?_
    refine gRK_rd_6 hC hK hT.1 wq_391 dX2_line_86 ?_
    refine k_X2_boreLine hC hN (hT.rd hR) hK hT hm wq_1008 (by decide) hl.1 (Nat.le_of_ble_eq_true rfl) ⟨Nat.le_refl _, Nat.le_refl _⟩ dX2_line_89 (fun r_89 F_89 L_89 H locs hm hT => ?_)
    exact hret 92 _ _ _ _ (F_89, L_89) hm.2 hT hm.1 dX2_line_92
  have hm := hm.2
  by_cases s4_1 : r_1 = 37
  · have hm := hm.1 s4_1
    refine w_swi (off := 89) (tgt := 93) 37 hx hb dX2_line_4 s4_1 (by decide) (by decide) (by decide) (by decide) ?_
    refine lv_aload_n hx hb dX2_line_93 rfl (lv_at hl 0 rfl) ?_
    refine lv_aload_n hx hb dX2_line_94 rfl (lv_at hl 0 rfl) ?_
    refine gRK_rd_6 hC hK hT.1 wq_391 dX2_line_95 ?_
    refine k_X2_shaftLine hC hN (hT.rd hR) hK hT hm wq_1048 (by decide) hl.1 (Nat.le_of_ble_eq_true rfl) ⟨Nat.le_refl _, Nat.le_refl _⟩ dX2_line_98 (fun r_98 F_98 L_98 H locs hm hT => ?_)
    exact hret 101 _ _ _ _ (F_98, L_98) hm.2 hT hm.1 dX2_line_101
  have hm := hm.2
  by_cases s4_2 : r_1 = 40
  · have hm := hm.1 s4_2
    refine w_swi (off := 98) (tgt := 102) 40 hx hb dX2_line_4 s4_2 (by decide) (by decide) (by decide) (by decide) ?_
    refine lv_aload_n hx hb dX2_line_102 rfl (lv_at hl 0 rfl) ?_
    refine lv_aload_n hx hb dX2_line_103 rfl (lv_at hl 0 rfl) ?_
    refine gRK_rd_6 hC hK hT.1 wq_391 dX2_line_104 ?_
    refine k_X2_leggerLine hC hN (hT.rd hR) hK hT hm wq_1058 (by decide) hl.1 (Nat.le_of_ble_eq_true rfl) ⟨Nat.le_refl _, Nat.le_refl _⟩ dX2_line_107 (fun r_107 F_107 L_107 H locs hm hT => ?_)
    exact hret 110 _ _ _ _ (F_107, L_107) hm.2 hT hm.1 dX2_line_110
  have hm := hm.2
  by_cases s4_3 : r_1 = 43
  · have hm := hm.1 s4_3
    refine w_swi (off := 107) (tgt := 111) 43 hx hb dX2_line_4 s4_3 (by decide) (by decide) (by decide) (by decide) ?_
    refine lv_aload_n hx hb dX2_line_111 rfl (lv_at hl 0 rfl) ?_
    refine lv_aload_n hx hb dX2_line_112 rfl (lv_at hl 0 rfl) ?_
    refine gRK_rd_6 hC hK hT.1 wq_391 dX2_line_113 ?_
    refine k_X2_boatLine hC hN (hT.rd hR) hK hT hm wq_1068 (by decide) hl.1 (Nat.le_of_ble_eq_true rfl) ⟨Nat.le_refl _, Nat.le_refl _⟩ dX2_line_116 (fun r_116 F_116 L_116 H locs hm hT => ?_)
    exact hret 119 _ _ _ _ (F_116, L_116) hm.2 hT hm.1 dX2_line_119
  have hm := hm.2
  by_cases s4_4 : r_1 = 48
  · have hm := hm.1 s4_4
    refine w_swi (off := 116) (tgt := 120) 48 hx hb dX2_line_4 s4_4 (by decide) (by decide) (by decide) (by decide) ?_
    refine lv_aload_n hx hb dX2_line_120 rfl (lv_at hl 0 rfl) ?_
    refine lv_bipush (v := 48) hx hb dX2_line_121 (by decide) ?_
    refine va_getsN hx hb hR.WHISTLE_HEAD hT.2.2.1 hC.2.2.2.1 (va_Nw.use rfl (hN _ wn_1082)) (fun _ h => h) dX2_line_123 ?_
    refine k_X2_orderLine_WHISTLE_HEAD hC hN (hT.rd hR) hK hT hm wq_1084 (by decide) hl.1 (Nat.le_of_ble_eq_true rfl) ⟨Nat.le_refl _, Nat.le_refl _⟩ dX2_line_126 (fun r_126 F_126 L_126 H locs hm hT => ?_)
    exact hret 129 _ _ _ _ (F_126, L_126) hm.2 hT hm.1 dX2_line_129
  have hm := hm.2
  by_cases s4_5 : r_1 = 49
  · have hm := hm.1 s4_5
    refine w_swi (off := 126) (tgt := 130) 49 hx hb dX2_line_4 s4_5 (by decide) (by decide) (by decide) (by decide) ?_
    refine lv_aload_n hx hb dX2_line_130 rfl (lv_at hl 0 rfl) ?_
    refine lv_bipush (v := 49) hx hb dX2_line_131 (by decide) ?_
    refine va_getsN hx hb hR.REST_HEAD hT.2.2.1 hC.2.2.2.1 (va_Nw.use rfl (hN _ wn_1145)) (fun _ h => h) dX2_line_133 ?_
    refine k_X2_orderLine_REST_HEAD hC hN (hT.rd hR) hK hT hm wq_1084 (by decide) hl.1 (Nat.le_of_ble_eq_true rfl) ⟨Nat.le_refl _, Nat.le_refl _⟩ dX2_line_136 (fun r_136 F_136 L_136 H locs hm hT => ?_)
    exact hret 139 _ _ _ _ (F_136, L_136) hm.2 hT hm.1 dX2_line_139
  have hm := hm.2
  have hm := hm s4_0 s4_1 s4_2 s4_3 s4_4 s4_5
  refine w_swd (tgt := 140) [34, 37, 40, 43, 48, 49] hx hb dX2_line_4 (by decide) (by decide) (fun k hk => ?_) (by decide) ?_
  · simp only [List.mem_cons, List.not_mem_nil, or_false] at hk
    rcases hk with rfl | rfl | rfl | rfl | rfl | rfl
    · exact eq_toInt s4_0
    · exact eq_toInt s4_1
    · exact eq_toInt s4_2
    · exact eq_toInt s4_3
    · exact eq_toInt s4_4
    · exact eq_toInt s4_5
  · refine lv_iconst (v := 0) hx hb dX2_line_140 (by decide) ?_
    exact hret 141 _ _ _ _ (F, L) hm hT rfl dX2_line_141
section KX2_line
variable {p : Program} {l : Launch} {e : Env} {s : State} {m : MethodId} {args : Array Value} {below : List Frame} {meth : Method} {c : Code} {H H0 : Heap} {locs : List Loc} {cells slots : Nat} {Q : State → Prop} {R : Room} {rn mcR msR : Nat}
variable {pc : Nat} {ls : Array Slot} {rest : List Value} {A : Nat → Prop} {D : va_G}
variable {cc : ByteArray} {nL index : Nat} {own host : String}
theorem k_X2_line {Z : Nat → ClassId} {a q rx : Nat → Nat} {F : M2} {L : L2} {K : Int32 → M2 → L2 → Prop} (hC : CallFix p m c cc nL s args lw_g own) (hN : NW s) (hR : RD rx (va_A (RK Z a q rx F L) H.size) s H) (hK : va_K D vwCl (tysG Z) s) (hT : TS vwCl D (RK Z a q rx F L) A H0 H locs) (hm : wp_X2_line F L K) (hl : Cond.methodLink own index yX2_line ∈ lw_g) (hlt : 132 < rn) (hsize : ls.size = nL) (hW : (rest.map fun v => v.category).sum ≤ 8) (hf : cells + 0 ≤ mcR ∧ slots + 0 ≤ msR) (hdg : decode cc pc = .ok (.invokevirtual index, 3)) (kk : ∀ (r : Int32) (F1 : M2) (L1 : L2) (H1 : Heap) (locs1 : List Loc), K r F1 L1 → TS vwCl D (RK Z a q rx F1 L1) A H0 H1 locs1 → W p l e (rk rn mcR msR) s m args below meth c H1 locs1 cells slots Q (F0 m (pc + 3) ls (.int r :: rest))) : W p l e (rk rn mcR msR) s m args below meth c H locs cells slots Q (F0 m pc ls (.ref (a 60) :: rest)) :=
  rw_go (wsF := (fun u : M2 × L2 => RK Z a q rx u.1 u.2)) (u0 := (F, L)) (wr := []) (isC := cutRK) (isR := []) (pm := cutRK) (ws' := (fun u : M2 × L2 => RK Z a q rx u.1 u.2)) (runVR (As := []) hC hN hR (c_X2_line l D Z a q rx F L H.size K hm) mi_X2_line hl wq_1006 wq_38 hlt hT.1 hT.D' hK (q0 := 0) rfl rfl rfl hsize rfl hW hdg hf) (cutOkRK Z a q rx F L) hT (fun r u H1 locs1 hk hT1 => kk r u.1 u.2 H1 locs1 hk hT1)
theorem kx_X2_line {Z : Nat → ClassId} {a q rx : Nat → Nat} {F : M2} {L : L2} {K : Int32 → M2 → L2 → Prop} {ws wr : va_W} {isC isR pm : List Nat} {ws' : M2 × L2 → va_W} (hC : CallFix p m c cc nL s args lw_g own) (hN : NW s) (hR : RD rx (va_A ws H.size) s H) (hK : va_K D vwCl (tysG Z) s) (hT : TS vwCl D ws A H0 H locs) (hc : Cut ws (fun u : M2 × L2 => RK Z a q rx u.1 u.2) (F, L) wr isC isR pm ws') (hnd : va_nd isC = true) (hm : wp_X2_line F L K) (hl : Cond.methodLink own index yX2_line ∈ lw_g) (hlt : 132 < rn) (hsize : ls.size = nL) (hW : (rest.map fun v => v.category).sum ≤ 8) (hf : cells + 0 ≤ mcR ∧ slots + 0 ≤ msR) (hdg : decode cc pc = .ok (.invokevirtual index, 3)) (kk : ∀ (r : Int32) (F1 : M2) (L1 : L2) (H1 : Heap) (locs1 : List Loc), K r F1 L1 → TS vwCl D (ws' (F1, L1)) A H0 H1 locs1 → W p l e (rk rn mcR msR) s m args below meth c H1 locs1 cells slots Q (F0 m (pc + 3) ls (.int r :: rest))) : W p l e (rk rn mcR msR) s m args below meth c H locs cells slots Q (F0 m pc ls (.ref (a 60) :: rest)) :=
  rw_go (wsF := (fun u : M2 × L2 => RK Z a q rx u.1 u.2)) (u0 := (F, L)) (wr := wr) (isC := isC) (isR := isR) (pm := pm) (ws' := ws') (runVR (As := []) hC hN (hR.sub hc.1) (c_X2_line l D Z a q rx F L H.size K hm) mi_X2_line hl wq_1006 wq_38 hlt (hT.1.sub isC (map_fm hc.1)) (hT.D'.sub isC hnd hc.1) hK (q0 := 0) rfl rfl rfl hsize rfl hW hdg hf) hc hT (fun r u H1 locs1 hk hT1 => kk r u.1 u.2 H1 locs1 hk hT1)
end KX2_line
