theorem wq_1419 : Cond.fieldLink RX8 57 RX8 "thrown" "I" ∈ lw_g := lw_g_mk (tb_6 (List.mem_of_getElem? (i := 95) rfl)) rfl
theorem wq_1430 : Cond.fieldLink RX8 35 RX8 "plan" "LTunnelLeggersModel$Plan;" ∈ lw_g := lw_g_mk (tb_6 (List.mem_of_getElem? (i := 106) rfl)) rfl
theorem wq_1433 : Cond.fieldLink RX8 47 RX8 "s" "LTunnelLeggersModel$State;" ∈ lw_g := lw_g_mk (tb_6 (List.mem_of_getElem? (i := 109) rfl)) rfl
theorem wq_1753 : Cond.methodLink RX8 334 yX7_boatAt ∈ lw_g := lw_g_mk (tb_7 (List.mem_of_getElem? (i := 189) rfl)) rfl
theorem wq_1752 : Cond.methodLink RX8 331 yX7_capsAt ∈ lw_g := lw_g_mk (tb_7 (List.mem_of_getElem? (i := 188) rfl)) rfl
theorem wn_1361 : Cond.fieldLinkNest RX8 328 RX7 "air" "[I" RX8 ∈ lw_n := lw_n_mk (tb_6 (List.mem_of_getElem? (i := 37) rfl)) rfl
theorem wq_1761 : Cond.methodLink RX8 343 yX8_isBore ∈ lw_g := lw_g_mk (tb_7 (List.mem_of_getElem? (i := 197) rfl)) rfl
theorem wq_1474 : Cond.methodLink RX8 312 yX8_no ∈ lw_g := lw_g_mk (tb_6 (List.mem_of_getElem? (i := 150) rfl)) rfl
theorem wq_1765 : Cond.methodLink RX8 346 yX8_boreTold ∈ lw_g := lw_g_mk (tb_7 (List.mem_of_getElem? (i := 201) rfl)) rfl
theorem wq_1422 : Cond.fieldLink RX8 13 RX8 "errorAt" "I" ∈ lw_g := lw_g_mk (tb_6 (List.mem_of_getElem? (i := 98) rfl)) rfl
theorem wq_1744 : Cond.methodLink RX8 337 yX8_isPlace ∈ lw_g := lw_g_mk (tb_7 (List.mem_of_getElem? (i := 180) rfl)) rfl
theorem wq_1748 : Cond.methodLink RX8 340 yX8_placeTold ∈ lw_g := lw_g_mk (tb_7 (List.mem_of_getElem? (i := 184) rfl)) rfl
theorem wq_1789 : Cond.methodLink RX8 380 yX8_isBoat ∈ lw_g := lw_g_mk (tb_7 (List.mem_of_getElem? (i := 225) rfl)) rfl
theorem wq_1805 : Cond.methodLink RX8 386 yX7_canEnter ∈ lw_g := lw_g_mk (tb_8 (List.mem_of_getElem? (i := 1) rfl)) rfl
theorem wn_1359 : Cond.fieldLinkNest RX8 324 RX7 "turn" "I" RX8 ∈ lw_n := lw_n_mk (tb_6 (List.mem_of_getElem? (i := 35) rfl)) rfl
theorem wq_1862 : Cond.methodLink RX8 389 yX7_allAir ∈ lw_g := lw_g_mk (tb_8 (List.mem_of_getElem? (i := 58) rfl)) rfl
theorem wq_1773 : Cond.methodLink RX8 361 yX8_isLegger ∈ lw_g := lw_g_mk (tb_7 (List.mem_of_getElem? (i := 209) rfl)) rfl
theorem wn_1365 : Cond.fieldLinkNest RX8 352 RX7 "capAt" "[I" RX8 ∈ lw_n := lw_n_mk (tb_6 (List.mem_of_getElem? (i := 41) rfl)) rfl
theorem wn_1369 : Cond.fieldLinkNest RX8 369 RX7 "is" "[I" RX8 ∈ lw_n := lw_n_mk (tb_6 (List.mem_of_getElem? (i := 45) rfl)) rfl
theorem wn_1371 : Cond.fieldLinkNest RX8 367 RX7 "end" "[I" RX8 ∈ lw_n := lw_n_mk (tb_6 (List.mem_of_getElem? (i := 47) rfl)) rfl
theorem wn_1373 : Cond.fieldLinkNest RX8 368 RX7 "due" "[I" RX8 ∈ lw_n := lw_n_mk (tb_6 (List.mem_of_getElem? (i := 49) rfl)) rfl
theorem wn_1379 : Cond.fieldLinkNest RX8 377 RX7 "out" "[I" RX8 ∈ lw_n := lw_n_mk (tb_6 (List.mem_of_getElem? (i := 55) rfl)) rfl
theorem wq_1875 : Cond.methodLink RX8 392 yX7_those ∈ lw_g := lw_g_mk (tb_8 (List.mem_of_getElem? (i := 71) rfl)) rfl
theorem wq_1876 : Cond.methodLink RX8 395 yX7_pass_ ∈ lw_g := lw_g_mk (tb_8 (List.mem_of_getElem? (i := 72) rfl)) rfl
theorem wq_1469 : Cond.code yX8_thrown cX8_thrown 1 (some .int) ∈ lw_g := lw_g_mk (tb_6 (List.mem_of_getElem? (i := 145) rfl)) rfl
theorem wq_1747 : Cond.code yX8_isPlace cX8_isPlace 2 (some .boolean) ∈ lw_g := lw_g_mk (tb_7 (List.mem_of_getElem? (i := 183) rfl)) rfl
theorem wq_1764 : Cond.code yX8_isBore cX8_isBore 2 (some .boolean) ∈ lw_g := lw_g_mk (tb_7 (List.mem_of_getElem? (i := 200) rfl)) rfl
theorem wq_1776 : Cond.code yX8_isLegger cX8_isLegger 2 (some .boolean) ∈ lw_g := lw_g_mk (tb_7 (List.mem_of_getElem? (i := 212) rfl)) rfl
theorem wq_1792 : Cond.code yX8_isBoat cX8_isBoat 2 (some .boolean) ∈ lw_g := lw_g_mk (tb_7 (List.mem_of_getElem? (i := 228) rfl)) rfl
theorem wq_1751 : Cond.code yX8_placeTold cX8_placeTold 3 (some .int) ∈ lw_g := lw_g_mk (tb_7 (List.mem_of_getElem? (i := 187) rfl)) rfl
theorem wq_1477 : Cond.code yX8_no cX8_no 2 (some .int) ∈ lw_g := lw_g_mk (tb_6 (List.mem_of_getElem? (i := 153) rfl)) rfl
theorem wq_1768 : Cond.code yX8_boreTold cX8_boreTold 5 (some .int) ∈ lw_g := lw_g_mk (tb_7 (List.mem_of_getElem? (i := 204) rfl)) rfl
theorem wq_1760 : Cond.code yX8_bore cX8_bore 3 (some .int) ∈ lw_g := lw_g_mk (tb_7 (List.mem_of_getElem? (i := 196) rfl)) rfl
theorem wq_1481 : Cond.code yX8_trim cX8_trim 2 (some .int) ∈ lw_g := lw_g_mk (tb_6 (List.mem_of_getElem? (i := 157) rfl)) rfl
theorem wq_1715 : Cond.code yX8_errorAt cX8_errorAt 1 (some .int) ∈ lw_g := lw_g_mk (tb_7 (List.mem_of_getElem? (i := 151) rfl)) rfl
theorem wq_1743 : Cond.code yX8_place cX8_place 3 (some .int) ∈ lw_g := lw_g_mk (tb_7 (List.mem_of_getElem? (i := 179) rfl)) rfl
theorem wq_1800 : Cond.code yX8_crew cX8_crew 3 (some .int) ∈ lw_g := lw_g_mk (tb_7 (List.mem_of_getElem? (i := 236) rfl)) rfl
theorem wq_1804 : Cond.code yX8_canEnter cX8_canEnter 2 (some .boolean) ∈ lw_g := lw_g_mk (tb_8 (List.mem_of_getElem? (i := 0) rfl)) rfl
theorem wq_1853 : Cond.code yX8_worst cX8_worst 3 (some .int) ∈ lw_g := lw_g_mk (tb_8 (List.mem_of_getElem? (i := 49) rfl)) rfl
theorem wq_1857 : Cond.code yX8_whistle cX8_whistle 3 (some .int) ∈ lw_g := lw_g_mk (tb_8 (List.mem_of_getElem? (i := 53) rfl)) rfl
theorem wq_1861 : Cond.code yX8_air cX8_air 3 (some .int) ∈ lw_g := lw_g_mk (tb_8 (List.mem_of_getElem? (i := 57) rfl)) rfl
theorem wq_1866 : Cond.code yX8_cap cX8_cap 3 (some .int) ∈ lw_g := lw_g_mk (tb_8 (List.mem_of_getElem? (i := 62) rfl)) rfl
theorem wq_1870 : Cond.code yX8_again cX8_again 3 (some .int) ∈ lw_g := lw_g_mk (tb_8 (List.mem_of_getElem? (i := 66) rfl)) rfl
theorem wq_1874 : Cond.code yX8_pass cX8_pass 3 (some .int) ∈ lw_g := lw_g_mk (tb_8 (List.mem_of_getElem? (i := 70) rfl)) rfl
theorem wq_1746 : Cond.instanceMethod yX8_isPlace ∈ lw_g := lw_g_mk (tb_7 (List.mem_of_getElem? (i := 182) rfl)) rfl
theorem wq_103 : Cond.selects RX8 yX8_isPlace yX8_isPlace ∈ lw_g := lw_g_mk (tb_0 (List.mem_of_getElem? (i := 103) rfl)) rfl
theorem wq_1763 : Cond.instanceMethod yX8_isBore ∈ lw_g := lw_g_mk (tb_7 (List.mem_of_getElem? (i := 199) rfl)) rfl
theorem wq_105 : Cond.selects RX8 yX8_isBore yX8_isBore ∈ lw_g := lw_g_mk (tb_0 (List.mem_of_getElem? (i := 105) rfl)) rfl
theorem wq_1775 : Cond.instanceMethod yX8_isLegger ∈ lw_g := lw_g_mk (tb_7 (List.mem_of_getElem? (i := 211) rfl)) rfl
theorem wq_107 : Cond.selects RX8 yX8_isLegger yX8_isLegger ∈ lw_g := lw_g_mk (tb_0 (List.mem_of_getElem? (i := 107) rfl)) rfl
theorem wq_1791 : Cond.instanceMethod yX8_isBoat ∈ lw_g := lw_g_mk (tb_7 (List.mem_of_getElem? (i := 227) rfl)) rfl
theorem wq_109 : Cond.selects RX8 yX8_isBoat yX8_isBoat ∈ lw_g := lw_g_mk (tb_0 (List.mem_of_getElem? (i := 109) rfl)) rfl
theorem wq_1750 : Cond.instanceMethod yX8_placeTold ∈ lw_g := lw_g_mk (tb_7 (List.mem_of_getElem? (i := 186) rfl)) rfl
theorem wq_104 : Cond.selects RX8 yX8_placeTold yX8_placeTold ∈ lw_g := lw_g_mk (tb_0 (List.mem_of_getElem? (i := 104) rfl)) rfl
theorem wq_1476 : Cond.instanceMethod yX8_no ∈ lw_g := lw_g_mk (tb_6 (List.mem_of_getElem? (i := 152) rfl)) rfl
theorem wq_62 : Cond.selects RX8 yX8_no yX8_no ∈ lw_g := lw_g_mk (tb_0 (List.mem_of_getElem? (i := 62) rfl)) rfl
theorem wq_1767 : Cond.instanceMethod yX8_boreTold ∈ lw_g := lw_g_mk (tb_7 (List.mem_of_getElem? (i := 203) rfl)) rfl
theorem wq_106 : Cond.selects RX8 yX8_boreTold yX8_boreTold ∈ lw_g := lw_g_mk (tb_0 (List.mem_of_getElem? (i := 106) rfl)) rfl
theorem wq_1877 : Cond.instanceMethod yX7_pass_ ∈ lw_g := lw_g_mk (tb_8 (List.mem_of_getElem? (i := 73) rfl)) rfl
theorem wq_1878 : Cond.selects RX7 yX7_pass_ yX7_pass_ ∈ lw_g := lw_g_mk (tb_8 (List.mem_of_getElem? (i := 74) rfl)) rfl
def QW (Z : Nat → ClassId) (a q g : Nat → Nat) (rg aa : Nat) (P : M2) (S : M2) (N : M2) : va_W := [(a 200, .inr (7, [.int (S 200 0), .int (S 201 0), .ref (a 202), .ref (a 203), .ref (a 204), .ref (a 205), .ref (a 206), .ref (a 207), .ref (a 208), .ref (a 209), .ref (a 210), .ref (a 211), .int (S 212 0), .ref (a 213), .ref (g 220)])), (a 202, .inl (Z 0, 60, .inl (S 202))), (a 203, .inl (Z 0, 6, .inl (S 203))), (a 204, .inl (Z 0, 6, .inl (S 204))), (a 205, .inl (Z 0, 6, .inl (S 205))), (a 206, .inl (Z 0, 8, .inl (S 206))), (a 207, .inl (Z 0, 8, .inl (S 207))), (a 208, .inl (Z 0, 8, .inl (S 208))), (a 209, .inl (Z 0, 8, .inl (S 209))), (a 210, .inl (Z 0, 8, .inl (S 210))), (a 211, .inl (Z 0, 8, .inl (S 211))), (a 213, .inl (Z 0, 400, .inl (S 213))), (g 220, .inr (8, [.int (N 220 0), .ref (g 221), .int (N 222 0), .int (N 223 0), .ref (g 224), .ref (g 225), .ref (g 226), .ref (g 227), .ref (g 228), .int (N 229 0), .int (N 230 0), .ref (q 240), .ref rg, .ref (a 200), .ref aa])), (q 240, .inr (6, [.int (P 240 0), .int (P 241 0), .ref (q 242), .ref (q 243), .ref (q 244), .ref (q 245), .int (P 246 0), .ref (q 247), .ref (q 248), .int (P 249 0), .ref (q 250), .ref (q 251), .int (P 252 0), .ref (q 253), .ref (q 254), .ref (q 255), .ref (q 256), .int (P 257 0), .int (P 258 0), .ref (q 259), .ref (q 260), .ref (q 261), .ref (q 262), .ref (q 263), .int (P 264 0), .ref (q 265), .int (P 266 0)])), (q 242, .inl (Z 0, 5, .inl (P 242))), (q 243, .inl (Z 0, 5, .inl (P 243))), (q 244, .inl (Z 0, 5, .inl (P 244))), (q 245, .inl (Z 0, 60, .inl (P 245))), (q 247, .inl (Z 0, 4, .inl (P 247))), (q 248, .inl (Z 0, 4, .inl (P 248))), (q 250, .inl (Z 0, 6, .inl (P 250))), (q 251, .inl (Z 0, 6, .inl (P 251))), (q 253, .inl (Z 0, 8, .inl (P 253))), (q 254, .inl (Z 0, 8, .inl (P 254))), (q 255, .inl (Z 0, 8, .inl (P 255))), (q 256, .inl (Z 3, 8, .inr (.inr (.inr (.inr (fun j => if j < 8 then some (q (310 + j)) else none)))))), (q 259, .inl (Z 0, 16, .inl (P 259))), (q 260, .inl (Z 0, 16, .inl (P 260))), (q 261, .inl (Z 0, 17, .inl (P 261))), (q 262, .inl (Z 0, 17, .inl (P 262))), (q 263, .inl (Z 0, 800, .inl (P 263))), (q 265, .inl (Z 0, 400, .inl (P 265))), (q (310 + 0), .inl (Z 0, 2, .inl (P (310 + 0)))), (q (310 + 1), .inl (Z 0, 2, .inl (P (310 + 1)))), (q (310 + 2), .inl (Z 0, 2, .inl (P (310 + 2)))), (q (310 + 3), .inl (Z 0, 2, .inl (P (310 + 3)))), (q (310 + 4), .inl (Z 0, 2, .inl (P (310 + 4)))), (q (310 + 5), .inl (Z 0, 2, .inl (P (310 + 5)))), (q (310 + 6), .inl (Z 0, 2, .inl (P (310 + 6)))), (q (310 + 7), .inl (Z 0, 2, .inl (P (310 + 7))))]
abbrev cutQW : List Nat := [0, 1, 2, 3, 4, 5, 6, 7, 8, 9, 10, 11, 12, 13, 14, 15, 16, 17, 18, 19, 20, 21, 22, 23, 24, 25, 26, 27, 28, 29, 30, 31, 32, 33, 34, 35, 36, 37, 38, 39]
set_option maxRecDepth 100000 in
theorem cutOkQW (Z : Nat → ClassId) (a q g : Nat → Nat) (rg aa : Nat) (P : M2) (S : M2) (N : M2) : Cut (QW Z a q g rg aa P S N) (fun u : M2 × M2 => QW Z a q g rg aa P u.1 u.2) (S, N) [] cutQW [] cutQW (fun u : M2 × M2 => QW Z a q g rg aa P u.1 u.2) := ⟨rfl, rfl, rfl, fun i h => absurd h List.not_mem_nil, by decide, fun _ => rfl⟩
section ROWSQW
variable {p : Program} {l : Launch} {e : Env} {s : State} {m : MethodId} {args : Array Value} {below : List Frame} {meth : Method} {c : Code} {H H0 : Heap} {locs : List Loc} {cells slots : Nat} {Q : State → Prop} {R : Room} {rn mcR msR : Nat}
variable {pc : Nat} {ls : Array Slot} {rest : List Value} {A : Nat → Prop} {D : va_G}
variable {cc : ByteArray} {nL index : Nat} {own host : String}
theorem gQW_mod_0 {Z : Nat → ClassId} {a q g : Nat → Nat} {rg aa : Nat} {P : M2} {S : M2} {N : M2} (hC : CallFix p m c cc nL s args lw_g own) (hK : va_K D vwCl (tysG Z) s) (hP : va_P D vwCl (QW Z a q g rg aa P S N) H) (hl : Cond.fieldLink own index RX8 "thrown" "I" ∈ lw_g) (hdg : decode cc pc = .ok (.getfield index, 3)) (kk : W p l e R s m args below meth c H locs cells slots Q (F0 m (pc + 3) ls (.int (N 220 0) :: rest))) : W p l e R s m args below meth c H locs cells slots Q (F0 m pc ls (.ref (g 220) :: rest)) :=
  w_get (C := RX8) (T := TX8) (N := 15) (ci := 8) (q0 := 12) (k := 0) hC hK hP fi_X8 rfl rfl rfl (by decide) rfl hl hdg kk
theorem gQW_mod_2 {Z : Nat → ClassId} {a q g : Nat → Nat} {rg aa : Nat} {P : M2} {S : M2} {N : M2} (hC : CallFix p m c cc nL s args lw_g own) (hK : va_K D vwCl (tysG Z) s) (hP : va_P D vwCl (QW Z a q g rg aa P S N) H) (hl : Cond.fieldLink own index RX8 "size" "I" ∈ lw_g) (hdg : decode cc pc = .ok (.getfield index, 3)) (kk : W p l e R s m args below meth c H locs cells slots Q (F0 m (pc + 3) ls (.int (N 222 0) :: rest))) : W p l e R s m args below meth c H locs cells slots Q (F0 m pc ls (.ref (g 220) :: rest)) :=
  w_get (C := RX8) (T := TX8) (N := 15) (ci := 8) (q0 := 12) (k := 2) hC hK hP fi_X8 rfl rfl rfl (by decide) rfl hl hdg kk
theorem gQW_mod_3 {Z : Nat → ClassId} {a q g : Nat → Nat} {rg aa : Nat} {P : M2} {S : M2} {N : M2} (hC : CallFix p m c cc nL s args lw_g own) (hK : va_K D vwCl (tysG Z) s) (hP : va_P D vwCl (QW Z a q g rg aa P S N) H) (hl : Cond.fieldLink own index RX8 "errorAt" "I" ∈ lw_g) (hdg : decode cc pc = .ok (.getfield index, 3)) (kk : W p l e R s m args below meth c H locs cells slots Q (F0 m (pc + 3) ls (.int (N 223 0) :: rest))) : W p l e R s m args below meth c H locs cells slots Q (F0 m pc ls (.ref (g 220) :: rest)) :=
  w_get (C := RX8) (T := TX8) (N := 15) (ci := 8) (q0 := 12) (k := 3) hC hK hP fi_X8 rfl rfl rfl (by decide) rfl hl hdg kk
theorem gQW_mod_11 {Z : Nat → ClassId} {a q g : Nat → Nat} {rg aa : Nat} {P : M2} {S : M2} {N : M2} (hC : CallFix p m c cc nL s args lw_g own) (hK : va_K D vwCl (tysG Z) s) (hP : va_P D vwCl (QW Z a q g rg aa P S N) H) (hl : Cond.fieldLink own index RX8 "plan" "LTunnelLeggersModel$Plan;" ∈ lw_g) (hdg : decode cc pc = .ok (.getfield index, 3)) (kk : W p l e R s m args below meth c H locs cells slots Q (F0 m (pc + 3) ls (.ref (q 240) :: rest))) : W p l e R s m args below meth c H locs cells slots Q (F0 m pc ls (.ref (g 220) :: rest)) :=
  w_get (C := RX8) (T := TX8) (N := 15) (ci := 8) (q0 := 12) (k := 11) hC hK hP fi_X8 rfl rfl rfl (by decide) rfl hl hdg kk
theorem gQW_mod_13 {Z : Nat → ClassId} {a q g : Nat → Nat} {rg aa : Nat} {P : M2} {S : M2} {N : M2} (hC : CallFix p m c cc nL s args lw_g own) (hK : va_K D vwCl (tysG Z) s) (hP : va_P D vwCl (QW Z a q g rg aa P S N) H) (hl : Cond.fieldLink own index RX8 "s" "LTunnelLeggersModel$State;" ∈ lw_g) (hdg : decode cc pc = .ok (.getfield index, 3)) (kk : W p l e R s m args below meth c H locs cells slots Q (F0 m (pc + 3) ls (.ref (a 200) :: rest))) : W p l e R s m args below meth c H locs cells slots Q (F0 m pc ls (.ref (g 220) :: rest)) :=
  w_get (C := RX8) (T := TX8) (N := 15) (ci := 8) (q0 := 12) (k := 13) hC hK hP fi_X8 rfl rfl rfl (by decide) rfl hl hdg kk
theorem gNQW_plan_0 {Z : Nat → ClassId} {a q g : Nat → Nat} {rg aa : Nat} {P : M2} {S : M2} {N : M2} (hC : CallFix p m c cc nL s args lw_g own) (hN : NW s) (hK : va_K D vwCl (tysG Z) s) (hP : va_P D vwCl (QW Z a q g rg aa P S N) H) (hl : Cond.fieldLinkNest own index RX6 "bores" "I" host ∈ lw_n) (hdg : decode cc pc = .ok (.getfield index, 3)) (kk : W p l e R s m args below meth c H locs cells slots Q (F0 m (pc + 3) ls (.int (P 240 0) :: rest))) : W p l e R s m args below meth c H locs cells slots Q (F0 m pc ls (.ref (q 240) :: rest)) :=
  w_getN (C := RX6) (T := TX6) (N := 27) (ci := 6) (q0 := 13) (k := 0) hC hN hK hP fi_X6 rfl rfl rfl (by decide) rfl hl hdg kk
theorem gNQW_plan_1 {Z : Nat → ClassId} {a q g : Nat → Nat} {rg aa : Nat} {P : M2} {S : M2} {N : M2} (hC : CallFix p m c cc nL s args lw_g own) (hN : NW s) (hK : va_K D vwCl (tysG Z) s) (hP : va_P D vwCl (QW Z a q g rg aa P S N) H) (hl : Cond.fieldLinkNest own index RX6 "places" "I" host ∈ lw_n) (hdg : decode cc pc = .ok (.getfield index, 3)) (kk : W p l e R s m args below meth c H locs cells slots Q (F0 m (pc + 3) ls (.int (P 241 0) :: rest))) : W p l e R s m args below meth c H locs cells slots Q (F0 m pc ls (.ref (q 240) :: rest)) :=
  w_getN (C := RX6) (T := TX6) (N := 27) (ci := 6) (q0 := 13) (k := 1) hC hN hK hP fi_X6 rfl rfl rfl (by decide) rfl hl hdg kk
theorem gNQW_plan_2 {Z : Nat → ClassId} {a q g : Nat → Nat} {rg aa : Nat} {P : M2} {S : M2} {N : M2} (hC : CallFix p m c cc nL s args lw_g own) (hN : NW s) (hK : va_K D vwCl (tysG Z) s) (hP : va_P D vwCl (QW Z a q g rg aa P S N) H) (hl : Cond.fieldLinkNest own index RX6 "longs" "[I" host ∈ lw_n) (hdg : decode cc pc = .ok (.getfield index, 3)) (kk : W p l e R s m args below meth c H locs cells slots Q (F0 m (pc + 3) ls (.ref (q 242) :: rest))) : W p l e R s m args below meth c H locs cells slots Q (F0 m pc ls (.ref (q 240) :: rest)) :=
  w_getN (C := RX6) (T := TX6) (N := 27) (ci := 6) (q0 := 13) (k := 2) hC hN hK hP fi_X6 rfl rfl rfl (by decide) rfl hl hdg kk
theorem gNQW_plan_3 {Z : Nat → ClassId} {a q g : Nat → Nat} {rg aa : Nat} {P : M2} {S : M2} {N : M2} (hC : CallFix p m c cc nL s args lw_g own) (hN : NW s) (hK : va_K D vwCl (tysG Z) s) (hP : va_P D vwCl (QW Z a q g rg aa P S N) H) (hl : Cond.fieldLinkNest own index RX6 "low" "[I" host ∈ lw_n) (hdg : decode cc pc = .ok (.getfield index, 3)) (kk : W p l e R s m args below meth c H locs cells slots Q (F0 m (pc + 3) ls (.ref (q 243) :: rest))) : W p l e R s m args below meth c H locs cells slots Q (F0 m pc ls (.ref (q 240) :: rest)) :=
  w_getN (C := RX6) (T := TX6) (N := 27) (ci := 6) (q0 := 13) (k := 3) hC hN hK hP fi_X6 rfl rfl rfl (by decide) rfl hl hdg kk
theorem gNQW_plan_4 {Z : Nat → ClassId} {a q g : Nat → Nat} {rg aa : Nat} {P : M2} {S : M2} {N : M2} (hC : CallFix p m c cc nL s args lw_g own) (hN : NW s) (hK : va_K D vwCl (tysG Z) s) (hP : va_P D vwCl (QW Z a q g rg aa P S N) H) (hl : Cond.fieldLinkNest own index RX6 "first" "[I" host ∈ lw_n) (hdg : decode cc pc = .ok (.getfield index, 3)) (kk : W p l e R s m args below meth c H locs cells slots Q (F0 m (pc + 3) ls (.ref (q 244) :: rest))) : W p l e R s m args below meth c H locs cells slots Q (F0 m pc ls (.ref (q 240) :: rest)) :=
  w_getN (C := RX6) (T := TX6) (N := 27) (ci := 6) (q0 := 13) (k := 4) hC hN hK hP fi_X6 rfl rfl rfl (by decide) rfl hl hdg kk
theorem gNQW_plan_5 {Z : Nat → ClassId} {a q g : Nat → Nat} {rg aa : Nat} {P : M2} {S : M2} {N : M2} (hC : CallFix p m c cc nL s args lw_g own) (hN : NW s) (hK : va_K D vwCl (tysG Z) s) (hP : va_P D vwCl (QW Z a q g rg aa P S N) H) (hl : Cond.fieldLinkNest own index RX6 "boreOf" "[I" host ∈ lw_n) (hdg : decode cc pc = .ok (.getfield index, 3)) (kk : W p l e R s m args below meth c H locs cells slots Q (F0 m (pc + 3) ls (.ref (q 245) :: rest))) : W p l e R s m args below meth c H locs cells slots Q (F0 m pc ls (.ref (q 240) :: rest)) :=
  w_getN (C := RX6) (T := TX6) (N := 27) (ci := 6) (q0 := 13) (k := 5) hC hN hK hP fi_X6 rfl rfl rfl (by decide) rfl hl hdg kk
theorem gNQW_plan_9 {Z : Nat → ClassId} {a q g : Nat → Nat} {rg aa : Nat} {P : M2} {S : M2} {N : M2} (hC : CallFix p m c cc nL s args lw_g own) (hN : NW s) (hK : va_K D vwCl (tysG Z) s) (hP : va_P D vwCl (QW Z a q g rg aa P S N) H) (hl : Cond.fieldLinkNest own index RX6 "leggers" "I" host ∈ lw_n) (hdg : decode cc pc = .ok (.getfield index, 3)) (kk : W p l e R s m args below meth c H locs cells slots Q (F0 m (pc + 3) ls (.int (P 249 0) :: rest))) : W p l e R s m args below meth c H locs cells slots Q (F0 m pc ls (.ref (q 240) :: rest)) :=
  w_getN (C := RX6) (T := TX6) (N := 27) (ci := 6) (q0 := 13) (k := 9) hC hN hK hP fi_X6 rfl rfl rfl (by decide) rfl hl hdg kk
theorem gNQW_plan_12 {Z : Nat → ClassId} {a q g : Nat → Nat} {rg aa : Nat} {P : M2} {S : M2} {N : M2} (hC : CallFix p m c cc nL s args lw_g own) (hN : NW s) (hK : va_K D vwCl (tysG Z) s) (hP : va_P D vwCl (QW Z a q g rg aa P S N) H) (hl : Cond.fieldLinkNest own index RX6 "boats" "I" host ∈ lw_n) (hdg : decode cc pc = .ok (.getfield index, 3)) (kk : W p l e R s m args below meth c H locs cells slots Q (F0 m (pc + 3) ls (.int (P 252 0) :: rest))) : W p l e R s m args below meth c H locs cells slots Q (F0 m pc ls (.ref (q 240) :: rest)) :=
  w_getN (C := RX6) (T := TX6) (N := 27) (ci := 6) (q0 := 13) (k := 12) hC hN hK hP fi_X6 rfl rfl rfl (by decide) rfl hl hdg kk
theorem gNQW_plan_16 {Z : Nat → ClassId} {a q g : Nat → Nat} {rg aa : Nat} {P : M2} {S : M2} {N : M2} (hC : CallFix p m c cc nL s args lw_g own) (hN : NW s) (hK : va_K D vwCl (tysG Z) s) (hP : va_P D vwCl (QW Z a q g rg aa P S N) H) (hl : Cond.fieldLinkNest own index RX6 "crew" "[[I" host ∈ lw_n) (hdg : decode cc pc = .ok (.getfield index, 3)) (kk : W p l e R s m args below meth c H locs cells slots Q (F0 m (pc + 3) ls (.ref (q 256) :: rest))) : W p l e R s m args below meth c H locs cells slots Q (F0 m pc ls (.ref (q 240) :: rest)) :=
  w_getN (C := RX6) (T := TX6) (N := 27) (ci := 6) (q0 := 13) (k := 16) hC hN hK hP fi_X6 rfl rfl rfl (by decide) rfl hl hdg kk
theorem gNQW_st_1 {Z : Nat → ClassId} {a q g : Nat → Nat} {rg aa : Nat} {P : M2} {S : M2} {N : M2} (hC : CallFix p m c cc nL s args lw_g own) (hN : NW s) (hK : va_K D vwCl (tysG Z) s) (hP : va_P D vwCl (QW Z a q g rg aa P S N) H) (hl : Cond.fieldLinkNest own index RX7 "turn" "I" host ∈ lw_n) (hdg : decode cc pc = .ok (.getfield index, 3)) (kk : W p l e R s m args below meth c H locs cells slots Q (F0 m (pc + 3) ls (.int (S 201 0) :: rest))) : W p l e R s m args below meth c H locs cells slots Q (F0 m pc ls (.ref (a 200) :: rest)) :=
  w_getN (C := RX7) (T := TX7) (N := 15) (ci := 7) (q0 := 0) (k := 1) hC hN hK hP fi_X7 rfl rfl rfl (by decide) rfl hl hdg kk
theorem gNQW_st_2 {Z : Nat → ClassId} {a q g : Nat → Nat} {rg aa : Nat} {P : M2} {S : M2} {N : M2} (hC : CallFix p m c cc nL s args lw_g own) (hN : NW s) (hK : va_K D vwCl (tysG Z) s) (hP : va_P D vwCl (QW Z a q g rg aa P S N) H) (hl : Cond.fieldLinkNest own index RX7 "air" "[I" host ∈ lw_n) (hdg : decode cc pc = .ok (.getfield index, 3)) (kk : W p l e R s m args below meth c H locs cells slots Q (F0 m (pc + 3) ls (.ref (a 202) :: rest))) : W p l e R s m args below meth c H locs cells slots Q (F0 m pc ls (.ref (a 200) :: rest)) :=
  w_getN (C := RX7) (T := TX7) (N := 15) (ci := 7) (q0 := 0) (k := 2) hC hN hK hP fi_X7 rfl rfl rfl (by decide) rfl hl hdg kk
theorem gNQW_st_4 {Z : Nat → ClassId} {a q g : Nat → Nat} {rg aa : Nat} {P : M2} {S : M2} {N : M2} (hC : CallFix p m c cc nL s args lw_g own) (hN : NW s) (hK : va_K D vwCl (tysG Z) s) (hP : va_P D vwCl (QW Z a q g rg aa P S N) H) (hl : Cond.fieldLinkNest own index RX7 "capAt" "[I" host ∈ lw_n) (hdg : decode cc pc = .ok (.getfield index, 3)) (kk : W p l e R s m args below meth c H locs cells slots Q (F0 m (pc + 3) ls (.ref (a 204) :: rest))) : W p l e R s m args below meth c H locs cells slots Q (F0 m pc ls (.ref (a 200) :: rest)) :=
  w_getN (C := RX7) (T := TX7) (N := 15) (ci := 7) (q0 := 0) (k := 4) hC hN hK hP fi_X7 rfl rfl rfl (by decide) rfl hl hdg kk
theorem gNQW_st_6 {Z : Nat → ClassId} {a q g : Nat → Nat} {rg aa : Nat} {P : M2} {S : M2} {N : M2} (hC : CallFix p m c cc nL s args lw_g own) (hN : NW s) (hK : va_K D vwCl (tysG Z) s) (hP : va_P D vwCl (QW Z a q g rg aa P S N) H) (hl : Cond.fieldLinkNest own index RX7 "is" "[I" host ∈ lw_n) (hdg : decode cc pc = .ok (.getfield index, 3)) (kk : W p l e R s m args below meth c H locs cells slots Q (F0 m (pc + 3) ls (.ref (a 206) :: rest))) : W p l e R s m args below meth c H locs cells slots Q (F0 m pc ls (.ref (a 200) :: rest)) :=
  w_getN (C := RX7) (T := TX7) (N := 15) (ci := 7) (q0 := 0) (k := 6) hC hN hK hP fi_X7 rfl rfl rfl (by decide) rfl hl hdg kk
theorem gNQW_st_7 {Z : Nat → ClassId} {a q g : Nat → Nat} {rg aa : Nat} {P : M2} {S : M2} {N : M2} (hC : CallFix p m c cc nL s args lw_g own) (hN : NW s) (hK : va_K D vwCl (tysG Z) s) (hP : va_P D vwCl (QW Z a q g rg aa P S N) H) (hl : Cond.fieldLinkNest own index RX7 "end" "[I" host ∈ lw_n) (hdg : decode cc pc = .ok (.getfield index, 3)) (kk : W p l e R s m args below meth c H locs cells slots Q (F0 m (pc + 3) ls (.ref (a 207) :: rest))) : W p l e R s m args below meth c H locs cells slots Q (F0 m pc ls (.ref (a 200) :: rest)) :=
  w_getN (C := RX7) (T := TX7) (N := 15) (ci := 7) (q0 := 0) (k := 7) hC hN hK hP fi_X7 rfl rfl rfl (by decide) rfl hl hdg kk
theorem gNQW_st_8 {Z : Nat → ClassId} {a q g : Nat → Nat} {rg aa : Nat} {P : M2} {S : M2} {N : M2} (hC : CallFix p m c cc nL s args lw_g own) (hN : NW s) (hK : va_K D vwCl (tysG Z) s) (hP : va_P D vwCl (QW Z a q g rg aa P S N) H) (hl : Cond.fieldLinkNest own index RX7 "due" "[I" host ∈ lw_n) (hdg : decode cc pc = .ok (.getfield index, 3)) (kk : W p l e R s m args below meth c H locs cells slots Q (F0 m (pc + 3) ls (.ref (a 208) :: rest))) : W p l e R s m args below meth c H locs cells slots Q (F0 m pc ls (.ref (a 200) :: rest)) :=
  w_getN (C := RX7) (T := TX7) (N := 15) (ci := 7) (q0 := 0) (k := 8) hC hN hK hP fi_X7 rfl rfl rfl (by decide) rfl hl hdg kk
theorem gNQW_st_11 {Z : Nat → ClassId} {a q g : Nat → Nat} {rg aa : Nat} {P : M2} {S : M2} {N : M2} (hC : CallFix p m c cc nL s args lw_g own) (hN : NW s) (hK : va_K D vwCl (tysG Z) s) (hP : va_P D vwCl (QW Z a q g rg aa P S N) H) (hl : Cond.fieldLinkNest own index RX7 "out" "[I" host ∈ lw_n) (hdg : decode cc pc = .ok (.getfield index, 3)) (kk : W p l e R s m args below meth c H locs cells slots Q (F0 m (pc + 3) ls (.ref (a 211) :: rest))) : W p l e R s m args below meth c H locs cells slots Q (F0 m pc ls (.ref (a 200) :: rest)) :=
  w_getN (C := RX7) (T := TX7) (N := 15) (ci := 7) (q0 := 0) (k := 11) hC hN hK hP fi_X7 rfl rfl rfl (by decide) rfl hl hdg kk
theorem pQW_mod_0 {Z : Nat → ClassId} {a q g : Nat → Nat} {rg aa : Nat} {P : M2} {S : M2} {N : M2} {x : Int32} (hC : CallFix p m c cc nL s args lw_g own) (hK : va_K D vwCl (tysG Z) s) (hT : TS vwCl D (QW Z a q g rg aa P S N) A H0 H locs) (hl : Cond.fieldLink own index RX8 "thrown" "I" ∈ lw_g) (hdg : decode cc pc = .ok (.putfield index, 3)) (kk : ∀ (N1 : M2), N1 = up2 N 220 (fun _ => x) → ∀ (H1 : Heap) (locs1 : List Loc), TS vwCl D (QW Z a q g rg aa P S N1) A H0 H1 locs1 → W p l e R s m args below meth c H1 locs1 cells slots Q (F0 m (pc + 3) ls rest)) : W p l e R s m args below meth c H locs cells slots Q (F0 m pc ls (.int x :: .ref (g 220) :: rest)) :=
  w_put (C := RX8) (T := TX8) (N := 15) (ci := 8) (q0 := 12) (k := 0) (ty0 := tyX8) (ty := .int) (ws' := (QW Z a q g rg aa P S (up2 N 220 (fun _ => x)))) hC hK hT fi_X8 tyX8_ok nmX8 rfl rfl (by decide) rfl rfl rfl rfl rfl (Nat.le_of_ble_eq_true rfl) rfl hl hdg (fun H1 locs1 hT1 => kk _ rfl H1 locs1 hT1)
theorem pQW_mod_2 {Z : Nat → ClassId} {a q g : Nat → Nat} {rg aa : Nat} {P : M2} {S : M2} {N : M2} {x : Int32} (hC : CallFix p m c cc nL s args lw_g own) (hK : va_K D vwCl (tysG Z) s) (hT : TS vwCl D (QW Z a q g rg aa P S N) A H0 H locs) (hl : Cond.fieldLink own index RX8 "size" "I" ∈ lw_g) (hdg : decode cc pc = .ok (.putfield index, 3)) (kk : ∀ (N1 : M2), N1 = up2 N 222 (fun _ => x) → ∀ (H1 : Heap) (locs1 : List Loc), TS vwCl D (QW Z a q g rg aa P S N1) A H0 H1 locs1 → W p l e R s m args below meth c H1 locs1 cells slots Q (F0 m (pc + 3) ls rest)) : W p l e R s m args below meth c H locs cells slots Q (F0 m pc ls (.int x :: .ref (g 220) :: rest)) :=
  w_put (C := RX8) (T := TX8) (N := 15) (ci := 8) (q0 := 12) (k := 2) (ty0 := tyX8) (ty := .int) (ws' := (QW Z a q g rg aa P S (up2 N 222 (fun _ => x)))) hC hK hT fi_X8 tyX8_ok nmX8 rfl rfl (by decide) rfl rfl rfl rfl rfl (Nat.le_of_ble_eq_true rfl) rfl hl hdg (fun H1 locs1 hT1 => kk _ rfl H1 locs1 hT1)
theorem pNQW_st_1 {Z : Nat → ClassId} {a q g : Nat → Nat} {rg aa : Nat} {P : M2} {S : M2} {N : M2} {x : Int32} (hC : CallFix p m c cc nL s args lw_g own) (hN : NW s) (hK : va_K D vwCl (tysG Z) s) (hT : TS vwCl D (QW Z a q g rg aa P S N) A H0 H locs) (hl : Cond.fieldLinkNest own index RX7 "turn" "I" host ∈ lw_n) (hdg : decode cc pc = .ok (.putfield index, 3)) (kk : ∀ (S1 : M2), S1 = up2 S 201 (fun _ => x) → ∀ (H1 : Heap) (locs1 : List Loc), TS vwCl D (QW Z a q g rg aa P S1 N) A H0 H1 locs1 → W p l e R s m args below meth c H1 locs1 cells slots Q (F0 m (pc + 3) ls rest)) : W p l e R s m args below meth c H locs cells slots Q (F0 m pc ls (.int x :: .ref (a 200) :: rest)) :=
  w_putN (C := RX7) (T := TX7) (N := 15) (ci := 7) (q0 := 0) (k := 1) (ty0 := tyX7) (ty := .int) (ws' := (QW Z a q g rg aa P (up2 S 201 (fun _ => x)) N)) hC hN hK hT fi_X7 tyX7_ok nmX7 rfl rfl (by decide) rfl rfl rfl rfl rfl (Nat.le_of_ble_eq_true rfl) rfl hl hdg (fun H1 locs1 hT1 => kk _ rfl H1 locs1 hT1)
theorem sQW_air {Z : Nat → ClassId} {a q g : Nat → Nat} {rg aa : Nat} {P : M2} {S : M2} {N : M2} {i : Int32} {x : Int32} (hC : CallFix p m c cc nL s args lw_g own) (hK : va_K D vwCl (tysG Z) s) (hT : TS vwCl D (QW Z a q g rg aa P S N) A H0 H locs) (hi : inb i 60) (hdg : decode cc pc = .ok (.iastore, 1)) (kk : ∀ (S1 : M2), S1 = up2 S 202 (upd (S 202) i.toInt.toNat x) → ∀ (H1 : Heap) (locs1 : List Loc), TS vwCl D (QW Z a q g rg aa P S1 N) A H0 H1 locs1 → W p l e R s m args below meth c H1 locs1 cells slots Q (F0 m (pc + 1) ls rest)) : W p l e R s m args below meth c H locs cells slots Q (F0 m pc ls (.int x :: .int i :: .ref (a 202) :: rest)) :=
  w_iast (q0 := 1) (ws' := (QW Z a q g rg aa P (up2 S 202 (upd (S 202) i.toInt.toNat x)) N)) hC hK hT rfl hi rfl hdg (fun H1 locs1 hT1 => kk _ rfl H1 locs1 hT1)
theorem sQW_capAt {Z : Nat → ClassId} {a q g : Nat → Nat} {rg aa : Nat} {P : M2} {S : M2} {N : M2} {i : Int32} {x : Int32} (hC : CallFix p m c cc nL s args lw_g own) (hK : va_K D vwCl (tysG Z) s) (hT : TS vwCl D (QW Z a q g rg aa P S N) A H0 H locs) (hi : inb i 6) (hdg : decode cc pc = .ok (.iastore, 1)) (kk : ∀ (S1 : M2), S1 = up2 S 204 (upd (S 204) i.toInt.toNat x) → ∀ (H1 : Heap) (locs1 : List Loc), TS vwCl D (QW Z a q g rg aa P S1 N) A H0 H1 locs1 → W p l e R s m args below meth c H1 locs1 cells slots Q (F0 m (pc + 1) ls rest)) : W p l e R s m args below meth c H locs cells slots Q (F0 m pc ls (.int x :: .int i :: .ref (a 204) :: rest)) :=
  w_iast (q0 := 3) (ws' := (QW Z a q g rg aa P (up2 S 204 (upd (S 204) i.toInt.toNat x)) N)) hC hK hT rfl hi rfl hdg (fun H1 locs1 hT1 => kk _ rfl H1 locs1 hT1)
theorem sQW_due {Z : Nat → ClassId} {a q g : Nat → Nat} {rg aa : Nat} {P : M2} {S : M2} {N : M2} {i : Int32} {x : Int32} (hC : CallFix p m c cc nL s args lw_g own) (hK : va_K D vwCl (tysG Z) s) (hT : TS vwCl D (QW Z a q g rg aa P S N) A H0 H locs) (hi : inb i 8) (hdg : decode cc pc = .ok (.iastore, 1)) (kk : ∀ (S1 : M2), S1 = up2 S 208 (upd (S 208) i.toInt.toNat x) → ∀ (H1 : Heap) (locs1 : List Loc), TS vwCl D (QW Z a q g rg aa P S1 N) A H0 H1 locs1 → W p l e R s m args below meth c H1 locs1 cells slots Q (F0 m (pc + 1) ls rest)) : W p l e R s m args below meth c H locs cells slots Q (F0 m pc ls (.int x :: .int i :: .ref (a 208) :: rest)) :=
  w_iast (q0 := 7) (ws' := (QW Z a q g rg aa P (up2 S 208 (upd (S 208) i.toInt.toNat x)) N)) hC hK hT rfl hi rfl hdg (fun H1 locs1 hT1 => kk _ rfl H1 locs1 hT1)
theorem sQW_end {Z : Nat → ClassId} {a q g : Nat → Nat} {rg aa : Nat} {P : M2} {S : M2} {N : M2} {i : Int32} {x : Int32} (hC : CallFix p m c cc nL s args lw_g own) (hK : va_K D vwCl (tysG Z) s) (hT : TS vwCl D (QW Z a q g rg aa P S N) A H0 H locs) (hi : inb i 8) (hdg : decode cc pc = .ok (.iastore, 1)) (kk : ∀ (S1 : M2), S1 = up2 S 207 (upd (S 207) i.toInt.toNat x) → ∀ (H1 : Heap) (locs1 : List Loc), TS vwCl D (QW Z a q g rg aa P S1 N) A H0 H1 locs1 → W p l e R s m args below meth c H1 locs1 cells slots Q (F0 m (pc + 1) ls rest)) : W p l e R s m args below meth c H locs cells slots Q (F0 m pc ls (.int x :: .int i :: .ref (a 207) :: rest)) :=
  w_iast (q0 := 6) (ws' := (QW Z a q g rg aa P (up2 S 207 (upd (S 207) i.toInt.toNat x)) N)) hC hK hT rfl hi rfl hdg (fun H1 locs1 hT1 => kk _ rfl H1 locs1 hT1)
theorem sQW_is {Z : Nat → ClassId} {a q g : Nat → Nat} {rg aa : Nat} {P : M2} {S : M2} {N : M2} {i : Int32} {x : Int32} (hC : CallFix p m c cc nL s args lw_g own) (hK : va_K D vwCl (tysG Z) s) (hT : TS vwCl D (QW Z a q g rg aa P S N) A H0 H locs) (hi : inb i 8) (hdg : decode cc pc = .ok (.iastore, 1)) (kk : ∀ (S1 : M2), S1 = up2 S 206 (upd (S 206) i.toInt.toNat x) → ∀ (H1 : Heap) (locs1 : List Loc), TS vwCl D (QW Z a q g rg aa P S1 N) A H0 H1 locs1 → W p l e R s m args below meth c H1 locs1 cells slots Q (F0 m (pc + 1) ls rest)) : W p l e R s m args below meth c H locs cells slots Q (F0 m pc ls (.int x :: .int i :: .ref (a 206) :: rest)) :=
  w_iast (q0 := 5) (ws' := (QW Z a q g rg aa P (up2 S 206 (upd (S 206) i.toInt.toNat x)) N)) hC hK hT rfl hi rfl hdg (fun H1 locs1 hT1 => kk _ rfl H1 locs1 hT1)
theorem sQW_out {Z : Nat → ClassId} {a q g : Nat → Nat} {rg aa : Nat} {P : M2} {S : M2} {N : M2} {i : Int32} {x : Int32} (hC : CallFix p m c cc nL s args lw_g own) (hK : va_K D vwCl (tysG Z) s) (hT : TS vwCl D (QW Z a q g rg aa P S N) A H0 H locs) (hi : inb i 8) (hdg : decode cc pc = .ok (.iastore, 1)) (kk : ∀ (S1 : M2), S1 = up2 S 211 (upd (S 211) i.toInt.toNat x) → ∀ (H1 : Heap) (locs1 : List Loc), TS vwCl D (QW Z a q g rg aa P S1 N) A H0 H1 locs1 → W p l e R s m args below meth c H1 locs1 cells slots Q (F0 m (pc + 1) ls rest)) : W p l e R s m args below meth c H locs cells slots Q (F0 m pc ls (.int x :: .int i :: .ref (a 211) :: rest)) :=
  w_iast (q0 := 10) (ws' := (QW Z a q g rg aa P (up2 S 211 (upd (S 211) i.toInt.toNat x)) N)) hC hK hT rfl hi rfl hdg (fun H1 locs1 hT1 => kk _ rfl H1 locs1 hT1)
theorem rowAt_QW {Z : Nat → ClassId} {a q g : Nat → Nat} {rg aa : Nat} {P : M2} {S : M2} {N : M2} {j : Nat} (hj : j < 8) : (QW Z a q g rg aa P S N)[32 + j]? = some (q (310 + j), .inl (Z 0, 2, .inl (P (310 + j)))) := by
  match j, hj with
  | 0, _ => rfl
  | 1, _ => rfl
  | 2, _ => rfl
  | 3, _ => rfl
  | 4, _ => rfl
  | 5, _ => rfl
  | 6, _ => rfl
  | 7, _ => rfl
theorem wrn_QW {Z : Nat → ClassId} {a q g : Nat → Nat} {rg aa : Nat} {P : M2} {S : M2} {N : M2} {i : Int32} (hC : CallFix p m c cc nL s args lw_g own) (hK : va_K D vwCl (tysG Z) s) (hP : va_P D vwCl (QW Z a q g rg aa P S N) H) (hi : inb i 8) (hdg : decode cc pc = .ok (.arraylength, 1)) (kk : W p l e R s m args below meth c H locs cells slots Q (F0 m (pc + 1) ls (.int (Int32.ofNat 2) :: rest))) : W p l e R s m args below meth c H locs cells slots Q (F0 m pc ls (.ref (q (310 + i.toInt.toNat)) :: rest)) :=
  w_alen (q0 := 32 + i.toInt.toNat) (t0 := 0) hC hK hP (rowAt_QW (by omega)) rfl hdg kk
theorem wrl_QW {Z : Nat → ClassId} {a q g : Nat → Nat} {rg aa : Nat} {P : M2} {S : M2} {N : M2} {i j : Int32} (hC : CallFix p m c cc nL s args lw_g own) (hK : va_K D vwCl (tysG Z) s) (hP : va_P D vwCl (QW Z a q g rg aa P S N) H) (hi : inb i 8) (hj : inb j 2) (hdg : decode cc pc = .ok (.iaload, 1)) (kk : W p l e R s m args below meth c H locs cells slots Q (F0 m (pc + 1) ls (.int (P (310 + i.toInt.toNat) j.toInt.toNat) :: rest))) : W p l e R s m args below meth c H locs cells slots Q (F0 m pc ls (.int j :: .ref (q (310 + i.toInt.toNat)) :: rest)) :=
  w_iald (q0 := 32 + i.toInt.toNat) hC hK hP (rowAt_QW (by omega)) hj hdg kk
end ROWSQW
set_option maxRecDepth 100000 in
theorem sx_SWQW (Z : Nat → ClassId) (a q g : Nat → Nat) (rg aa : Nat) (P : M2) (S : M2) (N : M2) : ([0, 1, 2, 3, 4, 5, 6, 7, 8, 9, 10, 11, 12, 13, 14, 15, 16, 17, 18, 19, 20, 21, 22, 23, 24, 25, 26, 27, 28, 29, 30, 31, 32, 33, 34, 35, 36, 37, 38, 39] : List Nat).map (fun i => (QW Z a q g rg aa P S N)[i]?) = (SW Z a q g rg (a 200) aa N P S).map some := rfl
set_option maxRecDepth 100000 in
theorem cx_SWQW (Z : Nat → ClassId) (a q g : Nat → Nat) (rg aa : Nat) (P : M2) (S : M2) (N : M2) : Cut (QW Z a q g rg aa P S N) (SW Z a q g rg (a 200) aa N P) S [] [0, 1, 2, 3, 4, 5, 6, 7, 8, 9, 10, 11, 12, 13, 14, 15, 16, 17, 18, 19, 20, 21, 22, 23, 24, 25, 26, 27, 28, 29, 30, 31, 32, 33, 34, 35, 36, 37, 38, 39] [] [0, 1, 2, 3, 4, 5, 6, 7, 8, 9, 10, 11, 12, 13, 14, 15, 16, 17, 18, 19, 20, 21, 22, 23, 24, 25, 26, 27, 28, 29, 30, 31, 32, 33, 34, 35, 36, 37, 38, 39] (fun u : M2 => (QW Z a q g rg aa P u N)) := ⟨rfl, rfl, rfl, by decide, rfl, fun _ => rfl⟩
set_option maxRecDepth 100000 in
theorem sx_EWQW (Z : Nat → ClassId) (a q g : Nat → Nat) (rg aa : Nat) (P : M2) (S : M2) (N : M2) : ([] : List Nat).map (fun i => (QW Z a q g rg aa P S N)[i]?) = (EW Z).map some := rfl
section LX7_boatAt0x
variable {p : Program} {l : Launch} {e : Env} {s : State} {m : MethodId} {args : Array Value} {below : List Frame} {meth : Method} {c : Code} {H H0 : Heap} {locs : List Loc} {cells slots : Nat} {Q : State → Prop} {R : Room} {rn mcR msR : Nat}
variable {pc : Nat} {ls : Array Slot} {rest : List Value} {A : Nat → Prop} {D : va_G}
variable {cc : ByteArray} {nL index : Nat} {own host : String}
theorem kx_X7_boatAt {Z : Nat → ClassId} {a q g : Nat → Nat} {rg sa aa : Nat} {N P : M2} {S : M2} {x1 : Int32} {K : Int32 → Prop} {ws : va_W} {isC : List Nat} (hC : CallFix p m c cc nL s args lw_g own) (hN : NW s) (hK : va_K D vwCl (tysG Z) s) (hP : va_P D vwCl ws H) (hD : va_D (fun _ => True) ws) (hs : isC.map (fun i => ws[i]?) = (SW Z a q g rg sa aa N P S).map some) (hnd : va_nd isC = true) (hm : wp_X7_boatAt N P S x1 K) (hl : Cond.methodLink own index yX7_boatAt ∈ lw_g) (hlt : 1 < rn) (hsize : ls.size = nL) (hW : (rest.map fun v => v.category).sum ≤ 8) (hf : cells + 0 ≤ mcR ∧ slots + 0 ≤ msR) (hdg : decode cc pc = .ok (.invokevirtual index, 3)) (kk : ∀ r : Int32, K r → W p l e (rk rn mcR msR) s m args below meth c H locs cells slots Q (F0 m (pc + 3) ls (.int r :: rest))) : W p l e (rk rn mcR msR) s m args below meth c H locs cells slots Q (F0 m pc ls (.int x1 :: .ref (a 200) :: rest)) :=
  ro_go (runV (As := [.int x1]) hC hN (c_X7_boatAt l D Z a q g rg sa aa N P S H.size x1 K hm) mi_X7_boatAt hl wq_1754 wq_1755 hlt (hP.sub isC (map_fm hs)) (hD.sub isC hnd hs) hK (q0 := 0) rfl rfl rfl hsize rfl hW hdg hf) kk
end LX7_boatAt0x
section LX7_those0x
variable {p : Program} {l : Launch} {e : Env} {s : State} {m : MethodId} {args : Array Value} {below : List Frame} {meth : Method} {c : Code} {H H0 : Heap} {locs : List Loc} {cells slots : Nat} {Q : State → Prop} {R : Room} {rn mcR msR : Nat}
variable {pc : Nat} {ls : Array Slot} {rest : List Value} {A : Nat → Prop} {D : va_G}
variable {cc : ByteArray} {nL index : Nat} {own host : String}
theorem kx_X7_those {Z : Nat → ClassId} {a q g : Nat → Nat} {rg sa aa : Nat} {N P : M2} {S : M2} {x1 : Int32} {K : Int32 → Prop} {ws : va_W} {isC : List Nat} (hC : CallFix p m c cc nL s args lw_g own) (hN : NW s) (hK : va_K D vwCl (tysG Z) s) (hP : va_P D vwCl ws H) (hD : va_D (fun _ => True) ws) (hs : isC.map (fun i => ws[i]?) = (SW Z a q g rg sa aa N P S).map some) (hnd : va_nd isC = true) (hm : wp_X7_those N P S x1 K) (hl : Cond.methodLink own index yX7_those ∈ lw_g) (hlt : 1 < rn) (hsize : ls.size = nL) (hW : (rest.map fun v => v.category).sum ≤ 8) (hf : cells + 0 ≤ mcR ∧ slots + 0 ≤ msR) (hdg : decode cc pc = .ok (.invokevirtual index, 3)) (kk : ∀ r : Int32, K r → W p l e (rk rn mcR msR) s m args below meth c H locs cells slots Q (F0 m (pc + 3) ls (.int r :: rest))) : W p l e (rk rn mcR msR) s m args below meth c H locs cells slots Q (F0 m pc ls (.int x1 :: .ref (a 200) :: rest)) :=
  ro_go (runV (As := [.int x1]) hC hN (c_X7_those l D Z a q g rg sa aa N P S H.size x1 K hm) mi_X7_those hl wq_1729 wq_1730 hlt (hP.sub isC (map_fm hs)) (hD.sub isC hnd hs) hK (q0 := 0) rfl rfl rfl hsize rfl hW hdg hf) kk
end LX7_those0x
section LX7_allAir0x
variable {p : Program} {l : Launch} {e : Env} {s : State} {m : MethodId} {args : Array Value} {below : List Frame} {meth : Method} {c : Code} {H H0 : Heap} {locs : List Loc} {cells slots : Nat} {Q : State → Prop} {R : Room} {rn mcR msR : Nat}
variable {pc : Nat} {ls : Array Slot} {rest : List Value} {A : Nat → Prop} {D : va_G}
variable {cc : ByteArray} {nL index : Nat} {own host : String}
theorem kx_X7_allAir {Z : Nat → ClassId} {a q g : Nat → Nat} {rg sa aa : Nat} {N P : M2} {S : M2} {K : Int32 → Prop} {ws : va_W} {isC : List Nat} (hC : CallFix p m c cc nL s args lw_g own) (hN : NW s) (hK : va_K D vwCl (tysG Z) s) (hP : va_P D vwCl ws H) (hD : va_D (fun _ => True) ws) (hs : isC.map (fun i => ws[i]?) = (SW Z a q g rg sa aa N P S).map some) (hnd : va_nd isC = true) (hm : wp_X7_allAir N P S K) (hl : Cond.methodLink own index yX7_allAir ∈ lw_g) (hlt : 1 < rn) (hsize : ls.size = nL) (hW : (rest.map fun v => v.category).sum ≤ 8) (hf : cells + 0 ≤ mcR ∧ slots + 0 ≤ msR) (hdg : decode cc pc = .ok (.invokevirtual index, 3)) (kk : ∀ r : Int32, K r → W p l e (rk rn mcR msR) s m args below meth c H locs cells slots Q (F0 m (pc + 3) ls (.int r :: rest))) : W p l e (rk rn mcR msR) s m args below meth c H locs cells slots Q (F0 m pc ls (.ref (a 200) :: rest)) :=
  ro_go (runV (As := []) hC hN (c_X7_allAir l D Z a q g rg sa aa N P S H.size K hm) mi_X7_allAir hl wq_1733 wq_1734 hlt (hP.sub isC (map_fm hs)) (hD.sub isC hnd hs) hK (q0 := 0) rfl rfl rfl hsize rfl hW hdg hf) kk
end LX7_allAir0x
section LX7_capsAt0x
variable {p : Program} {l : Launch} {e : Env} {s : State} {m : MethodId} {args : Array Value} {below : List Frame} {meth : Method} {c : Code} {H H0 : Heap} {locs : List Loc} {cells slots : Nat} {Q : State → Prop} {R : Room} {rn mcR msR : Nat}
variable {pc : Nat} {ls : Array Slot} {rest : List Value} {A : Nat → Prop} {D : va_G}
variable {cc : ByteArray} {nL index : Nat} {own host : String}
theorem kx_X7_capsAt {Z : Nat → ClassId} {a q g : Nat → Nat} {rg sa aa : Nat} {N P : M2} {S : M2} {x1 : Int32} {K : Int32 → Prop} {ws : va_W} {isC : List Nat} (hC : CallFix p m c cc nL s args lw_g own) (hN : NW s) (hK : va_K D vwCl (tysG Z) s) (hP : va_P D vwCl ws H) (hD : va_D (fun _ => True) ws) (hs : isC.map (fun i => ws[i]?) = (SW Z a q g rg sa aa N P S).map some) (hnd : va_nd isC = true) (hm : wp_X7_capsAt N P S x1 K) (hl : Cond.methodLink own index yX7_capsAt ∈ lw_g) (hlt : 1 < rn) (hsize : ls.size = nL) (hW : (rest.map fun v => v.category).sum ≤ 8) (hf : cells + 0 ≤ mcR ∧ slots + 0 ≤ msR) (hdg : decode cc pc = .ok (.invokevirtual index, 3)) (kk : ∀ r : Int32, K r → W p l e (rk rn mcR msR) s m args below meth c H locs cells slots Q (F0 m (pc + 3) ls (.int r :: rest))) : W p l e (rk rn mcR msR) s m args below meth c H locs cells slots Q (F0 m pc ls (.int x1 :: .ref (a 200) :: rest)) :=
  ro_go (runV (As := [.int x1]) hC hN (c_X7_capsAt l D Z a q g rg sa aa N P S H.size x1 K hm) mi_X7_capsAt hl wq_1737 wq_1738 hlt (hP.sub isC (map_fm hs)) (hD.sub isC hnd hs) hK (q0 := 0) rfl rfl rfl hsize rfl hW hdg hf) kk
end LX7_capsAt0x
section LX7_canEnter0x
variable {p : Program} {l : Launch} {e : Env} {s : State} {m : MethodId} {args : Array Value} {below : List Frame} {meth : Method} {c : Code} {H H0 : Heap} {locs : List Loc} {cells slots : Nat} {Q : State → Prop} {R : Room} {rn mcR msR : Nat}
variable {pc : Nat} {ls : Array Slot} {rest : List Value} {A : Nat → Prop} {D : va_G}
variable {cc : ByteArray} {nL index : Nat} {own host : String}
theorem kx_X7_canEnter {Z : Nat → ClassId} {a q g : Nat → Nat} {rg sa aa : Nat} {N P : M2} {S : M2} {x1 : Int32} {K : Int32 → M2 → Prop} {ws wr : va_W} {isC isR pm : List Nat} {ws' : M2 → va_W} (hC : CallFix p m c cc nL s args lw_g own) (hN : NW s) (hK : va_K D vwCl (tysG Z) s) (hT : TS vwCl D ws A H0 H locs) (hc : Cut ws (SW Z a q g rg sa aa N P) S wr isC isR pm ws') (hnd : va_nd isC = true) (hm : wp_X7_canEnter N P S x1 K) (hl : Cond.methodLink own index yX7_canEnter ∈ lw_g) (hlt : 7 < rn) (hsize : ls.size = nL) (hW : (rest.map fun v => v.category).sum ≤ 8) (hf : cells + 0 ≤ mcR ∧ slots + 0 ≤ msR) (hdg : decode cc pc = .ok (.invokevirtual index, 3)) (kk : ∀ (r : Int32) (S1 : M2) (H1 : Heap) (locs1 : List Loc), K r S1 → TS vwCl D (ws' S1) A H0 H1 locs1 → W p l e (rk rn mcR msR) s m args below meth c H1 locs1 cells slots Q (F0 m (pc + 3) ls (.int r :: rest))) : W p l e (rk rn mcR msR) s m args below meth c H locs cells slots Q (F0 m pc ls (.int x1 :: .ref (a 200) :: rest)) :=
  rw_go (wsF := (SW Z a q g rg sa aa N P)) (u0 := S) (wr := wr) (isC := isC) (isR := isR) (pm := pm) (ws' := ws') (runV (As := [.int x1]) hC hN (c_X7_canEnter l D Z a q g rg sa aa N P S H.size x1 K hm) mi_X7_canEnter hl wq_1806 wq_1807 hlt (hT.1.sub isC (map_fm hc.1)) (hT.D'.sub isC hnd hc.1) hK (q0 := 0) rfl rfl rfl hsize rfl hW hdg hf) hc hT (fun r u H1 locs1 hk hT1 => kk r u H1 locs1 hk hT1)
end LX7_canEnter0x
section LX7_pass_0x
variable {p : Program} {l : Launch} {e : Env} {s : State} {m : MethodId} {args : Array Value} {below : List Frame} {meth : Method} {c : Code} {H H0 : Heap} {locs : List Loc} {cells slots : Nat} {Q : State → Prop} {R : Room} {rn mcR msR : Nat}
variable {pc : Nat} {ls : Array Slot} {rest : List Value} {A : Nat → Prop} {D : va_G}
variable {cc : ByteArray} {nL index : Nat} {own host : String}
theorem kx_X7_pass_ {Z : Nat → ClassId} {a q g : Nat → Nat} {rg sa aa : Nat} {N P : M2} {S : M2} {x1 : Int32} {K : M2 → Prop} {ws wr : va_W} {isC isR pm : List Nat} {ws' : M2 → va_W} (hC : CallFix p m c cc nL s args lw_g own) (hN : NW s) (hK : va_K D vwCl (tysG Z) s) (hT : TS vwCl D ws A H0 H locs) (hc : Cut ws (SW Z a q g rg sa aa N P) S wr isC isR pm ws') (hnd : va_nd isC = true) (hm : wp_X7_pass_ N P S x1 K) (hl : Cond.methodLink own index yX7_pass_ ∈ lw_g) (hlt : 10 < rn) (hsize : ls.size = nL) (hW : (rest.map fun v => v.category).sum ≤ 8) (hf : cells + 0 ≤ mcR ∧ slots + 0 ≤ msR) (hdg : decode cc pc = .ok (.invokevirtual index, 3)) (kk : ∀ (S1 : M2) (H1 : Heap) (locs1 : List Loc), K S1 → TS vwCl D (ws' S1) A H0 H1 locs1 → W p l e (rk rn mcR msR) s m args below meth c H1 locs1 cells slots Q (F0 m (pc + 3) ls (.ref (a 200) :: rest))) : W p l e (rk rn mcR msR) s m args below meth c H locs cells slots Q (F0 m pc ls (.int x1 :: .ref (a 200) :: rest)) :=
  rwr_go (wsF := (SW Z a q g rg sa aa N P)) (u0 := S) (wr := wr) (isC := isC) (isR := isR) (pm := pm) (ws' := ws') (runV (As := [.int x1]) hC hN (c_X7_pass_ l D Z a q g rg sa aa N P S H.size x1 K hm) mi_X7_pass_ hl wq_1877 wq_1878 hlt (hT.1.sub isC (map_fm hc.1)) (hT.D'.sub isC hnd hc.1) hK (q0 := 0) rfl rfl rfl hsize rfl hW hdg hf) hc hT (fun u H1 locs1 hk hT1 => kk u H1 locs1 hk hT1)
end LX7_pass_0x
theorem dX8_thrown_0 : decode cX8_thrown 0 = .ok (.aload_n 0, 1) := by decide +kernel
theorem dX8_thrown_1 : decode cX8_thrown 1 = .ok (.getfield 57, 3) := by decide +kernel
theorem dX8_thrown_4 : decode cX8_thrown 4 = .ok (.ireturn, 1) := by decide +kernel
theorem dX8_isPlace_0 : decode cX8_isPlace 0 = .ok (.iload_n 1, 1) := by decide +kernel
theorem dX8_isPlace_1 : decode cX8_isPlace 1 = .ok (.iconst 0, 1) := by decide +kernel
theorem dX8_isPlace_2 : decode cX8_isPlace 2 = .ok (.aload_n 0, 1) := by decide +kernel
theorem dX8_isPlace_3 : decode cX8_isPlace 3 = .ok (.getfield 35, 3) := by decide +kernel
theorem dX8_isPlace_6 : decode cX8_isPlace 6 = .ok (.getfield 60, 3) := by decide +kernel
theorem dX8_isPlace_9 : decode cX8_isPlace 9 = .ok (.iconst 1, 1) := by decide +kernel
theorem dX8_isPlace_10 : decode cX8_isPlace 10 = .ok (.isub, 1) := by decide +kernel
theorem dX8_isPlace_11 : decode cX8_isPlace 11 = .ok (.invokestatic 63, 3) := by decide +kernel
theorem dX8_isPlace_14 : decode cX8_isPlace 14 = .ok (.ireturn, 1) := by decide +kernel
theorem dX8_isBore_0 : decode cX8_isBore 0 = .ok (.iload_n 1, 1) := by decide +kernel
theorem dX8_isBore_1 : decode cX8_isBore 1 = .ok (.iconst 0, 1) := by decide +kernel
theorem dX8_isBore_2 : decode cX8_isBore 2 = .ok (.aload_n 0, 1) := by decide +kernel
theorem dX8_isBore_3 : decode cX8_isBore 3 = .ok (.getfield 35, 3) := by decide +kernel
theorem dX8_isBore_6 : decode cX8_isBore 6 = .ok (.getfield 67, 3) := by decide +kernel
theorem dX8_isBore_9 : decode cX8_isBore 9 = .ok (.iconst 1, 1) := by decide +kernel
theorem dX8_isBore_10 : decode cX8_isBore 10 = .ok (.isub, 1) := by decide +kernel
theorem dX8_isBore_11 : decode cX8_isBore 11 = .ok (.invokestatic 63, 3) := by decide +kernel
theorem dX8_isBore_14 : decode cX8_isBore 14 = .ok (.ireturn, 1) := by decide +kernel
theorem dX8_isLegger_0 : decode cX8_isLegger 0 = .ok (.iload_n 1, 1) := by decide +kernel
theorem dX8_isLegger_1 : decode cX8_isLegger 1 = .ok (.iconst 0, 1) := by decide +kernel
theorem dX8_isLegger_2 : decode cX8_isLegger 2 = .ok (.aload_n 0, 1) := by decide +kernel
theorem dX8_isLegger_3 : decode cX8_isLegger 3 = .ok (.getfield 35, 3) := by decide +kernel
theorem dX8_isLegger_6 : decode cX8_isLegger 6 = .ok (.getfield 70, 3) := by decide +kernel
theorem dX8_isLegger_9 : decode cX8_isLegger 9 = .ok (.iconst 1, 1) := by decide +kernel
theorem dX8_isLegger_10 : decode cX8_isLegger 10 = .ok (.isub, 1) := by decide +kernel
theorem dX8_isLegger_11 : decode cX8_isLegger 11 = .ok (.invokestatic 63, 3) := by decide +kernel
theorem dX8_isLegger_14 : decode cX8_isLegger 14 = .ok (.ireturn, 1) := by decide +kernel
theorem dX8_isBoat_0 : decode cX8_isBoat 0 = .ok (.iload_n 1, 1) := by decide +kernel
theorem dX8_isBoat_1 : decode cX8_isBoat 1 = .ok (.iconst 0, 1) := by decide +kernel
theorem dX8_isBoat_2 : decode cX8_isBoat 2 = .ok (.aload_n 0, 1) := by decide +kernel
theorem dX8_isBoat_3 : decode cX8_isBoat 3 = .ok (.getfield 35, 3) := by decide +kernel
theorem dX8_isBoat_6 : decode cX8_isBoat 6 = .ok (.getfield 73, 3) := by decide +kernel
theorem dX8_isBoat_9 : decode cX8_isBoat 9 = .ok (.iconst 1, 1) := by decide +kernel
theorem dX8_isBoat_10 : decode cX8_isBoat 10 = .ok (.isub, 1) := by decide +kernel
theorem dX8_isBoat_11 : decode cX8_isBoat 11 = .ok (.invokestatic 63, 3) := by decide +kernel
theorem dX8_isBoat_14 : decode cX8_isBoat 14 = .ok (.ireturn, 1) := by decide +kernel
theorem dX8_placeTold_0 : decode cX8_placeTold 0 = .ok (.iload_n 2, 1) := by decide +kernel
theorem dX8_placeTold_1 : decode cX8_placeTold 1 = .ok (.ifCond .ne 15, 3) := by decide +kernel
theorem dX8_placeTold_4 : decode cX8_placeTold 4 = .ok (.aload_n 0, 1) := by decide +kernel
theorem dX8_placeTold_5 : decode cX8_placeTold 5 = .ok (.getfield 35, 3) := by decide +kernel
theorem dX8_placeTold_8 : decode cX8_placeTold 8 = .ok (.getfield 276, 3) := by decide +kernel
theorem dX8_placeTold_11 : decode cX8_placeTold 11 = .ok (.iload_n 1, 1) := by decide +kernel
theorem dX8_placeTold_12 : decode cX8_placeTold 12 = .ok (.iaload, 1) := by decide +kernel
theorem dX8_placeTold_13 : decode cX8_placeTold 13 = .ok (.goto 44, 3) := by decide +kernel
theorem dX8_placeTold_16 : decode cX8_placeTold 16 = .ok (.iload_n 2, 1) := by decide +kernel
theorem dX8_placeTold_17 : decode cX8_placeTold 17 = .ok (.iconst 1, 1) := by decide +kernel
theorem dX8_placeTold_18 : decode cX8_placeTold 18 = .ok (.if_icmp .ne 15, 3) := by decide +kernel
theorem dX8_placeTold_21 : decode cX8_placeTold 21 = .ok (.aload_n 0, 1) := by decide +kernel
theorem dX8_placeTold_22 : decode cX8_placeTold 22 = .ok (.getfield 47, 3) := by decide +kernel
theorem dX8_placeTold_25 : decode cX8_placeTold 25 = .ok (.getfield 328, 3) := by decide +kernel
theorem dX8_placeTold_28 : decode cX8_placeTold 28 = .ok (.iload_n 1, 1) := by decide +kernel
theorem dX8_placeTold_29 : decode cX8_placeTold 29 = .ok (.iaload, 1) := by decide +kernel
theorem dX8_placeTold_30 : decode cX8_placeTold 30 = .ok (.goto 27, 3) := by decide +kernel
theorem dX8_placeTold_33 : decode cX8_placeTold 33 = .ok (.iload_n 2, 1) := by decide +kernel
theorem dX8_placeTold_34 : decode cX8_placeTold 34 = .ok (.iconst 2, 1) := by decide +kernel
theorem dX8_placeTold_35 : decode cX8_placeTold 35 = .ok (.if_icmp .ne 14, 3) := by decide +kernel
theorem dX8_placeTold_38 : decode cX8_placeTold 38 = .ok (.aload_n 0, 1) := by decide +kernel
theorem dX8_placeTold_39 : decode cX8_placeTold 39 = .ok (.getfield 47, 3) := by decide +kernel
theorem dX8_placeTold_42 : decode cX8_placeTold 42 = .ok (.iload_n 1, 1) := by decide +kernel
theorem dX8_placeTold_43 : decode cX8_placeTold 43 = .ok (.invokevirtual 331, 3) := by decide +kernel
theorem dX8_placeTold_46 : decode cX8_placeTold 46 = .ok (.goto 11, 3) := by decide +kernel
theorem dX8_placeTold_49 : decode cX8_placeTold 49 = .ok (.aload_n 0, 1) := by decide +kernel
theorem dX8_placeTold_50 : decode cX8_placeTold 50 = .ok (.getfield 47, 3) := by decide +kernel
theorem dX8_placeTold_53 : decode cX8_placeTold 53 = .ok (.iload_n 1, 1) := by decide +kernel
theorem dX8_placeTold_54 : decode cX8_placeTold 54 = .ok (.invokevirtual 334, 3) := by decide +kernel
theorem dX8_placeTold_57 : decode cX8_placeTold 57 = .ok (.ireturn, 1) := by decide +kernel
theorem dX8_no_0 : decode cX8_no 0 = .ok (.aload_n 0, 1) := by decide +kernel
theorem dX8_no_1 : decode cX8_no 1 = .ok (.iload_n 1, 1) := by decide +kernel
theorem dX8_no_2 : decode cX8_no 2 = .ok (.putfield 57, 3) := by decide +kernel
theorem dX8_no_5 : decode cX8_no 5 = .ok (.iconst 0, 1) := by decide +kernel
theorem dX8_no_6 : decode cX8_no 6 = .ok (.ireturn, 1) := by decide +kernel
theorem dX8_boreTold_0 : decode cX8_boreTold 0 = .ok (.iload_n 2, 1) := by decide +kernel
theorem dX8_boreTold_1 : decode cX8_boreTold 1 = .ok (.iconst 3, 1) := by decide +kernel
theorem dX8_boreTold_2 : decode cX8_boreTold 2 = .ok (.if_icmp .ge 46, 3) := by decide +kernel
theorem dX8_boreTold_5 : decode cX8_boreTold 5 = .ok (.iload_n 2, 1) := by decide +kernel
theorem dX8_boreTold_6 : decode cX8_boreTold 6 = .ok (.ifCond .ne 15, 3) := by decide +kernel
theorem dX8_boreTold_9 : decode cX8_boreTold 9 = .ok (.aload_n 0, 1) := by decide +kernel
theorem dX8_boreTold_10 : decode cX8_boreTold 10 = .ok (.getfield 35, 3) := by decide +kernel
theorem dX8_boreTold_13 : decode cX8_boreTold 13 = .ok (.getfield 270, 3) := by decide +kernel
theorem dX8_boreTold_16 : decode cX8_boreTold 16 = .ok (.iload_n 1, 1) := by decide +kernel
theorem dX8_boreTold_17 : decode cX8_boreTold 17 = .ok (.iaload, 1) := by decide +kernel
theorem dX8_boreTold_18 : decode cX8_boreTold 18 = .ok (.goto 29, 3) := by decide +kernel
theorem dX8_boreTold_21 : decode cX8_boreTold 21 = .ok (.iload_n 2, 1) := by decide +kernel
theorem dX8_boreTold_22 : decode cX8_boreTold 22 = .ok (.iconst 1, 1) := by decide +kernel
theorem dX8_boreTold_23 : decode cX8_boreTold 23 = .ok (.if_icmp .ne 15, 3) := by decide +kernel
theorem dX8_boreTold_26 : decode cX8_boreTold 26 = .ok (.aload_n 0, 1) := by decide +kernel
theorem dX8_boreTold_27 : decode cX8_boreTold 27 = .ok (.getfield 35, 3) := by decide +kernel
theorem dX8_boreTold_30 : decode cX8_boreTold 30 = .ok (.getfield 282, 3) := by decide +kernel
theorem dX8_boreTold_33 : decode cX8_boreTold 33 = .ok (.iload_n 1, 1) := by decide +kernel
theorem dX8_boreTold_34 : decode cX8_boreTold 34 = .ok (.iaload, 1) := by decide +kernel
theorem dX8_boreTold_35 : decode cX8_boreTold 35 = .ok (.goto 12, 3) := by decide +kernel
theorem dX8_boreTold_38 : decode cX8_boreTold 38 = .ok (.aload_n 0, 1) := by decide +kernel
theorem dX8_boreTold_39 : decode cX8_boreTold 39 = .ok (.getfield 35, 3) := by decide +kernel
theorem dX8_boreTold_42 : decode cX8_boreTold 42 = .ok (.getfield 273, 3) := by decide +kernel
theorem dX8_boreTold_45 : decode cX8_boreTold 45 = .ok (.iload_n 1, 1) := by decide +kernel
theorem dX8_boreTold_46 : decode cX8_boreTold 46 = .ok (.iaload, 1) := by decide +kernel
theorem dX8_boreTold_47 : decode cX8_boreTold 47 = .ok (.ireturn, 1) := by decide +kernel
theorem dX8_boreTold_48 : decode cX8_boreTold 48 = .ok (.iconst 0, 1) := by decide +kernel
theorem dX8_boreTold_49 : decode cX8_boreTold 49 = .ok (.istore_n 3, 1) := by decide +kernel
theorem dX8_boreTold_50 : decode cX8_boreTold 50 = .ok (.iconst 0, 1) := by decide +kernel
theorem dX8_boreTold_51 : decode cX8_boreTold 51 = .ok (.istore 4, 2) := by decide +kernel
theorem dX8_boreTold_53 : decode cX8_boreTold 53 = .ok (.iload 4, 2) := by decide +kernel
theorem dX8_boreTold_55 : decode cX8_boreTold 55 = .ok (.aload_n 0, 1) := by decide +kernel
theorem dX8_boreTold_56 : decode cX8_boreTold 56 = .ok (.getfield 35, 3) := by decide +kernel
theorem dX8_boreTold_59 : decode cX8_boreTold 59 = .ok (.getfield 270, 3) := by decide +kernel
theorem dX8_boreTold_62 : decode cX8_boreTold 62 = .ok (.iload_n 1, 1) := by decide +kernel
theorem dX8_boreTold_63 : decode cX8_boreTold 63 = .ok (.iaload, 1) := by decide +kernel
theorem dX8_boreTold_64 : decode cX8_boreTold 64 = .ok (.if_icmp .ge 32, 3) := by decide +kernel
theorem dX8_boreTold_67 : decode cX8_boreTold 67 = .ok (.iload_n 3, 1) := by decide +kernel
theorem dX8_boreTold_68 : decode cX8_boreTold 68 = .ok (.aload_n 0, 1) := by decide +kernel
theorem dX8_boreTold_69 : decode cX8_boreTold 69 = .ok (.getfield 47, 3) := by decide +kernel
theorem dX8_boreTold_72 : decode cX8_boreTold 72 = .ok (.getfield 328, 3) := by decide +kernel
theorem dX8_boreTold_75 : decode cX8_boreTold 75 = .ok (.aload_n 0, 1) := by decide +kernel
theorem dX8_boreTold_76 : decode cX8_boreTold 76 = .ok (.getfield 35, 3) := by decide +kernel
theorem dX8_boreTold_79 : decode cX8_boreTold 79 = .ok (.getfield 273, 3) := by decide +kernel
theorem dX8_boreTold_82 : decode cX8_boreTold 82 = .ok (.iload_n 1, 1) := by decide +kernel
theorem dX8_boreTold_83 : decode cX8_boreTold 83 = .ok (.iaload, 1) := by decide +kernel
theorem dX8_boreTold_84 : decode cX8_boreTold 84 = .ok (.iload 4, 2) := by decide +kernel
theorem dX8_boreTold_86 : decode cX8_boreTold 86 = .ok (.iadd, 1) := by decide +kernel
theorem dX8_boreTold_87 : decode cX8_boreTold 87 = .ok (.iaload, 1) := by decide +kernel
theorem dX8_boreTold_88 : decode cX8_boreTold 88 = .ok (.iadd, 1) := by decide +kernel
theorem dX8_boreTold_89 : decode cX8_boreTold 89 = .ok (.istore_n 3, 1) := by decide +kernel
theorem dX8_boreTold_90 : decode cX8_boreTold 90 = .ok (.iinc 4 1, 3) := by decide +kernel
theorem dX8_boreTold_93 : decode cX8_boreTold 93 = .ok (.goto (-40), 3) := by decide +kernel
theorem dX8_boreTold_96 : decode cX8_boreTold 96 = .ok (.iload_n 3, 1) := by decide +kernel
theorem dX8_boreTold_97 : decode cX8_boreTold 97 = .ok (.ireturn, 1) := by decide +kernel
theorem dX8_bore_0 : decode cX8_bore 0 = .ok (.aload_n 0, 1) := by decide +kernel
theorem dX8_bore_1 : decode cX8_bore 1 = .ok (.iconst 0, 1) := by decide +kernel
theorem dX8_bore_2 : decode cX8_bore 2 = .ok (.putfield 57, 3) := by decide +kernel
theorem dX8_bore_5 : decode cX8_bore 5 = .ok (.aload_n 0, 1) := by decide +kernel
theorem dX8_bore_6 : decode cX8_bore 6 = .ok (.iload_n 1, 1) := by decide +kernel
theorem dX8_bore_7 : decode cX8_bore 7 = .ok (.invokevirtual 343, 3) := by decide +kernel
theorem dX8_bore_10 : decode cX8_bore 10 = .ok (.ifCond .eq 21, 3) := by decide +kernel
theorem dX8_bore_13 : decode cX8_bore 13 = .ok (.iload_n 2, 1) := by decide +kernel
theorem dX8_bore_14 : decode cX8_bore 14 = .ok (.iconst 0, 1) := by decide +kernel
theorem dX8_bore_15 : decode cX8_bore 15 = .ok (.iconst 3, 1) := by decide +kernel
theorem dX8_bore_16 : decode cX8_bore 16 = .ok (.invokestatic 63, 3) := by decide +kernel
theorem dX8_bore_19 : decode cX8_bore 19 = .ok (.ifCond .eq 12, 3) := by decide +kernel
theorem dX8_bore_22 : decode cX8_bore 22 = .ok (.aload_n 0, 1) := by decide +kernel
theorem dX8_bore_23 : decode cX8_bore 23 = .ok (.iload_n 1, 1) := by decide +kernel
theorem dX8_bore_24 : decode cX8_bore 24 = .ok (.iload_n 2, 1) := by decide +kernel
theorem dX8_bore_25 : decode cX8_bore 25 = .ok (.invokevirtual 346, 3) := by decide +kernel
theorem dX8_bore_28 : decode cX8_bore 28 = .ok (.goto 8, 3) := by decide +kernel
theorem dX8_bore_31 : decode cX8_bore 31 = .ok (.aload_n 0, 1) := by decide +kernel
theorem dX8_bore_32 : decode cX8_bore 32 = .ok (.iconst 1, 1) := by decide +kernel
theorem dX8_bore_33 : decode cX8_bore 33 = .ok (.invokevirtual 312, 3) := by decide +kernel
theorem dX8_bore_36 : decode cX8_bore 36 = .ok (.ireturn, 1) := by decide +kernel
theorem dX8_trim_0 : decode cX8_trim 0 = .ok (.aload_n 0, 1) := by decide +kernel
theorem dX8_trim_1 : decode cX8_trim 1 = .ok (.iconst 0, 1) := by decide +kernel
theorem dX8_trim_2 : decode cX8_trim 2 = .ok (.putfield 57, 3) := by decide +kernel
theorem dX8_trim_5 : decode cX8_trim 5 = .ok (.iload_n 1, 1) := by decide +kernel
theorem dX8_trim_6 : decode cX8_trim 6 = .ok (.iconst 0, 1) := by decide +kernel
theorem dX8_trim_7 : decode cX8_trim 7 = .ok (.aload_n 0, 1) := by decide +kernel
theorem dX8_trim_8 : decode cX8_trim 8 = .ok (.getfield 89, 3) := by decide +kernel
theorem dX8_trim_11 : decode cX8_trim 11 = .ok (.invokestatic 63, 3) := by decide +kernel
theorem dX8_trim_14 : decode cX8_trim 14 = .ok (.ifCond .ne 9, 3) := by decide +kernel
theorem dX8_trim_17 : decode cX8_trim 17 = .ok (.aload_n 0, 1) := by decide +kernel
theorem dX8_trim_18 : decode cX8_trim 18 = .ok (.iconst 1, 1) := by decide +kernel
theorem dX8_trim_19 : decode cX8_trim 19 = .ok (.invokevirtual 312, 3) := by decide +kernel
theorem dX8_trim_22 : decode cX8_trim 22 = .ok (.ireturn, 1) := by decide +kernel
theorem dX8_trim_23 : decode cX8_trim 23 = .ok (.aload_n 0, 1) := by decide +kernel
theorem dX8_trim_24 : decode cX8_trim 24 = .ok (.iload_n 1, 1) := by decide +kernel
theorem dX8_trim_25 : decode cX8_trim 25 = .ok (.putfield 89, 3) := by decide +kernel
theorem dX8_trim_28 : decode cX8_trim 28 = .ok (.iload_n 1, 1) := by decide +kernel
theorem dX8_trim_29 : decode cX8_trim 29 = .ok (.ireturn, 1) := by decide +kernel
theorem dX8_errorAt_0 : decode cX8_errorAt 0 = .ok (.aload_n 0, 1) := by decide +kernel
theorem dX8_errorAt_1 : decode cX8_errorAt 1 = .ok (.iconst 0, 1) := by decide +kernel
theorem dX8_errorAt_2 : decode cX8_errorAt 2 = .ok (.putfield 57, 3) := by decide +kernel
theorem dX8_errorAt_5 : decode cX8_errorAt 5 = .ok (.aload_n 0, 1) := by decide +kernel
theorem dX8_errorAt_6 : decode cX8_errorAt 6 = .ok (.getfield 13, 3) := by decide +kernel
theorem dX8_errorAt_9 : decode cX8_errorAt 9 = .ok (.ireturn, 1) := by decide +kernel
theorem dX8_place_0 : decode cX8_place 0 = .ok (.aload_n 0, 1) := by decide +kernel
theorem dX8_place_1 : decode cX8_place 1 = .ok (.iconst 0, 1) := by decide +kernel
theorem dX8_place_2 : decode cX8_place 2 = .ok (.putfield 57, 3) := by decide +kernel
theorem dX8_place_5 : decode cX8_place 5 = .ok (.aload_n 0, 1) := by decide +kernel
theorem dX8_place_6 : decode cX8_place 6 = .ok (.iload_n 1, 1) := by decide +kernel
theorem dX8_place_7 : decode cX8_place 7 = .ok (.invokevirtual 337, 3) := by decide +kernel
theorem dX8_place_10 : decode cX8_place 10 = .ok (.ifCond .eq 21, 3) := by decide +kernel
theorem dX8_place_13 : decode cX8_place 13 = .ok (.iload_n 2, 1) := by decide +kernel
theorem dX8_place_14 : decode cX8_place 14 = .ok (.iconst 0, 1) := by decide +kernel
theorem dX8_place_15 : decode cX8_place 15 = .ok (.iconst 3, 1) := by decide +kernel
theorem dX8_place_16 : decode cX8_place 16 = .ok (.invokestatic 63, 3) := by decide +kernel
theorem dX8_place_19 : decode cX8_place 19 = .ok (.ifCond .eq 12, 3) := by decide +kernel
theorem dX8_place_22 : decode cX8_place 22 = .ok (.aload_n 0, 1) := by decide +kernel
theorem dX8_place_23 : decode cX8_place 23 = .ok (.iload_n 1, 1) := by decide +kernel
theorem dX8_place_24 : decode cX8_place 24 = .ok (.iload_n 2, 1) := by decide +kernel
theorem dX8_place_25 : decode cX8_place 25 = .ok (.invokevirtual 340, 3) := by decide +kernel
theorem dX8_place_28 : decode cX8_place 28 = .ok (.goto 8, 3) := by decide +kernel
theorem dX8_place_31 : decode cX8_place 31 = .ok (.aload_n 0, 1) := by decide +kernel
theorem dX8_place_32 : decode cX8_place 32 = .ok (.iconst 1, 1) := by decide +kernel
theorem dX8_place_33 : decode cX8_place 33 = .ok (.invokevirtual 312, 3) := by decide +kernel
theorem dX8_place_36 : decode cX8_place 36 = .ok (.ireturn, 1) := by decide +kernel
theorem dX8_crew_0 : decode cX8_crew 0 = .ok (.aload_n 0, 1) := by decide +kernel
theorem dX8_crew_1 : decode cX8_crew 1 = .ok (.iconst 0, 1) := by decide +kernel
theorem dX8_crew_2 : decode cX8_crew 2 = .ok (.putfield 57, 3) := by decide +kernel
theorem dX8_crew_5 : decode cX8_crew 5 = .ok (.aload_n 0, 1) := by decide +kernel
theorem dX8_crew_6 : decode cX8_crew 6 = .ok (.iload_n 1, 1) := by decide +kernel
theorem dX8_crew_7 : decode cX8_crew 7 = .ok (.invokevirtual 380, 3) := by decide +kernel
theorem dX8_crew_10 : decode cX8_crew 10 = .ok (.ifCond .eq 26, 3) := by decide +kernel
theorem dX8_crew_13 : decode cX8_crew 13 = .ok (.iload_n 2, 1) := by decide +kernel
theorem dX8_crew_14 : decode cX8_crew 14 = .ok (.iconst 0, 1) := by decide +kernel
theorem dX8_crew_15 : decode cX8_crew 15 = .ok (.iconst 1, 1) := by decide +kernel
theorem dX8_crew_16 : decode cX8_crew 16 = .ok (.invokestatic 63, 3) := by decide +kernel
theorem dX8_crew_19 : decode cX8_crew 19 = .ok (.ifCond .eq 17, 3) := by decide +kernel
theorem dX8_crew_22 : decode cX8_crew 22 = .ok (.aload_n 0, 1) := by decide +kernel
theorem dX8_crew_23 : decode cX8_crew 23 = .ok (.getfield 35, 3) := by decide +kernel
theorem dX8_crew_26 : decode cX8_crew 26 = .ok (.getfield 238, 3) := by decide +kernel
theorem dX8_crew_29 : decode cX8_crew 29 = .ok (.iload_n 1, 1) := by decide +kernel
theorem dX8_crew_30 : decode cX8_crew 30 = .ok (.aaload, 1) := by decide +kernel
theorem dX8_crew_31 : decode cX8_crew 31 = .ok (.iload_n 2, 1) := by decide +kernel
theorem dX8_crew_32 : decode cX8_crew 32 = .ok (.iaload, 1) := by decide +kernel
theorem dX8_crew_33 : decode cX8_crew 33 = .ok (.goto 8, 3) := by decide +kernel
theorem dX8_crew_36 : decode cX8_crew 36 = .ok (.aload_n 0, 1) := by decide +kernel
theorem dX8_crew_37 : decode cX8_crew 37 = .ok (.iconst 1, 1) := by decide +kernel
theorem dX8_crew_38 : decode cX8_crew 38 = .ok (.invokevirtual 312, 3) := by decide +kernel
theorem dX8_crew_41 : decode cX8_crew 41 = .ok (.ireturn, 1) := by decide +kernel
theorem dX8_canEnter_0 : decode cX8_canEnter 0 = .ok (.aload_n 0, 1) := by decide +kernel
theorem dX8_canEnter_1 : decode cX8_canEnter 1 = .ok (.aload_n 0, 1) := by decide +kernel
theorem dX8_canEnter_2 : decode cX8_canEnter 2 = .ok (.iload_n 1, 1) := by decide +kernel
theorem dX8_canEnter_3 : decode cX8_canEnter 3 = .ok (.invokevirtual 380, 3) := by decide +kernel
theorem dX8_canEnter_6 : decode cX8_canEnter 6 = .ok (.ifCond .eq 7, 3) := by decide +kernel
theorem dX8_canEnter_9 : decode cX8_canEnter 9 = .ok (.iconst 0, 1) := by decide +kernel
theorem dX8_canEnter_10 : decode cX8_canEnter 10 = .ok (.goto 4, 3) := by decide +kernel
theorem dX8_canEnter_13 : decode cX8_canEnter 13 = .ok (.iconst 1, 1) := by decide +kernel
theorem dX8_canEnter_14 : decode cX8_canEnter 14 = .ok (.putfield 57, 3) := by decide +kernel
theorem dX8_canEnter_17 : decode cX8_canEnter 17 = .ok (.aload_n 0, 1) := by decide +kernel
theorem dX8_canEnter_18 : decode cX8_canEnter 18 = .ok (.getfield 57, 3) := by decide +kernel
theorem dX8_canEnter_21 : decode cX8_canEnter 21 = .ok (.ifCond .ne 18, 3) := by decide +kernel
theorem dX8_canEnter_24 : decode cX8_canEnter 24 = .ok (.aload_n 0, 1) := by decide +kernel
theorem dX8_canEnter_25 : decode cX8_canEnter 25 = .ok (.getfield 47, 3) := by decide +kernel
theorem dX8_canEnter_28 : decode cX8_canEnter 28 = .ok (.iload_n 1, 1) := by decide +kernel
theorem dX8_canEnter_29 : decode cX8_canEnter 29 = .ok (.invokevirtual 386, 3) := by decide +kernel
theorem dX8_canEnter_32 : decode cX8_canEnter 32 = .ok (.ifCond .eq 7, 3) := by decide +kernel
theorem dX8_canEnter_35 : decode cX8_canEnter 35 = .ok (.iconst 1, 1) := by decide +kernel
theorem dX8_canEnter_36 : decode cX8_canEnter 36 = .ok (.goto 4, 3) := by decide +kernel
theorem dX8_canEnter_39 : decode cX8_canEnter 39 = .ok (.iconst 0, 1) := by decide +kernel
theorem dX8_canEnter_40 : decode cX8_canEnter 40 = .ok (.ireturn, 1) := by decide +kernel
theorem dX8_worst_0 : decode cX8_worst 0 = .ok (.aload_n 0, 1) := by decide +kernel
theorem dX8_worst_1 : decode cX8_worst 1 = .ok (.iconst 0, 1) := by decide +kernel
theorem dX8_worst_2 : decode cX8_worst 2 = .ok (.putfield 57, 3) := by decide +kernel
theorem dX8_worst_5 : decode cX8_worst 5 = .ok (.iconst (-1), 1) := by decide +kernel
theorem dX8_worst_6 : decode cX8_worst 6 = .ok (.istore_n 1, 1) := by decide +kernel
theorem dX8_worst_7 : decode cX8_worst 7 = .ok (.iconst 0, 1) := by decide +kernel
theorem dX8_worst_8 : decode cX8_worst 8 = .ok (.istore_n 2, 1) := by decide +kernel
theorem dX8_worst_9 : decode cX8_worst 9 = .ok (.iload_n 2, 1) := by decide +kernel
theorem dX8_worst_10 : decode cX8_worst 10 = .ok (.aload_n 0, 1) := by decide +kernel
theorem dX8_worst_11 : decode cX8_worst 11 = .ok (.getfield 35, 3) := by decide +kernel
theorem dX8_worst_14 : decode cX8_worst 14 = .ok (.getfield 60, 3) := by decide +kernel
theorem dX8_worst_17 : decode cX8_worst 17 = .ok (.if_icmp .ge 37, 3) := by decide +kernel
theorem dX8_worst_20 : decode cX8_worst 20 = .ok (.iload_n 1, 1) := by decide +kernel
theorem dX8_worst_21 : decode cX8_worst 21 = .ok (.iconst (-1), 1) := by decide +kernel
theorem dX8_worst_22 : decode cX8_worst 22 = .ok (.if_icmp .eq 24, 3) := by decide +kernel
theorem dX8_worst_25 : decode cX8_worst 25 = .ok (.aload_n 0, 1) := by decide +kernel
theorem dX8_worst_26 : decode cX8_worst 26 = .ok (.getfield 47, 3) := by decide +kernel
theorem dX8_worst_29 : decode cX8_worst 29 = .ok (.getfield 328, 3) := by decide +kernel
theorem dX8_worst_32 : decode cX8_worst 32 = .ok (.iload_n 2, 1) := by decide +kernel
theorem dX8_worst_33 : decode cX8_worst 33 = .ok (.iaload, 1) := by decide +kernel
theorem dX8_worst_34 : decode cX8_worst 34 = .ok (.aload_n 0, 1) := by decide +kernel
theorem dX8_worst_35 : decode cX8_worst 35 = .ok (.getfield 47, 3) := by decide +kernel
theorem dX8_worst_38 : decode cX8_worst 38 = .ok (.getfield 328, 3) := by decide +kernel
theorem dX8_worst_41 : decode cX8_worst 41 = .ok (.iload_n 1, 1) := by decide +kernel
theorem dX8_worst_42 : decode cX8_worst 42 = .ok (.iaload, 1) := by decide +kernel
theorem dX8_worst_43 : decode cX8_worst 43 = .ok (.if_icmp .ge 5, 3) := by decide +kernel
theorem dX8_worst_46 : decode cX8_worst 46 = .ok (.iload_n 2, 1) := by decide +kernel
theorem dX8_worst_47 : decode cX8_worst 47 = .ok (.istore_n 1, 1) := by decide +kernel
theorem dX8_worst_48 : decode cX8_worst 48 = .ok (.iinc 2 1, 3) := by decide +kernel
theorem dX8_worst_51 : decode cX8_worst 51 = .ok (.goto (-42), 3) := by decide +kernel
theorem dX8_worst_54 : decode cX8_worst 54 = .ok (.iload_n 1, 1) := by decide +kernel
theorem dX8_worst_55 : decode cX8_worst 55 = .ok (.ireturn, 1) := by decide +kernel
theorem dX8_whistle_0 : decode cX8_whistle 0 = .ok (.aload_n 0, 1) := by decide +kernel
theorem dX8_whistle_1 : decode cX8_whistle 1 = .ok (.iconst 0, 1) := by decide +kernel
theorem dX8_whistle_2 : decode cX8_whistle 2 = .ok (.putfield 57, 3) := by decide +kernel
theorem dX8_whistle_5 : decode cX8_whistle 5 = .ok (.iload_n 1, 1) := by decide +kernel
theorem dX8_whistle_6 : decode cX8_whistle 6 = .ok (.iconst 0, 1) := by decide +kernel
theorem dX8_whistle_7 : decode cX8_whistle 7 = .ok (.iconst 1, 1) := by decide +kernel
theorem dX8_whistle_8 : decode cX8_whistle 8 = .ok (.invokestatic 63, 3) := by decide +kernel
theorem dX8_whistle_11 : decode cX8_whistle 11 = .ok (.ifCond .ne 9, 3) := by decide +kernel
theorem dX8_whistle_14 : decode cX8_whistle 14 = .ok (.aload_n 0, 1) := by decide +kernel
theorem dX8_whistle_15 : decode cX8_whistle 15 = .ok (.iconst 1, 1) := by decide +kernel
theorem dX8_whistle_16 : decode cX8_whistle 16 = .ok (.invokevirtual 312, 3) := by decide +kernel
theorem dX8_whistle_19 : decode cX8_whistle 19 = .ok (.ireturn, 1) := by decide +kernel
theorem dX8_whistle_20 : decode cX8_whistle 20 = .ok (.aload_n 0, 1) := by decide +kernel
theorem dX8_whistle_21 : decode cX8_whistle 21 = .ok (.getfield 47, 3) := by decide +kernel
theorem dX8_whistle_24 : decode cX8_whistle 24 = .ok (.getfield 324, 3) := by decide +kernel
theorem dX8_whistle_27 : decode cX8_whistle 27 = .ok (.istore_n 2, 1) := by decide +kernel
theorem dX8_whistle_28 : decode cX8_whistle 28 = .ok (.aload_n 0, 1) := by decide +kernel
theorem dX8_whistle_29 : decode cX8_whistle 29 = .ok (.getfield 47, 3) := by decide +kernel
theorem dX8_whistle_32 : decode cX8_whistle 32 = .ok (.iload_n 1, 1) := by decide +kernel
theorem dX8_whistle_33 : decode cX8_whistle 33 = .ok (.putfield 324, 3) := by decide +kernel
theorem dX8_whistle_36 : decode cX8_whistle 36 = .ok (.iload_n 2, 1) := by decide +kernel
theorem dX8_whistle_37 : decode cX8_whistle 37 = .ok (.ireturn, 1) := by decide +kernel
theorem dX8_air_0 : decode cX8_air 0 = .ok (.aload_n 0, 1) := by decide +kernel
theorem dX8_air_1 : decode cX8_air 1 = .ok (.iconst 0, 1) := by decide +kernel
theorem dX8_air_2 : decode cX8_air 2 = .ok (.putfield 57, 3) := by decide +kernel
theorem dX8_air_5 : decode cX8_air 5 = .ok (.aload_n 0, 1) := by decide +kernel
theorem dX8_air_6 : decode cX8_air 6 = .ok (.getfield 47, 3) := by decide +kernel
theorem dX8_air_9 : decode cX8_air 9 = .ok (.invokevirtual 389, 3) := by decide +kernel
theorem dX8_air_12 : decode cX8_air 12 = .ok (.istore_n 1, 1) := by decide +kernel
theorem dX8_air_13 : decode cX8_air 13 = .ok (.iconst 0, 1) := by decide +kernel
theorem dX8_air_14 : decode cX8_air 14 = .ok (.istore_n 2, 1) := by decide +kernel
theorem dX8_air_15 : decode cX8_air 15 = .ok (.iload_n 2, 1) := by decide +kernel
theorem dX8_air_16 : decode cX8_air 16 = .ok (.aload_n 0, 1) := by decide +kernel
theorem dX8_air_17 : decode cX8_air 17 = .ok (.getfield 35, 3) := by decide +kernel
theorem dX8_air_20 : decode cX8_air 20 = .ok (.getfield 60, 3) := by decide +kernel
theorem dX8_air_23 : decode cX8_air 23 = .ok (.if_icmp .ge 20, 3) := by decide +kernel
theorem dX8_air_26 : decode cX8_air 26 = .ok (.aload_n 0, 1) := by decide +kernel
theorem dX8_air_27 : decode cX8_air 27 = .ok (.getfield 47, 3) := by decide +kernel
theorem dX8_air_30 : decode cX8_air 30 = .ok (.getfield 328, 3) := by decide +kernel
theorem dX8_air_33 : decode cX8_air 33 = .ok (.iload_n 2, 1) := by decide +kernel
theorem dX8_air_34 : decode cX8_air 34 = .ok (.bipush 100, 2) := by decide +kernel
theorem dX8_air_36 : decode cX8_air 36 = .ok (.iastore, 1) := by decide +kernel
theorem dX8_air_37 : decode cX8_air 37 = .ok (.iinc 2 1, 3) := by decide +kernel
theorem dX8_air_40 : decode cX8_air 40 = .ok (.goto (-25), 3) := by decide +kernel
theorem dX8_air_43 : decode cX8_air 43 = .ok (.aload_n 0, 1) := by decide +kernel
theorem dX8_air_44 : decode cX8_air 44 = .ok (.getfield 47, 3) := by decide +kernel
theorem dX8_air_47 : decode cX8_air 47 = .ok (.invokevirtual 389, 3) := by decide +kernel
theorem dX8_air_50 : decode cX8_air 50 = .ok (.iload_n 1, 1) := by decide +kernel
theorem dX8_air_51 : decode cX8_air 51 = .ok (.isub, 1) := by decide +kernel
theorem dX8_air_52 : decode cX8_air 52 = .ok (.ireturn, 1) := by decide +kernel
theorem dX8_cap_0 : decode cX8_cap 0 = .ok (.aload_n 0, 1) := by decide +kernel
theorem dX8_cap_1 : decode cX8_cap 1 = .ok (.iconst 0, 1) := by decide +kernel
theorem dX8_cap_2 : decode cX8_cap 2 = .ok (.putfield 57, 3) := by decide +kernel
theorem dX8_cap_5 : decode cX8_cap 5 = .ok (.aload_n 0, 1) := by decide +kernel
theorem dX8_cap_6 : decode cX8_cap 6 = .ok (.iload_n 1, 1) := by decide +kernel
theorem dX8_cap_7 : decode cX8_cap 7 = .ok (.invokevirtual 361, 3) := by decide +kernel
theorem dX8_cap_10 : decode cX8_cap 10 = .ok (.ifCond .ne 9, 3) := by decide +kernel
theorem dX8_cap_13 : decode cX8_cap 13 = .ok (.aload_n 0, 1) := by decide +kernel
theorem dX8_cap_14 : decode cX8_cap 14 = .ok (.iconst 1, 1) := by decide +kernel
theorem dX8_cap_15 : decode cX8_cap 15 = .ok (.invokevirtual 312, 3) := by decide +kernel
theorem dX8_cap_18 : decode cX8_cap 18 = .ok (.ireturn, 1) := by decide +kernel
theorem dX8_cap_19 : decode cX8_cap 19 = .ok (.aload_n 0, 1) := by decide +kernel
theorem dX8_cap_20 : decode cX8_cap 20 = .ok (.getfield 47, 3) := by decide +kernel
theorem dX8_cap_23 : decode cX8_cap 23 = .ok (.getfield 352, 3) := by decide +kernel
theorem dX8_cap_26 : decode cX8_cap 26 = .ok (.iload_n 1, 1) := by decide +kernel
theorem dX8_cap_27 : decode cX8_cap 27 = .ok (.iaload, 1) := by decide +kernel
theorem dX8_cap_28 : decode cX8_cap 28 = .ok (.istore_n 2, 1) := by decide +kernel
theorem dX8_cap_29 : decode cX8_cap 29 = .ok (.aload_n 0, 1) := by decide +kernel
theorem dX8_cap_30 : decode cX8_cap 30 = .ok (.getfield 47, 3) := by decide +kernel
theorem dX8_cap_33 : decode cX8_cap 33 = .ok (.getfield 352, 3) := by decide +kernel
theorem dX8_cap_36 : decode cX8_cap 36 = .ok (.iload_n 1, 1) := by decide +kernel
theorem dX8_cap_37 : decode cX8_cap 37 = .ok (.iconst (-1), 1) := by decide +kernel
theorem dX8_cap_38 : decode cX8_cap 38 = .ok (.iastore, 1) := by decide +kernel
theorem dX8_cap_39 : decode cX8_cap 39 = .ok (.iload_n 2, 1) := by decide +kernel
theorem dX8_cap_40 : decode cX8_cap 40 = .ok (.ireturn, 1) := by decide +kernel
theorem dX8_again_0 : decode cX8_again 0 = .ok (.aload_n 0, 1) := by decide +kernel
theorem dX8_again_1 : decode cX8_again 1 = .ok (.iconst 0, 1) := by decide +kernel
theorem dX8_again_2 : decode cX8_again 2 = .ok (.putfield 57, 3) := by decide +kernel
theorem dX8_again_5 : decode cX8_again 5 = .ok (.aload_n 0, 1) := by decide +kernel
theorem dX8_again_6 : decode cX8_again 6 = .ok (.iload_n 1, 1) := by decide +kernel
theorem dX8_again_7 : decode cX8_again 7 = .ok (.invokevirtual 380, 3) := by decide +kernel
theorem dX8_again_10 : decode cX8_again 10 = .ok (.ifCond .ne 9, 3) := by decide +kernel
theorem dX8_again_13 : decode cX8_again 13 = .ok (.aload_n 0, 1) := by decide +kernel
theorem dX8_again_14 : decode cX8_again 14 = .ok (.iconst 1, 1) := by decide +kernel
theorem dX8_again_15 : decode cX8_again 15 = .ok (.invokevirtual 312, 3) := by decide +kernel
theorem dX8_again_18 : decode cX8_again 18 = .ok (.ireturn, 1) := by decide +kernel
theorem dX8_again_19 : decode cX8_again 19 = .ok (.iload_n 2, 1) := by decide +kernel
theorem dX8_again_20 : decode cX8_again 20 = .ok (.iconst 0, 1) := by decide +kernel
theorem dX8_again_21 : decode cX8_again 21 = .ok (.sipush 9999, 3) := by decide +kernel
theorem dX8_again_24 : decode cX8_again 24 = .ok (.invokestatic 63, 3) := by decide +kernel
theorem dX8_again_27 : decode cX8_again 27 = .ok (.ifCond .ne 9, 3) := by decide +kernel
theorem dX8_again_30 : decode cX8_again 30 = .ok (.aload_n 0, 1) := by decide +kernel
theorem dX8_again_31 : decode cX8_again 31 = .ok (.iconst 2, 1) := by decide +kernel
theorem dX8_again_32 : decode cX8_again 32 = .ok (.invokevirtual 312, 3) := by decide +kernel
theorem dX8_again_35 : decode cX8_again 35 = .ok (.ireturn, 1) := by decide +kernel
theorem dX8_again_36 : decode cX8_again 36 = .ok (.aload_n 0, 1) := by decide +kernel
theorem dX8_again_37 : decode cX8_again 37 = .ok (.getfield 47, 3) := by decide +kernel
theorem dX8_again_40 : decode cX8_again 40 = .ok (.getfield 369, 3) := by decide +kernel
theorem dX8_again_43 : decode cX8_again 43 = .ok (.iload_n 1, 1) := by decide +kernel
theorem dX8_again_44 : decode cX8_again 44 = .ok (.iaload, 1) := by decide +kernel
theorem dX8_again_45 : decode cX8_again 45 = .ok (.iconst 2, 1) := by decide +kernel
theorem dX8_again_46 : decode cX8_again 46 = .ok (.if_icmp .eq 9, 3) := by decide +kernel
theorem dX8_again_49 : decode cX8_again 49 = .ok (.aload_n 0, 1) := by decide +kernel
theorem dX8_again_50 : decode cX8_again 50 = .ok (.iconst 3, 1) := by decide +kernel
theorem dX8_again_51 : decode cX8_again 51 = .ok (.invokevirtual 312, 3) := by decide +kernel
theorem dX8_again_54 : decode cX8_again 54 = .ok (.ireturn, 1) := by decide +kernel
theorem dX8_again_55 : decode cX8_again 55 = .ok (.aload_n 0, 1) := by decide +kernel
theorem dX8_again_56 : decode cX8_again 56 = .ok (.getfield 47, 3) := by decide +kernel
theorem dX8_again_59 : decode cX8_again 59 = .ok (.getfield 369, 3) := by decide +kernel
theorem dX8_again_62 : decode cX8_again 62 = .ok (.iload_n 1, 1) := by decide +kernel
theorem dX8_again_63 : decode cX8_again 63 = .ok (.iconst 0, 1) := by decide +kernel
theorem dX8_again_64 : decode cX8_again 64 = .ok (.iastore, 1) := by decide +kernel
theorem dX8_again_65 : decode cX8_again 65 = .ok (.aload_n 0, 1) := by decide +kernel
theorem dX8_again_66 : decode cX8_again 66 = .ok (.getfield 47, 3) := by decide +kernel
theorem dX8_again_69 : decode cX8_again 69 = .ok (.getfield 367, 3) := by decide +kernel
theorem dX8_again_72 : decode cX8_again 72 = .ok (.iload_n 1, 1) := by decide +kernel
theorem dX8_again_73 : decode cX8_again 73 = .ok (.iconst 1, 1) := by decide +kernel
theorem dX8_again_74 : decode cX8_again 74 = .ok (.aload_n 0, 1) := by decide +kernel
theorem dX8_again_75 : decode cX8_again 75 = .ok (.getfield 47, 3) := by decide +kernel
theorem dX8_again_78 : decode cX8_again 78 = .ok (.getfield 367, 3) := by decide +kernel
theorem dX8_again_81 : decode cX8_again 81 = .ok (.iload_n 1, 1) := by decide +kernel
theorem dX8_again_82 : decode cX8_again 82 = .ok (.iaload, 1) := by decide +kernel
theorem dX8_again_83 : decode cX8_again 83 = .ok (.isub, 1) := by decide +kernel
theorem dX8_again_84 : decode cX8_again 84 = .ok (.iastore, 1) := by decide +kernel
theorem dX8_again_85 : decode cX8_again 85 = .ok (.aload_n 0, 1) := by decide +kernel
theorem dX8_again_86 : decode cX8_again 86 = .ok (.getfield 47, 3) := by decide +kernel
theorem dX8_again_89 : decode cX8_again 89 = .ok (.getfield 368, 3) := by decide +kernel
theorem dX8_again_92 : decode cX8_again 92 = .ok (.iload_n 1, 1) := by decide +kernel
theorem dX8_again_93 : decode cX8_again 93 = .ok (.iload_n 2, 1) := by decide +kernel
theorem dX8_again_94 : decode cX8_again 94 = .ok (.iastore, 1) := by decide +kernel
theorem dX8_again_95 : decode cX8_again 95 = .ok (.aload_n 0, 1) := by decide +kernel
theorem dX8_again_96 : decode cX8_again 96 = .ok (.getfield 47, 3) := by decide +kernel
theorem dX8_again_99 : decode cX8_again 99 = .ok (.getfield 377, 3) := by decide +kernel
theorem dX8_again_102 : decode cX8_again 102 = .ok (.iload_n 1, 1) := by decide +kernel
theorem dX8_again_103 : decode cX8_again 103 = .ok (.iconst (-1), 1) := by decide +kernel
theorem dX8_again_104 : decode cX8_again 104 = .ok (.iastore, 1) := by decide +kernel
theorem dX8_again_105 : decode cX8_again 105 = .ok (.aload_n 0, 1) := by decide +kernel
theorem dX8_again_106 : decode cX8_again 106 = .ok (.getfield 47, 3) := by decide +kernel
theorem dX8_again_109 : decode cX8_again 109 = .ok (.getfield 367, 3) := by decide +kernel
theorem dX8_again_112 : decode cX8_again 112 = .ok (.iload_n 1, 1) := by decide +kernel
theorem dX8_again_113 : decode cX8_again 113 = .ok (.iaload, 1) := by decide +kernel
theorem dX8_again_114 : decode cX8_again 114 = .ok (.ireturn, 1) := by decide +kernel
theorem dX8_pass_0 : decode cX8_pass 0 = .ok (.aload_n 0, 1) := by decide +kernel
theorem dX8_pass_1 : decode cX8_pass 1 = .ok (.iconst 0, 1) := by decide +kernel
theorem dX8_pass_2 : decode cX8_pass 2 = .ok (.putfield 57, 3) := by decide +kernel
theorem dX8_pass_5 : decode cX8_pass 5 = .ok (.iload_n 1, 1) := by decide +kernel
theorem dX8_pass_6 : decode cX8_pass 6 = .ok (.iconst 1, 1) := by decide +kernel
theorem dX8_pass_7 : decode cX8_pass 7 = .ok (.bipush 120, 2) := by decide +kernel
theorem dX8_pass_9 : decode cX8_pass 9 = .ok (.invokestatic 63, 3) := by decide +kernel
theorem dX8_pass_12 : decode cX8_pass 12 = .ok (.ifCond .ne 9, 3) := by decide +kernel
theorem dX8_pass_15 : decode cX8_pass 15 = .ok (.aload_n 0, 1) := by decide +kernel
theorem dX8_pass_16 : decode cX8_pass 16 = .ok (.iconst 1, 1) := by decide +kernel
theorem dX8_pass_17 : decode cX8_pass 17 = .ok (.invokevirtual 312, 3) := by decide +kernel
theorem dX8_pass_20 : decode cX8_pass 20 = .ok (.ireturn, 1) := by decide +kernel
theorem dX8_pass_21 : decode cX8_pass 21 = .ok (.aload_n 0, 1) := by decide +kernel
theorem dX8_pass_22 : decode cX8_pass 22 = .ok (.getfield 47, 3) := by decide +kernel
theorem dX8_pass_25 : decode cX8_pass 25 = .ok (.iconst 2, 1) := by decide +kernel
theorem dX8_pass_26 : decode cX8_pass 26 = .ok (.invokevirtual 392, 3) := by decide +kernel
theorem dX8_pass_29 : decode cX8_pass 29 = .ok (.istore_n 2, 1) := by decide +kernel
theorem dX8_pass_30 : decode cX8_pass 30 = .ok (.aload_n 0, 1) := by decide +kernel
theorem dX8_pass_31 : decode cX8_pass 31 = .ok (.getfield 47, 3) := by decide +kernel
theorem dX8_pass_34 : decode cX8_pass 34 = .ok (.iload_n 1, 1) := by decide +kernel
theorem dX8_pass_35 : decode cX8_pass 35 = .ok (.invokevirtual 395, 3) := by decide +kernel
theorem dX8_pass_38 : decode cX8_pass 38 = .ok (.iconst 2, 1) := by decide +kernel
theorem dX8_pass_39 : decode cX8_pass 39 = .ok (.invokevirtual 392, 3) := by decide +kernel
theorem dX8_pass_42 : decode cX8_pass 42 = .ok (.iload_n 2, 1) := by decide +kernel
theorem dX8_pass_43 : decode cX8_pass 43 = .ok (.isub, 1) := by decide +kernel
theorem dX8_pass_44 : decode cX8_pass 44 = .ok (.ireturn, 1) := by decide +kernel
theorem mi_X8_thrown : MInfo yX8_thrown cX8_thrown 1 (some .int) 0 := ⟨wq_1469, wq_135, by decide, ⟨by decide +kernel, by decide +kernel, by decide +kernel⟩, by decide +kernel⟩
theorem mi_X8_isPlace : MInfo yX8_isPlace cX8_isPlace 2 (some .boolean) 1 := ⟨wq_1747, wq_135, by decide, ⟨by decide +kernel, by decide +kernel, by decide +kernel⟩, by decide +kernel⟩
theorem mi_X8_isBore : MInfo yX8_isBore cX8_isBore 2 (some .boolean) 1 := ⟨wq_1764, wq_135, by decide, ⟨by decide +kernel, by decide +kernel, by decide +kernel⟩, by decide +kernel⟩
theorem mi_X8_isLegger : MInfo yX8_isLegger cX8_isLegger 2 (some .boolean) 1 := ⟨wq_1776, wq_135, by decide, ⟨by decide +kernel, by decide +kernel, by decide +kernel⟩, by decide +kernel⟩
theorem mi_X8_isBoat : MInfo yX8_isBoat cX8_isBoat 2 (some .boolean) 1 := ⟨wq_1792, wq_135, by decide, ⟨by decide +kernel, by decide +kernel, by decide +kernel⟩, by decide +kernel⟩
theorem mi_X8_placeTold : MInfo yX8_placeTold cX8_placeTold 3 (some .int) 2 := ⟨wq_1751, wq_135, by decide, ⟨by decide +kernel, by decide +kernel, by decide +kernel⟩, by decide +kernel⟩
theorem mi_X8_no : MInfo yX8_no cX8_no 2 (some .int) 1 := ⟨wq_1477, wq_135, by decide, ⟨by decide +kernel, by decide +kernel, by decide +kernel⟩, by decide +kernel⟩
theorem mi_X8_boreTold : MInfo yX8_boreTold cX8_boreTold 5 (some .int) 2 := ⟨wq_1768, wq_135, by decide, ⟨by decide +kernel, by decide +kernel, by decide +kernel⟩, by decide +kernel⟩
theorem mi_X8_bore : MInfo yX8_bore cX8_bore 3 (some .int) 2 := ⟨wq_1760, wq_135, by decide, ⟨by decide +kernel, by decide +kernel, by decide +kernel⟩, by decide +kernel⟩
theorem mi_X8_trim : MInfo yX8_trim cX8_trim 2 (some .int) 1 := ⟨wq_1481, wq_135, by decide, ⟨by decide +kernel, by decide +kernel, by decide +kernel⟩, by decide +kernel⟩
theorem mi_X8_errorAt : MInfo yX8_errorAt cX8_errorAt 1 (some .int) 0 := ⟨wq_1715, wq_135, by decide, ⟨by decide +kernel, by decide +kernel, by decide +kernel⟩, by decide +kernel⟩
theorem mi_X8_place : MInfo yX8_place cX8_place 3 (some .int) 2 := ⟨wq_1743, wq_135, by decide, ⟨by decide +kernel, by decide +kernel, by decide +kernel⟩, by decide +kernel⟩
theorem mi_X8_crew : MInfo yX8_crew cX8_crew 3 (some .int) 2 := ⟨wq_1800, wq_135, by decide, ⟨by decide +kernel, by decide +kernel, by decide +kernel⟩, by decide +kernel⟩
theorem mi_X8_canEnter : MInfo yX8_canEnter cX8_canEnter 2 (some .boolean) 1 := ⟨wq_1804, wq_135, by decide, ⟨by decide +kernel, by decide +kernel, by decide +kernel⟩, by decide +kernel⟩
theorem mi_X8_worst : MInfo yX8_worst cX8_worst 3 (some .int) 0 := ⟨wq_1853, wq_135, by decide, ⟨by decide +kernel, by decide +kernel, by decide +kernel⟩, by decide +kernel⟩
theorem mi_X8_whistle : MInfo yX8_whistle cX8_whistle 3 (some .int) 1 := ⟨wq_1857, wq_135, by decide, ⟨by decide +kernel, by decide +kernel, by decide +kernel⟩, by decide +kernel⟩
theorem mi_X8_air : MInfo yX8_air cX8_air 3 (some .int) 0 := ⟨wq_1861, wq_135, by decide, ⟨by decide +kernel, by decide +kernel, by decide +kernel⟩, by decide +kernel⟩
theorem mi_X8_cap : MInfo yX8_cap cX8_cap 3 (some .int) 1 := ⟨wq_1866, wq_135, by decide, ⟨by decide +kernel, by decide +kernel, by decide +kernel⟩, by decide +kernel⟩
theorem mi_X8_again : MInfo yX8_again cX8_again 3 (some .int) 2 := ⟨wq_1870, wq_135, by decide, ⟨by decide +kernel, by decide +kernel, by decide +kernel⟩, by decide +kernel⟩
theorem mi_X8_pass : MInfo yX8_pass cX8_pass 3 (some .int) 1 := ⟨wq_1874, wq_135, by decide, ⟨by decide +kernel, by decide +kernel, by decide +kernel⟩, by decide +kernel⟩
def wp_X8_thrown (P : M2) (S : M2) (N : M2) (K : Int32 → Prop) : Prop := K (N 220 0)
set_option maxRecDepth 100000 in
set_option maxHeartbeats 4000000 in
theorem c_X8_thrown (l : Launch) (D : va_G) (Z : Nat → ClassId) (a q g : Nat → Nat) (rg aa : Nat) (P : M2) (S : M2) (N : M2) (sz : Nat) (K : Int32 → Prop) (hm : wp_X8_thrown P S N K) : Met l yX8_thrown (wy yX8_thrown cX8_thrown 1 (some .int)) (rk 1 0 0) (pre vwCl D Z (QW Z a q g rg aa P S N) sz [.ref (g 220)]) (vp_Si K) 0 0 (fun _ => False) := by
  refine ro_of (ty := .int) (by decide +kernel) (Nat.le_of_ble_eq_true rfl) rfl ?_
  intro p e s m args below meth c Q hC hN hsz hP hD hK hret ls hl
  have hx := hC.1
  have hb := hC.2.1
  have hl : lv_has ls 1 [(0, .ref (g 220))] := hl
  refine lv_aload_n hx hb dX8_thrown_0 rfl (lv_at hl 0 rfl) ?_
  refine gQW_mod_0 hC hK hP wq_1419 dX8_thrown_1 ?_
  exact hret 4 _ _ hm rfl dX8_thrown_4
section KX8_thrown
variable {p : Program} {l : Launch} {e : Env} {s : State} {m : MethodId} {args : Array Value} {below : List Frame} {meth : Method} {c : Code} {H H0 : Heap} {locs : List Loc} {cells slots : Nat} {Q : State → Prop} {R : Room} {rn mcR msR : Nat}
variable {pc : Nat} {ls : Array Slot} {rest : List Value} {A : Nat → Prop} {D : va_G}
variable {cc : ByteArray} {nL index : Nat} {own host : String}
end KX8_thrown
def wp_X8_isPlace (P : M2) (S : M2) (N : M2) (x1 : Int32) (K : Int32 → Prop) : Prop := wp_X8_isIn x1 0 ((P 241 0) - 1) (fun r_11 => (zb r_11 ∧ K r_11))
set_option maxRecDepth 100000 in
set_option maxHeartbeats 4000000 in
theorem c_X8_isPlace (l : Launch) (D : va_G) (Z : Nat → ClassId) (a q g : Nat → Nat) (rg aa : Nat) (P : M2) (S : M2) (N : M2) (sz : Nat) (x1 : Int32) (K : Int32 → Prop) (hm : wp_X8_isPlace P S N x1 K) : Met l yX8_isPlace (wy yX8_isPlace cX8_isPlace 2 (some .boolean)) (rk 2 0 0) (pre vwCl D Z (QW Z a q g rg aa P S N) sz [.ref (g 220), .int x1]) (vp_Si K) 0 0 (fun _ => False) := by
  refine ro_of (ty := .boolean) (by decide +kernel) (Nat.le_of_ble_eq_true rfl) rfl ?_
  intro p e s m args below meth c Q hC hN hsz hP hD hK hret ls hl
  have hx := hC.1
  have hb := hC.2.1
  have hl : lv_has ls 2 [(0, .ref (g 220)), (1, .int x1)] := hl
  refine lv_iload_n hx hb dX8_isPlace_0 rfl (lv_at hl 1 rfl) ?_
  refine lv_iconst (v := 0) hx hb dX8_isPlace_1 (by decide) ?_
  refine lv_aload_n hx hb dX8_isPlace_2 rfl (lv_at hl 0 rfl) ?_
  refine gQW_mod_11 hC hK hP wq_1430 dX8_isPlace_3 ?_
  refine gNQW_plan_1 hC hN hK hP wn_1232 dX8_isPlace_6 ?_
  refine lv_iconst (v := 1) hx hb dX8_isPlace_9 (by decide) ?_
  refine lv_isub hx hb dX8_isPlace_10 ?_
  refine kx_X8_isIn hC hN hK hP hD (sx_EWQW Z a q g rg aa P S N) rfl hm wq_1482 (by decide) hl.1 (Nat.le_of_ble_eq_true rfl) ⟨Nat.le_refl _, Nat.le_refl _⟩ dX8_isPlace_11 (fun r_11 hm => ?_)
  exact hret 14 _ _ hm.2 hm.1 dX8_isPlace_14
section KX8_isPlace
variable {p : Program} {l : Launch} {e : Env} {s : State} {m : MethodId} {args : Array Value} {below : List Frame} {meth : Method} {c : Code} {H H0 : Heap} {locs : List Loc} {cells slots : Nat} {Q : State → Prop} {R : Room} {rn mcR msR : Nat}
variable {pc : Nat} {ls : Array Slot} {rest : List Value} {A : Nat → Prop} {D : va_G}
variable {cc : ByteArray} {nL index : Nat} {own host : String}
theorem k_X8_isPlace {Z : Nat → ClassId} {a q g : Nat → Nat} {rg aa : Nat} {P : M2} {S : M2} {N : M2} {x1 : Int32} {K : Int32 → Prop} (hC : CallFix p m c cc nL s args lw_g own) (hN : NW s) (hK : va_K D vwCl (tysG Z) s) (hP : va_P D vwCl (QW Z a q g rg aa P S N) H) (hD : va_D (fun _ => True) (QW Z a q g rg aa P S N)) (hm : wp_X8_isPlace P S N x1 K) (hl : Cond.methodLink own index yX8_isPlace ∈ lw_g) (hlt : 2 < rn) (hsize : ls.size = nL) (hW : (rest.map fun v => v.category).sum ≤ 8) (hf : cells + 0 ≤ mcR ∧ slots + 0 ≤ msR) (hdg : decode cc pc = .ok (.invokevirtual index, 3)) (kk : ∀ r : Int32, K r → W p l e (rk rn mcR msR) s m args below meth c H locs cells slots Q (F0 m (pc + 3) ls (.int r :: rest))) : W p l e (rk rn mcR msR) s m args below meth c H locs cells slots Q (F0 m pc ls (.int x1 :: .ref (g 220) :: rest)) :=
  ro_go (runV (As := [.int x1]) hC hN (c_X8_isPlace l D Z a q g rg aa P S N H.size x1 K hm) mi_X8_isPlace hl wq_1746 wq_103 hlt hP hD hK (q0 := 12) rfl rfl rfl hsize rfl hW hdg hf) kk
end KX8_isPlace
def wp_X8_isBore (P : M2) (S : M2) (N : M2) (x1 : Int32) (K : Int32 → Prop) : Prop := wp_X8_isIn x1 0 ((P 240 0) - 1) (fun r_11 => (zb r_11 ∧ K r_11))
set_option maxRecDepth 100000 in
set_option maxHeartbeats 4000000 in
theorem c_X8_isBore (l : Launch) (D : va_G) (Z : Nat → ClassId) (a q g : Nat → Nat) (rg aa : Nat) (P : M2) (S : M2) (N : M2) (sz : Nat) (x1 : Int32) (K : Int32 → Prop) (hm : wp_X8_isBore P S N x1 K) : Met l yX8_isBore (wy yX8_isBore cX8_isBore 2 (some .boolean)) (rk 2 0 0) (pre vwCl D Z (QW Z a q g rg aa P S N) sz [.ref (g 220), .int x1]) (vp_Si K) 0 0 (fun _ => False) := by
  refine ro_of (ty := .boolean) (by decide +kernel) (Nat.le_of_ble_eq_true rfl) rfl ?_
  intro p e s m args below meth c Q hC hN hsz hP hD hK hret ls hl
  have hx := hC.1
  have hb := hC.2.1
  have hl : lv_has ls 2 [(0, .ref (g 220)), (1, .int x1)] := hl
  refine lv_iload_n hx hb dX8_isBore_0 rfl (lv_at hl 1 rfl) ?_
  refine lv_iconst (v := 0) hx hb dX8_isBore_1 (by decide) ?_
  refine lv_aload_n hx hb dX8_isBore_2 rfl (lv_at hl 0 rfl) ?_
  refine gQW_mod_11 hC hK hP wq_1430 dX8_isBore_3 ?_
  refine gNQW_plan_0 hC hN hK hP wn_1230 dX8_isBore_6 ?_
  refine lv_iconst (v := 1) hx hb dX8_isBore_9 (by decide) ?_
  refine lv_isub hx hb dX8_isBore_10 ?_
  refine kx_X8_isIn hC hN hK hP hD (sx_EWQW Z a q g rg aa P S N) rfl hm wq_1482 (by decide) hl.1 (Nat.le_of_ble_eq_true rfl) ⟨Nat.le_refl _, Nat.le_refl _⟩ dX8_isBore_11 (fun r_11 hm => ?_)
  exact hret 14 _ _ hm.2 hm.1 dX8_isBore_14
section KX8_isBore
variable {p : Program} {l : Launch} {e : Env} {s : State} {m : MethodId} {args : Array Value} {below : List Frame} {meth : Method} {c : Code} {H H0 : Heap} {locs : List Loc} {cells slots : Nat} {Q : State → Prop} {R : Room} {rn mcR msR : Nat}
variable {pc : Nat} {ls : Array Slot} {rest : List Value} {A : Nat → Prop} {D : va_G}
variable {cc : ByteArray} {nL index : Nat} {own host : String}
theorem k_X8_isBore {Z : Nat → ClassId} {a q g : Nat → Nat} {rg aa : Nat} {P : M2} {S : M2} {N : M2} {x1 : Int32} {K : Int32 → Prop} (hC : CallFix p m c cc nL s args lw_g own) (hN : NW s) (hK : va_K D vwCl (tysG Z) s) (hP : va_P D vwCl (QW Z a q g rg aa P S N) H) (hD : va_D (fun _ => True) (QW Z a q g rg aa P S N)) (hm : wp_X8_isBore P S N x1 K) (hl : Cond.methodLink own index yX8_isBore ∈ lw_g) (hlt : 2 < rn) (hsize : ls.size = nL) (hW : (rest.map fun v => v.category).sum ≤ 8) (hf : cells + 0 ≤ mcR ∧ slots + 0 ≤ msR) (hdg : decode cc pc = .ok (.invokevirtual index, 3)) (kk : ∀ r : Int32, K r → W p l e (rk rn mcR msR) s m args below meth c H locs cells slots Q (F0 m (pc + 3) ls (.int r :: rest))) : W p l e (rk rn mcR msR) s m args below meth c H locs cells slots Q (F0 m pc ls (.int x1 :: .ref (g 220) :: rest)) :=
  ro_go (runV (As := [.int x1]) hC hN (c_X8_isBore l D Z a q g rg aa P S N H.size x1 K hm) mi_X8_isBore hl wq_1763 wq_105 hlt hP hD hK (q0 := 12) rfl rfl rfl hsize rfl hW hdg hf) kk
end KX8_isBore
def wp_X8_isLegger (P : M2) (S : M2) (N : M2) (x1 : Int32) (K : Int32 → Prop) : Prop := wp_X8_isIn x1 0 ((P 249 0) - 1) (fun r_11 => (zb r_11 ∧ K r_11))
set_option maxRecDepth 100000 in
set_option maxHeartbeats 4000000 in
theorem c_X8_isLegger (l : Launch) (D : va_G) (Z : Nat → ClassId) (a q g : Nat → Nat) (rg aa : Nat) (P : M2) (S : M2) (N : M2) (sz : Nat) (x1 : Int32) (K : Int32 → Prop) (hm : wp_X8_isLegger P S N x1 K) : Met l yX8_isLegger (wy yX8_isLegger cX8_isLegger 2 (some .boolean)) (rk 2 0 0) (pre vwCl D Z (QW Z a q g rg aa P S N) sz [.ref (g 220), .int x1]) (vp_Si K) 0 0 (fun _ => False) := by
  refine ro_of (ty := .boolean) (by decide +kernel) (Nat.le_of_ble_eq_true rfl) rfl ?_
  intro p e s m args below meth c Q hC hN hsz hP hD hK hret ls hl
  have hx := hC.1
  have hb := hC.2.1
  have hl : lv_has ls 2 [(0, .ref (g 220)), (1, .int x1)] := hl
  refine lv_iload_n hx hb dX8_isLegger_0 rfl (lv_at hl 1 rfl) ?_
  refine lv_iconst (v := 0) hx hb dX8_isLegger_1 (by decide) ?_
  refine lv_aload_n hx hb dX8_isLegger_2 rfl (lv_at hl 0 rfl) ?_
  refine gQW_mod_11 hC hK hP wq_1430 dX8_isLegger_3 ?_
  refine gNQW_plan_9 hC hN hK hP wn_1251 dX8_isLegger_6 ?_
  refine lv_iconst (v := 1) hx hb dX8_isLegger_9 (by decide) ?_
  refine lv_isub hx hb dX8_isLegger_10 ?_
  refine kx_X8_isIn hC hN hK hP hD (sx_EWQW Z a q g rg aa P S N) rfl hm wq_1482 (by decide) hl.1 (Nat.le_of_ble_eq_true rfl) ⟨Nat.le_refl _, Nat.le_refl _⟩ dX8_isLegger_11 (fun r_11 hm => ?_)
  exact hret 14 _ _ hm.2 hm.1 dX8_isLegger_14
section KX8_isLegger
variable {p : Program} {l : Launch} {e : Env} {s : State} {m : MethodId} {args : Array Value} {below : List Frame} {meth : Method} {c : Code} {H H0 : Heap} {locs : List Loc} {cells slots : Nat} {Q : State → Prop} {R : Room} {rn mcR msR : Nat}
variable {pc : Nat} {ls : Array Slot} {rest : List Value} {A : Nat → Prop} {D : va_G}
variable {cc : ByteArray} {nL index : Nat} {own host : String}
theorem k_X8_isLegger {Z : Nat → ClassId} {a q g : Nat → Nat} {rg aa : Nat} {P : M2} {S : M2} {N : M2} {x1 : Int32} {K : Int32 → Prop} (hC : CallFix p m c cc nL s args lw_g own) (hN : NW s) (hK : va_K D vwCl (tysG Z) s) (hP : va_P D vwCl (QW Z a q g rg aa P S N) H) (hD : va_D (fun _ => True) (QW Z a q g rg aa P S N)) (hm : wp_X8_isLegger P S N x1 K) (hl : Cond.methodLink own index yX8_isLegger ∈ lw_g) (hlt : 2 < rn) (hsize : ls.size = nL) (hW : (rest.map fun v => v.category).sum ≤ 8) (hf : cells + 0 ≤ mcR ∧ slots + 0 ≤ msR) (hdg : decode cc pc = .ok (.invokevirtual index, 3)) (kk : ∀ r : Int32, K r → W p l e (rk rn mcR msR) s m args below meth c H locs cells slots Q (F0 m (pc + 3) ls (.int r :: rest))) : W p l e (rk rn mcR msR) s m args below meth c H locs cells slots Q (F0 m pc ls (.int x1 :: .ref (g 220) :: rest)) :=
  ro_go (runV (As := [.int x1]) hC hN (c_X8_isLegger l D Z a q g rg aa P S N H.size x1 K hm) mi_X8_isLegger hl wq_1775 wq_107 hlt hP hD hK (q0 := 12) rfl rfl rfl hsize rfl hW hdg hf) kk
end KX8_isLegger
def wp_X8_isBoat (P : M2) (S : M2) (N : M2) (x1 : Int32) (K : Int32 → Prop) : Prop := wp_X8_isIn x1 0 ((P 252 0) - 1) (fun r_11 => (zb r_11 ∧ K r_11))
set_option maxRecDepth 100000 in
set_option maxHeartbeats 4000000 in
theorem c_X8_isBoat (l : Launch) (D : va_G) (Z : Nat → ClassId) (a q g : Nat → Nat) (rg aa : Nat) (P : M2) (S : M2) (N : M2) (sz : Nat) (x1 : Int32) (K : Int32 → Prop) (hm : wp_X8_isBoat P S N x1 K) : Met l yX8_isBoat (wy yX8_isBoat cX8_isBoat 2 (some .boolean)) (rk 2 0 0) (pre vwCl D Z (QW Z a q g rg aa P S N) sz [.ref (g 220), .int x1]) (vp_Si K) 0 0 (fun _ => False) := by
  refine ro_of (ty := .boolean) (by decide +kernel) (Nat.le_of_ble_eq_true rfl) rfl ?_
  intro p e s m args below meth c Q hC hN hsz hP hD hK hret ls hl
  have hx := hC.1
  have hb := hC.2.1
  have hl : lv_has ls 2 [(0, .ref (g 220)), (1, .int x1)] := hl
  refine lv_iload_n hx hb dX8_isBoat_0 rfl (lv_at hl 1 rfl) ?_
  refine lv_iconst (v := 0) hx hb dX8_isBoat_1 (by decide) ?_
  refine lv_aload_n hx hb dX8_isBoat_2 rfl (lv_at hl 0 rfl) ?_
  refine gQW_mod_11 hC hK hP wq_1430 dX8_isBoat_3 ?_
  refine gNQW_plan_12 hC hN hK hP wn_1260 dX8_isBoat_6 ?_
  refine lv_iconst (v := 1) hx hb dX8_isBoat_9 (by decide) ?_
  refine lv_isub hx hb dX8_isBoat_10 ?_
  refine kx_X8_isIn hC hN hK hP hD (sx_EWQW Z a q g rg aa P S N) rfl hm wq_1482 (by decide) hl.1 (Nat.le_of_ble_eq_true rfl) ⟨Nat.le_refl _, Nat.le_refl _⟩ dX8_isBoat_11 (fun r_11 hm => ?_)
  exact hret 14 _ _ hm.2 hm.1 dX8_isBoat_14
section KX8_isBoat
variable {p : Program} {l : Launch} {e : Env} {s : State} {m : MethodId} {args : Array Value} {below : List Frame} {meth : Method} {c : Code} {H H0 : Heap} {locs : List Loc} {cells slots : Nat} {Q : State → Prop} {R : Room} {rn mcR msR : Nat}
variable {pc : Nat} {ls : Array Slot} {rest : List Value} {A : Nat → Prop} {D : va_G}
variable {cc : ByteArray} {nL index : Nat} {own host : String}
theorem k_X8_isBoat {Z : Nat → ClassId} {a q g : Nat → Nat} {rg aa : Nat} {P : M2} {S : M2} {N : M2} {x1 : Int32} {K : Int32 → Prop} (hC : CallFix p m c cc nL s args lw_g own) (hN : NW s) (hK : va_K D vwCl (tysG Z) s) (hP : va_P D vwCl (QW Z a q g rg aa P S N) H) (hD : va_D (fun _ => True) (QW Z a q g rg aa P S N)) (hm : wp_X8_isBoat P S N x1 K) (hl : Cond.methodLink own index yX8_isBoat ∈ lw_g) (hlt : 2 < rn) (hsize : ls.size = nL) (hW : (rest.map fun v => v.category).sum ≤ 8) (hf : cells + 0 ≤ mcR ∧ slots + 0 ≤ msR) (hdg : decode cc pc = .ok (.invokevirtual index, 3)) (kk : ∀ r : Int32, K r → W p l e (rk rn mcR msR) s m args below meth c H locs cells slots Q (F0 m (pc + 3) ls (.int r :: rest))) : W p l e (rk rn mcR msR) s m args below meth c H locs cells slots Q (F0 m pc ls (.int x1 :: .ref (g 220) :: rest)) :=
  ro_go (runV (As := [.int x1]) hC hN (c_X8_isBoat l D Z a q g rg aa P S N H.size x1 K hm) mi_X8_isBoat hl wq_1791 wq_109 hlt hP hD hK (q0 := 12) rfl rfl rfl hsize rfl hW hdg hf) kk
end KX8_isBoat
def wp_X8_placeTold (P : M2) (S : M2) (N : M2) (x1 : Int32) (x2 : Int32) (K : Int32 → Prop) : Prop := ((¬ x2 = 0 → ((¬ x2 = 1 → ((¬ x2 = 2 → wp_X7_boatAt N P S x1 (fun r_54 => K r_54)) ∧ (x2 = 2 → wp_X7_capsAt N P S x1 (fun r_43 => K r_43)))) ∧ (x2 = 1 → (inb x1 60 ∧ K (S 202 x1.toInt.toNat))))) ∧ (x2 = 0 → (inb x1 60 ∧ K (P 245 x1.toInt.toNat))))
set_option maxRecDepth 100000 in
set_option maxHeartbeats 4000000 in
theorem c_X8_placeTold (l : Launch) (D : va_G) (Z : Nat → ClassId) (a q g : Nat → Nat) (rg aa : Nat) (P : M2) (S : M2) (N : M2) (sz : Nat) (x1 : Int32) (x2 : Int32) (K : Int32 → Prop) (hm : wp_X8_placeTold P S N x1 x2 K) : Met l yX8_placeTold (wy yX8_placeTold cX8_placeTold 3 (some .int)) (rk 2 0 0) (pre vwCl D Z (QW Z a q g rg aa P S N) sz [.ref (g 220), .int x1, .int x2]) (vp_Si K) 0 0 (fun _ => False) := by
  refine ro_of (ty := .int) (by decide +kernel) (Nat.le_of_ble_eq_true rfl) rfl ?_
  intro p e s m args below meth c Q hC hN hsz hP hD hK hret ls hl
  have hx := hC.1
  have hb := hC.2.1
  have hl : lv_has ls 3 [(0, .ref (g 220)), (1, .int x1), (2, .int x2)] := hl
  refine lv_iload_n hx hb dX8_placeTold_0 rfl (lv_at hl 2 rfl) ?_
  refine lv_if_ne (tgt := 16) hx hb dX8_placeTold_1 (by decide) (fun c_1 => ?_) (fun c_1 => ?_)
  · have hm := hm.1 c_1
    refine lv_iload_n hx hb dX8_placeTold_16 rfl (lv_at hl 2 rfl) ?_
    refine lv_iconst (v := 1) hx hb dX8_placeTold_17 (by decide) ?_
    refine lv_icmp_ne (tgt := 33) hx hb dX8_placeTold_18 (by decide) (fun c_18 => ?_) (fun c_18 => ?_)
    · have hm := hm.1 c_18
      refine lv_iload_n hx hb dX8_placeTold_33 rfl (lv_at hl 2 rfl) ?_
      refine lv_iconst (v := 2) hx hb dX8_placeTold_34 (by decide) ?_
      refine lv_icmp_ne (tgt := 49) hx hb dX8_placeTold_35 (by decide) (fun c_35 => ?_) (fun c_35 => ?_)
      · have hm := hm.1 c_35
        refine lv_aload_n hx hb dX8_placeTold_49 rfl (lv_at hl 0 rfl) ?_
        refine gQW_mod_13 hC hK hP wq_1433 dX8_placeTold_50 ?_
        refine lv_iload_n hx hb dX8_placeTold_53 rfl (lv_at hl 1 rfl) ?_
        refine kx_X7_boatAt hC hN hK hP hD (sx_SWQW Z a q g rg aa P S N) rfl hm wq_1753 (by decide) hl.1 (Nat.le_of_ble_eq_true rfl) ⟨Nat.le_refl _, Nat.le_refl _⟩ dX8_placeTold_54 (fun r_54 hm => ?_)
        exact hret 57 _ _ hm rfl dX8_placeTold_57
      · have hm := hm.2 c_35
        refine lv_aload_n hx hb dX8_placeTold_38 rfl (lv_at hl 0 rfl) ?_
        refine gQW_mod_13 hC hK hP wq_1433 dX8_placeTold_39 ?_
        refine lv_iload_n hx hb dX8_placeTold_42 rfl (lv_at hl 1 rfl) ?_
        refine kx_X7_capsAt hC hN hK hP hD (sx_SWQW Z a q g rg aa P S N) rfl hm wq_1752 (by decide) hl.1 (Nat.le_of_ble_eq_true rfl) ⟨Nat.le_refl _, Nat.le_refl _⟩ dX8_placeTold_43 (fun r_43 hm => ?_)
        refine lv_goto (tgt := 57) hx hb dX8_placeTold_46 (by decide) ?_
        exact hret 57 _ _ hm rfl dX8_placeTold_57
    · have hm := hm.2 c_18
      refine lv_aload_n hx hb dX8_placeTold_21 rfl (lv_at hl 0 rfl) ?_
      refine gQW_mod_13 hC hK hP wq_1433 dX8_placeTold_22 ?_
      refine gNQW_st_2 hC hN hK hP wn_1361 dX8_placeTold_25 ?_
      refine lv_iload_n hx hb dX8_placeTold_28 rfl (lv_at hl 1 rfl) ?_
      refine w_iald (q0 := 1) hC hK hP rfl hm.1 dX8_placeTold_29 ?_
      have hm := hm.2
      refine lv_goto (tgt := 57) hx hb dX8_placeTold_30 (by decide) ?_
      exact hret 57 _ _ hm rfl dX8_placeTold_57
  · have hm := hm.2 c_1
    refine lv_aload_n hx hb dX8_placeTold_4 rfl (lv_at hl 0 rfl) ?_
    refine gQW_mod_11 hC hK hP wq_1430 dX8_placeTold_5 ?_
    refine gNQW_plan_5 hC hN hK hP wn_1242 dX8_placeTold_8 ?_
    refine lv_iload_n hx hb dX8_placeTold_11 rfl (lv_at hl 1 rfl) ?_
    refine w_iald (q0 := 17) hC hK hP rfl hm.1 dX8_placeTold_12 ?_
    have hm := hm.2
    refine lv_goto (tgt := 57) hx hb dX8_placeTold_13 (by decide) ?_
    exact hret 57 _ _ hm rfl dX8_placeTold_57
section KX8_placeTold
variable {p : Program} {l : Launch} {e : Env} {s : State} {m : MethodId} {args : Array Value} {below : List Frame} {meth : Method} {c : Code} {H H0 : Heap} {locs : List Loc} {cells slots : Nat} {Q : State → Prop} {R : Room} {rn mcR msR : Nat}
variable {pc : Nat} {ls : Array Slot} {rest : List Value} {A : Nat → Prop} {D : va_G}
variable {cc : ByteArray} {nL index : Nat} {own host : String}
theorem k_X8_placeTold {Z : Nat → ClassId} {a q g : Nat → Nat} {rg aa : Nat} {P : M2} {S : M2} {N : M2} {x1 : Int32} {x2 : Int32} {K : Int32 → Prop} (hC : CallFix p m c cc nL s args lw_g own) (hN : NW s) (hK : va_K D vwCl (tysG Z) s) (hP : va_P D vwCl (QW Z a q g rg aa P S N) H) (hD : va_D (fun _ => True) (QW Z a q g rg aa P S N)) (hm : wp_X8_placeTold P S N x1 x2 K) (hl : Cond.methodLink own index yX8_placeTold ∈ lw_g) (hlt : 2 < rn) (hsize : ls.size = nL) (hW : (rest.map fun v => v.category).sum ≤ 8) (hf : cells + 0 ≤ mcR ∧ slots + 0 ≤ msR) (hdg : decode cc pc = .ok (.invokevirtual index, 3)) (kk : ∀ r : Int32, K r → W p l e (rk rn mcR msR) s m args below meth c H locs cells slots Q (F0 m (pc + 3) ls (.int r :: rest))) : W p l e (rk rn mcR msR) s m args below meth c H locs cells slots Q (F0 m pc ls (.int x2 :: .int x1 :: .ref (g 220) :: rest)) :=
  ro_go (runV (As := [.int x1, .int x2]) hC hN (c_X8_placeTold l D Z a q g rg aa P S N H.size x1 x2 K hm) mi_X8_placeTold hl wq_1750 wq_104 hlt hP hD hK (q0 := 12) rfl rfl rfl hsize rfl hW hdg hf) kk
end KX8_placeTold
def wp_X8_no (P : M2) (S : M2) (N : M2) (x1 : Int32) (K : Int32 → M2 → M2 → Prop) : Prop := (∀ N_2 : M2, N_2 = up2 N 220 (fun _ => x1) → K 0 S N_2)
set_option maxRecDepth 100000 in
set_option maxHeartbeats 4000000 in
theorem c_X8_no (l : Launch) (D : va_G) (Z : Nat → ClassId) (a q g : Nat → Nat) (rg aa : Nat) (P : M2) (S : M2) (N : M2) (sz : Nat) (x1 : Int32) (K : Int32 → M2 → M2 → Prop) (hm : wp_X8_no P S N x1 K) : Met l yX8_no (wy yX8_no cX8_no 2 (some .int)) (rk 1 0 0) (pre vwCl D Z (QW Z a q g rg aa P S N) sz [.ref (g 220), .int x1]) (poI vwCl D Z (fun u : M2 × M2 => QW Z a q g rg aa P u.1 u.2) (S, N) sz (fun (r : Int32) (u : M2 × M2) => K r u.1 u.2)) 0 0 (va_A (QW Z a q g rg aa P S N) sz) := by
  refine rw_of (ty := .int) (wsF := (fun u : M2 × M2 => QW Z a q g rg aa P u.1 u.2)) (u0 := (S, N)) (by decide +kernel) (Nat.le_of_ble_eq_true rfl) rfl ?_
  intro p e s m args below meth c Q A hC hN hsz hT hK hret ls hl
  have hx := hC.1
  have hb := hC.2.1
  have hl : lv_has ls 2 [(0, .ref (g 220)), (1, .int x1)] := hl
  have hT : TS vwCl D (QW Z a q g rg aa P S N) A s.heap s.heap [] := hT
  refine lv_aload_n hx hb dX8_no_0 rfl (lv_at hl 0 rfl) ?_
  refine lv_iload_n hx hb dX8_no_1 rfl (lv_at hl 1 rfl) ?_
  refine pQW_mod_0 hC hK hT wq_1419 dX8_no_2 (fun N_2 eN_2 H locs hT => ?_)
  have hm := hm N_2 eN_2
  refine lv_iconst (v := 0) hx hb dX8_no_5 (by decide) ?_
  exact hret 6 _ _ _ _ (S, N_2) hm hT rfl dX8_no_6
section KX8_no
variable {p : Program} {l : Launch} {e : Env} {s : State} {m : MethodId} {args : Array Value} {below : List Frame} {meth : Method} {c : Code} {H H0 : Heap} {locs : List Loc} {cells slots : Nat} {Q : State → Prop} {R : Room} {rn mcR msR : Nat}
variable {pc : Nat} {ls : Array Slot} {rest : List Value} {A : Nat → Prop} {D : va_G}
variable {cc : ByteArray} {nL index : Nat} {own host : String}
theorem k_X8_no {Z : Nat → ClassId} {a q g : Nat → Nat} {rg aa : Nat} {P : M2} {S : M2} {N : M2} {x1 : Int32} {K : Int32 → M2 → M2 → Prop} (hC : CallFix p m c cc nL s args lw_g own) (hN : NW s) (hK : va_K D vwCl (tysG Z) s) (hT : TS vwCl D (QW Z a q g rg aa P S N) A H0 H locs) (hm : wp_X8_no P S N x1 K) (hl : Cond.methodLink own index yX8_no ∈ lw_g) (hlt : 1 < rn) (hsize : ls.size = nL) (hW : (rest.map fun v => v.category).sum ≤ 8) (hf : cells + 0 ≤ mcR ∧ slots + 0 ≤ msR) (hdg : decode cc pc = .ok (.invokevirtual index, 3)) (kk : ∀ (r : Int32) (S1 : M2) (N1 : M2) (H1 : Heap) (locs1 : List Loc), K r S1 N1 → TS vwCl D (QW Z a q g rg aa P S1 N1) A H0 H1 locs1 → W p l e (rk rn mcR msR) s m args below meth c H1 locs1 cells slots Q (F0 m (pc + 3) ls (.int r :: rest))) : W p l e (rk rn mcR msR) s m args below meth c H locs cells slots Q (F0 m pc ls (.int x1 :: .ref (g 220) :: rest)) :=
  rw_go (wsF := (fun u : M2 × M2 => QW Z a q g rg aa P u.1 u.2)) (u0 := (S, N)) (wr := []) (isC := cutQW) (isR := []) (pm := cutQW) (ws' := (fun u : M2 × M2 => QW Z a q g rg aa P u.1 u.2)) (runV (As := [.int x1]) hC hN (c_X8_no l D Z a q g rg aa P S N H.size x1 K hm) mi_X8_no hl wq_1476 wq_62 hlt hT.1 hT.D' hK (q0 := 12) rfl rfl rfl hsize rfl hW hdg hf) (cutOkQW Z a q g rg aa P S N) hT (fun r u H1 locs1 hk hT1 => kk r u.1 u.2 H1 locs1 hk hT1)
end KX8_no
def wl_X8_boreTold_53 (P : M2) (K : Int32 → M2 → M2 → Prop) : Nat → M2 → M2 → Int32 → Int32 → Int32 → Prop
  | 0, _, _, _, _, _ => False
  | n + 1, S, N, v1, v3, v4 => (inb v1 5 ∧ (((P 242 v1.toInt.toNat) ≤ v4 → K v3 S N) ∧ (¬ (P 242 v1.toInt.toNat) ≤ v4 → (inb v1 5 ∧ (inb ((P 244 v1.toInt.toNat) + v4) 60 ∧ (∀ v3_89, v3_89 = v3 + (S 202 ((P 244 v1.toInt.toNat) + v4).toInt.toNat) → (∀ v4_90 : Int32, v4_90 = v4 + 1 → wl_X8_boreTold_53 P K n S N v1 v3_89 v4_90)))))))
def wp_X8_boreTold (P : M2) (S : M2) (N : M2) (x1 : Int32) (x2 : Int32) (K : Int32 → M2 → M2 → Prop) : Prop := ((3 ≤ x2 → wl_X8_boreTold_53 P K fK S N x1 0 0) ∧ (¬ 3 ≤ x2 → ((¬ x2 = 0 → ((¬ x2 = 1 → (inb x1 5 ∧ K (P 244 x1.toInt.toNat) S N)) ∧ (x2 = 1 → (inb x1 5 ∧ K (P 243 x1.toInt.toNat) S N)))) ∧ (x2 = 0 → (inb x1 5 ∧ K (P 242 x1.toInt.toNat) S N)))))
set_option maxRecDepth 100000 in
set_option maxHeartbeats 4000000 in
theorem c_X8_boreTold (l : Launch) (D : va_G) (Z : Nat → ClassId) (a q g : Nat → Nat) (rg aa : Nat) (P : M2) (S : M2) (N : M2) (sz : Nat) (x1 : Int32) (x2 : Int32) (K : Int32 → M2 → M2 → Prop) (hm : wp_X8_boreTold P S N x1 x2 K) : Met l yX8_boreTold (wy yX8_boreTold cX8_boreTold 5 (some .int)) (rk 1 0 0) (pre vwCl D Z (QW Z a q g rg aa P S N) sz [.ref (g 220), .int x1, .int x2]) (poI vwCl D Z (fun u : M2 × M2 => QW Z a q g rg aa P u.1 u.2) (S, N) sz (fun (r : Int32) (u : M2 × M2) => K r u.1 u.2)) 0 0 (va_A (QW Z a q g rg aa P S N) sz) := by
  refine rw_of (ty := .int) (wsF := (fun u : M2 × M2 => QW Z a q g rg aa P u.1 u.2)) (u0 := (S, N)) (by decide +kernel) (Nat.le_of_ble_eq_true rfl) rfl ?_
  intro p e s m args below meth c Q A hC hN hsz hT hK hret ls hl
  have hx := hC.1
  have hb := hC.2.1
  have hl : lv_has ls 5 [(0, .ref (g 220)), (1, .int x1), (2, .int x2)] := hl
  have hT : TS vwCl D (QW Z a q g rg aa P S N) A s.heap s.heap [] := hT
  have L53 : ∀ (n53 : Nat), ∀ (S : M2) (N : M2) (v1 : Int32) (v3 : Int32) (v4 : Int32) (H : Heap) (locs : List Loc) (ls : Array Slot), wl_X8_boreTold_53 P K n53 S N v1 v3 v4 → TS vwCl D (QW Z a q g rg aa P S N) A s.heap H locs → lv_has ls 5 [(0, .ref (g 220)), (1, .int v1), (3, .int v3), (4, .int v4)] → W p l e (rk 1 0 0) s m args below meth c H locs 0 0 Q (F0 m 53 ls []) := by
    intro n53
    induction n53 with
    | zero =>
      intro S N v1 v3 v4 H locs ls hm hT hl
      exact False.elim hm
    | succ n53 ih53 =>
      intro S N v1 v3 v4 H locs ls hm hT hl
      refine lv_iload hx hb dX8_boreTold_53 (lv_at hl 3 rfl) ?_
      refine lv_aload_n hx hb dX8_boreTold_55 rfl (lv_at hl 0 rfl) ?_
      refine gQW_mod_11 hC hK hT.1 wq_1430 dX8_boreTold_56 ?_
      refine gNQW_plan_2 hC hN hK hT.1 wn_1234 dX8_boreTold_59 ?_
      refine lv_iload_n hx hb dX8_boreTold_62 rfl (lv_at hl 1 rfl) ?_
      refine w_iald (q0 := 14) hC hK hT.1 rfl hm.1 dX8_boreTold_63 ?_
      have hm := hm.2
      refine lv_icmp_ge (tgt := 96) hx hb dX8_boreTold_64 (by decide) (fun c_64 => ?_) (fun c_64 => ?_)
      · have hm := hm.1 c_64
        refine lv_iload_n hx hb dX8_boreTold_96 rfl (lv_at hl 2 rfl) ?_
        exact hret 97 _ _ _ _ (S, N) hm hT rfl dX8_boreTold_97
      · have hm := hm.2 c_64
        refine lv_iload_n hx hb dX8_boreTold_67 rfl (lv_at hl 2 rfl) ?_
        refine lv_aload_n hx hb dX8_boreTold_68 rfl (lv_at hl 0 rfl) ?_
        refine gQW_mod_13 hC hK hT.1 wq_1433 dX8_boreTold_69 ?_
        refine gNQW_st_2 hC hN hK hT.1 wn_1361 dX8_boreTold_72 ?_
        refine lv_aload_n hx hb dX8_boreTold_75 rfl (lv_at hl 0 rfl) ?_
        refine gQW_mod_11 hC hK hT.1 wq_1430 dX8_boreTold_76 ?_
        refine gNQW_plan_4 hC hN hK hT.1 wn_1239 dX8_boreTold_79 ?_
        refine lv_iload_n hx hb dX8_boreTold_82 rfl (lv_at hl 1 rfl) ?_
        refine w_iald (q0 := 16) hC hK hT.1 rfl hm.1 dX8_boreTold_83 ?_
        have hm := hm.2
        refine lv_iload hx hb dX8_boreTold_84 (lv_at hl 3 rfl) ?_
        refine lv_iadd hx hb dX8_boreTold_86 ?_
        refine w_iald (q0 := 1) hC hK hT.1 rfl hm.1 dX8_boreTold_87 ?_
        have hm := hm.2
        refine lv_iadd hx hb dX8_boreTold_88 ?_
        refine lv_topi (fun v3_89 ev3_89 => ?_)
        have hm := hm v3_89 ev3_89
        refine lv_istore_n (lv' := [(3, .int v3_89), (0, .ref (g 220)), (1, .int v1), (4, .int v4)]) hx hb dX8_boreTold_89 rfl hl (by decide) rfl (fun ls hl => ?_)
        obtain ⟨v4_90, ev4_90⟩ : ∃ y : Int32, y = v4 + 1 := ⟨_, rfl⟩
        have hm := hm v4_90 ev4_90
        refine lv_iinc (v := v4_90) (lv' := [(4, .int v4_90), (3, .int v3_89), (0, .ref (g 220)), (1, .int v1)]) hx hb dX8_boreTold_90 hl (k := 3) rfl (by rw [ev4_90]; rfl) (by decide) rfl (fun ls hl => ?_)
        refine lv_goto (tgt := 53) hx hb dX8_boreTold_93 (by decide) ?_
        exact ih53 _ _ _ _ _ _ _ _ hm hT (lv_sub hl [2, 3, 1, 0] rfl)
  refine lv_iload_n hx hb dX8_boreTold_0 rfl (lv_at hl 2 rfl) ?_
  refine lv_iconst (v := 3) hx hb dX8_boreTold_1 (by decide) ?_
  refine lv_icmp_ge (tgt := 48) hx hb dX8_boreTold_2 (by decide) (fun c_2 => ?_) (fun c_2 => ?_)
  · have hm := hm.1 c_2
    refine lv_iconst (v := 0) hx hb dX8_boreTold_48 (by decide) ?_
    refine lv_istore_n (lv' := [(3, .int 0), (0, .ref (g 220)), (1, .int x1), (2, .int x2)]) hx hb dX8_boreTold_49 rfl hl (by decide) rfl (fun ls hl => ?_)
    refine lv_iconst (v := 0) hx hb dX8_boreTold_50 (by decide) ?_
    refine lv_istore (lv' := [(4, .int 0), (3, .int 0), (0, .ref (g 220)), (1, .int x1), (2, .int x2)]) hx hb dX8_boreTold_51 hl (by decide) rfl (fun ls hl => ?_)
    exact L53 _ _ _ _ _ _ _ _ _ hm hT (lv_sub hl [2, 3, 1, 0] rfl)
  · have hm := hm.2 c_2
    refine lv_iload_n hx hb dX8_boreTold_5 rfl (lv_at hl 2 rfl) ?_
    refine lv_if_ne (tgt := 21) hx hb dX8_boreTold_6 (by decide) (fun c_6 => ?_) (fun c_6 => ?_)
    · have hm := hm.1 c_6
      refine lv_iload_n hx hb dX8_boreTold_21 rfl (lv_at hl 2 rfl) ?_
      refine lv_iconst (v := 1) hx hb dX8_boreTold_22 (by decide) ?_
      refine lv_icmp_ne (tgt := 38) hx hb dX8_boreTold_23 (by decide) (fun c_23 => ?_) (fun c_23 => ?_)
      · have hm := hm.1 c_23
        refine lv_aload_n hx hb dX8_boreTold_38 rfl (lv_at hl 0 rfl) ?_
        refine gQW_mod_11 hC hK hT.1 wq_1430 dX8_boreTold_39 ?_
        refine gNQW_plan_4 hC hN hK hT.1 wn_1239 dX8_boreTold_42 ?_
        refine lv_iload_n hx hb dX8_boreTold_45 rfl (lv_at hl 1 rfl) ?_
        refine w_iald (q0 := 16) hC hK hT.1 rfl hm.1 dX8_boreTold_46 ?_
        have hm := hm.2
        exact hret 47 _ _ _ _ (S, N) hm hT rfl dX8_boreTold_47
      · have hm := hm.2 c_23
        refine lv_aload_n hx hb dX8_boreTold_26 rfl (lv_at hl 0 rfl) ?_
        refine gQW_mod_11 hC hK hT.1 wq_1430 dX8_boreTold_27 ?_
        refine gNQW_plan_3 hC hN hK hT.1 wn_1237 dX8_boreTold_30 ?_
        refine lv_iload_n hx hb dX8_boreTold_33 rfl (lv_at hl 1 rfl) ?_
        refine w_iald (q0 := 15) hC hK hT.1 rfl hm.1 dX8_boreTold_34 ?_
        have hm := hm.2
        refine lv_goto (tgt := 47) hx hb dX8_boreTold_35 (by decide) ?_
        exact hret 47 _ _ _ _ (S, N) hm hT rfl dX8_boreTold_47
    · have hm := hm.2 c_6
      refine lv_aload_n hx hb dX8_boreTold_9 rfl (lv_at hl 0 rfl) ?_
      refine gQW_mod_11 hC hK hT.1 wq_1430 dX8_boreTold_10 ?_
      refine gNQW_plan_2 hC hN hK hT.1 wn_1234 dX8_boreTold_13 ?_
      refine lv_iload_n hx hb dX8_boreTold_16 rfl (lv_at hl 1 rfl) ?_
      refine w_iald (q0 := 14) hC hK hT.1 rfl hm.1 dX8_boreTold_17 ?_
      have hm := hm.2
      refine lv_goto (tgt := 47) hx hb dX8_boreTold_18 (by decide) ?_
      exact hret 47 _ _ _ _ (S, N) hm hT rfl dX8_boreTold_47
section KX8_boreTold
variable {p : Program} {l : Launch} {e : Env} {s : State} {m : MethodId} {args : Array Value} {below : List Frame} {meth : Method} {c : Code} {H H0 : Heap} {locs : List Loc} {cells slots : Nat} {Q : State → Prop} {R : Room} {rn mcR msR : Nat}
variable {pc : Nat} {ls : Array Slot} {rest : List Value} {A : Nat → Prop} {D : va_G}
variable {cc : ByteArray} {nL index : Nat} {own host : String}
theorem k_X8_boreTold {Z : Nat → ClassId} {a q g : Nat → Nat} {rg aa : Nat} {P : M2} {S : M2} {N : M2} {x1 : Int32} {x2 : Int32} {K : Int32 → M2 → M2 → Prop} (hC : CallFix p m c cc nL s args lw_g own) (hN : NW s) (hK : va_K D vwCl (tysG Z) s) (hT : TS vwCl D (QW Z a q g rg aa P S N) A H0 H locs) (hm : wp_X8_boreTold P S N x1 x2 K) (hl : Cond.methodLink own index yX8_boreTold ∈ lw_g) (hlt : 1 < rn) (hsize : ls.size = nL) (hW : (rest.map fun v => v.category).sum ≤ 8) (hf : cells + 0 ≤ mcR ∧ slots + 0 ≤ msR) (hdg : decode cc pc = .ok (.invokevirtual index, 3)) (kk : ∀ (r : Int32) (S1 : M2) (N1 : M2) (H1 : Heap) (locs1 : List Loc), K r S1 N1 → TS vwCl D (QW Z a q g rg aa P S1 N1) A H0 H1 locs1 → W p l e (rk rn mcR msR) s m args below meth c H1 locs1 cells slots Q (F0 m (pc + 3) ls (.int r :: rest))) : W p l e (rk rn mcR msR) s m args below meth c H locs cells slots Q (F0 m pc ls (.int x2 :: .int x1 :: .ref (g 220) :: rest)) :=
  rw_go (wsF := (fun u : M2 × M2 => QW Z a q g rg aa P u.1 u.2)) (u0 := (S, N)) (wr := []) (isC := cutQW) (isR := []) (pm := cutQW) (ws' := (fun u : M2 × M2 => QW Z a q g rg aa P u.1 u.2)) (runV (As := [.int x1, .int x2]) hC hN (c_X8_boreTold l D Z a q g rg aa P S N H.size x1 x2 K hm) mi_X8_boreTold hl wq_1767 wq_106 hlt hT.1 hT.D' hK (q0 := 12) rfl rfl rfl hsize rfl hW hdg hf) (cutOkQW Z a q g rg aa P S N) hT (fun r u H1 locs1 hk hT1 => kk r u.1 u.2 H1 locs1 hk hT1)
end KX8_boreTold
def wp_X8_bore (P : M2) (S : M2) (N : M2) (x1 : Int32) (x2 : Int32) (K : Int32 → M2 → M2 → Prop) : Prop := (∀ N_2 : M2, N_2 = up2 N 220 (fun _ => 0) → wp_X8_isBore P S N_2 x1 (fun r_7 => ((r_7 = 0 → wp_X8_no P S N_2 1 (fun r_33 S_33 N_33 => K r_33 S_33 N_33)) ∧ (¬ r_7 = 0 → wp_X8_isIn x2 0 3 (fun r_16 => ((r_16 = 0 → wp_X8_no P S N_2 1 (fun r_33 S_33 N_33 => K r_33 S_33 N_33)) ∧ (¬ r_16 = 0 → wp_X8_boreTold P S N_2 x1 x2 (fun r_25 S_25 N_25 => K r_25 S_25 N_25))))))))
set_option maxRecDepth 100000 in
set_option maxHeartbeats 4000000 in
theorem c_X8_bore (l : Launch) (D : va_G) (Z : Nat → ClassId) (a q g : Nat → Nat) (rg aa : Nat) (P : M2) (S : M2) (N : M2) (sz : Nat) (x1 : Int32) (x2 : Int32) (K : Int32 → M2 → M2 → Prop) (hm : wp_X8_bore P S N x1 x2 K) : Met l yX8_bore (wy yX8_bore cX8_bore 3 (some .int)) (rk 3 0 0) (pre vwCl D Z (QW Z a q g rg aa P S N) sz [.ref (g 220), .int x1, .int x2]) (poI vwCl D Z (fun u : M2 × M2 => QW Z a q g rg aa P u.1 u.2) (S, N) sz (fun (r : Int32) (u : M2 × M2) => K r u.1 u.2)) 0 0 (va_A (QW Z a q g rg aa P S N) sz) := by
  refine rw_of (ty := .int) (wsF := (fun u : M2 × M2 => QW Z a q g rg aa P u.1 u.2)) (u0 := (S, N)) (by decide +kernel) (Nat.le_of_ble_eq_true rfl) rfl ?_
  intro p e s m args below meth c Q A hC hN hsz hT hK hret ls hl
  have hx := hC.1
  have hb := hC.2.1
  have hl : lv_has ls 3 [(0, .ref (g 220)), (1, .int x1), (2, .int x2)] := hl
  have hT : TS vwCl D (QW Z a q g rg aa P S N) A s.heap s.heap [] := hT
  refine lv_aload_n hx hb dX8_bore_0 rfl (lv_at hl 0 rfl) ?_
  refine lv_iconst (v := 0) hx hb dX8_bore_1 (by decide) ?_
  refine pQW_mod_0 hC hK hT wq_1419 dX8_bore_2 (fun N_2 eN_2 H locs hT => ?_)
  have hm := hm N_2 eN_2
  refine lv_aload_n hx hb dX8_bore_5 rfl (lv_at hl 0 rfl) ?_
  refine lv_iload_n hx hb dX8_bore_6 rfl (lv_at hl 1 rfl) ?_
  refine k_X8_isBore hC hN hK hT.1 hT.D' hm wq_1761 (by decide) hl.1 (Nat.le_of_ble_eq_true rfl) ⟨Nat.le_refl _, Nat.le_refl _⟩ dX8_bore_7 (fun r_7 hm => ?_)
  refine lv_if_eq (tgt := 31) hx hb dX8_bore_10 (by decide) (fun c_10 => ?_) (fun c_10 => ?_)
  · have hm := hm.1 c_10
    refine lv_aload_n hx hb dX8_bore_31 rfl (lv_at hl 0 rfl) ?_
    refine lv_iconst (v := 1) hx hb dX8_bore_32 (by decide) ?_
    refine k_X8_no hC hN hK hT hm wq_1474 (by decide) hl.1 (Nat.le_of_ble_eq_true rfl) ⟨Nat.le_refl _, Nat.le_refl _⟩ dX8_bore_33 (fun r_33 S_33 N_33 H locs hm hT => ?_)
    exact hret 36 _ _ _ _ (S_33, N_33) hm hT rfl dX8_bore_36
  · have hm := hm.2 c_10
    refine lv_iload_n hx hb dX8_bore_13 rfl (lv_at hl 2 rfl) ?_
    refine lv_iconst (v := 0) hx hb dX8_bore_14 (by decide) ?_
    refine lv_iconst (v := 3) hx hb dX8_bore_15 (by decide) ?_
    refine kx_X8_isIn hC hN hK hT.1 hT.D' (sx_EWQW Z a q g rg aa P S N_2) rfl hm wq_1482 (by decide) hl.1 (Nat.le_of_ble_eq_true rfl) ⟨Nat.le_refl _, Nat.le_refl _⟩ dX8_bore_16 (fun r_16 hm => ?_)
    refine lv_if_eq (tgt := 31) hx hb dX8_bore_19 (by decide) (fun c_19 => ?_) (fun c_19 => ?_)
    · have hm := hm.1 c_19
      refine lv_aload_n hx hb dX8_bore_31 rfl (lv_at hl 0 rfl) ?_
      refine lv_iconst (v := 1) hx hb dX8_bore_32 (by decide) ?_
      refine k_X8_no hC hN hK hT hm wq_1474 (by decide) hl.1 (Nat.le_of_ble_eq_true rfl) ⟨Nat.le_refl _, Nat.le_refl _⟩ dX8_bore_33 (fun r_33 S_33 N_33 H locs hm hT => ?_)
      exact hret 36 _ _ _ _ (S_33, N_33) hm hT rfl dX8_bore_36
    · have hm := hm.2 c_19
      refine lv_aload_n hx hb dX8_bore_22 rfl (lv_at hl 0 rfl) ?_
      refine lv_iload_n hx hb dX8_bore_23 rfl (lv_at hl 1 rfl) ?_
      refine lv_iload_n hx hb dX8_bore_24 rfl (lv_at hl 2 rfl) ?_
      refine k_X8_boreTold hC hN hK hT hm wq_1765 (by decide) hl.1 (Nat.le_of_ble_eq_true rfl) ⟨Nat.le_refl _, Nat.le_refl _⟩ dX8_bore_25 (fun r_25 S_25 N_25 H locs hm hT => ?_)
      refine lv_goto (tgt := 36) hx hb dX8_bore_28 (by decide) ?_
      exact hret 36 _ _ _ _ (S_25, N_25) hm hT rfl dX8_bore_36
section KX8_bore
variable {p : Program} {l : Launch} {e : Env} {s : State} {m : MethodId} {args : Array Value} {below : List Frame} {meth : Method} {c : Code} {H H0 : Heap} {locs : List Loc} {cells slots : Nat} {Q : State → Prop} {R : Room} {rn mcR msR : Nat}
variable {pc : Nat} {ls : Array Slot} {rest : List Value} {A : Nat → Prop} {D : va_G}
variable {cc : ByteArray} {nL index : Nat} {own host : String}
end KX8_bore
def wp_X8_trim (P : M2) (S : M2) (N : M2) (x1 : Int32) (K : Int32 → M2 → M2 → Prop) : Prop := (∀ N_2 : M2, N_2 = up2 N 220 (fun _ => 0) → wp_X8_isIn x1 0 (N_2 222 0) (fun r_11 => ((¬ r_11 = 0 → (∀ N_25 : M2, N_25 = up2 N_2 222 (fun _ => x1) → K x1 S N_25)) ∧ (r_11 = 0 → wp_X8_no P S N_2 1 (fun r_19 S_19 N_19 => K r_19 S_19 N_19)))))
set_option maxRecDepth 100000 in
set_option maxHeartbeats 4000000 in
theorem c_X8_trim (l : Launch) (D : va_G) (Z : Nat → ClassId) (a q g : Nat → Nat) (rg aa : Nat) (P : M2) (S : M2) (N : M2) (sz : Nat) (x1 : Int32) (K : Int32 → M2 → M2 → Prop) (hm : wp_X8_trim P S N x1 K) : Met l yX8_trim (wy yX8_trim cX8_trim 2 (some .int)) (rk 2 0 0) (pre vwCl D Z (QW Z a q g rg aa P S N) sz [.ref (g 220), .int x1]) (poI vwCl D Z (fun u : M2 × M2 => QW Z a q g rg aa P u.1 u.2) (S, N) sz (fun (r : Int32) (u : M2 × M2) => K r u.1 u.2)) 0 0 (va_A (QW Z a q g rg aa P S N) sz) := by
  refine rw_of (ty := .int) (wsF := (fun u : M2 × M2 => QW Z a q g rg aa P u.1 u.2)) (u0 := (S, N)) (by decide +kernel) (Nat.le_of_ble_eq_true rfl) rfl ?_
  intro p e s m args below meth c Q A hC hN hsz hT hK hret ls hl
  have hx := hC.1
  have hb := hC.2.1
  have hl : lv_has ls 2 [(0, .ref (g 220)), (1, .int x1)] := hl
  have hT : TS vwCl D (QW Z a q g rg aa P S N) A s.heap s.heap [] := hT
  refine lv_aload_n hx hb dX8_trim_0 rfl (lv_at hl 0 rfl) ?_
  refine lv_iconst (v := 0) hx hb dX8_trim_1 (by decide) ?_
  refine pQW_mod_0 hC hK hT wq_1419 dX8_trim_2 (fun N_2 eN_2 H locs hT => ?_)
  have hm := hm N_2 eN_2
  refine lv_iload_n hx hb dX8_trim_5 rfl (lv_at hl 1 rfl) ?_
  refine lv_iconst (v := 0) hx hb dX8_trim_6 (by decide) ?_
  refine lv_aload_n hx hb dX8_trim_7 rfl (lv_at hl 0 rfl) ?_
  refine gQW_mod_2 hC hK hT.1 wq_1421 dX8_trim_8 ?_
  refine kx_X8_isIn hC hN hK hT.1 hT.D' (sx_EWQW Z a q g rg aa P S N_2) rfl hm wq_1482 (by decide) hl.1 (Nat.le_of_ble_eq_true rfl) ⟨Nat.le_refl _, Nat.le_refl _⟩ dX8_trim_11 (fun r_11 hm => ?_)
  refine lv_if_ne (tgt := 23) hx hb dX8_trim_14 (by decide) (fun c_14 => ?_) (fun c_14 => ?_)
  · have hm := hm.1 c_14
    refine lv_aload_n hx hb dX8_trim_23 rfl (lv_at hl 0 rfl) ?_
    refine lv_iload_n hx hb dX8_trim_24 rfl (lv_at hl 1 rfl) ?_
    refine pQW_mod_2 hC hK hT wq_1421 dX8_trim_25 (fun N_25 eN_25 H locs hT => ?_)
    have hm := hm N_25 eN_25
    refine lv_iload_n hx hb dX8_trim_28 rfl (lv_at hl 1 rfl) ?_
    exact hret 29 _ _ _ _ (S, N_25) hm hT rfl dX8_trim_29
  · have hm := hm.2 c_14
    refine lv_aload_n hx hb dX8_trim_17 rfl (lv_at hl 0 rfl) ?_
    refine lv_iconst (v := 1) hx hb dX8_trim_18 (by decide) ?_
    refine k_X8_no hC hN hK hT hm wq_1474 (by decide) hl.1 (Nat.le_of_ble_eq_true rfl) ⟨Nat.le_refl _, Nat.le_refl _⟩ dX8_trim_19 (fun r_19 S_19 N_19 H locs hm hT => ?_)
    exact hret 22 _ _ _ _ (S_19, N_19) hm hT rfl dX8_trim_22
section KX8_trim
variable {p : Program} {l : Launch} {e : Env} {s : State} {m : MethodId} {args : Array Value} {below : List Frame} {meth : Method} {c : Code} {H H0 : Heap} {locs : List Loc} {cells slots : Nat} {Q : State → Prop} {R : Room} {rn mcR msR : Nat}
variable {pc : Nat} {ls : Array Slot} {rest : List Value} {A : Nat → Prop} {D : va_G}
variable {cc : ByteArray} {nL index : Nat} {own host : String}
end KX8_trim
def wp_X8_errorAt (P : M2) (S : M2) (N : M2) (K : Int32 → M2 → M2 → Prop) : Prop := (∀ N_2 : M2, N_2 = up2 N 220 (fun _ => 0) → K (N_2 223 0) S N_2)
set_option maxRecDepth 100000 in
set_option maxHeartbeats 4000000 in
theorem c_X8_errorAt (l : Launch) (D : va_G) (Z : Nat → ClassId) (a q g : Nat → Nat) (rg aa : Nat) (P : M2) (S : M2) (N : M2) (sz : Nat) (K : Int32 → M2 → M2 → Prop) (hm : wp_X8_errorAt P S N K) : Met l yX8_errorAt (wy yX8_errorAt cX8_errorAt 1 (some .int)) (rk 1 0 0) (pre vwCl D Z (QW Z a q g rg aa P S N) sz [.ref (g 220)]) (poI vwCl D Z (fun u : M2 × M2 => QW Z a q g rg aa P u.1 u.2) (S, N) sz (fun (r : Int32) (u : M2 × M2) => K r u.1 u.2)) 0 0 (va_A (QW Z a q g rg aa P S N) sz) := by
  refine rw_of (ty := .int) (wsF := (fun u : M2 × M2 => QW Z a q g rg aa P u.1 u.2)) (u0 := (S, N)) (by decide +kernel) (Nat.le_of_ble_eq_true rfl) rfl ?_
  intro p e s m args below meth c Q A hC hN hsz hT hK hret ls hl
  have hx := hC.1
  have hb := hC.2.1
  have hl : lv_has ls 1 [(0, .ref (g 220))] := hl
  have hT : TS vwCl D (QW Z a q g rg aa P S N) A s.heap s.heap [] := hT
  refine lv_aload_n hx hb dX8_errorAt_0 rfl (lv_at hl 0 rfl) ?_
  refine lv_iconst (v := 0) hx hb dX8_errorAt_1 (by decide) ?_
  refine pQW_mod_0 hC hK hT wq_1419 dX8_errorAt_2 (fun N_2 eN_2 H locs hT => ?_)
  have hm := hm N_2 eN_2
  refine lv_aload_n hx hb dX8_errorAt_5 rfl (lv_at hl 0 rfl) ?_
  refine gQW_mod_3 hC hK hT.1 wq_1422 dX8_errorAt_6 ?_
  exact hret 9 _ _ _ _ (S, N_2) hm hT rfl dX8_errorAt_9
section KX8_errorAt
variable {p : Program} {l : Launch} {e : Env} {s : State} {m : MethodId} {args : Array Value} {below : List Frame} {meth : Method} {c : Code} {H H0 : Heap} {locs : List Loc} {cells slots : Nat} {Q : State → Prop} {R : Room} {rn mcR msR : Nat}
variable {pc : Nat} {ls : Array Slot} {rest : List Value} {A : Nat → Prop} {D : va_G}
variable {cc : ByteArray} {nL index : Nat} {own host : String}
end KX8_errorAt
def wp_X8_place (P : M2) (S : M2) (N : M2) (x1 : Int32) (x2 : Int32) (K : Int32 → M2 → M2 → Prop) : Prop := (∀ N_2 : M2, N_2 = up2 N 220 (fun _ => 0) → wp_X8_isPlace P S N_2 x1 (fun r_7 => ((r_7 = 0 → wp_X8_no P S N_2 1 (fun r_33 S_33 N_33 => K r_33 S_33 N_33)) ∧ (¬ r_7 = 0 → wp_X8_isIn x2 0 3 (fun r_16 => ((r_16 = 0 → wp_X8_no P S N_2 1 (fun r_33 S_33 N_33 => K r_33 S_33 N_33)) ∧ (¬ r_16 = 0 → wp_X8_placeTold P S N_2 x1 x2 (fun r_25 => K r_25 S N_2))))))))
set_option maxRecDepth 100000 in
set_option maxHeartbeats 4000000 in
theorem c_X8_place (l : Launch) (D : va_G) (Z : Nat → ClassId) (a q g : Nat → Nat) (rg aa : Nat) (P : M2) (S : M2) (N : M2) (sz : Nat) (x1 : Int32) (x2 : Int32) (K : Int32 → M2 → M2 → Prop) (hm : wp_X8_place P S N x1 x2 K) : Met l yX8_place (wy yX8_place cX8_place 3 (some .int)) (rk 3 0 0) (pre vwCl D Z (QW Z a q g rg aa P S N) sz [.ref (g 220), .int x1, .int x2]) (poI vwCl D Z (fun u : M2 × M2 => QW Z a q g rg aa P u.1 u.2) (S, N) sz (fun (r : Int32) (u : M2 × M2) => K r u.1 u.2)) 0 0 (va_A (QW Z a q g rg aa P S N) sz) := by
  refine rw_of (ty := .int) (wsF := (fun u : M2 × M2 => QW Z a q g rg aa P u.1 u.2)) (u0 := (S, N)) (by decide +kernel) (Nat.le_of_ble_eq_true rfl) rfl ?_
  intro p e s m args below meth c Q A hC hN hsz hT hK hret ls hl
  have hx := hC.1
  have hb := hC.2.1
  have hl : lv_has ls 3 [(0, .ref (g 220)), (1, .int x1), (2, .int x2)] := hl
  have hT : TS vwCl D (QW Z a q g rg aa P S N) A s.heap s.heap [] := hT
  refine lv_aload_n hx hb dX8_place_0 rfl (lv_at hl 0 rfl) ?_
  refine lv_iconst (v := 0) hx hb dX8_place_1 (by decide) ?_
  refine pQW_mod_0 hC hK hT wq_1419 dX8_place_2 (fun N_2 eN_2 H locs hT => ?_)
  have hm := hm N_2 eN_2
  refine lv_aload_n hx hb dX8_place_5 rfl (lv_at hl 0 rfl) ?_
  refine lv_iload_n hx hb dX8_place_6 rfl (lv_at hl 1 rfl) ?_
  refine k_X8_isPlace hC hN hK hT.1 hT.D' hm wq_1744 (by decide) hl.1 (Nat.le_of_ble_eq_true rfl) ⟨Nat.le_refl _, Nat.le_refl _⟩ dX8_place_7 (fun r_7 hm => ?_)
  refine lv_if_eq (tgt := 31) hx hb dX8_place_10 (by decide) (fun c_10 => ?_) (fun c_10 => ?_)
  · have hm := hm.1 c_10
    refine lv_aload_n hx hb dX8_place_31 rfl (lv_at hl 0 rfl) ?_
    refine lv_iconst (v := 1) hx hb dX8_place_32 (by decide) ?_
    refine k_X8_no hC hN hK hT hm wq_1474 (by decide) hl.1 (Nat.le_of_ble_eq_true rfl) ⟨Nat.le_refl _, Nat.le_refl _⟩ dX8_place_33 (fun r_33 S_33 N_33 H locs hm hT => ?_)
    exact hret 36 _ _ _ _ (S_33, N_33) hm hT rfl dX8_place_36
  · have hm := hm.2 c_10
    refine lv_iload_n hx hb dX8_place_13 rfl (lv_at hl 2 rfl) ?_
    refine lv_iconst (v := 0) hx hb dX8_place_14 (by decide) ?_
    refine lv_iconst (v := 3) hx hb dX8_place_15 (by decide) ?_
    refine kx_X8_isIn hC hN hK hT.1 hT.D' (sx_EWQW Z a q g rg aa P S N_2) rfl hm wq_1482 (by decide) hl.1 (Nat.le_of_ble_eq_true rfl) ⟨Nat.le_refl _, Nat.le_refl _⟩ dX8_place_16 (fun r_16 hm => ?_)
    refine lv_if_eq (tgt := 31) hx hb dX8_place_19 (by decide) (fun c_19 => ?_) (fun c_19 => ?_)
    · have hm := hm.1 c_19
      refine lv_aload_n hx hb dX8_place_31 rfl (lv_at hl 0 rfl) ?_
      refine lv_iconst (v := 1) hx hb dX8_place_32 (by decide) ?_
      refine k_X8_no hC hN hK hT hm wq_1474 (by decide) hl.1 (Nat.le_of_ble_eq_true rfl) ⟨Nat.le_refl _, Nat.le_refl _⟩ dX8_place_33 (fun r_33 S_33 N_33 H locs hm hT => ?_)
      exact hret 36 _ _ _ _ (S_33, N_33) hm hT rfl dX8_place_36
    · have hm := hm.2 c_19
      refine lv_aload_n hx hb dX8_place_22 rfl (lv_at hl 0 rfl) ?_
      refine lv_iload_n hx hb dX8_place_23 rfl (lv_at hl 1 rfl) ?_
      refine lv_iload_n hx hb dX8_place_24 rfl (lv_at hl 2 rfl) ?_
      refine k_X8_placeTold hC hN hK hT.1 hT.D' hm wq_1748 (by decide) hl.1 (Nat.le_of_ble_eq_true rfl) ⟨Nat.le_refl _, Nat.le_refl _⟩ dX8_place_25 (fun r_25 hm => ?_)
      refine lv_goto (tgt := 36) hx hb dX8_place_28 (by decide) ?_
      exact hret 36 _ _ _ _ (S, N_2) hm hT rfl dX8_place_36
section KX8_place
variable {p : Program} {l : Launch} {e : Env} {s : State} {m : MethodId} {args : Array Value} {below : List Frame} {meth : Method} {c : Code} {H H0 : Heap} {locs : List Loc} {cells slots : Nat} {Q : State → Prop} {R : Room} {rn mcR msR : Nat}
variable {pc : Nat} {ls : Array Slot} {rest : List Value} {A : Nat → Prop} {D : va_G}
variable {cc : ByteArray} {nL index : Nat} {own host : String}
end KX8_place
def wp_X8_crew (P : M2) (S : M2) (N : M2) (x1 : Int32) (x2 : Int32) (K : Int32 → M2 → M2 → Prop) : Prop := (∀ N_2 : M2, N_2 = up2 N 220 (fun _ => 0) → wp_X8_isBoat P S N_2 x1 (fun r_7 => ((r_7 = 0 → wp_X8_no P S N_2 1 (fun r_38 S_38 N_38 => K r_38 S_38 N_38)) ∧ (¬ r_7 = 0 → wp_X8_isIn x2 0 1 (fun r_16 => ((r_16 = 0 → wp_X8_no P S N_2 1 (fun r_38 S_38 N_38 => K r_38 S_38 N_38)) ∧ (¬ r_16 = 0 → (inb x1 8 ∧ (inb x1 8 ∧ inb x2 2 ∧ K (P (310 + x1.toInt.toNat) x2.toInt.toNat) S N_2)))))))))
set_option maxRecDepth 100000 in
set_option maxHeartbeats 4000000 in
theorem c_X8_crew (l : Launch) (D : va_G) (Z : Nat → ClassId) (a q g : Nat → Nat) (rg aa : Nat) (P : M2) (S : M2) (N : M2) (sz : Nat) (x1 : Int32) (x2 : Int32) (K : Int32 → M2 → M2 → Prop) (hm : wp_X8_crew P S N x1 x2 K) : Met l yX8_crew (wy yX8_crew cX8_crew 3 (some .int)) (rk 3 0 0) (pre vwCl D Z (QW Z a q g rg aa P S N) sz [.ref (g 220), .int x1, .int x2]) (poI vwCl D Z (fun u : M2 × M2 => QW Z a q g rg aa P u.1 u.2) (S, N) sz (fun (r : Int32) (u : M2 × M2) => K r u.1 u.2)) 0 0 (va_A (QW Z a q g rg aa P S N) sz) := by
  refine rw_of (ty := .int) (wsF := (fun u : M2 × M2 => QW Z a q g rg aa P u.1 u.2)) (u0 := (S, N)) (by decide +kernel) (Nat.le_of_ble_eq_true rfl) rfl ?_
  intro p e s m args below meth c Q A hC hN hsz hT hK hret ls hl
  have hx := hC.1
  have hb := hC.2.1
  have hl : lv_has ls 3 [(0, .ref (g 220)), (1, .int x1), (2, .int x2)] := hl
  have hT : TS vwCl D (QW Z a q g rg aa P S N) A s.heap s.heap [] := hT
  refine lv_aload_n hx hb dX8_crew_0 rfl (lv_at hl 0 rfl) ?_
  refine lv_iconst (v := 0) hx hb dX8_crew_1 (by decide) ?_
  refine pQW_mod_0 hC hK hT wq_1419 dX8_crew_2 (fun N_2 eN_2 H locs hT => ?_)
  have hm := hm N_2 eN_2
  refine lv_aload_n hx hb dX8_crew_5 rfl (lv_at hl 0 rfl) ?_
  refine lv_iload_n hx hb dX8_crew_6 rfl (lv_at hl 1 rfl) ?_
  refine k_X8_isBoat hC hN hK hT.1 hT.D' hm wq_1789 (by decide) hl.1 (Nat.le_of_ble_eq_true rfl) ⟨Nat.le_refl _, Nat.le_refl _⟩ dX8_crew_7 (fun r_7 hm => ?_)
  refine lv_if_eq (tgt := 36) hx hb dX8_crew_10 (by decide) (fun c_10 => ?_) (fun c_10 => ?_)
  · have hm := hm.1 c_10
    refine lv_aload_n hx hb dX8_crew_36 rfl (lv_at hl 0 rfl) ?_
    refine lv_iconst (v := 1) hx hb dX8_crew_37 (by decide) ?_
    refine k_X8_no hC hN hK hT hm wq_1474 (by decide) hl.1 (Nat.le_of_ble_eq_true rfl) ⟨Nat.le_refl _, Nat.le_refl _⟩ dX8_crew_38 (fun r_38 S_38 N_38 H locs hm hT => ?_)
    exact hret 41 _ _ _ _ (S_38, N_38) hm hT rfl dX8_crew_41
  · have hm := hm.2 c_10
    refine lv_iload_n hx hb dX8_crew_13 rfl (lv_at hl 2 rfl) ?_
    refine lv_iconst (v := 0) hx hb dX8_crew_14 (by decide) ?_
    refine lv_iconst (v := 1) hx hb dX8_crew_15 (by decide) ?_
    refine kx_X8_isIn hC hN hK hT.1 hT.D' (sx_EWQW Z a q g rg aa P S N_2) rfl hm wq_1482 (by decide) hl.1 (Nat.le_of_ble_eq_true rfl) ⟨Nat.le_refl _, Nat.le_refl _⟩ dX8_crew_16 (fun r_16 hm => ?_)
    refine lv_if_eq (tgt := 36) hx hb dX8_crew_19 (by decide) (fun c_19 => ?_) (fun c_19 => ?_)
    · have hm := hm.1 c_19
      refine lv_aload_n hx hb dX8_crew_36 rfl (lv_at hl 0 rfl) ?_
      refine lv_iconst (v := 1) hx hb dX8_crew_37 (by decide) ?_
      refine k_X8_no hC hN hK hT hm wq_1474 (by decide) hl.1 (Nat.le_of_ble_eq_true rfl) ⟨Nat.le_refl _, Nat.le_refl _⟩ dX8_crew_38 (fun r_38 S_38 N_38 H locs hm hT => ?_)
      exact hret 41 _ _ _ _ (S_38, N_38) hm hT rfl dX8_crew_41
    · have hm := hm.2 c_19
      refine lv_aload_n hx hb dX8_crew_22 rfl (lv_at hl 0 rfl) ?_
      refine gQW_mod_11 hC hK hT.1 wq_1430 dX8_crew_23 ?_
      refine gNQW_plan_16 hC hN hK hT.1 wn_1272 dX8_crew_26 ?_
      refine lv_iload_n hx hb dX8_crew_29 rfl (lv_at hl 1 rfl) ?_
      refine w_aaldR (q0 := 25) hC hK hT.1 rfl hm.1 dX8_crew_30 ?_
      have hm := hm.2
      refine lv_iload_n hx hb dX8_crew_31 rfl (lv_at hl 2 rfl) ?_
      refine wrl_QW hC hK hT.1 hm.1 hm.2.1 dX8_crew_32 ?_
      have hm := hm.2.2
      refine lv_goto (tgt := 41) hx hb dX8_crew_33 (by decide) ?_
      exact hret 41 _ _ _ _ (S, N_2) hm hT rfl dX8_crew_41
section KX8_crew
variable {p : Program} {l : Launch} {e : Env} {s : State} {m : MethodId} {args : Array Value} {below : List Frame} {meth : Method} {c : Code} {H H0 : Heap} {locs : List Loc} {cells slots : Nat} {Q : State → Prop} {R : Room} {rn mcR msR : Nat}
variable {pc : Nat} {ls : Array Slot} {rest : List Value} {A : Nat → Prop} {D : va_G}
variable {cc : ByteArray} {nL index : Nat} {own host : String}
end KX8_crew
def wj_X8_canEnter_14 (P : M2) (K : Int32 → M2 → M2 → Prop) (S : M2) (N : M2) (v1 : Int32) (q0 : Int32) : Prop := (∀ N_14 : M2, N_14 = up2 N 220 (fun _ => q0) → ((¬ (N_14 220 0) = 0 → K 0 S N_14) ∧ ((N_14 220 0) = 0 → wp_X7_canEnter N_14 P S v1 (fun r_29 S_29 => ((r_29 = 0 → K 0 S_29 N_14) ∧ (¬ r_29 = 0 → K 1 S_29 N_14))))))
def wp_X8_canEnter (P : M2) (S : M2) (N : M2) (x1 : Int32) (K : Int32 → M2 → M2 → Prop) : Prop := wp_X8_isBoat P S N x1 (fun r_3 => ((r_3 = 0 → wj_X8_canEnter_14 P K S N x1 1) ∧ (¬ r_3 = 0 → wj_X8_canEnter_14 P K S N x1 0)))
set_option maxRecDepth 100000 in
set_option maxHeartbeats 4000000 in
theorem c_X8_canEnter (l : Launch) (D : va_G) (Z : Nat → ClassId) (a q g : Nat → Nat) (rg aa : Nat) (P : M2) (S : M2) (N : M2) (sz : Nat) (x1 : Int32) (K : Int32 → M2 → M2 → Prop) (hm : wp_X8_canEnter P S N x1 K) : Met l yX8_canEnter (wy yX8_canEnter cX8_canEnter 2 (some .boolean)) (rk 8 0 0) (pre vwCl D Z (QW Z a q g rg aa P S N) sz [.ref (g 220), .int x1]) (poI vwCl D Z (fun u : M2 × M2 => QW Z a q g rg aa P u.1 u.2) (S, N) sz (fun (r : Int32) (u : M2 × M2) => K r u.1 u.2)) 0 0 (va_A (QW Z a q g rg aa P S N) sz) := by
  refine rw_of (ty := .boolean) (wsF := (fun u : M2 × M2 => QW Z a q g rg aa P u.1 u.2)) (u0 := (S, N)) (by decide +kernel) (Nat.le_of_ble_eq_true rfl) rfl ?_
  intro p e s m args below meth c Q A hC hN hsz hT hK hret ls hl
  have hx := hC.1
  have hb := hC.2.1
  have hl : lv_has ls 2 [(0, .ref (g 220)), (1, .int x1)] := hl
  have hT : TS vwCl D (QW Z a q g rg aa P S N) A s.heap s.heap [] := hT
  have L14 : ∀ (S : M2) (N : M2) (v1 : Int32) (q0 : Int32) (H : Heap) (locs : List Loc) (ls : Array Slot), wj_X8_canEnter_14 P K S N v1 q0 → TS vwCl D (QW Z a q g rg aa P S N) A s.heap H locs → lv_has ls 2 [(0, .ref (g 220)), (1, .int v1)] → W p l e (rk 8 0 0) s m args below meth c H locs 0 0 Q (F0 m 14 ls [.int q0, .ref (g 220)]) := by
    intro S N v1 q0 H locs ls hm hT hl
    refine pQW_mod_0 hC hK hT wq_1419 dX8_canEnter_14 (fun N_14 eN_14 H locs hT => ?_)
    have hm := hm N_14 eN_14
    refine lv_aload_n hx hb dX8_canEnter_17 rfl (lv_at hl 0 rfl) ?_
    refine gQW_mod_0 hC hK hT.1 wq_1419 dX8_canEnter_18 ?_
    refine lv_if_ne (tgt := 39) hx hb dX8_canEnter_21 (by decide) (fun c_21 => ?_) (fun c_21 => ?_)
    · have hm := hm.1 c_21
      refine lv_iconst (v := 0) hx hb dX8_canEnter_39 (by decide) ?_
      exact hret 40 _ _ _ _ (S, N_14) hm hT rfl dX8_canEnter_40
    · have hm := hm.2 c_21
      refine lv_aload_n hx hb dX8_canEnter_24 rfl (lv_at hl 0 rfl) ?_
      refine gQW_mod_13 hC hK hT.1 wq_1433 dX8_canEnter_25 ?_
      refine lv_iload_n hx hb dX8_canEnter_28 rfl (lv_at hl 1 rfl) ?_
      refine kx_X7_canEnter hC hN hK hT (cx_SWQW Z a q g rg aa P S N_14) rfl hm wq_1805 (by decide) hl.1 (Nat.le_of_ble_eq_true rfl) ⟨Nat.le_refl _, Nat.le_refl _⟩ dX8_canEnter_29 (fun r_29 S_29 H locs hm hT => ?_)
      have hT : TS vwCl D (QW Z a q g rg aa P S_29 N_14) A s.heap H locs := hT
      refine lv_if_eq (tgt := 39) hx hb dX8_canEnter_32 (by decide) (fun c_32 => ?_) (fun c_32 => ?_)
      · have hm := hm.1 c_32
        refine lv_iconst (v := 0) hx hb dX8_canEnter_39 (by decide) ?_
        exact hret 40 _ _ _ _ (S_29, N_14) hm hT rfl dX8_canEnter_40
      · have hm := hm.2 c_32
        refine lv_iconst (v := 1) hx hb dX8_canEnter_35 (by decide) ?_
        refine lv_goto (tgt := 40) hx hb dX8_canEnter_36 (by decide) ?_
        exact hret 40 _ _ _ _ (S_29, N_14) hm hT rfl dX8_canEnter_40
  refine lv_aload_n hx hb dX8_canEnter_0 rfl (lv_at hl 0 rfl) ?_
  refine lv_aload_n hx hb dX8_canEnter_1 rfl (lv_at hl 0 rfl) ?_
  refine lv_iload_n hx hb dX8_canEnter_2 rfl (lv_at hl 1 rfl) ?_
  refine k_X8_isBoat hC hN hK hT.1 hT.D' hm wq_1789 (by decide) hl.1 (Nat.le_of_ble_eq_true rfl) ⟨Nat.le_refl _, Nat.le_refl _⟩ dX8_canEnter_3 (fun r_3 hm => ?_)
  refine lv_if_eq (tgt := 13) hx hb dX8_canEnter_6 (by decide) (fun c_6 => ?_) (fun c_6 => ?_)
  · have hm := hm.1 c_6
    refine lv_iconst (v := 1) hx hb dX8_canEnter_13 (by decide) ?_
    exact L14 _ _ _ _ _ _ _ hm hT (lv_sub hl [0, 1] rfl)
  · have hm := hm.2 c_6
    refine lv_iconst (v := 0) hx hb dX8_canEnter_9 (by decide) ?_
    refine lv_goto (tgt := 14) hx hb dX8_canEnter_10 (by decide) ?_
    exact L14 _ _ _ _ _ _ _ hm hT (lv_sub hl [0, 1] rfl)
section KX8_canEnter
variable {p : Program} {l : Launch} {e : Env} {s : State} {m : MethodId} {args : Array Value} {below : List Frame} {meth : Method} {c : Code} {H H0 : Heap} {locs : List Loc} {cells slots : Nat} {Q : State → Prop} {R : Room} {rn mcR msR : Nat}
variable {pc : Nat} {ls : Array Slot} {rest : List Value} {A : Nat → Prop} {D : va_G}
variable {cc : ByteArray} {nL index : Nat} {own host : String}
end KX8_canEnter
def wl_X8_worst_9 (P : M2) (K : Int32 → M2 → M2 → Prop) : Nat → M2 → M2 → Int32 → Int32 → Prop
  | 0, _, _, _, _ => False
  | n + 1, S, N, v1, v2 => (((P 241 0) ≤ v2 → K v1 S N) ∧ (¬ (P 241 0) ≤ v2 → ((v1 = ((-1)) → (∀ v2_48 : Int32, v2_48 = v2 + 1 → wl_X8_worst_9 P K n S N v2 v2_48)) ∧ (¬ v1 = ((-1)) → (inb v2 60 ∧ (inb v1 60 ∧ (((S 202 v1.toInt.toNat) ≤ (S 202 v2.toInt.toNat) → (∀ v2_48 : Int32, v2_48 = v2 + 1 → wl_X8_worst_9 P K n S N v1 v2_48)) ∧ (¬ (S 202 v1.toInt.toNat) ≤ (S 202 v2.toInt.toNat) → (∀ v2_48 : Int32, v2_48 = v2 + 1 → wl_X8_worst_9 P K n S N v2 v2_48)))))))))
def wp_X8_worst (P : M2) (S : M2) (N : M2) (K : Int32 → M2 → M2 → Prop) : Prop := (∀ N_2 : M2, N_2 = up2 N 220 (fun _ => 0) → wl_X8_worst_9 P K fK S N_2 ((-1)) 0)
set_option maxRecDepth 100000 in
set_option maxHeartbeats 4000000 in
theorem c_X8_worst (l : Launch) (D : va_G) (Z : Nat → ClassId) (a q g : Nat → Nat) (rg aa : Nat) (P : M2) (S : M2) (N : M2) (sz : Nat) (K : Int32 → M2 → M2 → Prop) (hm : wp_X8_worst P S N K) : Met l yX8_worst (wy yX8_worst cX8_worst 3 (some .int)) (rk 1 0 0) (pre vwCl D Z (QW Z a q g rg aa P S N) sz [.ref (g 220)]) (poI vwCl D Z (fun u : M2 × M2 => QW Z a q g rg aa P u.1 u.2) (S, N) sz (fun (r : Int32) (u : M2 × M2) => K r u.1 u.2)) 0 0 (va_A (QW Z a q g rg aa P S N) sz) := by
  refine rw_of (ty := .int) (wsF := (fun u : M2 × M2 => QW Z a q g rg aa P u.1 u.2)) (u0 := (S, N)) (by decide +kernel) (Nat.le_of_ble_eq_true rfl) rfl ?_
  intro p e s m args below meth c Q A hC hN hsz hT hK hret ls hl
  have hx := hC.1
  have hb := hC.2.1
  have hl : lv_has ls 3 [(0, .ref (g 220))] := hl
  have hT : TS vwCl D (QW Z a q g rg aa P S N) A s.heap s.heap [] := hT
  have L9 : ∀ (n9 : Nat), ∀ (S : M2) (N : M2) (v1 : Int32) (v2 : Int32) (H : Heap) (locs : List Loc) (ls : Array Slot), wl_X8_worst_9 P K n9 S N v1 v2 → TS vwCl D (QW Z a q g rg aa P S N) A s.heap H locs → lv_has ls 3 [(0, .ref (g 220)), (1, .int v1), (2, .int v2)] → W p l e (rk 1 0 0) s m args below meth c H locs 0 0 Q (F0 m 9 ls []) := by
    intro n9
    induction n9 with
    | zero =>
      intro S N v1 v2 H locs ls hm hT hl
      exact False.elim hm
    | succ n9 ih9 =>
      intro S N v1 v2 H locs ls hm hT hl
      refine lv_iload_n hx hb dX8_worst_9 rfl (lv_at hl 2 rfl) ?_
      refine lv_aload_n hx hb dX8_worst_10 rfl (lv_at hl 0 rfl) ?_
      refine gQW_mod_11 hC hK hT.1 wq_1430 dX8_worst_11 ?_
      refine gNQW_plan_1 hC hN hK hT.1 wn_1232 dX8_worst_14 ?_
      refine lv_icmp_ge (tgt := 54) hx hb dX8_worst_17 (by decide) (fun c_17 => ?_) (fun c_17 => ?_)
      · have hm := hm.1 c_17
        refine lv_iload_n hx hb dX8_worst_54 rfl (lv_at hl 1 rfl) ?_
        exact hret 55 _ _ _ _ (S, N) hm hT rfl dX8_worst_55
      · have hm := hm.2 c_17
        refine lv_iload_n hx hb dX8_worst_20 rfl (lv_at hl 1 rfl) ?_
        refine lv_iconst (v := (-1)) hx hb dX8_worst_21 (by decide) ?_
        refine lv_icmp_eq (tgt := 46) hx hb dX8_worst_22 (by decide) (fun c_22 => ?_) (fun c_22 => ?_)
        · have hm := hm.1 c_22
          refine lv_iload_n hx hb dX8_worst_46 rfl (lv_at hl 2 rfl) ?_
          refine lv_istore_n (lv' := [(1, .int v2), (0, .ref (g 220)), (2, .int v2)]) hx hb dX8_worst_47 rfl hl (by decide) rfl (fun ls hl => ?_)
          obtain ⟨v2_48, ev2_48⟩ : ∃ y : Int32, y = v2 + 1 := ⟨_, rfl⟩
          have hm := hm v2_48 ev2_48
          refine lv_iinc (v := v2_48) (lv' := [(2, .int v2_48), (1, .int v2), (0, .ref (g 220))]) hx hb dX8_worst_48 hl (k := 2) rfl (by rw [ev2_48]; rfl) (by decide) rfl (fun ls hl => ?_)
          refine lv_goto (tgt := 9) hx hb dX8_worst_51 (by decide) ?_
          exact ih9 _ _ _ _ _ _ _ hm hT (lv_sub hl [2, 1, 0] rfl)
        · have hm := hm.2 c_22
          refine lv_aload_n hx hb dX8_worst_25 rfl (lv_at hl 0 rfl) ?_
          refine gQW_mod_13 hC hK hT.1 wq_1433 dX8_worst_26 ?_
          refine gNQW_st_2 hC hN hK hT.1 wn_1361 dX8_worst_29 ?_
          refine lv_iload_n hx hb dX8_worst_32 rfl (lv_at hl 2 rfl) ?_
          refine w_iald (q0 := 1) hC hK hT.1 rfl hm.1 dX8_worst_33 ?_
          have hm := hm.2
          refine lv_aload_n hx hb dX8_worst_34 rfl (lv_at hl 0 rfl) ?_
          refine gQW_mod_13 hC hK hT.1 wq_1433 dX8_worst_35 ?_
          refine gNQW_st_2 hC hN hK hT.1 wn_1361 dX8_worst_38 ?_
          refine lv_iload_n hx hb dX8_worst_41 rfl (lv_at hl 1 rfl) ?_
          refine w_iald (q0 := 1) hC hK hT.1 rfl hm.1 dX8_worst_42 ?_
          have hm := hm.2
          refine lv_icmp_ge (tgt := 48) hx hb dX8_worst_43 (by decide) (fun c_43 => ?_) (fun c_43 => ?_)
          · have hm := hm.1 c_43
            obtain ⟨v2_48, ev2_48⟩ : ∃ y : Int32, y = v2 + 1 := ⟨_, rfl⟩
            have hm := hm v2_48 ev2_48
            refine lv_iinc (v := v2_48) (lv' := [(2, .int v2_48), (0, .ref (g 220)), (1, .int v1)]) hx hb dX8_worst_48 hl (k := 2) rfl (by rw [ev2_48]; rfl) (by decide) rfl (fun ls hl => ?_)
            refine lv_goto (tgt := 9) hx hb dX8_worst_51 (by decide) ?_
            exact ih9 _ _ _ _ _ _ _ hm hT (lv_sub hl [1, 2, 0] rfl)
          · have hm := hm.2 c_43
            refine lv_iload_n hx hb dX8_worst_46 rfl (lv_at hl 2 rfl) ?_
            refine lv_istore_n (lv' := [(1, .int v2), (0, .ref (g 220)), (2, .int v2)]) hx hb dX8_worst_47 rfl hl (by decide) rfl (fun ls hl => ?_)
            obtain ⟨v2_48, ev2_48⟩ : ∃ y : Int32, y = v2 + 1 := ⟨_, rfl⟩
            have hm := hm v2_48 ev2_48
            refine lv_iinc (v := v2_48) (lv' := [(2, .int v2_48), (1, .int v2), (0, .ref (g 220))]) hx hb dX8_worst_48 hl (k := 2) rfl (by rw [ev2_48]; rfl) (by decide) rfl (fun ls hl => ?_)
            refine lv_goto (tgt := 9) hx hb dX8_worst_51 (by decide) ?_
            exact ih9 _ _ _ _ _ _ _ hm hT (lv_sub hl [2, 1, 0] rfl)
  refine lv_aload_n hx hb dX8_worst_0 rfl (lv_at hl 0 rfl) ?_
  refine lv_iconst (v := 0) hx hb dX8_worst_1 (by decide) ?_
  refine pQW_mod_0 hC hK hT wq_1419 dX8_worst_2 (fun N_2 eN_2 H locs hT => ?_)
  have hm := hm N_2 eN_2
  refine lv_iconst (v := (-1)) hx hb dX8_worst_5 (by decide) ?_
  refine lv_istore_n (lv' := [(1, .int ((-1))), (0, .ref (g 220))]) hx hb dX8_worst_6 rfl hl (by decide) rfl (fun ls hl => ?_)
  refine lv_iconst (v := 0) hx hb dX8_worst_7 (by decide) ?_
  refine lv_istore_n (lv' := [(2, .int 0), (1, .int ((-1))), (0, .ref (g 220))]) hx hb dX8_worst_8 rfl hl (by decide) rfl (fun ls hl => ?_)
  exact L9 _ _ _ _ _ _ _ _ hm hT (lv_sub hl [2, 1, 0] rfl)
section KX8_worst
variable {p : Program} {l : Launch} {e : Env} {s : State} {m : MethodId} {args : Array Value} {below : List Frame} {meth : Method} {c : Code} {H H0 : Heap} {locs : List Loc} {cells slots : Nat} {Q : State → Prop} {R : Room} {rn mcR msR : Nat}
variable {pc : Nat} {ls : Array Slot} {rest : List Value} {A : Nat → Prop} {D : va_G}
variable {cc : ByteArray} {nL index : Nat} {own host : String}
end KX8_worst
def wp_X8_whistle (P : M2) (S : M2) (N : M2) (x1 : Int32) (K : Int32 → M2 → M2 → Prop) : Prop := (∀ N_2 : M2, N_2 = up2 N 220 (fun _ => 0) → wp_X8_isIn x1 0 1 (fun r_8 => ((¬ r_8 = 0 → (∀ v2_27, v2_27 = S 201 0 → (∀ S_33 : M2, S_33 = up2 S 201 (fun _ => x1) → K v2_27 S_33 N_2))) ∧ (r_8 = 0 → wp_X8_no P S N_2 1 (fun r_16 S_16 N_16 => K r_16 S_16 N_16)))))
set_option maxRecDepth 100000 in
set_option maxHeartbeats 4000000 in
theorem c_X8_whistle (l : Launch) (D : va_G) (Z : Nat → ClassId) (a q g : Nat → Nat) (rg aa : Nat) (P : M2) (S : M2) (N : M2) (sz : Nat) (x1 : Int32) (K : Int32 → M2 → M2 → Prop) (hm : wp_X8_whistle P S N x1 K) : Met l yX8_whistle (wy yX8_whistle cX8_whistle 3 (some .int)) (rk 2 0 0) (pre vwCl D Z (QW Z a q g rg aa P S N) sz [.ref (g 220), .int x1]) (poI vwCl D Z (fun u : M2 × M2 => QW Z a q g rg aa P u.1 u.2) (S, N) sz (fun (r : Int32) (u : M2 × M2) => K r u.1 u.2)) 0 0 (va_A (QW Z a q g rg aa P S N) sz) := by
  refine rw_of (ty := .int) (wsF := (fun u : M2 × M2 => QW Z a q g rg aa P u.1 u.2)) (u0 := (S, N)) (by decide +kernel) (Nat.le_of_ble_eq_true rfl) rfl ?_
  intro p e s m args below meth c Q A hC hN hsz hT hK hret ls hl
  have hx := hC.1
  have hb := hC.2.1
  have hl : lv_has ls 3 [(0, .ref (g 220)), (1, .int x1)] := hl
  have hT : TS vwCl D (QW Z a q g rg aa P S N) A s.heap s.heap [] := hT
  refine lv_aload_n hx hb dX8_whistle_0 rfl (lv_at hl 0 rfl) ?_
  refine lv_iconst (v := 0) hx hb dX8_whistle_1 (by decide) ?_
  refine pQW_mod_0 hC hK hT wq_1419 dX8_whistle_2 (fun N_2 eN_2 H locs hT => ?_)
  have hm := hm N_2 eN_2
  refine lv_iload_n hx hb dX8_whistle_5 rfl (lv_at hl 1 rfl) ?_
  refine lv_iconst (v := 0) hx hb dX8_whistle_6 (by decide) ?_
  refine lv_iconst (v := 1) hx hb dX8_whistle_7 (by decide) ?_
  refine kx_X8_isIn hC hN hK hT.1 hT.D' (sx_EWQW Z a q g rg aa P S N_2) rfl hm wq_1482 (by decide) hl.1 (Nat.le_of_ble_eq_true rfl) ⟨Nat.le_refl _, Nat.le_refl _⟩ dX8_whistle_8 (fun r_8 hm => ?_)
  refine lv_if_ne (tgt := 20) hx hb dX8_whistle_11 (by decide) (fun c_11 => ?_) (fun c_11 => ?_)
  · have hm := hm.1 c_11
    refine lv_aload_n hx hb dX8_whistle_20 rfl (lv_at hl 0 rfl) ?_
    refine gQW_mod_13 hC hK hT.1 wq_1433 dX8_whistle_21 ?_
    refine gNQW_st_1 hC hN hK hT.1 wn_1359 dX8_whistle_24 ?_
    refine lv_topi (fun v2_27 ev2_27 => ?_)
    have hm := hm v2_27 ev2_27
    refine lv_istore_n (lv' := [(2, .int v2_27), (0, .ref (g 220)), (1, .int x1)]) hx hb dX8_whistle_27 rfl hl (by decide) rfl (fun ls hl => ?_)
    refine lv_aload_n hx hb dX8_whistle_28 rfl (lv_at hl 1 rfl) ?_
    refine gQW_mod_13 hC hK hT.1 wq_1433 dX8_whistle_29 ?_
    refine lv_iload_n hx hb dX8_whistle_32 rfl (lv_at hl 2 rfl) ?_
    refine pNQW_st_1 hC hN hK hT wn_1359 dX8_whistle_33 (fun S_33 eS_33 H locs hT => ?_)
    have hm := hm S_33 eS_33
    refine lv_iload_n hx hb dX8_whistle_36 rfl (lv_at hl 0 rfl) ?_
    exact hret 37 _ _ _ _ (S_33, N_2) hm hT rfl dX8_whistle_37
  · have hm := hm.2 c_11
    refine lv_aload_n hx hb dX8_whistle_14 rfl (lv_at hl 0 rfl) ?_
    refine lv_iconst (v := 1) hx hb dX8_whistle_15 (by decide) ?_
    refine k_X8_no hC hN hK hT hm wq_1474 (by decide) hl.1 (Nat.le_of_ble_eq_true rfl) ⟨Nat.le_refl _, Nat.le_refl _⟩ dX8_whistle_16 (fun r_16 S_16 N_16 H locs hm hT => ?_)
    exact hret 19 _ _ _ _ (S_16, N_16) hm hT rfl dX8_whistle_19
section KX8_whistle
variable {p : Program} {l : Launch} {e : Env} {s : State} {m : MethodId} {args : Array Value} {below : List Frame} {meth : Method} {c : Code} {H H0 : Heap} {locs : List Loc} {cells slots : Nat} {Q : State → Prop} {R : Room} {rn mcR msR : Nat}
variable {pc : Nat} {ls : Array Slot} {rest : List Value} {A : Nat → Prop} {D : va_G}
variable {cc : ByteArray} {nL index : Nat} {own host : String}
end KX8_whistle
def wl_X8_air_15 (P : M2) (K : Int32 → M2 → M2 → Prop) : Nat → M2 → M2 → Int32 → Int32 → Prop
  | 0, _, _, _, _ => False
  | n + 1, S, N, v1, v2 => (((P 241 0) ≤ v2 → wp_X7_allAir N P S (fun r_47 => K (r_47 - v1) S N)) ∧ (¬ (P 241 0) ≤ v2 → (inb v2 60 ∧ ∀ S_36 : M2, S_36 = up2 S 202 (upd (S 202) v2.toInt.toNat 100) → (∀ v2_37 : Int32, v2_37 = v2 + 1 → wl_X8_air_15 P K n S_36 N v1 v2_37))))
def wp_X8_air (P : M2) (S : M2) (N : M2) (K : Int32 → M2 → M2 → Prop) : Prop := (∀ N_2 : M2, N_2 = up2 N 220 (fun _ => 0) → wp_X7_allAir N_2 P S (fun r_9 => wl_X8_air_15 P K fK S N_2 r_9 0))
set_option maxRecDepth 100000 in
set_option maxHeartbeats 4000000 in
theorem c_X8_air (l : Launch) (D : va_G) (Z : Nat → ClassId) (a q g : Nat → Nat) (rg aa : Nat) (P : M2) (S : M2) (N : M2) (sz : Nat) (K : Int32 → M2 → M2 → Prop) (hm : wp_X8_air P S N K) : Met l yX8_air (wy yX8_air cX8_air 3 (some .int)) (rk 2 0 0) (pre vwCl D Z (QW Z a q g rg aa P S N) sz [.ref (g 220)]) (poI vwCl D Z (fun u : M2 × M2 => QW Z a q g rg aa P u.1 u.2) (S, N) sz (fun (r : Int32) (u : M2 × M2) => K r u.1 u.2)) 0 0 (va_A (QW Z a q g rg aa P S N) sz) := by
  refine rw_of (ty := .int) (wsF := (fun u : M2 × M2 => QW Z a q g rg aa P u.1 u.2)) (u0 := (S, N)) (by decide +kernel) (Nat.le_of_ble_eq_true rfl) rfl ?_
  intro p e s m args below meth c Q A hC hN hsz hT hK hret ls hl
  have hx := hC.1
  have hb := hC.2.1
  have hl : lv_has ls 3 [(0, .ref (g 220))] := hl
  have hT : TS vwCl D (QW Z a q g rg aa P S N) A s.heap s.heap [] := hT
  have L15 : ∀ (n15 : Nat), ∀ (S : M2) (N : M2) (v1 : Int32) (v2 : Int32) (H : Heap) (locs : List Loc) (ls : Array Slot), wl_X8_air_15 P K n15 S N v1 v2 → TS vwCl D (QW Z a q g rg aa P S N) A s.heap H locs → lv_has ls 3 [(0, .ref (g 220)), (1, .int v1), (2, .int v2)] → W p l e (rk 2 0 0) s m args below meth c H locs 0 0 Q (F0 m 15 ls []) := by
    intro n15
    induction n15 with
    | zero =>
      intro S N v1 v2 H locs ls hm hT hl
      exact False.elim hm
    | succ n15 ih15 =>
      intro S N v1 v2 H locs ls hm hT hl
      refine lv_iload_n hx hb dX8_air_15 rfl (lv_at hl 2 rfl) ?_
      refine lv_aload_n hx hb dX8_air_16 rfl (lv_at hl 0 rfl) ?_
      refine gQW_mod_11 hC hK hT.1 wq_1430 dX8_air_17 ?_
      refine gNQW_plan_1 hC hN hK hT.1 wn_1232 dX8_air_20 ?_
      refine lv_icmp_ge (tgt := 43) hx hb dX8_air_23 (by decide) (fun c_23 => ?_) (fun c_23 => ?_)
      · have hm := hm.1 c_23
        refine lv_aload_n hx hb dX8_air_43 rfl (lv_at hl 0 rfl) ?_
        refine gQW_mod_13 hC hK hT.1 wq_1433 dX8_air_44 ?_
        refine kx_X7_allAir hC hN hK hT.1 hT.D' (sx_SWQW Z a q g rg aa P S N) rfl hm wq_1862 (by decide) hl.1 (Nat.le_of_ble_eq_true rfl) ⟨Nat.le_refl _, Nat.le_refl _⟩ dX8_air_47 (fun r_47 hm => ?_)
        refine lv_iload_n hx hb dX8_air_50 rfl (lv_at hl 1 rfl) ?_
        refine lv_isub hx hb dX8_air_51 ?_
        exact hret 52 _ _ _ _ (S, N) hm hT rfl dX8_air_52
      · have hm := hm.2 c_23
        refine lv_aload_n hx hb dX8_air_26 rfl (lv_at hl 0 rfl) ?_
        refine gQW_mod_13 hC hK hT.1 wq_1433 dX8_air_27 ?_
        refine gNQW_st_2 hC hN hK hT.1 wn_1361 dX8_air_30 ?_
        refine lv_iload_n hx hb dX8_air_33 rfl (lv_at hl 2 rfl) ?_
        refine lv_bipush (v := 100) hx hb dX8_air_34 (by decide) ?_
        refine sQW_air hC hK hT hm.1 dX8_air_36 (fun S_36 eS_36 H locs hT => ?_)
        have hm := hm.2 S_36 eS_36
        obtain ⟨v2_37, ev2_37⟩ : ∃ y : Int32, y = v2 + 1 := ⟨_, rfl⟩
        have hm := hm v2_37 ev2_37
        refine lv_iinc (v := v2_37) (lv' := [(2, .int v2_37), (0, .ref (g 220)), (1, .int v1)]) hx hb dX8_air_37 hl (k := 2) rfl (by rw [ev2_37]; rfl) (by decide) rfl (fun ls hl => ?_)
        refine lv_goto (tgt := 15) hx hb dX8_air_40 (by decide) ?_
        exact ih15 _ _ _ _ _ _ _ hm hT (lv_sub hl [1, 2, 0] rfl)
  refine lv_aload_n hx hb dX8_air_0 rfl (lv_at hl 0 rfl) ?_
  refine lv_iconst (v := 0) hx hb dX8_air_1 (by decide) ?_
  refine pQW_mod_0 hC hK hT wq_1419 dX8_air_2 (fun N_2 eN_2 H locs hT => ?_)
  have hm := hm N_2 eN_2
  refine lv_aload_n hx hb dX8_air_5 rfl (lv_at hl 0 rfl) ?_
  refine gQW_mod_13 hC hK hT.1 wq_1433 dX8_air_6 ?_
  refine kx_X7_allAir hC hN hK hT.1 hT.D' (sx_SWQW Z a q g rg aa P S N_2) rfl hm wq_1862 (by decide) hl.1 (Nat.le_of_ble_eq_true rfl) ⟨Nat.le_refl _, Nat.le_refl _⟩ dX8_air_9 (fun r_9 hm => ?_)
  refine lv_istore_n (lv' := [(1, .int r_9), (0, .ref (g 220))]) hx hb dX8_air_12 rfl hl (by decide) rfl (fun ls hl => ?_)
  refine lv_iconst (v := 0) hx hb dX8_air_13 (by decide) ?_
  refine lv_istore_n (lv' := [(2, .int 0), (1, .int r_9), (0, .ref (g 220))]) hx hb dX8_air_14 rfl hl (by decide) rfl (fun ls hl => ?_)
  exact L15 _ _ _ _ _ _ _ _ hm hT (lv_sub hl [2, 1, 0] rfl)
section KX8_air
variable {p : Program} {l : Launch} {e : Env} {s : State} {m : MethodId} {args : Array Value} {below : List Frame} {meth : Method} {c : Code} {H H0 : Heap} {locs : List Loc} {cells slots : Nat} {Q : State → Prop} {R : Room} {rn mcR msR : Nat}
variable {pc : Nat} {ls : Array Slot} {rest : List Value} {A : Nat → Prop} {D : va_G}
variable {cc : ByteArray} {nL index : Nat} {own host : String}
end KX8_air
def wp_X8_cap (P : M2) (S : M2) (N : M2) (x1 : Int32) (K : Int32 → M2 → M2 → Prop) : Prop := (∀ N_2 : M2, N_2 = up2 N 220 (fun _ => 0) → wp_X8_isLegger P S N_2 x1 (fun r_7 => ((¬ r_7 = 0 → (inb x1 6 ∧ (∀ v2_28, v2_28 = S 204 x1.toInt.toNat → (inb x1 6 ∧ ∀ S_38 : M2, S_38 = up2 S 204 (upd (S 204) x1.toInt.toNat ((-1))) → K v2_28 S_38 N_2)))) ∧ (r_7 = 0 → wp_X8_no P S N_2 1 (fun r_15 S_15 N_15 => K r_15 S_15 N_15)))))
set_option maxRecDepth 100000 in
set_option maxHeartbeats 4000000 in
theorem c_X8_cap (l : Launch) (D : va_G) (Z : Nat → ClassId) (a q g : Nat → Nat) (rg aa : Nat) (P : M2) (S : M2) (N : M2) (sz : Nat) (x1 : Int32) (K : Int32 → M2 → M2 → Prop) (hm : wp_X8_cap P S N x1 K) : Met l yX8_cap (wy yX8_cap cX8_cap 3 (some .int)) (rk 3 0 0) (pre vwCl D Z (QW Z a q g rg aa P S N) sz [.ref (g 220), .int x1]) (poI vwCl D Z (fun u : M2 × M2 => QW Z a q g rg aa P u.1 u.2) (S, N) sz (fun (r : Int32) (u : M2 × M2) => K r u.1 u.2)) 0 0 (va_A (QW Z a q g rg aa P S N) sz) := by
  refine rw_of (ty := .int) (wsF := (fun u : M2 × M2 => QW Z a q g rg aa P u.1 u.2)) (u0 := (S, N)) (by decide +kernel) (Nat.le_of_ble_eq_true rfl) rfl ?_
  intro p e s m args below meth c Q A hC hN hsz hT hK hret ls hl
  have hx := hC.1
  have hb := hC.2.1
  have hl : lv_has ls 3 [(0, .ref (g 220)), (1, .int x1)] := hl
  have hT : TS vwCl D (QW Z a q g rg aa P S N) A s.heap s.heap [] := hT
  refine lv_aload_n hx hb dX8_cap_0 rfl (lv_at hl 0 rfl) ?_
  refine lv_iconst (v := 0) hx hb dX8_cap_1 (by decide) ?_
  refine pQW_mod_0 hC hK hT wq_1419 dX8_cap_2 (fun N_2 eN_2 H locs hT => ?_)
  have hm := hm N_2 eN_2
  refine lv_aload_n hx hb dX8_cap_5 rfl (lv_at hl 0 rfl) ?_
  refine lv_iload_n hx hb dX8_cap_6 rfl (lv_at hl 1 rfl) ?_
  refine k_X8_isLegger hC hN hK hT.1 hT.D' hm wq_1773 (by decide) hl.1 (Nat.le_of_ble_eq_true rfl) ⟨Nat.le_refl _, Nat.le_refl _⟩ dX8_cap_7 (fun r_7 hm => ?_)
  refine lv_if_ne (tgt := 19) hx hb dX8_cap_10 (by decide) (fun c_10 => ?_) (fun c_10 => ?_)
  · have hm := hm.1 c_10
    refine lv_aload_n hx hb dX8_cap_19 rfl (lv_at hl 0 rfl) ?_
    refine gQW_mod_13 hC hK hT.1 wq_1433 dX8_cap_20 ?_
    refine gNQW_st_4 hC hN hK hT.1 wn_1365 dX8_cap_23 ?_
    refine lv_iload_n hx hb dX8_cap_26 rfl (lv_at hl 1 rfl) ?_
    refine w_iald (q0 := 3) hC hK hT.1 rfl hm.1 dX8_cap_27 ?_
    have hm := hm.2
    refine lv_topi (fun v2_28 ev2_28 => ?_)
    have hm := hm v2_28 ev2_28
    refine lv_istore_n (lv' := [(2, .int v2_28), (0, .ref (g 220)), (1, .int x1)]) hx hb dX8_cap_28 rfl hl (by decide) rfl (fun ls hl => ?_)
    refine lv_aload_n hx hb dX8_cap_29 rfl (lv_at hl 1 rfl) ?_
    refine gQW_mod_13 hC hK hT.1 wq_1433 dX8_cap_30 ?_
    refine gNQW_st_4 hC hN hK hT.1 wn_1365 dX8_cap_33 ?_
    refine lv_iload_n hx hb dX8_cap_36 rfl (lv_at hl 2 rfl) ?_
    refine lv_iconst (v := (-1)) hx hb dX8_cap_37 (by decide) ?_
    refine sQW_capAt hC hK hT hm.1 dX8_cap_38 (fun S_38 eS_38 H locs hT => ?_)
    have hm := hm.2 S_38 eS_38
    refine lv_iload_n hx hb dX8_cap_39 rfl (lv_at hl 0 rfl) ?_
    exact hret 40 _ _ _ _ (S_38, N_2) hm hT rfl dX8_cap_40
  · have hm := hm.2 c_10
    refine lv_aload_n hx hb dX8_cap_13 rfl (lv_at hl 0 rfl) ?_
    refine lv_iconst (v := 1) hx hb dX8_cap_14 (by decide) ?_
    refine k_X8_no hC hN hK hT hm wq_1474 (by decide) hl.1 (Nat.le_of_ble_eq_true rfl) ⟨Nat.le_refl _, Nat.le_refl _⟩ dX8_cap_15 (fun r_15 S_15 N_15 H locs hm hT => ?_)
    exact hret 18 _ _ _ _ (S_15, N_15) hm hT rfl dX8_cap_18
section KX8_cap
variable {p : Program} {l : Launch} {e : Env} {s : State} {m : MethodId} {args : Array Value} {below : List Frame} {meth : Method} {c : Code} {H H0 : Heap} {locs : List Loc} {cells slots : Nat} {Q : State → Prop} {R : Room} {rn mcR msR : Nat}
variable {pc : Nat} {ls : Array Slot} {rest : List Value} {A : Nat → Prop} {D : va_G}
variable {cc : ByteArray} {nL index : Nat} {own host : String}
end KX8_cap
def wp_X8_again (P : M2) (S : M2) (N : M2) (x1 : Int32) (x2 : Int32) (K : Int32 → M2 → M2 → Prop) : Prop := (∀ N_2 : M2, N_2 = up2 N 220 (fun _ => 0) → wp_X8_isBoat P S N_2 x1 (fun r_7 => ((¬ r_7 = 0 → wp_X8_isIn x2 0 9999 (fun r_24 => ((¬ r_24 = 0 → (inb x1 8 ∧ (((S 206 x1.toInt.toNat) = 2 → (inb x1 8 ∧ ∀ S_64 : M2, S_64 = up2 S 206 (upd (S 206) x1.toInt.toNat 0) → (inb x1 8 ∧ (inb x1 8 ∧ ∀ S_84 : M2, S_84 = up2 S_64 207 (upd (S_64 207) x1.toInt.toNat (1 - (S_64 207 x1.toInt.toNat))) → (inb x1 8 ∧ ∀ S_94 : M2, S_94 = up2 S_84 208 (upd (S_84 208) x1.toInt.toNat x2) → (inb x1 8 ∧ ∀ S_104 : M2, S_104 = up2 S_94 211 (upd (S_94 211) x1.toInt.toNat ((-1))) → (inb x1 8 ∧ K (S_104 207 x1.toInt.toNat) S_104 N_2))))))) ∧ (¬ (S 206 x1.toInt.toNat) = 2 → wp_X8_no P S N_2 3 (fun r_51 S_51 N_51 => K r_51 S_51 N_51))))) ∧ (r_24 = 0 → wp_X8_no P S N_2 2 (fun r_32 S_32 N_32 => K r_32 S_32 N_32))))) ∧ (r_7 = 0 → wp_X8_no P S N_2 1 (fun r_15 S_15 N_15 => K r_15 S_15 N_15)))))
set_option maxRecDepth 100000 in
set_option maxHeartbeats 4000000 in
theorem c_X8_again (l : Launch) (D : va_G) (Z : Nat → ClassId) (a q g : Nat → Nat) (rg aa : Nat) (P : M2) (S : M2) (N : M2) (sz : Nat) (x1 : Int32) (x2 : Int32) (K : Int32 → M2 → M2 → Prop) (hm : wp_X8_again P S N x1 x2 K) : Met l yX8_again (wy yX8_again cX8_again 3 (some .int)) (rk 3 0 0) (pre vwCl D Z (QW Z a q g rg aa P S N) sz [.ref (g 220), .int x1, .int x2]) (poI vwCl D Z (fun u : M2 × M2 => QW Z a q g rg aa P u.1 u.2) (S, N) sz (fun (r : Int32) (u : M2 × M2) => K r u.1 u.2)) 0 0 (va_A (QW Z a q g rg aa P S N) sz) := by
  refine rw_of (ty := .int) (wsF := (fun u : M2 × M2 => QW Z a q g rg aa P u.1 u.2)) (u0 := (S, N)) (by decide +kernel) (Nat.le_of_ble_eq_true rfl) rfl ?_
  intro p e s m args below meth c Q A hC hN hsz hT hK hret ls hl
  have hx := hC.1
  have hb := hC.2.1
  have hl : lv_has ls 3 [(0, .ref (g 220)), (1, .int x1), (2, .int x2)] := hl
  have hT : TS vwCl D (QW Z a q g rg aa P S N) A s.heap s.heap [] := hT
  refine lv_aload_n hx hb dX8_again_0 rfl (lv_at hl 0 rfl) ?_
  refine lv_iconst (v := 0) hx hb dX8_again_1 (by decide) ?_
  refine pQW_mod_0 hC hK hT wq_1419 dX8_again_2 (fun N_2 eN_2 H locs hT => ?_)
  have hm := hm N_2 eN_2
  refine lv_aload_n hx hb dX8_again_5 rfl (lv_at hl 0 rfl) ?_
  refine lv_iload_n hx hb dX8_again_6 rfl (lv_at hl 1 rfl) ?_
  refine k_X8_isBoat hC hN hK hT.1 hT.D' hm wq_1789 (by decide) hl.1 (Nat.le_of_ble_eq_true rfl) ⟨Nat.le_refl _, Nat.le_refl _⟩ dX8_again_7 (fun r_7 hm => ?_)
  refine lv_if_ne (tgt := 19) hx hb dX8_again_10 (by decide) (fun c_10 => ?_) (fun c_10 => ?_)
  · have hm := hm.1 c_10
    refine lv_iload_n hx hb dX8_again_19 rfl (lv_at hl 2 rfl) ?_
    refine lv_iconst (v := 0) hx hb dX8_again_20 (by decide) ?_
    refine lv_sipush (v := 9999) hx hb dX8_again_21 (by decide) ?_
    refine kx_X8_isIn hC hN hK hT.1 hT.D' (sx_EWQW Z a q g rg aa P S N_2) rfl hm wq_1482 (by decide) hl.1 (Nat.le_of_ble_eq_true rfl) ⟨Nat.le_refl _, Nat.le_refl _⟩ dX8_again_24 (fun r_24 hm => ?_)
    refine lv_if_ne (tgt := 36) hx hb dX8_again_27 (by decide) (fun c_27 => ?_) (fun c_27 => ?_)
    · have hm := hm.1 c_27
      refine lv_aload_n hx hb dX8_again_36 rfl (lv_at hl 0 rfl) ?_
      refine gQW_mod_13 hC hK hT.1 wq_1433 dX8_again_37 ?_
      refine gNQW_st_6 hC hN hK hT.1 wn_1369 dX8_again_40 ?_
      refine lv_iload_n hx hb dX8_again_43 rfl (lv_at hl 1 rfl) ?_
      refine w_iald (q0 := 5) hC hK hT.1 rfl hm.1 dX8_again_44 ?_
      have hm := hm.2
      refine lv_iconst (v := 2) hx hb dX8_again_45 (by decide) ?_
      refine lv_icmp_eq (tgt := 55) hx hb dX8_again_46 (by decide) (fun c_46 => ?_) (fun c_46 => ?_)
      · have hm := hm.1 c_46
        refine lv_aload_n hx hb dX8_again_55 rfl (lv_at hl 0 rfl) ?_
        refine gQW_mod_13 hC hK hT.1 wq_1433 dX8_again_56 ?_
        refine gNQW_st_6 hC hN hK hT.1 wn_1369 dX8_again_59 ?_
        refine lv_iload_n hx hb dX8_again_62 rfl (lv_at hl 1 rfl) ?_
        refine lv_iconst (v := 0) hx hb dX8_again_63 (by decide) ?_
        refine sQW_is hC hK hT hm.1 dX8_again_64 (fun S_64 eS_64 H locs hT => ?_)
        have hm := hm.2 S_64 eS_64
        refine lv_aload_n hx hb dX8_again_65 rfl (lv_at hl 0 rfl) ?_
        refine gQW_mod_13 hC hK hT.1 wq_1433 dX8_again_66 ?_
        refine gNQW_st_7 hC hN hK hT.1 wn_1371 dX8_again_69 ?_
        refine lv_iload_n hx hb dX8_again_72 rfl (lv_at hl 1 rfl) ?_
        refine lv_iconst (v := 1) hx hb dX8_again_73 (by decide) ?_
        refine lv_aload_n hx hb dX8_again_74 rfl (lv_at hl 0 rfl) ?_
        refine gQW_mod_13 hC hK hT.1 wq_1433 dX8_again_75 ?_
        refine gNQW_st_7 hC hN hK hT.1 wn_1371 dX8_again_78 ?_
        refine lv_iload_n hx hb dX8_again_81 rfl (lv_at hl 1 rfl) ?_
        refine w_iald (q0 := 6) hC hK hT.1 rfl hm.1 dX8_again_82 ?_
        have hm := hm.2
        refine lv_isub hx hb dX8_again_83 ?_
        refine sQW_end hC hK hT hm.1 dX8_again_84 (fun S_84 eS_84 H locs hT => ?_)
        have hm := hm.2 S_84 eS_84
        refine lv_aload_n hx hb dX8_again_85 rfl (lv_at hl 0 rfl) ?_
        refine gQW_mod_13 hC hK hT.1 wq_1433 dX8_again_86 ?_
        refine gNQW_st_8 hC hN hK hT.1 wn_1373 dX8_again_89 ?_
        refine lv_iload_n hx hb dX8_again_92 rfl (lv_at hl 1 rfl) ?_
        refine lv_iload_n hx hb dX8_again_93 rfl (lv_at hl 2 rfl) ?_
        refine sQW_due hC hK hT hm.1 dX8_again_94 (fun S_94 eS_94 H locs hT => ?_)
        have hm := hm.2 S_94 eS_94
        refine lv_aload_n hx hb dX8_again_95 rfl (lv_at hl 0 rfl) ?_
        refine gQW_mod_13 hC hK hT.1 wq_1433 dX8_again_96 ?_
        refine gNQW_st_11 hC hN hK hT.1 wn_1379 dX8_again_99 ?_
        refine lv_iload_n hx hb dX8_again_102 rfl (lv_at hl 1 rfl) ?_
        refine lv_iconst (v := (-1)) hx hb dX8_again_103 (by decide) ?_
        refine sQW_out hC hK hT hm.1 dX8_again_104 (fun S_104 eS_104 H locs hT => ?_)
        have hm := hm.2 S_104 eS_104
        refine lv_aload_n hx hb dX8_again_105 rfl (lv_at hl 0 rfl) ?_
        refine gQW_mod_13 hC hK hT.1 wq_1433 dX8_again_106 ?_
        refine gNQW_st_7 hC hN hK hT.1 wn_1371 dX8_again_109 ?_
        refine lv_iload_n hx hb dX8_again_112 rfl (lv_at hl 1 rfl) ?_
        refine w_iald (q0 := 6) hC hK hT.1 rfl hm.1 dX8_again_113 ?_
        have hm := hm.2
        exact hret 114 _ _ _ _ (S_104, N_2) hm hT rfl dX8_again_114
      · have hm := hm.2 c_46
        refine lv_aload_n hx hb dX8_again_49 rfl (lv_at hl 0 rfl) ?_
        refine lv_iconst (v := 3) hx hb dX8_again_50 (by decide) ?_
        refine k_X8_no hC hN hK hT hm wq_1474 (by decide) hl.1 (Nat.le_of_ble_eq_true rfl) ⟨Nat.le_refl _, Nat.le_refl _⟩ dX8_again_51 (fun r_51 S_51 N_51 H locs hm hT => ?_)
        exact hret 54 _ _ _ _ (S_51, N_51) hm hT rfl dX8_again_54
    · have hm := hm.2 c_27
      refine lv_aload_n hx hb dX8_again_30 rfl (lv_at hl 0 rfl) ?_
      refine lv_iconst (v := 2) hx hb dX8_again_31 (by decide) ?_
      refine k_X8_no hC hN hK hT hm wq_1474 (by decide) hl.1 (Nat.le_of_ble_eq_true rfl) ⟨Nat.le_refl _, Nat.le_refl _⟩ dX8_again_32 (fun r_32 S_32 N_32 H locs hm hT => ?_)
      exact hret 35 _ _ _ _ (S_32, N_32) hm hT rfl dX8_again_35
  · have hm := hm.2 c_10
    refine lv_aload_n hx hb dX8_again_13 rfl (lv_at hl 0 rfl) ?_
    refine lv_iconst (v := 1) hx hb dX8_again_14 (by decide) ?_
    refine k_X8_no hC hN hK hT hm wq_1474 (by decide) hl.1 (Nat.le_of_ble_eq_true rfl) ⟨Nat.le_refl _, Nat.le_refl _⟩ dX8_again_15 (fun r_15 S_15 N_15 H locs hm hT => ?_)
    exact hret 18 _ _ _ _ (S_15, N_15) hm hT rfl dX8_again_18
section KX8_again
variable {p : Program} {l : Launch} {e : Env} {s : State} {m : MethodId} {args : Array Value} {below : List Frame} {meth : Method} {c : Code} {H H0 : Heap} {locs : List Loc} {cells slots : Nat} {Q : State → Prop} {R : Room} {rn mcR msR : Nat}
variable {pc : Nat} {ls : Array Slot} {rest : List Value} {A : Nat → Prop} {D : va_G}
variable {cc : ByteArray} {nL index : Nat} {own host : String}
end KX8_again
def wp_X8_pass (P : M2) (S : M2) (N : M2) (x1 : Int32) (K : Int32 → M2 → M2 → Prop) : Prop := (∀ N_2 : M2, N_2 = up2 N 220 (fun _ => 0) → wp_X8_isIn x1 1 120 (fun r_9 => ((¬ r_9 = 0 → wp_X7_those N_2 P S 2 (fun r_26 => wp_X7_pass_ N_2 P S x1 (fun S_35 => wp_X7_those N_2 P S_35 2 (fun r_39 => K (r_39 - r_26) S_35 N_2)))) ∧ (r_9 = 0 → wp_X8_no P S N_2 1 (fun r_17 S_17 N_17 => K r_17 S_17 N_17)))))
set_option maxRecDepth 100000 in
set_option maxHeartbeats 4000000 in
theorem c_X8_pass (l : Launch) (D : va_G) (Z : Nat → ClassId) (a q g : Nat → Nat) (rg aa : Nat) (P : M2) (S : M2) (N : M2) (sz : Nat) (x1 : Int32) (K : Int32 → M2 → M2 → Prop) (hm : wp_X8_pass P S N x1 K) : Met l yX8_pass (wy yX8_pass cX8_pass 3 (some .int)) (rk 11 0 0) (pre vwCl D Z (QW Z a q g rg aa P S N) sz [.ref (g 220), .int x1]) (poI vwCl D Z (fun u : M2 × M2 => QW Z a q g rg aa P u.1 u.2) (S, N) sz (fun (r : Int32) (u : M2 × M2) => K r u.1 u.2)) 0 0 (va_A (QW Z a q g rg aa P S N) sz) := by
  refine rw_of (ty := .int) (wsF := (fun u : M2 × M2 => QW Z a q g rg aa P u.1 u.2)) (u0 := (S, N)) (by decide +kernel) (Nat.le_of_ble_eq_true rfl) rfl ?_
  intro p e s m args below meth c Q A hC hN hsz hT hK hret ls hl
  have hx := hC.1
  have hb := hC.2.1
  have hl : lv_has ls 3 [(0, .ref (g 220)), (1, .int x1)] := hl
  have hT : TS vwCl D (QW Z a q g rg aa P S N) A s.heap s.heap [] := hT
  refine lv_aload_n hx hb dX8_pass_0 rfl (lv_at hl 0 rfl) ?_
  refine lv_iconst (v := 0) hx hb dX8_pass_1 (by decide) ?_
  refine pQW_mod_0 hC hK hT wq_1419 dX8_pass_2 (fun N_2 eN_2 H locs hT => ?_)
  have hm := hm N_2 eN_2
  refine lv_iload_n hx hb dX8_pass_5 rfl (lv_at hl 1 rfl) ?_
  refine lv_iconst (v := 1) hx hb dX8_pass_6 (by decide) ?_
  refine lv_bipush (v := 120) hx hb dX8_pass_7 (by decide) ?_
  refine kx_X8_isIn hC hN hK hT.1 hT.D' (sx_EWQW Z a q g rg aa P S N_2) rfl hm wq_1482 (by decide) hl.1 (Nat.le_of_ble_eq_true rfl) ⟨Nat.le_refl _, Nat.le_refl _⟩ dX8_pass_9 (fun r_9 hm => ?_)
  refine lv_if_ne (tgt := 21) hx hb dX8_pass_12 (by decide) (fun c_12 => ?_) (fun c_12 => ?_)
  · have hm := hm.1 c_12
    refine lv_aload_n hx hb dX8_pass_21 rfl (lv_at hl 0 rfl) ?_
    refine gQW_mod_13 hC hK hT.1 wq_1433 dX8_pass_22 ?_
    refine lv_iconst (v := 2) hx hb dX8_pass_25 (by decide) ?_
    refine kx_X7_those hC hN hK hT.1 hT.D' (sx_SWQW Z a q g rg aa P S N_2) rfl hm wq_1875 (by decide) hl.1 (Nat.le_of_ble_eq_true rfl) ⟨Nat.le_refl _, Nat.le_refl _⟩ dX8_pass_26 (fun r_26 hm => ?_)
    refine lv_istore_n (lv' := [(2, .int r_26), (0, .ref (g 220)), (1, .int x1)]) hx hb dX8_pass_29 rfl hl (by decide) rfl (fun ls hl => ?_)
    refine lv_aload_n hx hb dX8_pass_30 rfl (lv_at hl 1 rfl) ?_
    refine gQW_mod_13 hC hK hT.1 wq_1433 dX8_pass_31 ?_
    refine lv_iload_n hx hb dX8_pass_34 rfl (lv_at hl 2 rfl) ?_
    refine kx_X7_pass_ hC hN hK hT (cx_SWQW Z a q g rg aa P S N_2) rfl hm wq_1876 (by decide) hl.1 (Nat.le_of_ble_eq_true rfl) ⟨Nat.le_refl _, Nat.le_refl _⟩ dX8_pass_35 (fun S_35 H locs hm hT => ?_)
    have hT : TS vwCl D (QW Z a q g rg aa P S_35 N_2) A s.heap H locs := hT
    refine lv_iconst (v := 2) hx hb dX8_pass_38 (by decide) ?_
    refine kx_X7_those hC hN hK hT.1 hT.D' (sx_SWQW Z a q g rg aa P S_35 N_2) rfl hm wq_1875 (by decide) hl.1 (Nat.le_of_ble_eq_true rfl) ⟨Nat.le_refl _, Nat.le_refl _⟩ dX8_pass_39 (fun r_39 hm => ?_)
    refine lv_iload_n hx hb dX8_pass_42 rfl (lv_at hl 0 rfl) ?_
    refine lv_isub hx hb dX8_pass_43 ?_
    exact hret 44 _ _ _ _ (S_35, N_2) hm hT rfl dX8_pass_44
  · have hm := hm.2 c_12
    refine lv_aload_n hx hb dX8_pass_15 rfl (lv_at hl 0 rfl) ?_
    refine lv_iconst (v := 1) hx hb dX8_pass_16 (by decide) ?_
    refine k_X8_no hC hN hK hT hm wq_1474 (by decide) hl.1 (Nat.le_of_ble_eq_true rfl) ⟨Nat.le_refl _, Nat.le_refl _⟩ dX8_pass_17 (fun r_17 S_17 N_17 H locs hm hT => ?_)
    exact hret 20 _ _ _ _ (S_17, N_17) hm hT rfl dX8_pass_20
section KX8_pass
variable {p : Program} {l : Launch} {e : Env} {s : State} {m : MethodId} {args : Array Value} {below : List Frame} {meth : Method} {c : Code} {H H0 : Heap} {locs : List Loc} {cells slots : Nat} {Q : State → Prop} {R : Room} {rn mcR msR : Nat}
variable {pc : Nat} {ls : Array Slot} {rest : List Value} {A : Nat → Prop} {D : va_G}
variable {cc : ByteArray} {nL index : Nat} {own host : String}
end KX8_pass
