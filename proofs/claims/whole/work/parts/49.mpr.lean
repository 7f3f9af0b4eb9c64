theorem wq_1515 : Cond.fieldLink RX8 112 RX8 "WORDS" "[Ljava/lang/String;" ∈ lw_g := lw_g_mk (tb_6 (List.mem_of_getElem? (i := 191) rfl)) rfl
theorem wq_1517 : Cond.methodLink RX8 116 yJ0_length_8abf5 ∈ lw_g := lw_g_mk (tb_6 (List.mem_of_getElem? (i := 193) rfl)) rfl
theorem wq_1518 : Cond.methodLink RX8 120 yJ0_charAt_5068e ∈ lw_g := lw_g_mk (tb_6 (List.mem_of_getElem? (i := 194) rfl)) rfl
theorem wq_1497 : Cond.methodLink RX8 92 yX8_byteOf ∈ lw_g := lw_g_mk (tb_6 (List.mem_of_getElem? (i := 173) rfl)) rfl
theorem wq_1505 : Cond.methodLink RX8 96 yX8_isLetter ∈ lw_g := lw_g_mk (tb_6 (List.mem_of_getElem? (i := 181) rfl)) rfl
theorem wq_1508 : Cond.methodLink RX8 99 yX8_isDigit ∈ lw_g := lw_g_mk (tb_6 (List.mem_of_getElem? (i := 184) rfl)) rfl
theorem wq_1520 : Cond.methodLink RX8 107 yJ0_indexOf_0f7a4 ∈ lw_g := lw_g_mk (tb_6 (List.mem_of_getElem? (i := 196) rfl)) rfl
theorem wq_1511 : Cond.methodLink RX8 102 yX8_word ∈ lw_g := lw_g_mk (tb_6 (List.mem_of_getElem? (i := 187) rfl)) rfl
theorem wq_1501 : Cond.methodLink RX8 124 yX8_kindAt ∈ lw_g := lw_g_mk (tb_6 (List.mem_of_getElem? (i := 177) rfl)) rfl
theorem wq_1514 : Cond.code yX8_word cX8_word 6 (some .int) ∈ lw_g := lw_g_mk (tb_6 (List.mem_of_getElem? (i := 190) rfl)) rfl
theorem wq_1504 : Cond.code yX8_kindAt cX8_kindAt 6 (some .int) ∈ lw_g := lw_g_mk (tb_6 (List.mem_of_getElem? (i := 180) rfl)) rfl
theorem wq_1496 : Cond.code yX8_cut cX8_cut 3 none ∈ lw_g := lw_g_mk (tb_6 (List.mem_of_getElem? (i := 172) rfl)) rfl
theorem wq_1513 : Cond.instanceMethod yX8_word ∈ lw_g := lw_g_mk (tb_6 (List.mem_of_getElem? (i := 189) rfl)) rfl
theorem wq_67 : Cond.selects RX8 yX8_word yX8_word ∈ lw_g := lw_g_mk (tb_0 (List.mem_of_getElem? (i := 67) rfl)) rfl
theorem wq_1503 : Cond.instanceMethod yX8_kindAt ∈ lw_g := lw_g_mk (tb_6 (List.mem_of_getElem? (i := 179) rfl)) rfl
theorem wq_66 : Cond.selects RX8 yX8_kindAt yX8_kindAt ∈ lw_g := lw_g_mk (tb_0 (List.mem_of_getElem? (i := 66) rfl)) rfl
theorem wq_1506 : Cond.static yX8_isLetter ∈ lw_g := lw_g_mk (tb_6 (List.mem_of_getElem? (i := 182) rfl)) rfl
theorem wq_1509 : Cond.static yX8_isDigit ∈ lw_g := lw_g_mk (tb_6 (List.mem_of_getElem? (i := 185) rfl)) rfl
theorem wq_1499 : Cond.instanceMethod yX8_byteOf ∈ lw_g := lw_g_mk (tb_6 (List.mem_of_getElem? (i := 175) rfl)) rfl
theorem wq_65 : Cond.selects RX8 yX8_byteOf yX8_byteOf ∈ lw_g := lw_g_mk (tb_0 (List.mem_of_getElem? (i := 65) rfl)) rfl
def MPR (Z : Nat → ClassId) (q g rx : Nat → Nat) (pl sa aa : Nat) (N : M2) (P : M2) : va_W := [(g 220, .inr (8, [.int (N 220 0), .ref (g 221), .int (N 222 0), .int (N 223 0), .ref (g 224), .ref (g 225), .ref (g 226), .ref (g 227), .ref (g 228), .int (N 229 0), .int (N 230 0), .ref pl, .ref (q 240), .ref sa, .ref aa])), (g 221, .inl (Z 0, 2000, .inl (N 221))), (g 224, .inl (Z 0, 401, .inl (N 224))), (g 225, .inl (Z 0, 401, .inl (N 225))), (g 226, .inl (Z 0, 401, .inl (N 226))), (g 227, .inl (Z 0, 401, .inl (N 227))), (g 228, .inl (Z 0, 401, .inl (N 228))), (q 240, .inr (6, [.int (P 240 0), .int (P 241 0), .ref (q 242), .ref (q 243), .ref (q 244), .ref (q 245), .int (P 246 0), .ref (q 247), .ref (q 248), .int (P 249 0), .ref (q 250), .ref (q 251), .int (P 252 0), .ref (q 253), .ref (q 254), .ref (q 255), .ref (q 256), .int (P 257 0), .int (P 258 0), .ref (q 259), .ref (q 260), .ref (q 261), .ref (q 262), .ref (q 263), .int (P 264 0), .ref (q 265), .int (P 266 0)])), (q 242, .inl (Z 0, 5, .inl (P 242))), (q 243, .inl (Z 0, 5, .inl (P 243))), (q 244, .inl (Z 0, 5, .inl (P 244))), (q 245, .inl (Z 0, 60, .inl (P 245))), (q 247, .inl (Z 0, 4, .inl (P 247))), (q 248, .inl (Z 0, 4, .inl (P 248))), (q 250, .inl (Z 0, 6, .inl (P 250))), (q 251, .inl (Z 0, 6, .inl (P 251))), (q 253, .inl (Z 0, 8, .inl (P 253))), (q 254, .inl (Z 0, 8, .inl (P 254))), (q 255, .inl (Z 0, 8, .inl (P 255))), (q 256, .inl (Z 3, 8, .inr (.inr (.inr (.inr (fun j => if j < 8 then some (q (310 + j)) else none)))))), (q 259, .inl (Z 0, 16, .inl (P 259))), (q 260, .inl (Z 0, 16, .inl (P 260))), (q 261, .inl (Z 0, 17, .inl (P 261))), (q 262, .inl (Z 0, 17, .inl (P 262))), (q 263, .inl (Z 0, 800, .inl (P 263))), (q 265, .inl (Z 0, 400, .inl (P 265))), (q (310 + 0), .inl (Z 0, 2, .inl (P (310 + 0)))), (q (310 + 1), .inl (Z 0, 2, .inl (P (310 + 1)))), (q (310 + 2), .inl (Z 0, 2, .inl (P (310 + 2)))), (q (310 + 3), .inl (Z 0, 2, .inl (P (310 + 3)))), (q (310 + 4), .inl (Z 0, 2, .inl (P (310 + 4)))), (q (310 + 5), .inl (Z 0, 2, .inl (P (310 + 5)))), (q (310 + 6), .inl (Z 0, 2, .inl (P (310 + 6)))), (q (310 + 7), .inl (Z 0, 2, .inl (P (310 + 7))))]
abbrev cutMPR : List Nat := [0, 1, 2, 3, 4, 5, 6, 7, 8, 9, 10, 11, 12, 13, 14, 15, 16, 17, 18, 19, 20, 21, 22, 23, 24, 25, 26, 27, 28, 29, 30, 31, 32, 33]
set_option maxRecDepth 100000 in
theorem cutOkMPR (Z : Nat → ClassId) (q g rx : Nat → Nat) (pl sa aa : Nat) (N : M2) (P : M2) : Cut (MPR Z q g rx pl sa aa N P) (fun u : M2 × M2 => MPR Z q g rx pl sa aa u.1 u.2) (N, P) [] cutMPR [] cutMPR (fun u : M2 × M2 => MPR Z q g rx pl sa aa u.1 u.2) := ⟨rfl, rfl, rfl, fun i h => absurd h List.not_mem_nil, by decide, fun _ => rfl⟩
section ROWSMPR
variable {p : Program} {l : Launch} {e : Env} {s : State} {m : MethodId} {args : Array Value} {below : List Frame} {meth : Method} {c : Code} {H H0 : Heap} {locs : List Loc} {cells slots : Nat} {Q : State → Prop} {R : Room} {rn mcR msR : Nat}
variable {pc : Nat} {ls : Array Slot} {rest : List Value} {A : Nat → Prop} {D : va_G}
variable {cc : ByteArray} {nL index : Nat} {own host : String}
theorem gMPR_mod_1 {Z : Nat → ClassId} {q g rx : Nat → Nat} {pl sa aa : Nat} {N : M2} {P : M2} (hC : CallFix p m c cc nL s args lw_g own) (hK : va_K D vwCl (tysG Z) s) (hP : va_P D vwCl (MPR Z q g rx pl sa aa N P) H) (hl : Cond.fieldLink own index RX8 "tape" "[I" ∈ lw_g) (hdg : decode cc pc = .ok (.getfield index, 3)) (kk : W p l e R s m args below meth c H locs cells slots Q (F0 m (pc + 3) ls (.ref (g 221) :: rest))) : W p l e R s m args below meth c H locs cells slots Q (F0 m pc ls (.ref (g 220) :: rest)) :=
  w_get (C := RX8) (T := TX8) (N := 15) (ci := 8) (q0 := 0) (k := 1) hC hK hP fi_X8 rfl rfl rfl (by decide) rfl hl hdg kk
theorem gMPR_mod_4 {Z : Nat → ClassId} {q g rx : Nat → Nat} {pl sa aa : Nat} {N : M2} {P : M2} (hC : CallFix p m c cc nL s args lw_g own) (hK : va_K D vwCl (tysG Z) s) (hP : va_P D vwCl (MPR Z q g rx pl sa aa N P) H) (hl : Cond.fieldLink own index RX8 "kind" "[I" ∈ lw_g) (hdg : decode cc pc = .ok (.getfield index, 3)) (kk : W p l e R s m args below meth c H locs cells slots Q (F0 m (pc + 3) ls (.ref (g 224) :: rest))) : W p l e R s m args below meth c H locs cells slots Q (F0 m pc ls (.ref (g 220) :: rest)) :=
  w_get (C := RX8) (T := TX8) (N := 15) (ci := 8) (q0 := 0) (k := 4) hC hK hP fi_X8 rfl rfl rfl (by decide) rfl hl hdg kk
theorem gMPR_mod_5 {Z : Nat → ClassId} {q g rx : Nat → Nat} {pl sa aa : Nat} {N : M2} {P : M2} (hC : CallFix p m c cc nL s args lw_g own) (hK : va_K D vwCl (tysG Z) s) (hP : va_P D vwCl (MPR Z q g rx pl sa aa N P) H) (hl : Cond.fieldLink own index RX8 "from" "[I" ∈ lw_g) (hdg : decode cc pc = .ok (.getfield index, 3)) (kk : W p l e R s m args below meth c H locs cells slots Q (F0 m (pc + 3) ls (.ref (g 225) :: rest))) : W p l e R s m args below meth c H locs cells slots Q (F0 m pc ls (.ref (g 220) :: rest)) :=
  w_get (C := RX8) (T := TX8) (N := 15) (ci := 8) (q0 := 0) (k := 5) hC hK hP fi_X8 rfl rfl rfl (by decide) rfl hl hdg kk
theorem gMPR_mod_6 {Z : Nat → ClassId} {q g rx : Nat → Nat} {pl sa aa : Nat} {N : M2} {P : M2} (hC : CallFix p m c cc nL s args lw_g own) (hK : va_K D vwCl (tysG Z) s) (hP : va_P D vwCl (MPR Z q g rx pl sa aa N P) H) (hl : Cond.fieldLink own index RX8 "many" "[I" ∈ lw_g) (hdg : decode cc pc = .ok (.getfield index, 3)) (kk : W p l e R s m args below meth c H locs cells slots Q (F0 m (pc + 3) ls (.ref (g 226) :: rest))) : W p l e R s m args below meth c H locs cells slots Q (F0 m pc ls (.ref (g 220) :: rest)) :=
  w_get (C := RX8) (T := TX8) (N := 15) (ci := 8) (q0 := 0) (k := 6) hC hK hP fi_X8 rfl rfl rfl (by decide) rfl hl hdg kk
theorem gMPR_mod_7 {Z : Nat → ClassId} {q g rx : Nat → Nat} {pl sa aa : Nat} {N : M2} {P : M2} (hC : CallFix p m c cc nL s args lw_g own) (hK : va_K D vwCl (tysG Z) s) (hP : va_P D vwCl (MPR Z q g rx pl sa aa N P) H) (hl : Cond.fieldLink own index RX8 "role" "[I" ∈ lw_g) (hdg : decode cc pc = .ok (.getfield index, 3)) (kk : W p l e R s m args below meth c H locs cells slots Q (F0 m (pc + 3) ls (.ref (g 227) :: rest))) : W p l e R s m args below meth c H locs cells slots Q (F0 m pc ls (.ref (g 220) :: rest)) :=
  w_get (C := RX8) (T := TX8) (N := 15) (ci := 8) (q0 := 0) (k := 7) hC hK hP fi_X8 rfl rfl rfl (by decide) rfl hl hdg kk
theorem gMPR_mod_8 {Z : Nat → ClassId} {q g rx : Nat → Nat} {pl sa aa : Nat} {N : M2} {P : M2} (hC : CallFix p m c cc nL s args lw_g own) (hK : va_K D vwCl (tysG Z) s) (hP : va_P D vwCl (MPR Z q g rx pl sa aa N P) H) (hl : Cond.fieldLink own index RX8 "meant" "[I" ∈ lw_g) (hdg : decode cc pc = .ok (.getfield index, 3)) (kk : W p l e R s m args below meth c H locs cells slots Q (F0 m (pc + 3) ls (.ref (g 228) :: rest))) : W p l e R s m args below meth c H locs cells slots Q (F0 m pc ls (.ref (g 220) :: rest)) :=
  w_get (C := RX8) (T := TX8) (N := 15) (ci := 8) (q0 := 0) (k := 8) hC hK hP fi_X8 rfl rfl rfl (by decide) rfl hl hdg kk
theorem sMPR_from {Z : Nat → ClassId} {q g rx : Nat → Nat} {pl sa aa : Nat} {N : M2} {P : M2} {i : Int32} {x : Int32} (hC : CallFix p m c cc nL s args lw_g own) (hK : va_K D vwCl (tysG Z) s) (hT : TS vwCl D (MPR Z q g rx pl sa aa N P) A H0 H locs) (hi : inb i 401) (hdg : decode cc pc = .ok (.iastore, 1)) (kk : ∀ (N1 : M2), N1 = up2 N 225 (upd (N 225) i.toInt.toNat x) → ∀ (H1 : Heap) (locs1 : List Loc), TS vwCl D (MPR Z q g rx pl sa aa N1 P) A H0 H1 locs1 → W p l e R s m args below meth c H1 locs1 cells slots Q (F0 m (pc + 1) ls rest)) : W p l e R s m args below meth c H locs cells slots Q (F0 m pc ls (.int x :: .int i :: .ref (g 225) :: rest)) :=
  w_iast (q0 := 3) (ws' := (MPR Z q g rx pl sa aa (up2 N 225 (upd (N 225) i.toInt.toNat x)) P)) hC hK hT rfl hi rfl hdg (fun H1 locs1 hT1 => kk _ rfl H1 locs1 hT1)
theorem sMPR_kind {Z : Nat → ClassId} {q g rx : Nat → Nat} {pl sa aa : Nat} {N : M2} {P : M2} {i : Int32} {x : Int32} (hC : CallFix p m c cc nL s args lw_g own) (hK : va_K D vwCl (tysG Z) s) (hT : TS vwCl D (MPR Z q g rx pl sa aa N P) A H0 H locs) (hi : inb i 401) (hdg : decode cc pc = .ok (.iastore, 1)) (kk : ∀ (N1 : M2), N1 = up2 N 224 (upd (N 224) i.toInt.toNat x) → ∀ (H1 : Heap) (locs1 : List Loc), TS vwCl D (MPR Z q g rx pl sa aa N1 P) A H0 H1 locs1 → W p l e R s m args below meth c H1 locs1 cells slots Q (F0 m (pc + 1) ls rest)) : W p l e R s m args below meth c H locs cells slots Q (F0 m pc ls (.int x :: .int i :: .ref (g 224) :: rest)) :=
  w_iast (q0 := 2) (ws' := (MPR Z q g rx pl sa aa (up2 N 224 (upd (N 224) i.toInt.toNat x)) P)) hC hK hT rfl hi rfl hdg (fun H1 locs1 hT1 => kk _ rfl H1 locs1 hT1)
theorem sMPR_many {Z : Nat → ClassId} {q g rx : Nat → Nat} {pl sa aa : Nat} {N : M2} {P : M2} {i : Int32} {x : Int32} (hC : CallFix p m c cc nL s args lw_g own) (hK : va_K D vwCl (tysG Z) s) (hT : TS vwCl D (MPR Z q g rx pl sa aa N P) A H0 H locs) (hi : inb i 401) (hdg : decode cc pc = .ok (.iastore, 1)) (kk : ∀ (N1 : M2), N1 = up2 N 226 (upd (N 226) i.toInt.toNat x) → ∀ (H1 : Heap) (locs1 : List Loc), TS vwCl D (MPR Z q g rx pl sa aa N1 P) A H0 H1 locs1 → W p l e R s m args below meth c H1 locs1 cells slots Q (F0 m (pc + 1) ls rest)) : W p l e R s m args below meth c H locs cells slots Q (F0 m pc ls (.int x :: .int i :: .ref (g 226) :: rest)) :=
  w_iast (q0 := 4) (ws' := (MPR Z q g rx pl sa aa (up2 N 226 (upd (N 226) i.toInt.toNat x)) P)) hC hK hT rfl hi rfl hdg (fun H1 locs1 hT1 => kk _ rfl H1 locs1 hT1)
theorem sMPR_meant {Z : Nat → ClassId} {q g rx : Nat → Nat} {pl sa aa : Nat} {N : M2} {P : M2} {i : Int32} {x : Int32} (hC : CallFix p m c cc nL s args lw_g own) (hK : va_K D vwCl (tysG Z) s) (hT : TS vwCl D (MPR Z q g rx pl sa aa N P) A H0 H locs) (hi : inb i 401) (hdg : decode cc pc = .ok (.iastore, 1)) (kk : ∀ (N1 : M2), N1 = up2 N 228 (upd (N 228) i.toInt.toNat x) → ∀ (H1 : Heap) (locs1 : List Loc), TS vwCl D (MPR Z q g rx pl sa aa N1 P) A H0 H1 locs1 → W p l e R s m args below meth c H1 locs1 cells slots Q (F0 m (pc + 1) ls rest)) : W p l e R s m args below meth c H locs cells slots Q (F0 m pc ls (.int x :: .int i :: .ref (g 228) :: rest)) :=
  w_iast (q0 := 6) (ws' := (MPR Z q g rx pl sa aa (up2 N 228 (upd (N 228) i.toInt.toNat x)) P)) hC hK hT rfl hi rfl hdg (fun H1 locs1 hT1 => kk _ rfl H1 locs1 hT1)
theorem sMPR_role {Z : Nat → ClassId} {q g rx : Nat → Nat} {pl sa aa : Nat} {N : M2} {P : M2} {i : Int32} {x : Int32} (hC : CallFix p m c cc nL s args lw_g own) (hK : va_K D vwCl (tysG Z) s) (hT : TS vwCl D (MPR Z q g rx pl sa aa N P) A H0 H locs) (hi : inb i 401) (hdg : decode cc pc = .ok (.iastore, 1)) (kk : ∀ (N1 : M2), N1 = up2 N 227 (upd (N 227) i.toInt.toNat x) → ∀ (H1 : Heap) (locs1 : List Loc), TS vwCl D (MPR Z q g rx pl sa aa N1 P) A H0 H1 locs1 → W p l e R s m args below meth c H1 locs1 cells slots Q (F0 m (pc + 1) ls rest)) : W p l e R s m args below meth c H locs cells slots Q (F0 m pc ls (.int x :: .int i :: .ref (g 227) :: rest)) :=
  w_iast (q0 := 5) (ws' := (MPR Z q g rx pl sa aa (up2 N 227 (upd (N 227) i.toInt.toNat x)) P)) hC hK hT rfl hi rfl hdg (fun H1 locs1 hT1 => kk _ rfl H1 locs1 hT1)
end ROWSMPR
set_option maxRecDepth 100000 in
theorem sx_MPMPR (Z : Nat → ClassId) (q g rx : Nat → Nat) (pl sa aa : Nat) (N : M2) (P : M2) : ([0, 1, 2, 3, 4, 5, 6, 7, 8, 9, 10, 11, 12, 13, 14, 15, 16, 17, 18, 19, 20, 21, 22, 23, 24, 25, 26, 27, 28, 29, 30, 31, 32, 33] : List Nat).map (fun i => (MPR Z q g rx pl sa aa N P)[i]?) = (MP Z q g pl sa aa N P).map some := rfl
set_option maxRecDepth 100000 in
theorem sx_EWMPR (Z : Nat → ClassId) (q g rx : Nat → Nat) (pl sa aa : Nat) (N : M2) (P : M2) : ([] : List Nat).map (fun i => (MPR Z q g rx pl sa aa N P)[i]?) = (EW Z).map some := rfl
section LX8_isLetter0x
variable {p : Program} {l : Launch} {e : Env} {s : State} {m : MethodId} {args : Array Value} {below : List Frame} {meth : Method} {c : Code} {H H0 : Heap} {locs : List Loc} {cells slots : Nat} {Q : State → Prop} {R : Room} {rn mcR msR : Nat}
variable {pc : Nat} {ls : Array Slot} {rest : List Value} {A : Nat → Prop} {D : va_G}
variable {cc : ByteArray} {nL index : Nat} {own host : String}
theorem kx_X8_isLetter {Z : Nat → ClassId} {x0 : Int32} {K : Int32 → Prop} {ws : va_W} {isC : List Nat} (hC : CallFix p m c cc nL s args lw_g own) (hN : NW s) (hK : va_K D vwCl (tysG Z) s) (hP : va_P D vwCl ws H) (hD : va_D (fun _ => True) ws) (hs : isC.map (fun i => ws[i]?) = (EW Z).map some) (hnd : va_nd isC = true) (hm : wp_X8_isLetter x0 K) (hl : Cond.methodLink own index yX8_isLetter ∈ lw_g) (hlt : 1 < rn) (hsize : ls.size = nL) (hW : (rest.map fun v => v.category).sum ≤ 8) (hf : cells + 0 ≤ mcR ∧ slots + 0 ≤ msR) (hdg : decode cc pc = .ok (.invokestatic index, 3)) (kk : ∀ r : Int32, K r → W p l e (rk rn mcR msR) s m args below meth c H locs cells slots Q (F0 m (pc + 3) ls (.int r :: rest))) : W p l e (rk rn mcR msR) s m args below meth c H locs cells slots Q (F0 m pc ls (.int x0 :: rest)) :=
  ro_go (runS (As := [.int x0]) hC hN (c_X8_isLetter l D Z  H.size x0 K hm) mi_X8_isLetter hl wq_1506 hlt (hP.sub isC (map_fm hs)) (hD.sub isC hnd hs) hK rfl hsize rfl hW hdg hf) kk
end LX8_isLetter0x
section LX8_isDigit0x
variable {p : Program} {l : Launch} {e : Env} {s : State} {m : MethodId} {args : Array Value} {below : List Frame} {meth : Method} {c : Code} {H H0 : Heap} {locs : List Loc} {cells slots : Nat} {Q : State → Prop} {R : Room} {rn mcR msR : Nat}
variable {pc : Nat} {ls : Array Slot} {rest : List Value} {A : Nat → Prop} {D : va_G}
variable {cc : ByteArray} {nL index : Nat} {own host : String}
theorem kx_X8_isDigit {Z : Nat → ClassId} {x0 : Int32} {K : Int32 → Prop} {ws : va_W} {isC : List Nat} (hC : CallFix p m c cc nL s args lw_g own) (hN : NW s) (hK : va_K D vwCl (tysG Z) s) (hP : va_P D vwCl ws H) (hD : va_D (fun _ => True) ws) (hs : isC.map (fun i => ws[i]?) = (EW Z).map some) (hnd : va_nd isC = true) (hm : wp_X8_isDigit x0 K) (hl : Cond.methodLink own index yX8_isDigit ∈ lw_g) (hlt : 1 < rn) (hsize : ls.size = nL) (hW : (rest.map fun v => v.category).sum ≤ 8) (hf : cells + 0 ≤ mcR ∧ slots + 0 ≤ msR) (hdg : decode cc pc = .ok (.invokestatic index, 3)) (kk : ∀ r : Int32, K r → W p l e (rk rn mcR msR) s m args below meth c H locs cells slots Q (F0 m (pc + 3) ls (.int r :: rest))) : W p l e (rk rn mcR msR) s m args below meth c H locs cells slots Q (F0 m pc ls (.int x0 :: rest)) :=
  ro_go (runS (As := [.int x0]) hC hN (c_X8_isDigit l D Z  H.size x0 K hm) mi_X8_isDigit hl wq_1509 hlt (hP.sub isC (map_fm hs)) (hD.sub isC hnd hs) hK rfl hsize rfl hW hdg hf) kk
end LX8_isDigit0x
section LX8_byteOf0x
variable {p : Program} {l : Launch} {e : Env} {s : State} {m : MethodId} {args : Array Value} {below : List Frame} {meth : Method} {c : Code} {H H0 : Heap} {locs : List Loc} {cells slots : Nat} {Q : State → Prop} {R : Room} {rn mcR msR : Nat}
variable {pc : Nat} {ls : Array Slot} {rest : List Value} {A : Nat → Prop} {D : va_G}
variable {cc : ByteArray} {nL index : Nat} {own host : String}
theorem kx_X8_byteOf {Z : Nat → ClassId} {q g : Nat → Nat} {pl sa aa : Nat} {N : M2} {P : M2} {x1 : Int32} {K : Int32 → Prop} {ws : va_W} {isC : List Nat} (hC : CallFix p m c cc nL s args lw_g own) (hN : NW s) (hK : va_K D vwCl (tysG Z) s) (hP : va_P D vwCl ws H) (hD : va_D (fun _ => True) ws) (hs : isC.map (fun i => ws[i]?) = (MP Z q g pl sa aa N P).map some) (hnd : va_nd isC = true) (hm : wp_X8_byteOf N P x1 K) (hl : Cond.methodLink own index yX8_byteOf ∈ lw_g) (hlt : 1 < rn) (hsize : ls.size = nL) (hW : (rest.map fun v => v.category).sum ≤ 8) (hf : cells + 0 ≤ mcR ∧ slots + 0 ≤ msR) (hdg : decode cc pc = .ok (.invokevirtual index, 3)) (kk : ∀ r : Int32, K r → W p l e (rk rn mcR msR) s m args below meth c H locs cells slots Q (F0 m (pc + 3) ls (.int r :: rest))) : W p l e (rk rn mcR msR) s m args below meth c H locs cells slots Q (F0 m pc ls (.int x1 :: .ref (g 220) :: rest)) :=
  ro_go (runV (As := [.int x1]) hC hN (c_X8_byteOf l D Z q g pl sa aa N P H.size x1 K hm) mi_X8_byteOf hl wq_1499 wq_65 hlt (hP.sub isC (map_fm hs)) (hD.sub isC hnd hs) hK (q0 := 0) rfl rfl rfl hsize rfl hW hdg hf) kk
end LX8_byteOf0x
theorem dX8_word_0 : decode cX8_word 0 = .ok (.iconst 0, 1) := by decide +kernel
theorem dX8_word_1 : decode cX8_word 1 = .ok (.istore_n 3, 1) := by decide +kernel
theorem dX8_word_2 : decode cX8_word 2 = .ok (.iload_n 3, 1) := by decide +kernel
theorem dX8_word_3 : decode cX8_word 3 = .ok (.getstatic 112, 3) := by decide +kernel
theorem dX8_word_6 : decode cX8_word 6 = .ok (.arraylength, 1) := by decide +kernel
theorem dX8_word_7 : decode cX8_word 7 = .ok (.if_icmp .ge 84, 3) := by decide +kernel
theorem dX8_word_10 : decode cX8_word 10 = .ok (.getstatic 112, 3) := by decide +kernel
theorem dX8_word_13 : decode cX8_word 13 = .ok (.iload_n 3, 1) := by decide +kernel
theorem dX8_word_14 : decode cX8_word 14 = .ok (.aaload, 1) := by decide +kernel
theorem dX8_word_15 : decode cX8_word 15 = .ok (.invokevirtual 116, 3) := by decide +kernel
theorem dX8_word_18 : decode cX8_word 18 = .ok (.iload_n 2, 1) := by decide +kernel
theorem dX8_word_19 : decode cX8_word 19 = .ok (.if_icmp .ne 7, 3) := by decide +kernel
theorem dX8_word_22 : decode cX8_word 22 = .ok (.iconst 1, 1) := by decide +kernel
theorem dX8_word_23 : decode cX8_word 23 = .ok (.goto 4, 3) := by decide +kernel
theorem dX8_word_26 : decode cX8_word 26 = .ok (.iconst 0, 1) := by decide +kernel
theorem dX8_word_27 : decode cX8_word 27 = .ok (.istore 4, 2) := by decide +kernel
theorem dX8_word_29 : decode cX8_word 29 = .ok (.iconst 0, 1) := by decide +kernel
theorem dX8_word_30 : decode cX8_word 30 = .ok (.istore 5, 2) := by decide +kernel
theorem dX8_word_32 : decode cX8_word 32 = .ok (.iload 4, 2) := by decide +kernel
theorem dX8_word_34 : decode cX8_word 34 = .ok (.ifCond .eq 44, 3) := by decide +kernel
theorem dX8_word_37 : decode cX8_word 37 = .ok (.iload 5, 2) := by decide +kernel
theorem dX8_word_39 : decode cX8_word 39 = .ok (.iload_n 2, 1) := by decide +kernel
theorem dX8_word_40 : decode cX8_word 40 = .ok (.if_icmp .ge 38, 3) := by decide +kernel
theorem dX8_word_43 : decode cX8_word 43 = .ok (.getstatic 112, 3) := by decide +kernel
theorem dX8_word_46 : decode cX8_word 46 = .ok (.iload_n 3, 1) := by decide +kernel
theorem dX8_word_47 : decode cX8_word 47 = .ok (.aaload, 1) := by decide +kernel
theorem dX8_word_48 : decode cX8_word 48 = .ok (.iload 5, 2) := by decide +kernel
theorem dX8_word_50 : decode cX8_word 50 = .ok (.invokevirtual 120, 3) := by decide +kernel
theorem dX8_word_53 : decode cX8_word 53 = .ok (.aload_n 0, 1) := by decide +kernel
theorem dX8_word_54 : decode cX8_word 54 = .ok (.getfield 9, 3) := by decide +kernel
theorem dX8_word_57 : decode cX8_word 57 = .ok (.iload_n 1, 1) := by decide +kernel
theorem dX8_word_58 : decode cX8_word 58 = .ok (.iload 5, 2) := by decide +kernel
theorem dX8_word_60 : decode cX8_word 60 = .ok (.iadd, 1) := by decide +kernel
theorem dX8_word_61 : decode cX8_word 61 = .ok (.iaload, 1) := by decide +kernel
theorem dX8_word_62 : decode cX8_word 62 = .ok (.if_icmp .ne 7, 3) := by decide +kernel
theorem dX8_word_65 : decode cX8_word 65 = .ok (.iconst 1, 1) := by decide +kernel
theorem dX8_word_66 : decode cX8_word 66 = .ok (.goto 4, 3) := by decide +kernel
theorem dX8_word_69 : decode cX8_word 69 = .ok (.iconst 0, 1) := by decide +kernel
theorem dX8_word_70 : decode cX8_word 70 = .ok (.istore 4, 2) := by decide +kernel
theorem dX8_word_72 : decode cX8_word 72 = .ok (.iinc 5 1, 3) := by decide +kernel
theorem dX8_word_75 : decode cX8_word 75 = .ok (.goto (-43), 3) := by decide +kernel
theorem dX8_word_78 : decode cX8_word 78 = .ok (.iload 4, 2) := by decide +kernel
theorem dX8_word_80 : decode cX8_word 80 = .ok (.ifCond .eq 5, 3) := by decide +kernel
theorem dX8_word_83 : decode cX8_word 83 = .ok (.iload_n 3, 1) := by decide +kernel
theorem dX8_word_84 : decode cX8_word 84 = .ok (.ireturn, 1) := by decide +kernel
theorem dX8_word_85 : decode cX8_word 85 = .ok (.iinc 3 1, 3) := by decide +kernel
theorem dX8_word_88 : decode cX8_word 88 = .ok (.goto (-86), 3) := by decide +kernel
theorem dX8_word_91 : decode cX8_word 91 = .ok (.bipush 40, 2) := by decide +kernel
theorem dX8_word_93 : decode cX8_word 93 = .ok (.ireturn, 1) := by decide +kernel
theorem dX8_kindAt_0 : decode cX8_kindAt 0 = .ok (.aload_n 0, 1) := by decide +kernel
theorem dX8_kindAt_1 : decode cX8_kindAt 1 = .ok (.iload_n 1, 1) := by decide +kernel
theorem dX8_kindAt_2 : decode cX8_kindAt 2 = .ok (.invokevirtual 92, 3) := by decide +kernel
theorem dX8_kindAt_5 : decode cX8_kindAt 5 = .ok (.istore_n 3, 1) := by decide +kernel
theorem dX8_kindAt_6 : decode cX8_kindAt 6 = .ok (.iload_n 1, 1) := by decide +kernel
theorem dX8_kindAt_7 : decode cX8_kindAt 7 = .ok (.iconst 1, 1) := by decide +kernel
theorem dX8_kindAt_8 : decode cX8_kindAt 8 = .ok (.iadd, 1) := by decide +kernel
theorem dX8_kindAt_9 : decode cX8_kindAt 9 = .ok (.istore 4, 2) := by decide +kernel
theorem dX8_kindAt_11 : decode cX8_kindAt 11 = .ok (.iload_n 3, 1) := by decide +kernel
theorem dX8_kindAt_12 : decode cX8_kindAt 12 = .ok (.iconst (-1), 1) := by decide +kernel
theorem dX8_kindAt_13 : decode cX8_kindAt 13 = .ok (.if_icmp .ne 7, 3) := by decide +kernel
theorem dX8_kindAt_16 : decode cX8_kindAt 16 = .ok (.sipush 900, 3) := by decide +kernel
theorem dX8_kindAt_19 : decode cX8_kindAt 19 = .ok (.ireturn, 1) := by decide +kernel
theorem dX8_kindAt_20 : decode cX8_kindAt 20 = .ok (.iload_n 3, 1) := by decide +kernel
theorem dX8_kindAt_21 : decode cX8_kindAt 21 = .ok (.invokestatic 96, 3) := by decide +kernel
theorem dX8_kindAt_24 : decode cX8_kindAt 24 = .ok (.ifCond .ne 10, 3) := by decide +kernel
theorem dX8_kindAt_27 : decode cX8_kindAt 27 = .ok (.iload_n 3, 1) := by decide +kernel
theorem dX8_kindAt_28 : decode cX8_kindAt 28 = .ok (.invokestatic 99, 3) := by decide +kernel
theorem dX8_kindAt_31 : decode cX8_kindAt 31 = .ok (.ifCond .eq 97, 3) := by decide +kernel
theorem dX8_kindAt_34 : decode cX8_kindAt 34 = .ok (.aload_n 0, 1) := by decide +kernel
theorem dX8_kindAt_35 : decode cX8_kindAt 35 = .ok (.iload 4, 2) := by decide +kernel
theorem dX8_kindAt_37 : decode cX8_kindAt 37 = .ok (.invokevirtual 92, 3) := by decide +kernel
theorem dX8_kindAt_40 : decode cX8_kindAt 40 = .ok (.invokestatic 99, 3) := by decide +kernel
theorem dX8_kindAt_43 : decode cX8_kindAt 43 = .ok (.ifCond .ne 22, 3) := by decide +kernel
theorem dX8_kindAt_46 : decode cX8_kindAt 46 = .ok (.iload_n 3, 1) := by decide +kernel
theorem dX8_kindAt_47 : decode cX8_kindAt 47 = .ok (.invokestatic 96, 3) := by decide +kernel
theorem dX8_kindAt_50 : decode cX8_kindAt 50 = .ok (.ifCond .eq 21, 3) := by decide +kernel
theorem dX8_kindAt_53 : decode cX8_kindAt 53 = .ok (.aload_n 0, 1) := by decide +kernel
theorem dX8_kindAt_54 : decode cX8_kindAt 54 = .ok (.iload 4, 2) := by decide +kernel
theorem dX8_kindAt_56 : decode cX8_kindAt 56 = .ok (.invokevirtual 92, 3) := by decide +kernel
theorem dX8_kindAt_59 : decode cX8_kindAt 59 = .ok (.invokestatic 96, 3) := by decide +kernel
theorem dX8_kindAt_62 : decode cX8_kindAt 62 = .ok (.ifCond .eq 9, 3) := by decide +kernel
theorem dX8_kindAt_65 : decode cX8_kindAt 65 = .ok (.iinc 4 1, 3) := by decide +kernel
theorem dX8_kindAt_68 : decode cX8_kindAt 68 = .ok (.goto (-34), 3) := by decide +kernel
theorem dX8_kindAt_71 : decode cX8_kindAt 71 = .ok (.aload_n 0, 1) := by decide +kernel
theorem dX8_kindAt_72 : decode cX8_kindAt 72 = .ok (.getfield 23, 3) := by decide +kernel
theorem dX8_kindAt_75 : decode cX8_kindAt 75 = .ok (.iload_n 2, 1) := by decide +kernel
theorem dX8_kindAt_76 : decode cX8_kindAt 76 = .ok (.iload 4, 2) := by decide +kernel
theorem dX8_kindAt_78 : decode cX8_kindAt 78 = .ok (.iload_n 1, 1) := by decide +kernel
theorem dX8_kindAt_79 : decode cX8_kindAt 79 = .ok (.isub, 1) := by decide +kernel
theorem dX8_kindAt_80 : decode cX8_kindAt 80 = .ok (.iastore, 1) := by decide +kernel
theorem dX8_kindAt_81 : decode cX8_kindAt 81 = .ok (.iload 4, 2) := by decide +kernel
theorem dX8_kindAt_83 : decode cX8_kindAt 83 = .ok (.iload_n 1, 1) := by decide +kernel
theorem dX8_kindAt_84 : decode cX8_kindAt 84 = .ok (.isub, 1) := by decide +kernel
theorem dX8_kindAt_85 : decode cX8_kindAt 85 = .ok (.iload_n 3, 1) := by decide +kernel
theorem dX8_kindAt_86 : decode cX8_kindAt 86 = .ok (.invokestatic 96, 3) := by decide +kernel
theorem dX8_kindAt_89 : decode cX8_kindAt 89 = .ok (.ifCond .eq 8, 3) := by decide +kernel
theorem dX8_kindAt_92 : decode cX8_kindAt 92 = .ok (.bipush 10, 2) := by decide +kernel
theorem dX8_kindAt_94 : decode cX8_kindAt 94 = .ok (.goto 5, 3) := by decide +kernel
theorem dX8_kindAt_97 : decode cX8_kindAt 97 = .ok (.bipush 6, 2) := by decide +kernel
theorem dX8_kindAt_99 : decode cX8_kindAt 99 = .ok (.if_icmp .le 7, 3) := by decide +kernel
theorem dX8_kindAt_102 : decode cX8_kindAt 102 = .ok (.sipush 901, 3) := by decide +kernel
theorem dX8_kindAt_105 : decode cX8_kindAt 105 = .ok (.ireturn, 1) := by decide +kernel
theorem dX8_kindAt_106 : decode cX8_kindAt 106 = .ok (.iload_n 3, 1) := by decide +kernel
theorem dX8_kindAt_107 : decode cX8_kindAt 107 = .ok (.invokestatic 96, 3) := by decide +kernel
theorem dX8_kindAt_110 : decode cX8_kindAt 110 = .ok (.ifCond .eq 15, 3) := by decide +kernel
theorem dX8_kindAt_113 : decode cX8_kindAt 113 = .ok (.aload_n 0, 1) := by decide +kernel
theorem dX8_kindAt_114 : decode cX8_kindAt 114 = .ok (.iload_n 1, 1) := by decide +kernel
theorem dX8_kindAt_115 : decode cX8_kindAt 115 = .ok (.iload 4, 2) := by decide +kernel
theorem dX8_kindAt_117 : decode cX8_kindAt 117 = .ok (.iload_n 1, 1) := by decide +kernel
theorem dX8_kindAt_118 : decode cX8_kindAt 118 = .ok (.isub, 1) := by decide +kernel
theorem dX8_kindAt_119 : decode cX8_kindAt 119 = .ok (.invokevirtual 102, 3) := by decide +kernel
theorem dX8_kindAt_122 : decode cX8_kindAt 122 = .ok (.goto 5, 3) := by decide +kernel
theorem dX8_kindAt_125 : decode cX8_kindAt 125 = .ok (.bipush 41, 2) := by decide +kernel
theorem dX8_kindAt_127 : decode cX8_kindAt 127 = .ok (.ireturn, 1) := by decide +kernel
theorem dX8_kindAt_128 : decode cX8_kindAt 128 = .ok (.iload_n 3, 1) := by decide +kernel
theorem dX8_kindAt_129 : decode cX8_kindAt 129 = .ok (.bipush 60, 2) := by decide +kernel
theorem dX8_kindAt_131 : decode cX8_kindAt 131 = .ok (.if_icmp .eq 9, 3) := by decide +kernel
theorem dX8_kindAt_134 : decode cX8_kindAt 134 = .ok (.iload_n 3, 1) := by decide +kernel
theorem dX8_kindAt_135 : decode cX8_kindAt 135 = .ok (.bipush 62, 2) := by decide +kernel
theorem dX8_kindAt_137 : decode cX8_kindAt 137 = .ok (.if_icmp .ne 18, 3) := by decide +kernel
theorem dX8_kindAt_140 : decode cX8_kindAt 140 = .ok (.aload_n 0, 1) := by decide +kernel
theorem dX8_kindAt_141 : decode cX8_kindAt 141 = .ok (.iload 4, 2) := by decide +kernel
theorem dX8_kindAt_143 : decode cX8_kindAt 143 = .ok (.invokevirtual 92, 3) := by decide +kernel
theorem dX8_kindAt_146 : decode cX8_kindAt 146 = .ok (.bipush 61, 2) := by decide +kernel
theorem dX8_kindAt_148 : decode cX8_kindAt 148 = .ok (.if_icmp .ne 7, 3) := by decide +kernel
theorem dX8_kindAt_151 : decode cX8_kindAt 151 = .ok (.iconst 1, 1) := by decide +kernel
theorem dX8_kindAt_152 : decode cX8_kindAt 152 = .ok (.goto 4, 3) := by decide +kernel
theorem dX8_kindAt_155 : decode cX8_kindAt 155 = .ok (.iconst 0, 1) := by decide +kernel
theorem dX8_kindAt_156 : decode cX8_kindAt 156 = .ok (.istore 5, 2) := by decide +kernel
theorem dX8_kindAt_158 : decode cX8_kindAt 158 = .ok (.aload_n 0, 1) := by decide +kernel
theorem dX8_kindAt_159 : decode cX8_kindAt 159 = .ok (.getfield 23, 3) := by decide +kernel
theorem dX8_kindAt_162 : decode cX8_kindAt 162 = .ok (.iload_n 2, 1) := by decide +kernel
theorem dX8_kindAt_163 : decode cX8_kindAt 163 = .ok (.iload 5, 2) := by decide +kernel
theorem dX8_kindAt_165 : decode cX8_kindAt 165 = .ok (.ifCond .eq 7, 3) := by decide +kernel
theorem dX8_kindAt_168 : decode cX8_kindAt 168 = .ok (.iconst 2, 1) := by decide +kernel
theorem dX8_kindAt_169 : decode cX8_kindAt 169 = .ok (.goto 4, 3) := by decide +kernel
theorem dX8_kindAt_172 : decode cX8_kindAt 172 = .ok (.iconst 1, 1) := by decide +kernel
theorem dX8_kindAt_173 : decode cX8_kindAt 173 = .ok (.iastore, 1) := by decide +kernel
theorem dX8_kindAt_174 : decode cX8_kindAt 174 = .ok (.iload 5, 2) := by decide +kernel
theorem dX8_kindAt_176 : decode cX8_kindAt 176 = .ok (.ifCond .eq 19, 3) := by decide +kernel
theorem dX8_kindAt_179 : decode cX8_kindAt 179 = .ok (.iload_n 3, 1) := by decide +kernel
theorem dX8_kindAt_180 : decode cX8_kindAt 180 = .ok (.bipush 60, 2) := by decide +kernel
theorem dX8_kindAt_182 : decode cX8_kindAt 182 = .ok (.if_icmp .ne 9, 3) := by decide +kernel
theorem dX8_kindAt_185 : decode cX8_kindAt 185 = .ok (.sipush 300, 3) := by decide +kernel
theorem dX8_kindAt_188 : decode cX8_kindAt 188 = .ok (.goto 6, 3) := by decide +kernel
theorem dX8_kindAt_191 : decode cX8_kindAt 191 = .ok (.sipush 301, 3) := by decide +kernel
theorem dX8_kindAt_194 : decode cX8_kindAt 194 = .ok (.ireturn, 1) := by decide +kernel
theorem dX8_kindAt_195 : decode cX8_kindAt 195 = .ok (.iload_n 3, 1) := by decide +kernel
theorem dX8_kindAt_196 : decode cX8_kindAt 196 = .ok (.ifCond .le 27, 3) := by decide +kernel
theorem dX8_kindAt_199 : decode cX8_kindAt 199 = .ok (.iload_n 3, 1) := by decide +kernel
theorem dX8_kindAt_200 : decode cX8_kindAt 200 = .ok (.sipush 128, 3) := by decide +kernel
theorem dX8_kindAt_203 : decode cX8_kindAt 203 = .ok (.if_icmp .ge 20, 3) := by decide +kernel
theorem dX8_kindAt_206 : decode cX8_kindAt 206 = .ok (.ldc 105, 2) := by decide +kernel
theorem dX8_kindAt_208 : decode cX8_kindAt 208 = .ok (.iload_n 3, 1) := by decide +kernel
theorem dX8_kindAt_209 : decode cX8_kindAt 209 = .ok (.i2c, 1) := by decide +kernel
theorem dX8_kindAt_210 : decode cX8_kindAt 210 = .ok (.invokevirtual 107, 3) := by decide +kernel
theorem dX8_kindAt_213 : decode cX8_kindAt 213 = .ok (.ifCond .lt 10, 3) := by decide +kernel
theorem dX8_kindAt_216 : decode cX8_kindAt 216 = .ok (.bipush 50, 2) := by decide +kernel
theorem dX8_kindAt_218 : decode cX8_kindAt 218 = .ok (.iload_n 3, 1) := by decide +kernel
theorem dX8_kindAt_219 : decode cX8_kindAt 219 = .ok (.iadd, 1) := by decide +kernel
theorem dX8_kindAt_220 : decode cX8_kindAt 220 = .ok (.goto 6, 3) := by decide +kernel
theorem dX8_kindAt_223 : decode cX8_kindAt 223 = .ok (.sipush 901, 3) := by decide +kernel
theorem dX8_kindAt_226 : decode cX8_kindAt 226 = .ok (.ireturn, 1) := by decide +kernel
theorem dX8_cut_0 : decode cX8_cut 0 = .ok (.iconst 0, 1) := by decide +kernel
theorem dX8_cut_1 : decode cX8_cut 1 = .ok (.istore_n 1, 1) := by decide +kernel
theorem dX8_cut_2 : decode cX8_cut 2 = .ok (.iconst 0, 1) := by decide +kernel
theorem dX8_cut_3 : decode cX8_cut 3 = .ok (.istore_n 2, 1) := by decide +kernel
theorem dX8_cut_4 : decode cX8_cut 4 = .ok (.iload_n 2, 1) := by decide +kernel
theorem dX8_cut_5 : decode cX8_cut 5 = .ok (.sipush 400, 3) := by decide +kernel
theorem dX8_cut_8 : decode cX8_cut 8 = .ok (.if_icmp .gt 118, 3) := by decide +kernel
theorem dX8_cut_11 : decode cX8_cut 11 = .ok (.aload_n 0, 1) := by decide +kernel
theorem dX8_cut_12 : decode cX8_cut 12 = .ok (.iload_n 1, 1) := by decide +kernel
theorem dX8_cut_13 : decode cX8_cut 13 = .ok (.invokevirtual 92, 3) := by decide +kernel
theorem dX8_cut_16 : decode cX8_cut 16 = .ok (.bipush 32, 2) := by decide +kernel
theorem dX8_cut_18 : decode cX8_cut 18 = .ok (.if_icmp .eq 13, 3) := by decide +kernel
theorem dX8_cut_21 : decode cX8_cut 21 = .ok (.aload_n 0, 1) := by decide +kernel
theorem dX8_cut_22 : decode cX8_cut 22 = .ok (.iload_n 1, 1) := by decide +kernel
theorem dX8_cut_23 : decode cX8_cut 23 = .ok (.invokevirtual 92, 3) := by decide +kernel
theorem dX8_cut_26 : decode cX8_cut 26 = .ok (.bipush 10, 2) := by decide +kernel
theorem dX8_cut_28 : decode cX8_cut 28 = .ok (.if_icmp .ne 9, 3) := by decide +kernel
theorem dX8_cut_31 : decode cX8_cut 31 = .ok (.iinc 1 1, 3) := by decide +kernel
theorem dX8_cut_34 : decode cX8_cut 34 = .ok (.goto (-23), 3) := by decide +kernel
theorem dX8_cut_37 : decode cX8_cut 37 = .ok (.aload_n 0, 1) := by decide +kernel
theorem dX8_cut_38 : decode cX8_cut 38 = .ok (.getfield 20, 3) := by decide +kernel
theorem dX8_cut_41 : decode cX8_cut 41 = .ok (.iload_n 2, 1) := by decide +kernel
theorem dX8_cut_42 : decode cX8_cut 42 = .ok (.iload_n 1, 1) := by decide +kernel
theorem dX8_cut_43 : decode cX8_cut 43 = .ok (.iastore, 1) := by decide +kernel
theorem dX8_cut_44 : decode cX8_cut 44 = .ok (.aload_n 0, 1) := by decide +kernel
theorem dX8_cut_45 : decode cX8_cut 45 = .ok (.getfield 26, 3) := by decide +kernel
theorem dX8_cut_48 : decode cX8_cut 48 = .ok (.iload_n 2, 1) := by decide +kernel
theorem dX8_cut_49 : decode cX8_cut 49 = .ok (.iconst 0, 1) := by decide +kernel
theorem dX8_cut_50 : decode cX8_cut 50 = .ok (.iastore, 1) := by decide +kernel
theorem dX8_cut_51 : decode cX8_cut 51 = .ok (.aload_n 0, 1) := by decide +kernel
theorem dX8_cut_52 : decode cX8_cut 52 = .ok (.getfield 29, 3) := by decide +kernel
theorem dX8_cut_55 : decode cX8_cut 55 = .ok (.iload_n 2, 1) := by decide +kernel
theorem dX8_cut_56 : decode cX8_cut 56 = .ok (.iconst 0, 1) := by decide +kernel
theorem dX8_cut_57 : decode cX8_cut 57 = .ok (.iastore, 1) := by decide +kernel
theorem dX8_cut_58 : decode cX8_cut 58 = .ok (.aload_n 0, 1) := by decide +kernel
theorem dX8_cut_59 : decode cX8_cut 59 = .ok (.getfield 17, 3) := by decide +kernel
theorem dX8_cut_62 : decode cX8_cut 62 = .ok (.iload_n 2, 1) := by decide +kernel
theorem dX8_cut_63 : decode cX8_cut 63 = .ok (.aload_n 0, 1) := by decide +kernel
theorem dX8_cut_64 : decode cX8_cut 64 = .ok (.iload_n 1, 1) := by decide +kernel
theorem dX8_cut_65 : decode cX8_cut 65 = .ok (.iload_n 2, 1) := by decide +kernel
theorem dX8_cut_66 : decode cX8_cut 66 = .ok (.invokevirtual 124, 3) := by decide +kernel
theorem dX8_cut_69 : decode cX8_cut 69 = .ok (.iastore, 1) := by decide +kernel
theorem dX8_cut_70 : decode cX8_cut 70 = .ok (.iload_n 2, 1) := by decide +kernel
theorem dX8_cut_71 : decode cX8_cut 71 = .ok (.sipush 400, 3) := by decide +kernel
theorem dX8_cut_74 : decode cX8_cut 74 = .ok (.if_icmp .ne 24, 3) := by decide +kernel
theorem dX8_cut_77 : decode cX8_cut 77 = .ok (.aload_n 0, 1) := by decide +kernel
theorem dX8_cut_78 : decode cX8_cut 78 = .ok (.getfield 17, 3) := by decide +kernel
theorem dX8_cut_81 : decode cX8_cut 81 = .ok (.iload_n 2, 1) := by decide +kernel
theorem dX8_cut_82 : decode cX8_cut 82 = .ok (.iaload, 1) := by decide +kernel
theorem dX8_cut_83 : decode cX8_cut 83 = .ok (.sipush 900, 3) := by decide +kernel
theorem dX8_cut_86 : decode cX8_cut 86 = .ok (.if_icmp .eq 12, 3) := by decide +kernel
theorem dX8_cut_89 : decode cX8_cut 89 = .ok (.aload_n 0, 1) := by decide +kernel
theorem dX8_cut_90 : decode cX8_cut 90 = .ok (.getfield 17, 3) := by decide +kernel
theorem dX8_cut_93 : decode cX8_cut 93 = .ok (.iload_n 2, 1) := by decide +kernel
theorem dX8_cut_94 : decode cX8_cut 94 = .ok (.sipush 901, 3) := by decide +kernel
theorem dX8_cut_97 : decode cX8_cut 97 = .ok (.iastore, 1) := by decide +kernel
theorem dX8_cut_98 : decode cX8_cut 98 = .ok (.aload_n 0, 1) := by decide +kernel
theorem dX8_cut_99 : decode cX8_cut 99 = .ok (.getfield 17, 3) := by decide +kernel
theorem dX8_cut_102 : decode cX8_cut 102 = .ok (.iload_n 2, 1) := by decide +kernel
theorem dX8_cut_103 : decode cX8_cut 103 = .ok (.iaload, 1) := by decide +kernel
theorem dX8_cut_104 : decode cX8_cut 104 = .ok (.sipush 900, 3) := by decide +kernel
theorem dX8_cut_107 : decode cX8_cut 107 = .ok (.if_icmp .lt 4, 3) := by decide +kernel
theorem dX8_cut_110 : decode cX8_cut 110 = .ok (.return_, 1) := by decide +kernel
theorem dX8_cut_111 : decode cX8_cut 111 = .ok (.iload_n 1, 1) := by decide +kernel
theorem dX8_cut_112 : decode cX8_cut 112 = .ok (.aload_n 0, 1) := by decide +kernel
theorem dX8_cut_113 : decode cX8_cut 113 = .ok (.getfield 23, 3) := by decide +kernel
theorem dX8_cut_116 : decode cX8_cut 116 = .ok (.iload_n 2, 1) := by decide +kernel
theorem dX8_cut_117 : decode cX8_cut 117 = .ok (.iaload, 1) := by decide +kernel
theorem dX8_cut_118 : decode cX8_cut 118 = .ok (.iadd, 1) := by decide +kernel
theorem dX8_cut_119 : decode cX8_cut 119 = .ok (.istore_n 1, 1) := by decide +kernel
theorem dX8_cut_120 : decode cX8_cut 120 = .ok (.iinc 2 1, 3) := by decide +kernel
theorem dX8_cut_123 : decode cX8_cut 123 = .ok (.goto (-119), 3) := by decide +kernel
theorem dX8_cut_126 : decode cX8_cut 126 = .ok (.return_, 1) := by decide +kernel
theorem mi_X8_word : MInfo yX8_word cX8_word 6 (some .int) 2 := ⟨wq_1514, wq_135, by decide, ⟨by decide +kernel, by decide +kernel, by decide +kernel⟩, by decide +kernel⟩
theorem mi_X8_kindAt : MInfo yX8_kindAt cX8_kindAt 6 (some .int) 2 := ⟨wq_1504, wq_135, by decide, ⟨by decide +kernel, by decide +kernel, by decide +kernel⟩, by decide +kernel⟩
theorem mi_X8_cut : MInfo yX8_cut cX8_cut 3 none 0 := ⟨wq_1496, wq_135, by decide, ⟨by decide +kernel, by decide +kernel, by decide +kernel⟩, by decide +kernel⟩
def wl_X8_word_32 (N : M2) (P : M2) (C2 : Int32 → Int32 → Int32 → Prop) (K : Int32 → Prop) : Nat → Int32 → Int32 → Int32 → Int32 → Int32 → Prop
  | 0, _, _, _, _, _ => False
  | n + 1, v1, v2, v3, v4, v5 => ((v4 = 0 → ((v4 = 0 → (∀ v3_85 : Int32, v3_85 = v3 + 1 → C2 v1 v2 v3_85)) ∧ (¬ v4 = 0 → K v3))) ∧ (¬ v4 = 0 → ((v2 ≤ v5 → ((v4 = 0 → (∀ v3_85 : Int32, v3_85 = v3 + 1 → C2 v1 v2 v3_85)) ∧ (¬ v4 = 0 → K v3))) ∧ (¬ v2 ≤ v5 → (inb v3 32 ∧ (v3.toInt.toNat < 65 ∧ (inb v5 (sn v3.toInt.toNat) ∧ (inb (v1 + v5) 2000 ∧ ((¬ (chv (sb v3.toInt.toNat) v5) = (N 221 (v1 + v5).toInt.toNat) → (∀ v5_72 : Int32, v5_72 = v5 + 1 → wl_X8_word_32 N P C2 K n v1 v2 v3 0 v5_72)) ∧ ((chv (sb v3.toInt.toNat) v5) = (N 221 (v1 + v5).toInt.toNat) → (∀ v5_72 : Int32, v5_72 = v5 + 1 → wl_X8_word_32 N P C2 K n v1 v2 v3 1 v5_72)))))))))))
def wl_X8_word_2 (N : M2) (P : M2) (K : Int32 → Prop) : Nat → Int32 → Int32 → Int32 → Prop
  | 0, _, _, _ => False
  | n + 1, v1, v2, v3 => (((Int32.ofNat 32) ≤ v3 → K 40) ∧ (¬ (Int32.ofNat 32) ≤ v3 → (inb v3 32 ∧ (v3.toInt.toNat < 65 ∧ ((¬ (Int32.ofNat (sn v3.toInt.toNat)) = v2 → wl_X8_word_32 N P (wl_X8_word_2 N P K n) K fK v1 v2 v3 0 0) ∧ ((Int32.ofNat (sn v3.toInt.toNat)) = v2 → wl_X8_word_32 N P (wl_X8_word_2 N P K n) K fK v1 v2 v3 1 0))))))
def wp_X8_word (N : M2) (P : M2) (x1 : Int32) (x2 : Int32) (K : Int32 → Prop) : Prop := wl_X8_word_2 N P K fK x1 x2 0
set_option maxRecDepth 100000 in
set_option maxHeartbeats 4000000 in
theorem c_X8_word (l : Launch) (D : va_G) (Z : Nat → ClassId) (q g rx : Nat → Nat) (pl sa aa : Nat) (N : M2) (P : M2) (sz : Nat) (x1 : Int32) (x2 : Int32) (K : Int32 → Prop) (hm : wp_X8_word N P x1 x2 K) : Met l yX8_word (wy yX8_word cX8_word 6 (some .int)) (rk 4 0 0) (preR vwCl D Z rx (MPR Z q g rx pl sa aa N P) sz [.ref (g 220), .int x1, .int x2]) (vp_Si K) 0 0 (fun _ => False) := by
  refine ro_ofR (ty := .int) (by decide +kernel) (Nat.le_of_ble_eq_true rfl) rfl ?_
  intro p e s m args below meth c Q hC hN hR hsz hP hD hK hret ls hl
  have hx := hC.1
  have hb := hC.2.1
  have hl : lv_has ls 6 [(0, .ref (g 220)), (1, .int x1), (2, .int x2)] := hl
  have L2 : ∀ (n2 : Nat), ∀ (v1 : Int32) (v2 : Int32) (v3 : Int32) (ls : Array Slot), wl_X8_word_2 N P K n2 v1 v2 v3 → lv_has ls 6 [(0, .ref (g 220)), (1, .int v1), (2, .int v2), (3, .int v3)] → W p l e (rk 4 0 0) s m args below meth c s.heap [] 0 0 Q (F0 m 2 ls []) := by
    intro n2
    induction n2 with
    | zero =>
      intro v1 v2 v3 ls hm hl
      exact False.elim hm
    | succ n2 ih2 =>
      have L32 : ∀ (n32 : Nat), ∀ (v1 : Int32) (v2 : Int32) (v3 : Int32) (v4 : Int32) (v5 : Int32) (ls : Array Slot), wl_X8_word_32 N P (wl_X8_word_2 N P K n2) K n32 v1 v2 v3 v4 v5 → lv_has ls 6 [(0, .ref (g 220)), (1, .int v1), (2, .int v2), (3, .int v3), (4, .int v4), (5, .int v5)] → W p l e (rk 4 0 0) s m args below meth c s.heap [] 0 0 Q (F0 m 32 ls []) := by
        intro n32
        induction n32 with
        | zero =>
          intro v1 v2 v3 v4 v5 ls hm hl
          exact False.elim hm
        | succ n32 ih32 =>
          intro v1 v2 v3 v4 v5 ls hm hl
          refine lv_iload hx hb dX8_word_32 (lv_at hl 4 rfl) ?_
          refine lv_if_eq (tgt := 78) hx hb dX8_word_34 (by decide) (fun c_34 => ?_) (fun c_34 => ?_)
          · have hm := hm.1 c_34
            refine lv_iload hx hb dX8_word_78 (lv_at hl 4 rfl) ?_
            refine lv_if_eq (tgt := 85) hx hb dX8_word_80 (by decide) (fun c_80 => ?_) (fun c_80 => ?_)
            · have hm := hm.1 c_80
              obtain ⟨v3_85, ev3_85⟩ : ∃ y : Int32, y = v3 + 1 := ⟨_, rfl⟩
              have hm := hm v3_85 ev3_85
              refine lv_iinc (v := v3_85) (lv' := [(3, .int v3_85), (0, .ref (g 220)), (1, .int v1), (2, .int v2), (4, .int v4), (5, .int v5)]) hx hb dX8_word_85 hl (k := 3) rfl (by rw [ev3_85]; rfl) (by decide) rfl (fun ls hl => ?_)
              refine lv_goto (tgt := 2) hx hb dX8_word_88 (by decide) ?_
              exact ih2 _ _ _ _ hm (lv_sub hl [1, 2, 3, 0] rfl)
            · have hm := hm.2 c_80
              refine lv_iload_n hx hb dX8_word_83 rfl (lv_at hl 3 rfl) ?_
              exact hret 84 _ _ hm rfl dX8_word_84
          · have hm := hm.2 c_34
            refine lv_iload hx hb dX8_word_37 (lv_at hl 5 rfl) ?_
            refine lv_iload_n hx hb dX8_word_39 rfl (lv_at hl 2 rfl) ?_
            refine lv_icmp_ge (tgt := 78) hx hb dX8_word_40 (by decide) (fun c_40 => ?_) (fun c_40 => ?_)
            · have hm := hm.1 c_40
              refine lv_iload hx hb dX8_word_78 (lv_at hl 4 rfl) ?_
              refine lv_if_eq (tgt := 85) hx hb dX8_word_80 (by decide) (fun c_80 => ?_) (fun c_80 => ?_)
              · have hm := hm.1 c_80
                obtain ⟨v3_85, ev3_85⟩ : ∃ y : Int32, y = v3 + 1 := ⟨_, rfl⟩
                have hm := hm v3_85 ev3_85
                refine lv_iinc (v := v3_85) (lv' := [(3, .int v3_85), (0, .ref (g 220)), (1, .int v1), (2, .int v2), (4, .int v4), (5, .int v5)]) hx hb dX8_word_85 hl (k := 3) rfl (by rw [ev3_85]; rfl) (by decide) rfl (fun ls hl => ?_)
                refine lv_goto (tgt := 2) hx hb dX8_word_88 (by decide) ?_
                exact ih2 _ _ _ _ hm (lv_sub hl [1, 2, 3, 0] rfl)
              · have hm := hm.2 c_80
                refine lv_iload_n hx hb dX8_word_83 rfl (lv_at hl 3 rfl) ?_
                exact hret 84 _ _ hm rfl dX8_word_84
            · have hm := hm.2 c_40
              refine va_gets hx hb hR.words va_S.rf hC.2.2.2.1 (hC.2.2.2.2 _ wq_1515) (fun _ h => h) dX8_word_43 ?_
              refine lv_iload_n hx hb dX8_word_46 rfl (lv_at hl 3 rfl) ?_
              refine w_wordAt hC hR va_S.rf hm.1 dX8_word_47 ?_
              have hm := hm.2
              refine lv_iload hx hb dX8_word_48 (lv_at hl 5 rfl) ?_
              refine w_schar hC hR va_S.rf hm.1 hm.2.1 wq_1518 (by decide) hl.1 (Nat.le_of_ble_eq_true rfl) ⟨Nat.le_refl _, Nat.le_refl _⟩ dX8_word_50 ?_
              have hm := hm.2.2
              refine lv_aload_n hx hb dX8_word_53 rfl (lv_at hl 0 rfl) ?_
              refine gMPR_mod_1 hC hK hP wq_1420 dX8_word_54 ?_
              refine lv_iload_n hx hb dX8_word_57 rfl (lv_at hl 1 rfl) ?_
              refine lv_iload hx hb dX8_word_58 (lv_at hl 5 rfl) ?_
              refine lv_iadd hx hb dX8_word_60 ?_
              refine w_iald (q0 := 1) hC hK hP rfl hm.1 dX8_word_61 ?_
              have hm := hm.2
              refine lv_icmp_ne (tgt := 69) hx hb dX8_word_62 (by decide) (fun c_62 => ?_) (fun c_62 => ?_)
              · have hm := hm.1 c_62
                refine lv_iconst (v := 0) hx hb dX8_word_69 (by decide) ?_
                refine lv_istore (lv' := [(4, .int 0), (0, .ref (g 220)), (1, .int v1), (2, .int v2), (3, .int v3), (5, .int v5)]) hx hb dX8_word_70 hl (by decide) rfl (fun ls hl => ?_)
                obtain ⟨v5_72, ev5_72⟩ : ∃ y : Int32, y = v5 + 1 := ⟨_, rfl⟩
                have hm := hm v5_72 ev5_72
                refine lv_iinc (v := v5_72) (lv' := [(5, .int v5_72), (4, .int 0), (0, .ref (g 220)), (1, .int v1), (2, .int v2), (3, .int v3)]) hx hb dX8_word_72 hl (k := 5) rfl (by rw [ev5_72]; rfl) (by decide) rfl (fun ls hl => ?_)
                refine lv_goto (tgt := 32) hx hb dX8_word_75 (by decide) ?_
                exact ih32 _ _ _ _ _ _ hm (lv_sub hl [2, 3, 4, 5, 1, 0] rfl)
              · have hm := hm.2 c_62
                refine lv_iconst (v := 1) hx hb dX8_word_65 (by decide) ?_
                refine lv_goto (tgt := 70) hx hb dX8_word_66 (by decide) ?_
                refine lv_istore (lv' := [(4, .int 1), (0, .ref (g 220)), (1, .int v1), (2, .int v2), (3, .int v3), (5, .int v5)]) hx hb dX8_word_70 hl (by decide) rfl (fun ls hl => ?_)
                obtain ⟨v5_72, ev5_72⟩ : ∃ y : Int32, y = v5 + 1 := ⟨_, rfl⟩
                have hm := hm v5_72 ev5_72
                refine lv_iinc (v := v5_72) (lv' := [(5, .int v5_72), (4, .int 1), (0, .ref (g 220)), (1, .int v1), (2, .int v2), (3, .int v3)]) hx hb dX8_word_72 hl (k := 5) rfl (by rw [ev5_72]; rfl) (by decide) rfl (fun ls hl => ?_)
                refine lv_goto (tgt := 32) hx hb dX8_word_75 (by decide) ?_
                exact ih32 _ _ _ _ _ _ hm (lv_sub hl [2, 3, 4, 5, 1, 0] rfl)
      intro v1 v2 v3 ls hm hl
      refine lv_iload_n hx hb dX8_word_2 rfl (lv_at hl 3 rfl) ?_
      refine va_gets hx hb hR.words va_S.rf hC.2.2.2.1 (hC.2.2.2.2 _ wq_1515) (fun _ h => h) dX8_word_3 ?_
      refine va_tlen hx hb hR.wordsT va_S.rf rfl dX8_word_6 ?_
      refine lv_icmp_ge (tgt := 91) hx hb dX8_word_7 (by decide) (fun c_7 => ?_) (fun c_7 => ?_)
      · have hm := hm.1 c_7
        refine lv_bipush (v := 40) hx hb dX8_word_91 (by decide) ?_
        exact hret 93 _ _ hm rfl dX8_word_93
      · have hm := hm.2 c_7
        refine va_gets hx hb hR.words va_S.rf hC.2.2.2.1 (hC.2.2.2.2 _ wq_1515) (fun _ h => h) dX8_word_10 ?_
        refine lv_iload_n hx hb dX8_word_13 rfl (lv_at hl 3 rfl) ?_
        refine w_wordAt hC hR va_S.rf hm.1 dX8_word_14 ?_
        have hm := hm.2
        refine w_slen hC hR va_S.rf hm.1 wq_1517 (by decide) hl.1 (Nat.le_of_ble_eq_true rfl) ⟨Nat.le_refl _, Nat.le_refl _⟩ dX8_word_15 ?_
        have hm := hm.2
        refine lv_iload_n hx hb dX8_word_18 rfl (lv_at hl 2 rfl) ?_
        refine lv_icmp_ne (tgt := 26) hx hb dX8_word_19 (by decide) (fun c_19 => ?_) (fun c_19 => ?_)
        · have hm := hm.1 c_19
          refine lv_iconst (v := 0) hx hb dX8_word_26 (by decide) ?_
          refine lv_istore (lv' := [(4, .int 0), (0, .ref (g 220)), (1, .int v1), (2, .int v2), (3, .int v3)]) hx hb dX8_word_27 hl (by decide) rfl (fun ls hl => ?_)
          refine lv_iconst (v := 0) hx hb dX8_word_29 (by decide) ?_
          refine lv_istore (lv' := [(5, .int 0), (4, .int 0), (0, .ref (g 220)), (1, .int v1), (2, .int v2), (3, .int v3)]) hx hb dX8_word_30 hl (by decide) rfl (fun ls hl => ?_)
          exact L32 _ _ _ _ _ _ _ hm (lv_sub hl [2, 3, 4, 5, 1, 0] rfl)
        · have hm := hm.2 c_19
          refine lv_iconst (v := 1) hx hb dX8_word_22 (by decide) ?_
          refine lv_goto (tgt := 27) hx hb dX8_word_23 (by decide) ?_
          refine lv_istore (lv' := [(4, .int 1), (0, .ref (g 220)), (1, .int v1), (2, .int v2), (3, .int v3)]) hx hb dX8_word_27 hl (by decide) rfl (fun ls hl => ?_)
          refine lv_iconst (v := 0) hx hb dX8_word_29 (by decide) ?_
          refine lv_istore (lv' := [(5, .int 0), (4, .int 1), (0, .ref (g 220)), (1, .int v1), (2, .int v2), (3, .int v3)]) hx hb dX8_word_30 hl (by decide) rfl (fun ls hl => ?_)
          exact L32 _ _ _ _ _ _ _ hm (lv_sub hl [2, 3, 4, 5, 1, 0] rfl)
  refine lv_iconst (v := 0) hx hb dX8_word_0 (by decide) ?_
  refine lv_istore_n (lv' := [(3, .int 0), (0, .ref (g 220)), (1, .int x1), (2, .int x2)]) hx hb dX8_word_1 rfl hl (by decide) rfl (fun ls hl => ?_)
  exact L2 _ _ _ _ _ hm (lv_sub hl [1, 2, 3, 0] rfl)
section KX8_word
variable {p : Program} {l : Launch} {e : Env} {s : State} {m : MethodId} {args : Array Value} {below : List Frame} {meth : Method} {c : Code} {H H0 : Heap} {locs : List Loc} {cells slots : Nat} {Q : State → Prop} {R : Room} {rn mcR msR : Nat}
variable {pc : Nat} {ls : Array Slot} {rest : List Value} {A : Nat → Prop} {D : va_G}
variable {cc : ByteArray} {nL index : Nat} {own host : String}
theorem k_X8_word {Z : Nat → ClassId} {q g rx : Nat → Nat} {pl sa aa : Nat} {N : M2} {P : M2} {x1 : Int32} {x2 : Int32} {K : Int32 → Prop} (hC : CallFix p m c cc nL s args lw_g own) (hN : NW s) (hR : RD rx (va_A (MPR Z q g rx pl sa aa N P) H.size) s H) (hK : va_K D vwCl (tysG Z) s) (hP : va_P D vwCl (MPR Z q g rx pl sa aa N P) H) (hD : va_D (fun _ => True) (MPR Z q g rx pl sa aa N P)) (hm : wp_X8_word N P x1 x2 K) (hl : Cond.methodLink own index yX8_word ∈ lw_g) (hlt : 4 < rn) (hsize : ls.size = nL) (hW : (rest.map fun v => v.category).sum ≤ 8) (hf : cells + 0 ≤ mcR ∧ slots + 0 ≤ msR) (hdg : decode cc pc = .ok (.invokevirtual index, 3)) (kk : ∀ r : Int32, K r → W p l e (rk rn mcR msR) s m args below meth c H locs cells slots Q (F0 m (pc + 3) ls (.int r :: rest))) : W p l e (rk rn mcR msR) s m args below meth c H locs cells slots Q (F0 m pc ls (.int x2 :: .int x1 :: .ref (g 220) :: rest)) :=
  ro_go (runVR (As := [.int x1, .int x2]) hC hN hR (c_X8_word l D Z q g rx pl sa aa N P H.size x1 x2 K hm) mi_X8_word hl wq_1513 wq_67 hlt hP hD hK (q0 := 0) rfl rfl rfl hsize rfl hW hdg hf) kk
end KX8_word
def wj_X8_kindAt_173 (K : Int32 → M2 → M2 → Prop) (N : M2) (P : M2) (v3 : Int32) (v5 : Int32) (q0 : Int32) (q1 : Int32) : Prop := (inb q1 401 ∧ ∀ N_173 : M2, N_173 = up2 N 226 (upd (N 226) q1.toInt.toNat q0) → ((v5 = 0 → ((v3 ≤ 0 → K 901 N_173 P) ∧ (¬ v3 ≤ 0 → ((128 ≤ v3 → K 901 N_173 P) ∧ (¬ 128 ≤ v3 → (32 < 65 ∧ (((jixv (sb 32) (sn 32) ((v3.toUInt32 % 65536).toInt32)) < 0 → K 901 N_173 P) ∧ (¬ (jixv (sb 32) (sn 32) ((v3.toUInt32 % 65536).toInt32)) < 0 → K (50 + v3) N_173 P)))))))) ∧ (¬ v5 = 0 → ((¬ v3 = 60 → K 301 N_173 P) ∧ (v3 = 60 → K 300 N_173 P)))))
def wj_X8_kindAt_156 (K : Int32 → M2 → M2 → Prop) (N : M2) (P : M2) (v2 : Int32) (v3 : Int32) (q0 : Int32) : Prop := ((q0 = 0 → wj_X8_kindAt_173 K N P v3 q0 1 v2) ∧ (¬ q0 = 0 → wj_X8_kindAt_173 K N P v3 q0 2 v2))
def wj_X8_kindAt_140 (K : Int32 → M2 → M2 → Prop) (N : M2) (P : M2) (v2 : Int32) (v3 : Int32) (v4 : Int32) : Prop := wp_X8_byteOf N P v4 (fun r_143 => ((¬ r_143 = 61 → wj_X8_kindAt_156 K N P v2 v3 0) ∧ (r_143 = 61 → wj_X8_kindAt_156 K N P v2 v3 1)))
def wj_X8_kindAt_99 (K : Int32 → M2 → M2 → Prop) (N : M2) (P : M2) (v1 : Int32) (v3 : Int32) (v4 : Int32) (q0 : Int32) (q1 : Int32) : Prop := ((q1 ≤ q0 → wp_X8_isLetter v3 (fun r_107 => ((r_107 = 0 → K 41 N P) ∧ (¬ r_107 = 0 → wp_X8_word N P v1 (v4 - v1) (fun r_119 => K r_119 N P))))) ∧ (¬ q1 ≤ q0 → K 901 N P))
def wj_X8_kindAt_71 (K : Int32 → M2 → M2 → Prop) (N : M2) (P : M2) (v1 : Int32) (v2 : Int32) (v3 : Int32) (v4 : Int32) : Prop := (inb v2 401 ∧ ∀ N_80 : M2, N_80 = up2 N 226 (upd (N 226) v2.toInt.toNat (v4 - v1)) → wp_X8_isLetter v3 (fun r_86 => ((r_86 = 0 → wj_X8_kindAt_99 K N_80 P v1 v3 v4 6 (v4 - v1)) ∧ (¬ r_86 = 0 → wj_X8_kindAt_99 K N_80 P v1 v3 v4 10 (v4 - v1)))))
def wl_X8_kindAt_34 (K : Int32 → M2 → M2 → Prop) : Nat → M2 → M2 → Int32 → Int32 → Int32 → Int32 → Prop
  | 0, _, _, _, _, _, _ => False
  | n + 1, N, P, v1, v2, v3, v4 => wp_X8_byteOf N P v4 (fun r_37 => wp_X8_isDigit r_37 (fun r_40 => ((¬ r_40 = 0 → (∀ v4_65 : Int32, v4_65 = v4 + 1 → wl_X8_kindAt_34 K n N P v1 v2 v3 v4_65)) ∧ (r_40 = 0 → wp_X8_isLetter v3 (fun r_47 => ((r_47 = 0 → wj_X8_kindAt_71 K N P v1 v2 v3 v4) ∧ (¬ r_47 = 0 → wp_X8_byteOf N P v4 (fun r_56 => wp_X8_isLetter r_56 (fun r_59 => ((r_59 = 0 → wj_X8_kindAt_71 K N P v1 v2 v3 v4) ∧ (¬ r_59 = 0 → (∀ v4_65 : Int32, v4_65 = v4 + 1 → wl_X8_kindAt_34 K n N P v1 v2 v3 v4_65))))))))))))
def wp_X8_kindAt (N : M2) (P : M2) (x1 : Int32) (x2 : Int32) (K : Int32 → M2 → M2 → Prop) : Prop := wp_X8_byteOf N P x1 (fun r_2 => (∀ v4_9, v4_9 = x1 + 1 → ((¬ r_2 = ((-1)) → wp_X8_isLetter r_2 (fun r_21 => ((¬ r_21 = 0 → wl_X8_kindAt_34 K fK N P x1 x2 r_2 v4_9) ∧ (r_21 = 0 → wp_X8_isDigit r_2 (fun r_28 => ((r_28 = 0 → ((r_2 = 60 → wj_X8_kindAt_140 K N P x2 r_2 v4_9) ∧ (¬ r_2 = 60 → ((¬ r_2 = 62 → wj_X8_kindAt_156 K N P x2 r_2 0) ∧ (r_2 = 62 → wj_X8_kindAt_140 K N P x2 r_2 v4_9))))) ∧ (¬ r_28 = 0 → wl_X8_kindAt_34 K fK N P x1 x2 r_2 v4_9))))))) ∧ (r_2 = ((-1)) → K 900 N P))))
set_option maxRecDepth 100000 in
set_option maxHeartbeats 4000000 in
theorem c_X8_kindAt (l : Launch) (D : va_G) (Z : Nat → ClassId) (q g rx : Nat → Nat) (pl sa aa : Nat) (N : M2) (P : M2) (sz : Nat) (x1 : Int32) (x2 : Int32) (K : Int32 → M2 → M2 → Prop) (hm : wp_X8_kindAt N P x1 x2 K) : Met l yX8_kindAt (wy yX8_kindAt cX8_kindAt 6 (some .int)) (rk 5 0 0) (preR vwCl D Z rx (MPR Z q g rx pl sa aa N P) sz [.ref (g 220), .int x1, .int x2]) (poI vwCl D Z (fun u : M2 × M2 => MPR Z q g rx pl sa aa u.1 u.2) (N, P) sz (fun (r : Int32) (u : M2 × M2) => K r u.1 u.2)) 0 0 (va_A (MPR Z q g rx pl sa aa N P) sz) := by
  refine rw_ofR (ty := .int) (wsF := (fun u : M2 × M2 => MPR Z q g rx pl sa aa u.1 u.2)) (u0 := (N, P)) (by decide +kernel) (Nat.le_of_ble_eq_true rfl) rfl ?_
  intro p e s m args below meth c Q A hC hN hR hsz hT hK hret ls hl
  have hx := hC.1
  have hb := hC.2.1
  have hl : lv_has ls 6 [(0, .ref (g 220)), (1, .int x1), (2, .int x2)] := hl
  have hT : TS vwCl D (MPR Z q g rx pl sa aa N P) A s.heap s.heap [] := hT
  have L173 : ∀ (N : M2) (P : M2) (v3 : Int32) (v5 : Int32) (q0 : Int32) (q1 : Int32) (H : Heap) (locs : List Loc) (ls : Array Slot), wj_X8_kindAt_173 K N P v3 v5 q0 q1 → TS vwCl D (MPR Z q g rx pl sa aa N P) A s.heap H locs → lv_has ls 6 [(3, .int v3), (5, .int v5)] → W p l e (rk 5 0 0) s m args below meth c H locs 0 0 Q (F0 m 173 ls [.int q0, .int q1, .ref (g 226)]) := by
    intro N P v3 v5 q0 q1 H locs ls hm hT hl
    refine sMPR_many hC hK hT hm.1 dX8_kindAt_173 (fun N_173 eN_173 H locs hT => ?_)
    have hm := hm.2 N_173 eN_173
    refine lv_iload hx hb dX8_kindAt_174 (lv_at hl 1 rfl) ?_
    refine lv_if_eq (tgt := 195) hx hb dX8_kindAt_176 (by decide) (fun c_176 => ?_) (fun c_176 => ?_)
    · have hm := hm.1 c_176
      refine lv_iload_n hx hb dX8_kindAt_195 rfl (lv_at hl 0 rfl) ?_
      refine lv_if_le (tgt := 223) hx hb dX8_kindAt_196 (by decide) (fun c_196 => ?_) (fun c_196 => ?_)
      · have hm := hm.1 c_196
        refine lv_sipush (v := 901) hx hb dX8_kindAt_223 (by decide) ?_
        exact hret 226 _ _ _ _ (N_173, P) hm hT rfl dX8_kindAt_226
      · have hm := hm.2 c_196
        refine lv_iload_n hx hb dX8_kindAt_199 rfl (lv_at hl 0 rfl) ?_
        refine lv_sipush (v := 128) hx hb dX8_kindAt_200 (by decide) ?_
        refine lv_icmp_ge (tgt := 223) hx hb dX8_kindAt_203 (by decide) (fun c_203 => ?_) (fun c_203 => ?_)
        · have hm := hm.1 c_203
          refine lv_sipush (v := 901) hx hb dX8_kindAt_223 (by decide) ?_
          exact hret 226 _ _ _ _ (N_173, P) hm hT rfl dX8_kindAt_226
        · have hm := hm.2 c_203
          refine va_ldcS hx hb hC.2.2.2.1 hR.ldc32 dX8_kindAt_206 ?_
          refine lv_iload_n hx hb dX8_kindAt_208 rfl (lv_at hl 0 rfl) ?_
          refine lv_i2c (v := (v3.toUInt32 % 65536).toInt32) hx hb dX8_kindAt_209 rfl ?_
          refine w_sixof hC hR hT.2.2.1 hm.1 wq_1520 (by decide) hl.1 (Nat.le_of_ble_eq_true rfl) ⟨Nat.le_refl _, Nat.le_refl _⟩ dX8_kindAt_210 ?_
          have hm := hm.2
          refine lv_if_lt (tgt := 223) hx hb dX8_kindAt_213 (by decide) (fun c_213 => ?_) (fun c_213 => ?_)
          · have hm := hm.1 c_213
            refine lv_sipush (v := 901) hx hb dX8_kindAt_223 (by decide) ?_
            exact hret 226 _ _ _ _ (N_173, P) hm hT rfl dX8_kindAt_226
          · have hm := hm.2 c_213
            refine lv_bipush (v := 50) hx hb dX8_kindAt_216 (by decide) ?_
            refine lv_iload_n hx hb dX8_kindAt_218 rfl (lv_at hl 0 rfl) ?_
            refine lv_iadd hx hb dX8_kindAt_219 ?_
            refine lv_goto (tgt := 226) hx hb dX8_kindAt_220 (by decide) ?_
            exact hret 226 _ _ _ _ (N_173, P) hm hT rfl dX8_kindAt_226
    · have hm := hm.2 c_176
      refine lv_iload_n hx hb dX8_kindAt_179 rfl (lv_at hl 0 rfl) ?_
      refine lv_bipush (v := 60) hx hb dX8_kindAt_180 (by decide) ?_
      refine lv_icmp_ne (tgt := 191) hx hb dX8_kindAt_182 (by decide) (fun c_182 => ?_) (fun c_182 => ?_)
      · have hm := hm.1 c_182
        refine lv_sipush (v := 301) hx hb dX8_kindAt_191 (by decide) ?_
        exact hret 194 _ _ _ _ (N_173, P) hm hT rfl dX8_kindAt_194
      · have hm := hm.2 c_182
        refine lv_sipush (v := 300) hx hb dX8_kindAt_185 (by decide) ?_
        refine lv_goto (tgt := 194) hx hb dX8_kindAt_188 (by decide) ?_
        exact hret 194 _ _ _ _ (N_173, P) hm hT rfl dX8_kindAt_194
  have L156 : ∀ (N : M2) (P : M2) (v2 : Int32) (v3 : Int32) (q0 : Int32) (H : Heap) (locs : List Loc) (ls : Array Slot), wj_X8_kindAt_156 K N P v2 v3 q0 → TS vwCl D (MPR Z q g rx pl sa aa N P) A s.heap H locs → lv_has ls 6 [(0, .ref (g 220)), (2, .int v2), (3, .int v3)] → W p l e (rk 5 0 0) s m args below meth c H locs 0 0 Q (F0 m 156 ls [.int q0]) := by
    intro N P v2 v3 q0 H locs ls hm hT hl
    refine lv_istore (lv' := [(5, .int q0), (0, .ref (g 220)), (2, .int v2), (3, .int v3)]) hx hb dX8_kindAt_156 hl (by decide) rfl (fun ls hl => ?_)
    refine lv_aload_n hx hb dX8_kindAt_158 rfl (lv_at hl 1 rfl) ?_
    refine gMPR_mod_6 hC hK hT.1 wq_1425 dX8_kindAt_159 ?_
    refine lv_iload_n hx hb dX8_kindAt_162 rfl (lv_at hl 2 rfl) ?_
    refine lv_iload hx hb dX8_kindAt_163 (lv_at hl 0 rfl) ?_
    refine lv_if_eq (tgt := 172) hx hb dX8_kindAt_165 (by decide) (fun c_165 => ?_) (fun c_165 => ?_)
    · have hm := hm.1 c_165
      refine lv_iconst (v := 1) hx hb dX8_kindAt_172 (by decide) ?_
      exact L173 _ _ _ _ _ _ _ _ _ hm hT (lv_sub hl [3, 0] rfl)
    · have hm := hm.2 c_165
      refine lv_iconst (v := 2) hx hb dX8_kindAt_168 (by decide) ?_
      refine lv_goto (tgt := 173) hx hb dX8_kindAt_169 (by decide) ?_
      exact L173 _ _ _ _ _ _ _ _ _ hm hT (lv_sub hl [3, 0] rfl)
  have L140 : ∀ (N : M2) (P : M2) (v2 : Int32) (v3 : Int32) (v4 : Int32) (H : Heap) (locs : List Loc) (ls : Array Slot), wj_X8_kindAt_140 K N P v2 v3 v4 → TS vwCl D (MPR Z q g rx pl sa aa N P) A s.heap H locs → lv_has ls 6 [(0, .ref (g 220)), (2, .int v2), (3, .int v3), (4, .int v4)] → W p l e (rk 5 0 0) s m args below meth c H locs 0 0 Q (F0 m 140 ls []) := by
    intro N P v2 v3 v4 H locs ls hm hT hl
    refine lv_aload_n hx hb dX8_kindAt_140 rfl (lv_at hl 0 rfl) ?_
    refine lv_iload hx hb dX8_kindAt_141 (lv_at hl 3 rfl) ?_
    refine kx_X8_byteOf hC hN hK hT.1 hT.D' (sx_MPMPR Z q g rx pl sa aa N P) rfl hm wq_1497 (by decide) hl.1 (Nat.le_of_ble_eq_true rfl) ⟨Nat.le_refl _, Nat.le_refl _⟩ dX8_kindAt_143 (fun r_143 hm => ?_)
    refine lv_bipush (v := 61) hx hb dX8_kindAt_146 (by decide) ?_
    refine lv_icmp_ne (tgt := 155) hx hb dX8_kindAt_148 (by decide) (fun c_148 => ?_) (fun c_148 => ?_)
    · have hm := hm.1 c_148
      refine lv_iconst (v := 0) hx hb dX8_kindAt_155 (by decide) ?_
      exact L156 _ _ _ _ _ _ _ _ hm hT (lv_sub hl [0, 1, 2] rfl)
    · have hm := hm.2 c_148
      refine lv_iconst (v := 1) hx hb dX8_kindAt_151 (by decide) ?_
      refine lv_goto (tgt := 156) hx hb dX8_kindAt_152 (by decide) ?_
      exact L156 _ _ _ _ _ _ _ _ hm hT (lv_sub hl [0, 1, 2] rfl)
  have L99 : ∀ (N : M2) (P : M2) (v1 : Int32) (v3 : Int32) (v4 : Int32) (q0 : Int32) (q1 : Int32) (H : Heap) (locs : List Loc) (ls : Array Slot), wj_X8_kindAt_99 K N P v1 v3 v4 q0 q1 → TS vwCl D (MPR Z q g rx pl sa aa N P) A s.heap H locs → lv_has ls 6 [(0, .ref (g 220)), (1, .int v1), (3, .int v3), (4, .int v4)] → W p l e (rk 5 0 0) s m args below meth c H locs 0 0 Q (F0 m 99 ls [.int q0, .int q1]) := by
    intro N P v1 v3 v4 q0 q1 H locs ls hm hT hl
    refine lv_icmp_le (tgt := 106) hx hb dX8_kindAt_99 (by decide) (fun c_99 => ?_) (fun c_99 => ?_)
    · have hm := hm.1 c_99
      refine lv_iload_n hx hb dX8_kindAt_106 rfl (lv_at hl 2 rfl) ?_
      refine kx_X8_isLetter hC hN hK hT.1 hT.D' (sx_EWMPR Z q g rx pl sa aa N P) rfl hm wq_1505 (by decide) hl.1 (Nat.le_of_ble_eq_true rfl) ⟨Nat.le_refl _, Nat.le_refl _⟩ dX8_kindAt_107 (fun r_107 hm => ?_)
      refine lv_if_eq (tgt := 125) hx hb dX8_kindAt_110 (by decide) (fun c_110 => ?_) (fun c_110 => ?_)
      · have hm := hm.1 c_110
        refine lv_bipush (v := 41) hx hb dX8_kindAt_125 (by decide) ?_
        exact hret 127 _ _ _ _ (N, P) hm hT rfl dX8_kindAt_127
      · have hm := hm.2 c_110
        refine lv_aload_n hx hb dX8_kindAt_113 rfl (lv_at hl 0 rfl) ?_
        refine lv_iload_n hx hb dX8_kindAt_114 rfl (lv_at hl 1 rfl) ?_
        refine lv_iload hx hb dX8_kindAt_115 (lv_at hl 3 rfl) ?_
        refine lv_iload_n hx hb dX8_kindAt_117 rfl (lv_at hl 1 rfl) ?_
        refine lv_isub hx hb dX8_kindAt_118 ?_
        refine k_X8_word hC hN (hT.rd hR) hK hT.1 hT.D' hm wq_1511 (by decide) hl.1 (Nat.le_of_ble_eq_true rfl) ⟨Nat.le_refl _, Nat.le_refl _⟩ dX8_kindAt_119 (fun r_119 hm => ?_)
        refine lv_goto (tgt := 127) hx hb dX8_kindAt_122 (by decide) ?_
        exact hret 127 _ _ _ _ (N, P) hm hT rfl dX8_kindAt_127
    · have hm := hm.2 c_99
      refine lv_sipush (v := 901) hx hb dX8_kindAt_102 (by decide) ?_
      exact hret 105 _ _ _ _ (N, P) hm hT rfl dX8_kindAt_105
  have L71 : ∀ (N : M2) (P : M2) (v1 : Int32) (v2 : Int32) (v3 : Int32) (v4 : Int32) (H : Heap) (locs : List Loc) (ls : Array Slot), wj_X8_kindAt_71 K N P v1 v2 v3 v4 → TS vwCl D (MPR Z q g rx pl sa aa N P) A s.heap H locs → lv_has ls 6 [(0, .ref (g 220)), (1, .int v1), (2, .int v2), (3, .int v3), (4, .int v4)] → W p l e (rk 5 0 0) s m args below meth c H locs 0 0 Q (F0 m 71 ls []) := by
    intro N P v1 v2 v3 v4 H locs ls hm hT hl
    refine lv_aload_n hx hb dX8_kindAt_71 rfl (lv_at hl 0 rfl) ?_
    refine gMPR_mod_6 hC hK hT.1 wq_1425 dX8_kindAt_72 ?_
    refine lv_iload_n hx hb dX8_kindAt_75 rfl (lv_at hl 2 rfl) ?_
    refine lv_iload hx hb dX8_kindAt_76 (lv_at hl 4 rfl) ?_
    refine lv_iload_n hx hb dX8_kindAt_78 rfl (lv_at hl 1 rfl) ?_
    refine lv_isub hx hb dX8_kindAt_79 ?_
    refine sMPR_many hC hK hT hm.1 dX8_kindAt_80 (fun N_80 eN_80 H locs hT => ?_)
    have hm := hm.2 N_80 eN_80
    refine lv_iload hx hb dX8_kindAt_81 (lv_at hl 4 rfl) ?_
    refine lv_iload_n hx hb dX8_kindAt_83 rfl (lv_at hl 1 rfl) ?_
    refine lv_isub hx hb dX8_kindAt_84 ?_
    refine lv_iload_n hx hb dX8_kindAt_85 rfl (lv_at hl 3 rfl) ?_
    refine kx_X8_isLetter hC hN hK hT.1 hT.D' (sx_EWMPR Z q g rx pl sa aa N_80 P) rfl hm wq_1505 (by decide) hl.1 (Nat.le_of_ble_eq_true rfl) ⟨Nat.le_refl _, Nat.le_refl _⟩ dX8_kindAt_86 (fun r_86 hm => ?_)
    refine lv_if_eq (tgt := 97) hx hb dX8_kindAt_89 (by decide) (fun c_89 => ?_) (fun c_89 => ?_)
    · have hm := hm.1 c_89
      refine lv_bipush (v := 6) hx hb dX8_kindAt_97 (by decide) ?_
      exact L99 _ _ _ _ _ _ _ _ _ _ hm hT (lv_sub hl [0, 1, 3, 4] rfl)
    · have hm := hm.2 c_89
      refine lv_bipush (v := 10) hx hb dX8_kindAt_92 (by decide) ?_
      refine lv_goto (tgt := 99) hx hb dX8_kindAt_94 (by decide) ?_
      exact L99 _ _ _ _ _ _ _ _ _ _ hm hT (lv_sub hl [0, 1, 3, 4] rfl)
  have L34 : ∀ (n34 : Nat), ∀ (N : M2) (P : M2) (v1 : Int32) (v2 : Int32) (v3 : Int32) (v4 : Int32) (H : Heap) (locs : List Loc) (ls : Array Slot), wl_X8_kindAt_34 K n34 N P v1 v2 v3 v4 → TS vwCl D (MPR Z q g rx pl sa aa N P) A s.heap H locs → lv_has ls 6 [(0, .ref (g 220)), (1, .int v1), (2, .int v2), (3, .int v3), (4, .int v4)] → W p l e (rk 5 0 0) s m args below meth c H locs 0 0 Q (F0 m 34 ls []) := by
    intro n34
    induction n34 with
    | zero =>
      intro N P v1 v2 v3 v4 H locs ls hm hT hl
      exact False.elim hm
    | succ n34 ih34 =>
      intro N P v1 v2 v3 v4 H locs ls hm hT hl
      refine lv_aload_n hx hb dX8_kindAt_34 rfl (lv_at hl 0 rfl) ?_
      refine lv_iload hx hb dX8_kindAt_35 (lv_at hl 4 rfl) ?_
      refine kx_X8_byteOf hC hN hK hT.1 hT.D' (sx_MPMPR Z q g rx pl sa aa N P) rfl hm wq_1497 (by decide) hl.1 (Nat.le_of_ble_eq_true rfl) ⟨Nat.le_refl _, Nat.le_refl _⟩ dX8_kindAt_37 (fun r_37 hm => ?_)
      refine kx_X8_isDigit hC hN hK hT.1 hT.D' (sx_EWMPR Z q g rx pl sa aa N P) rfl hm wq_1508 (by decide) hl.1 (Nat.le_of_ble_eq_true rfl) ⟨Nat.le_refl _, Nat.le_refl _⟩ dX8_kindAt_40 (fun r_40 hm => ?_)
      refine lv_if_ne (tgt := 65) hx hb dX8_kindAt_43 (by decide) (fun c_43 => ?_) (fun c_43 => ?_)
      · have hm := hm.1 c_43
        obtain ⟨v4_65, ev4_65⟩ : ∃ y : Int32, y = v4 + 1 := ⟨_, rfl⟩
        have hm := hm v4_65 ev4_65
        refine lv_iinc (v := v4_65) (lv' := [(4, .int v4_65), (0, .ref (g 220)), (1, .int v1), (2, .int v2), (3, .int v3)]) hx hb dX8_kindAt_65 hl (k := 4) rfl (by rw [ev4_65]; rfl) (by decide) rfl (fun ls hl => ?_)
        refine lv_goto (tgt := 34) hx hb dX8_kindAt_68 (by decide) ?_
        exact ih34 _ _ _ _ _ _ _ _ _ hm hT (lv_sub hl [1, 2, 3, 4, 0] rfl)
      · have hm := hm.2 c_43
        refine lv_iload_n hx hb dX8_kindAt_46 rfl (lv_at hl 3 rfl) ?_
        refine kx_X8_isLetter hC hN hK hT.1 hT.D' (sx_EWMPR Z q g rx pl sa aa N P) rfl hm wq_1505 (by decide) hl.1 (Nat.le_of_ble_eq_true rfl) ⟨Nat.le_refl _, Nat.le_refl _⟩ dX8_kindAt_47 (fun r_47 hm => ?_)
        refine lv_if_eq (tgt := 71) hx hb dX8_kindAt_50 (by decide) (fun c_50 => ?_) (fun c_50 => ?_)
        · have hm := hm.1 c_50
          exact L71 _ _ _ _ _ _ _ _ _ hm hT (lv_sub hl [0, 1, 2, 3, 4] rfl)
        · have hm := hm.2 c_50
          refine lv_aload_n hx hb dX8_kindAt_53 rfl (lv_at hl 0 rfl) ?_
          refine lv_iload hx hb dX8_kindAt_54 (lv_at hl 4 rfl) ?_
          refine kx_X8_byteOf hC hN hK hT.1 hT.D' (sx_MPMPR Z q g rx pl sa aa N P) rfl hm wq_1497 (by decide) hl.1 (Nat.le_of_ble_eq_true rfl) ⟨Nat.le_refl _, Nat.le_refl _⟩ dX8_kindAt_56 (fun r_56 hm => ?_)
          refine kx_X8_isLetter hC hN hK hT.1 hT.D' (sx_EWMPR Z q g rx pl sa aa N P) rfl hm wq_1505 (by decide) hl.1 (Nat.le_of_ble_eq_true rfl) ⟨Nat.le_refl _, Nat.le_refl _⟩ dX8_kindAt_59 (fun r_59 hm => ?_)
          refine lv_if_eq (tgt := 71) hx hb dX8_kindAt_62 (by decide) (fun c_62 => ?_) (fun c_62 => ?_)
          · have hm := hm.1 c_62
            exact L71 _ _ _ _ _ _ _ _ _ hm hT (lv_sub hl [0, 1, 2, 3, 4] rfl)
          · have hm := hm.2 c_62
            obtain ⟨v4_65, ev4_65⟩ : ∃ y : Int32, y = v4 + 1 := ⟨_, rfl⟩
            have hm := hm v4_65 ev4_65
            refine lv_iinc (v := v4_65) (lv' := [(4, .int v4_65), (0, .ref (g 220)), (1, .int v1), (2, .int v2), (3, .int v3)]) hx hb dX8_kindAt_65 hl (k := 4) rfl (by rw [ev4_65]; rfl) (by decide) rfl (fun ls hl => ?_)
            refine lv_goto (tgt := 34) hx hb dX8_kindAt_68 (by decide) ?_
            exact ih34 _ _ _ _ _ _ _ _ _ hm hT (lv_sub hl [1, 2, 3, 4, 0] rfl)
  refine lv_aload_n hx hb dX8_kindAt_0 rfl (lv_at hl 0 rfl) ?_
  refine lv_iload_n hx hb dX8_kindAt_1 rfl (lv_at hl 1 rfl) ?_
  refine kx_X8_byteOf hC hN hK hT.1 hT.D' (sx_MPMPR Z q g rx pl sa aa N P) rfl hm wq_1497 (by decide) hl.1 (Nat.le_of_ble_eq_true rfl) ⟨Nat.le_refl _, Nat.le_refl _⟩ dX8_kindAt_2 (fun r_2 hm => ?_)
  refine lv_istore_n (lv' := [(3, .int r_2), (0, .ref (g 220)), (1, .int x1), (2, .int x2)]) hx hb dX8_kindAt_5 rfl hl (by decide) rfl (fun ls hl => ?_)
  refine lv_iload_n hx hb dX8_kindAt_6 rfl (lv_at hl 2 rfl) ?_
  refine lv_iconst (v := 1) hx hb dX8_kindAt_7 (by decide) ?_
  refine lv_iadd hx hb dX8_kindAt_8 ?_
  refine lv_topi (fun v4_9 ev4_9 => ?_)
  have hm := hm v4_9 ev4_9
  refine lv_istore (lv' := [(4, .int v4_9), (3, .int r_2), (0, .ref (g 220)), (1, .int x1), (2, .int x2)]) hx hb dX8_kindAt_9 hl (by decide) rfl (fun ls hl => ?_)
  refine lv_iload_n hx hb dX8_kindAt_11 rfl (lv_at hl 1 rfl) ?_
  refine lv_iconst (v := (-1)) hx hb dX8_kindAt_12 (by decide) ?_
  refine lv_icmp_ne (tgt := 20) hx hb dX8_kindAt_13 (by decide) (fun c_13 => ?_) (fun c_13 => ?_)
  · have hm := hm.1 c_13
    refine lv_iload_n hx hb dX8_kindAt_20 rfl (lv_at hl 1 rfl) ?_
    refine kx_X8_isLetter hC hN hK hT.1 hT.D' (sx_EWMPR Z q g rx pl sa aa N P) rfl hm wq_1505 (by decide) hl.1 (Nat.le_of_ble_eq_true rfl) ⟨Nat.le_refl _, Nat.le_refl _⟩ dX8_kindAt_21 (fun r_21 hm => ?_)
    refine lv_if_ne (tgt := 34) hx hb dX8_kindAt_24 (by decide) (fun c_24 => ?_) (fun c_24 => ?_)
    · have hm := hm.1 c_24
      exact L34 _ _ _ _ _ _ _ _ _ _ hm hT (lv_sub hl [2, 3, 4, 1, 0] rfl)
    · have hm := hm.2 c_24
      refine lv_iload_n hx hb dX8_kindAt_27 rfl (lv_at hl 1 rfl) ?_
      refine kx_X8_isDigit hC hN hK hT.1 hT.D' (sx_EWMPR Z q g rx pl sa aa N P) rfl hm wq_1508 (by decide) hl.1 (Nat.le_of_ble_eq_true rfl) ⟨Nat.le_refl _, Nat.le_refl _⟩ dX8_kindAt_28 (fun r_28 hm => ?_)
      refine lv_if_eq (tgt := 128) hx hb dX8_kindAt_31 (by decide) (fun c_31 => ?_) (fun c_31 => ?_)
      · have hm := hm.1 c_31
        refine lv_iload_n hx hb dX8_kindAt_128 rfl (lv_at hl 1 rfl) ?_
        refine lv_bipush (v := 60) hx hb dX8_kindAt_129 (by decide) ?_
        refine lv_icmp_eq (tgt := 140) hx hb dX8_kindAt_131 (by decide) (fun c_131 => ?_) (fun c_131 => ?_)
        · have hm := hm.1 c_131
          exact L140 _ _ _ _ _ _ _ _ hm hT (lv_sub hl [2, 4, 1, 0] rfl)
        · have hm := hm.2 c_131
          refine lv_iload_n hx hb dX8_kindAt_134 rfl (lv_at hl 1 rfl) ?_
          refine lv_bipush (v := 62) hx hb dX8_kindAt_135 (by decide) ?_
          refine lv_icmp_ne (tgt := 155) hx hb dX8_kindAt_137 (by decide) (fun c_137 => ?_) (fun c_137 => ?_)
          · have hm := hm.1 c_137
            refine lv_iconst (v := 0) hx hb dX8_kindAt_155 (by decide) ?_
            exact L156 _ _ _ _ _ _ _ _ hm hT (lv_sub hl [2, 4, 1] rfl)
          · have hm := hm.2 c_137
            exact L140 _ _ _ _ _ _ _ _ hm hT (lv_sub hl [2, 4, 1, 0] rfl)
      · have hm := hm.2 c_31
        exact L34 _ _ _ _ _ _ _ _ _ _ hm hT (lv_sub hl [2, 3, 4, 1, 0] rfl)
  · have hm := hm.2 c_13
    refine lv_sipush (v := 900) hx hb dX8_kindAt_16 (by decide) ?_
    exact hret 19 _ _ _ _ (N, P) hm hT rfl dX8_kindAt_19
section KX8_kindAt
variable {p : Program} {l : Launch} {e : Env} {s : State} {m : MethodId} {args : Array Value} {below : List Frame} {meth : Method} {c : Code} {H H0 : Heap} {locs : List Loc} {cells slots : Nat} {Q : State → Prop} {R : Room} {rn mcR msR : Nat}
variable {pc : Nat} {ls : Array Slot} {rest : List Value} {A : Nat → Prop} {D : va_G}
variable {cc : ByteArray} {nL index : Nat} {own host : String}
theorem k_X8_kindAt {Z : Nat → ClassId} {q g rx : Nat → Nat} {pl sa aa : Nat} {N : M2} {P : M2} {x1 : Int32} {x2 : Int32} {K : Int32 → M2 → M2 → Prop} (hC : CallFix p m c cc nL s args lw_g own) (hN : NW s) (hR : RD rx (va_A (MPR Z q g rx pl sa aa N P) H.size) s H) (hK : va_K D vwCl (tysG Z) s) (hT : TS vwCl D (MPR Z q g rx pl sa aa N P) A H0 H locs) (hm : wp_X8_kindAt N P x1 x2 K) (hl : Cond.methodLink own index yX8_kindAt ∈ lw_g) (hlt : 5 < rn) (hsize : ls.size = nL) (hW : (rest.map fun v => v.category).sum ≤ 8) (hf : cells + 0 ≤ mcR ∧ slots + 0 ≤ msR) (hdg : decode cc pc = .ok (.invokevirtual index, 3)) (kk : ∀ (r : Int32) (N1 : M2) (P1 : M2) (H1 : Heap) (locs1 : List Loc), K r N1 P1 → TS vwCl D (MPR Z q g rx pl sa aa N1 P1) A H0 H1 locs1 → W p l e (rk rn mcR msR) s m args below meth c H1 locs1 cells slots Q (F0 m (pc + 3) ls (.int r :: rest))) : W p l e (rk rn mcR msR) s m args below meth c H locs cells slots Q (F0 m pc ls (.int x2 :: .int x1 :: .ref (g 220) :: rest)) :=
  rw_go (wsF := (fun u : M2 × M2 => MPR Z q g rx pl sa aa u.1 u.2)) (u0 := (N, P)) (wr := []) (isC := cutMPR) (isR := []) (pm := cutMPR) (ws' := (fun u : M2 × M2 => MPR Z q g rx pl sa aa u.1 u.2)) (runVR (As := [.int x1, .int x2]) hC hN hR (c_X8_kindAt l D Z q g rx pl sa aa N P H.size x1 x2 K hm) mi_X8_kindAt hl wq_1503 wq_66 hlt hT.1 hT.D' hK (q0 := 0) rfl rfl rfl hsize rfl hW hdg hf) (cutOkMPR Z q g rx pl sa aa N P) hT (fun r u H1 locs1 hk hT1 => kk r u.1 u.2 H1 locs1 hk hT1)
end KX8_kindAt
def wj_X8_cut_98 (C4 : M2 → M2 → Int32 → Int32 → Prop) (K : M2 → M2 → Prop) (N : M2) (P : M2) (v1 : Int32) (v2 : Int32) : Prop := (inb v2 401 ∧ (((N 224 v2.toInt.toNat) < 900 → (inb v2 401 ∧ (∀ v1_119, v1_119 = v1 + (N 226 v2.toInt.toNat) → (∀ v2_120 : Int32, v2_120 = v2 + 1 → C4 N P v1_119 v2_120)))) ∧ (¬ (N 224 v2.toInt.toNat) < 900 → K N P)))
def wl_X8_cut_11 (C4 : M2 → M2 → Int32 → Int32 → Prop) (K : M2 → M2 → Prop) : Nat → M2 → M2 → Int32 → Int32 → Prop
  | 0, _, _, _, _ => False
  | n + 1, N, P, v1, v2 => wp_X8_byteOf N P v1 (fun r_13 => ((r_13 = 32 → (∀ v1_31 : Int32, v1_31 = v1 + 1 → wl_X8_cut_11 C4 K n N P v1_31 v2)) ∧ (¬ r_13 = 32 → wp_X8_byteOf N P v1 (fun r_23 => ((¬ r_23 = 10 → (inb v2 401 ∧ ∀ N_43 : M2, N_43 = up2 N 225 (upd (N 225) v2.toInt.toNat v1) → (inb v2 401 ∧ ∀ N_50 : M2, N_50 = up2 N_43 227 (upd (N_43 227) v2.toInt.toNat 0) → (inb v2 401 ∧ ∀ N_57 : M2, N_57 = up2 N_50 228 (upd (N_50 228) v2.toInt.toNat 0) → wp_X8_kindAt N_57 P v1 v2 (fun r_66 N_66 P_66 => (inb v2 401 ∧ ∀ N_69 : M2, N_69 = up2 N_66 224 (upd (N_66 224) v2.toInt.toNat r_66) → ((¬ v2 = 400 → wj_X8_cut_98 C4 K N_69 P_66 v1 v2) ∧ (v2 = 400 → (inb v2 401 ∧ (((N_69 224 v2.toInt.toNat) = 900 → wj_X8_cut_98 C4 K N_69 P_66 v1 v2) ∧ (¬ (N_69 224 v2.toInt.toNat) = 900 → (inb v2 401 ∧ ∀ N_97 : M2, N_97 = up2 N_69 224 (upd (N_69 224) v2.toInt.toNat 901) → wj_X8_cut_98 C4 K N_97 P_66 v1 v2)))))))))))) ∧ (r_23 = 10 → (∀ v1_31 : Int32, v1_31 = v1 + 1 → wl_X8_cut_11 C4 K n N P v1_31 v2)))))))
def wl_X8_cut_4 (K : M2 → M2 → Prop) : Nat → M2 → M2 → Int32 → Int32 → Prop
  | 0, _, _, _, _ => False
  | n + 1, N, P, v1, v2 => ((400 < v2 → K N P) ∧ (¬ 400 < v2 → wl_X8_cut_11 (wl_X8_cut_4 K n) K fK N P v1 v2))
def wp_X8_cut (N : M2) (P : M2) (K : M2 → M2 → Prop) : Prop := wl_X8_cut_4 K fK N P 0 0
set_option maxRecDepth 100000 in
set_option maxHeartbeats 4000000 in
theorem c_X8_cut (l : Launch) (D : va_G) (Z : Nat → ClassId) (q g rx : Nat → Nat) (pl sa aa : Nat) (N : M2) (P : M2) (sz : Nat) (K : M2 → M2 → Prop) (hm : wp_X8_cut N P K) : Met l yX8_cut (wy yX8_cut cX8_cut 3 none) (rk 6 0 0) (preR vwCl D Z rx (MPR Z q g rx pl sa aa N P) sz [.ref (g 220)]) (poV vwCl D Z (fun u : M2 × M2 => MPR Z q g rx pl sa aa u.1 u.2) (N, P) sz (fun (u : M2 × M2) => K u.1 u.2)) 0 0 (va_A (MPR Z q g rx pl sa aa N P) sz) := by
  refine rwv_ofR (wsF := (fun u : M2 × M2 => MPR Z q g rx pl sa aa u.1 u.2)) (u0 := (N, P)) (by decide +kernel) (Nat.le_of_ble_eq_true rfl) rfl ?_
  intro p e s m args below meth c Q A hC hN hR hsz hnm hT hK hret ls hl
  have hx := hC.1
  have hb := hC.2.1
  have hl : lv_has ls 3 [(0, .ref (g 220))] := hl
  have hT : TS vwCl D (MPR Z q g rx pl sa aa N P) A s.heap s.heap [] := hT
  have L4 : ∀ (n4 : Nat), ∀ (N : M2) (P : M2) (v1 : Int32) (v2 : Int32) (H : Heap) (locs : List Loc) (ls : Array Slot), wl_X8_cut_4 K n4 N P v1 v2 → TS vwCl D (MPR Z q g rx pl sa aa N P) A s.heap H locs → lv_has ls 3 [(0, .ref (g 220)), (1, .int v1), (2, .int v2)] → W p l e (rk 6 0 0) s m args below meth c H locs 0 0 Q (F0 m 4 ls []) := by
    intro n4
    induction n4 with
    | zero =>
      intro N P v1 v2 H locs ls hm hT hl
      exact False.elim hm
    | succ n4 ih4 =>
      have L98 : ∀ (N : M2) (P : M2) (v1 : Int32) (v2 : Int32) (H : Heap) (locs : List Loc) (ls : Array Slot), wj_X8_cut_98 (wl_X8_cut_4 K n4) K N P v1 v2 → TS vwCl D (MPR Z q g rx pl sa aa N P) A s.heap H locs → lv_has ls 3 [(0, .ref (g 220)), (1, .int v1), (2, .int v2)] → W p l e (rk 6 0 0) s m args below meth c H locs 0 0 Q (F0 m 98 ls []) := by
        intro N P v1 v2 H locs ls hm hT hl
        refine lv_aload_n hx hb dX8_cut_98 rfl (lv_at hl 0 rfl) ?_
        refine gMPR_mod_4 hC hK hT.1 wq_1423 dX8_cut_99 ?_
        refine lv_iload_n hx hb dX8_cut_102 rfl (lv_at hl 2 rfl) ?_
        refine w_iald (q0 := 2) hC hK hT.1 rfl hm.1 dX8_cut_103 ?_
        have hm := hm.2
        refine lv_sipush (v := 900) hx hb dX8_cut_104 (by decide) ?_
        refine lv_icmp_lt (tgt := 111) hx hb dX8_cut_107 (by decide) (fun c_107 => ?_) (fun c_107 => ?_)
        · have hm := hm.1 c_107
          refine lv_iload_n hx hb dX8_cut_111 rfl (lv_at hl 1 rfl) ?_
          refine lv_aload_n hx hb dX8_cut_112 rfl (lv_at hl 0 rfl) ?_
          refine gMPR_mod_6 hC hK hT.1 wq_1425 dX8_cut_113 ?_
          refine lv_iload_n hx hb dX8_cut_116 rfl (lv_at hl 2 rfl) ?_
          refine w_iald (q0 := 4) hC hK hT.1 rfl hm.1 dX8_cut_117 ?_
          have hm := hm.2
          refine lv_iadd hx hb dX8_cut_118 ?_
          refine lv_topi (fun v1_119 ev1_119 => ?_)
          have hm := hm v1_119 ev1_119
          refine lv_istore_n (lv' := [(1, .int v1_119), (0, .ref (g 220)), (2, .int v2)]) hx hb dX8_cut_119 rfl hl (by decide) rfl (fun ls hl => ?_)
          obtain ⟨v2_120, ev2_120⟩ : ∃ y : Int32, y = v2 + 1 := ⟨_, rfl⟩
          have hm := hm v2_120 ev2_120
          refine lv_iinc (v := v2_120) (lv' := [(2, .int v2_120), (1, .int v1_119), (0, .ref (g 220))]) hx hb dX8_cut_120 hl (k := 2) rfl (by rw [ev2_120]; rfl) (by decide) rfl (fun ls hl => ?_)
          refine lv_goto (tgt := 4) hx hb dX8_cut_123 (by decide) ?_
          exact ih4 _ _ _ _ _ _ _ hm hT (lv_sub hl [2, 1, 0] rfl)
        · have hm := hm.2 c_107
          exact hret 110 _ _ _ (N, P) hm hT dX8_cut_110
      have L11 : ∀ (n11 : Nat), ∀ (N : M2) (P : M2) (v1 : Int32) (v2 : Int32) (H : Heap) (locs : List Loc) (ls : Array Slot), wl_X8_cut_11 (wl_X8_cut_4 K n4) K n11 N P v1 v2 → TS vwCl D (MPR Z q g rx pl sa aa N P) A s.heap H locs → lv_has ls 3 [(0, .ref (g 220)), (1, .int v1), (2, .int v2)] → W p l e (rk 6 0 0) s m args below meth c H locs 0 0 Q (F0 m 11 ls []) := by
        intro n11
        induction n11 with
        | zero =>
          intro N P v1 v2 H locs ls hm hT hl
          exact False.elim hm
        | succ n11 ih11 =>
          intro N P v1 v2 H locs ls hm hT hl
          refine lv_aload_n hx hb dX8_cut_11 rfl (lv_at hl 0 rfl) ?_
          refine lv_iload_n hx hb dX8_cut_12 rfl (lv_at hl 1 rfl) ?_
          refine kx_X8_byteOf hC hN hK hT.1 hT.D' (sx_MPMPR Z q g rx pl sa aa N P) rfl hm wq_1497 (by decide) hl.1 (Nat.le_of_ble_eq_true rfl) ⟨Nat.le_refl _, Nat.le_refl _⟩ dX8_cut_13 (fun r_13 hm => ?_)
          refine lv_bipush (v := 32) hx hb dX8_cut_16 (by decide) ?_
          refine lv_icmp_eq (tgt := 31) hx hb dX8_cut_18 (by decide) (fun c_18 => ?_) (fun c_18 => ?_)
          · have hm := hm.1 c_18
            obtain ⟨v1_31, ev1_31⟩ : ∃ y : Int32, y = v1 + 1 := ⟨_, rfl⟩
            have hm := hm v1_31 ev1_31
            refine lv_iinc (v := v1_31) (lv' := [(1, .int v1_31), (0, .ref (g 220)), (2, .int v2)]) hx hb dX8_cut_31 hl (k := 1) rfl (by rw [ev1_31]; rfl) (by decide) rfl (fun ls hl => ?_)
            refine lv_goto (tgt := 11) hx hb dX8_cut_34 (by decide) ?_
            exact ih11 _ _ _ _ _ _ _ hm hT (lv_sub hl [1, 0, 2] rfl)
          · have hm := hm.2 c_18
            refine lv_aload_n hx hb dX8_cut_21 rfl (lv_at hl 0 rfl) ?_
            refine lv_iload_n hx hb dX8_cut_22 rfl (lv_at hl 1 rfl) ?_
            refine kx_X8_byteOf hC hN hK hT.1 hT.D' (sx_MPMPR Z q g rx pl sa aa N P) rfl hm wq_1497 (by decide) hl.1 (Nat.le_of_ble_eq_true rfl) ⟨Nat.le_refl _, Nat.le_refl _⟩ dX8_cut_23 (fun r_23 hm => ?_)
            refine lv_bipush (v := 10) hx hb dX8_cut_26 (by decide) ?_
            refine lv_icmp_ne (tgt := 37) hx hb dX8_cut_28 (by decide) (fun c_28 => ?_) (fun c_28 => ?_)
            · have hm := hm.1 c_28
              refine lv_aload_n hx hb dX8_cut_37 rfl (lv_at hl 0 rfl) ?_
              refine gMPR_mod_5 hC hK hT.1 wq_1424 dX8_cut_38 ?_
              refine lv_iload_n hx hb dX8_cut_41 rfl (lv_at hl 2 rfl) ?_
              refine lv_iload_n hx hb dX8_cut_42 rfl (lv_at hl 1 rfl) ?_
              refine sMPR_from hC hK hT hm.1 dX8_cut_43 (fun N_43 eN_43 H locs hT => ?_)
              have hm := hm.2 N_43 eN_43
              refine lv_aload_n hx hb dX8_cut_44 rfl (lv_at hl 0 rfl) ?_
              refine gMPR_mod_7 hC hK hT.1 wq_1426 dX8_cut_45 ?_
              refine lv_iload_n hx hb dX8_cut_48 rfl (lv_at hl 2 rfl) ?_
              refine lv_iconst (v := 0) hx hb dX8_cut_49 (by decide) ?_
              refine sMPR_role hC hK hT hm.1 dX8_cut_50 (fun N_50 eN_50 H locs hT => ?_)
              have hm := hm.2 N_50 eN_50
              refine lv_aload_n hx hb dX8_cut_51 rfl (lv_at hl 0 rfl) ?_
              refine gMPR_mod_8 hC hK hT.1 wq_1427 dX8_cut_52 ?_
              refine lv_iload_n hx hb dX8_cut_55 rfl (lv_at hl 2 rfl) ?_
              refine lv_iconst (v := 0) hx hb dX8_cut_56 (by decide) ?_
              refine sMPR_meant hC hK hT hm.1 dX8_cut_57 (fun N_57 eN_57 H locs hT => ?_)
              have hm := hm.2 N_57 eN_57
              refine lv_aload_n hx hb dX8_cut_58 rfl (lv_at hl 0 rfl) ?_
              refine gMPR_mod_4 hC hK hT.1 wq_1423 dX8_cut_59 ?_
              refine lv_iload_n hx hb dX8_cut_62 rfl (lv_at hl 2 rfl) ?_
              refine lv_aload_n hx hb dX8_cut_63 rfl (lv_at hl 0 rfl) ?_
              refine lv_iload_n hx hb dX8_cut_64 rfl (lv_at hl 1 rfl) ?_
              refine lv_iload_n hx hb dX8_cut_65 rfl (lv_at hl 2 rfl) ?_
              refine k_X8_kindAt hC hN (hT.rd hR) hK hT hm wq_1501 (by decide) hl.1 (Nat.le_of_ble_eq_true rfl) ⟨Nat.le_refl _, Nat.le_refl _⟩ dX8_cut_66 (fun r_66 N_66 P_66 H locs hm hT => ?_)
              refine sMPR_kind hC hK hT hm.1 dX8_cut_69 (fun N_69 eN_69 H locs hT => ?_)
              have hm := hm.2 N_69 eN_69
              refine lv_iload_n hx hb dX8_cut_70 rfl (lv_at hl 2 rfl) ?_
              refine lv_sipush (v := 400) hx hb dX8_cut_71 (by decide) ?_
              refine lv_icmp_ne (tgt := 98) hx hb dX8_cut_74 (by decide) (fun c_74 => ?_) (fun c_74 => ?_)
              · have hm := hm.1 c_74
                exact L98 _ _ _ _ _ _ _ hm hT (lv_sub hl [0, 1, 2] rfl)
              · have hm := hm.2 c_74
                refine lv_aload_n hx hb dX8_cut_77 rfl (lv_at hl 0 rfl) ?_
                refine gMPR_mod_4 hC hK hT.1 wq_1423 dX8_cut_78 ?_
                refine lv_iload_n hx hb dX8_cut_81 rfl (lv_at hl 2 rfl) ?_
                refine w_iald (q0 := 2) hC hK hT.1 rfl hm.1 dX8_cut_82 ?_
                have hm := hm.2
                refine lv_sipush (v := 900) hx hb dX8_cut_83 (by decide) ?_
                refine lv_icmp_eq (tgt := 98) hx hb dX8_cut_86 (by decide) (fun c_86 => ?_) (fun c_86 => ?_)
                · have hm := hm.1 c_86
                  exact L98 _ _ _ _ _ _ _ hm hT (lv_sub hl [0, 1, 2] rfl)
                · have hm := hm.2 c_86
                  refine lv_aload_n hx hb dX8_cut_89 rfl (lv_at hl 0 rfl) ?_
                  refine gMPR_mod_4 hC hK hT.1 wq_1423 dX8_cut_90 ?_
                  refine lv_iload_n hx hb dX8_cut_93 rfl (lv_at hl 2 rfl) ?_
                  refine lv_sipush (v := 901) hx hb dX8_cut_94 (by decide) ?_
                  refine sMPR_kind hC hK hT hm.1 dX8_cut_97 (fun N_97 eN_97 H locs hT => ?_)
                  have hm := hm.2 N_97 eN_97
                  exact L98 _ _ _ _ _ _ _ hm hT (lv_sub hl [0, 1, 2] rfl)
            · have hm := hm.2 c_28
              obtain ⟨v1_31, ev1_31⟩ : ∃ y : Int32, y = v1 + 1 := ⟨_, rfl⟩
              have hm := hm v1_31 ev1_31
              refine lv_iinc (v := v1_31) (lv' := [(1, .int v1_31), (0, .ref (g 220)), (2, .int v2)]) hx hb dX8_cut_31 hl (k := 1) rfl (by rw [ev1_31]; rfl) (by decide) rfl (fun ls hl => ?_)
              refine lv_goto (tgt := 11) hx hb dX8_cut_34 (by decide) ?_
              exact ih11 _ _ _ _ _ _ _ hm hT (lv_sub hl [1, 0, 2] rfl)
      intro N P v1 v2 H locs ls hm hT hl
      refine lv_iload_n hx hb dX8_cut_4 rfl (lv_at hl 2 rfl) ?_
      refine lv_sipush (v := 400) hx hb dX8_cut_5 (by decide) ?_
      refine lv_icmp_gt (tgt := 126) hx hb dX8_cut_8 (by decide) (fun c_8 => ?_) (fun c_8 => ?_)
      · have hm := hm.1 c_8
        exact hret 126 _ _ _ (N, P) hm hT dX8_cut_126
      · have hm := hm.2 c_8
        exact L11 _ _ _ _ _ _ _ _ hm hT (lv_sub hl [0, 1, 2] rfl)
  refine lv_iconst (v := 0) hx hb dX8_cut_0 (by decide) ?_
  refine lv_istore_n (lv' := [(1, .int 0), (0, .ref (g 220))]) hx hb dX8_cut_1 rfl hl (by decide) rfl (fun ls hl => ?_)
  refine lv_iconst (v := 0) hx hb dX8_cut_2 (by decide) ?_
  refine lv_istore_n (lv' := [(2, .int 0), (1, .int 0), (0, .ref (g 220))]) hx hb dX8_cut_3 rfl hl (by decide) rfl (fun ls hl => ?_)
  exact L4 _ _ _ _ _ _ _ _ hm hT (lv_sub hl [2, 1, 0] rfl)
section KX8_cut
variable {p : Program} {l : Launch} {e : Env} {s : State} {m : MethodId} {args : Array Value} {below : List Frame} {meth : Method} {c : Code} {H H0 : Heap} {locs : List Loc} {cells slots : Nat} {Q : State → Prop} {R : Room} {rn mcR msR : Nat}
variable {pc : Nat} {ls : Array Slot} {rest : List Value} {A : Nat → Prop} {D : va_G}
variable {cc : ByteArray} {nL index : Nat} {own host : String}
end KX8_cut
