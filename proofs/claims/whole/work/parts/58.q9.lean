theorem wq_1434 : Cond.fieldLink RX8 51 RX8 "ahead" "LTunnelLeggersModel$State;" ∈ lw_g := lw_g_mk (tb_6 (List.mem_of_getElem? (i := 110) rfl)) rfl
theorem wq_1921 : Cond.methodLink RX8 399 yX7_become ∈ lw_g := lw_g_mk (tb_8 (List.mem_of_getElem? (i := 117) rfl)) rfl
theorem wq_1932 : Cond.methodLink RX8 403 yX7_pass ∈ lw_g := lw_g_mk (tb_8 (List.mem_of_getElem? (i := 128) rfl)) rfl
theorem wq_1724 : Cond.methodLink RX8 318 yX7_counted ∈ lw_g := lw_g_mk (tb_7 (List.mem_of_getElem? (i := 160) rfl)) rfl
theorem wn_1381 : Cond.fieldLinkNest RX8 405 RX7 "weak" "I" RX8 ∈ lw_n := lw_n_mk (tb_6 (List.mem_of_getElem? (i := 57) rfl)) rfl
theorem wq_1920 : Cond.code yX8_until cX8_until 3 (some .int) ∈ lw_g := lw_g_mk (tb_8 (List.mem_of_getElem? (i := 116) rfl)) rfl
theorem wq_1936 : Cond.code yX8_foresee cX8_foresee 3 (some .int) ∈ lw_g := lw_g_mk (tb_8 (List.mem_of_getElem? (i := 132) rfl)) rfl
theorem wq_1940 : Cond.code yX8_advise cX8_advise 3 (some .int) ∈ lw_g := lw_g_mk (tb_8 (List.mem_of_getElem? (i := 136) rfl)) rfl
theorem wq_1944 : Cond.code yX8_missed cX8_missed 6 (some .int) ∈ lw_g := lw_g_mk (tb_8 (List.mem_of_getElem? (i := 140) rfl)) rfl
theorem wq_1725 : Cond.instanceMethod yX7_counted ∈ lw_g := lw_g_mk (tb_7 (List.mem_of_getElem? (i := 161) rfl)) rfl
theorem wq_1726 : Cond.selects RX7 yX7_counted yX7_counted ∈ lw_g := lw_g_mk (tb_7 (List.mem_of_getElem? (i := 162) rfl)) rfl
theorem wq_1922 : Cond.instanceMethod yX7_become ∈ lw_g := lw_g_mk (tb_8 (List.mem_of_getElem? (i := 118) rfl)) rfl
theorem wq_1923 : Cond.selects RX7 yX7_become yX7_become ∈ lw_g := lw_g_mk (tb_8 (List.mem_of_getElem? (i := 119) rfl)) rfl
def MA (Z : Nat → ClassId) (a b q g : Nat → Nat) (rg : Nat) (P : M2) (S : M2) (O : M2) (N : M2) : va_W := [(a 200, .inr (7, [.int (S 200 0), .int (S 201 0), .ref (a 202), .ref (a 203), .ref (a 204), .ref (a 205), .ref (a 206), .ref (a 207), .ref (a 208), .ref (a 209), .ref (a 210), .ref (a 211), .int (S 212 0), .ref (a 213), .ref (g 220)])), (a 202, .inl (Z 0, 60, .inl (S 202))), (a 203, .inl (Z 0, 6, .inl (S 203))), (a 204, .inl (Z 0, 6, .inl (S 204))), (a 205, .inl (Z 0, 6, .inl (S 205))), (a 206, .inl (Z 0, 8, .inl (S 206))), (a 207, .inl (Z 0, 8, .inl (S 207))), (a 208, .inl (Z 0, 8, .inl (S 208))), (a 209, .inl (Z 0, 8, .inl (S 209))), (a 210, .inl (Z 0, 8, .inl (S 210))), (a 211, .inl (Z 0, 8, .inl (S 211))), (a 213, .inl (Z 0, 400, .inl (S 213))), (b 200, .inr (7, [.int (O 200 0), .int (O 201 0), .ref (b 202), .ref (b 203), .ref (b 204), .ref (b 205), .ref (b 206), .ref (b 207), .ref (b 208), .ref (b 209), .ref (b 210), .ref (b 211), .int (O 212 0), .ref (b 213), .ref (g 220)])), (b 202, .inl (Z 0, 60, .inl (O 202))), (b 203, .inl (Z 0, 6, .inl (O 203))), (b 204, .inl (Z 0, 6, .inl (O 204))), (b 205, .inl (Z 0, 6, .inl (O 205))), (b 206, .inl (Z 0, 8, .inl (O 206))), (b 207, .inl (Z 0, 8, .inl (O 207))), (b 208, .inl (Z 0, 8, .inl (O 208))), (b 209, .inl (Z 0, 8, .inl (O 209))), (b 210, .inl (Z 0, 8, .inl (O 210))), (b 211, .inl (Z 0, 8, .inl (O 211))), (b 213, .inl (Z 0, 400, .inl (O 213))), (g 220, .inr (8, [.int (N 220 0), .ref (g 221), .int (N 222 0), .int (N 223 0), .ref (g 224), .ref (g 225), .ref (g 226), .ref (g 227), .ref (g 228), .int (N 229 0), .int (N 230 0), .ref (q 240), .ref rg, .ref (a 200), .ref (b 200)])), (q 240, .inr (6, [.int (P 240 0), .int (P 241 0), .ref (q 242), .ref (q 243), .ref (q 244), .ref (q 245), .int (P 246 0), .ref (q 247), .ref (q 248), .int (P 249 0), .ref (q 250), .ref (q 251), .int (P 252 0), .ref (q 253), .ref (q 254), .ref (q 255), .ref (q 256), .int (P 257 0), .int (P 258 0), .ref (q 259), .ref (q 260), .ref (q 261), .ref (q 262), .ref (q 263), .int (P 264 0), .ref (q 265), .int (P 266 0)])), (q 242, .inl (Z 0, 5, .inl (P 242))), (q 243, .inl (Z 0, 5, .inl (P 243))), (q 244, .inl (Z 0, 5, .inl (P 244))), (q 245, .inl (Z 0, 60, .inl (P 245))), (q 247, .inl (Z 0, 4, .inl (P 247))), (q 248, .inl (Z 0, 4, .inl (P 248))), (q 250, .inl (Z 0, 6, .inl (P 250))), (q 251, .inl (Z 0, 6, .inl (P 251))), (q 253, .inl (Z 0, 8, .inl (P 253))), (q 254, .inl (Z 0, 8, .inl (P 254))), (q 255, .inl (Z 0, 8, .inl (P 255))), (q 256, .inl (Z 3, 8, .inr (.inr (.inr (.inr (fun j => if j < 8 then some (q (310 + j)) else none)))))), (q 259, .inl (Z 0, 16, .inl (P 259))), (q 260, .inl (Z 0, 16, .inl (P 260))), (q 261, .inl (Z 0, 17, .inl (P 261))), (q 262, .inl (Z 0, 17, .inl (P 262))), (q 263, .inl (Z 0, 800, .inl (P 263))), (q 265, .inl (Z 0, 400, .inl (P 265))), (q (310 + 0), .inl (Z 0, 2, .inl (P (310 + 0)))), (q (310 + 1), .inl (Z 0, 2, .inl (P (310 + 1)))), (q (310 + 2), .inl (Z 0, 2, .inl (P (310 + 2)))), (q (310 + 3), .inl (Z 0, 2, .inl (P (310 + 3)))), (q (310 + 4), .inl (Z 0, 2, .inl (P (310 + 4)))), (q (310 + 5), .inl (Z 0, 2, .inl (P (310 + 5)))), (q (310 + 6), .inl (Z 0, 2, .inl (P (310 + 6)))), (q (310 + 7), .inl (Z 0, 2, .inl (P (310 + 7))))]
abbrev cutMA : List Nat := [0, 1, 2, 3, 4, 5, 6, 7, 8, 9, 10, 11, 12, 13, 14, 15, 16, 17, 18, 19, 20, 21, 22, 23, 24, 25, 26, 27, 28, 29, 30, 31, 32, 33, 34, 35, 36, 37, 38, 39, 40, 41, 42, 43, 44, 45, 46, 47, 48, 49, 50, 51]
set_option maxRecDepth 100000 in
theorem cutOkMA (Z : Nat → ClassId) (a b q g : Nat → Nat) (rg : Nat) (P : M2) (S : M2) (O : M2) (N : M2) : Cut (MA Z a b q g rg P S O N) (fun u : M2 × M2 × M2 => MA Z a b q g rg P u.1 u.2.1 u.2.2) (S, O, N) [] cutMA [] cutMA (fun u : M2 × M2 × M2 => MA Z a b q g rg P u.1 u.2.1 u.2.2) := ⟨rfl, rfl, rfl, fun i h => absurd h List.not_mem_nil, by decide, fun _ => rfl⟩
section ROWSMA
variable {p : Program} {l : Launch} {e : Env} {s : State} {m : MethodId} {args : Array Value} {below : List Frame} {meth : Method} {c : Code} {H H0 : Heap} {locs : List Loc} {cells slots : Nat} {Q : State → Prop} {R : Room} {rn mcR msR : Nat}
variable {pc : Nat} {ls : Array Slot} {rest : List Value} {A : Nat → Prop} {D : va_G}
variable {cc : ByteArray} {nL index : Nat} {own host : String}
theorem gMA_mod_11 {Z : Nat → ClassId} {a b q g : Nat → Nat} {rg : Nat} {P : M2} {S : M2} {O : M2} {N : M2} (hC : CallFix p m c cc nL s args lw_g own) (hK : va_K D vwCl (tysG Z) s) (hP : va_P D vwCl (MA Z a b q g rg P S O N) H) (hl : Cond.fieldLink own index RX8 "plan" "LTunnelLeggersModel$Plan;" ∈ lw_g) (hdg : decode cc pc = .ok (.getfield index, 3)) (kk : W p l e R s m args below meth c H locs cells slots Q (F0 m (pc + 3) ls (.ref (q 240) :: rest))) : W p l e R s m args below meth c H locs cells slots Q (F0 m pc ls (.ref (g 220) :: rest)) :=
  w_get (C := RX8) (T := TX8) (N := 15) (ci := 8) (q0 := 24) (k := 11) hC hK hP fi_X8 rfl rfl rfl (by decide) rfl hl hdg kk
theorem gMA_mod_13 {Z : Nat → ClassId} {a b q g : Nat → Nat} {rg : Nat} {P : M2} {S : M2} {O : M2} {N : M2} (hC : CallFix p m c cc nL s args lw_g own) (hK : va_K D vwCl (tysG Z) s) (hP : va_P D vwCl (MA Z a b q g rg P S O N) H) (hl : Cond.fieldLink own index RX8 "s" "LTunnelLeggersModel$State;" ∈ lw_g) (hdg : decode cc pc = .ok (.getfield index, 3)) (kk : W p l e R s m args below meth c H locs cells slots Q (F0 m (pc + 3) ls (.ref (a 200) :: rest))) : W p l e R s m args below meth c H locs cells slots Q (F0 m pc ls (.ref (g 220) :: rest)) :=
  w_get (C := RX8) (T := TX8) (N := 15) (ci := 8) (q0 := 24) (k := 13) hC hK hP fi_X8 rfl rfl rfl (by decide) rfl hl hdg kk
theorem gMA_mod_14 {Z : Nat → ClassId} {a b q g : Nat → Nat} {rg : Nat} {P : M2} {S : M2} {O : M2} {N : M2} (hC : CallFix p m c cc nL s args lw_g own) (hK : va_K D vwCl (tysG Z) s) (hP : va_P D vwCl (MA Z a b q g rg P S O N) H) (hl : Cond.fieldLink own index RX8 "ahead" "LTunnelLeggersModel$State;" ∈ lw_g) (hdg : decode cc pc = .ok (.getfield index, 3)) (kk : W p l e R s m args below meth c H locs cells slots Q (F0 m (pc + 3) ls (.ref (b 200) :: rest))) : W p l e R s m args below meth c H locs cells slots Q (F0 m pc ls (.ref (g 220) :: rest)) :=
  w_get (C := RX8) (T := TX8) (N := 15) (ci := 8) (q0 := 24) (k := 14) hC hK hP fi_X8 rfl rfl rfl (by decide) rfl hl hdg kk
theorem gNMA_ost_6 {Z : Nat → ClassId} {a b q g : Nat → Nat} {rg : Nat} {P : M2} {S : M2} {O : M2} {N : M2} (hC : CallFix p m c cc nL s args lw_g own) (hN : NW s) (hK : va_K D vwCl (tysG Z) s) (hP : va_P D vwCl (MA Z a b q g rg P S O N) H) (hl : Cond.fieldLinkNest own index RX7 "is" "[I" host ∈ lw_n) (hdg : decode cc pc = .ok (.getfield index, 3)) (kk : W p l e R s m args below meth c H locs cells slots Q (F0 m (pc + 3) ls (.ref (b 206) :: rest))) : W p l e R s m args below meth c H locs cells slots Q (F0 m pc ls (.ref (b 200) :: rest)) :=
  w_getN (C := RX7) (T := TX7) (N := 15) (ci := 7) (q0 := 12) (k := 6) hC hN hK hP fi_X7 rfl rfl rfl (by decide) rfl hl hdg kk
theorem gNMA_plan_9 {Z : Nat → ClassId} {a b q g : Nat → Nat} {rg : Nat} {P : M2} {S : M2} {O : M2} {N : M2} (hC : CallFix p m c cc nL s args lw_g own) (hN : NW s) (hK : va_K D vwCl (tysG Z) s) (hP : va_P D vwCl (MA Z a b q g rg P S O N) H) (hl : Cond.fieldLinkNest own index RX6 "leggers" "I" host ∈ lw_n) (hdg : decode cc pc = .ok (.getfield index, 3)) (kk : W p l e R s m args below meth c H locs cells slots Q (F0 m (pc + 3) ls (.int (P 249 0) :: rest))) : W p l e R s m args below meth c H locs cells slots Q (F0 m pc ls (.ref (q 240) :: rest)) :=
  w_getN (C := RX6) (T := TX6) (N := 27) (ci := 6) (q0 := 25) (k := 9) hC hN hK hP fi_X6 rfl rfl rfl (by decide) rfl hl hdg kk
theorem pMA_mod_0 {Z : Nat → ClassId} {a b q g : Nat → Nat} {rg : Nat} {P : M2} {S : M2} {O : M2} {N : M2} {x : Int32} (hC : CallFix p m c cc nL s args lw_g own) (hK : va_K D vwCl (tysG Z) s) (hT : TS vwCl D (MA Z a b q g rg P S O N) A H0 H locs) (hl : Cond.fieldLink own index RX8 "thrown" "I" ∈ lw_g) (hdg : decode cc pc = .ok (.putfield index, 3)) (kk : ∀ (N1 : M2), N1 = up2 N 220 (fun _ => x) → ∀ (H1 : Heap) (locs1 : List Loc), TS vwCl D (MA Z a b q g rg P S O N1) A H0 H1 locs1 → W p l e R s m args below meth c H1 locs1 cells slots Q (F0 m (pc + 3) ls rest)) : W p l e R s m args below meth c H locs cells slots Q (F0 m pc ls (.int x :: .ref (g 220) :: rest)) :=
  w_put (C := RX8) (T := TX8) (N := 15) (ci := 8) (q0 := 24) (k := 0) (ty0 := tyX8) (ty := .int) (ws' := (MA Z a b q g rg P S O (up2 N 220 (fun _ => x)))) hC hK hT fi_X8 tyX8_ok nmX8 rfl rfl (by decide) rfl rfl rfl rfl rfl (Nat.le_of_ble_eq_true rfl) rfl hl hdg (fun H1 locs1 hT1 => kk _ rfl H1 locs1 hT1)
theorem pNMA_ost_1 {Z : Nat → ClassId} {a b q g : Nat → Nat} {rg : Nat} {P : M2} {S : M2} {O : M2} {N : M2} {x : Int32} (hC : CallFix p m c cc nL s args lw_g own) (hN : NW s) (hK : va_K D vwCl (tysG Z) s) (hT : TS vwCl D (MA Z a b q g rg P S O N) A H0 H locs) (hl : Cond.fieldLinkNest own index RX7 "turn" "I" host ∈ lw_n) (hdg : decode cc pc = .ok (.putfield index, 3)) (kk : ∀ (O1 : M2), O1 = up2 O 201 (fun _ => x) → ∀ (H1 : Heap) (locs1 : List Loc), TS vwCl D (MA Z a b q g rg P S O1 N) A H0 H1 locs1 → W p l e R s m args below meth c H1 locs1 cells slots Q (F0 m (pc + 3) ls rest)) : W p l e R s m args below meth c H locs cells slots Q (F0 m pc ls (.int x :: .ref (b 200) :: rest)) :=
  w_putN (C := RX7) (T := TX7) (N := 15) (ci := 7) (q0 := 12) (k := 1) (ty0 := tyX7) (ty := .int) (ws' := (MA Z a b q g rg P S (up2 O 201 (fun _ => x)) N)) hC hN hK hT fi_X7 tyX7_ok nmX7 rfl rfl (by decide) rfl rfl rfl rfl rfl (Nat.le_of_ble_eq_true rfl) rfl hl hdg (fun H1 locs1 hT1 => kk _ rfl H1 locs1 hT1)
theorem pNMA_ost_12 {Z : Nat → ClassId} {a b q g : Nat → Nat} {rg : Nat} {P : M2} {S : M2} {O : M2} {N : M2} {x : Int32} (hC : CallFix p m c cc nL s args lw_g own) (hN : NW s) (hK : va_K D vwCl (tysG Z) s) (hT : TS vwCl D (MA Z a b q g rg P S O N) A H0 H locs) (hl : Cond.fieldLinkNest own index RX7 "weak" "I" host ∈ lw_n) (hdg : decode cc pc = .ok (.putfield index, 3)) (kk : ∀ (O1 : M2), O1 = up2 O 212 (fun _ => x) → ∀ (H1 : Heap) (locs1 : List Loc), TS vwCl D (MA Z a b q g rg P S O1 N) A H0 H1 locs1 → W p l e R s m args below meth c H1 locs1 cells slots Q (F0 m (pc + 3) ls rest)) : W p l e R s m args below meth c H locs cells slots Q (F0 m pc ls (.int x :: .ref (b 200) :: rest)) :=
  w_putN (C := RX7) (T := TX7) (N := 15) (ci := 7) (q0 := 12) (k := 12) (ty0 := tyX7) (ty := .int) (ws' := (MA Z a b q g rg P S (up2 O 212 (fun _ => x)) N)) hC hN hK hT fi_X7 tyX7_ok nmX7 rfl rfl (by decide) rfl rfl rfl rfl rfl (Nat.le_of_ble_eq_true rfl) rfl hl hdg (fun H1 locs1 hT1 => kk _ rfl H1 locs1 hT1)
end ROWSMA
set_option maxRecDepth 100000 in
theorem sx_QWMA (Z : Nat → ClassId) (a b q g : Nat → Nat) (rg : Nat) (P : M2) (S : M2) (O : M2) (N : M2) : ([0, 1, 2, 3, 4, 5, 6, 7, 8, 9, 10, 11, 24, 25, 26, 27, 28, 29, 30, 31, 32, 33, 34, 35, 36, 37, 38, 39, 40, 41, 42, 43, 44, 45, 46, 47, 48, 49, 50, 51] : List Nat).map (fun i => (MA Z a b q g rg P S O N)[i]?) = (QW Z a q g rg (b 200) P S N).map some := rfl
set_option maxRecDepth 100000 in
theorem cx_QWMA (Z : Nat → ClassId) (a b q g : Nat → Nat) (rg : Nat) (P : M2) (S : M2) (O : M2) (N : M2) : Cut (MA Z a b q g rg P S O N) (fun u : M2 × M2 => QW Z a q g rg (b 200) P u.1 u.2) (S, N) [(b 200, .inr (7, [.int (O 200 0), .int (O 201 0), .ref (b 202), .ref (b 203), .ref (b 204), .ref (b 205), .ref (b 206), .ref (b 207), .ref (b 208), .ref (b 209), .ref (b 210), .ref (b 211), .int (O 212 0), .ref (b 213), .ref (g 220)])), (b 202, .inl (Z 0, 60, .inl (O 202))), (b 203, .inl (Z 0, 6, .inl (O 203))), (b 204, .inl (Z 0, 6, .inl (O 204))), (b 205, .inl (Z 0, 6, .inl (O 205))), (b 206, .inl (Z 0, 8, .inl (O 206))), (b 207, .inl (Z 0, 8, .inl (O 207))), (b 208, .inl (Z 0, 8, .inl (O 208))), (b 209, .inl (Z 0, 8, .inl (O 209))), (b 210, .inl (Z 0, 8, .inl (O 210))), (b 211, .inl (Z 0, 8, .inl (O 211))), (b 213, .inl (Z 0, 400, .inl (O 213)))] [0, 1, 2, 3, 4, 5, 6, 7, 8, 9, 10, 11, 24, 25, 26, 27, 28, 29, 30, 31, 32, 33, 34, 35, 36, 37, 38, 39, 40, 41, 42, 43, 44, 45, 46, 47, 48, 49, 50, 51] [12, 13, 14, 15, 16, 17, 18, 19, 20, 21, 22, 23] [12, 13, 14, 15, 16, 17, 18, 19, 20, 21, 22, 23, 0, 1, 2, 3, 4, 5, 6, 7, 8, 9, 10, 11, 24, 25, 26, 27, 28, 29, 30, 31, 32, 33, 34, 35, 36, 37, 38, 39, 40, 41, 42, 43, 44, 45, 46, 47, 48, 49, 50, 51] (fun u : M2 × M2 => (MA Z a b q g rg P u.1 O u.2)) := ⟨rfl, rfl, rfl, by decide, rfl, fun _ => rfl⟩
set_option maxRecDepth 100000 in
theorem sx_SWMA (Z : Nat → ClassId) (a b q g : Nat → Nat) (rg : Nat) (P : M2) (S : M2) (O : M2) (N : M2) : ([0, 1, 2, 3, 4, 5, 6, 7, 8, 9, 10, 11, 24, 25, 26, 27, 28, 29, 30, 31, 32, 33, 34, 35, 36, 37, 38, 39, 40, 41, 42, 43, 44, 45, 46, 47, 48, 49, 50, 51] : List Nat).map (fun i => (MA Z a b q g rg P S O N)[i]?) = (SW Z a q g rg (a 200) (b 200) N P S).map some := rfl
set_option maxRecDepth 100000 in
theorem sx_SWMAo (Z : Nat → ClassId) (a b q g : Nat → Nat) (rg : Nat) (P : M2) (S : M2) (O : M2) (N : M2) : ([12, 13, 14, 15, 16, 17, 18, 19, 20, 21, 22, 23, 24, 25, 26, 27, 28, 29, 30, 31, 32, 33, 34, 35, 36, 37, 38, 39, 40, 41, 42, 43, 44, 45, 46, 47, 48, 49, 50, 51] : List Nat).map (fun i => (MA Z a b q g rg P S O N)[i]?) = (SW Z b q g rg (a 200) (b 200) N P O).map some := rfl
set_option maxRecDepth 100000 in
theorem cx_SWMAo (Z : Nat → ClassId) (a b q g : Nat → Nat) (rg : Nat) (P : M2) (S : M2) (O : M2) (N : M2) : Cut (MA Z a b q g rg P S O N) (SW Z b q g rg (a 200) (b 200) N P) O [(a 200, .inr (7, [.int (S 200 0), .int (S 201 0), .ref (a 202), .ref (a 203), .ref (a 204), .ref (a 205), .ref (a 206), .ref (a 207), .ref (a 208), .ref (a 209), .ref (a 210), .ref (a 211), .int (S 212 0), .ref (a 213), .ref (g 220)])), (a 202, .inl (Z 0, 60, .inl (S 202))), (a 203, .inl (Z 0, 6, .inl (S 203))), (a 204, .inl (Z 0, 6, .inl (S 204))), (a 205, .inl (Z 0, 6, .inl (S 205))), (a 206, .inl (Z 0, 8, .inl (S 206))), (a 207, .inl (Z 0, 8, .inl (S 207))), (a 208, .inl (Z 0, 8, .inl (S 208))), (a 209, .inl (Z 0, 8, .inl (S 209))), (a 210, .inl (Z 0, 8, .inl (S 210))), (a 211, .inl (Z 0, 8, .inl (S 211))), (a 213, .inl (Z 0, 400, .inl (S 213)))] [12, 13, 14, 15, 16, 17, 18, 19, 20, 21, 22, 23, 24, 25, 26, 27, 28, 29, 30, 31, 32, 33, 34, 35, 36, 37, 38, 39, 40, 41, 42, 43, 44, 45, 46, 47, 48, 49, 50, 51] [0, 1, 2, 3, 4, 5, 6, 7, 8, 9, 10, 11] [0, 1, 2, 3, 4, 5, 6, 7, 8, 9, 10, 11, 12, 13, 14, 15, 16, 17, 18, 19, 20, 21, 22, 23, 24, 25, 26, 27, 28, 29, 30, 31, 32, 33, 34, 35, 36, 37, 38, 39, 40, 41, 42, 43, 44, 45, 46, 47, 48, 49, 50, 51] (fun u : M2 => (MA Z a b q g rg P S u N)) := ⟨rfl, rfl, rfl, by decide, rfl, fun _ => rfl⟩
set_option maxRecDepth 100000 in
theorem sx_SSMA (Z : Nat → ClassId) (a b q g : Nat → Nat) (rg : Nat) (P : M2) (S : M2) (O : M2) (N : M2) : ([12, 13, 14, 15, 16, 17, 18, 19, 20, 21, 22, 23, 0, 1, 2, 3, 4, 5, 6, 7, 8, 9, 10, 11] : List Nat).map (fun i => (MA Z a b q g rg P S O N)[i]?) = (SS Z b a g S O).map some := rfl
set_option maxRecDepth 100000 in
theorem cx_SSMA (Z : Nat → ClassId) (a b q g : Nat → Nat) (rg : Nat) (P : M2) (S : M2) (O : M2) (N : M2) : Cut (MA Z a b q g rg P S O N) (SS Z b a g S) O [(g 220, .inr (8, [.int (N 220 0), .ref (g 221), .int (N 222 0), .int (N 223 0), .ref (g 224), .ref (g 225), .ref (g 226), .ref (g 227), .ref (g 228), .int (N 229 0), .int (N 230 0), .ref (q 240), .ref rg, .ref (a 200), .ref (b 200)])), (q 240, .inr (6, [.int (P 240 0), .int (P 241 0), .ref (q 242), .ref (q 243), .ref (q 244), .ref (q 245), .int (P 246 0), .ref (q 247), .ref (q 248), .int (P 249 0), .ref (q 250), .ref (q 251), .int (P 252 0), .ref (q 253), .ref (q 254), .ref (q 255), .ref (q 256), .int (P 257 0), .int (P 258 0), .ref (q 259), .ref (q 260), .ref (q 261), .ref (q 262), .ref (q 263), .int (P 264 0), .ref (q 265), .int (P 266 0)])), (q 242, .inl (Z 0, 5, .inl (P 242))), (q 243, .inl (Z 0, 5, .inl (P 243))), (q 244, .inl (Z 0, 5, .inl (P 244))), (q 245, .inl (Z 0, 60, .inl (P 245))), (q 247, .inl (Z 0, 4, .inl (P 247))), (q 248, .inl (Z 0, 4, .inl (P 248))), (q 250, .inl (Z 0, 6, .inl (P 250))), (q 251, .inl (Z 0, 6, .inl (P 251))), (q 253, .inl (Z 0, 8, .inl (P 253))), (q 254, .inl (Z 0, 8, .inl (P 254))), (q 255, .inl (Z 0, 8, .inl (P 255))), (q 256, .inl (Z 3, 8, .inr (.inr (.inr (.inr (fun j => if j < 8 then some (q (310 + j)) else none)))))), (q 259, .inl (Z 0, 16, .inl (P 259))), (q 260, .inl (Z 0, 16, .inl (P 260))), (q 261, .inl (Z 0, 17, .inl (P 261))), (q 262, .inl (Z 0, 17, .inl (P 262))), (q 263, .inl (Z 0, 800, .inl (P 263))), (q 265, .inl (Z 0, 400, .inl (P 265))), (q (310 + 0), .inl (Z 0, 2, .inl (P (310 + 0)))), (q (310 + 1), .inl (Z 0, 2, .inl (P (310 + 1)))), (q (310 + 2), .inl (Z 0, 2, .inl (P (310 + 2)))), (q (310 + 3), .inl (Z 0, 2, .inl (P (310 + 3)))), (q (310 + 4), .inl (Z 0, 2, .inl (P (310 + 4)))), (q (310 + 5), .inl (Z 0, 2, .inl (P (310 + 5)))), (q (310 + 6), .inl (Z 0, 2, .inl (P (310 + 6)))), (q (310 + 7), .inl (Z 0, 2, .inl (P (310 + 7))))] [12, 13, 14, 15, 16, 17, 18, 19, 20, 21, 22, 23, 0, 1, 2, 3, 4, 5, 6, 7, 8, 9, 10, 11] [24, 25, 26, 27, 28, 29, 30, 31, 32, 33, 34, 35, 36, 37, 38, 39, 40, 41, 42, 43, 44, 45, 46, 47, 48, 49, 50, 51] [40, 41, 42, 43, 44, 45, 46, 47, 48, 49, 50, 51, 28, 29, 30, 31, 32, 33, 34, 35, 36, 37, 38, 39, 0, 1, 2, 3, 4, 5, 6, 7, 8, 9, 10, 11, 12, 13, 14, 15, 16, 17, 18, 19, 20, 21, 22, 23, 24, 25, 26, 27] (fun u : M2 => (MA Z a b q g rg P S u N)) := ⟨rfl, rfl, rfl, by decide, rfl, fun _ => rfl⟩
set_option maxRecDepth 100000 in
theorem sx_EWMA (Z : Nat → ClassId) (a b q g : Nat → Nat) (rg : Nat) (P : M2) (S : M2) (O : M2) (N : M2) : ([] : List Nat).map (fun i => (MA Z a b q g rg P S O N)[i]?) = (EW Z).map some := rfl
section LX7_pass0x
variable {p : Program} {l : Launch} {e : Env} {s : State} {m : MethodId} {args : Array Value} {below : List Frame} {meth : Method} {c : Code} {H H0 : Heap} {locs : List Loc} {cells slots : Nat} {Q : State → Prop} {R : Room} {rn mcR msR : Nat}
variable {pc : Nat} {ls : Array Slot} {rest : List Value} {A : Nat → Prop} {D : va_G}
variable {cc : ByteArray} {nL index : Nat} {own host : String}
theorem kx_X7_pass {Z : Nat → ClassId} {a q g : Nat → Nat} {rg sa aa : Nat} {N P : M2} {S : M2} {K : M2 → Prop} {ws wr : va_W} {isC isR pm : List Nat} {ws' : M2 → va_W} (hC : CallFix p m c cc nL s args lw_g own) (hN : NW s) (hK : va_K D vwCl (tysG Z) s) (hT : TS vwCl D ws A H0 H locs) (hc : Cut ws (SW Z a q g rg sa aa N P) S wr isC isR pm ws') (hnd : va_nd isC = true) (hm : wp_X7_pass N P S K) (hl : Cond.methodLink own index yX7_pass ∈ lw_g) (hlt : 9 < rn) (hsize : ls.size = nL) (hW : (rest.map fun v => v.category).sum ≤ 8) (hf : cells + 0 ≤ mcR ∧ slots + 0 ≤ msR) (hdg : decode cc pc = .ok (.invokevirtual index, 3)) (kk : ∀ (S1 : M2) (H1 : Heap) (locs1 : List Loc), K S1 → TS vwCl D (ws' S1) A H0 H1 locs1 → W p l e (rk rn mcR msR) s m args below meth c H1 locs1 cells slots Q (F0 m (pc + 3) ls (rest))) : W p l e (rk rn mcR msR) s m args below meth c H locs cells slots Q (F0 m pc ls (.ref (a 200) :: rest)) :=
  rwv_go (wsF := (SW Z a q g rg sa aa N P)) (u0 := S) (wr := wr) (isC := isC) (isR := isR) (pm := pm) (ws' := ws') (runV (As := []) hC hN (c_X7_pass l D Z a q g rg sa aa N P S H.size K hm) mi_X7_pass hl wq_1881 wq_1882 hlt (hT.1.sub isC (map_fm hc.1)) (hT.D'.sub isC hnd hc.1) hK (q0 := 0) rfl rfl rfl hsize rfl hW hdg hf) hc hT (fun u H1 locs1 hk hT1 => kk u H1 locs1 hk hT1)
end LX7_pass0x
section LX7_counted0x
variable {p : Program} {l : Launch} {e : Env} {s : State} {m : MethodId} {args : Array Value} {below : List Frame} {meth : Method} {c : Code} {H H0 : Heap} {locs : List Loc} {cells slots : Nat} {Q : State → Prop} {R : Room} {rn mcR msR : Nat}
variable {pc : Nat} {ls : Array Slot} {rest : List Value} {A : Nat → Prop} {D : va_G}
variable {cc : ByteArray} {nL index : Nat} {own host : String}
theorem kx_X7_counted {Z : Nat → ClassId} {a q g : Nat → Nat} {rg sa aa : Nat} {N P : M2} {S : M2} {x1 : Int32} {K : Int32 → Prop} {ws : va_W} {isC : List Nat} (hC : CallFix p m c cc nL s args lw_g own) (hN : NW s) (hK : va_K D vwCl (tysG Z) s) (hP : va_P D vwCl ws H) (hD : va_D (fun _ => True) ws) (hs : isC.map (fun i => ws[i]?) = (SW Z a q g rg sa aa N P S).map some) (hnd : va_nd isC = true) (hm : wp_X7_counted N P S x1 K) (hl : Cond.methodLink own index yX7_counted ∈ lw_g) (hlt : 2 < rn) (hsize : ls.size = nL) (hW : (rest.map fun v => v.category).sum ≤ 8) (hf : cells + 0 ≤ mcR ∧ slots + 0 ≤ msR) (hdg : decode cc pc = .ok (.invokevirtual index, 3)) (kk : ∀ r : Int32, K r → W p l e (rk rn mcR msR) s m args below meth c H locs cells slots Q (F0 m (pc + 3) ls (.int r :: rest))) : W p l e (rk rn mcR msR) s m args below meth c H locs cells slots Q (F0 m pc ls (.int x1 :: .ref (a 200) :: rest)) :=
  ro_go (runV (As := [.int x1]) hC hN (c_X7_counted l D Z a q g rg sa aa N P S H.size x1 K hm) mi_X7_counted hl wq_1725 wq_1726 hlt (hP.sub isC (map_fm hs)) (hD.sub isC hnd hs) hK (q0 := 0) rfl rfl rfl hsize rfl hW hdg hf) kk
end LX7_counted0x
section LX7_become0x
variable {p : Program} {l : Launch} {e : Env} {s : State} {m : MethodId} {args : Array Value} {below : List Frame} {meth : Method} {c : Code} {H H0 : Heap} {locs : List Loc} {cells slots : Nat} {Q : State → Prop} {R : Room} {rn mcR msR : Nat}
variable {pc : Nat} {ls : Array Slot} {rest : List Value} {A : Nat → Prop} {D : va_G}
variable {cc : ByteArray} {nL index : Nat} {own host : String}
theorem kx_X7_become {Z : Nat → ClassId} {a b g : Nat → Nat} {O : M2} {S : M2} {K : M2 → Prop} {ws wr : va_W} {isC isR pm : List Nat} {ws' : M2 → va_W} (hC : CallFix p m c cc nL s args lw_g own) (hN : NW s) (hK : va_K D vwCl (tysG Z) s) (hT : TS vwCl D ws A H0 H locs) (hc : Cut ws (SS Z a b g O) S wr isC isR pm ws') (hnd : va_nd isC = true) (hm : wp_X7_become O S K) (hl : Cond.methodLink own index yX7_become ∈ lw_g) (hlt : 2 < rn) (hsize : ls.size = nL) (hW : (rest.map fun v => v.category).sum ≤ 8) (hf : cells + 0 ≤ mcR ∧ slots + 0 ≤ msR) (hdg : decode cc pc = .ok (.invokevirtual index, 3)) (kk : ∀ (S1 : M2) (H1 : Heap) (locs1 : List Loc), K S1 → TS vwCl D (ws' S1) A H0 H1 locs1 → W p l e (rk rn mcR msR) s m args below meth c H1 locs1 cells slots Q (F0 m (pc + 3) ls (.ref (a 200) :: rest))) : W p l e (rk rn mcR msR) s m args below meth c H locs cells slots Q (F0 m pc ls (.ref (b 200) :: .ref (a 200) :: rest)) :=
  rwr_go (wsF := (SS Z a b g O)) (u0 := S) (wr := wr) (isC := isC) (isR := isR) (pm := pm) (ws' := ws') (runV (As := [.ref (b 200)]) hC hN (c_X7_become l D Z a b g O S H.size K hm) mi_X7_become hl wq_1922 wq_1923 hlt (hT.1.sub isC (map_fm hc.1)) (hT.D'.sub isC hnd hc.1) hK (q0 := 0) rfl rfl rfl hsize rfl hW hdg hf) hc hT (fun u H1 locs1 hk hT1 => kk u H1 locs1 hk hT1)
end LX7_become0x
section LX8_isBoat0x
variable {p : Program} {l : Launch} {e : Env} {s : State} {m : MethodId} {args : Array Value} {below : List Frame} {meth : Method} {c : Code} {H H0 : Heap} {locs : List Loc} {cells slots : Nat} {Q : State → Prop} {R : Room} {rn mcR msR : Nat}
variable {pc : Nat} {ls : Array Slot} {rest : List Value} {A : Nat → Prop} {D : va_G}
variable {cc : ByteArray} {nL index : Nat} {own host : String}
theorem kx_X8_isBoat {Z : Nat → ClassId} {a q g : Nat → Nat} {rg aa : Nat} {P : M2} {S : M2} {N : M2} {x1 : Int32} {K : Int32 → Prop} {ws : va_W} {isC : List Nat} (hC : CallFix p m c cc nL s args lw_g own) (hN : NW s) (hK : va_K D vwCl (tysG Z) s) (hP : va_P D vwCl ws H) (hD : va_D (fun _ => True) ws) (hs : isC.map (fun i => ws[i]?) = (QW Z a q g rg aa P S N).map some) (hnd : va_nd isC = true) (hm : wp_X8_isBoat P S N x1 K) (hl : Cond.methodLink own index yX8_isBoat ∈ lw_g) (hlt : 2 < rn) (hsize : ls.size = nL) (hW : (rest.map fun v => v.category).sum ≤ 8) (hf : cells + 0 ≤ mcR ∧ slots + 0 ≤ msR) (hdg : decode cc pc = .ok (.invokevirtual index, 3)) (kk : ∀ r : Int32, K r → W p l e (rk rn mcR msR) s m args below meth c H locs cells slots Q (F0 m (pc + 3) ls (.int r :: rest))) : W p l e (rk rn mcR msR) s m args below meth c H locs cells slots Q (F0 m pc ls (.int x1 :: .ref (g 220) :: rest)) :=
  ro_go (runV (As := [.int x1]) hC hN (c_X8_isBoat l D Z a q g rg aa P S N H.size x1 K hm) mi_X8_isBoat hl wq_1791 wq_109 hlt (hP.sub isC (map_fm hs)) (hD.sub isC hnd hs) hK (q0 := 12) rfl rfl rfl hsize rfl hW hdg hf) kk
end LX8_isBoat0x
section LX8_no0x
variable {p : Program} {l : Launch} {e : Env} {s : State} {m : MethodId} {args : Array Value} {below : List Frame} {meth : Method} {c : Code} {H H0 : Heap} {locs : List Loc} {cells slots : Nat} {Q : State → Prop} {R : Room} {rn mcR msR : Nat}
variable {pc : Nat} {ls : Array Slot} {rest : List Value} {A : Nat → Prop} {D : va_G}
variable {cc : ByteArray} {nL index : Nat} {own host : String}
theorem kx_X8_no {Z : Nat → ClassId} {a q g : Nat → Nat} {rg aa : Nat} {P : M2} {S : M2} {N : M2} {x1 : Int32} {K : Int32 → M2 → M2 → Prop} {ws wr : va_W} {isC isR pm : List Nat} {ws' : M2 × M2 → va_W} (hC : CallFix p m c cc nL s args lw_g own) (hN : NW s) (hK : va_K D vwCl (tysG Z) s) (hT : TS vwCl D ws A H0 H locs) (hc : Cut ws (fun u : M2 × M2 => QW Z a q g rg aa P u.1 u.2) (S, N) wr isC isR pm ws') (hnd : va_nd isC = true) (hm : wp_X8_no P S N x1 K) (hl : Cond.methodLink own index yX8_no ∈ lw_g) (hlt : 1 < rn) (hsize : ls.size = nL) (hW : (rest.map fun v => v.category).sum ≤ 8) (hf : cells + 0 ≤ mcR ∧ slots + 0 ≤ msR) (hdg : decode cc pc = .ok (.invokevirtual index, 3)) (kk : ∀ (r : Int32) (S1 : M2) (N1 : M2) (H1 : Heap) (locs1 : List Loc), K r S1 N1 → TS vwCl D (ws' (S1, N1)) A H0 H1 locs1 → W p l e (rk rn mcR msR) s m args below meth c H1 locs1 cells slots Q (F0 m (pc + 3) ls (.int r :: rest))) : W p l e (rk rn mcR msR) s m args below meth c H locs cells slots Q (F0 m pc ls (.int x1 :: .ref (g 220) :: rest)) :=
  rw_go (wsF := (fun u : M2 × M2 => QW Z a q g rg aa P u.1 u.2)) (u0 := (S, N)) (wr := wr) (isC := isC) (isR := isR) (pm := pm) (ws' := ws') (runV (As := [.int x1]) hC hN (c_X8_no l D Z a q g rg aa P S N H.size x1 K hm) mi_X8_no hl wq_1476 wq_62 hlt (hT.1.sub isC (map_fm hc.1)) (hT.D'.sub isC hnd hc.1) hK (q0 := 12) rfl rfl rfl hsize rfl hW hdg hf) hc hT (fun r u H1 locs1 hk hT1 => kk r u.1 u.2 H1 locs1 hk hT1)
end LX8_no0x
theorem dX8_until_0 : decode cX8_until 0 = .ok (.aload_n 0, 1) := by decide +kernel
theorem dX8_until_1 : decode cX8_until 1 = .ok (.iconst 0, 1) := by decide +kernel
theorem dX8_until_2 : decode cX8_until 2 = .ok (.putfield 57, 3) := by decide +kernel
theorem dX8_until_5 : decode cX8_until 5 = .ok (.aload_n 0, 1) := by decide +kernel
theorem dX8_until_6 : decode cX8_until 6 = .ok (.iload_n 1, 1) := by decide +kernel
theorem dX8_until_7 : decode cX8_until 7 = .ok (.invokevirtual 380, 3) := by decide +kernel
theorem dX8_until_10 : decode cX8_until 10 = .ok (.ifCond .ne 9, 3) := by decide +kernel
theorem dX8_until_13 : decode cX8_until 13 = .ok (.aload_n 0, 1) := by decide +kernel
theorem dX8_until_14 : decode cX8_until 14 = .ok (.iconst 1, 1) := by decide +kernel
theorem dX8_until_15 : decode cX8_until 15 = .ok (.invokevirtual 312, 3) := by decide +kernel
theorem dX8_until_18 : decode cX8_until 18 = .ok (.ireturn, 1) := by decide +kernel
theorem dX8_until_19 : decode cX8_until 19 = .ok (.aload_n 0, 1) := by decide +kernel
theorem dX8_until_20 : decode cX8_until 20 = .ok (.getfield 51, 3) := by decide +kernel
theorem dX8_until_23 : decode cX8_until 23 = .ok (.aload_n 0, 1) := by decide +kernel
theorem dX8_until_24 : decode cX8_until 24 = .ok (.getfield 47, 3) := by decide +kernel
theorem dX8_until_27 : decode cX8_until 27 = .ok (.invokevirtual 399, 3) := by decide +kernel
theorem dX8_until_30 : decode cX8_until 30 = .ok (.pop, 1) := by decide +kernel
theorem dX8_until_31 : decode cX8_until 31 = .ok (.iconst 0, 1) := by decide +kernel
theorem dX8_until_32 : decode cX8_until 32 = .ok (.istore_n 2, 1) := by decide +kernel
theorem dX8_until_33 : decode cX8_until 33 = .ok (.iload_n 2, 1) := by decide +kernel
theorem dX8_until_34 : decode cX8_until 34 = .ok (.sipush 300, 3) := by decide +kernel
theorem dX8_until_37 : decode cX8_until 37 = .ok (.if_icmp .gt 29, 3) := by decide +kernel
theorem dX8_until_40 : decode cX8_until 40 = .ok (.aload_n 0, 1) := by decide +kernel
theorem dX8_until_41 : decode cX8_until 41 = .ok (.getfield 51, 3) := by decide +kernel
theorem dX8_until_44 : decode cX8_until 44 = .ok (.getfield 369, 3) := by decide +kernel
theorem dX8_until_47 : decode cX8_until 47 = .ok (.iload_n 1, 1) := by decide +kernel
theorem dX8_until_48 : decode cX8_until 48 = .ok (.iaload, 1) := by decide +kernel
theorem dX8_until_49 : decode cX8_until 49 = .ok (.iconst 2, 1) := by decide +kernel
theorem dX8_until_50 : decode cX8_until 50 = .ok (.if_icmp .eq 16, 3) := by decide +kernel
theorem dX8_until_53 : decode cX8_until 53 = .ok (.aload_n 0, 1) := by decide +kernel
theorem dX8_until_54 : decode cX8_until 54 = .ok (.getfield 51, 3) := by decide +kernel
theorem dX8_until_57 : decode cX8_until 57 = .ok (.invokevirtual 403, 3) := by decide +kernel
theorem dX8_until_60 : decode cX8_until 60 = .ok (.iinc 2 1, 3) := by decide +kernel
theorem dX8_until_63 : decode cX8_until 63 = .ok (.goto (-30), 3) := by decide +kernel
theorem dX8_until_66 : decode cX8_until 66 = .ok (.iload_n 2, 1) := by decide +kernel
theorem dX8_until_67 : decode cX8_until 67 = .ok (.sipush 300, 3) := by decide +kernel
theorem dX8_until_70 : decode cX8_until 70 = .ok (.if_icmp .le 7, 3) := by decide +kernel
theorem dX8_until_73 : decode cX8_until 73 = .ok (.iconst (-1), 1) := by decide +kernel
theorem dX8_until_74 : decode cX8_until 74 = .ok (.goto 4, 3) := by decide +kernel
theorem dX8_until_77 : decode cX8_until 77 = .ok (.iload_n 2, 1) := by decide +kernel
theorem dX8_until_78 : decode cX8_until 78 = .ok (.ireturn, 1) := by decide +kernel
theorem dX8_foresee_0 : decode cX8_foresee 0 = .ok (.aload_n 0, 1) := by decide +kernel
theorem dX8_foresee_1 : decode cX8_foresee 1 = .ok (.iconst 0, 1) := by decide +kernel
theorem dX8_foresee_2 : decode cX8_foresee 2 = .ok (.putfield 57, 3) := by decide +kernel
theorem dX8_foresee_5 : decode cX8_foresee 5 = .ok (.iload_n 1, 1) := by decide +kernel
theorem dX8_foresee_6 : decode cX8_foresee 6 = .ok (.iconst 1, 1) := by decide +kernel
theorem dX8_foresee_7 : decode cX8_foresee 7 = .ok (.bipush 120, 2) := by decide +kernel
theorem dX8_foresee_9 : decode cX8_foresee 9 = .ok (.invokestatic 63, 3) := by decide +kernel
theorem dX8_foresee_12 : decode cX8_foresee 12 = .ok (.ifCond .ne 9, 3) := by decide +kernel
theorem dX8_foresee_15 : decode cX8_foresee 15 = .ok (.aload_n 0, 1) := by decide +kernel
theorem dX8_foresee_16 : decode cX8_foresee 16 = .ok (.iconst 1, 1) := by decide +kernel
theorem dX8_foresee_17 : decode cX8_foresee 17 = .ok (.invokevirtual 312, 3) := by decide +kernel
theorem dX8_foresee_20 : decode cX8_foresee 20 = .ok (.ireturn, 1) := by decide +kernel
theorem dX8_foresee_21 : decode cX8_foresee 21 = .ok (.iload_n 2, 1) := by decide +kernel
theorem dX8_foresee_22 : decode cX8_foresee 22 = .ok (.bipush 8, 2) := by decide +kernel
theorem dX8_foresee_24 : decode cX8_foresee 24 = .ok (.bipush 12, 2) := by decide +kernel
theorem dX8_foresee_26 : decode cX8_foresee 26 = .ok (.invokestatic 63, 3) := by decide +kernel
theorem dX8_foresee_29 : decode cX8_foresee 29 = .ok (.ifCond .eq 25, 3) := by decide +kernel
theorem dX8_foresee_32 : decode cX8_foresee 32 = .ok (.aload_n 0, 1) := by decide +kernel
theorem dX8_foresee_33 : decode cX8_foresee 33 = .ok (.getfield 51, 3) := by decide +kernel
theorem dX8_foresee_36 : decode cX8_foresee 36 = .ok (.aload_n 0, 1) := by decide +kernel
theorem dX8_foresee_37 : decode cX8_foresee 37 = .ok (.getfield 47, 3) := by decide +kernel
theorem dX8_foresee_40 : decode cX8_foresee 40 = .ok (.invokevirtual 399, 3) := by decide +kernel
theorem dX8_foresee_43 : decode cX8_foresee 43 = .ok (.iload_n 1, 1) := by decide +kernel
theorem dX8_foresee_44 : decode cX8_foresee 44 = .ok (.invokevirtual 395, 3) := by decide +kernel
theorem dX8_foresee_47 : decode cX8_foresee 47 = .ok (.iload_n 2, 1) := by decide +kernel
theorem dX8_foresee_48 : decode cX8_foresee 48 = .ok (.invokevirtual 318, 3) := by decide +kernel
theorem dX8_foresee_51 : decode cX8_foresee 51 = .ok (.goto 8, 3) := by decide +kernel
theorem dX8_foresee_54 : decode cX8_foresee 54 = .ok (.aload_n 0, 1) := by decide +kernel
theorem dX8_foresee_55 : decode cX8_foresee 55 = .ok (.iconst 2, 1) := by decide +kernel
theorem dX8_foresee_56 : decode cX8_foresee 56 = .ok (.invokevirtual 312, 3) := by decide +kernel
theorem dX8_foresee_59 : decode cX8_foresee 59 = .ok (.ireturn, 1) := by decide +kernel
theorem dX8_advise_0 : decode cX8_advise 0 = .ok (.aload_n 0, 1) := by decide +kernel
theorem dX8_advise_1 : decode cX8_advise 1 = .ok (.iconst 0, 1) := by decide +kernel
theorem dX8_advise_2 : decode cX8_advise 2 = .ok (.putfield 57, 3) := by decide +kernel
theorem dX8_advise_5 : decode cX8_advise 5 = .ok (.iload_n 1, 1) := by decide +kernel
theorem dX8_advise_6 : decode cX8_advise 6 = .ok (.iconst 1, 1) := by decide +kernel
theorem dX8_advise_7 : decode cX8_advise 7 = .ok (.bipush 120, 2) := by decide +kernel
theorem dX8_advise_9 : decode cX8_advise 9 = .ok (.invokestatic 63, 3) := by decide +kernel
theorem dX8_advise_12 : decode cX8_advise 12 = .ok (.ifCond .ne 9, 3) := by decide +kernel
theorem dX8_advise_15 : decode cX8_advise 15 = .ok (.aload_n 0, 1) := by decide +kernel
theorem dX8_advise_16 : decode cX8_advise 16 = .ok (.iconst 1, 1) := by decide +kernel
theorem dX8_advise_17 : decode cX8_advise 17 = .ok (.invokevirtual 312, 3) := by decide +kernel
theorem dX8_advise_20 : decode cX8_advise 20 = .ok (.ireturn, 1) := by decide +kernel
theorem dX8_advise_21 : decode cX8_advise 21 = .ok (.aload_n 0, 1) := by decide +kernel
theorem dX8_advise_22 : decode cX8_advise 22 = .ok (.getfield 51, 3) := by decide +kernel
theorem dX8_advise_25 : decode cX8_advise 25 = .ok (.aload_n 0, 1) := by decide +kernel
theorem dX8_advise_26 : decode cX8_advise 26 = .ok (.getfield 47, 3) := by decide +kernel
theorem dX8_advise_29 : decode cX8_advise 29 = .ok (.invokevirtual 399, 3) := by decide +kernel
theorem dX8_advise_32 : decode cX8_advise 32 = .ok (.pop, 1) := by decide +kernel
theorem dX8_advise_33 : decode cX8_advise 33 = .ok (.aload_n 0, 1) := by decide +kernel
theorem dX8_advise_34 : decode cX8_advise 34 = .ok (.getfield 51, 3) := by decide +kernel
theorem dX8_advise_37 : decode cX8_advise 37 = .ok (.iconst 0, 1) := by decide +kernel
theorem dX8_advise_38 : decode cX8_advise 38 = .ok (.putfield 324, 3) := by decide +kernel
theorem dX8_advise_41 : decode cX8_advise 41 = .ok (.aload_n 0, 1) := by decide +kernel
theorem dX8_advise_42 : decode cX8_advise 42 = .ok (.getfield 51, 3) := by decide +kernel
theorem dX8_advise_45 : decode cX8_advise 45 = .ok (.iload_n 1, 1) := by decide +kernel
theorem dX8_advise_46 : decode cX8_advise 46 = .ok (.invokevirtual 395, 3) := by decide +kernel
theorem dX8_advise_49 : decode cX8_advise 49 = .ok (.iconst 2, 1) := by decide +kernel
theorem dX8_advise_50 : decode cX8_advise 50 = .ok (.invokevirtual 392, 3) := by decide +kernel
theorem dX8_advise_53 : decode cX8_advise 53 = .ok (.istore_n 2, 1) := by decide +kernel
theorem dX8_advise_54 : decode cX8_advise 54 = .ok (.aload_n 0, 1) := by decide +kernel
theorem dX8_advise_55 : decode cX8_advise 55 = .ok (.getfield 51, 3) := by decide +kernel
theorem dX8_advise_58 : decode cX8_advise 58 = .ok (.aload_n 0, 1) := by decide +kernel
theorem dX8_advise_59 : decode cX8_advise 59 = .ok (.getfield 47, 3) := by decide +kernel
theorem dX8_advise_62 : decode cX8_advise 62 = .ok (.invokevirtual 399, 3) := by decide +kernel
theorem dX8_advise_65 : decode cX8_advise 65 = .ok (.pop, 1) := by decide +kernel
theorem dX8_advise_66 : decode cX8_advise 66 = .ok (.aload_n 0, 1) := by decide +kernel
theorem dX8_advise_67 : decode cX8_advise 67 = .ok (.getfield 51, 3) := by decide +kernel
theorem dX8_advise_70 : decode cX8_advise 70 = .ok (.iconst 1, 1) := by decide +kernel
theorem dX8_advise_71 : decode cX8_advise 71 = .ok (.putfield 324, 3) := by decide +kernel
theorem dX8_advise_74 : decode cX8_advise 74 = .ok (.aload_n 0, 1) := by decide +kernel
theorem dX8_advise_75 : decode cX8_advise 75 = .ok (.getfield 51, 3) := by decide +kernel
theorem dX8_advise_78 : decode cX8_advise 78 = .ok (.iload_n 1, 1) := by decide +kernel
theorem dX8_advise_79 : decode cX8_advise 79 = .ok (.invokevirtual 395, 3) := by decide +kernel
theorem dX8_advise_82 : decode cX8_advise 82 = .ok (.iconst 2, 1) := by decide +kernel
theorem dX8_advise_83 : decode cX8_advise 83 = .ok (.invokevirtual 392, 3) := by decide +kernel
theorem dX8_advise_86 : decode cX8_advise 86 = .ok (.iload_n 2, 1) := by decide +kernel
theorem dX8_advise_87 : decode cX8_advise 87 = .ok (.if_icmp .le 7, 3) := by decide +kernel
theorem dX8_advise_90 : decode cX8_advise 90 = .ok (.iconst 1, 1) := by decide +kernel
theorem dX8_advise_91 : decode cX8_advise 91 = .ok (.goto 4, 3) := by decide +kernel
theorem dX8_advise_94 : decode cX8_advise 94 = .ok (.iconst 0, 1) := by decide +kernel
theorem dX8_advise_95 : decode cX8_advise 95 = .ok (.ireturn, 1) := by decide +kernel
theorem dX8_missed_0 : decode cX8_missed 0 = .ok (.aload_n 0, 1) := by decide +kernel
theorem dX8_missed_1 : decode cX8_missed 1 = .ok (.iconst 0, 1) := by decide +kernel
theorem dX8_missed_2 : decode cX8_missed 2 = .ok (.putfield 57, 3) := by decide +kernel
theorem dX8_missed_5 : decode cX8_missed 5 = .ok (.iload_n 1, 1) := by decide +kernel
theorem dX8_missed_6 : decode cX8_missed 6 = .ok (.iconst 1, 1) := by decide +kernel
theorem dX8_missed_7 : decode cX8_missed 7 = .ok (.bipush 120, 2) := by decide +kernel
theorem dX8_missed_9 : decode cX8_missed 9 = .ok (.invokestatic 63, 3) := by decide +kernel
theorem dX8_missed_12 : decode cX8_missed 12 = .ok (.ifCond .ne 9, 3) := by decide +kernel
theorem dX8_missed_15 : decode cX8_missed 15 = .ok (.aload_n 0, 1) := by decide +kernel
theorem dX8_missed_16 : decode cX8_missed 16 = .ok (.iconst 1, 1) := by decide +kernel
theorem dX8_missed_17 : decode cX8_missed 17 = .ok (.invokevirtual 312, 3) := by decide +kernel
theorem dX8_missed_20 : decode cX8_missed 20 = .ok (.ireturn, 1) := by decide +kernel
theorem dX8_missed_21 : decode cX8_missed 21 = .ok (.iconst (-1), 1) := by decide +kernel
theorem dX8_missed_22 : decode cX8_missed 22 = .ok (.istore_n 2, 1) := by decide +kernel
theorem dX8_missed_23 : decode cX8_missed 23 = .ok (.bipush 9, 2) := by decide +kernel
theorem dX8_missed_25 : decode cX8_missed 25 = .ok (.istore_n 3, 1) := by decide +kernel
theorem dX8_missed_26 : decode cX8_missed 26 = .ok (.iconst 0, 1) := by decide +kernel
theorem dX8_missed_27 : decode cX8_missed 27 = .ok (.istore 4, 2) := by decide +kernel
theorem dX8_missed_29 : decode cX8_missed 29 = .ok (.iload 4, 2) := by decide +kernel
theorem dX8_missed_31 : decode cX8_missed 31 = .ok (.aload_n 0, 1) := by decide +kernel
theorem dX8_missed_32 : decode cX8_missed 32 = .ok (.getfield 35, 3) := by decide +kernel
theorem dX8_missed_35 : decode cX8_missed 35 = .ok (.getfield 70, 3) := by decide +kernel
theorem dX8_missed_38 : decode cX8_missed 38 = .ok (.if_icmp .ge 59, 3) := by decide +kernel
theorem dX8_missed_41 : decode cX8_missed 41 = .ok (.aload_n 0, 1) := by decide +kernel
theorem dX8_missed_42 : decode cX8_missed 42 = .ok (.getfield 51, 3) := by decide +kernel
theorem dX8_missed_45 : decode cX8_missed 45 = .ok (.aload_n 0, 1) := by decide +kernel
theorem dX8_missed_46 : decode cX8_missed 46 = .ok (.getfield 47, 3) := by decide +kernel
theorem dX8_missed_49 : decode cX8_missed 49 = .ok (.invokevirtual 399, 3) := by decide +kernel
theorem dX8_missed_52 : decode cX8_missed 52 = .ok (.pop, 1) := by decide +kernel
theorem dX8_missed_53 : decode cX8_missed 53 = .ok (.aload_n 0, 1) := by decide +kernel
theorem dX8_missed_54 : decode cX8_missed 54 = .ok (.getfield 51, 3) := by decide +kernel
theorem dX8_missed_57 : decode cX8_missed 57 = .ok (.iload 4, 2) := by decide +kernel
theorem dX8_missed_59 : decode cX8_missed 59 = .ok (.putfield 405, 3) := by decide +kernel
theorem dX8_missed_62 : decode cX8_missed 62 = .ok (.aload_n 0, 1) := by decide +kernel
theorem dX8_missed_63 : decode cX8_missed 63 = .ok (.getfield 51, 3) := by decide +kernel
theorem dX8_missed_66 : decode cX8_missed 66 = .ok (.iload_n 1, 1) := by decide +kernel
theorem dX8_missed_67 : decode cX8_missed 67 = .ok (.invokevirtual 395, 3) := by decide +kernel
theorem dX8_missed_70 : decode cX8_missed 70 = .ok (.iconst 2, 1) := by decide +kernel
theorem dX8_missed_71 : decode cX8_missed 71 = .ok (.invokevirtual 392, 3) := by decide +kernel
theorem dX8_missed_74 : decode cX8_missed 74 = .ok (.istore 5, 2) := by decide +kernel
theorem dX8_missed_76 : decode cX8_missed 76 = .ok (.iload 5, 2) := by decide +kernel
theorem dX8_missed_78 : decode cX8_missed 78 = .ok (.iload_n 3, 1) := by decide +kernel
theorem dX8_missed_79 : decode cX8_missed 79 = .ok (.if_icmp .lt 6, 3) := by decide +kernel
theorem dX8_missed_82 : decode cX8_missed 82 = .ok (.goto 9, 3) := by decide +kernel
theorem dX8_missed_85 : decode cX8_missed 85 = .ok (.iload 5, 2) := by decide +kernel
theorem dX8_missed_87 : decode cX8_missed 87 = .ok (.istore_n 3, 1) := by decide +kernel
theorem dX8_missed_88 : decode cX8_missed 88 = .ok (.iload 4, 2) := by decide +kernel
theorem dX8_missed_90 : decode cX8_missed 90 = .ok (.istore_n 2, 1) := by decide +kernel
theorem dX8_missed_91 : decode cX8_missed 91 = .ok (.iinc 4 1, 3) := by decide +kernel
theorem dX8_missed_94 : decode cX8_missed 94 = .ok (.goto (-65), 3) := by decide +kernel
theorem dX8_missed_97 : decode cX8_missed 97 = .ok (.iload_n 2, 1) := by decide +kernel
theorem dX8_missed_98 : decode cX8_missed 98 = .ok (.ireturn, 1) := by decide +kernel
theorem mi_X8_until : MInfo yX8_until cX8_until 3 (some .int) 1 := ⟨wq_1920, wq_135, by decide, ⟨by decide +kernel, by decide +kernel, by decide +kernel⟩, by decide +kernel⟩
theorem mi_X8_foresee : MInfo yX8_foresee cX8_foresee 3 (some .int) 2 := ⟨wq_1936, wq_135, by decide, ⟨by decide +kernel, by decide +kernel, by decide +kernel⟩, by decide +kernel⟩
theorem mi_X8_advise : MInfo yX8_advise cX8_advise 3 (some .int) 1 := ⟨wq_1940, wq_135, by decide, ⟨by decide +kernel, by decide +kernel, by decide +kernel⟩, by decide +kernel⟩
theorem mi_X8_missed : MInfo yX8_missed cX8_missed 6 (some .int) 1 := ⟨wq_1944, wq_135, by decide, ⟨by decide +kernel, by decide +kernel, by decide +kernel⟩, by decide +kernel⟩
def wl_X8_until_33 (P : M2) (K : Int32 → M2 → M2 → M2 → Prop) : Nat → M2 → M2 → M2 → Int32 → Int32 → Prop
  | 0, _, _, _, _, _ => False
  | n + 1, S, O, N, v1, v2 => ((300 < v2 → ((v2 ≤ 300 → K v2 S O N) ∧ (¬ v2 ≤ 300 → K ((-1)) S O N))) ∧ (¬ 300 < v2 → (inb v1 8 ∧ (((O 206 v1.toInt.toNat) = 2 → ((v2 ≤ 300 → K v2 S O N) ∧ (¬ v2 ≤ 300 → K ((-1)) S O N))) ∧ (¬ (O 206 v1.toInt.toNat) = 2 → wp_X7_pass N P O (fun O_57 => (∀ v2_60 : Int32, v2_60 = v2 + 1 → wl_X8_until_33 P K n S O_57 N v1 v2_60)))))))
def wp_X8_until (P : M2) (S : M2) (O : M2) (N : M2) (x1 : Int32) (K : Int32 → M2 → M2 → M2 → Prop) : Prop := (∀ N_2 : M2, N_2 = up2 N 220 (fun _ => 0) → wp_X8_isBoat P S N_2 x1 (fun r_7 => ((¬ r_7 = 0 → wp_X7_become S O (fun O_27 => wl_X8_until_33 P K fK S O_27 N_2 x1 0)) ∧ (r_7 = 0 → wp_X8_no P S N_2 1 (fun r_15 S_15 N_15 => K r_15 S_15 O N_15)))))
set_option maxRecDepth 100000 in
set_option maxHeartbeats 4000000 in
theorem c_X8_until (l : Launch) (D : va_G) (Z : Nat → ClassId) (a b q g : Nat → Nat) (rg : Nat) (P : M2) (S : M2) (O : M2) (N : M2) (sz : Nat) (x1 : Int32) (K : Int32 → M2 → M2 → M2 → Prop) (hm : wp_X8_until P S O N x1 K) : Met l yX8_until (wy yX8_until cX8_until 3 (some .int)) (rk 10 0 0) (pre vwCl D Z (MA Z a b q g rg P S O N) sz [.ref (g 220), .int x1]) (poI vwCl D Z (fun u : M2 × M2 × M2 => MA Z a b q g rg P u.1 u.2.1 u.2.2) (S, O, N) sz (fun (r : Int32) (u : M2 × M2 × M2) => K r u.1 u.2.1 u.2.2)) 0 0 (va_A (MA Z a b q g rg P S O N) sz) := by
  refine rw_of (ty := .int) (wsF := (fun u : M2 × M2 × M2 => MA Z a b q g rg P u.1 u.2.1 u.2.2)) (u0 := (S, O, N)) (by decide +kernel) (Nat.le_of_ble_eq_true rfl) rfl ?_
  intro p e s m args below meth c Q A hC hN hsz hT hK hret ls hl
  have hx := hC.1
  have hb := hC.2.1
  have hl : lv_has ls 3 [(0, .ref (g 220)), (1, .int x1)] := hl
  have hT : TS vwCl D (MA Z a b q g rg P S O N) A s.heap s.heap [] := hT
  have L33 : ∀ (n33 : Nat), ∀ (S : M2) (O : M2) (N : M2) (v1 : Int32) (v2 : Int32) (H : Heap) (locs : List Loc) (ls : Array Slot), wl_X8_until_33 P K n33 S O N v1 v2 → TS vwCl D (MA Z a b q g rg P S O N) A s.heap H locs → lv_has ls 3 [(0, .ref (g 220)), (1, .int v1), (2, .int v2)] → W p l e (rk 10 0 0) s m args below meth c H locs 0 0 Q (F0 m 33 ls []) := by
    intro n33
    induction n33 with
    | zero =>
      intro S O N v1 v2 H locs ls hm hT hl
      exact False.elim hm
    | succ n33 ih33 =>
      intro S O N v1 v2 H locs ls hm hT hl
      refine lv_iload_n hx hb dX8_until_33 rfl (lv_at hl 2 rfl) ?_
      refine lv_sipush (v := 300) hx hb dX8_until_34 (by decide) ?_
      refine lv_icmp_gt (tgt := 66) hx hb dX8_until_37 (by decide) (fun c_37 => ?_) (fun c_37 => ?_)
      · have hm := hm.1 c_37
        refine lv_iload_n hx hb dX8_until_66 rfl (lv_at hl 2 rfl) ?_
        refine lv_sipush (v := 300) hx hb dX8_until_67 (by decide) ?_
        refine lv_icmp_le (tgt := 77) hx hb dX8_until_70 (by decide) (fun c_70 => ?_) (fun c_70 => ?_)
        · have hm := hm.1 c_70
          refine lv_iload_n hx hb dX8_until_77 rfl (lv_at hl 2 rfl) ?_
          exact hret 78 _ _ _ _ (S, O, N) hm hT rfl dX8_until_78
        · have hm := hm.2 c_70
          refine lv_iconst (v := (-1)) hx hb dX8_until_73 (by decide) ?_
          refine lv_goto (tgt := 78) hx hb dX8_until_74 (by decide) ?_
          exact hret 78 _ _ _ _ (S, O, N) hm hT rfl dX8_until_78
      · have hm := hm.2 c_37
        refine lv_aload_n hx hb dX8_until_40 rfl (lv_at hl 0 rfl) ?_
        refine gMA_mod_14 hC hK hT.1 wq_1434 dX8_until_41 ?_
        refine gNMA_ost_6 hC hN hK hT.1 wn_1369 dX8_until_44 ?_
        refine lv_iload_n hx hb dX8_until_47 rfl (lv_at hl 1 rfl) ?_
        refine w_iald (q0 := 17) hC hK hT.1 rfl hm.1 dX8_until_48 ?_
        have hm := hm.2
        refine lv_iconst (v := 2) hx hb dX8_until_49 (by decide) ?_
        refine lv_icmp_eq (tgt := 66) hx hb dX8_until_50 (by decide) (fun c_50 => ?_) (fun c_50 => ?_)
        · have hm := hm.1 c_50
          refine lv_iload_n hx hb dX8_until_66 rfl (lv_at hl 2 rfl) ?_
          refine lv_sipush (v := 300) hx hb dX8_until_67 (by decide) ?_
          refine lv_icmp_le (tgt := 77) hx hb dX8_until_70 (by decide) (fun c_70 => ?_) (fun c_70 => ?_)
          · have hm := hm.1 c_70
            refine lv_iload_n hx hb dX8_until_77 rfl (lv_at hl 2 rfl) ?_
            exact hret 78 _ _ _ _ (S, O, N) hm hT rfl dX8_until_78
          · have hm := hm.2 c_70
            refine lv_iconst (v := (-1)) hx hb dX8_until_73 (by decide) ?_
            refine lv_goto (tgt := 78) hx hb dX8_until_74 (by decide) ?_
            exact hret 78 _ _ _ _ (S, O, N) hm hT rfl dX8_until_78
        · have hm := hm.2 c_50
          refine lv_aload_n hx hb dX8_until_53 rfl (lv_at hl 0 rfl) ?_
          refine gMA_mod_14 hC hK hT.1 wq_1434 dX8_until_54 ?_
          refine kx_X7_pass hC hN hK hT (cx_SWMAo Z a b q g rg P S O N) rfl hm wq_1932 (by decide) hl.1 (Nat.le_of_ble_eq_true rfl) ⟨Nat.le_refl _, Nat.le_refl _⟩ dX8_until_57 (fun O_57 H locs hm hT => ?_)
          have hT : TS vwCl D (MA Z a b q g rg P S O_57 N) A s.heap H locs := hT
          obtain ⟨v2_60, ev2_60⟩ : ∃ y : Int32, y = v2 + 1 := ⟨_, rfl⟩
          have hm := hm v2_60 ev2_60
          refine lv_iinc (v := v2_60) (lv' := [(2, .int v2_60), (0, .ref (g 220)), (1, .int v1)]) hx hb dX8_until_60 hl (k := 2) rfl (by rw [ev2_60]; rfl) (by decide) rfl (fun ls hl => ?_)
          refine lv_goto (tgt := 33) hx hb dX8_until_63 (by decide) ?_
          exact ih33 _ _ _ _ _ _ _ _ hm hT (lv_sub hl [1, 2, 0] rfl)
  refine lv_aload_n hx hb dX8_until_0 rfl (lv_at hl 0 rfl) ?_
  refine lv_iconst (v := 0) hx hb dX8_until_1 (by decide) ?_
  refine pMA_mod_0 hC hK hT wq_1419 dX8_until_2 (fun N_2 eN_2 H locs hT => ?_)
  have hm := hm N_2 eN_2
  refine lv_aload_n hx hb dX8_until_5 rfl (lv_at hl 0 rfl) ?_
  refine lv_iload_n hx hb dX8_until_6 rfl (lv_at hl 1 rfl) ?_
  refine kx_X8_isBoat hC hN hK hT.1 hT.D' (sx_QWMA Z a b q g rg P S O N_2) rfl hm wq_1789 (by decide) hl.1 (Nat.le_of_ble_eq_true rfl) ⟨Nat.le_refl _, Nat.le_refl _⟩ dX8_until_7 (fun r_7 hm => ?_)
  refine lv_if_ne (tgt := 19) hx hb dX8_until_10 (by decide) (fun c_10 => ?_) (fun c_10 => ?_)
  · have hm := hm.1 c_10
    refine lv_aload_n hx hb dX8_until_19 rfl (lv_at hl 0 rfl) ?_
    refine gMA_mod_14 hC hK hT.1 wq_1434 dX8_until_20 ?_
    refine lv_aload_n hx hb dX8_until_23 rfl (lv_at hl 0 rfl) ?_
    refine gMA_mod_13 hC hK hT.1 wq_1433 dX8_until_24 ?_
    refine kx_X7_become hC hN hK hT (cx_SSMA Z a b q g rg P S O N_2) rfl hm wq_1921 (by decide) hl.1 (Nat.le_of_ble_eq_true rfl) ⟨Nat.le_refl _, Nat.le_refl _⟩ dX8_until_27 (fun O_27 H locs hm hT => ?_)
    have hT : TS vwCl D (MA Z a b q g rg P S O_27 N_2) A s.heap H locs := hT
    refine lv_pop hx hb dX8_until_30 rfl ?_
    refine lv_iconst (v := 0) hx hb dX8_until_31 (by decide) ?_
    refine lv_istore_n (lv' := [(2, .int 0), (0, .ref (g 220)), (1, .int x1)]) hx hb dX8_until_32 rfl hl (by decide) rfl (fun ls hl => ?_)
    exact L33 _ _ _ _ _ _ _ _ _ hm hT (lv_sub hl [1, 2, 0] rfl)
  · have hm := hm.2 c_10
    refine lv_aload_n hx hb dX8_until_13 rfl (lv_at hl 0 rfl) ?_
    refine lv_iconst (v := 1) hx hb dX8_until_14 (by decide) ?_
    refine kx_X8_no hC hN hK hT (cx_QWMA Z a b q g rg P S O N_2) rfl hm wq_1474 (by decide) hl.1 (Nat.le_of_ble_eq_true rfl) ⟨Nat.le_refl _, Nat.le_refl _⟩ dX8_until_15 (fun r_15 S_15 N_15 H locs hm hT => ?_)
    have hT : TS vwCl D (MA Z a b q g rg P S_15 O N_15) A s.heap H locs := hT
    exact hret 18 _ _ _ _ (S_15, O, N_15) hm hT rfl dX8_until_18
section KX8_until
variable {p : Program} {l : Launch} {e : Env} {s : State} {m : MethodId} {args : Array Value} {below : List Frame} {meth : Method} {c : Code} {H H0 : Heap} {locs : List Loc} {cells slots : Nat} {Q : State → Prop} {R : Room} {rn mcR msR : Nat}
variable {pc : Nat} {ls : Array Slot} {rest : List Value} {A : Nat → Prop} {D : va_G}
variable {cc : ByteArray} {nL index : Nat} {own host : String}
end KX8_until
def wp_X8_foresee (P : M2) (S : M2) (O : M2) (N : M2) (x1 : Int32) (x2 : Int32) (K : Int32 → M2 → M2 → M2 → Prop) : Prop := (∀ N_2 : M2, N_2 = up2 N 220 (fun _ => 0) → wp_X8_isIn x1 1 120 (fun r_9 => ((¬ r_9 = 0 → wp_X8_isIn x2 8 12 (fun r_26 => ((r_26 = 0 → wp_X8_no P S N_2 2 (fun r_56 S_56 N_56 => K r_56 S_56 O N_56)) ∧ (¬ r_26 = 0 → wp_X7_become S O (fun O_40 => wp_X7_pass_ N_2 P O_40 x1 (fun O_44 => wp_X7_counted N_2 P O_44 x2 (fun r_48 => K r_48 S O_44 N_2))))))) ∧ (r_9 = 0 → wp_X8_no P S N_2 1 (fun r_17 S_17 N_17 => K r_17 S_17 O N_17)))))
set_option maxRecDepth 100000 in
set_option maxHeartbeats 4000000 in
theorem c_X8_foresee (l : Launch) (D : va_G) (Z : Nat → ClassId) (a b q g : Nat → Nat) (rg : Nat) (P : M2) (S : M2) (O : M2) (N : M2) (sz : Nat) (x1 : Int32) (x2 : Int32) (K : Int32 → M2 → M2 → M2 → Prop) (hm : wp_X8_foresee P S O N x1 x2 K) : Met l yX8_foresee (wy yX8_foresee cX8_foresee 3 (some .int)) (rk 11 0 0) (pre vwCl D Z (MA Z a b q g rg P S O N) sz [.ref (g 220), .int x1, .int x2]) (poI vwCl D Z (fun u : M2 × M2 × M2 => MA Z a b q g rg P u.1 u.2.1 u.2.2) (S, O, N) sz (fun (r : Int32) (u : M2 × M2 × M2) => K r u.1 u.2.1 u.2.2)) 0 0 (va_A (MA Z a b q g rg P S O N) sz) := by
  refine rw_of (ty := .int) (wsF := (fun u : M2 × M2 × M2 => MA Z a b q g rg P u.1 u.2.1 u.2.2)) (u0 := (S, O, N)) (by decide +kernel) (Nat.le_of_ble_eq_true rfl) rfl ?_
  intro p e s m args below meth c Q A hC hN hsz hT hK hret ls hl
  have hx := hC.1
  have hb := hC.2.1
  have hl : lv_has ls 3 [(0, .ref (g 220)), (1, .int x1), (2, .int x2)] := hl
  have hT : TS vwCl D (MA Z a b q g rg P S O N) A s.heap s.heap [] := hT
  refine lv_aload_n hx hb dX8_foresee_0 rfl (lv_at hl 0 rfl) ?_
  refine lv_iconst (v := 0) hx hb dX8_foresee_1 (by decide) ?_
  refine pMA_mod_0 hC hK hT wq_1419 dX8_foresee_2 (fun N_2 eN_2 H locs hT => ?_)
  have hm := hm N_2 eN_2
  refine lv_iload_n hx hb dX8_foresee_5 rfl (lv_at hl 1 rfl) ?_
  refine lv_iconst (v := 1) hx hb dX8_foresee_6 (by decide) ?_
  refine lv_bipush (v := 120) hx hb dX8_foresee_7 (by decide) ?_
  refine kx_X8_isIn hC hN hK hT.1 hT.D' (sx_EWMA Z a b q g rg P S O N_2) rfl hm wq_1482 (by decide) hl.1 (Nat.le_of_ble_eq_true rfl) ⟨Nat.le_refl _, Nat.le_refl _⟩ dX8_foresee_9 (fun r_9 hm => ?_)
  refine lv_if_ne (tgt := 21) hx hb dX8_foresee_12 (by decide) (fun c_12 => ?_) (fun c_12 => ?_)
  · have hm := hm.1 c_12
    refine lv_iload_n hx hb dX8_foresee_21 rfl (lv_at hl 2 rfl) ?_
    refine lv_bipush (v := 8) hx hb dX8_foresee_22 (by decide) ?_
    refine lv_bipush (v := 12) hx hb dX8_foresee_24 (by decide) ?_
    refine kx_X8_isIn hC hN hK hT.1 hT.D' (sx_EWMA Z a b q g rg P S O N_2) rfl hm wq_1482 (by decide) hl.1 (Nat.le_of_ble_eq_true rfl) ⟨Nat.le_refl _, Nat.le_refl _⟩ dX8_foresee_26 (fun r_26 hm => ?_)
    refine lv_if_eq (tgt := 54) hx hb dX8_foresee_29 (by decide) (fun c_29 => ?_) (fun c_29 => ?_)
    · have hm := hm.1 c_29
      refine lv_aload_n hx hb dX8_foresee_54 rfl (lv_at hl 0 rfl) ?_
      refine lv_iconst (v := 2) hx hb dX8_foresee_55 (by decide) ?_
      refine kx_X8_no hC hN hK hT (cx_QWMA Z a b q g rg P S O N_2) rfl hm wq_1474 (by decide) hl.1 (Nat.le_of_ble_eq_true rfl) ⟨Nat.le_refl _, Nat.le_refl _⟩ dX8_foresee_56 (fun r_56 S_56 N_56 H locs hm hT => ?_)
      have hT : TS vwCl D (MA Z a b q g rg P S_56 O N_56) A s.heap H locs := hT
      exact hret 59 _ _ _ _ (S_56, O, N_56) hm hT rfl dX8_foresee_59
    · have hm := hm.2 c_29
      refine lv_aload_n hx hb dX8_foresee_32 rfl (lv_at hl 0 rfl) ?_
      refine gMA_mod_14 hC hK hT.1 wq_1434 dX8_foresee_33 ?_
      refine lv_aload_n hx hb dX8_foresee_36 rfl (lv_at hl 0 rfl) ?_
      refine gMA_mod_13 hC hK hT.1 wq_1433 dX8_foresee_37 ?_
      refine kx_X7_become hC hN hK hT (cx_SSMA Z a b q g rg P S O N_2) rfl hm wq_1921 (by decide) hl.1 (Nat.le_of_ble_eq_true rfl) ⟨Nat.le_refl _, Nat.le_refl _⟩ dX8_foresee_40 (fun O_40 H locs hm hT => ?_)
      have hT : TS vwCl D (MA Z a b q g rg P S O_40 N_2) A s.heap H locs := hT
      refine lv_iload_n hx hb dX8_foresee_43 rfl (lv_at hl 1 rfl) ?_
      refine kx_X7_pass_ hC hN hK hT (cx_SWMAo Z a b q g rg P S O_40 N_2) rfl hm wq_1876 (by decide) hl.1 (Nat.le_of_ble_eq_true rfl) ⟨Nat.le_refl _, Nat.le_refl _⟩ dX8_foresee_44 (fun O_44 H locs hm hT => ?_)
      have hT : TS vwCl D (MA Z a b q g rg P S O_44 N_2) A s.heap H locs := hT
      refine lv_iload_n hx hb dX8_foresee_47 rfl (lv_at hl 2 rfl) ?_
      refine kx_X7_counted hC hN hK hT.1 hT.D' (sx_SWMAo Z a b q g rg P S O_44 N_2) rfl hm wq_1724 (by decide) hl.1 (Nat.le_of_ble_eq_true rfl) ⟨Nat.le_refl _, Nat.le_refl _⟩ dX8_foresee_48 (fun r_48 hm => ?_)
      refine lv_goto (tgt := 59) hx hb dX8_foresee_51 (by decide) ?_
      exact hret 59 _ _ _ _ (S, O_44, N_2) hm hT rfl dX8_foresee_59
  · have hm := hm.2 c_12
    refine lv_aload_n hx hb dX8_foresee_15 rfl (lv_at hl 0 rfl) ?_
    refine lv_iconst (v := 1) hx hb dX8_foresee_16 (by decide) ?_
    refine kx_X8_no hC hN hK hT (cx_QWMA Z a b q g rg P S O N_2) rfl hm wq_1474 (by decide) hl.1 (Nat.le_of_ble_eq_true rfl) ⟨Nat.le_refl _, Nat.le_refl _⟩ dX8_foresee_17 (fun r_17 S_17 N_17 H locs hm hT => ?_)
    have hT : TS vwCl D (MA Z a b q g rg P S_17 O N_17) A s.heap H locs := hT
    exact hret 20 _ _ _ _ (S_17, O, N_17) hm hT rfl dX8_foresee_20
section KX8_foresee
variable {p : Program} {l : Launch} {e : Env} {s : State} {m : MethodId} {args : Array Value} {below : List Frame} {meth : Method} {c : Code} {H H0 : Heap} {locs : List Loc} {cells slots : Nat} {Q : State → Prop} {R : Room} {rn mcR msR : Nat}
variable {pc : Nat} {ls : Array Slot} {rest : List Value} {A : Nat → Prop} {D : va_G}
variable {cc : ByteArray} {nL index : Nat} {own host : String}
end KX8_foresee
def wp_X8_advise (P : M2) (S : M2) (O : M2) (N : M2) (x1 : Int32) (K : Int32 → M2 → M2 → M2 → Prop) : Prop := (∀ N_2 : M2, N_2 = up2 N 220 (fun _ => 0) → wp_X8_isIn x1 1 120 (fun r_9 => ((¬ r_9 = 0 → wp_X7_become S O (fun O_29 => (∀ O_38 : M2, O_38 = up2 O_29 201 (fun _ => 0) → wp_X7_pass_ N_2 P O_38 x1 (fun O_46 => wp_X7_those N_2 P O_46 2 (fun r_50 => wp_X7_become S O_46 (fun O_62 => (∀ O_71 : M2, O_71 = up2 O_62 201 (fun _ => 1) → wp_X7_pass_ N_2 P O_71 x1 (fun O_79 => wp_X7_those N_2 P O_79 2 (fun r_83 => ((r_83 ≤ r_50 → K 0 S O_79 N_2) ∧ (¬ r_83 ≤ r_50 → K 1 S O_79 N_2))))))))))) ∧ (r_9 = 0 → wp_X8_no P S N_2 1 (fun r_17 S_17 N_17 => K r_17 S_17 O N_17)))))
set_option maxRecDepth 100000 in
set_option maxHeartbeats 4000000 in
theorem c_X8_advise (l : Launch) (D : va_G) (Z : Nat → ClassId) (a b q g : Nat → Nat) (rg : Nat) (P : M2) (S : M2) (O : M2) (N : M2) (sz : Nat) (x1 : Int32) (K : Int32 → M2 → M2 → M2 → Prop) (hm : wp_X8_advise P S O N x1 K) : Met l yX8_advise (wy yX8_advise cX8_advise 3 (some .int)) (rk 11 0 0) (pre vwCl D Z (MA Z a b q g rg P S O N) sz [.ref (g 220), .int x1]) (poI vwCl D Z (fun u : M2 × M2 × M2 => MA Z a b q g rg P u.1 u.2.1 u.2.2) (S, O, N) sz (fun (r : Int32) (u : M2 × M2 × M2) => K r u.1 u.2.1 u.2.2)) 0 0 (va_A (MA Z a b q g rg P S O N) sz) := by
  refine rw_of (ty := .int) (wsF := (fun u : M2 × M2 × M2 => MA Z a b q g rg P u.1 u.2.1 u.2.2)) (u0 := (S, O, N)) (by decide +kernel) (Nat.le_of_ble_eq_true rfl) rfl ?_
  intro p e s m args below meth c Q A hC hN hsz hT hK hret ls hl
  have hx := hC.1
  have hb := hC.2.1
  have hl : lv_has ls 3 [(0, .ref (g 220)), (1, .int x1)] := hl
  have hT : TS vwCl D (MA Z a b q g rg P S O N) A s.heap s.heap [] := hT
  refine lv_aload_n hx hb dX8_advise_0 rfl (lv_at hl 0 rfl) ?_
  refine lv_iconst (v := 0) hx hb dX8_advise_1 (by decide) ?_
  refine pMA_mod_0 hC hK hT wq_1419 dX8_advise_2 (fun N_2 eN_2 H locs hT => ?_)
  have hm := hm N_2 eN_2
  refine lv_iload_n hx hb dX8_advise_5 rfl (lv_at hl 1 rfl) ?_
  refine lv_iconst (v := 1) hx hb dX8_advise_6 (by decide) ?_
  refine lv_bipush (v := 120) hx hb dX8_advise_7 (by decide) ?_
  refine kx_X8_isIn hC hN hK hT.1 hT.D' (sx_EWMA Z a b q g rg P S O N_2) rfl hm wq_1482 (by decide) hl.1 (Nat.le_of_ble_eq_true rfl) ⟨Nat.le_refl _, Nat.le_refl _⟩ dX8_advise_9 (fun r_9 hm => ?_)
  refine lv_if_ne (tgt := 21) hx hb dX8_advise_12 (by decide) (fun c_12 => ?_) (fun c_12 => ?_)
  · have hm := hm.1 c_12
    refine lv_aload_n hx hb dX8_advise_21 rfl (lv_at hl 0 rfl) ?_
    refine gMA_mod_14 hC hK hT.1 wq_1434 dX8_advise_22 ?_
    refine lv_aload_n hx hb dX8_advise_25 rfl (lv_at hl 0 rfl) ?_
    refine gMA_mod_13 hC hK hT.1 wq_1433 dX8_advise_26 ?_
    refine kx_X7_become hC hN hK hT (cx_SSMA Z a b q g rg P S O N_2) rfl hm wq_1921 (by decide) hl.1 (Nat.le_of_ble_eq_true rfl) ⟨Nat.le_refl _, Nat.le_refl _⟩ dX8_advise_29 (fun O_29 H locs hm hT => ?_)
    have hT : TS vwCl D (MA Z a b q g rg P S O_29 N_2) A s.heap H locs := hT
    refine lv_pop hx hb dX8_advise_32 rfl ?_
    refine lv_aload_n hx hb dX8_advise_33 rfl (lv_at hl 0 rfl) ?_
    refine gMA_mod_14 hC hK hT.1 wq_1434 dX8_advise_34 ?_
    refine lv_iconst (v := 0) hx hb dX8_advise_37 (by decide) ?_
    refine pNMA_ost_1 hC hN hK hT wn_1359 dX8_advise_38 (fun O_38 eO_38 H locs hT => ?_)
    have hm := hm O_38 eO_38
    refine lv_aload_n hx hb dX8_advise_41 rfl (lv_at hl 0 rfl) ?_
    refine gMA_mod_14 hC hK hT.1 wq_1434 dX8_advise_42 ?_
    refine lv_iload_n hx hb dX8_advise_45 rfl (lv_at hl 1 rfl) ?_
    refine kx_X7_pass_ hC hN hK hT (cx_SWMAo Z a b q g rg P S O_38 N_2) rfl hm wq_1876 (by decide) hl.1 (Nat.le_of_ble_eq_true rfl) ⟨Nat.le_refl _, Nat.le_refl _⟩ dX8_advise_46 (fun O_46 H locs hm hT => ?_)
    have hT : TS vwCl D (MA Z a b q g rg P S O_46 N_2) A s.heap H locs := hT
    refine lv_iconst (v := 2) hx hb dX8_advise_49 (by decide) ?_
    refine kx_X7_those hC hN hK hT.1 hT.D' (sx_SWMAo Z a b q g rg P S O_46 N_2) rfl hm wq_1875 (by decide) hl.1 (Nat.le_of_ble_eq_true rfl) ⟨Nat.le_refl _, Nat.le_refl _⟩ dX8_advise_50 (fun r_50 hm => ?_)
    refine lv_istore_n (lv' := [(2, .int r_50), (0, .ref (g 220)), (1, .int x1)]) hx hb dX8_advise_53 rfl hl (by decide) rfl (fun ls hl => ?_)
    refine lv_aload_n hx hb dX8_advise_54 rfl (lv_at hl 1 rfl) ?_
    refine gMA_mod_14 hC hK hT.1 wq_1434 dX8_advise_55 ?_
    refine lv_aload_n hx hb dX8_advise_58 rfl (lv_at hl 1 rfl) ?_
    refine gMA_mod_13 hC hK hT.1 wq_1433 dX8_advise_59 ?_
    refine kx_X7_become hC hN hK hT (cx_SSMA Z a b q g rg P S O_46 N_2) rfl hm wq_1921 (by decide) hl.1 (Nat.le_of_ble_eq_true rfl) ⟨Nat.le_refl _, Nat.le_refl _⟩ dX8_advise_62 (fun O_62 H locs hm hT => ?_)
    have hT : TS vwCl D (MA Z a b q g rg P S O_62 N_2) A s.heap H locs := hT
    refine lv_pop hx hb dX8_advise_65 rfl ?_
    refine lv_aload_n hx hb dX8_advise_66 rfl (lv_at hl 1 rfl) ?_
    refine gMA_mod_14 hC hK hT.1 wq_1434 dX8_advise_67 ?_
    refine lv_iconst (v := 1) hx hb dX8_advise_70 (by decide) ?_
    refine pNMA_ost_1 hC hN hK hT wn_1359 dX8_advise_71 (fun O_71 eO_71 H locs hT => ?_)
    have hm := hm O_71 eO_71
    refine lv_aload_n hx hb dX8_advise_74 rfl (lv_at hl 1 rfl) ?_
    refine gMA_mod_14 hC hK hT.1 wq_1434 dX8_advise_75 ?_
    refine lv_iload_n hx hb dX8_advise_78 rfl (lv_at hl 2 rfl) ?_
    refine kx_X7_pass_ hC hN hK hT (cx_SWMAo Z a b q g rg P S O_71 N_2) rfl hm wq_1876 (by decide) hl.1 (Nat.le_of_ble_eq_true rfl) ⟨Nat.le_refl _, Nat.le_refl _⟩ dX8_advise_79 (fun O_79 H locs hm hT => ?_)
    have hT : TS vwCl D (MA Z a b q g rg P S O_79 N_2) A s.heap H locs := hT
    refine lv_iconst (v := 2) hx hb dX8_advise_82 (by decide) ?_
    refine kx_X7_those hC hN hK hT.1 hT.D' (sx_SWMAo Z a b q g rg P S O_79 N_2) rfl hm wq_1875 (by decide) hl.1 (Nat.le_of_ble_eq_true rfl) ⟨Nat.le_refl _, Nat.le_refl _⟩ dX8_advise_83 (fun r_83 hm => ?_)
    refine lv_iload_n hx hb dX8_advise_86 rfl (lv_at hl 0 rfl) ?_
    refine lv_icmp_le (tgt := 94) hx hb dX8_advise_87 (by decide) (fun c_87 => ?_) (fun c_87 => ?_)
    · have hm := hm.1 c_87
      refine lv_iconst (v := 0) hx hb dX8_advise_94 (by decide) ?_
      exact hret 95 _ _ _ _ (S, O_79, N_2) hm hT rfl dX8_advise_95
    · have hm := hm.2 c_87
      refine lv_iconst (v := 1) hx hb dX8_advise_90 (by decide) ?_
      refine lv_goto (tgt := 95) hx hb dX8_advise_91 (by decide) ?_
      exact hret 95 _ _ _ _ (S, O_79, N_2) hm hT rfl dX8_advise_95
  · have hm := hm.2 c_12
    refine lv_aload_n hx hb dX8_advise_15 rfl (lv_at hl 0 rfl) ?_
    refine lv_iconst (v := 1) hx hb dX8_advise_16 (by decide) ?_
    refine kx_X8_no hC hN hK hT (cx_QWMA Z a b q g rg P S O N_2) rfl hm wq_1474 (by decide) hl.1 (Nat.le_of_ble_eq_true rfl) ⟨Nat.le_refl _, Nat.le_refl _⟩ dX8_advise_17 (fun r_17 S_17 N_17 H locs hm hT => ?_)
    have hT : TS vwCl D (MA Z a b q g rg P S_17 O N_17) A s.heap H locs := hT
    exact hret 20 _ _ _ _ (S_17, O, N_17) hm hT rfl dX8_advise_20
section KX8_advise
variable {p : Program} {l : Launch} {e : Env} {s : State} {m : MethodId} {args : Array Value} {below : List Frame} {meth : Method} {c : Code} {H H0 : Heap} {locs : List Loc} {cells slots : Nat} {Q : State → Prop} {R : Room} {rn mcR msR : Nat}
variable {pc : Nat} {ls : Array Slot} {rest : List Value} {A : Nat → Prop} {D : va_G}
variable {cc : ByteArray} {nL index : Nat} {own host : String}
end KX8_advise
def wl_X8_missed_29 (P : M2) (K : Int32 → M2 → M2 → M2 → Prop) : Nat → M2 → M2 → M2 → Int32 → Int32 → Int32 → Int32 → Prop
  | 0, _, _, _, _, _, _, _ => False
  | n + 1, S, O, N, v1, v2, v3, v4 => (((P 249 0) ≤ v4 → K v2 S O N) ∧ (¬ (P 249 0) ≤ v4 → wp_X7_become S O (fun O_49 => (∀ O_59 : M2, O_59 = up2 O_49 212 (fun _ => v4) → wp_X7_pass_ N P O_59 v1 (fun O_67 => wp_X7_those N P O_67 2 (fun r_71 => ((r_71 < v3 → (∀ v4_91 : Int32, v4_91 = v4 + 1 → wl_X8_missed_29 P K n S O_67 N v1 v4 r_71 v4_91)) ∧ (¬ r_71 < v3 → (∀ v4_91 : Int32, v4_91 = v4 + 1 → wl_X8_missed_29 P K n S O_67 N v1 v2 v3 v4_91)))))))))
def wp_X8_missed (P : M2) (S : M2) (O : M2) (N : M2) (x1 : Int32) (K : Int32 → M2 → M2 → M2 → Prop) : Prop := (∀ N_2 : M2, N_2 = up2 N 220 (fun _ => 0) → wp_X8_isIn x1 1 120 (fun r_9 => ((¬ r_9 = 0 → wl_X8_missed_29 P K fK S O N_2 x1 ((-1)) 9 0) ∧ (r_9 = 0 → wp_X8_no P S N_2 1 (fun r_17 S_17 N_17 => K r_17 S_17 O N_17)))))
set_option maxRecDepth 100000 in
set_option maxHeartbeats 4000000 in
theorem c_X8_missed (l : Launch) (D : va_G) (Z : Nat → ClassId) (a b q g : Nat → Nat) (rg : Nat) (P : M2) (S : M2) (O : M2) (N : M2) (sz : Nat) (x1 : Int32) (K : Int32 → M2 → M2 → M2 → Prop) (hm : wp_X8_missed P S O N x1 K) : Met l yX8_missed (wy yX8_missed cX8_missed 6 (some .int)) (rk 11 0 0) (pre vwCl D Z (MA Z a b q g rg P S O N) sz [.ref (g 220), .int x1]) (poI vwCl D Z (fun u : M2 × M2 × M2 => MA Z a b q g rg P u.1 u.2.1 u.2.2) (S, O, N) sz (fun (r : Int32) (u : M2 × M2 × M2) => K r u.1 u.2.1 u.2.2)) 0 0 (va_A (MA Z a b q g rg P S O N) sz) := by
  refine rw_of (ty := .int) (wsF := (fun u : M2 × M2 × M2 => MA Z a b q g rg P u.1 u.2.1 u.2.2)) (u0 := (S, O, N)) (by decide +kernel) (Nat.le_of_ble_eq_true rfl) rfl ?_
  intro p e s m args below meth c Q A hC hN hsz hT hK hret ls hl
  have hx := hC.1
  have hb := hC.2.1
  have hl : lv_has ls 6 [(0, .ref (g 220)), (1, .int x1)] := hl
  have hT : TS vwCl D (MA Z a b q g rg P S O N) A s.heap s.heap [] := hT
  have L29 : ∀ (n29 : Nat), ∀ (S : M2) (O : M2) (N : M2) (v1 : Int32) (v2 : Int32) (v3 : Int32) (v4 : Int32) (H : Heap) (locs : List Loc) (ls : Array Slot), wl_X8_missed_29 P K n29 S O N v1 v2 v3 v4 → TS vwCl D (MA Z a b q g rg P S O N) A s.heap H locs → lv_has ls 6 [(0, .ref (g 220)), (1, .int v1), (2, .int v2), (3, .int v3), (4, .int v4)] → W p l e (rk 11 0 0) s m args below meth c H locs 0 0 Q (F0 m 29 ls []) := by
    intro n29
    induction n29 with
    | zero =>
      intro S O N v1 v2 v3 v4 H locs ls hm hT hl
      exact False.elim hm
    | succ n29 ih29 =>
      intro S O N v1 v2 v3 v4 H locs ls hm hT hl
      refine lv_iload hx hb dX8_missed_29 (lv_at hl 4 rfl) ?_
      refine lv_aload_n hx hb dX8_missed_31 rfl (lv_at hl 0 rfl) ?_
      refine gMA_mod_11 hC hK hT.1 wq_1430 dX8_missed_32 ?_
      refine gNMA_plan_9 hC hN hK hT.1 wn_1251 dX8_missed_35 ?_
      refine lv_icmp_ge (tgt := 97) hx hb dX8_missed_38 (by decide) (fun c_38 => ?_) (fun c_38 => ?_)
      · have hm := hm.1 c_38
        refine lv_iload_n hx hb dX8_missed_97 rfl (lv_at hl 2 rfl) ?_
        exact hret 98 _ _ _ _ (S, O, N) hm hT rfl dX8_missed_98
      · have hm := hm.2 c_38
        refine lv_aload_n hx hb dX8_missed_41 rfl (lv_at hl 0 rfl) ?_
        refine gMA_mod_14 hC hK hT.1 wq_1434 dX8_missed_42 ?_
        refine lv_aload_n hx hb dX8_missed_45 rfl (lv_at hl 0 rfl) ?_
        refine gMA_mod_13 hC hK hT.1 wq_1433 dX8_missed_46 ?_
        refine kx_X7_become hC hN hK hT (cx_SSMA Z a b q g rg P S O N) rfl hm wq_1921 (by decide) hl.1 (Nat.le_of_ble_eq_true rfl) ⟨Nat.le_refl _, Nat.le_refl _⟩ dX8_missed_49 (fun O_49 H locs hm hT => ?_)
        have hT : TS vwCl D (MA Z a b q g rg P S O_49 N) A s.heap H locs := hT
        refine lv_pop hx hb dX8_missed_52 rfl ?_
        refine lv_aload_n hx hb dX8_missed_53 rfl (lv_at hl 0 rfl) ?_
        refine gMA_mod_14 hC hK hT.1 wq_1434 dX8_missed_54 ?_
        refine lv_iload hx hb dX8_missed_57 (lv_at hl 4 rfl) ?_
        refine pNMA_ost_12 hC hN hK hT wn_1381 dX8_missed_59 (fun O_59 eO_59 H locs hT => ?_)
        have hm := hm O_59 eO_59
        refine lv_aload_n hx hb dX8_missed_62 rfl (lv_at hl 0 rfl) ?_
        refine gMA_mod_14 hC hK hT.1 wq_1434 dX8_missed_63 ?_
        refine lv_iload_n hx hb dX8_missed_66 rfl (lv_at hl 1 rfl) ?_
        refine kx_X7_pass_ hC hN hK hT (cx_SWMAo Z a b q g rg P S O_59 N) rfl hm wq_1876 (by decide) hl.1 (Nat.le_of_ble_eq_true rfl) ⟨Nat.le_refl _, Nat.le_refl _⟩ dX8_missed_67 (fun O_67 H locs hm hT => ?_)
        have hT : TS vwCl D (MA Z a b q g rg P S O_67 N) A s.heap H locs := hT
        refine lv_iconst (v := 2) hx hb dX8_missed_70 (by decide) ?_
        refine kx_X7_those hC hN hK hT.1 hT.D' (sx_SWMAo Z a b q g rg P S O_67 N) rfl hm wq_1875 (by decide) hl.1 (Nat.le_of_ble_eq_true rfl) ⟨Nat.le_refl _, Nat.le_refl _⟩ dX8_missed_71 (fun r_71 hm => ?_)
        refine lv_istore (lv' := [(5, .int r_71), (0, .ref (g 220)), (1, .int v1), (2, .int v2), (3, .int v3), (4, .int v4)]) hx hb dX8_missed_74 hl (by decide) rfl (fun ls hl => ?_)
        refine lv_iload hx hb dX8_missed_76 (lv_at hl 0 rfl) ?_
        refine lv_iload_n hx hb dX8_missed_78 rfl (lv_at hl 4 rfl) ?_
        refine lv_icmp_lt (tgt := 85) hx hb dX8_missed_79 (by decide) (fun c_79 => ?_) (fun c_79 => ?_)
        · have hm := hm.1 c_79
          refine lv_iload hx hb dX8_missed_85 (lv_at hl 0 rfl) ?_
          refine lv_istore_n (lv' := [(3, .int r_71), (5, .int r_71), (0, .ref (g 220)), (1, .int v1), (2, .int v2), (4, .int v4)]) hx hb dX8_missed_87 rfl hl (by decide) rfl (fun ls hl => ?_)
          refine lv_iload hx hb dX8_missed_88 (lv_at hl 5 rfl) ?_
          refine lv_istore_n (lv' := [(2, .int v4), (3, .int r_71), (5, .int r_71), (0, .ref (g 220)), (1, .int v1), (4, .int v4)]) hx hb dX8_missed_90 rfl hl (by decide) rfl (fun ls hl => ?_)
          obtain ⟨v4_91, ev4_91⟩ : ∃ y : Int32, y = v4 + 1 := ⟨_, rfl⟩
          have hm := hm v4_91 ev4_91
          refine lv_iinc (v := v4_91) (lv' := [(4, .int v4_91), (2, .int v4), (3, .int r_71), (5, .int r_71), (0, .ref (g 220)), (1, .int v1)]) hx hb dX8_missed_91 hl (k := 5) rfl (by rw [ev4_91]; rfl) (by decide) rfl (fun ls hl => ?_)
          refine lv_goto (tgt := 29) hx hb dX8_missed_94 (by decide) ?_
          exact ih29 _ _ _ _ _ _ _ _ _ _ hm hT (lv_sub hl [4, 5, 1, 2, 0] rfl)
        · have hm := hm.2 c_79
          refine lv_goto (tgt := 91) hx hb dX8_missed_82 (by decide) ?_
          obtain ⟨v4_91, ev4_91⟩ : ∃ y : Int32, y = v4 + 1 := ⟨_, rfl⟩
          have hm := hm v4_91 ev4_91
          refine lv_iinc (v := v4_91) (lv' := [(4, .int v4_91), (5, .int r_71), (0, .ref (g 220)), (1, .int v1), (2, .int v2), (3, .int v3)]) hx hb dX8_missed_91 hl (k := 5) rfl (by rw [ev4_91]; rfl) (by decide) rfl (fun ls hl => ?_)
          refine lv_goto (tgt := 29) hx hb dX8_missed_94 (by decide) ?_
          exact ih29 _ _ _ _ _ _ _ _ _ _ hm hT (lv_sub hl [2, 3, 4, 5, 0] rfl)
  refine lv_aload_n hx hb dX8_missed_0 rfl (lv_at hl 0 rfl) ?_
  refine lv_iconst (v := 0) hx hb dX8_missed_1 (by decide) ?_
  refine pMA_mod_0 hC hK hT wq_1419 dX8_missed_2 (fun N_2 eN_2 H locs hT => ?_)
  have hm := hm N_2 eN_2
  refine lv_iload_n hx hb dX8_missed_5 rfl (lv_at hl 1 rfl) ?_
  refine lv_iconst (v := 1) hx hb dX8_missed_6 (by decide) ?_
  refine lv_bipush (v := 120) hx hb dX8_missed_7 (by decide) ?_
  refine kx_X8_isIn hC hN hK hT.1 hT.D' (sx_EWMA Z a b q g rg P S O N_2) rfl hm wq_1482 (by decide) hl.1 (Nat.le_of_ble_eq_true rfl) ⟨Nat.le_refl _, Nat.le_refl _⟩ dX8_missed_9 (fun r_9 hm => ?_)
  refine lv_if_ne (tgt := 21) hx hb dX8_missed_12 (by decide) (fun c_12 => ?_) (fun c_12 => ?_)
  · have hm := hm.1 c_12
    refine lv_iconst (v := (-1)) hx hb dX8_missed_21 (by decide) ?_
    refine lv_istore_n (lv' := [(2, .int ((-1))), (0, .ref (g 220)), (1, .int x1)]) hx hb dX8_missed_22 rfl hl (by decide) rfl (fun ls hl => ?_)
    refine lv_bipush (v := 9) hx hb dX8_missed_23 (by decide) ?_
    refine lv_istore_n (lv' := [(3, .int 9), (2, .int ((-1))), (0, .ref (g 220)), (1, .int x1)]) hx hb dX8_missed_25 rfl hl (by decide) rfl (fun ls hl => ?_)
    refine lv_iconst (v := 0) hx hb dX8_missed_26 (by decide) ?_
    refine lv_istore (lv' := [(4, .int 0), (3, .int 9), (2, .int ((-1))), (0, .ref (g 220)), (1, .int x1)]) hx hb dX8_missed_27 hl (by decide) rfl (fun ls hl => ?_)
    exact L29 _ _ _ _ _ _ _ _ _ _ _ hm hT (lv_sub hl [3, 4, 2, 1, 0] rfl)
  · have hm := hm.2 c_12
    refine lv_aload_n hx hb dX8_missed_15 rfl (lv_at hl 0 rfl) ?_
    refine lv_iconst (v := 1) hx hb dX8_missed_16 (by decide) ?_
    refine kx_X8_no hC hN hK hT (cx_QWMA Z a b q g rg P S O N_2) rfl hm wq_1474 (by decide) hl.1 (Nat.le_of_ble_eq_true rfl) ⟨Nat.le_refl _, Nat.le_refl _⟩ dX8_missed_17 (fun r_17 S_17 N_17 H locs hm hT => ?_)
    have hT : TS vwCl D (MA Z a b q g rg P S_17 O N_17) A s.heap H locs := hT
    exact hret 20 _ _ _ _ (S_17, O, N_17) hm hT rfl dX8_missed_20
section KX8_missed
variable {p : Program} {l : Launch} {e : Env} {s : State} {m : MethodId} {args : Array Value} {below : List Frame} {meth : Method} {c : Code} {H H0 : Heap} {locs : List Loc} {cells slots : Nat} {Q : State → Prop} {R : Room} {rn mcR msR : Nat}
variable {pc : Nat} {ls : Array Slot} {rest : List Value} {A : Nat → Prop} {D : va_G}
variable {cc : ByteArray} {nL index : Nat} {own host : String}
end KX8_missed
