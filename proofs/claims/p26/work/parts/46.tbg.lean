theorem wn_800 : Cond.methodLinkNest RX4 88 yX5_copy RX5 ∈ lw_n := lw_n_mk (tb_4 (List.mem_of_getElem? (i := 16) rfl)) rfl
theorem wq_333 : Cond.fieldLink RX4 78 RX1 "side" "[I" ∈ lw_g := lw_g_mk (tb_2 (List.mem_of_getElem? (i := 29) rfl)) rfl
theorem wq_335 : Cond.fieldLink RX4 83 RX1 "due" "[I" ∈ lw_g := lw_g_mk (tb_2 (List.mem_of_getElem? (i := 31) rfl)) rfl
theorem wq_799 : Cond.code yX4_copyFrom cX4_copyFrom 2 none ∈ lw_g := lw_g_mk (tb_4 (List.mem_of_getElem? (i := 15) rfl)) rfl
theorem wq_1150 : Cond.code yX4_begin cX4_begin 3 none ∈ lw_g := lw_g_mk (tb_5 (List.mem_of_getElem? (i := 126) rfl)) rfl
def EW (Z : Nat → ClassId) : va_W := []
def TT (Z : Nat → ClassId) (a b q : Nat → Nat) (O : M2) (pr : Nat) (F : M2) : va_W := [(a 0, .inr (4, [.ref pr, .int (F 1 0), .int (F 2 0), .int (F 3 0), .ref (a 4), .ref (a 5), .ref (a 6), .ref (a 7), .ref (a 8), .ref (a 9), .ref (a 10), .ref (a 11), .ref (a 12), .ref (a 13), .ref (a 14)])), (a 4, .inl (Z 0, 60, .inl (F 4))), (a 5, .inl (Z 0, 6, .inl (F 5))), (a 6, .inl (Z 0, 6, .inl (F 6))), (a 7, .inl (Z 0, 6, .inl (F 7))), (a 8, .inl (Z 0, 8, .inl (F 8))), (a 9, .inl (Z 0, 8, .inl (F 9))), (a 10, .inl (Z 0, 8, .inl (F 10))), (a 11, .inl (Z 0, 8, .inl (F 11))), (a 12, .inl (Z 0, 8, .inl (F 12))), (a 13, .inl (Z 0, 8, .inl (F 13))), (a 14, .inl (Z 0, 400, .inl (F 14))), (b 0, .inr (4, [.ref (q 20), .int (O 1 0), .int (O 2 0), .int (O 3 0), .ref (b 4), .ref (b 5), .ref (b 6), .ref (b 7), .ref (b 8), .ref (b 9), .ref (b 10), .ref (b 11), .ref (b 12), .ref (b 13), .ref (b 14)])), (b 4, .inl (Z 0, 60, .inl (O 4))), (b 5, .inl (Z 0, 6, .inl (O 5))), (b 6, .inl (Z 0, 6, .inl (O 6))), (b 7, .inl (Z 0, 6, .inl (O 7))), (b 8, .inl (Z 0, 8, .inl (O 8))), (b 9, .inl (Z 0, 8, .inl (O 9))), (b 10, .inl (Z 0, 8, .inl (O 10))), (b 11, .inl (Z 0, 8, .inl (O 11))), (b 12, .inl (Z 0, 8, .inl (O 12))), (b 13, .inl (Z 0, 8, .inl (O 13))), (b 14, .inl (Z 0, 400, .inl (O 14)))]
abbrev cutTT : List Nat := [0, 1, 2, 3, 4, 5, 6, 7, 8, 9, 10, 11, 12, 13, 14, 15, 16, 17, 18, 19, 20, 21, 22, 23]
set_option maxRecDepth 100000 in
theorem cutOkTT (Z : Nat → ClassId) (a b q : Nat → Nat) (O : M2) (pr : Nat) (F : M2) : Cut (TT Z a b q O pr F) (fun u : Nat × M2 => TT Z a b q O u.1 u.2) (pr, F) [] cutTT [] cutTT (fun u : Nat × M2 => TT Z a b q O u.1 u.2) := ⟨rfl, rfl, rfl, fun i h => absurd h List.not_mem_nil, by decide, fun _ => rfl⟩
def TB (Z : Nat → ClassId) (a q : Nat → Nat) (P : M2) (pr : Nat) (F : M2) : va_W := [(a 0, .inr (4, [.ref pr, .int (F 1 0), .int (F 2 0), .int (F 3 0), .ref (a 4), .ref (a 5), .ref (a 6), .ref (a 7), .ref (a 8), .ref (a 9), .ref (a 10), .ref (a 11), .ref (a 12), .ref (a 13), .ref (a 14)])), (a 4, .inl (Z 0, 60, .inl (F 4))), (a 5, .inl (Z 0, 6, .inl (F 5))), (a 6, .inl (Z 0, 6, .inl (F 6))), (a 7, .inl (Z 0, 6, .inl (F 7))), (a 8, .inl (Z 0, 8, .inl (F 8))), (a 9, .inl (Z 0, 8, .inl (F 9))), (a 10, .inl (Z 0, 8, .inl (F 10))), (a 11, .inl (Z 0, 8, .inl (F 11))), (a 12, .inl (Z 0, 8, .inl (F 12))), (a 13, .inl (Z 0, 8, .inl (F 13))), (a 14, .inl (Z 0, 400, .inl (F 14))), (q 20, .inr (1, [.int (P 20 0), .int (P 21 0), .int (P 22 0), .int (P 23 0), .int (P 24 0), .ref (q 25), .ref (q 26), .ref (q 27), .ref (q 28), .ref (q 29), .ref (q 30), .ref (q 31), .ref (q 32), .ref (q 33), .ref (q 34), .ref (q 35), .ref (q 36), .ref (q 37), .ref (q 40)])), (q 25, .inl (Z 0, 5, .inl (P 25))), (q 26, .inl (Z 0, 5, .inl (P 26))), (q 27, .inl (Z 0, 5, .inl (P 27))), (q 28, .inl (Z 0, 60, .inl (P 28))), (q 29, .inl (Z 0, 4, .inl (P 29))), (q 30, .inl (Z 0, 4, .inl (P 30))), (q 31, .inl (Z 0, 6, .inl (P 31))), (q 32, .inl (Z 0, 6, .inl (P 32))), (q 33, .inl (Z 0, 8, .inl (P 33))), (q 34, .inl (Z 0, 8, .inl (P 34))), (q 35, .inl (Z 0, 8, .inl (P 35))), (q 36, .inl (Z 0, 8, .inl (P 36))), (q 37, .inl (Z 0, 8, .inl (P 37))), (q 40, .inr (0, [.int (P 40 0), .ref (q 41), .ref (q 42), .ref (q 43), .ref (q 44), .int (P 45 0), .ref (q 46), .ref (q 47)])), (q 41, .inl (Z 0, 16, .inl (P 41))), (q 42, .inl (Z 0, 16, .inl (P 42))), (q 43, .inl (Z 0, 16, .inl (P 43))), (q 44, .inl (Z 0, 16, .inl (P 44))), (q 46, .inl (Z 0, 400, .inl (P 46))), (q 47, .inl (Z 0, 400, .inl (P 47)))]
abbrev cutTB : List Nat := [0, 1, 2, 3, 4, 5, 6, 7, 8, 9, 10, 11, 12, 13, 14, 15, 16, 17, 18, 19, 20, 21, 22, 23, 24, 25, 26, 27, 28, 29, 30, 31, 32]
set_option maxRecDepth 100000 in
theorem cutOkTB (Z : Nat → ClassId) (a q : Nat → Nat) (P : M2) (pr : Nat) (F : M2) : Cut (TB Z a q P pr F) (fun u : Nat × M2 => TB Z a q P u.1 u.2) (pr, F) [] cutTB [] cutTB (fun u : Nat × M2 => TB Z a q P u.1 u.2) := ⟨rfl, rfl, rfl, fun i h => absurd h List.not_mem_nil, by decide, fun _ => rfl⟩
section ROWSTT
variable {p : Program} {l : Launch} {e : Env} {s : State} {m : MethodId} {args : Array Value} {below : List Frame} {meth : Method} {c : Code} {H H0 : Heap} {locs : List Loc} {cells slots : Nat} {Q : State → Prop} {R : Room} {rn mcR msR : Nat}
variable {pc : Nat} {ls : Array Slot} {rest : List Value} {A : Nat → Prop} {D : va_G}
variable {cc : ByteArray} {nL index : Nat} {own host : String}
theorem gTT_otun_0 {Z : Nat → ClassId} {a b q : Nat → Nat} {O : M2} {pr : Nat} {F : M2} (hC : CallFix p m c cc nL s args lw_g own) (hK : va_K D vwCl (tysG Z) s) (hP : va_P D vwCl (TT Z a b q O pr F) H) (hl : Cond.fieldLink own index RX4 "plan" "LTunnelLeggers$Plan;" ∈ lw_g) (hdg : decode cc pc = .ok (.getfield index, 3)) (kk : W p l e R s m args below meth c H locs cells slots Q (F0 m (pc + 3) ls (.ref (q 20) :: rest))) : W p l e R s m args below meth c H locs cells slots Q (F0 m pc ls (.ref (b 0) :: rest)) :=
  w_get (C := RX4) (T := TX4) (N := 15) (ci := 4) (q0 := 12) (k := 0) hC hK hP fi_X4 rfl rfl rfl (by decide) rfl hl hdg kk
theorem gTT_otun_1 {Z : Nat → ClassId} {a b q : Nat → Nat} {O : M2} {pr : Nat} {F : M2} (hC : CallFix p m c cc nL s args lw_g own) (hK : va_K D vwCl (tysG Z) s) (hP : va_P D vwCl (TT Z a b q O pr F) H) (hl : Cond.fieldLink own index RX4 "minute" "I" ∈ lw_g) (hdg : decode cc pc = .ok (.getfield index, 3)) (kk : W p l e R s m args below meth c H locs cells slots Q (F0 m (pc + 3) ls (.int (O 1 0) :: rest))) : W p l e R s m args below meth c H locs cells slots Q (F0 m pc ls (.ref (b 0) :: rest)) :=
  w_get (C := RX4) (T := TX4) (N := 15) (ci := 4) (q0 := 12) (k := 1) hC hK hP fi_X4 rfl rfl rfl (by decide) rfl hl hdg kk
theorem gTT_otun_2 {Z : Nat → ClassId} {a b q : Nat → Nat} {O : M2} {pr : Nat} {F : M2} (hC : CallFix p m c cc nL s args lw_g own) (hK : va_K D vwCl (tysG Z) s) (hP : va_P D vwCl (TT Z a b q O pr F) H) (hl : Cond.fieldLink own index RX4 "turn" "I" ∈ lw_g) (hdg : decode cc pc = .ok (.getfield index, 3)) (kk : W p l e R s m args below meth c H locs cells slots Q (F0 m (pc + 3) ls (.int (O 2 0) :: rest))) : W p l e R s m args below meth c H locs cells slots Q (F0 m pc ls (.ref (b 0) :: rest)) :=
  w_get (C := RX4) (T := TX4) (N := 15) (ci := 4) (q0 := 12) (k := 2) hC hK hP fi_X4 rfl rfl rfl (by decide) rfl hl hdg kk
theorem gTT_otun_3 {Z : Nat → ClassId} {a b q : Nat → Nat} {O : M2} {pr : Nat} {F : M2} (hC : CallFix p m c cc nL s args lw_g own) (hK : va_K D vwCl (tysG Z) s) (hP : va_P D vwCl (TT Z a b q O pr F) H) (hl : Cond.fieldLink own index RX4 "idle" "I" ∈ lw_g) (hdg : decode cc pc = .ok (.getfield index, 3)) (kk : W p l e R s m args below meth c H locs cells slots Q (F0 m (pc + 3) ls (.int (O 3 0) :: rest))) : W p l e R s m args below meth c H locs cells slots Q (F0 m pc ls (.ref (b 0) :: rest)) :=
  w_get (C := RX4) (T := TX4) (N := 15) (ci := 4) (q0 := 12) (k := 3) hC hK hP fi_X4 rfl rfl rfl (by decide) rfl hl hdg kk
theorem gTT_otun_4 {Z : Nat → ClassId} {a b q : Nat → Nat} {O : M2} {pr : Nat} {F : M2} (hC : CallFix p m c cc nL s args lw_g own) (hK : va_K D vwCl (tysG Z) s) (hP : va_P D vwCl (TT Z a b q O pr F) H) (hl : Cond.fieldLink own index RX4 "air" "[I" ∈ lw_g) (hdg : decode cc pc = .ok (.getfield index, 3)) (kk : W p l e R s m args below meth c H locs cells slots Q (F0 m (pc + 3) ls (.ref (b 4) :: rest))) : W p l e R s m args below meth c H locs cells slots Q (F0 m pc ls (.ref (b 0) :: rest)) :=
  w_get (C := RX4) (T := TX4) (N := 15) (ci := 4) (q0 := 12) (k := 4) hC hK hP fi_X4 rfl rfl rfl (by decide) rfl hl hdg kk
theorem gTT_otun_5 {Z : Nat → ClassId} {a b q : Nat → Nat} {O : M2} {pr : Nat} {F : M2} (hC : CallFix p m c cc nL s args lw_g own) (hK : va_K D vwCl (tysG Z) s) (hP : va_P D vwCl (TT Z a b q O pr F) H) (hl : Cond.fieldLink own index RX4 "breath" "[I" ∈ lw_g) (hdg : decode cc pc = .ok (.getfield index, 3)) (kk : W p l e R s m args below meth c H locs cells slots Q (F0 m (pc + 3) ls (.ref (b 5) :: rest))) : W p l e R s m args below meth c H locs cells slots Q (F0 m pc ls (.ref (b 0) :: rest)) :=
  w_get (C := RX4) (T := TX4) (N := 15) (ci := 4) (q0 := 12) (k := 5) hC hK hP fi_X4 rfl rfl rfl (by decide) rfl hl hdg kk
theorem gTT_otun_6 {Z : Nat → ClassId} {a b q : Nat → Nat} {O : M2} {pr : Nat} {F : M2} (hC : CallFix p m c cc nL s args lw_g own) (hK : va_K D vwCl (tysG Z) s) (hP : va_P D vwCl (TT Z a b q O pr F) H) (hl : Cond.fieldLink own index RX4 "walk" "[I" ∈ lw_g) (hdg : decode cc pc = .ok (.getfield index, 3)) (kk : W p l e R s m args below meth c H locs cells slots Q (F0 m (pc + 3) ls (.ref (b 6) :: rest))) : W p l e R s m args below meth c H locs cells slots Q (F0 m pc ls (.ref (b 0) :: rest)) :=
  w_get (C := RX4) (T := TX4) (N := 15) (ci := 4) (q0 := 12) (k := 6) hC hK hP fi_X4 rfl rfl rfl (by decide) rfl hl hdg kk
theorem gTT_otun_7 {Z : Nat → ClassId} {a b q : Nat → Nat} {O : M2} {pr : Nat} {F : M2} (hC : CallFix p m c cc nL s args lw_g own) (hK : va_K D vwCl (tysG Z) s) (hP : va_P D vwCl (TT Z a b q O pr F) H) (hl : Cond.fieldLink own index RX4 "capPlace" "[I" ∈ lw_g) (hdg : decode cc pc = .ok (.getfield index, 3)) (kk : W p l e R s m args below meth c H locs cells slots Q (F0 m (pc + 3) ls (.ref (b 7) :: rest))) : W p l e R s m args below meth c H locs cells slots Q (F0 m pc ls (.ref (b 0) :: rest)) :=
  w_get (C := RX4) (T := TX4) (N := 15) (ci := 4) (q0 := 12) (k := 7) hC hK hP fi_X4 rfl rfl rfl (by decide) rfl hl hdg kk
theorem gTT_otun_8 {Z : Nat → ClassId} {a b q : Nat → Nat} {O : M2} {pr : Nat} {F : M2} (hC : CallFix p m c cc nL s args lw_g own) (hK : va_K D vwCl (tysG Z) s) (hP : va_P D vwCl (TT Z a b q O pr F) H) (hl : Cond.fieldLink own index RX4 "side" "[I" ∈ lw_g) (hdg : decode cc pc = .ok (.getfield index, 3)) (kk : W p l e R s m args below meth c H locs cells slots Q (F0 m (pc + 3) ls (.ref (b 8) :: rest))) : W p l e R s m args below meth c H locs cells slots Q (F0 m pc ls (.ref (b 0) :: rest)) :=
  w_get (C := RX4) (T := TX4) (N := 15) (ci := 4) (q0 := 12) (k := 8) hC hK hP fi_X4 rfl rfl rfl (by decide) rfl hl hdg kk
theorem gTT_otun_9 {Z : Nat → ClassId} {a b q : Nat → Nat} {O : M2} {pr : Nat} {F : M2} (hC : CallFix p m c cc nL s args lw_g own) (hK : va_K D vwCl (tysG Z) s) (hP : va_P D vwCl (TT Z a b q O pr F) H) (hl : Cond.fieldLink own index RX4 "due" "[I" ∈ lw_g) (hdg : decode cc pc = .ok (.getfield index, 3)) (kk : W p l e R s m args below meth c H locs cells slots Q (F0 m (pc + 3) ls (.ref (b 9) :: rest))) : W p l e R s m args below meth c H locs cells slots Q (F0 m pc ls (.ref (b 0) :: rest)) :=
  w_get (C := RX4) (T := TX4) (N := 15) (ci := 4) (q0 := 12) (k := 9) hC hK hP fi_X4 rfl rfl rfl (by decide) rfl hl hdg kk
theorem gTT_otun_10 {Z : Nat → ClassId} {a b q : Nat → Nat} {O : M2} {pr : Nat} {F : M2} (hC : CallFix p m c cc nL s args lw_g own) (hK : va_K D vwCl (tysG Z) s) (hP : va_P D vwCl (TT Z a b q O pr F) H) (hl : Cond.fieldLink own index RX4 "how" "[I" ∈ lw_g) (hdg : decode cc pc = .ok (.getfield index, 3)) (kk : W p l e R s m args below meth c H locs cells slots Q (F0 m (pc + 3) ls (.ref (b 10) :: rest))) : W p l e R s m args below meth c H locs cells slots Q (F0 m pc ls (.ref (b 0) :: rest)) :=
  w_get (C := RX4) (T := TX4) (N := 15) (ci := 4) (q0 := 12) (k := 10) hC hK hP fi_X4 rfl rfl rfl (by decide) rfl hl hdg kk
theorem gTT_otun_11 {Z : Nat → ClassId} {a b q : Nat → Nat} {O : M2} {pr : Nat} {F : M2} (hC : CallFix p m c cc nL s args lw_g own) (hK : va_K D vwCl (tysG Z) s) (hP : va_P D vwCl (TT Z a b q O pr F) H) (hl : Cond.fieldLink own index RX4 "spot" "[I" ∈ lw_g) (hdg : decode cc pc = .ok (.getfield index, 3)) (kk : W p l e R s m args below meth c H locs cells slots Q (F0 m (pc + 3) ls (.ref (b 11) :: rest))) : W p l e R s m args below meth c H locs cells slots Q (F0 m pc ls (.ref (b 0) :: rest)) :=
  w_get (C := RX4) (T := TX4) (N := 15) (ci := 4) (q0 := 12) (k := 11) hC hK hP fi_X4 rfl rfl rfl (by decide) rfl hl hdg kk
theorem gTT_otun_12 {Z : Nat → ClassId} {a b q : Nat → Nat} {O : M2} {pr : Nat} {F : M2} (hC : CallFix p m c cc nL s args lw_g own) (hK : va_K D vwCl (tysG Z) s) (hP : va_P D vwCl (TT Z a b q O pr F) H) (hl : Cond.fieldLink own index RX4 "pushed" "[I" ∈ lw_g) (hdg : decode cc pc = .ok (.getfield index, 3)) (kk : W p l e R s m args below meth c H locs cells slots Q (F0 m (pc + 3) ls (.ref (b 12) :: rest))) : W p l e R s m args below meth c H locs cells slots Q (F0 m pc ls (.ref (b 0) :: rest)) :=
  w_get (C := RX4) (T := TX4) (N := 15) (ci := 4) (q0 := 12) (k := 12) hC hK hP fi_X4 rfl rfl rfl (by decide) rfl hl hdg kk
theorem gTT_otun_13 {Z : Nat → ClassId} {a b q : Nat → Nat} {O : M2} {pr : Nat} {F : M2} (hC : CallFix p m c cc nL s args lw_g own) (hK : va_K D vwCl (tysG Z) s) (hP : va_P D vwCl (TT Z a b q O pr F) H) (hl : Cond.fieldLink own index RX4 "outMinute" "[I" ∈ lw_g) (hdg : decode cc pc = .ok (.getfield index, 3)) (kk : W p l e R s m args below meth c H locs cells slots Q (F0 m (pc + 3) ls (.ref (b 13) :: rest))) : W p l e R s m args below meth c H locs cells slots Q (F0 m pc ls (.ref (b 0) :: rest)) :=
  w_get (C := RX4) (T := TX4) (N := 15) (ci := 4) (q0 := 12) (k := 13) hC hK hP fi_X4 rfl rfl rfl (by decide) rfl hl hdg kk
theorem gTT_tun_4 {Z : Nat → ClassId} {a b q : Nat → Nat} {O : M2} {pr : Nat} {F : M2} (hC : CallFix p m c cc nL s args lw_g own) (hK : va_K D vwCl (tysG Z) s) (hP : va_P D vwCl (TT Z a b q O pr F) H) (hl : Cond.fieldLink own index RX4 "air" "[I" ∈ lw_g) (hdg : decode cc pc = .ok (.getfield index, 3)) (kk : W p l e R s m args below meth c H locs cells slots Q (F0 m (pc + 3) ls (.ref (a 4) :: rest))) : W p l e R s m args below meth c H locs cells slots Q (F0 m pc ls (.ref (a 0) :: rest)) :=
  w_get (C := RX4) (T := TX4) (N := 15) (ci := 4) (q0 := 0) (k := 4) hC hK hP fi_X4 rfl rfl rfl (by decide) rfl hl hdg kk
theorem gTT_tun_5 {Z : Nat → ClassId} {a b q : Nat → Nat} {O : M2} {pr : Nat} {F : M2} (hC : CallFix p m c cc nL s args lw_g own) (hK : va_K D vwCl (tysG Z) s) (hP : va_P D vwCl (TT Z a b q O pr F) H) (hl : Cond.fieldLink own index RX4 "breath" "[I" ∈ lw_g) (hdg : decode cc pc = .ok (.getfield index, 3)) (kk : W p l e R s m args below meth c H locs cells slots Q (F0 m (pc + 3) ls (.ref (a 5) :: rest))) : W p l e R s m args below meth c H locs cells slots Q (F0 m pc ls (.ref (a 0) :: rest)) :=
  w_get (C := RX4) (T := TX4) (N := 15) (ci := 4) (q0 := 0) (k := 5) hC hK hP fi_X4 rfl rfl rfl (by decide) rfl hl hdg kk
theorem gTT_tun_6 {Z : Nat → ClassId} {a b q : Nat → Nat} {O : M2} {pr : Nat} {F : M2} (hC : CallFix p m c cc nL s args lw_g own) (hK : va_K D vwCl (tysG Z) s) (hP : va_P D vwCl (TT Z a b q O pr F) H) (hl : Cond.fieldLink own index RX4 "walk" "[I" ∈ lw_g) (hdg : decode cc pc = .ok (.getfield index, 3)) (kk : W p l e R s m args below meth c H locs cells slots Q (F0 m (pc + 3) ls (.ref (a 6) :: rest))) : W p l e R s m args below meth c H locs cells slots Q (F0 m pc ls (.ref (a 0) :: rest)) :=
  w_get (C := RX4) (T := TX4) (N := 15) (ci := 4) (q0 := 0) (k := 6) hC hK hP fi_X4 rfl rfl rfl (by decide) rfl hl hdg kk
theorem gTT_tun_7 {Z : Nat → ClassId} {a b q : Nat → Nat} {O : M2} {pr : Nat} {F : M2} (hC : CallFix p m c cc nL s args lw_g own) (hK : va_K D vwCl (tysG Z) s) (hP : va_P D vwCl (TT Z a b q O pr F) H) (hl : Cond.fieldLink own index RX4 "capPlace" "[I" ∈ lw_g) (hdg : decode cc pc = .ok (.getfield index, 3)) (kk : W p l e R s m args below meth c H locs cells slots Q (F0 m (pc + 3) ls (.ref (a 7) :: rest))) : W p l e R s m args below meth c H locs cells slots Q (F0 m pc ls (.ref (a 0) :: rest)) :=
  w_get (C := RX4) (T := TX4) (N := 15) (ci := 4) (q0 := 0) (k := 7) hC hK hP fi_X4 rfl rfl rfl (by decide) rfl hl hdg kk
theorem gTT_tun_8 {Z : Nat → ClassId} {a b q : Nat → Nat} {O : M2} {pr : Nat} {F : M2} (hC : CallFix p m c cc nL s args lw_g own) (hK : va_K D vwCl (tysG Z) s) (hP : va_P D vwCl (TT Z a b q O pr F) H) (hl : Cond.fieldLink own index RX4 "side" "[I" ∈ lw_g) (hdg : decode cc pc = .ok (.getfield index, 3)) (kk : W p l e R s m args below meth c H locs cells slots Q (F0 m (pc + 3) ls (.ref (a 8) :: rest))) : W p l e R s m args below meth c H locs cells slots Q (F0 m pc ls (.ref (a 0) :: rest)) :=
  w_get (C := RX4) (T := TX4) (N := 15) (ci := 4) (q0 := 0) (k := 8) hC hK hP fi_X4 rfl rfl rfl (by decide) rfl hl hdg kk
theorem gTT_tun_9 {Z : Nat → ClassId} {a b q : Nat → Nat} {O : M2} {pr : Nat} {F : M2} (hC : CallFix p m c cc nL s args lw_g own) (hK : va_K D vwCl (tysG Z) s) (hP : va_P D vwCl (TT Z a b q O pr F) H) (hl : Cond.fieldLink own index RX4 "due" "[I" ∈ lw_g) (hdg : decode cc pc = .ok (.getfield index, 3)) (kk : W p l e R s m args below meth c H locs cells slots Q (F0 m (pc + 3) ls (.ref (a 9) :: rest))) : W p l e R s m args below meth c H locs cells slots Q (F0 m pc ls (.ref (a 0) :: rest)) :=
  w_get (C := RX4) (T := TX4) (N := 15) (ci := 4) (q0 := 0) (k := 9) hC hK hP fi_X4 rfl rfl rfl (by decide) rfl hl hdg kk
theorem gTT_tun_10 {Z : Nat → ClassId} {a b q : Nat → Nat} {O : M2} {pr : Nat} {F : M2} (hC : CallFix p m c cc nL s args lw_g own) (hK : va_K D vwCl (tysG Z) s) (hP : va_P D vwCl (TT Z a b q O pr F) H) (hl : Cond.fieldLink own index RX4 "how" "[I" ∈ lw_g) (hdg : decode cc pc = .ok (.getfield index, 3)) (kk : W p l e R s m args below meth c H locs cells slots Q (F0 m (pc + 3) ls (.ref (a 10) :: rest))) : W p l e R s m args below meth c H locs cells slots Q (F0 m pc ls (.ref (a 0) :: rest)) :=
  w_get (C := RX4) (T := TX4) (N := 15) (ci := 4) (q0 := 0) (k := 10) hC hK hP fi_X4 rfl rfl rfl (by decide) rfl hl hdg kk
theorem gTT_tun_11 {Z : Nat → ClassId} {a b q : Nat → Nat} {O : M2} {pr : Nat} {F : M2} (hC : CallFix p m c cc nL s args lw_g own) (hK : va_K D vwCl (tysG Z) s) (hP : va_P D vwCl (TT Z a b q O pr F) H) (hl : Cond.fieldLink own index RX4 "spot" "[I" ∈ lw_g) (hdg : decode cc pc = .ok (.getfield index, 3)) (kk : W p l e R s m args below meth c H locs cells slots Q (F0 m (pc + 3) ls (.ref (a 11) :: rest))) : W p l e R s m args below meth c H locs cells slots Q (F0 m pc ls (.ref (a 0) :: rest)) :=
  w_get (C := RX4) (T := TX4) (N := 15) (ci := 4) (q0 := 0) (k := 11) hC hK hP fi_X4 rfl rfl rfl (by decide) rfl hl hdg kk
theorem gTT_tun_12 {Z : Nat → ClassId} {a b q : Nat → Nat} {O : M2} {pr : Nat} {F : M2} (hC : CallFix p m c cc nL s args lw_g own) (hK : va_K D vwCl (tysG Z) s) (hP : va_P D vwCl (TT Z a b q O pr F) H) (hl : Cond.fieldLink own index RX4 "pushed" "[I" ∈ lw_g) (hdg : decode cc pc = .ok (.getfield index, 3)) (kk : W p l e R s m args below meth c H locs cells slots Q (F0 m (pc + 3) ls (.ref (a 12) :: rest))) : W p l e R s m args below meth c H locs cells slots Q (F0 m pc ls (.ref (a 0) :: rest)) :=
  w_get (C := RX4) (T := TX4) (N := 15) (ci := 4) (q0 := 0) (k := 12) hC hK hP fi_X4 rfl rfl rfl (by decide) rfl hl hdg kk
theorem gTT_tun_13 {Z : Nat → ClassId} {a b q : Nat → Nat} {O : M2} {pr : Nat} {F : M2} (hC : CallFix p m c cc nL s args lw_g own) (hK : va_K D vwCl (tysG Z) s) (hP : va_P D vwCl (TT Z a b q O pr F) H) (hl : Cond.fieldLink own index RX4 "outMinute" "[I" ∈ lw_g) (hdg : decode cc pc = .ok (.getfield index, 3)) (kk : W p l e R s m args below meth c H locs cells slots Q (F0 m (pc + 3) ls (.ref (a 13) :: rest))) : W p l e R s m args below meth c H locs cells slots Q (F0 m pc ls (.ref (a 0) :: rest)) :=
  w_get (C := RX4) (T := TX4) (N := 15) (ci := 4) (q0 := 0) (k := 13) hC hK hP fi_X4 rfl rfl rfl (by decide) rfl hl hdg kk
theorem pTT_tun_1 {Z : Nat → ClassId} {a b q : Nat → Nat} {O : M2} {pr : Nat} {F : M2} {x : Int32} (hC : CallFix p m c cc nL s args lw_g own) (hK : va_K D vwCl (tysG Z) s) (hT : TS vwCl D (TT Z a b q O pr F) A H0 H locs) (hl : Cond.fieldLink own index RX4 "minute" "I" ∈ lw_g) (hdg : decode cc pc = .ok (.putfield index, 3)) (kk : ∀ (F1 : M2), F1 = up2 F 1 (fun _ => x) → ∀ (H1 : Heap) (locs1 : List Loc), TS vwCl D (TT Z a b q O pr F1) A H0 H1 locs1 → W p l e R s m args below meth c H1 locs1 cells slots Q (F0 m (pc + 3) ls rest)) : W p l e R s m args below meth c H locs cells slots Q (F0 m pc ls (.int x :: .ref (a 0) :: rest)) :=
  w_put (C := RX4) (T := TX4) (N := 15) (ci := 4) (q0 := 0) (k := 1) (ty0 := tyX4) (ty := .int) (ws' := (TT Z a b q O pr (up2 F 1 (fun _ => x)))) hC hK hT fi_X4 tyX4_ok nmX4 rfl rfl (by decide) rfl rfl rfl rfl rfl (Nat.le_of_ble_eq_true rfl) rfl hl hdg (fun H1 locs1 hT1 => kk _ rfl H1 locs1 hT1)
theorem pTT_tun_2 {Z : Nat → ClassId} {a b q : Nat → Nat} {O : M2} {pr : Nat} {F : M2} {x : Int32} (hC : CallFix p m c cc nL s args lw_g own) (hK : va_K D vwCl (tysG Z) s) (hT : TS vwCl D (TT Z a b q O pr F) A H0 H locs) (hl : Cond.fieldLink own index RX4 "turn" "I" ∈ lw_g) (hdg : decode cc pc = .ok (.putfield index, 3)) (kk : ∀ (F1 : M2), F1 = up2 F 2 (fun _ => x) → ∀ (H1 : Heap) (locs1 : List Loc), TS vwCl D (TT Z a b q O pr F1) A H0 H1 locs1 → W p l e R s m args below meth c H1 locs1 cells slots Q (F0 m (pc + 3) ls rest)) : W p l e R s m args below meth c H locs cells slots Q (F0 m pc ls (.int x :: .ref (a 0) :: rest)) :=
  w_put (C := RX4) (T := TX4) (N := 15) (ci := 4) (q0 := 0) (k := 2) (ty0 := tyX4) (ty := .int) (ws' := (TT Z a b q O pr (up2 F 2 (fun _ => x)))) hC hK hT fi_X4 tyX4_ok nmX4 rfl rfl (by decide) rfl rfl rfl rfl rfl (Nat.le_of_ble_eq_true rfl) rfl hl hdg (fun H1 locs1 hT1 => kk _ rfl H1 locs1 hT1)
theorem pTT_tun_3 {Z : Nat → ClassId} {a b q : Nat → Nat} {O : M2} {pr : Nat} {F : M2} {x : Int32} (hC : CallFix p m c cc nL s args lw_g own) (hK : va_K D vwCl (tysG Z) s) (hT : TS vwCl D (TT Z a b q O pr F) A H0 H locs) (hl : Cond.fieldLink own index RX4 "idle" "I" ∈ lw_g) (hdg : decode cc pc = .ok (.putfield index, 3)) (kk : ∀ (F1 : M2), F1 = up2 F 3 (fun _ => x) → ∀ (H1 : Heap) (locs1 : List Loc), TS vwCl D (TT Z a b q O pr F1) A H0 H1 locs1 → W p l e R s m args below meth c H1 locs1 cells slots Q (F0 m (pc + 3) ls rest)) : W p l e R s m args below meth c H locs cells slots Q (F0 m pc ls (.int x :: .ref (a 0) :: rest)) :=
  w_put (C := RX4) (T := TX4) (N := 15) (ci := 4) (q0 := 0) (k := 3) (ty0 := tyX4) (ty := .int) (ws' := (TT Z a b q O pr (up2 F 3 (fun _ => x)))) hC hK hT fi_X4 tyX4_ok nmX4 rfl rfl (by decide) rfl rfl rfl rfl rfl (Nat.le_of_ble_eq_true rfl) rfl hl hdg (fun H1 locs1 hT1 => kk _ rfl H1 locs1 hT1)
theorem pfTT_tun_0 {Z : Nat → ClassId} {a b q : Nat → Nat} {O : M2} {pr : Nat} {F : M2} {t : Nat} (hC : CallFix p m c cc nL s args lw_g own) (hK : va_K D vwCl (tysG Z) s) (hT : TS vwCl D (TT Z a b q O pr F) A H0 H locs) (hl : Cond.fieldLink own index RX4 "plan" "LTunnelLeggers$Plan;" ∈ lw_g) (hdg : decode cc pc = .ok (.putfield index, 3)) (kk : ∀ (H1 : Heap) (locs1 : List Loc), TS vwCl D (TT Z a b q O t F) A H0 H1 locs1 → W p l e R s m args below meth c H1 locs1 cells slots Q (F0 m (pc + 3) ls rest)) : W p l e R s m args below meth c H locs cells slots Q (F0 m pc ls (.ref t :: .ref (a 0) :: rest)) :=
  w_put (C := RX4) (T := TX4) (N := 15) (ci := 4) (q0 := 0) (k := 0) (ty0 := tyX4) (ty := .object "TunnelLeggers$Plan") (ws' := (TT Z a b q O t F)) hC hK hT fi_X4 tyX4_ok nmX4 rfl rfl (by decide) rfl rfl rfl rfl rfl (Nat.le_of_ble_eq_true rfl) rfl hl hdg kk
theorem cpTT_oTair_Tair {Z : Nat → ClassId} {a b q : Nat → Nat} {O : M2} {pr : Nat} {F : M2} (hC : CallFix p m c cc nL s args lw_g own) (hN : NW s) (hK : va_K D vwCl (tysG Z) s) (hT : TS vwCl D (TT Z a b q O pr F) A H0 H locs) (hl : Cond.methodLinkNest own index yX5_copy RX5 ∈ lw_n) (hlt : 0 < rn) (hsize : ls.size = nL) (hW : (rest.map fun v => v.category).sum ≤ 8) (hf : cells + 0 ≤ mcR ∧ slots + 0 ≤ msR) (hdg : decode cc pc = .ok (.invokestatic index, 3)) (kk : ∀ (F1 : M2), F1 = up2 F 4 (O 4) → ∀ (H1 : Heap) (locs1 : List Loc), TS vwCl D (TT Z a b q O pr F1) A H0 H1 locs1 → W p l e (rk rn mcR msR) s m args below meth c H1 locs1 cells slots Q (F0 m (pc + 3) ls rest)) : W p l e (rk rn mcR msR) s m args below meth c H locs cells slots Q (F0 m pc ls (.ref (a 4) :: .ref (b 4) :: rest)) :=
  w_cpJ (q0 := 13) (q1 := 1) (ws' := (TT Z a b q O pr (up2 F 4 (O 4)))) hC hN hK hT hl rfl rfl (by decide) rfl (by decide) hlt hsize hW hf hdg (fun H1 locs1 hT1 => kk _ rfl H1 locs1 hT1)
theorem cpTT_oTbreath_Tbreath {Z : Nat → ClassId} {a b q : Nat → Nat} {O : M2} {pr : Nat} {F : M2} (hC : CallFix p m c cc nL s args lw_g own) (hN : NW s) (hK : va_K D vwCl (tysG Z) s) (hT : TS vwCl D (TT Z a b q O pr F) A H0 H locs) (hl : Cond.methodLinkNest own index yX5_copy RX5 ∈ lw_n) (hlt : 0 < rn) (hsize : ls.size = nL) (hW : (rest.map fun v => v.category).sum ≤ 8) (hf : cells + 0 ≤ mcR ∧ slots + 0 ≤ msR) (hdg : decode cc pc = .ok (.invokestatic index, 3)) (kk : ∀ (F1 : M2), F1 = up2 F 5 (O 5) → ∀ (H1 : Heap) (locs1 : List Loc), TS vwCl D (TT Z a b q O pr F1) A H0 H1 locs1 → W p l e (rk rn mcR msR) s m args below meth c H1 locs1 cells slots Q (F0 m (pc + 3) ls rest)) : W p l e (rk rn mcR msR) s m args below meth c H locs cells slots Q (F0 m pc ls (.ref (a 5) :: .ref (b 5) :: rest)) :=
  w_cpJ (q0 := 14) (q1 := 2) (ws' := (TT Z a b q O pr (up2 F 5 (O 5)))) hC hN hK hT hl rfl rfl (by decide) rfl (by decide) hlt hsize hW hf hdg (fun H1 locs1 hT1 => kk _ rfl H1 locs1 hT1)
theorem cpTT_oTcapPlace_TcapPlace {Z : Nat → ClassId} {a b q : Nat → Nat} {O : M2} {pr : Nat} {F : M2} (hC : CallFix p m c cc nL s args lw_g own) (hN : NW s) (hK : va_K D vwCl (tysG Z) s) (hT : TS vwCl D (TT Z a b q O pr F) A H0 H locs) (hl : Cond.methodLinkNest own index yX5_copy RX5 ∈ lw_n) (hlt : 0 < rn) (hsize : ls.size = nL) (hW : (rest.map fun v => v.category).sum ≤ 8) (hf : cells + 0 ≤ mcR ∧ slots + 0 ≤ msR) (hdg : decode cc pc = .ok (.invokestatic index, 3)) (kk : ∀ (F1 : M2), F1 = up2 F 7 (O 7) → ∀ (H1 : Heap) (locs1 : List Loc), TS vwCl D (TT Z a b q O pr F1) A H0 H1 locs1 → W p l e (rk rn mcR msR) s m args below meth c H1 locs1 cells slots Q (F0 m (pc + 3) ls rest)) : W p l e (rk rn mcR msR) s m args below meth c H locs cells slots Q (F0 m pc ls (.ref (a 7) :: .ref (b 7) :: rest)) :=
  w_cpJ (q0 := 16) (q1 := 4) (ws' := (TT Z a b q O pr (up2 F 7 (O 7)))) hC hN hK hT hl rfl rfl (by decide) rfl (by decide) hlt hsize hW hf hdg (fun H1 locs1 hT1 => kk _ rfl H1 locs1 hT1)
theorem cpTT_oTdue_Tdue {Z : Nat → ClassId} {a b q : Nat → Nat} {O : M2} {pr : Nat} {F : M2} (hC : CallFix p m c cc nL s args lw_g own) (hN : NW s) (hK : va_K D vwCl (tysG Z) s) (hT : TS vwCl D (TT Z a b q O pr F) A H0 H locs) (hl : Cond.methodLinkNest own index yX5_copy RX5 ∈ lw_n) (hlt : 0 < rn) (hsize : ls.size = nL) (hW : (rest.map fun v => v.category).sum ≤ 8) (hf : cells + 0 ≤ mcR ∧ slots + 0 ≤ msR) (hdg : decode cc pc = .ok (.invokestatic index, 3)) (kk : ∀ (F1 : M2), F1 = up2 F 9 (O 9) → ∀ (H1 : Heap) (locs1 : List Loc), TS vwCl D (TT Z a b q O pr F1) A H0 H1 locs1 → W p l e (rk rn mcR msR) s m args below meth c H1 locs1 cells slots Q (F0 m (pc + 3) ls rest)) : W p l e (rk rn mcR msR) s m args below meth c H locs cells slots Q (F0 m pc ls (.ref (a 9) :: .ref (b 9) :: rest)) :=
  w_cpJ (q0 := 18) (q1 := 6) (ws' := (TT Z a b q O pr (up2 F 9 (O 9)))) hC hN hK hT hl rfl rfl (by decide) rfl (by decide) hlt hsize hW hf hdg (fun H1 locs1 hT1 => kk _ rfl H1 locs1 hT1)
theorem cpTT_oThow_Thow {Z : Nat → ClassId} {a b q : Nat → Nat} {O : M2} {pr : Nat} {F : M2} (hC : CallFix p m c cc nL s args lw_g own) (hN : NW s) (hK : va_K D vwCl (tysG Z) s) (hT : TS vwCl D (TT Z a b q O pr F) A H0 H locs) (hl : Cond.methodLinkNest own index yX5_copy RX5 ∈ lw_n) (hlt : 0 < rn) (hsize : ls.size = nL) (hW : (rest.map fun v => v.category).sum ≤ 8) (hf : cells + 0 ≤ mcR ∧ slots + 0 ≤ msR) (hdg : decode cc pc = .ok (.invokestatic index, 3)) (kk : ∀ (F1 : M2), F1 = up2 F 10 (O 10) → ∀ (H1 : Heap) (locs1 : List Loc), TS vwCl D (TT Z a b q O pr F1) A H0 H1 locs1 → W p l e (rk rn mcR msR) s m args below meth c H1 locs1 cells slots Q (F0 m (pc + 3) ls rest)) : W p l e (rk rn mcR msR) s m args below meth c H locs cells slots Q (F0 m pc ls (.ref (a 10) :: .ref (b 10) :: rest)) :=
  w_cpJ (q0 := 19) (q1 := 7) (ws' := (TT Z a b q O pr (up2 F 10 (O 10)))) hC hN hK hT hl rfl rfl (by decide) rfl (by decide) hlt hsize hW hf hdg (fun H1 locs1 hT1 => kk _ rfl H1 locs1 hT1)
theorem cpTT_oToutMinute_ToutMinute {Z : Nat → ClassId} {a b q : Nat → Nat} {O : M2} {pr : Nat} {F : M2} (hC : CallFix p m c cc nL s args lw_g own) (hN : NW s) (hK : va_K D vwCl (tysG Z) s) (hT : TS vwCl D (TT Z a b q O pr F) A H0 H locs) (hl : Cond.methodLinkNest own index yX5_copy RX5 ∈ lw_n) (hlt : 0 < rn) (hsize : ls.size = nL) (hW : (rest.map fun v => v.category).sum ≤ 8) (hf : cells + 0 ≤ mcR ∧ slots + 0 ≤ msR) (hdg : decode cc pc = .ok (.invokestatic index, 3)) (kk : ∀ (F1 : M2), F1 = up2 F 13 (O 13) → ∀ (H1 : Heap) (locs1 : List Loc), TS vwCl D (TT Z a b q O pr F1) A H0 H1 locs1 → W p l e (rk rn mcR msR) s m args below meth c H1 locs1 cells slots Q (F0 m (pc + 3) ls rest)) : W p l e (rk rn mcR msR) s m args below meth c H locs cells slots Q (F0 m pc ls (.ref (a 13) :: .ref (b 13) :: rest)) :=
  w_cpJ (q0 := 22) (q1 := 10) (ws' := (TT Z a b q O pr (up2 F 13 (O 13)))) hC hN hK hT hl rfl rfl (by decide) rfl (by decide) hlt hsize hW hf hdg (fun H1 locs1 hT1 => kk _ rfl H1 locs1 hT1)
theorem cpTT_oTpushed_Tpushed {Z : Nat → ClassId} {a b q : Nat → Nat} {O : M2} {pr : Nat} {F : M2} (hC : CallFix p m c cc nL s args lw_g own) (hN : NW s) (hK : va_K D vwCl (tysG Z) s) (hT : TS vwCl D (TT Z a b q O pr F) A H0 H locs) (hl : Cond.methodLinkNest own index yX5_copy RX5 ∈ lw_n) (hlt : 0 < rn) (hsize : ls.size = nL) (hW : (rest.map fun v => v.category).sum ≤ 8) (hf : cells + 0 ≤ mcR ∧ slots + 0 ≤ msR) (hdg : decode cc pc = .ok (.invokestatic index, 3)) (kk : ∀ (F1 : M2), F1 = up2 F 12 (O 12) → ∀ (H1 : Heap) (locs1 : List Loc), TS vwCl D (TT Z a b q O pr F1) A H0 H1 locs1 → W p l e (rk rn mcR msR) s m args below meth c H1 locs1 cells slots Q (F0 m (pc + 3) ls rest)) : W p l e (rk rn mcR msR) s m args below meth c H locs cells slots Q (F0 m pc ls (.ref (a 12) :: .ref (b 12) :: rest)) :=
  w_cpJ (q0 := 21) (q1 := 9) (ws' := (TT Z a b q O pr (up2 F 12 (O 12)))) hC hN hK hT hl rfl rfl (by decide) rfl (by decide) hlt hsize hW hf hdg (fun H1 locs1 hT1 => kk _ rfl H1 locs1 hT1)
theorem cpTT_oTside_Tside {Z : Nat → ClassId} {a b q : Nat → Nat} {O : M2} {pr : Nat} {F : M2} (hC : CallFix p m c cc nL s args lw_g own) (hN : NW s) (hK : va_K D vwCl (tysG Z) s) (hT : TS vwCl D (TT Z a b q O pr F) A H0 H locs) (hl : Cond.methodLinkNest own index yX5_copy RX5 ∈ lw_n) (hlt : 0 < rn) (hsize : ls.size = nL) (hW : (rest.map fun v => v.category).sum ≤ 8) (hf : cells + 0 ≤ mcR ∧ slots + 0 ≤ msR) (hdg : decode cc pc = .ok (.invokestatic index, 3)) (kk : ∀ (F1 : M2), F1 = up2 F 8 (O 8) → ∀ (H1 : Heap) (locs1 : List Loc), TS vwCl D (TT Z a b q O pr F1) A H0 H1 locs1 → W p l e (rk rn mcR msR) s m args below meth c H1 locs1 cells slots Q (F0 m (pc + 3) ls rest)) : W p l e (rk rn mcR msR) s m args below meth c H locs cells slots Q (F0 m pc ls (.ref (a 8) :: .ref (b 8) :: rest)) :=
  w_cpJ (q0 := 17) (q1 := 5) (ws' := (TT Z a b q O pr (up2 F 8 (O 8)))) hC hN hK hT hl rfl rfl (by decide) rfl (by decide) hlt hsize hW hf hdg (fun H1 locs1 hT1 => kk _ rfl H1 locs1 hT1)
theorem cpTT_oTspot_Tspot {Z : Nat → ClassId} {a b q : Nat → Nat} {O : M2} {pr : Nat} {F : M2} (hC : CallFix p m c cc nL s args lw_g own) (hN : NW s) (hK : va_K D vwCl (tysG Z) s) (hT : TS vwCl D (TT Z a b q O pr F) A H0 H locs) (hl : Cond.methodLinkNest own index yX5_copy RX5 ∈ lw_n) (hlt : 0 < rn) (hsize : ls.size = nL) (hW : (rest.map fun v => v.category).sum ≤ 8) (hf : cells + 0 ≤ mcR ∧ slots + 0 ≤ msR) (hdg : decode cc pc = .ok (.invokestatic index, 3)) (kk : ∀ (F1 : M2), F1 = up2 F 11 (O 11) → ∀ (H1 : Heap) (locs1 : List Loc), TS vwCl D (TT Z a b q O pr F1) A H0 H1 locs1 → W p l e (rk rn mcR msR) s m args below meth c H1 locs1 cells slots Q (F0 m (pc + 3) ls rest)) : W p l e (rk rn mcR msR) s m args below meth c H locs cells slots Q (F0 m pc ls (.ref (a 11) :: .ref (b 11) :: rest)) :=
  w_cpJ (q0 := 20) (q1 := 8) (ws' := (TT Z a b q O pr (up2 F 11 (O 11)))) hC hN hK hT hl rfl rfl (by decide) rfl (by decide) hlt hsize hW hf hdg (fun H1 locs1 hT1 => kk _ rfl H1 locs1 hT1)
theorem cpTT_oTwalk_Twalk {Z : Nat → ClassId} {a b q : Nat → Nat} {O : M2} {pr : Nat} {F : M2} (hC : CallFix p m c cc nL s args lw_g own) (hN : NW s) (hK : va_K D vwCl (tysG Z) s) (hT : TS vwCl D (TT Z a b q O pr F) A H0 H locs) (hl : Cond.methodLinkNest own index yX5_copy RX5 ∈ lw_n) (hlt : 0 < rn) (hsize : ls.size = nL) (hW : (rest.map fun v => v.category).sum ≤ 8) (hf : cells + 0 ≤ mcR ∧ slots + 0 ≤ msR) (hdg : decode cc pc = .ok (.invokestatic index, 3)) (kk : ∀ (F1 : M2), F1 = up2 F 6 (O 6) → ∀ (H1 : Heap) (locs1 : List Loc), TS vwCl D (TT Z a b q O pr F1) A H0 H1 locs1 → W p l e (rk rn mcR msR) s m args below meth c H1 locs1 cells slots Q (F0 m (pc + 3) ls rest)) : W p l e (rk rn mcR msR) s m args below meth c H locs cells slots Q (F0 m pc ls (.ref (a 6) :: .ref (b 6) :: rest)) :=
  w_cpJ (q0 := 15) (q1 := 3) (ws' := (TT Z a b q O pr (up2 F 6 (O 6)))) hC hN hK hT hl rfl rfl (by decide) rfl (by decide) hlt hsize hW hf hdg (fun H1 locs1 hT1 => kk _ rfl H1 locs1 hT1)
theorem gTB_plan_1 {Z : Nat → ClassId} {a q : Nat → Nat} {P : M2} {pr : Nat} {F : M2} (hC : CallFix p m c cc nL s args lw_g own) (hK : va_K D vwCl (tysG Z) s) (hP : va_P D vwCl (TB Z a q P pr F) H) (hl : Cond.fieldLink own index RX1 "places" "I" ∈ lw_g) (hdg : decode cc pc = .ok (.getfield index, 3)) (kk : W p l e R s m args below meth c H locs cells slots Q (F0 m (pc + 3) ls (.int (P 21 0) :: rest))) : W p l e R s m args below meth c H locs cells slots Q (F0 m pc ls (.ref (q 20) :: rest)) :=
  w_get (C := RX1) (T := TX1) (N := 19) (ci := 1) (q0 := 12) (k := 1) hC hK hP fi_X1 rfl rfl rfl (by decide) rfl hl hdg kk
theorem gTB_plan_3 {Z : Nat → ClassId} {a q : Nat → Nat} {P : M2} {pr : Nat} {F : M2} (hC : CallFix p m c cc nL s args lw_g own) (hK : va_K D vwCl (tysG Z) s) (hP : va_P D vwCl (TB Z a q P pr F) H) (hl : Cond.fieldLink own index RX1 "leggers" "I" ∈ lw_g) (hdg : decode cc pc = .ok (.getfield index, 3)) (kk : W p l e R s m args below meth c H locs cells slots Q (F0 m (pc + 3) ls (.int (P 23 0) :: rest))) : W p l e R s m args below meth c H locs cells slots Q (F0 m pc ls (.ref (q 20) :: rest)) :=
  w_get (C := RX1) (T := TX1) (N := 19) (ci := 1) (q0 := 12) (k := 3) hC hK hP fi_X1 rfl rfl rfl (by decide) rfl hl hdg kk
theorem gTB_plan_4 {Z : Nat → ClassId} {a q : Nat → Nat} {P : M2} {pr : Nat} {F : M2} (hC : CallFix p m c cc nL s args lw_g own) (hK : va_K D vwCl (tysG Z) s) (hP : va_P D vwCl (TB Z a q P pr F) H) (hl : Cond.fieldLink own index RX1 "boats" "I" ∈ lw_g) (hdg : decode cc pc = .ok (.getfield index, 3)) (kk : W p l e R s m args below meth c H locs cells slots Q (F0 m (pc + 3) ls (.int (P 24 0) :: rest))) : W p l e R s m args below meth c H locs cells slots Q (F0 m pc ls (.ref (q 20) :: rest)) :=
  w_get (C := RX1) (T := TX1) (N := 19) (ci := 1) (q0 := 12) (k := 4) hC hK hP fi_X1 rfl rfl rfl (by decide) rfl hl hdg kk
theorem gTB_plan_14 {Z : Nat → ClassId} {a q : Nat → Nat} {P : M2} {pr : Nat} {F : M2} (hC : CallFix p m c cc nL s args lw_g own) (hK : va_K D vwCl (tysG Z) s) (hP : va_P D vwCl (TB Z a q P pr F) H) (hl : Cond.fieldLink own index RX1 "side" "[I" ∈ lw_g) (hdg : decode cc pc = .ok (.getfield index, 3)) (kk : W p l e R s m args below meth c H locs cells slots Q (F0 m (pc + 3) ls (.ref (q 34) :: rest))) : W p l e R s m args below meth c H locs cells slots Q (F0 m pc ls (.ref (q 20) :: rest)) :=
  w_get (C := RX1) (T := TX1) (N := 19) (ci := 1) (q0 := 12) (k := 14) hC hK hP fi_X1 rfl rfl rfl (by decide) rfl hl hdg kk
theorem gTB_plan_15 {Z : Nat → ClassId} {a q : Nat → Nat} {P : M2} {pr : Nat} {F : M2} (hC : CallFix p m c cc nL s args lw_g own) (hK : va_K D vwCl (tysG Z) s) (hP : va_P D vwCl (TB Z a q P pr F) H) (hl : Cond.fieldLink own index RX1 "due" "[I" ∈ lw_g) (hdg : decode cc pc = .ok (.getfield index, 3)) (kk : W p l e R s m args below meth c H locs cells slots Q (F0 m (pc + 3) ls (.ref (q 35) :: rest))) : W p l e R s m args below meth c H locs cells slots Q (F0 m pc ls (.ref (q 20) :: rest)) :=
  w_get (C := RX1) (T := TX1) (N := 19) (ci := 1) (q0 := 12) (k := 15) hC hK hP fi_X1 rfl rfl rfl (by decide) rfl hl hdg kk
theorem gTB_tun_0 {Z : Nat → ClassId} {a q : Nat → Nat} {P : M2} {pr : Nat} {F : M2} (hC : CallFix p m c cc nL s args lw_g own) (hK : va_K D vwCl (tysG Z) s) (hP : va_P D vwCl (TB Z a q P pr F) H) (hl : Cond.fieldLink own index RX4 "plan" "LTunnelLeggers$Plan;" ∈ lw_g) (hdg : decode cc pc = .ok (.getfield index, 3)) (kk : W p l e R s m args below meth c H locs cells slots Q (F0 m (pc + 3) ls (.ref (pr) :: rest))) : W p l e R s m args below meth c H locs cells slots Q (F0 m pc ls (.ref (a 0) :: rest)) :=
  w_get (C := RX4) (T := TX4) (N := 15) (ci := 4) (q0 := 0) (k := 0) hC hK hP fi_X4 rfl rfl rfl (by decide) rfl hl hdg kk
theorem gTB_tun_4 {Z : Nat → ClassId} {a q : Nat → Nat} {P : M2} {pr : Nat} {F : M2} (hC : CallFix p m c cc nL s args lw_g own) (hK : va_K D vwCl (tysG Z) s) (hP : va_P D vwCl (TB Z a q P pr F) H) (hl : Cond.fieldLink own index RX4 "air" "[I" ∈ lw_g) (hdg : decode cc pc = .ok (.getfield index, 3)) (kk : W p l e R s m args below meth c H locs cells slots Q (F0 m (pc + 3) ls (.ref (a 4) :: rest))) : W p l e R s m args below meth c H locs cells slots Q (F0 m pc ls (.ref (a 0) :: rest)) :=
  w_get (C := RX4) (T := TX4) (N := 15) (ci := 4) (q0 := 0) (k := 4) hC hK hP fi_X4 rfl rfl rfl (by decide) rfl hl hdg kk
theorem gTB_tun_5 {Z : Nat → ClassId} {a q : Nat → Nat} {P : M2} {pr : Nat} {F : M2} (hC : CallFix p m c cc nL s args lw_g own) (hK : va_K D vwCl (tysG Z) s) (hP : va_P D vwCl (TB Z a q P pr F) H) (hl : Cond.fieldLink own index RX4 "breath" "[I" ∈ lw_g) (hdg : decode cc pc = .ok (.getfield index, 3)) (kk : W p l e R s m args below meth c H locs cells slots Q (F0 m (pc + 3) ls (.ref (a 5) :: rest))) : W p l e R s m args below meth c H locs cells slots Q (F0 m pc ls (.ref (a 0) :: rest)) :=
  w_get (C := RX4) (T := TX4) (N := 15) (ci := 4) (q0 := 0) (k := 5) hC hK hP fi_X4 rfl rfl rfl (by decide) rfl hl hdg kk
theorem gTB_tun_6 {Z : Nat → ClassId} {a q : Nat → Nat} {P : M2} {pr : Nat} {F : M2} (hC : CallFix p m c cc nL s args lw_g own) (hK : va_K D vwCl (tysG Z) s) (hP : va_P D vwCl (TB Z a q P pr F) H) (hl : Cond.fieldLink own index RX4 "walk" "[I" ∈ lw_g) (hdg : decode cc pc = .ok (.getfield index, 3)) (kk : W p l e R s m args below meth c H locs cells slots Q (F0 m (pc + 3) ls (.ref (a 6) :: rest))) : W p l e R s m args below meth c H locs cells slots Q (F0 m pc ls (.ref (a 0) :: rest)) :=
  w_get (C := RX4) (T := TX4) (N := 15) (ci := 4) (q0 := 0) (k := 6) hC hK hP fi_X4 rfl rfl rfl (by decide) rfl hl hdg kk
theorem gTB_tun_7 {Z : Nat → ClassId} {a q : Nat → Nat} {P : M2} {pr : Nat} {F : M2} (hC : CallFix p m c cc nL s args lw_g own) (hK : va_K D vwCl (tysG Z) s) (hP : va_P D vwCl (TB Z a q P pr F) H) (hl : Cond.fieldLink own index RX4 "capPlace" "[I" ∈ lw_g) (hdg : decode cc pc = .ok (.getfield index, 3)) (kk : W p l e R s m args below meth c H locs cells slots Q (F0 m (pc + 3) ls (.ref (a 7) :: rest))) : W p l e R s m args below meth c H locs cells slots Q (F0 m pc ls (.ref (a 0) :: rest)) :=
  w_get (C := RX4) (T := TX4) (N := 15) (ci := 4) (q0 := 0) (k := 7) hC hK hP fi_X4 rfl rfl rfl (by decide) rfl hl hdg kk
theorem gTB_tun_8 {Z : Nat → ClassId} {a q : Nat → Nat} {P : M2} {pr : Nat} {F : M2} (hC : CallFix p m c cc nL s args lw_g own) (hK : va_K D vwCl (tysG Z) s) (hP : va_P D vwCl (TB Z a q P pr F) H) (hl : Cond.fieldLink own index RX4 "side" "[I" ∈ lw_g) (hdg : decode cc pc = .ok (.getfield index, 3)) (kk : W p l e R s m args below meth c H locs cells slots Q (F0 m (pc + 3) ls (.ref (a 8) :: rest))) : W p l e R s m args below meth c H locs cells slots Q (F0 m pc ls (.ref (a 0) :: rest)) :=
  w_get (C := RX4) (T := TX4) (N := 15) (ci := 4) (q0 := 0) (k := 8) hC hK hP fi_X4 rfl rfl rfl (by decide) rfl hl hdg kk
theorem pTB_tun_2 {Z : Nat → ClassId} {a q : Nat → Nat} {P : M2} {pr : Nat} {F : M2} {x : Int32} (hC : CallFix p m c cc nL s args lw_g own) (hK : va_K D vwCl (tysG Z) s) (hT : TS vwCl D (TB Z a q P pr F) A H0 H locs) (hl : Cond.fieldLink own index RX4 "turn" "I" ∈ lw_g) (hdg : decode cc pc = .ok (.putfield index, 3)) (kk : ∀ (F1 : M2), F1 = up2 F 2 (fun _ => x) → ∀ (H1 : Heap) (locs1 : List Loc), TS vwCl D (TB Z a q P pr F1) A H0 H1 locs1 → W p l e R s m args below meth c H1 locs1 cells slots Q (F0 m (pc + 3) ls rest)) : W p l e R s m args below meth c H locs cells slots Q (F0 m pc ls (.int x :: .ref (a 0) :: rest)) :=
  w_put (C := RX4) (T := TX4) (N := 15) (ci := 4) (q0 := 0) (k := 2) (ty0 := tyX4) (ty := .int) (ws' := (TB Z a q P pr (up2 F 2 (fun _ => x)))) hC hK hT fi_X4 tyX4_ok nmX4 rfl rfl (by decide) rfl rfl rfl rfl rfl (Nat.le_of_ble_eq_true rfl) rfl hl hdg (fun H1 locs1 hT1 => kk _ rfl H1 locs1 hT1)
theorem pfTB_tun_0 {Z : Nat → ClassId} {a q : Nat → Nat} {P : M2} {pr : Nat} {F : M2} {t : Nat} (hC : CallFix p m c cc nL s args lw_g own) (hK : va_K D vwCl (tysG Z) s) (hT : TS vwCl D (TB Z a q P pr F) A H0 H locs) (hl : Cond.fieldLink own index RX4 "plan" "LTunnelLeggers$Plan;" ∈ lw_g) (hdg : decode cc pc = .ok (.putfield index, 3)) (kk : ∀ (H1 : Heap) (locs1 : List Loc), TS vwCl D (TB Z a q P t F) A H0 H1 locs1 → W p l e R s m args below meth c H1 locs1 cells slots Q (F0 m (pc + 3) ls rest)) : W p l e R s m args below meth c H locs cells slots Q (F0 m pc ls (.ref t :: .ref (a 0) :: rest)) :=
  w_put (C := RX4) (T := TX4) (N := 15) (ci := 4) (q0 := 0) (k := 0) (ty0 := tyX4) (ty := .object "TunnelLeggers$Plan") (ws' := (TB Z a q P t F)) hC hK hT fi_X4 tyX4_ok nmX4 rfl rfl (by decide) rfl rfl rfl rfl rfl (Nat.le_of_ble_eq_true rfl) rfl hl hdg kk
theorem uTB_Tair {Z : Nat → ClassId} {a q : Nat → Nat} {P : M2} {pr : Nat} {F : M2} {i : Int32} {x : Int32} (hC : CallFix p m c cc nL s args lw_g own) (hN : NW s) (hK : va_K D vwCl (tysG Z) s) (hT : TS vwCl D (TB Z a q P pr F) A H0 H locs) (hl : Cond.methodLinkNest own index yX5_put RX5 ∈ lw_n) (hlt : 0 < rn) (hsize : ls.size = nL) (hW : (rest.map fun v => v.category).sum ≤ 8) (hf : cells + 0 ≤ mcR ∧ slots + 0 ≤ msR) (hdg : decode cc pc = .ok (.invokestatic index, 3)) (kk : ∀ (F1 : M2), F1 = up2 F 4 (putv (F 4) 60 i x) → ∀ (H1 : Heap) (locs1 : List Loc), TS vwCl D (TB Z a q P pr F1) A H0 H1 locs1 → W p l e (rk rn mcR msR) s m args below meth c H1 locs1 cells slots Q (F0 m (pc + 3) ls rest)) : W p l e (rk rn mcR msR) s m args below meth c H locs cells slots Q (F0 m pc ls (.int x :: .int i :: .ref (a 4) :: rest)) :=
  w_pu (q0 := 1) (ws' := (TB Z a q P pr (up2 F 4 (putv (F 4) 60 i x)))) hC hN hK hT hl rfl rfl (by decide) hlt hsize hW hf hdg (fun H1 locs1 hT1 => kk _ rfl H1 locs1 hT1)
theorem uTB_Tbreath {Z : Nat → ClassId} {a q : Nat → Nat} {P : M2} {pr : Nat} {F : M2} {i : Int32} {x : Int32} (hC : CallFix p m c cc nL s args lw_g own) (hN : NW s) (hK : va_K D vwCl (tysG Z) s) (hT : TS vwCl D (TB Z a q P pr F) A H0 H locs) (hl : Cond.methodLinkNest own index yX5_put RX5 ∈ lw_n) (hlt : 0 < rn) (hsize : ls.size = nL) (hW : (rest.map fun v => v.category).sum ≤ 8) (hf : cells + 0 ≤ mcR ∧ slots + 0 ≤ msR) (hdg : decode cc pc = .ok (.invokestatic index, 3)) (kk : ∀ (F1 : M2), F1 = up2 F 5 (putv (F 5) 6 i x) → ∀ (H1 : Heap) (locs1 : List Loc), TS vwCl D (TB Z a q P pr F1) A H0 H1 locs1 → W p l e (rk rn mcR msR) s m args below meth c H1 locs1 cells slots Q (F0 m (pc + 3) ls rest)) : W p l e (rk rn mcR msR) s m args below meth c H locs cells slots Q (F0 m pc ls (.int x :: .int i :: .ref (a 5) :: rest)) :=
  w_pu (q0 := 2) (ws' := (TB Z a q P pr (up2 F 5 (putv (F 5) 6 i x)))) hC hN hK hT hl rfl rfl (by decide) hlt hsize hW hf hdg (fun H1 locs1 hT1 => kk _ rfl H1 locs1 hT1)
theorem uTB_TcapPlace {Z : Nat → ClassId} {a q : Nat → Nat} {P : M2} {pr : Nat} {F : M2} {i : Int32} {x : Int32} (hC : CallFix p m c cc nL s args lw_g own) (hN : NW s) (hK : va_K D vwCl (tysG Z) s) (hT : TS vwCl D (TB Z a q P pr F) A H0 H locs) (hl : Cond.methodLinkNest own index yX5_put RX5 ∈ lw_n) (hlt : 0 < rn) (hsize : ls.size = nL) (hW : (rest.map fun v => v.category).sum ≤ 8) (hf : cells + 0 ≤ mcR ∧ slots + 0 ≤ msR) (hdg : decode cc pc = .ok (.invokestatic index, 3)) (kk : ∀ (F1 : M2), F1 = up2 F 7 (putv (F 7) 6 i x) → ∀ (H1 : Heap) (locs1 : List Loc), TS vwCl D (TB Z a q P pr F1) A H0 H1 locs1 → W p l e (rk rn mcR msR) s m args below meth c H1 locs1 cells slots Q (F0 m (pc + 3) ls rest)) : W p l e (rk rn mcR msR) s m args below meth c H locs cells slots Q (F0 m pc ls (.int x :: .int i :: .ref (a 7) :: rest)) :=
  w_pu (q0 := 4) (ws' := (TB Z a q P pr (up2 F 7 (putv (F 7) 6 i x)))) hC hN hK hT hl rfl rfl (by decide) hlt hsize hW hf hdg (fun H1 locs1 hT1 => kk _ rfl H1 locs1 hT1)
theorem uTB_Tside {Z : Nat → ClassId} {a q : Nat → Nat} {P : M2} {pr : Nat} {F : M2} {i : Int32} {x : Int32} (hC : CallFix p m c cc nL s args lw_g own) (hN : NW s) (hK : va_K D vwCl (tysG Z) s) (hT : TS vwCl D (TB Z a q P pr F) A H0 H locs) (hl : Cond.methodLinkNest own index yX5_put RX5 ∈ lw_n) (hlt : 0 < rn) (hsize : ls.size = nL) (hW : (rest.map fun v => v.category).sum ≤ 8) (hf : cells + 0 ≤ mcR ∧ slots + 0 ≤ msR) (hdg : decode cc pc = .ok (.invokestatic index, 3)) (kk : ∀ (F1 : M2), F1 = up2 F 8 (putv (F 8) 8 i x) → ∀ (H1 : Heap) (locs1 : List Loc), TS vwCl D (TB Z a q P pr F1) A H0 H1 locs1 → W p l e (rk rn mcR msR) s m args below meth c H1 locs1 cells slots Q (F0 m (pc + 3) ls rest)) : W p l e (rk rn mcR msR) s m args below meth c H locs cells slots Q (F0 m pc ls (.int x :: .int i :: .ref (a 8) :: rest)) :=
  w_pu (q0 := 5) (ws' := (TB Z a q P pr (up2 F 8 (putv (F 8) 8 i x)))) hC hN hK hT hl rfl rfl (by decide) hlt hsize hW hf hdg (fun H1 locs1 hT1 => kk _ rfl H1 locs1 hT1)
theorem uTB_Twalk {Z : Nat → ClassId} {a q : Nat → Nat} {P : M2} {pr : Nat} {F : M2} {i : Int32} {x : Int32} (hC : CallFix p m c cc nL s args lw_g own) (hN : NW s) (hK : va_K D vwCl (tysG Z) s) (hT : TS vwCl D (TB Z a q P pr F) A H0 H locs) (hl : Cond.methodLinkNest own index yX5_put RX5 ∈ lw_n) (hlt : 0 < rn) (hsize : ls.size = nL) (hW : (rest.map fun v => v.category).sum ≤ 8) (hf : cells + 0 ≤ mcR ∧ slots + 0 ≤ msR) (hdg : decode cc pc = .ok (.invokestatic index, 3)) (kk : ∀ (F1 : M2), F1 = up2 F 6 (putv (F 6) 6 i x) → ∀ (H1 : Heap) (locs1 : List Loc), TS vwCl D (TB Z a q P pr F1) A H0 H1 locs1 → W p l e (rk rn mcR msR) s m args below meth c H1 locs1 cells slots Q (F0 m (pc + 3) ls rest)) : W p l e (rk rn mcR msR) s m args below meth c H locs cells slots Q (F0 m pc ls (.int x :: .int i :: .ref (a 6) :: rest)) :=
  w_pu (q0 := 3) (ws' := (TB Z a q P pr (up2 F 6 (putv (F 6) 6 i x)))) hC hN hK hT hl rfl rfl (by decide) hlt hsize hW hf hdg (fun H1 locs1 hT1 => kk _ rfl H1 locs1 hT1)
end ROWSTT
set_option maxRecDepth 100000 in
theorem sx_TWTB (Z : Nat → ClassId) (a q : Nat → Nat) (P : M2) (F : M2) : ([0, 1, 2, 3, 4, 5, 6, 7, 8, 9, 10, 11, 12, 13, 14, 15, 16, 17, 18, 19, 20, 21, 22, 23, 24, 25, 26, 27, 28, 29, 30, 31, 32] : List Nat).map (fun i => (TB Z a q P (q 20) F)[i]?) = (TW Z a q P F).map some := rfl
set_option maxRecDepth 100000 in
theorem cx_TWTB (Z : Nat → ClassId) (a q : Nat → Nat) (P : M2) (F : M2) : Cut (TB Z a q P (q 20) F) (TW Z a q P) F [] [0, 1, 2, 3, 4, 5, 6, 7, 8, 9, 10, 11, 12, 13, 14, 15, 16, 17, 18, 19, 20, 21, 22, 23, 24, 25, 26, 27, 28, 29, 30, 31, 32] [] [0, 1, 2, 3, 4, 5, 6, 7, 8, 9, 10, 11, 12, 13, 14, 15, 16, 17, 18, 19, 20, 21, 22, 23, 24, 25, 26, 27, 28, 29, 30, 31, 32] (fun u : M2 => (TB Z a q P (q 20) u)) := ⟨rfl, rfl, rfl, by decide, rfl, fun _ => rfl⟩
section LX4_mostBreath0x
variable {p : Program} {l : Launch} {e : Env} {s : State} {m : MethodId} {args : Array Value} {below : List Frame} {meth : Method} {c : Code} {H H0 : Heap} {locs : List Loc} {cells slots : Nat} {Q : State → Prop} {R : Room} {rn mcR msR : Nat}
variable {pc : Nat} {ls : Array Slot} {rest : List Value} {A : Nat → Prop} {D : va_G}
variable {cc : ByteArray} {nL index : Nat} {own host : String}
theorem kx_X4_mostBreath {Z : Nat → ClassId} {a q : Nat → Nat} {P : M2} {F : M2} {x1 : Int32} {K : Int32 → Prop} {ws : va_W} {isC : List Nat} (hC : CallFix p m c cc nL s args lw_g own) (hN : NW s) (hK : va_K D vwCl (tysG Z) s) (hP : va_P D vwCl ws H) (hD : va_D (fun _ => True) ws) (hs : isC.map (fun i => ws[i]?) = (TW Z a q P F).map some) (hnd : va_nd isC = true) (hm : wp_X4_mostBreath P F x1 K) (hl : Cond.methodLink own index yX4_mostBreath ∈ lw_g) (hlt : 1 < rn) (hsize : ls.size = nL) (hW : (rest.map fun v => v.category).sum ≤ 8) (hf : cells + 0 ≤ mcR ∧ slots + 0 ≤ msR) (hdg : decode cc pc = .ok (.invokevirtual index, 3)) (kk : ∀ r : Int32, K r → W p l e (rk rn mcR msR) s m args below meth c H locs cells slots Q (F0 m (pc + 3) ls (.int r :: rest))) : W p l e (rk rn mcR msR) s m args below meth c H locs cells slots Q (F0 m pc ls (.int x1 :: .ref (a 0) :: rest)) :=
  ro_go (runV (As := [.int x1]) hC hN (c_X4_mostBreath l D Z a q P F H.size x1 K hm) mi_X4_mostBreath hl wq_775 wq_22 hlt (hP.sub isC (map_fm hs)) (hD.sub isC hnd hs) hK (q0 := 0) rfl rfl rfl hsize rfl hW hdg hf) kk
end LX4_mostBreath0x
section LX4_putToWait0x
variable {p : Program} {l : Launch} {e : Env} {s : State} {m : MethodId} {args : Array Value} {below : List Frame} {meth : Method} {c : Code} {H H0 : Heap} {locs : List Loc} {cells slots : Nat} {Q : State → Prop} {R : Room} {rn mcR msR : Nat}
variable {pc : Nat} {ls : Array Slot} {rest : List Value} {A : Nat → Prop} {D : va_G}
variable {cc : ByteArray} {nL index : Nat} {own host : String}
theorem kx_X4_putToWait {Z : Nat → ClassId} {a q : Nat → Nat} {P : M2} {F : M2} {x1 : Int32} {x2 : Int32} {K : M2 → Prop} {ws wr : va_W} {isC isR pm : List Nat} {ws' : M2 → va_W} (hC : CallFix p m c cc nL s args lw_g own) (hN : NW s) (hK : va_K D vwCl (tysG Z) s) (hT : TS vwCl D ws A H0 H locs) (hc : Cut ws (TW Z a q P) F wr isC isR pm ws') (hnd : va_nd isC = true) (hm : wp_X4_putToWait P F x1 x2 K) (hl : Cond.methodLink own index yX4_putToWait ∈ lw_g) (hlt : 1 < rn) (hsize : ls.size = nL) (hW : (rest.map fun v => v.category).sum ≤ 8) (hf : cells + 0 ≤ mcR ∧ slots + 0 ≤ msR) (hdg : decode cc pc = .ok (.invokevirtual index, 3)) (kk : ∀ (F1 : M2) (H1 : Heap) (locs1 : List Loc), K F1 → TS vwCl D (ws' F1) A H0 H1 locs1 → W p l e (rk rn mcR msR) s m args below meth c H1 locs1 cells slots Q (F0 m (pc + 3) ls (rest))) : W p l e (rk rn mcR msR) s m args below meth c H locs cells slots Q (F0 m pc ls (.int x2 :: .int x1 :: .ref (a 0) :: rest)) :=
  rwv_go (wsF := (TW Z a q P)) (u0 := F) (wr := wr) (isC := isC) (isR := isR) (pm := pm) (ws' := ws') (runV (As := [.int x1, .int x2]) hC hN (c_X4_putToWait l D Z a q P F H.size x1 x2 K hm) mi_X4_putToWait hl wq_1153 wq_63 hlt (hT.1.sub isC (map_fm hc.1)) (hT.D'.sub isC hnd hc.1) hK (q0 := 0) rfl rfl rfl hsize rfl hW hdg hf) hc hT (fun u H1 locs1 hk hT1 => kk u H1 locs1 hk hT1)
end LX4_putToWait0x
theorem dX4_copyFrom_0 : decode cX4_copyFrom 0 = .ok (.aload_n 0, 1) := by decide +kernel
theorem dX4_copyFrom_1 : decode cX4_copyFrom 1 = .ok (.aload_n 1, 1) := by decide +kernel
theorem dX4_copyFrom_2 : decode cX4_copyFrom 2 = .ok (.getfield 55, 3) := by decide +kernel
theorem dX4_copyFrom_5 : decode cX4_copyFrom 5 = .ok (.putfield 55, 3) := by decide +kernel
theorem dX4_copyFrom_8 : decode cX4_copyFrom 8 = .ok (.aload_n 0, 1) := by decide +kernel
theorem dX4_copyFrom_9 : decode cX4_copyFrom 9 = .ok (.aload_n 1, 1) := by decide +kernel
theorem dX4_copyFrom_10 : decode cX4_copyFrom 10 = .ok (.getfield 9, 3) := by decide +kernel
theorem dX4_copyFrom_13 : decode cX4_copyFrom 13 = .ok (.putfield 9, 3) := by decide +kernel
theorem dX4_copyFrom_16 : decode cX4_copyFrom 16 = .ok (.aload_n 0, 1) := by decide +kernel
theorem dX4_copyFrom_17 : decode cX4_copyFrom 17 = .ok (.aload_n 1, 1) := by decide +kernel
theorem dX4_copyFrom_18 : decode cX4_copyFrom 18 = .ok (.getfield 15, 3) := by decide +kernel
theorem dX4_copyFrom_21 : decode cX4_copyFrom 21 = .ok (.putfield 15, 3) := by decide +kernel
theorem dX4_copyFrom_24 : decode cX4_copyFrom 24 = .ok (.aload_n 0, 1) := by decide +kernel
theorem dX4_copyFrom_25 : decode cX4_copyFrom 25 = .ok (.aload_n 1, 1) := by decide +kernel
theorem dX4_copyFrom_26 : decode cX4_copyFrom 26 = .ok (.getfield 18, 3) := by decide +kernel
theorem dX4_copyFrom_29 : decode cX4_copyFrom 29 = .ok (.putfield 18, 3) := by decide +kernel
theorem dX4_copyFrom_32 : decode cX4_copyFrom 32 = .ok (.aload_n 1, 1) := by decide +kernel
theorem dX4_copyFrom_33 : decode cX4_copyFrom 33 = .ok (.getfield 21, 3) := by decide +kernel
theorem dX4_copyFrom_36 : decode cX4_copyFrom 36 = .ok (.aload_n 0, 1) := by decide +kernel
theorem dX4_copyFrom_37 : decode cX4_copyFrom 37 = .ok (.getfield 21, 3) := by decide +kernel
theorem dX4_copyFrom_40 : decode cX4_copyFrom 40 = .ok (.invokestatic 88, 3) := by decide +kernel
theorem dX4_copyFrom_43 : decode cX4_copyFrom 43 = .ok (.aload_n 1, 1) := by decide +kernel
theorem dX4_copyFrom_44 : decode cX4_copyFrom 44 = .ok (.getfield 25, 3) := by decide +kernel
theorem dX4_copyFrom_47 : decode cX4_copyFrom 47 = .ok (.aload_n 0, 1) := by decide +kernel
theorem dX4_copyFrom_48 : decode cX4_copyFrom 48 = .ok (.getfield 25, 3) := by decide +kernel
theorem dX4_copyFrom_51 : decode cX4_copyFrom 51 = .ok (.invokestatic 88, 3) := by decide +kernel
theorem dX4_copyFrom_54 : decode cX4_copyFrom 54 = .ok (.aload_n 1, 1) := by decide +kernel
theorem dX4_copyFrom_55 : decode cX4_copyFrom 55 = .ok (.getfield 28, 3) := by decide +kernel
theorem dX4_copyFrom_58 : decode cX4_copyFrom 58 = .ok (.aload_n 0, 1) := by decide +kernel
theorem dX4_copyFrom_59 : decode cX4_copyFrom 59 = .ok (.getfield 28, 3) := by decide +kernel
theorem dX4_copyFrom_62 : decode cX4_copyFrom 62 = .ok (.invokestatic 88, 3) := by decide +kernel
theorem dX4_copyFrom_65 : decode cX4_copyFrom 65 = .ok (.aload_n 1, 1) := by decide +kernel
theorem dX4_copyFrom_66 : decode cX4_copyFrom 66 = .ok (.getfield 31, 3) := by decide +kernel
theorem dX4_copyFrom_69 : decode cX4_copyFrom 69 = .ok (.aload_n 0, 1) := by decide +kernel
theorem dX4_copyFrom_70 : decode cX4_copyFrom 70 = .ok (.getfield 31, 3) := by decide +kernel
theorem dX4_copyFrom_73 : decode cX4_copyFrom 73 = .ok (.invokestatic 88, 3) := by decide +kernel
theorem dX4_copyFrom_76 : decode cX4_copyFrom 76 = .ok (.aload_n 1, 1) := by decide +kernel
theorem dX4_copyFrom_77 : decode cX4_copyFrom 77 = .ok (.getfield 34, 3) := by decide +kernel
theorem dX4_copyFrom_80 : decode cX4_copyFrom 80 = .ok (.aload_n 0, 1) := by decide +kernel
theorem dX4_copyFrom_81 : decode cX4_copyFrom 81 = .ok (.getfield 34, 3) := by decide +kernel
theorem dX4_copyFrom_84 : decode cX4_copyFrom 84 = .ok (.invokestatic 88, 3) := by decide +kernel
theorem dX4_copyFrom_87 : decode cX4_copyFrom 87 = .ok (.aload_n 1, 1) := by decide +kernel
theorem dX4_copyFrom_88 : decode cX4_copyFrom 88 = .ok (.getfield 37, 3) := by decide +kernel
theorem dX4_copyFrom_91 : decode cX4_copyFrom 91 = .ok (.aload_n 0, 1) := by decide +kernel
theorem dX4_copyFrom_92 : decode cX4_copyFrom 92 = .ok (.getfield 37, 3) := by decide +kernel
theorem dX4_copyFrom_95 : decode cX4_copyFrom 95 = .ok (.invokestatic 88, 3) := by decide +kernel
theorem dX4_copyFrom_98 : decode cX4_copyFrom 98 = .ok (.aload_n 1, 1) := by decide +kernel
theorem dX4_copyFrom_99 : decode cX4_copyFrom 99 = .ok (.getfield 40, 3) := by decide +kernel
theorem dX4_copyFrom_102 : decode cX4_copyFrom 102 = .ok (.aload_n 0, 1) := by decide +kernel
theorem dX4_copyFrom_103 : decode cX4_copyFrom 103 = .ok (.getfield 40, 3) := by decide +kernel
theorem dX4_copyFrom_106 : decode cX4_copyFrom 106 = .ok (.invokestatic 88, 3) := by decide +kernel
theorem dX4_copyFrom_109 : decode cX4_copyFrom 109 = .ok (.aload_n 1, 1) := by decide +kernel
theorem dX4_copyFrom_110 : decode cX4_copyFrom 110 = .ok (.getfield 43, 3) := by decide +kernel
theorem dX4_copyFrom_113 : decode cX4_copyFrom 113 = .ok (.aload_n 0, 1) := by decide +kernel
theorem dX4_copyFrom_114 : decode cX4_copyFrom 114 = .ok (.getfield 43, 3) := by decide +kernel
theorem dX4_copyFrom_117 : decode cX4_copyFrom 117 = .ok (.invokestatic 88, 3) := by decide +kernel
theorem dX4_copyFrom_120 : decode cX4_copyFrom 120 = .ok (.aload_n 1, 1) := by decide +kernel
theorem dX4_copyFrom_121 : decode cX4_copyFrom 121 = .ok (.getfield 46, 3) := by decide +kernel
theorem dX4_copyFrom_124 : decode cX4_copyFrom 124 = .ok (.aload_n 0, 1) := by decide +kernel
theorem dX4_copyFrom_125 : decode cX4_copyFrom 125 = .ok (.getfield 46, 3) := by decide +kernel
theorem dX4_copyFrom_128 : decode cX4_copyFrom 128 = .ok (.invokestatic 88, 3) := by decide +kernel
theorem dX4_copyFrom_131 : decode cX4_copyFrom 131 = .ok (.aload_n 1, 1) := by decide +kernel
theorem dX4_copyFrom_132 : decode cX4_copyFrom 132 = .ok (.getfield 49, 3) := by decide +kernel
theorem dX4_copyFrom_135 : decode cX4_copyFrom 135 = .ok (.aload_n 0, 1) := by decide +kernel
theorem dX4_copyFrom_136 : decode cX4_copyFrom 136 = .ok (.getfield 49, 3) := by decide +kernel
theorem dX4_copyFrom_139 : decode cX4_copyFrom 139 = .ok (.invokestatic 88, 3) := by decide +kernel
theorem dX4_copyFrom_142 : decode cX4_copyFrom 142 = .ok (.return_, 1) := by decide +kernel
theorem dX4_begin_0 : decode cX4_begin 0 = .ok (.aload_n 0, 1) := by decide +kernel
theorem dX4_begin_1 : decode cX4_begin 1 = .ok (.aload_n 1, 1) := by decide +kernel
theorem dX4_begin_2 : decode cX4_begin 2 = .ok (.putfield 55, 3) := by decide +kernel
theorem dX4_begin_5 : decode cX4_begin 5 = .ok (.aload_n 0, 1) := by decide +kernel
theorem dX4_begin_6 : decode cX4_begin 6 = .ok (.iconst 0, 1) := by decide +kernel
theorem dX4_begin_7 : decode cX4_begin 7 = .ok (.putfield 15, 3) := by decide +kernel
theorem dX4_begin_10 : decode cX4_begin 10 = .ok (.iconst 0, 1) := by decide +kernel
theorem dX4_begin_11 : decode cX4_begin 11 = .ok (.istore_n 2, 1) := by decide +kernel
theorem dX4_begin_12 : decode cX4_begin 12 = .ok (.iload_n 2, 1) := by decide +kernel
theorem dX4_begin_13 : decode cX4_begin 13 = .ok (.aload_n 0, 1) := by decide +kernel
theorem dX4_begin_14 : decode cX4_begin 14 = .ok (.getfield 55, 3) := by decide +kernel
theorem dX4_begin_17 : decode cX4_begin 17 = .ok (.getfield 59, 3) := by decide +kernel
theorem dX4_begin_20 : decode cX4_begin 20 = .ok (.if_icmp .ge 19, 3) := by decide +kernel
theorem dX4_begin_23 : decode cX4_begin 23 = .ok (.aload_n 0, 1) := by decide +kernel
theorem dX4_begin_24 : decode cX4_begin 24 = .ok (.getfield 21, 3) := by decide +kernel
theorem dX4_begin_27 : decode cX4_begin 27 = .ok (.iload_n 2, 1) := by decide +kernel
theorem dX4_begin_28 : decode cX4_begin 28 = .ok (.bipush 100, 2) := by decide +kernel
theorem dX4_begin_30 : decode cX4_begin 30 = .ok (.invokestatic 64, 3) := by decide +kernel
theorem dX4_begin_33 : decode cX4_begin 33 = .ok (.iinc 2 1, 3) := by decide +kernel
theorem dX4_begin_36 : decode cX4_begin 36 = .ok (.goto (-24), 3) := by decide +kernel
theorem dX4_begin_39 : decode cX4_begin 39 = .ok (.iconst 0, 1) := by decide +kernel
theorem dX4_begin_40 : decode cX4_begin 40 = .ok (.istore_n 2, 1) := by decide +kernel
theorem dX4_begin_41 : decode cX4_begin 41 = .ok (.iload_n 2, 1) := by decide +kernel
theorem dX4_begin_42 : decode cX4_begin 42 = .ok (.aload_n 0, 1) := by decide +kernel
theorem dX4_begin_43 : decode cX4_begin 43 = .ok (.getfield 55, 3) := by decide +kernel
theorem dX4_begin_46 : decode cX4_begin 46 = .ok (.getfield 68, 3) := by decide +kernel
theorem dX4_begin_49 : decode cX4_begin 49 = .ok (.if_icmp .ge 40, 3) := by decide +kernel
theorem dX4_begin_52 : decode cX4_begin 52 = .ok (.aload_n 0, 1) := by decide +kernel
theorem dX4_begin_53 : decode cX4_begin 53 = .ok (.getfield 25, 3) := by decide +kernel
theorem dX4_begin_56 : decode cX4_begin 56 = .ok (.iload_n 2, 1) := by decide +kernel
theorem dX4_begin_57 : decode cX4_begin 57 = .ok (.aload_n 0, 1) := by decide +kernel
theorem dX4_begin_58 : decode cX4_begin 58 = .ok (.iload_n 2, 1) := by decide +kernel
theorem dX4_begin_59 : decode cX4_begin 59 = .ok (.invokevirtual 71, 3) := by decide +kernel
theorem dX4_begin_62 : decode cX4_begin 62 = .ok (.invokestatic 64, 3) := by decide +kernel
theorem dX4_begin_65 : decode cX4_begin 65 = .ok (.aload_n 0, 1) := by decide +kernel
theorem dX4_begin_66 : decode cX4_begin 66 = .ok (.getfield 28, 3) := by decide +kernel
theorem dX4_begin_69 : decode cX4_begin 69 = .ok (.iload_n 2, 1) := by decide +kernel
theorem dX4_begin_70 : decode cX4_begin 70 = .ok (.iconst 0, 1) := by decide +kernel
theorem dX4_begin_71 : decode cX4_begin 71 = .ok (.invokestatic 64, 3) := by decide +kernel
theorem dX4_begin_74 : decode cX4_begin 74 = .ok (.aload_n 0, 1) := by decide +kernel
theorem dX4_begin_75 : decode cX4_begin 75 = .ok (.getfield 31, 3) := by decide +kernel
theorem dX4_begin_78 : decode cX4_begin 78 = .ok (.iload_n 2, 1) := by decide +kernel
theorem dX4_begin_79 : decode cX4_begin 79 = .ok (.iconst (-1), 1) := by decide +kernel
theorem dX4_begin_80 : decode cX4_begin 80 = .ok (.invokestatic 64, 3) := by decide +kernel
theorem dX4_begin_83 : decode cX4_begin 83 = .ok (.iinc 2 1, 3) := by decide +kernel
theorem dX4_begin_86 : decode cX4_begin 86 = .ok (.goto (-45), 3) := by decide +kernel
theorem dX4_begin_89 : decode cX4_begin 89 = .ok (.iconst 0, 1) := by decide +kernel
theorem dX4_begin_90 : decode cX4_begin 90 = .ok (.istore_n 2, 1) := by decide +kernel
theorem dX4_begin_91 : decode cX4_begin 91 = .ok (.iload_n 2, 1) := by decide +kernel
theorem dX4_begin_92 : decode cX4_begin 92 = .ok (.aload_n 0, 1) := by decide +kernel
theorem dX4_begin_93 : decode cX4_begin 93 = .ok (.getfield 55, 3) := by decide +kernel
theorem dX4_begin_96 : decode cX4_begin 96 = .ok (.getfield 75, 3) := by decide +kernel
theorem dX4_begin_99 : decode cX4_begin 99 = .ok (.if_icmp .ge 44, 3) := by decide +kernel
theorem dX4_begin_102 : decode cX4_begin 102 = .ok (.aload_n 0, 1) := by decide +kernel
theorem dX4_begin_103 : decode cX4_begin 103 = .ok (.getfield 34, 3) := by decide +kernel
theorem dX4_begin_106 : decode cX4_begin 106 = .ok (.iload_n 2, 1) := by decide +kernel
theorem dX4_begin_107 : decode cX4_begin 107 = .ok (.aload_n 0, 1) := by decide +kernel
theorem dX4_begin_108 : decode cX4_begin 108 = .ok (.getfield 55, 3) := by decide +kernel
theorem dX4_begin_111 : decode cX4_begin 111 = .ok (.getfield 78, 3) := by decide +kernel
theorem dX4_begin_114 : decode cX4_begin 114 = .ok (.iload_n 2, 1) := by decide +kernel
theorem dX4_begin_115 : decode cX4_begin 115 = .ok (.invokestatic 79, 3) := by decide +kernel
theorem dX4_begin_118 : decode cX4_begin 118 = .ok (.invokestatic 64, 3) := by decide +kernel
theorem dX4_begin_121 : decode cX4_begin 121 = .ok (.aload_n 0, 1) := by decide +kernel
theorem dX4_begin_122 : decode cX4_begin 122 = .ok (.iload_n 2, 1) := by decide +kernel
theorem dX4_begin_123 : decode cX4_begin 123 = .ok (.aload_n 0, 1) := by decide +kernel
theorem dX4_begin_124 : decode cX4_begin 124 = .ok (.getfield 55, 3) := by decide +kernel
theorem dX4_begin_127 : decode cX4_begin 127 = .ok (.getfield 83, 3) := by decide +kernel
theorem dX4_begin_130 : decode cX4_begin 130 = .ok (.iload_n 2, 1) := by decide +kernel
theorem dX4_begin_131 : decode cX4_begin 131 = .ok (.invokestatic 79, 3) := by decide +kernel
theorem dX4_begin_134 : decode cX4_begin 134 = .ok (.invokevirtual 84, 3) := by decide +kernel
theorem dX4_begin_137 : decode cX4_begin 137 = .ok (.iinc 2 1, 3) := by decide +kernel
theorem dX4_begin_140 : decode cX4_begin 140 = .ok (.goto (-49), 3) := by decide +kernel
theorem dX4_begin_143 : decode cX4_begin 143 = .ok (.return_, 1) := by decide +kernel
theorem mi_X4_copyFrom : MInfo yX4_copyFrom cX4_copyFrom 2 none 1 := ⟨wq_799, wq_83, by decide, ⟨by decide +kernel, by decide +kernel, by decide +kernel⟩, by decide +kernel⟩
theorem mi_X4_begin : MInfo yX4_begin cX4_begin 3 none 1 := ⟨wq_1150, wq_83, by decide, ⟨by decide +kernel, by decide +kernel, by decide +kernel⟩, by decide +kernel⟩
def wp_X4_copyFrom (q : Nat → Nat) (O : M2) (pr : Nat) (F : M2) (K : Nat → M2 → Prop) : Prop := (∀ F_13 : M2, F_13 = up2 F 1 (fun _ => O 1 0) → (∀ F_21 : M2, F_21 = up2 F_13 2 (fun _ => O 2 0) → (∀ F_29 : M2, F_29 = up2 F_21 3 (fun _ => O 3 0) → (∀ F_40 : M2, F_40 = up2 F_29 4 (O 4) → (∀ F_51 : M2, F_51 = up2 F_40 5 (O 5) → (∀ F_62 : M2, F_62 = up2 F_51 6 (O 6) → (∀ F_73 : M2, F_73 = up2 F_62 7 (O 7) → (∀ F_84 : M2, F_84 = up2 F_73 8 (O 8) → (∀ F_95 : M2, F_95 = up2 F_84 9 (O 9) → (∀ F_106 : M2, F_106 = up2 F_95 10 (O 10) → (∀ F_117 : M2, F_117 = up2 F_106 11 (O 11) → (∀ F_128 : M2, F_128 = up2 F_117 12 (O 12) → (∀ F_139 : M2, F_139 = up2 F_128 13 (O 13) → K ((q 20)) F_139)))))))))))))
set_option maxRecDepth 100000 in
set_option maxHeartbeats 4000000 in
theorem c_X4_copyFrom (l : Launch) (D : va_G) (Z : Nat → ClassId) (a b q : Nat → Nat) (O : M2) (pr : Nat) (F : M2) (sz : Nat) (K : Nat → M2 → Prop) (hm : wp_X4_copyFrom q O pr F K) : Met l yX4_copyFrom (wy yX4_copyFrom cX4_copyFrom 2 none) (rk 2 0 0) (pre vwCl D Z (TT Z a b q O pr F) sz [.ref (a 0), .ref (b 0)]) (poV vwCl D Z (fun u : Nat × M2 => TT Z a b q O u.1 u.2) (pr, F) sz (fun (u : Nat × M2) => K u.1 u.2)) 0 0 (va_A (TT Z a b q O pr F) sz) := by
  refine rwv_of (wsF := (fun u : Nat × M2 => TT Z a b q O u.1 u.2)) (u0 := (pr, F)) (by decide +kernel) (Nat.le_of_ble_eq_true rfl) rfl ?_
  intro p e s m args below meth c Q A hC hN hsz hnm hT hK hret ls hl
  have hx := hC.1
  have hb := hC.2.1
  have hl : lv_has ls 2 [(0, .ref (a 0)), (1, .ref (b 0))] := hl
  have hT : TS vwCl D (TT Z a b q O pr F) A s.heap s.heap [] := hT
  refine lv_aload_n hx hb dX4_copyFrom_0 rfl (lv_at hl 0 rfl) ?_
  refine lv_aload_n hx hb dX4_copyFrom_1 rfl (lv_at hl 1 rfl) ?_
  refine gTT_otun_0 hC hK hT.1 wq_425 dX4_copyFrom_2 ?_
  refine pfTT_tun_0 hC hK hT wq_425 dX4_copyFrom_5 (fun H locs hT => ?_)
  refine lv_aload_n hx hb dX4_copyFrom_8 rfl (lv_at hl 0 rfl) ?_
  refine lv_aload_n hx hb dX4_copyFrom_9 rfl (lv_at hl 1 rfl) ?_
  refine gTT_otun_1 hC hK hT.1 wq_427 dX4_copyFrom_10 ?_
  refine pTT_tun_1 hC hK hT wq_427 dX4_copyFrom_13 (fun F_13 eF_13 H locs hT => ?_)
  have hm := hm F_13 eF_13
  refine lv_aload_n hx hb dX4_copyFrom_16 rfl (lv_at hl 0 rfl) ?_
  refine lv_aload_n hx hb dX4_copyFrom_17 rfl (lv_at hl 1 rfl) ?_
  refine gTT_otun_2 hC hK hT.1 wq_429 dX4_copyFrom_18 ?_
  refine pTT_tun_2 hC hK hT wq_429 dX4_copyFrom_21 (fun F_21 eF_21 H locs hT => ?_)
  have hm := hm F_21 eF_21
  refine lv_aload_n hx hb dX4_copyFrom_24 rfl (lv_at hl 0 rfl) ?_
  refine lv_aload_n hx hb dX4_copyFrom_25 rfl (lv_at hl 1 rfl) ?_
  refine gTT_otun_3 hC hK hT.1 wq_431 dX4_copyFrom_26 ?_
  refine pTT_tun_3 hC hK hT wq_431 dX4_copyFrom_29 (fun F_29 eF_29 H locs hT => ?_)
  have hm := hm F_29 eF_29
  refine lv_aload_n hx hb dX4_copyFrom_32 rfl (lv_at hl 1 rfl) ?_
  refine gTT_otun_4 hC hK hT.1 wq_433 dX4_copyFrom_33 ?_
  refine lv_aload_n hx hb dX4_copyFrom_36 rfl (lv_at hl 0 rfl) ?_
  refine gTT_tun_4 hC hK hT.1 wq_433 dX4_copyFrom_37 ?_
  refine cpTT_oTair_Tair hC hN hK hT wn_800 (by decide) hl.1 (Nat.le_of_ble_eq_true rfl) ⟨Nat.le_refl _, Nat.le_refl _⟩ dX4_copyFrom_40 (fun F_40 eF_40 H locs hT => ?_)
  have hm := hm F_40 eF_40
  refine lv_aload_n hx hb dX4_copyFrom_43 rfl (lv_at hl 1 rfl) ?_
  refine gTT_otun_5 hC hK hT.1 wq_435 dX4_copyFrom_44 ?_
  refine lv_aload_n hx hb dX4_copyFrom_47 rfl (lv_at hl 0 rfl) ?_
  refine gTT_tun_5 hC hK hT.1 wq_435 dX4_copyFrom_48 ?_
  refine cpTT_oTbreath_Tbreath hC hN hK hT wn_800 (by decide) hl.1 (Nat.le_of_ble_eq_true rfl) ⟨Nat.le_refl _, Nat.le_refl _⟩ dX4_copyFrom_51 (fun F_51 eF_51 H locs hT => ?_)
  have hm := hm F_51 eF_51
  refine lv_aload_n hx hb dX4_copyFrom_54 rfl (lv_at hl 1 rfl) ?_
  refine gTT_otun_6 hC hK hT.1 wq_437 dX4_copyFrom_55 ?_
  refine lv_aload_n hx hb dX4_copyFrom_58 rfl (lv_at hl 0 rfl) ?_
  refine gTT_tun_6 hC hK hT.1 wq_437 dX4_copyFrom_59 ?_
  refine cpTT_oTwalk_Twalk hC hN hK hT wn_800 (by decide) hl.1 (Nat.le_of_ble_eq_true rfl) ⟨Nat.le_refl _, Nat.le_refl _⟩ dX4_copyFrom_62 (fun F_62 eF_62 H locs hT => ?_)
  have hm := hm F_62 eF_62
  refine lv_aload_n hx hb dX4_copyFrom_65 rfl (lv_at hl 1 rfl) ?_
  refine gTT_otun_7 hC hK hT.1 wq_439 dX4_copyFrom_66 ?_
  refine lv_aload_n hx hb dX4_copyFrom_69 rfl (lv_at hl 0 rfl) ?_
  refine gTT_tun_7 hC hK hT.1 wq_439 dX4_copyFrom_70 ?_
  refine cpTT_oTcapPlace_TcapPlace hC hN hK hT wn_800 (by decide) hl.1 (Nat.le_of_ble_eq_true rfl) ⟨Nat.le_refl _, Nat.le_refl _⟩ dX4_copyFrom_73 (fun F_73 eF_73 H locs hT => ?_)
  have hm := hm F_73 eF_73
  refine lv_aload_n hx hb dX4_copyFrom_76 rfl (lv_at hl 1 rfl) ?_
  refine gTT_otun_8 hC hK hT.1 wq_441 dX4_copyFrom_77 ?_
  refine lv_aload_n hx hb dX4_copyFrom_80 rfl (lv_at hl 0 rfl) ?_
  refine gTT_tun_8 hC hK hT.1 wq_441 dX4_copyFrom_81 ?_
  refine cpTT_oTside_Tside hC hN hK hT wn_800 (by decide) hl.1 (Nat.le_of_ble_eq_true rfl) ⟨Nat.le_refl _, Nat.le_refl _⟩ dX4_copyFrom_84 (fun F_84 eF_84 H locs hT => ?_)
  have hm := hm F_84 eF_84
  refine lv_aload_n hx hb dX4_copyFrom_87 rfl (lv_at hl 1 rfl) ?_
  refine gTT_otun_9 hC hK hT.1 wq_443 dX4_copyFrom_88 ?_
  refine lv_aload_n hx hb dX4_copyFrom_91 rfl (lv_at hl 0 rfl) ?_
  refine gTT_tun_9 hC hK hT.1 wq_443 dX4_copyFrom_92 ?_
  refine cpTT_oTdue_Tdue hC hN hK hT wn_800 (by decide) hl.1 (Nat.le_of_ble_eq_true rfl) ⟨Nat.le_refl _, Nat.le_refl _⟩ dX4_copyFrom_95 (fun F_95 eF_95 H locs hT => ?_)
  have hm := hm F_95 eF_95
  refine lv_aload_n hx hb dX4_copyFrom_98 rfl (lv_at hl 1 rfl) ?_
  refine gTT_otun_10 hC hK hT.1 wq_445 dX4_copyFrom_99 ?_
  refine lv_aload_n hx hb dX4_copyFrom_102 rfl (lv_at hl 0 rfl) ?_
  refine gTT_tun_10 hC hK hT.1 wq_445 dX4_copyFrom_103 ?_
  refine cpTT_oThow_Thow hC hN hK hT wn_800 (by decide) hl.1 (Nat.le_of_ble_eq_true rfl) ⟨Nat.le_refl _, Nat.le_refl _⟩ dX4_copyFrom_106 (fun F_106 eF_106 H locs hT => ?_)
  have hm := hm F_106 eF_106
  refine lv_aload_n hx hb dX4_copyFrom_109 rfl (lv_at hl 1 rfl) ?_
  refine gTT_otun_11 hC hK hT.1 wq_447 dX4_copyFrom_110 ?_
  refine lv_aload_n hx hb dX4_copyFrom_113 rfl (lv_at hl 0 rfl) ?_
  refine gTT_tun_11 hC hK hT.1 wq_447 dX4_copyFrom_114 ?_
  refine cpTT_oTspot_Tspot hC hN hK hT wn_800 (by decide) hl.1 (Nat.le_of_ble_eq_true rfl) ⟨Nat.le_refl _, Nat.le_refl _⟩ dX4_copyFrom_117 (fun F_117 eF_117 H locs hT => ?_)
  have hm := hm F_117 eF_117
  refine lv_aload_n hx hb dX4_copyFrom_120 rfl (lv_at hl 1 rfl) ?_
  refine gTT_otun_12 hC hK hT.1 wq_449 dX4_copyFrom_121 ?_
  refine lv_aload_n hx hb dX4_copyFrom_124 rfl (lv_at hl 0 rfl) ?_
  refine gTT_tun_12 hC hK hT.1 wq_449 dX4_copyFrom_125 ?_
  refine cpTT_oTpushed_Tpushed hC hN hK hT wn_800 (by decide) hl.1 (Nat.le_of_ble_eq_true rfl) ⟨Nat.le_refl _, Nat.le_refl _⟩ dX4_copyFrom_128 (fun F_128 eF_128 H locs hT => ?_)
  have hm := hm F_128 eF_128
  refine lv_aload_n hx hb dX4_copyFrom_131 rfl (lv_at hl 1 rfl) ?_
  refine gTT_otun_13 hC hK hT.1 wq_451 dX4_copyFrom_132 ?_
  refine lv_aload_n hx hb dX4_copyFrom_135 rfl (lv_at hl 0 rfl) ?_
  refine gTT_tun_13 hC hK hT.1 wq_451 dX4_copyFrom_136 ?_
  refine cpTT_oToutMinute_ToutMinute hC hN hK hT wn_800 (by decide) hl.1 (Nat.le_of_ble_eq_true rfl) ⟨Nat.le_refl _, Nat.le_refl _⟩ dX4_copyFrom_139 (fun F_139 eF_139 H locs hT => ?_)
  have hm := hm F_139 eF_139
  exact hret 142 _ _ _ ((q 20), F_139) hm hT dX4_copyFrom_142
section KX4_copyFrom
variable {p : Program} {l : Launch} {e : Env} {s : State} {m : MethodId} {args : Array Value} {below : List Frame} {meth : Method} {c : Code} {H H0 : Heap} {locs : List Loc} {cells slots : Nat} {Q : State → Prop} {R : Room} {rn mcR msR : Nat}
variable {pc : Nat} {ls : Array Slot} {rest : List Value} {A : Nat → Prop} {D : va_G}
variable {cc : ByteArray} {nL index : Nat} {own host : String}
end KX4_copyFrom
def wl_X4_begin_91 (q : Nat → Nat) (P : M2) (K : Nat → M2 → Prop) : Nat → M2 → Int32 → Prop
  | 0, _, _ => False
  | n + 1, F, v2 => (((P 24 0) ≤ v2 → K ((q 20)) F) ∧ (¬ (P 24 0) ≤ v2 → (∀ F_118 : M2, F_118 = up2 F 8 (putv (F 8) 8 v2 (atv (P 34) 8 v2)) → wp_X4_putToWait P F_118 v2 (atv (P 35) 8 v2) (fun F_134 => (∀ v2_137 : Int32, v2_137 = v2 + 1 → wl_X4_begin_91 q P K n F_134 v2_137)))))
def wl_X4_begin_41 (q : Nat → Nat) (P : M2) (K : Nat → M2 → Prop) : Nat → M2 → Int32 → Prop
  | 0, _, _ => False
  | n + 1, F, v2 => (((P 23 0) ≤ v2 → wl_X4_begin_91 q P K fK F 0) ∧ (¬ (P 23 0) ≤ v2 → wp_X4_mostBreath P F v2 (fun r_59 => (∀ F_62 : M2, F_62 = up2 F 5 (putv (F 5) 6 v2 r_59) → (∀ F_71 : M2, F_71 = up2 F_62 6 (putv (F_62 6) 6 v2 0) → (∀ F_80 : M2, F_80 = up2 F_71 7 (putv (F_71 7) 6 v2 ((-1))) → (∀ v2_83 : Int32, v2_83 = v2 + 1 → wl_X4_begin_41 q P K n F_80 v2_83)))))))
def wl_X4_begin_12 (q : Nat → Nat) (P : M2) (K : Nat → M2 → Prop) : Nat → M2 → Int32 → Prop
  | 0, _, _ => False
  | n + 1, F, v2 => (((P 21 0) ≤ v2 → wl_X4_begin_41 q P K fK F 0) ∧ (¬ (P 21 0) ≤ v2 → (∀ F_30 : M2, F_30 = up2 F 4 (putv (F 4) 60 v2 100) → (∀ v2_33 : Int32, v2_33 = v2 + 1 → wl_X4_begin_12 q P K n F_30 v2_33))))
def wp_X4_begin (q : Nat → Nat) (P : M2) (pr : Nat) (F : M2) (K : Nat → M2 → Prop) : Prop := (∀ F_7 : M2, F_7 = up2 F 2 (fun _ => 0) → wl_X4_begin_12 q P K fK F_7 0)
set_option maxRecDepth 100000 in
set_option maxHeartbeats 4000000 in
theorem c_X4_begin (l : Launch) (D : va_G) (Z : Nat → ClassId) (a q : Nat → Nat) (P : M2) (pr : Nat) (F : M2) (sz : Nat) (K : Nat → M2 → Prop) (hm : wp_X4_begin q P pr F K) : Met l yX4_begin (wy yX4_begin cX4_begin 3 none) (rk 2 0 0) (pre vwCl D Z (TB Z a q P pr F) sz [.ref (a 0), .ref (q 20)]) (poV vwCl D Z (fun u : Nat × M2 => TB Z a q P u.1 u.2) (pr, F) sz (fun (u : Nat × M2) => K u.1 u.2)) 0 0 (va_A (TB Z a q P pr F) sz) := by
  refine rwv_of (wsF := (fun u : Nat × M2 => TB Z a q P u.1 u.2)) (u0 := (pr, F)) (by decide +kernel) (Nat.le_of_ble_eq_true rfl) rfl ?_
  intro p e s m args below meth c Q A hC hN hsz hnm hT hK hret ls hl
  have hx := hC.1
  have hb := hC.2.1
  have hl : lv_has ls 3 [(0, .ref (a 0)), (1, .ref (q 20))] := hl
  have hT : TS vwCl D (TB Z a q P pr F) A s.heap s.heap [] := hT
  have L91 : ∀ (n91 : Nat), ∀ (F : M2) (v2 : Int32) (H : Heap) (locs : List Loc) (ls : Array Slot), wl_X4_begin_91 q P K n91 F v2 → TS vwCl D (TB Z a q P (q 20) F) A s.heap H locs → lv_has ls 3 [(0, .ref (a 0)), (2, .int v2)] → W p l e (rk 2 0 0) s m args below meth c H locs 0 0 Q (F0 m 91 ls []) := by
    intro n91
    induction n91 with
    | zero =>
      intro F v2 H locs ls hm hT hl
      exact False.elim hm
    | succ n91 ih91 =>
      intro F v2 H locs ls hm hT hl
      refine lv_iload_n hx hb dX4_begin_91 rfl (lv_at hl 1 rfl) ?_
      refine lv_aload_n hx hb dX4_begin_92 rfl (lv_at hl 0 rfl) ?_
      refine gTB_tun_0 hC hK hT.1 wq_425 dX4_begin_93 ?_
      refine gTB_plan_4 hC hK hT.1 wq_304 dX4_begin_96 ?_
      refine lv_icmp_ge (tgt := 143) hx hb dX4_begin_99 (by decide) (fun c_99 => ?_) (fun c_99 => ?_)
      · have hm := hm.1 c_99
        exact hret 143 _ _ _ ((q 20), F) hm hT dX4_begin_143
      · have hm := hm.2 c_99
        refine lv_aload_n hx hb dX4_begin_102 rfl (lv_at hl 0 rfl) ?_
        refine gTB_tun_8 hC hK hT.1 wq_441 dX4_begin_103 ?_
        refine lv_iload_n hx hb dX4_begin_106 rfl (lv_at hl 1 rfl) ?_
        refine lv_aload_n hx hb dX4_begin_107 rfl (lv_at hl 0 rfl) ?_
        refine gTB_tun_0 hC hK hT.1 wq_425 dX4_begin_108 ?_
        refine gTB_plan_14 hC hK hT.1 wq_333 dX4_begin_111 ?_
        refine lv_iload_n hx hb dX4_begin_114 rfl (lv_at hl 1 rfl) ?_
        refine w_at (q0 := 22) hC hN hK hT.1 wn_519 rfl (by decide) (by decide) hl.1 (Nat.le_of_ble_eq_true rfl) ⟨Nat.le_refl _, Nat.le_refl _⟩ dX4_begin_115 ?_
        refine uTB_Tside hC hN hK hT wn_684 (by decide) hl.1 (Nat.le_of_ble_eq_true rfl) ⟨Nat.le_refl _, Nat.le_refl _⟩ dX4_begin_118 (fun F_118 eF_118 H locs hT => ?_)
        have hm := hm F_118 eF_118
        refine lv_aload_n hx hb dX4_begin_121 rfl (lv_at hl 0 rfl) ?_
        refine lv_iload_n hx hb dX4_begin_122 rfl (lv_at hl 1 rfl) ?_
        refine lv_aload_n hx hb dX4_begin_123 rfl (lv_at hl 0 rfl) ?_
        refine gTB_tun_0 hC hK hT.1 wq_425 dX4_begin_124 ?_
        refine gTB_plan_15 hC hK hT.1 wq_335 dX4_begin_127 ?_
        refine lv_iload_n hx hb dX4_begin_130 rfl (lv_at hl 1 rfl) ?_
        refine w_at (q0 := 23) hC hN hK hT.1 wn_519 rfl (by decide) (by decide) hl.1 (Nat.le_of_ble_eq_true rfl) ⟨Nat.le_refl _, Nat.le_refl _⟩ dX4_begin_131 ?_
        refine kx_X4_putToWait hC hN hK hT (cx_TWTB Z a q P F_118) rfl hm wq_1151 (by decide) hl.1 (Nat.le_of_ble_eq_true rfl) ⟨Nat.le_refl _, Nat.le_refl _⟩ dX4_begin_134 (fun F_134 H locs hm hT => ?_)
        have hT : TS vwCl D (TB Z a q P (q 20) F_134) A s.heap H locs := hT
        obtain ⟨v2_137, ev2_137⟩ : ∃ y : Int32, y = v2 + 1 := ⟨_, rfl⟩
        have hm := hm v2_137 ev2_137
        refine lv_iinc (v := v2_137) (lv' := [(2, .int v2_137), (0, .ref (a 0))]) hx hb dX4_begin_137 hl (k := 1) rfl (by rw [ev2_137]; rfl) (by decide) rfl (fun ls hl => ?_)
        refine lv_goto (tgt := 91) hx hb dX4_begin_140 (by decide) ?_
        exact ih91 _ _ _ _ _ hm hT (lv_sub hl [1, 0] rfl)
  have L41 : ∀ (n41 : Nat), ∀ (F : M2) (v2 : Int32) (H : Heap) (locs : List Loc) (ls : Array Slot), wl_X4_begin_41 q P K n41 F v2 → TS vwCl D (TB Z a q P (q 20) F) A s.heap H locs → lv_has ls 3 [(0, .ref (a 0)), (2, .int v2)] → W p l e (rk 2 0 0) s m args below meth c H locs 0 0 Q (F0 m 41 ls []) := by
    intro n41
    induction n41 with
    | zero =>
      intro F v2 H locs ls hm hT hl
      exact False.elim hm
    | succ n41 ih41 =>
      intro F v2 H locs ls hm hT hl
      refine lv_iload_n hx hb dX4_begin_41 rfl (lv_at hl 1 rfl) ?_
      refine lv_aload_n hx hb dX4_begin_42 rfl (lv_at hl 0 rfl) ?_
      refine gTB_tun_0 hC hK hT.1 wq_425 dX4_begin_43 ?_
      refine gTB_plan_3 hC hK hT.1 wq_300 dX4_begin_46 ?_
      refine lv_icmp_ge (tgt := 89) hx hb dX4_begin_49 (by decide) (fun c_49 => ?_) (fun c_49 => ?_)
      · have hm := hm.1 c_49
        refine lv_iconst (v := 0) hx hb dX4_begin_89 (by decide) ?_
        refine lv_istore_n (lv' := [(2, .int 0), (0, .ref (a 0))]) hx hb dX4_begin_90 rfl hl (by decide) rfl (fun ls hl => ?_)
        exact L91 _ _ _ _ _ _ hm hT (lv_sub hl [1, 0] rfl)
      · have hm := hm.2 c_49
        refine lv_aload_n hx hb dX4_begin_52 rfl (lv_at hl 0 rfl) ?_
        refine gTB_tun_5 hC hK hT.1 wq_435 dX4_begin_53 ?_
        refine lv_iload_n hx hb dX4_begin_56 rfl (lv_at hl 1 rfl) ?_
        refine lv_aload_n hx hb dX4_begin_57 rfl (lv_at hl 0 rfl) ?_
        refine lv_iload_n hx hb dX4_begin_58 rfl (lv_at hl 1 rfl) ?_
        refine kx_X4_mostBreath hC hN hK hT.1 hT.D' (sx_TWTB Z a q P F) rfl hm wq_773 (by decide) hl.1 (Nat.le_of_ble_eq_true rfl) ⟨Nat.le_refl _, Nat.le_refl _⟩ dX4_begin_59 (fun r_59 hm => ?_)
        refine uTB_Tbreath hC hN hK hT wn_684 (by decide) hl.1 (Nat.le_of_ble_eq_true rfl) ⟨Nat.le_refl _, Nat.le_refl _⟩ dX4_begin_62 (fun F_62 eF_62 H locs hT => ?_)
        have hm := hm F_62 eF_62
        refine lv_aload_n hx hb dX4_begin_65 rfl (lv_at hl 0 rfl) ?_
        refine gTB_tun_6 hC hK hT.1 wq_437 dX4_begin_66 ?_
        refine lv_iload_n hx hb dX4_begin_69 rfl (lv_at hl 1 rfl) ?_
        refine lv_iconst (v := 0) hx hb dX4_begin_70 (by decide) ?_
        refine uTB_Twalk hC hN hK hT wn_684 (by decide) hl.1 (Nat.le_of_ble_eq_true rfl) ⟨Nat.le_refl _, Nat.le_refl _⟩ dX4_begin_71 (fun F_71 eF_71 H locs hT => ?_)
        have hm := hm F_71 eF_71
        refine lv_aload_n hx hb dX4_begin_74 rfl (lv_at hl 0 rfl) ?_
        refine gTB_tun_7 hC hK hT.1 wq_439 dX4_begin_75 ?_
        refine lv_iload_n hx hb dX4_begin_78 rfl (lv_at hl 1 rfl) ?_
        refine lv_iconst (v := (-1)) hx hb dX4_begin_79 (by decide) ?_
        refine uTB_TcapPlace hC hN hK hT wn_684 (by decide) hl.1 (Nat.le_of_ble_eq_true rfl) ⟨Nat.le_refl _, Nat.le_refl _⟩ dX4_begin_80 (fun F_80 eF_80 H locs hT => ?_)
        have hm := hm F_80 eF_80
        obtain ⟨v2_83, ev2_83⟩ : ∃ y : Int32, y = v2 + 1 := ⟨_, rfl⟩
        have hm := hm v2_83 ev2_83
        refine lv_iinc (v := v2_83) (lv' := [(2, .int v2_83), (0, .ref (a 0))]) hx hb dX4_begin_83 hl (k := 1) rfl (by rw [ev2_83]; rfl) (by decide) rfl (fun ls hl => ?_)
        refine lv_goto (tgt := 41) hx hb dX4_begin_86 (by decide) ?_
        exact ih41 _ _ _ _ _ hm hT (lv_sub hl [1, 0] rfl)
  have L12 : ∀ (n12 : Nat), ∀ (F : M2) (v2 : Int32) (H : Heap) (locs : List Loc) (ls : Array Slot), wl_X4_begin_12 q P K n12 F v2 → TS vwCl D (TB Z a q P (q 20) F) A s.heap H locs → lv_has ls 3 [(0, .ref (a 0)), (2, .int v2)] → W p l e (rk 2 0 0) s m args below meth c H locs 0 0 Q (F0 m 12 ls []) := by
    intro n12
    induction n12 with
    | zero =>
      intro F v2 H locs ls hm hT hl
      exact False.elim hm
    | succ n12 ih12 =>
      intro F v2 H locs ls hm hT hl
      refine lv_iload_n hx hb dX4_begin_12 rfl (lv_at hl 1 rfl) ?_
      refine lv_aload_n hx hb dX4_begin_13 rfl (lv_at hl 0 rfl) ?_
      refine gTB_tun_0 hC hK hT.1 wq_425 dX4_begin_14 ?_
      refine gTB_plan_1 hC hK hT.1 wq_292 dX4_begin_17 ?_
      refine lv_icmp_ge (tgt := 39) hx hb dX4_begin_20 (by decide) (fun c_20 => ?_) (fun c_20 => ?_)
      · have hm := hm.1 c_20
        refine lv_iconst (v := 0) hx hb dX4_begin_39 (by decide) ?_
        refine lv_istore_n (lv' := [(2, .int 0), (0, .ref (a 0))]) hx hb dX4_begin_40 rfl hl (by decide) rfl (fun ls hl => ?_)
        exact L41 _ _ _ _ _ _ hm hT (lv_sub hl [1, 0] rfl)
      · have hm := hm.2 c_20
        refine lv_aload_n hx hb dX4_begin_23 rfl (lv_at hl 0 rfl) ?_
        refine gTB_tun_4 hC hK hT.1 wq_433 dX4_begin_24 ?_
        refine lv_iload_n hx hb dX4_begin_27 rfl (lv_at hl 1 rfl) ?_
        refine lv_bipush (v := 100) hx hb dX4_begin_28 (by decide) ?_
        refine uTB_Tair hC hN hK hT wn_684 (by decide) hl.1 (Nat.le_of_ble_eq_true rfl) ⟨Nat.le_refl _, Nat.le_refl _⟩ dX4_begin_30 (fun F_30 eF_30 H locs hT => ?_)
        have hm := hm F_30 eF_30
        obtain ⟨v2_33, ev2_33⟩ : ∃ y : Int32, y = v2 + 1 := ⟨_, rfl⟩
        have hm := hm v2_33 ev2_33
        refine lv_iinc (v := v2_33) (lv' := [(2, .int v2_33), (0, .ref (a 0))]) hx hb dX4_begin_33 hl (k := 1) rfl (by rw [ev2_33]; rfl) (by decide) rfl (fun ls hl => ?_)
        refine lv_goto (tgt := 12) hx hb dX4_begin_36 (by decide) ?_
        exact ih12 _ _ _ _ _ hm hT (lv_sub hl [1, 0] rfl)
  refine lv_aload_n hx hb dX4_begin_0 rfl (lv_at hl 0 rfl) ?_
  refine lv_aload_n hx hb dX4_begin_1 rfl (lv_at hl 1 rfl) ?_
  refine pfTB_tun_0 hC hK hT wq_425 dX4_begin_2 (fun H locs hT => ?_)
  refine lv_aload_n hx hb dX4_begin_5 rfl (lv_at hl 0 rfl) ?_
  refine lv_iconst (v := 0) hx hb dX4_begin_6 (by decide) ?_
  refine pTB_tun_2 hC hK hT wq_429 dX4_begin_7 (fun F_7 eF_7 H locs hT => ?_)
  have hm := hm F_7 eF_7
  refine lv_iconst (v := 0) hx hb dX4_begin_10 (by decide) ?_
  refine lv_istore_n (lv' := [(2, .int 0), (0, .ref (a 0)), (1, .ref (q 20))]) hx hb dX4_begin_11 rfl hl (by decide) rfl (fun ls hl => ?_)
  exact L12 _ _ _ _ _ _ hm hT (lv_sub hl [1, 0] rfl)
section KX4_begin
variable {p : Program} {l : Launch} {e : Env} {s : State} {m : MethodId} {args : Array Value} {below : List Frame} {meth : Method} {c : Code} {H H0 : Heap} {locs : List Loc} {cells slots : Nat} {Q : State → Prop} {R : Room} {rn mcR msR : Nat}
variable {pc : Nat} {ls : Array Slot} {rest : List Value} {A : Nat → Prop} {D : va_G}
variable {cc : ByteArray} {nL index : Nat} {own host : String}
end KX4_begin
