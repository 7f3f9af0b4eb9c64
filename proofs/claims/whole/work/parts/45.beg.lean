theorem wq_1925 : Cond.methodLink RX7 65 yX7_copy ∈ lw_g := lw_g_mk (tb_8 (List.mem_of_getElem? (i := 121) rfl)) rfl
theorem wn_1265 : Cond.fieldLinkNest RX7 81 RX6 "end" "[I" RX8 ∈ lw_n := lw_n_mk (tb_5 (List.mem_of_getElem? (i := 181) rfl)) rfl
theorem wn_1268 : Cond.fieldLinkNest RX7 82 RX6 "due" "[I" RX8 ∈ lw_n := lw_n_mk (tb_5 (List.mem_of_getElem? (i := 184) rfl)) rfl
theorem wn_1191 : Cond.methodLinkNest RX4 88 yX5_copy RX5 ∈ lw_n := lw_n_mk (tb_5 (List.mem_of_getElem? (i := 107) rfl)) rfl
theorem wq_390 : Cond.fieldLink RX4 78 RX1 "side" "[I" ∈ lw_g := lw_g_mk (tb_2 (List.mem_of_getElem? (i := 26) rfl)) rfl
theorem wq_392 : Cond.fieldLink RX4 83 RX1 "due" "[I" ∈ lw_g := lw_g_mk (tb_2 (List.mem_of_getElem? (i := 28) rfl)) rfl
theorem wq_1924 : Cond.code yX7_become cX7_become 2 (some (.object "TunnelLeggersModel$State")) ∈ lw_g := lw_g_mk (tb_8 (List.mem_of_getElem? (i := 120) rfl)) rfl
theorem wq_1418 : Cond.code yX7_begin cX7_begin 2 none ∈ lw_g := lw_g_mk (tb_6 (List.mem_of_getElem? (i := 94) rfl)) rfl
theorem wq_1190 : Cond.code yX4_copyFrom cX4_copyFrom 2 none ∈ lw_g := lw_g_mk (tb_5 (List.mem_of_getElem? (i := 106) rfl)) rfl
theorem wq_777 : Cond.code yX4_begin cX4_begin 3 none ∈ lw_g := lw_g_mk (tb_3 (List.mem_of_getElem? (i := 173) rfl)) rfl
def SS (Z : Nat → ClassId) (a b g : Nat → Nat) (O : M2) (S : M2) : va_W := [(a 200, .inr (7, [.int (S 200 0), .int (S 201 0), .ref (a 202), .ref (a 203), .ref (a 204), .ref (a 205), .ref (a 206), .ref (a 207), .ref (a 208), .ref (a 209), .ref (a 210), .ref (a 211), .int (S 212 0), .ref (a 213), .ref (g 220)])), (a 202, .inl (Z 0, 60, .inl (S 202))), (a 203, .inl (Z 0, 6, .inl (S 203))), (a 204, .inl (Z 0, 6, .inl (S 204))), (a 205, .inl (Z 0, 6, .inl (S 205))), (a 206, .inl (Z 0, 8, .inl (S 206))), (a 207, .inl (Z 0, 8, .inl (S 207))), (a 208, .inl (Z 0, 8, .inl (S 208))), (a 209, .inl (Z 0, 8, .inl (S 209))), (a 210, .inl (Z 0, 8, .inl (S 210))), (a 211, .inl (Z 0, 8, .inl (S 211))), (a 213, .inl (Z 0, 400, .inl (S 213))), (b 200, .inr (7, [.int (O 200 0), .int (O 201 0), .ref (b 202), .ref (b 203), .ref (b 204), .ref (b 205), .ref (b 206), .ref (b 207), .ref (b 208), .ref (b 209), .ref (b 210), .ref (b 211), .int (O 212 0), .ref (b 213), .ref (g 220)])), (b 202, .inl (Z 0, 60, .inl (O 202))), (b 203, .inl (Z 0, 6, .inl (O 203))), (b 204, .inl (Z 0, 6, .inl (O 204))), (b 205, .inl (Z 0, 6, .inl (O 205))), (b 206, .inl (Z 0, 8, .inl (O 206))), (b 207, .inl (Z 0, 8, .inl (O 207))), (b 208, .inl (Z 0, 8, .inl (O 208))), (b 209, .inl (Z 0, 8, .inl (O 209))), (b 210, .inl (Z 0, 8, .inl (O 210))), (b 211, .inl (Z 0, 8, .inl (O 211))), (b 213, .inl (Z 0, 400, .inl (O 213)))]
abbrev cutSS : List Nat := [0, 1, 2, 3, 4, 5, 6, 7, 8, 9, 10, 11, 12, 13, 14, 15, 16, 17, 18, 19, 20, 21, 22, 23]
set_option maxRecDepth 100000 in
theorem cutOkSS (Z : Nat → ClassId) (a b g : Nat → Nat) (O : M2) (S : M2) : Cut (SS Z a b g O S) (SS Z a b g O) S [] cutSS [] cutSS (SS Z a b g O) := ⟨rfl, rfl, rfl, fun i h => absurd h List.not_mem_nil, by decide, fun _ => rfl⟩
section ROWSSS
variable {p : Program} {l : Launch} {e : Env} {s : State} {m : MethodId} {args : Array Value} {below : List Frame} {meth : Method} {c : Code} {H H0 : Heap} {locs : List Loc} {cells slots : Nat} {Q : State → Prop} {R : Room} {rn mcR msR : Nat}
variable {pc : Nat} {ls : Array Slot} {rest : List Value} {A : Nat → Prop} {D : va_G}
variable {cc : ByteArray} {nL index : Nat} {own host : String}
theorem gSS_ost_0 {Z : Nat → ClassId} {a b g : Nat → Nat} {O : M2} {S : M2} (hC : CallFix p m c cc nL s args lw_g own) (hK : va_K D vwCl (tysG Z) s) (hP : va_P D vwCl (SS Z a b g O S) H) (hl : Cond.fieldLink own index RX7 "minute" "I" ∈ lw_g) (hdg : decode cc pc = .ok (.getfield index, 3)) (kk : W p l e R s m args below meth c H locs cells slots Q (F0 m (pc + 3) ls (.int (O 200 0) :: rest))) : W p l e R s m args below meth c H locs cells slots Q (F0 m pc ls (.ref (b 200) :: rest)) :=
  w_get (C := RX7) (T := TX7) (N := 15) (ci := 7) (q0 := 12) (k := 0) hC hK hP fi_X7 rfl rfl rfl (by decide) rfl hl hdg kk
theorem gSS_ost_1 {Z : Nat → ClassId} {a b g : Nat → Nat} {O : M2} {S : M2} (hC : CallFix p m c cc nL s args lw_g own) (hK : va_K D vwCl (tysG Z) s) (hP : va_P D vwCl (SS Z a b g O S) H) (hl : Cond.fieldLink own index RX7 "turn" "I" ∈ lw_g) (hdg : decode cc pc = .ok (.getfield index, 3)) (kk : W p l e R s m args below meth c H locs cells slots Q (F0 m (pc + 3) ls (.int (O 201 0) :: rest))) : W p l e R s m args below meth c H locs cells slots Q (F0 m pc ls (.ref (b 200) :: rest)) :=
  w_get (C := RX7) (T := TX7) (N := 15) (ci := 7) (q0 := 12) (k := 1) hC hK hP fi_X7 rfl rfl rfl (by decide) rfl hl hdg kk
theorem gSS_ost_2 {Z : Nat → ClassId} {a b g : Nat → Nat} {O : M2} {S : M2} (hC : CallFix p m c cc nL s args lw_g own) (hK : va_K D vwCl (tysG Z) s) (hP : va_P D vwCl (SS Z a b g O S) H) (hl : Cond.fieldLink own index RX7 "air" "[I" ∈ lw_g) (hdg : decode cc pc = .ok (.getfield index, 3)) (kk : W p l e R s m args below meth c H locs cells slots Q (F0 m (pc + 3) ls (.ref (b 202) :: rest))) : W p l e R s m args below meth c H locs cells slots Q (F0 m pc ls (.ref (b 200) :: rest)) :=
  w_get (C := RX7) (T := TX7) (N := 15) (ci := 7) (q0 := 12) (k := 2) hC hK hP fi_X7 rfl rfl rfl (by decide) rfl hl hdg kk
theorem gSS_ost_3 {Z : Nat → ClassId} {a b g : Nat → Nat} {O : M2} {S : M2} (hC : CallFix p m c cc nL s args lw_g own) (hK : va_K D vwCl (tysG Z) s) (hP : va_P D vwCl (SS Z a b g O S) H) (hl : Cond.fieldLink own index RX7 "breath" "[I" ∈ lw_g) (hdg : decode cc pc = .ok (.getfield index, 3)) (kk : W p l e R s m args below meth c H locs cells slots Q (F0 m (pc + 3) ls (.ref (b 203) :: rest))) : W p l e R s m args below meth c H locs cells slots Q (F0 m pc ls (.ref (b 200) :: rest)) :=
  w_get (C := RX7) (T := TX7) (N := 15) (ci := 7) (q0 := 12) (k := 3) hC hK hP fi_X7 rfl rfl rfl (by decide) rfl hl hdg kk
theorem gSS_ost_4 {Z : Nat → ClassId} {a b g : Nat → Nat} {O : M2} {S : M2} (hC : CallFix p m c cc nL s args lw_g own) (hK : va_K D vwCl (tysG Z) s) (hP : va_P D vwCl (SS Z a b g O S) H) (hl : Cond.fieldLink own index RX7 "capAt" "[I" ∈ lw_g) (hdg : decode cc pc = .ok (.getfield index, 3)) (kk : W p l e R s m args below meth c H locs cells slots Q (F0 m (pc + 3) ls (.ref (b 204) :: rest))) : W p l e R s m args below meth c H locs cells slots Q (F0 m pc ls (.ref (b 200) :: rest)) :=
  w_get (C := RX7) (T := TX7) (N := 15) (ci := 7) (q0 := 12) (k := 4) hC hK hP fi_X7 rfl rfl rfl (by decide) rfl hl hdg kk
theorem gSS_ost_5 {Z : Nat → ClassId} {a b g : Nat → Nat} {O : M2} {S : M2} (hC : CallFix p m c cc nL s args lw_g own) (hK : va_K D vwCl (tysG Z) s) (hP : va_P D vwCl (SS Z a b g O S) H) (hl : Cond.fieldLink own index RX7 "walks" "[I" ∈ lw_g) (hdg : decode cc pc = .ok (.getfield index, 3)) (kk : W p l e R s m args below meth c H locs cells slots Q (F0 m (pc + 3) ls (.ref (b 205) :: rest))) : W p l e R s m args below meth c H locs cells slots Q (F0 m pc ls (.ref (b 200) :: rest)) :=
  w_get (C := RX7) (T := TX7) (N := 15) (ci := 7) (q0 := 12) (k := 5) hC hK hP fi_X7 rfl rfl rfl (by decide) rfl hl hdg kk
theorem gSS_ost_6 {Z : Nat → ClassId} {a b g : Nat → Nat} {O : M2} {S : M2} (hC : CallFix p m c cc nL s args lw_g own) (hK : va_K D vwCl (tysG Z) s) (hP : va_P D vwCl (SS Z a b g O S) H) (hl : Cond.fieldLink own index RX7 "is" "[I" ∈ lw_g) (hdg : decode cc pc = .ok (.getfield index, 3)) (kk : W p l e R s m args below meth c H locs cells slots Q (F0 m (pc + 3) ls (.ref (b 206) :: rest))) : W p l e R s m args below meth c H locs cells slots Q (F0 m pc ls (.ref (b 200) :: rest)) :=
  w_get (C := RX7) (T := TX7) (N := 15) (ci := 7) (q0 := 12) (k := 6) hC hK hP fi_X7 rfl rfl rfl (by decide) rfl hl hdg kk
theorem gSS_ost_7 {Z : Nat → ClassId} {a b g : Nat → Nat} {O : M2} {S : M2} (hC : CallFix p m c cc nL s args lw_g own) (hK : va_K D vwCl (tysG Z) s) (hP : va_P D vwCl (SS Z a b g O S) H) (hl : Cond.fieldLink own index RX7 "end" "[I" ∈ lw_g) (hdg : decode cc pc = .ok (.getfield index, 3)) (kk : W p l e R s m args below meth c H locs cells slots Q (F0 m (pc + 3) ls (.ref (b 207) :: rest))) : W p l e R s m args below meth c H locs cells slots Q (F0 m pc ls (.ref (b 200) :: rest)) :=
  w_get (C := RX7) (T := TX7) (N := 15) (ci := 7) (q0 := 12) (k := 7) hC hK hP fi_X7 rfl rfl rfl (by decide) rfl hl hdg kk
theorem gSS_ost_8 {Z : Nat → ClassId} {a b g : Nat → Nat} {O : M2} {S : M2} (hC : CallFix p m c cc nL s args lw_g own) (hK : va_K D vwCl (tysG Z) s) (hP : va_P D vwCl (SS Z a b g O S) H) (hl : Cond.fieldLink own index RX7 "due" "[I" ∈ lw_g) (hdg : decode cc pc = .ok (.getfield index, 3)) (kk : W p l e R s m args below meth c H locs cells slots Q (F0 m (pc + 3) ls (.ref (b 208) :: rest))) : W p l e R s m args below meth c H locs cells slots Q (F0 m pc ls (.ref (b 200) :: rest)) :=
  w_get (C := RX7) (T := TX7) (N := 15) (ci := 7) (q0 := 12) (k := 8) hC hK hP fi_X7 rfl rfl rfl (by decide) rfl hl hdg kk
theorem gSS_ost_9 {Z : Nat → ClassId} {a b g : Nat → Nat} {O : M2} {S : M2} (hC : CallFix p m c cc nL s args lw_g own) (hK : va_K D vwCl (tysG Z) s) (hP : va_P D vwCl (SS Z a b g O S) H) (hl : Cond.fieldLink own index RX7 "at" "[I" ∈ lw_g) (hdg : decode cc pc = .ok (.getfield index, 3)) (kk : W p l e R s m args below meth c H locs cells slots Q (F0 m (pc + 3) ls (.ref (b 209) :: rest))) : W p l e R s m args below meth c H locs cells slots Q (F0 m pc ls (.ref (b 200) :: rest)) :=
  w_get (C := RX7) (T := TX7) (N := 15) (ci := 7) (q0 := 12) (k := 9) hC hK hP fi_X7 rfl rfl rfl (by decide) rfl hl hdg kk
theorem gSS_ost_10 {Z : Nat → ClassId} {a b g : Nat → Nat} {O : M2} {S : M2} (hC : CallFix p m c cc nL s args lw_g own) (hK : va_K D vwCl (tysG Z) s) (hP : va_P D vwCl (SS Z a b g O S) H) (hl : Cond.fieldLink own index RX7 "pushed" "[I" ∈ lw_g) (hdg : decode cc pc = .ok (.getfield index, 3)) (kk : W p l e R s m args below meth c H locs cells slots Q (F0 m (pc + 3) ls (.ref (b 210) :: rest))) : W p l e R s m args below meth c H locs cells slots Q (F0 m pc ls (.ref (b 200) :: rest)) :=
  w_get (C := RX7) (T := TX7) (N := 15) (ci := 7) (q0 := 12) (k := 10) hC hK hP fi_X7 rfl rfl rfl (by decide) rfl hl hdg kk
theorem gSS_ost_11 {Z : Nat → ClassId} {a b g : Nat → Nat} {O : M2} {S : M2} (hC : CallFix p m c cc nL s args lw_g own) (hK : va_K D vwCl (tysG Z) s) (hP : va_P D vwCl (SS Z a b g O S) H) (hl : Cond.fieldLink own index RX7 "out" "[I" ∈ lw_g) (hdg : decode cc pc = .ok (.getfield index, 3)) (kk : W p l e R s m args below meth c H locs cells slots Q (F0 m (pc + 3) ls (.ref (b 211) :: rest))) : W p l e R s m args below meth c H locs cells slots Q (F0 m pc ls (.ref (b 200) :: rest)) :=
  w_get (C := RX7) (T := TX7) (N := 15) (ci := 7) (q0 := 12) (k := 11) hC hK hP fi_X7 rfl rfl rfl (by decide) rfl hl hdg kk
theorem gSS_st_2 {Z : Nat → ClassId} {a b g : Nat → Nat} {O : M2} {S : M2} (hC : CallFix p m c cc nL s args lw_g own) (hK : va_K D vwCl (tysG Z) s) (hP : va_P D vwCl (SS Z a b g O S) H) (hl : Cond.fieldLink own index RX7 "air" "[I" ∈ lw_g) (hdg : decode cc pc = .ok (.getfield index, 3)) (kk : W p l e R s m args below meth c H locs cells slots Q (F0 m (pc + 3) ls (.ref (a 202) :: rest))) : W p l e R s m args below meth c H locs cells slots Q (F0 m pc ls (.ref (a 200) :: rest)) :=
  w_get (C := RX7) (T := TX7) (N := 15) (ci := 7) (q0 := 0) (k := 2) hC hK hP fi_X7 rfl rfl rfl (by decide) rfl hl hdg kk
theorem gSS_st_3 {Z : Nat → ClassId} {a b g : Nat → Nat} {O : M2} {S : M2} (hC : CallFix p m c cc nL s args lw_g own) (hK : va_K D vwCl (tysG Z) s) (hP : va_P D vwCl (SS Z a b g O S) H) (hl : Cond.fieldLink own index RX7 "breath" "[I" ∈ lw_g) (hdg : decode cc pc = .ok (.getfield index, 3)) (kk : W p l e R s m args below meth c H locs cells slots Q (F0 m (pc + 3) ls (.ref (a 203) :: rest))) : W p l e R s m args below meth c H locs cells slots Q (F0 m pc ls (.ref (a 200) :: rest)) :=
  w_get (C := RX7) (T := TX7) (N := 15) (ci := 7) (q0 := 0) (k := 3) hC hK hP fi_X7 rfl rfl rfl (by decide) rfl hl hdg kk
theorem gSS_st_4 {Z : Nat → ClassId} {a b g : Nat → Nat} {O : M2} {S : M2} (hC : CallFix p m c cc nL s args lw_g own) (hK : va_K D vwCl (tysG Z) s) (hP : va_P D vwCl (SS Z a b g O S) H) (hl : Cond.fieldLink own index RX7 "capAt" "[I" ∈ lw_g) (hdg : decode cc pc = .ok (.getfield index, 3)) (kk : W p l e R s m args below meth c H locs cells slots Q (F0 m (pc + 3) ls (.ref (a 204) :: rest))) : W p l e R s m args below meth c H locs cells slots Q (F0 m pc ls (.ref (a 200) :: rest)) :=
  w_get (C := RX7) (T := TX7) (N := 15) (ci := 7) (q0 := 0) (k := 4) hC hK hP fi_X7 rfl rfl rfl (by decide) rfl hl hdg kk
theorem gSS_st_5 {Z : Nat → ClassId} {a b g : Nat → Nat} {O : M2} {S : M2} (hC : CallFix p m c cc nL s args lw_g own) (hK : va_K D vwCl (tysG Z) s) (hP : va_P D vwCl (SS Z a b g O S) H) (hl : Cond.fieldLink own index RX7 "walks" "[I" ∈ lw_g) (hdg : decode cc pc = .ok (.getfield index, 3)) (kk : W p l e R s m args below meth c H locs cells slots Q (F0 m (pc + 3) ls (.ref (a 205) :: rest))) : W p l e R s m args below meth c H locs cells slots Q (F0 m pc ls (.ref (a 200) :: rest)) :=
  w_get (C := RX7) (T := TX7) (N := 15) (ci := 7) (q0 := 0) (k := 5) hC hK hP fi_X7 rfl rfl rfl (by decide) rfl hl hdg kk
theorem gSS_st_6 {Z : Nat → ClassId} {a b g : Nat → Nat} {O : M2} {S : M2} (hC : CallFix p m c cc nL s args lw_g own) (hK : va_K D vwCl (tysG Z) s) (hP : va_P D vwCl (SS Z a b g O S) H) (hl : Cond.fieldLink own index RX7 "is" "[I" ∈ lw_g) (hdg : decode cc pc = .ok (.getfield index, 3)) (kk : W p l e R s m args below meth c H locs cells slots Q (F0 m (pc + 3) ls (.ref (a 206) :: rest))) : W p l e R s m args below meth c H locs cells slots Q (F0 m pc ls (.ref (a 200) :: rest)) :=
  w_get (C := RX7) (T := TX7) (N := 15) (ci := 7) (q0 := 0) (k := 6) hC hK hP fi_X7 rfl rfl rfl (by decide) rfl hl hdg kk
theorem gSS_st_7 {Z : Nat → ClassId} {a b g : Nat → Nat} {O : M2} {S : M2} (hC : CallFix p m c cc nL s args lw_g own) (hK : va_K D vwCl (tysG Z) s) (hP : va_P D vwCl (SS Z a b g O S) H) (hl : Cond.fieldLink own index RX7 "end" "[I" ∈ lw_g) (hdg : decode cc pc = .ok (.getfield index, 3)) (kk : W p l e R s m args below meth c H locs cells slots Q (F0 m (pc + 3) ls (.ref (a 207) :: rest))) : W p l e R s m args below meth c H locs cells slots Q (F0 m pc ls (.ref (a 200) :: rest)) :=
  w_get (C := RX7) (T := TX7) (N := 15) (ci := 7) (q0 := 0) (k := 7) hC hK hP fi_X7 rfl rfl rfl (by decide) rfl hl hdg kk
theorem gSS_st_8 {Z : Nat → ClassId} {a b g : Nat → Nat} {O : M2} {S : M2} (hC : CallFix p m c cc nL s args lw_g own) (hK : va_K D vwCl (tysG Z) s) (hP : va_P D vwCl (SS Z a b g O S) H) (hl : Cond.fieldLink own index RX7 "due" "[I" ∈ lw_g) (hdg : decode cc pc = .ok (.getfield index, 3)) (kk : W p l e R s m args below meth c H locs cells slots Q (F0 m (pc + 3) ls (.ref (a 208) :: rest))) : W p l e R s m args below meth c H locs cells slots Q (F0 m pc ls (.ref (a 200) :: rest)) :=
  w_get (C := RX7) (T := TX7) (N := 15) (ci := 7) (q0 := 0) (k := 8) hC hK hP fi_X7 rfl rfl rfl (by decide) rfl hl hdg kk
theorem gSS_st_9 {Z : Nat → ClassId} {a b g : Nat → Nat} {O : M2} {S : M2} (hC : CallFix p m c cc nL s args lw_g own) (hK : va_K D vwCl (tysG Z) s) (hP : va_P D vwCl (SS Z a b g O S) H) (hl : Cond.fieldLink own index RX7 "at" "[I" ∈ lw_g) (hdg : decode cc pc = .ok (.getfield index, 3)) (kk : W p l e R s m args below meth c H locs cells slots Q (F0 m (pc + 3) ls (.ref (a 209) :: rest))) : W p l e R s m args below meth c H locs cells slots Q (F0 m pc ls (.ref (a 200) :: rest)) :=
  w_get (C := RX7) (T := TX7) (N := 15) (ci := 7) (q0 := 0) (k := 9) hC hK hP fi_X7 rfl rfl rfl (by decide) rfl hl hdg kk
theorem gSS_st_10 {Z : Nat → ClassId} {a b g : Nat → Nat} {O : M2} {S : M2} (hC : CallFix p m c cc nL s args lw_g own) (hK : va_K D vwCl (tysG Z) s) (hP : va_P D vwCl (SS Z a b g O S) H) (hl : Cond.fieldLink own index RX7 "pushed" "[I" ∈ lw_g) (hdg : decode cc pc = .ok (.getfield index, 3)) (kk : W p l e R s m args below meth c H locs cells slots Q (F0 m (pc + 3) ls (.ref (a 210) :: rest))) : W p l e R s m args below meth c H locs cells slots Q (F0 m pc ls (.ref (a 200) :: rest)) :=
  w_get (C := RX7) (T := TX7) (N := 15) (ci := 7) (q0 := 0) (k := 10) hC hK hP fi_X7 rfl rfl rfl (by decide) rfl hl hdg kk
theorem gSS_st_11 {Z : Nat → ClassId} {a b g : Nat → Nat} {O : M2} {S : M2} (hC : CallFix p m c cc nL s args lw_g own) (hK : va_K D vwCl (tysG Z) s) (hP : va_P D vwCl (SS Z a b g O S) H) (hl : Cond.fieldLink own index RX7 "out" "[I" ∈ lw_g) (hdg : decode cc pc = .ok (.getfield index, 3)) (kk : W p l e R s m args below meth c H locs cells slots Q (F0 m (pc + 3) ls (.ref (a 211) :: rest))) : W p l e R s m args below meth c H locs cells slots Q (F0 m pc ls (.ref (a 200) :: rest)) :=
  w_get (C := RX7) (T := TX7) (N := 15) (ci := 7) (q0 := 0) (k := 11) hC hK hP fi_X7 rfl rfl rfl (by decide) rfl hl hdg kk
theorem pSS_st_0 {Z : Nat → ClassId} {a b g : Nat → Nat} {O : M2} {S : M2} {x : Int32} (hC : CallFix p m c cc nL s args lw_g own) (hK : va_K D vwCl (tysG Z) s) (hT : TS vwCl D (SS Z a b g O S) A H0 H locs) (hl : Cond.fieldLink own index RX7 "minute" "I" ∈ lw_g) (hdg : decode cc pc = .ok (.putfield index, 3)) (kk : ∀ (S1 : M2), S1 = up2 S 200 (fun _ => x) → ∀ (H1 : Heap) (locs1 : List Loc), TS vwCl D (SS Z a b g O S1) A H0 H1 locs1 → W p l e R s m args below meth c H1 locs1 cells slots Q (F0 m (pc + 3) ls rest)) : W p l e R s m args below meth c H locs cells slots Q (F0 m pc ls (.int x :: .ref (a 200) :: rest)) :=
  w_put (C := RX7) (T := TX7) (N := 15) (ci := 7) (q0 := 0) (k := 0) (ty0 := tyX7) (ty := .int) (ws' := (SS Z a b g O (up2 S 200 (fun _ => x)))) hC hK hT fi_X7 tyX7_ok nmX7 rfl rfl (by decide) rfl rfl rfl rfl rfl (Nat.le_of_ble_eq_true rfl) rfl hl hdg (fun H1 locs1 hT1 => kk _ rfl H1 locs1 hT1)
theorem pSS_st_1 {Z : Nat → ClassId} {a b g : Nat → Nat} {O : M2} {S : M2} {x : Int32} (hC : CallFix p m c cc nL s args lw_g own) (hK : va_K D vwCl (tysG Z) s) (hT : TS vwCl D (SS Z a b g O S) A H0 H locs) (hl : Cond.fieldLink own index RX7 "turn" "I" ∈ lw_g) (hdg : decode cc pc = .ok (.putfield index, 3)) (kk : ∀ (S1 : M2), S1 = up2 S 201 (fun _ => x) → ∀ (H1 : Heap) (locs1 : List Loc), TS vwCl D (SS Z a b g O S1) A H0 H1 locs1 → W p l e R s m args below meth c H1 locs1 cells slots Q (F0 m (pc + 3) ls rest)) : W p l e R s m args below meth c H locs cells slots Q (F0 m pc ls (.int x :: .ref (a 200) :: rest)) :=
  w_put (C := RX7) (T := TX7) (N := 15) (ci := 7) (q0 := 0) (k := 1) (ty0 := tyX7) (ty := .int) (ws' := (SS Z a b g O (up2 S 201 (fun _ => x)))) hC hK hT fi_X7 tyX7_ok nmX7 rfl rfl (by decide) rfl rfl rfl rfl rfl (Nat.le_of_ble_eq_true rfl) rfl hl hdg (fun H1 locs1 hT1 => kk _ rfl H1 locs1 hT1)
theorem pSS_st_12 {Z : Nat → ClassId} {a b g : Nat → Nat} {O : M2} {S : M2} {x : Int32} (hC : CallFix p m c cc nL s args lw_g own) (hK : va_K D vwCl (tysG Z) s) (hT : TS vwCl D (SS Z a b g O S) A H0 H locs) (hl : Cond.fieldLink own index RX7 "weak" "I" ∈ lw_g) (hdg : decode cc pc = .ok (.putfield index, 3)) (kk : ∀ (S1 : M2), S1 = up2 S 212 (fun _ => x) → ∀ (H1 : Heap) (locs1 : List Loc), TS vwCl D (SS Z a b g O S1) A H0 H1 locs1 → W p l e R s m args below meth c H1 locs1 cells slots Q (F0 m (pc + 3) ls rest)) : W p l e R s m args below meth c H locs cells slots Q (F0 m pc ls (.int x :: .ref (a 200) :: rest)) :=
  w_put (C := RX7) (T := TX7) (N := 15) (ci := 7) (q0 := 0) (k := 12) (ty0 := tyX7) (ty := .int) (ws' := (SS Z a b g O (up2 S 212 (fun _ => x)))) hC hK hT fi_X7 tyX7_ok nmX7 rfl rfl (by decide) rfl rfl rfl rfl rfl (Nat.le_of_ble_eq_true rfl) rfl hl hdg (fun H1 locs1 hT1 => kk _ rfl H1 locs1 hT1)
theorem cpSS_oair_air {Z : Nat → ClassId} {a b g : Nat → Nat} {O : M2} {S : M2} (hC : CallFix p m c cc nL s args lw_g own) (hN : NW s) (hK : va_K D vwCl (tysG Z) s) (hT : TS vwCl D (SS Z a b g O S) A H0 H locs) (hl : Cond.methodLink own index yX7_copy ∈ lw_g) (hlt : 1 < rn) (hsize : ls.size = nL) (hW : (rest.map fun v => v.category).sum ≤ 8) (hf : cells + 0 ≤ mcR ∧ slots + 0 ≤ msR) (hdg : decode cc pc = .ok (.invokevirtual index, 3)) (kk : ∀ (S1 : M2), S1 = up2 S 202 (O 202) → ∀ (H1 : Heap) (locs1 : List Loc), TS vwCl D (SS Z a b g O S1) A H0 H1 locs1 → W p l e (rk rn mcR msR) s m args below meth c H1 locs1 cells slots Q (F0 m (pc + 3) ls rest)) : W p l e (rk rn mcR msR) s m args below meth c H locs cells slots Q (F0 m pc ls (.ref (a 202) :: .ref (b 202) :: .ref (a 200) :: rest)) :=
  w_cpM (qo := 0) (q0 := 13) (q1 := 1) (ws' := (SS Z a b g O (up2 S 202 (O 202)))) hC hN hK hT hl rfl rfl rfl (by decide) rfl (by decide) hlt hsize hW hf hdg (fun H1 locs1 hT1 => kk _ rfl H1 locs1 hT1)
theorem cpSS_oat_at {Z : Nat → ClassId} {a b g : Nat → Nat} {O : M2} {S : M2} (hC : CallFix p m c cc nL s args lw_g own) (hN : NW s) (hK : va_K D vwCl (tysG Z) s) (hT : TS vwCl D (SS Z a b g O S) A H0 H locs) (hl : Cond.methodLink own index yX7_copy ∈ lw_g) (hlt : 1 < rn) (hsize : ls.size = nL) (hW : (rest.map fun v => v.category).sum ≤ 8) (hf : cells + 0 ≤ mcR ∧ slots + 0 ≤ msR) (hdg : decode cc pc = .ok (.invokevirtual index, 3)) (kk : ∀ (S1 : M2), S1 = up2 S 209 (O 209) → ∀ (H1 : Heap) (locs1 : List Loc), TS vwCl D (SS Z a b g O S1) A H0 H1 locs1 → W p l e (rk rn mcR msR) s m args below meth c H1 locs1 cells slots Q (F0 m (pc + 3) ls rest)) : W p l e (rk rn mcR msR) s m args below meth c H locs cells slots Q (F0 m pc ls (.ref (a 209) :: .ref (b 209) :: .ref (a 200) :: rest)) :=
  w_cpM (qo := 0) (q0 := 20) (q1 := 8) (ws' := (SS Z a b g O (up2 S 209 (O 209)))) hC hN hK hT hl rfl rfl rfl (by decide) rfl (by decide) hlt hsize hW hf hdg (fun H1 locs1 hT1 => kk _ rfl H1 locs1 hT1)
theorem cpSS_obreath_breath {Z : Nat → ClassId} {a b g : Nat → Nat} {O : M2} {S : M2} (hC : CallFix p m c cc nL s args lw_g own) (hN : NW s) (hK : va_K D vwCl (tysG Z) s) (hT : TS vwCl D (SS Z a b g O S) A H0 H locs) (hl : Cond.methodLink own index yX7_copy ∈ lw_g) (hlt : 1 < rn) (hsize : ls.size = nL) (hW : (rest.map fun v => v.category).sum ≤ 8) (hf : cells + 0 ≤ mcR ∧ slots + 0 ≤ msR) (hdg : decode cc pc = .ok (.invokevirtual index, 3)) (kk : ∀ (S1 : M2), S1 = up2 S 203 (O 203) → ∀ (H1 : Heap) (locs1 : List Loc), TS vwCl D (SS Z a b g O S1) A H0 H1 locs1 → W p l e (rk rn mcR msR) s m args below meth c H1 locs1 cells slots Q (F0 m (pc + 3) ls rest)) : W p l e (rk rn mcR msR) s m args below meth c H locs cells slots Q (F0 m pc ls (.ref (a 203) :: .ref (b 203) :: .ref (a 200) :: rest)) :=
  w_cpM (qo := 0) (q0 := 14) (q1 := 2) (ws' := (SS Z a b g O (up2 S 203 (O 203)))) hC hN hK hT hl rfl rfl rfl (by decide) rfl (by decide) hlt hsize hW hf hdg (fun H1 locs1 hT1 => kk _ rfl H1 locs1 hT1)
theorem cpSS_ocapAt_capAt {Z : Nat → ClassId} {a b g : Nat → Nat} {O : M2} {S : M2} (hC : CallFix p m c cc nL s args lw_g own) (hN : NW s) (hK : va_K D vwCl (tysG Z) s) (hT : TS vwCl D (SS Z a b g O S) A H0 H locs) (hl : Cond.methodLink own index yX7_copy ∈ lw_g) (hlt : 1 < rn) (hsize : ls.size = nL) (hW : (rest.map fun v => v.category).sum ≤ 8) (hf : cells + 0 ≤ mcR ∧ slots + 0 ≤ msR) (hdg : decode cc pc = .ok (.invokevirtual index, 3)) (kk : ∀ (S1 : M2), S1 = up2 S 204 (O 204) → ∀ (H1 : Heap) (locs1 : List Loc), TS vwCl D (SS Z a b g O S1) A H0 H1 locs1 → W p l e (rk rn mcR msR) s m args below meth c H1 locs1 cells slots Q (F0 m (pc + 3) ls rest)) : W p l e (rk rn mcR msR) s m args below meth c H locs cells slots Q (F0 m pc ls (.ref (a 204) :: .ref (b 204) :: .ref (a 200) :: rest)) :=
  w_cpM (qo := 0) (q0 := 15) (q1 := 3) (ws' := (SS Z a b g O (up2 S 204 (O 204)))) hC hN hK hT hl rfl rfl rfl (by decide) rfl (by decide) hlt hsize hW hf hdg (fun H1 locs1 hT1 => kk _ rfl H1 locs1 hT1)
theorem cpSS_odue_due {Z : Nat → ClassId} {a b g : Nat → Nat} {O : M2} {S : M2} (hC : CallFix p m c cc nL s args lw_g own) (hN : NW s) (hK : va_K D vwCl (tysG Z) s) (hT : TS vwCl D (SS Z a b g O S) A H0 H locs) (hl : Cond.methodLink own index yX7_copy ∈ lw_g) (hlt : 1 < rn) (hsize : ls.size = nL) (hW : (rest.map fun v => v.category).sum ≤ 8) (hf : cells + 0 ≤ mcR ∧ slots + 0 ≤ msR) (hdg : decode cc pc = .ok (.invokevirtual index, 3)) (kk : ∀ (S1 : M2), S1 = up2 S 208 (O 208) → ∀ (H1 : Heap) (locs1 : List Loc), TS vwCl D (SS Z a b g O S1) A H0 H1 locs1 → W p l e (rk rn mcR msR) s m args below meth c H1 locs1 cells slots Q (F0 m (pc + 3) ls rest)) : W p l e (rk rn mcR msR) s m args below meth c H locs cells slots Q (F0 m pc ls (.ref (a 208) :: .ref (b 208) :: .ref (a 200) :: rest)) :=
  w_cpM (qo := 0) (q0 := 19) (q1 := 7) (ws' := (SS Z a b g O (up2 S 208 (O 208)))) hC hN hK hT hl rfl rfl rfl (by decide) rfl (by decide) hlt hsize hW hf hdg (fun H1 locs1 hT1 => kk _ rfl H1 locs1 hT1)
theorem cpSS_oend_end {Z : Nat → ClassId} {a b g : Nat → Nat} {O : M2} {S : M2} (hC : CallFix p m c cc nL s args lw_g own) (hN : NW s) (hK : va_K D vwCl (tysG Z) s) (hT : TS vwCl D (SS Z a b g O S) A H0 H locs) (hl : Cond.methodLink own index yX7_copy ∈ lw_g) (hlt : 1 < rn) (hsize : ls.size = nL) (hW : (rest.map fun v => v.category).sum ≤ 8) (hf : cells + 0 ≤ mcR ∧ slots + 0 ≤ msR) (hdg : decode cc pc = .ok (.invokevirtual index, 3)) (kk : ∀ (S1 : M2), S1 = up2 S 207 (O 207) → ∀ (H1 : Heap) (locs1 : List Loc), TS vwCl D (SS Z a b g O S1) A H0 H1 locs1 → W p l e (rk rn mcR msR) s m args below meth c H1 locs1 cells slots Q (F0 m (pc + 3) ls rest)) : W p l e (rk rn mcR msR) s m args below meth c H locs cells slots Q (F0 m pc ls (.ref (a 207) :: .ref (b 207) :: .ref (a 200) :: rest)) :=
  w_cpM (qo := 0) (q0 := 18) (q1 := 6) (ws' := (SS Z a b g O (up2 S 207 (O 207)))) hC hN hK hT hl rfl rfl rfl (by decide) rfl (by decide) hlt hsize hW hf hdg (fun H1 locs1 hT1 => kk _ rfl H1 locs1 hT1)
theorem cpSS_ois_is {Z : Nat → ClassId} {a b g : Nat → Nat} {O : M2} {S : M2} (hC : CallFix p m c cc nL s args lw_g own) (hN : NW s) (hK : va_K D vwCl (tysG Z) s) (hT : TS vwCl D (SS Z a b g O S) A H0 H locs) (hl : Cond.methodLink own index yX7_copy ∈ lw_g) (hlt : 1 < rn) (hsize : ls.size = nL) (hW : (rest.map fun v => v.category).sum ≤ 8) (hf : cells + 0 ≤ mcR ∧ slots + 0 ≤ msR) (hdg : decode cc pc = .ok (.invokevirtual index, 3)) (kk : ∀ (S1 : M2), S1 = up2 S 206 (O 206) → ∀ (H1 : Heap) (locs1 : List Loc), TS vwCl D (SS Z a b g O S1) A H0 H1 locs1 → W p l e (rk rn mcR msR) s m args below meth c H1 locs1 cells slots Q (F0 m (pc + 3) ls rest)) : W p l e (rk rn mcR msR) s m args below meth c H locs cells slots Q (F0 m pc ls (.ref (a 206) :: .ref (b 206) :: .ref (a 200) :: rest)) :=
  w_cpM (qo := 0) (q0 := 17) (q1 := 5) (ws' := (SS Z a b g O (up2 S 206 (O 206)))) hC hN hK hT hl rfl rfl rfl (by decide) rfl (by decide) hlt hsize hW hf hdg (fun H1 locs1 hT1 => kk _ rfl H1 locs1 hT1)
theorem cpSS_oout_out {Z : Nat → ClassId} {a b g : Nat → Nat} {O : M2} {S : M2} (hC : CallFix p m c cc nL s args lw_g own) (hN : NW s) (hK : va_K D vwCl (tysG Z) s) (hT : TS vwCl D (SS Z a b g O S) A H0 H locs) (hl : Cond.methodLink own index yX7_copy ∈ lw_g) (hlt : 1 < rn) (hsize : ls.size = nL) (hW : (rest.map fun v => v.category).sum ≤ 8) (hf : cells + 0 ≤ mcR ∧ slots + 0 ≤ msR) (hdg : decode cc pc = .ok (.invokevirtual index, 3)) (kk : ∀ (S1 : M2), S1 = up2 S 211 (O 211) → ∀ (H1 : Heap) (locs1 : List Loc), TS vwCl D (SS Z a b g O S1) A H0 H1 locs1 → W p l e (rk rn mcR msR) s m args below meth c H1 locs1 cells slots Q (F0 m (pc + 3) ls rest)) : W p l e (rk rn mcR msR) s m args below meth c H locs cells slots Q (F0 m pc ls (.ref (a 211) :: .ref (b 211) :: .ref (a 200) :: rest)) :=
  w_cpM (qo := 0) (q0 := 22) (q1 := 10) (ws' := (SS Z a b g O (up2 S 211 (O 211)))) hC hN hK hT hl rfl rfl rfl (by decide) rfl (by decide) hlt hsize hW hf hdg (fun H1 locs1 hT1 => kk _ rfl H1 locs1 hT1)
theorem cpSS_ospushed_spushed {Z : Nat → ClassId} {a b g : Nat → Nat} {O : M2} {S : M2} (hC : CallFix p m c cc nL s args lw_g own) (hN : NW s) (hK : va_K D vwCl (tysG Z) s) (hT : TS vwCl D (SS Z a b g O S) A H0 H locs) (hl : Cond.methodLink own index yX7_copy ∈ lw_g) (hlt : 1 < rn) (hsize : ls.size = nL) (hW : (rest.map fun v => v.category).sum ≤ 8) (hf : cells + 0 ≤ mcR ∧ slots + 0 ≤ msR) (hdg : decode cc pc = .ok (.invokevirtual index, 3)) (kk : ∀ (S1 : M2), S1 = up2 S 210 (O 210) → ∀ (H1 : Heap) (locs1 : List Loc), TS vwCl D (SS Z a b g O S1) A H0 H1 locs1 → W p l e (rk rn mcR msR) s m args below meth c H1 locs1 cells slots Q (F0 m (pc + 3) ls rest)) : W p l e (rk rn mcR msR) s m args below meth c H locs cells slots Q (F0 m pc ls (.ref (a 210) :: .ref (b 210) :: .ref (a 200) :: rest)) :=
  w_cpM (qo := 0) (q0 := 21) (q1 := 9) (ws' := (SS Z a b g O (up2 S 210 (O 210)))) hC hN hK hT hl rfl rfl rfl (by decide) rfl (by decide) hlt hsize hW hf hdg (fun H1 locs1 hT1 => kk _ rfl H1 locs1 hT1)
theorem cpSS_owalks_walks {Z : Nat → ClassId} {a b g : Nat → Nat} {O : M2} {S : M2} (hC : CallFix p m c cc nL s args lw_g own) (hN : NW s) (hK : va_K D vwCl (tysG Z) s) (hT : TS vwCl D (SS Z a b g O S) A H0 H locs) (hl : Cond.methodLink own index yX7_copy ∈ lw_g) (hlt : 1 < rn) (hsize : ls.size = nL) (hW : (rest.map fun v => v.category).sum ≤ 8) (hf : cells + 0 ≤ mcR ∧ slots + 0 ≤ msR) (hdg : decode cc pc = .ok (.invokevirtual index, 3)) (kk : ∀ (S1 : M2), S1 = up2 S 205 (O 205) → ∀ (H1 : Heap) (locs1 : List Loc), TS vwCl D (SS Z a b g O S1) A H0 H1 locs1 → W p l e (rk rn mcR msR) s m args below meth c H1 locs1 cells slots Q (F0 m (pc + 3) ls rest)) : W p l e (rk rn mcR msR) s m args below meth c H locs cells slots Q (F0 m pc ls (.ref (a 205) :: .ref (b 205) :: .ref (a 200) :: rest)) :=
  w_cpM (qo := 0) (q0 := 16) (q1 := 4) (ws' := (SS Z a b g O (up2 S 205 (O 205)))) hC hN hK hT hl rfl rfl rfl (by decide) rfl (by decide) hlt hsize hW hf hdg (fun H1 locs1 hT1 => kk _ rfl H1 locs1 hT1)
theorem gNSW_plan_14 {Z : Nat → ClassId} {a q g : Nat → Nat} {rg sa aa : Nat} {N P : M2} {S : M2} (hC : CallFix p m c cc nL s args lw_g own) (hN : NW s) (hK : va_K D vwCl (tysG Z) s) (hP : va_P D vwCl (SW Z a q g rg sa aa N P S) H) (hl : Cond.fieldLinkNest own index RX6 "end" "[I" host ∈ lw_n) (hdg : decode cc pc = .ok (.getfield index, 3)) (kk : W p l e R s m args below meth c H locs cells slots Q (F0 m (pc + 3) ls (.ref (q 254) :: rest))) : W p l e R s m args below meth c H locs cells slots Q (F0 m pc ls (.ref (q 240) :: rest)) :=
  w_getN (C := RX6) (T := TX6) (N := 27) (ci := 6) (q0 := 13) (k := 14) hC hN hK hP fi_X6 rfl rfl rfl (by decide) rfl hl hdg kk
theorem gNSW_plan_15 {Z : Nat → ClassId} {a q g : Nat → Nat} {rg sa aa : Nat} {N P : M2} {S : M2} (hC : CallFix p m c cc nL s args lw_g own) (hN : NW s) (hK : va_K D vwCl (tysG Z) s) (hP : va_P D vwCl (SW Z a q g rg sa aa N P S) H) (hl : Cond.fieldLinkNest own index RX6 "due" "[I" host ∈ lw_n) (hdg : decode cc pc = .ok (.getfield index, 3)) (kk : W p l e R s m args below meth c H locs cells slots Q (F0 m (pc + 3) ls (.ref (q 255) :: rest))) : W p l e R s m args below meth c H locs cells slots Q (F0 m pc ls (.ref (q 240) :: rest)) :=
  w_getN (C := RX6) (T := TX6) (N := 27) (ci := 6) (q0 := 13) (k := 15) hC hN hK hP fi_X6 rfl rfl rfl (by decide) rfl hl hdg kk
theorem sSW_due {Z : Nat → ClassId} {a q g : Nat → Nat} {rg sa aa : Nat} {N P : M2} {S : M2} {i : Int32} {x : Int32} (hC : CallFix p m c cc nL s args lw_g own) (hK : va_K D vwCl (tysG Z) s) (hT : TS vwCl D (SW Z a q g rg sa aa N P S) A H0 H locs) (hi : inb i 8) (hdg : decode cc pc = .ok (.iastore, 1)) (kk : ∀ (S1 : M2), S1 = up2 S 208 (upd (S 208) i.toInt.toNat x) → ∀ (H1 : Heap) (locs1 : List Loc), TS vwCl D (SW Z a q g rg sa aa N P S1) A H0 H1 locs1 → W p l e R s m args below meth c H1 locs1 cells slots Q (F0 m (pc + 1) ls rest)) : W p l e R s m args below meth c H locs cells slots Q (F0 m pc ls (.int x :: .int i :: .ref (a 208) :: rest)) :=
  w_iast (q0 := 7) (ws' := (SW Z a q g rg sa aa N P (up2 S 208 (upd (S 208) i.toInt.toNat x)))) hC hK hT rfl hi rfl hdg (fun H1 locs1 hT1 => kk _ rfl H1 locs1 hT1)
theorem sSW_end {Z : Nat → ClassId} {a q g : Nat → Nat} {rg sa aa : Nat} {N P : M2} {S : M2} {i : Int32} {x : Int32} (hC : CallFix p m c cc nL s args lw_g own) (hK : va_K D vwCl (tysG Z) s) (hT : TS vwCl D (SW Z a q g rg sa aa N P S) A H0 H locs) (hi : inb i 8) (hdg : decode cc pc = .ok (.iastore, 1)) (kk : ∀ (S1 : M2), S1 = up2 S 207 (upd (S 207) i.toInt.toNat x) → ∀ (H1 : Heap) (locs1 : List Loc), TS vwCl D (SW Z a q g rg sa aa N P S1) A H0 H1 locs1 → W p l e R s m args below meth c H1 locs1 cells slots Q (F0 m (pc + 1) ls rest)) : W p l e R s m args below meth c H locs cells slots Q (F0 m pc ls (.int x :: .int i :: .ref (a 207) :: rest)) :=
  w_iast (q0 := 6) (ws' := (SW Z a q g rg sa aa N P (up2 S 207 (upd (S 207) i.toInt.toNat x)))) hC hK hT rfl hi rfl hdg (fun H1 locs1 hT1 => kk _ rfl H1 locs1 hT1)
end ROWSSS
theorem dX7_become_0 : decode cX7_become 0 = .ok (.aload_n 0, 1) := by decide +kernel
theorem dX7_become_1 : decode cX7_become 1 = .ok (.aload_n 1, 1) := by decide +kernel
theorem dX7_become_2 : decode cX7_become 2 = .ok (.getfield 59, 3) := by decide +kernel
theorem dX7_become_5 : decode cX7_become 5 = .ok (.putfield 59, 3) := by decide +kernel
theorem dX7_become_8 : decode cX7_become 8 = .ok (.aload_n 0, 1) := by decide +kernel
theorem dX7_become_9 : decode cX7_become 9 = .ok (.aload_n 1, 1) := by decide +kernel
theorem dX7_become_10 : decode cX7_become 10 = .ok (.getfield 62, 3) := by decide +kernel
theorem dX7_become_13 : decode cX7_become 13 = .ok (.putfield 62, 3) := by decide +kernel
theorem dX7_become_16 : decode cX7_become 16 = .ok (.aload_n 0, 1) := by decide +kernel
theorem dX7_become_17 : decode cX7_become 17 = .ok (.iconst (-1), 1) := by decide +kernel
theorem dX7_become_18 : decode cX7_become 18 = .ok (.putfield 46, 3) := by decide +kernel
theorem dX7_become_21 : decode cX7_become 21 = .ok (.aload_n 0, 1) := by decide +kernel
theorem dX7_become_22 : decode cX7_become 22 = .ok (.aload_n 1, 1) := by decide +kernel
theorem dX7_become_23 : decode cX7_become 23 = .ok (.getfield 15, 3) := by decide +kernel
theorem dX7_become_26 : decode cX7_become 26 = .ok (.aload_n 0, 1) := by decide +kernel
theorem dX7_become_27 : decode cX7_become 27 = .ok (.getfield 15, 3) := by decide +kernel
theorem dX7_become_30 : decode cX7_become 30 = .ok (.invokevirtual 65, 3) := by decide +kernel
theorem dX7_become_33 : decode cX7_become 33 = .ok (.aload_n 0, 1) := by decide +kernel
theorem dX7_become_34 : decode cX7_become 34 = .ok (.aload_n 1, 1) := by decide +kernel
theorem dX7_become_35 : decode cX7_become 35 = .ok (.getfield 19, 3) := by decide +kernel
theorem dX7_become_38 : decode cX7_become 38 = .ok (.aload_n 0, 1) := by decide +kernel
theorem dX7_become_39 : decode cX7_become 39 = .ok (.getfield 19, 3) := by decide +kernel
theorem dX7_become_42 : decode cX7_become 42 = .ok (.invokevirtual 65, 3) := by decide +kernel
theorem dX7_become_45 : decode cX7_become 45 = .ok (.aload_n 0, 1) := by decide +kernel
theorem dX7_become_46 : decode cX7_become 46 = .ok (.aload_n 1, 1) := by decide +kernel
theorem dX7_become_47 : decode cX7_become 47 = .ok (.getfield 22, 3) := by decide +kernel
theorem dX7_become_50 : decode cX7_become 50 = .ok (.aload_n 0, 1) := by decide +kernel
theorem dX7_become_51 : decode cX7_become 51 = .ok (.getfield 22, 3) := by decide +kernel
theorem dX7_become_54 : decode cX7_become 54 = .ok (.invokevirtual 65, 3) := by decide +kernel
theorem dX7_become_57 : decode cX7_become 57 = .ok (.aload_n 0, 1) := by decide +kernel
theorem dX7_become_58 : decode cX7_become 58 = .ok (.aload_n 1, 1) := by decide +kernel
theorem dX7_become_59 : decode cX7_become 59 = .ok (.getfield 25, 3) := by decide +kernel
theorem dX7_become_62 : decode cX7_become 62 = .ok (.aload_n 0, 1) := by decide +kernel
theorem dX7_become_63 : decode cX7_become 63 = .ok (.getfield 25, 3) := by decide +kernel
theorem dX7_become_66 : decode cX7_become 66 = .ok (.invokevirtual 65, 3) := by decide +kernel
theorem dX7_become_69 : decode cX7_become 69 = .ok (.aload_n 0, 1) := by decide +kernel
theorem dX7_become_70 : decode cX7_become 70 = .ok (.aload_n 1, 1) := by decide +kernel
theorem dX7_become_71 : decode cX7_become 71 = .ok (.getfield 28, 3) := by decide +kernel
theorem dX7_become_74 : decode cX7_become 74 = .ok (.aload_n 0, 1) := by decide +kernel
theorem dX7_become_75 : decode cX7_become 75 = .ok (.getfield 28, 3) := by decide +kernel
theorem dX7_become_78 : decode cX7_become 78 = .ok (.invokevirtual 65, 3) := by decide +kernel
theorem dX7_become_81 : decode cX7_become 81 = .ok (.aload_n 0, 1) := by decide +kernel
theorem dX7_become_82 : decode cX7_become 82 = .ok (.aload_n 1, 1) := by decide +kernel
theorem dX7_become_83 : decode cX7_become 83 = .ok (.getfield 31, 3) := by decide +kernel
theorem dX7_become_86 : decode cX7_become 86 = .ok (.aload_n 0, 1) := by decide +kernel
theorem dX7_become_87 : decode cX7_become 87 = .ok (.getfield 31, 3) := by decide +kernel
theorem dX7_become_90 : decode cX7_become 90 = .ok (.invokevirtual 65, 3) := by decide +kernel
theorem dX7_become_93 : decode cX7_become 93 = .ok (.aload_n 0, 1) := by decide +kernel
theorem dX7_become_94 : decode cX7_become 94 = .ok (.aload_n 1, 1) := by decide +kernel
theorem dX7_become_95 : decode cX7_become 95 = .ok (.getfield 34, 3) := by decide +kernel
theorem dX7_become_98 : decode cX7_become 98 = .ok (.aload_n 0, 1) := by decide +kernel
theorem dX7_become_99 : decode cX7_become 99 = .ok (.getfield 34, 3) := by decide +kernel
theorem dX7_become_102 : decode cX7_become 102 = .ok (.invokevirtual 65, 3) := by decide +kernel
theorem dX7_become_105 : decode cX7_become 105 = .ok (.aload_n 0, 1) := by decide +kernel
theorem dX7_become_106 : decode cX7_become 106 = .ok (.aload_n 1, 1) := by decide +kernel
theorem dX7_become_107 : decode cX7_become 107 = .ok (.getfield 37, 3) := by decide +kernel
theorem dX7_become_110 : decode cX7_become 110 = .ok (.aload_n 0, 1) := by decide +kernel
theorem dX7_become_111 : decode cX7_become 111 = .ok (.getfield 37, 3) := by decide +kernel
theorem dX7_become_114 : decode cX7_become 114 = .ok (.invokevirtual 65, 3) := by decide +kernel
theorem dX7_become_117 : decode cX7_become 117 = .ok (.aload_n 0, 1) := by decide +kernel
theorem dX7_become_118 : decode cX7_become 118 = .ok (.aload_n 1, 1) := by decide +kernel
theorem dX7_become_119 : decode cX7_become 119 = .ok (.getfield 40, 3) := by decide +kernel
theorem dX7_become_122 : decode cX7_become 122 = .ok (.aload_n 0, 1) := by decide +kernel
theorem dX7_become_123 : decode cX7_become 123 = .ok (.getfield 40, 3) := by decide +kernel
theorem dX7_become_126 : decode cX7_become 126 = .ok (.invokevirtual 65, 3) := by decide +kernel
theorem dX7_become_129 : decode cX7_become 129 = .ok (.aload_n 0, 1) := by decide +kernel
theorem dX7_become_130 : decode cX7_become 130 = .ok (.aload_n 1, 1) := by decide +kernel
theorem dX7_become_131 : decode cX7_become 131 = .ok (.getfield 43, 3) := by decide +kernel
theorem dX7_become_134 : decode cX7_become 134 = .ok (.aload_n 0, 1) := by decide +kernel
theorem dX7_become_135 : decode cX7_become 135 = .ok (.getfield 43, 3) := by decide +kernel
theorem dX7_become_138 : decode cX7_become 138 = .ok (.invokevirtual 65, 3) := by decide +kernel
theorem dX7_become_141 : decode cX7_become 141 = .ok (.aload_n 0, 1) := by decide +kernel
theorem dX7_become_142 : decode cX7_become 142 = .ok (.areturn, 1) := by decide +kernel
theorem dX7_begin_0 : decode cX7_begin 0 = .ok (.aload_n 0, 1) := by decide +kernel
theorem dX7_begin_1 : decode cX7_begin 1 = .ok (.iconst 0, 1) := by decide +kernel
theorem dX7_begin_2 : decode cX7_begin 2 = .ok (.putfield 62, 3) := by decide +kernel
theorem dX7_begin_5 : decode cX7_begin 5 = .ok (.iconst 0, 1) := by decide +kernel
theorem dX7_begin_6 : decode cX7_begin 6 = .ok (.istore_n 1, 1) := by decide +kernel
theorem dX7_begin_7 : decode cX7_begin 7 = .ok (.iload_n 1, 1) := by decide +kernel
theorem dX7_begin_8 : decode cX7_begin 8 = .ok (.bipush 60, 2) := by decide +kernel
theorem dX7_begin_10 : decode cX7_begin 10 = .ok (.if_icmp .ge 35, 3) := by decide +kernel
theorem dX7_begin_13 : decode cX7_begin 13 = .ok (.aload_n 0, 1) := by decide +kernel
theorem dX7_begin_14 : decode cX7_begin 14 = .ok (.getfield 15, 3) := by decide +kernel
theorem dX7_begin_17 : decode cX7_begin 17 = .ok (.iload_n 1, 1) := by decide +kernel
theorem dX7_begin_18 : decode cX7_begin 18 = .ok (.iload_n 1, 1) := by decide +kernel
theorem dX7_begin_19 : decode cX7_begin 19 = .ok (.aload_n 0, 1) := by decide +kernel
theorem dX7_begin_20 : decode cX7_begin 20 = .ok (.getfield 3, 3) := by decide +kernel
theorem dX7_begin_23 : decode cX7_begin 23 = .ok (.getfield 69, 3) := by decide +kernel
theorem dX7_begin_26 : decode cX7_begin 26 = .ok (.getfield 73, 3) := by decide +kernel
theorem dX7_begin_29 : decode cX7_begin 29 = .ok (.if_icmp .ge 8, 3) := by decide +kernel
theorem dX7_begin_32 : decode cX7_begin 32 = .ok (.bipush 100, 2) := by decide +kernel
theorem dX7_begin_34 : decode cX7_begin 34 = .ok (.goto 4, 3) := by decide +kernel
theorem dX7_begin_37 : decode cX7_begin 37 = .ok (.iconst 0, 1) := by decide +kernel
theorem dX7_begin_38 : decode cX7_begin 38 = .ok (.iastore, 1) := by decide +kernel
theorem dX7_begin_39 : decode cX7_begin 39 = .ok (.iinc 1 1, 3) := by decide +kernel
theorem dX7_begin_42 : decode cX7_begin 42 = .ok (.goto (-35), 3) := by decide +kernel
theorem dX7_begin_45 : decode cX7_begin 45 = .ok (.iconst 0, 1) := by decide +kernel
theorem dX7_begin_46 : decode cX7_begin 46 = .ok (.istore_n 1, 1) := by decide +kernel
theorem dX7_begin_47 : decode cX7_begin 47 = .ok (.iload_n 1, 1) := by decide +kernel
theorem dX7_begin_48 : decode cX7_begin 48 = .ok (.bipush 6, 2) := by decide +kernel
theorem dX7_begin_50 : decode cX7_begin 50 = .ok (.if_icmp .ge 44, 3) := by decide +kernel
theorem dX7_begin_53 : decode cX7_begin 53 = .ok (.aload_n 0, 1) := by decide +kernel
theorem dX7_begin_54 : decode cX7_begin 54 = .ok (.getfield 19, 3) := by decide +kernel
theorem dX7_begin_57 : decode cX7_begin 57 = .ok (.iload_n 1, 1) := by decide +kernel
theorem dX7_begin_58 : decode cX7_begin 58 = .ok (.bipush 10, 2) := by decide +kernel
theorem dX7_begin_60 : decode cX7_begin 60 = .ok (.aload_n 0, 1) := by decide +kernel
theorem dX7_begin_61 : decode cX7_begin 61 = .ok (.getfield 3, 3) := by decide +kernel
theorem dX7_begin_64 : decode cX7_begin 64 = .ok (.getfield 69, 3) := by decide +kernel
theorem dX7_begin_67 : decode cX7_begin 67 = .ok (.getfield 78, 3) := by decide +kernel
theorem dX7_begin_70 : decode cX7_begin 70 = .ok (.iload_n 1, 1) := by decide +kernel
theorem dX7_begin_71 : decode cX7_begin 71 = .ok (.iaload, 1) := by decide +kernel
theorem dX7_begin_72 : decode cX7_begin 72 = .ok (.imul, 1) := by decide +kernel
theorem dX7_begin_73 : decode cX7_begin 73 = .ok (.iastore, 1) := by decide +kernel
theorem dX7_begin_74 : decode cX7_begin 74 = .ok (.aload_n 0, 1) := by decide +kernel
theorem dX7_begin_75 : decode cX7_begin 75 = .ok (.getfield 22, 3) := by decide +kernel
theorem dX7_begin_78 : decode cX7_begin 78 = .ok (.iload_n 1, 1) := by decide +kernel
theorem dX7_begin_79 : decode cX7_begin 79 = .ok (.iconst (-1), 1) := by decide +kernel
theorem dX7_begin_80 : decode cX7_begin 80 = .ok (.iastore, 1) := by decide +kernel
theorem dX7_begin_81 : decode cX7_begin 81 = .ok (.aload_n 0, 1) := by decide +kernel
theorem dX7_begin_82 : decode cX7_begin 82 = .ok (.getfield 25, 3) := by decide +kernel
theorem dX7_begin_85 : decode cX7_begin 85 = .ok (.iload_n 1, 1) := by decide +kernel
theorem dX7_begin_86 : decode cX7_begin 86 = .ok (.iconst 0, 1) := by decide +kernel
theorem dX7_begin_87 : decode cX7_begin 87 = .ok (.iastore, 1) := by decide +kernel
theorem dX7_begin_88 : decode cX7_begin 88 = .ok (.iinc 1 1, 3) := by decide +kernel
theorem dX7_begin_91 : decode cX7_begin 91 = .ok (.goto (-44), 3) := by decide +kernel
theorem dX7_begin_94 : decode cX7_begin 94 = .ok (.iconst 0, 1) := by decide +kernel
theorem dX7_begin_95 : decode cX7_begin 95 = .ok (.istore_n 1, 1) := by decide +kernel
theorem dX7_begin_96 : decode cX7_begin 96 = .ok (.iload_n 1, 1) := by decide +kernel
theorem dX7_begin_97 : decode cX7_begin 97 = .ok (.bipush 8, 2) := by decide +kernel
theorem dX7_begin_99 : decode cX7_begin 99 = .ok (.if_icmp .ge 73, 3) := by decide +kernel
theorem dX7_begin_102 : decode cX7_begin 102 = .ok (.aload_n 0, 1) := by decide +kernel
theorem dX7_begin_103 : decode cX7_begin 103 = .ok (.getfield 28, 3) := by decide +kernel
theorem dX7_begin_106 : decode cX7_begin 106 = .ok (.iload_n 1, 1) := by decide +kernel
theorem dX7_begin_107 : decode cX7_begin 107 = .ok (.iconst 0, 1) := by decide +kernel
theorem dX7_begin_108 : decode cX7_begin 108 = .ok (.iastore, 1) := by decide +kernel
theorem dX7_begin_109 : decode cX7_begin 109 = .ok (.aload_n 0, 1) := by decide +kernel
theorem dX7_begin_110 : decode cX7_begin 110 = .ok (.getfield 31, 3) := by decide +kernel
theorem dX7_begin_113 : decode cX7_begin 113 = .ok (.iload_n 1, 1) := by decide +kernel
theorem dX7_begin_114 : decode cX7_begin 114 = .ok (.aload_n 0, 1) := by decide +kernel
theorem dX7_begin_115 : decode cX7_begin 115 = .ok (.getfield 3, 3) := by decide +kernel
theorem dX7_begin_118 : decode cX7_begin 118 = .ok (.getfield 69, 3) := by decide +kernel
theorem dX7_begin_121 : decode cX7_begin 121 = .ok (.getfield 81, 3) := by decide +kernel
theorem dX7_begin_124 : decode cX7_begin 124 = .ok (.iload_n 1, 1) := by decide +kernel
theorem dX7_begin_125 : decode cX7_begin 125 = .ok (.iaload, 1) := by decide +kernel
theorem dX7_begin_126 : decode cX7_begin 126 = .ok (.iastore, 1) := by decide +kernel
theorem dX7_begin_127 : decode cX7_begin 127 = .ok (.aload_n 0, 1) := by decide +kernel
theorem dX7_begin_128 : decode cX7_begin 128 = .ok (.getfield 34, 3) := by decide +kernel
theorem dX7_begin_131 : decode cX7_begin 131 = .ok (.iload_n 1, 1) := by decide +kernel
theorem dX7_begin_132 : decode cX7_begin 132 = .ok (.aload_n 0, 1) := by decide +kernel
theorem dX7_begin_133 : decode cX7_begin 133 = .ok (.getfield 3, 3) := by decide +kernel
theorem dX7_begin_136 : decode cX7_begin 136 = .ok (.getfield 69, 3) := by decide +kernel
theorem dX7_begin_139 : decode cX7_begin 139 = .ok (.getfield 82, 3) := by decide +kernel
theorem dX7_begin_142 : decode cX7_begin 142 = .ok (.iload_n 1, 1) := by decide +kernel
theorem dX7_begin_143 : decode cX7_begin 143 = .ok (.iaload, 1) := by decide +kernel
theorem dX7_begin_144 : decode cX7_begin 144 = .ok (.iastore, 1) := by decide +kernel
theorem dX7_begin_145 : decode cX7_begin 145 = .ok (.aload_n 0, 1) := by decide +kernel
theorem dX7_begin_146 : decode cX7_begin 146 = .ok (.getfield 37, 3) := by decide +kernel
theorem dX7_begin_149 : decode cX7_begin 149 = .ok (.iload_n 1, 1) := by decide +kernel
theorem dX7_begin_150 : decode cX7_begin 150 = .ok (.iconst (-1), 1) := by decide +kernel
theorem dX7_begin_151 : decode cX7_begin 151 = .ok (.iastore, 1) := by decide +kernel
theorem dX7_begin_152 : decode cX7_begin 152 = .ok (.aload_n 0, 1) := by decide +kernel
theorem dX7_begin_153 : decode cX7_begin 153 = .ok (.getfield 40, 3) := by decide +kernel
theorem dX7_begin_156 : decode cX7_begin 156 = .ok (.iload_n 1, 1) := by decide +kernel
theorem dX7_begin_157 : decode cX7_begin 157 = .ok (.iconst 0, 1) := by decide +kernel
theorem dX7_begin_158 : decode cX7_begin 158 = .ok (.iastore, 1) := by decide +kernel
theorem dX7_begin_159 : decode cX7_begin 159 = .ok (.aload_n 0, 1) := by decide +kernel
theorem dX7_begin_160 : decode cX7_begin 160 = .ok (.getfield 43, 3) := by decide +kernel
theorem dX7_begin_163 : decode cX7_begin 163 = .ok (.iload_n 1, 1) := by decide +kernel
theorem dX7_begin_164 : decode cX7_begin 164 = .ok (.iconst (-1), 1) := by decide +kernel
theorem dX7_begin_165 : decode cX7_begin 165 = .ok (.iastore, 1) := by decide +kernel
theorem dX7_begin_166 : decode cX7_begin 166 = .ok (.iinc 1 1, 3) := by decide +kernel
theorem dX7_begin_169 : decode cX7_begin 169 = .ok (.goto (-73), 3) := by decide +kernel
theorem dX7_begin_172 : decode cX7_begin 172 = .ok (.return_, 1) := by decide +kernel
theorem mi_X7_become : MInfo yX7_become cX7_become 2 (some (.object "TunnelLeggersModel$State")) 1 := ⟨wq_1924, wq_137, by decide, ⟨by decide +kernel, by decide +kernel, by decide +kernel⟩, by decide +kernel⟩
theorem mi_X7_begin : MInfo yX7_begin cX7_begin 2 none 0 := ⟨wq_1418, wq_137, by decide, ⟨by decide +kernel, by decide +kernel, by decide +kernel⟩, by decide +kernel⟩
def wp_X7_become (O : M2) (S : M2) (K : M2 → Prop) : Prop := (∀ S_5 : M2, S_5 = up2 S 200 (fun _ => O 200 0) → (∀ S_13 : M2, S_13 = up2 S_5 201 (fun _ => O 201 0) → (∀ S_18 : M2, S_18 = up2 S_13 212 (fun _ => (-1)) → (∀ S_30 : M2, S_30 = up2 S_18 202 (O 202) → (∀ S_42 : M2, S_42 = up2 S_30 203 (O 203) → (∀ S_54 : M2, S_54 = up2 S_42 204 (O 204) → (∀ S_66 : M2, S_66 = up2 S_54 205 (O 205) → (∀ S_78 : M2, S_78 = up2 S_66 206 (O 206) → (∀ S_90 : M2, S_90 = up2 S_78 207 (O 207) → (∀ S_102 : M2, S_102 = up2 S_90 208 (O 208) → (∀ S_114 : M2, S_114 = up2 S_102 209 (O 209) → (∀ S_126 : M2, S_126 = up2 S_114 210 (O 210) → (∀ S_138 : M2, S_138 = up2 S_126 211 (O 211) → K S_138)))))))))))))
set_option maxRecDepth 100000 in
set_option maxHeartbeats 4000000 in
theorem c_X7_become (l : Launch) (D : va_G) (Z : Nat → ClassId) (a b g : Nat → Nat) (O : M2) (S : M2) (sz : Nat) (K : M2 → Prop) (hm : wp_X7_become O S K) : Met l yX7_become (wy yX7_become cX7_become 2 (some (.object "TunnelLeggersModel$State"))) (rk 2 0 0) (pre vwCl D Z (SS Z a b g O S) sz [.ref (a 200), .ref (b 200)]) (poR vwCl D Z (SS Z a b g O) S sz (a 200) K) 0 0 (va_A (SS Z a b g O S) sz) := by
  refine rwr_of (C := "TunnelLeggersModel$State") (a0 := a 200) (wsF := (SS Z a b g O)) (u0 := S) (by decide +kernel) (Nat.le_of_ble_eq_true rfl) rfl ?_
  intro p e s m args below meth c Q A hC hN hsz hT hK hret ls hl
  have hx := hC.1
  have hb := hC.2.1
  have hl : lv_has ls 2 [(0, .ref (a 200)), (1, .ref (b 200))] := hl
  have hT : TS vwCl D (SS Z a b g O S) A s.heap s.heap [] := hT
  refine lv_aload_n hx hb dX7_become_0 rfl (lv_at hl 0 rfl) ?_
  refine lv_aload_n hx hb dX7_become_1 rfl (lv_at hl 1 rfl) ?_
  refine gSS_ost_0 hC hK hT.1 wq_1356 dX7_become_2 ?_
  refine pSS_st_0 hC hK hT wq_1356 dX7_become_5 (fun S_5 eS_5 H locs hT => ?_)
  have hm := hm S_5 eS_5
  refine lv_aload_n hx hb dX7_become_8 rfl (lv_at hl 0 rfl) ?_
  refine lv_aload_n hx hb dX7_become_9 rfl (lv_at hl 1 rfl) ?_
  refine gSS_ost_1 hC hK hT.1 wq_1358 dX7_become_10 ?_
  refine pSS_st_1 hC hK hT wq_1358 dX7_become_13 (fun S_13 eS_13 H locs hT => ?_)
  have hm := hm S_13 eS_13
  refine lv_aload_n hx hb dX7_become_16 rfl (lv_at hl 0 rfl) ?_
  refine lv_iconst (v := (-1)) hx hb dX7_become_17 (by decide) ?_
  refine pSS_st_12 hC hK hT wq_1380 dX7_become_18 (fun S_18 eS_18 H locs hT => ?_)
  have hm := hm S_18 eS_18
  refine lv_aload_n hx hb dX7_become_21 rfl (lv_at hl 0 rfl) ?_
  refine lv_aload_n hx hb dX7_become_22 rfl (lv_at hl 1 rfl) ?_
  refine gSS_ost_2 hC hK hT.1 wq_1360 dX7_become_23 ?_
  refine lv_aload_n hx hb dX7_become_26 rfl (lv_at hl 0 rfl) ?_
  refine gSS_st_2 hC hK hT.1 wq_1360 dX7_become_27 ?_
  refine cpSS_oair_air hC hN hK hT wq_1925 (by decide) hl.1 (Nat.le_of_ble_eq_true rfl) ⟨Nat.le_refl _, Nat.le_refl _⟩ dX7_become_30 (fun S_30 eS_30 H locs hT => ?_)
  have hm := hm S_30 eS_30
  refine lv_aload_n hx hb dX7_become_33 rfl (lv_at hl 0 rfl) ?_
  refine lv_aload_n hx hb dX7_become_34 rfl (lv_at hl 1 rfl) ?_
  refine gSS_ost_3 hC hK hT.1 wq_1362 dX7_become_35 ?_
  refine lv_aload_n hx hb dX7_become_38 rfl (lv_at hl 0 rfl) ?_
  refine gSS_st_3 hC hK hT.1 wq_1362 dX7_become_39 ?_
  refine cpSS_obreath_breath hC hN hK hT wq_1925 (by decide) hl.1 (Nat.le_of_ble_eq_true rfl) ⟨Nat.le_refl _, Nat.le_refl _⟩ dX7_become_42 (fun S_42 eS_42 H locs hT => ?_)
  have hm := hm S_42 eS_42
  refine lv_aload_n hx hb dX7_become_45 rfl (lv_at hl 0 rfl) ?_
  refine lv_aload_n hx hb dX7_become_46 rfl (lv_at hl 1 rfl) ?_
  refine gSS_ost_4 hC hK hT.1 wq_1364 dX7_become_47 ?_
  refine lv_aload_n hx hb dX7_become_50 rfl (lv_at hl 0 rfl) ?_
  refine gSS_st_4 hC hK hT.1 wq_1364 dX7_become_51 ?_
  refine cpSS_ocapAt_capAt hC hN hK hT wq_1925 (by decide) hl.1 (Nat.le_of_ble_eq_true rfl) ⟨Nat.le_refl _, Nat.le_refl _⟩ dX7_become_54 (fun S_54 eS_54 H locs hT => ?_)
  have hm := hm S_54 eS_54
  refine lv_aload_n hx hb dX7_become_57 rfl (lv_at hl 0 rfl) ?_
  refine lv_aload_n hx hb dX7_become_58 rfl (lv_at hl 1 rfl) ?_
  refine gSS_ost_5 hC hK hT.1 wq_1366 dX7_become_59 ?_
  refine lv_aload_n hx hb dX7_become_62 rfl (lv_at hl 0 rfl) ?_
  refine gSS_st_5 hC hK hT.1 wq_1366 dX7_become_63 ?_
  refine cpSS_owalks_walks hC hN hK hT wq_1925 (by decide) hl.1 (Nat.le_of_ble_eq_true rfl) ⟨Nat.le_refl _, Nat.le_refl _⟩ dX7_become_66 (fun S_66 eS_66 H locs hT => ?_)
  have hm := hm S_66 eS_66
  refine lv_aload_n hx hb dX7_become_69 rfl (lv_at hl 0 rfl) ?_
  refine lv_aload_n hx hb dX7_become_70 rfl (lv_at hl 1 rfl) ?_
  refine gSS_ost_6 hC hK hT.1 wq_1368 dX7_become_71 ?_
  refine lv_aload_n hx hb dX7_become_74 rfl (lv_at hl 0 rfl) ?_
  refine gSS_st_6 hC hK hT.1 wq_1368 dX7_become_75 ?_
  refine cpSS_ois_is hC hN hK hT wq_1925 (by decide) hl.1 (Nat.le_of_ble_eq_true rfl) ⟨Nat.le_refl _, Nat.le_refl _⟩ dX7_become_78 (fun S_78 eS_78 H locs hT => ?_)
  have hm := hm S_78 eS_78
  refine lv_aload_n hx hb dX7_become_81 rfl (lv_at hl 0 rfl) ?_
  refine lv_aload_n hx hb dX7_become_82 rfl (lv_at hl 1 rfl) ?_
  refine gSS_ost_7 hC hK hT.1 wq_1370 dX7_become_83 ?_
  refine lv_aload_n hx hb dX7_become_86 rfl (lv_at hl 0 rfl) ?_
  refine gSS_st_7 hC hK hT.1 wq_1370 dX7_become_87 ?_
  refine cpSS_oend_end hC hN hK hT wq_1925 (by decide) hl.1 (Nat.le_of_ble_eq_true rfl) ⟨Nat.le_refl _, Nat.le_refl _⟩ dX7_become_90 (fun S_90 eS_90 H locs hT => ?_)
  have hm := hm S_90 eS_90
  refine lv_aload_n hx hb dX7_become_93 rfl (lv_at hl 0 rfl) ?_
  refine lv_aload_n hx hb dX7_become_94 rfl (lv_at hl 1 rfl) ?_
  refine gSS_ost_8 hC hK hT.1 wq_1372 dX7_become_95 ?_
  refine lv_aload_n hx hb dX7_become_98 rfl (lv_at hl 0 rfl) ?_
  refine gSS_st_8 hC hK hT.1 wq_1372 dX7_become_99 ?_
  refine cpSS_odue_due hC hN hK hT wq_1925 (by decide) hl.1 (Nat.le_of_ble_eq_true rfl) ⟨Nat.le_refl _, Nat.le_refl _⟩ dX7_become_102 (fun S_102 eS_102 H locs hT => ?_)
  have hm := hm S_102 eS_102
  refine lv_aload_n hx hb dX7_become_105 rfl (lv_at hl 0 rfl) ?_
  refine lv_aload_n hx hb dX7_become_106 rfl (lv_at hl 1 rfl) ?_
  refine gSS_ost_9 hC hK hT.1 wq_1374 dX7_become_107 ?_
  refine lv_aload_n hx hb dX7_become_110 rfl (lv_at hl 0 rfl) ?_
  refine gSS_st_9 hC hK hT.1 wq_1374 dX7_become_111 ?_
  refine cpSS_oat_at hC hN hK hT wq_1925 (by decide) hl.1 (Nat.le_of_ble_eq_true rfl) ⟨Nat.le_refl _, Nat.le_refl _⟩ dX7_become_114 (fun S_114 eS_114 H locs hT => ?_)
  have hm := hm S_114 eS_114
  refine lv_aload_n hx hb dX7_become_117 rfl (lv_at hl 0 rfl) ?_
  refine lv_aload_n hx hb dX7_become_118 rfl (lv_at hl 1 rfl) ?_
  refine gSS_ost_10 hC hK hT.1 wq_1376 dX7_become_119 ?_
  refine lv_aload_n hx hb dX7_become_122 rfl (lv_at hl 0 rfl) ?_
  refine gSS_st_10 hC hK hT.1 wq_1376 dX7_become_123 ?_
  refine cpSS_ospushed_spushed hC hN hK hT wq_1925 (by decide) hl.1 (Nat.le_of_ble_eq_true rfl) ⟨Nat.le_refl _, Nat.le_refl _⟩ dX7_become_126 (fun S_126 eS_126 H locs hT => ?_)
  have hm := hm S_126 eS_126
  refine lv_aload_n hx hb dX7_become_129 rfl (lv_at hl 0 rfl) ?_
  refine lv_aload_n hx hb dX7_become_130 rfl (lv_at hl 1 rfl) ?_
  refine gSS_ost_11 hC hK hT.1 wq_1378 dX7_become_131 ?_
  refine lv_aload_n hx hb dX7_become_134 rfl (lv_at hl 0 rfl) ?_
  refine gSS_st_11 hC hK hT.1 wq_1378 dX7_become_135 ?_
  refine cpSS_oout_out hC hN hK hT wq_1925 (by decide) hl.1 (Nat.le_of_ble_eq_true rfl) ⟨Nat.le_refl _, Nat.le_refl _⟩ dX7_become_138 (fun S_138 eS_138 H locs hT => ?_)
  have hm := hm S_138 eS_138
  refine lv_aload_n hx hb dX7_become_141 rfl (lv_at hl 0 rfl) ?_
  exact hret 142 _ _ _ _ hm hT dX7_become_142
section KX7_become
variable {p : Program} {l : Launch} {e : Env} {s : State} {m : MethodId} {args : Array Value} {below : List Frame} {meth : Method} {c : Code} {H H0 : Heap} {locs : List Loc} {cells slots : Nat} {Q : State → Prop} {R : Room} {rn mcR msR : Nat}
variable {pc : Nat} {ls : Array Slot} {rest : List Value} {A : Nat → Prop} {D : va_G}
variable {cc : ByteArray} {nL index : Nat} {own host : String}
end KX7_become
def wl_X7_begin_96 (N : M2) (P : M2) (K : M2 → Prop) : Nat → M2 → Int32 → Prop
  | 0, _, _ => False
  | n + 1, S, v1 => ((8 ≤ v1 → K S) ∧ (¬ 8 ≤ v1 → (inb v1 8 ∧ ∀ S_108 : M2, S_108 = up2 S 206 (upd (S 206) v1.toInt.toNat 0) → (inb v1 8 ∧ (inb v1 8 ∧ ∀ S_126 : M2, S_126 = up2 S_108 207 (upd (S_108 207) v1.toInt.toNat (P 254 v1.toInt.toNat)) → (inb v1 8 ∧ (inb v1 8 ∧ ∀ S_144 : M2, S_144 = up2 S_126 208 (upd (S_126 208) v1.toInt.toNat (P 255 v1.toInt.toNat)) → (inb v1 8 ∧ ∀ S_151 : M2, S_151 = up2 S_144 209 (upd (S_144 209) v1.toInt.toNat ((-1))) → (inb v1 8 ∧ ∀ S_158 : M2, S_158 = up2 S_151 210 (upd (S_151 210) v1.toInt.toNat 0) → (inb v1 8 ∧ ∀ S_165 : M2, S_165 = up2 S_158 211 (upd (S_158 211) v1.toInt.toNat ((-1))) → (∀ v1_166 : Int32, v1_166 = v1 + 1 → wl_X7_begin_96 N P K n S_165 v1_166)))))))))))
def wl_X7_begin_47 (N : M2) (P : M2) (K : M2 → Prop) : Nat → M2 → Int32 → Prop
  | 0, _, _ => False
  | n + 1, S, v1 => ((6 ≤ v1 → wl_X7_begin_96 N P K fK S 0) ∧ (¬ 6 ≤ v1 → (inb v1 6 ∧ (inb v1 6 ∧ ∀ S_73 : M2, S_73 = up2 S 203 (upd (S 203) v1.toInt.toNat (10 * (P 251 v1.toInt.toNat))) → (inb v1 6 ∧ ∀ S_80 : M2, S_80 = up2 S_73 204 (upd (S_73 204) v1.toInt.toNat ((-1))) → (inb v1 6 ∧ ∀ S_87 : M2, S_87 = up2 S_80 205 (upd (S_80 205) v1.toInt.toNat 0) → (∀ v1_88 : Int32, v1_88 = v1 + 1 → wl_X7_begin_47 N P K n S_87 v1_88)))))))
def wl_X7_begin_7 (N : M2) (P : M2) (K : M2 → Prop) : Nat → M2 → Int32 → Prop
  | 0, _, _ => False
  | n + 1, S, v1 => ((60 ≤ v1 → wl_X7_begin_47 N P K fK S 0) ∧ (¬ 60 ≤ v1 → (((P 241 0) ≤ v1 → (inb v1 60 ∧ ∀ S_38 : M2, S_38 = up2 S 202 (upd (S 202) v1.toInt.toNat 0) → (∀ v1_39 : Int32, v1_39 = v1 + 1 → wl_X7_begin_7 N P K n S_38 v1_39))) ∧ (¬ (P 241 0) ≤ v1 → (inb v1 60 ∧ ∀ S_38 : M2, S_38 = up2 S 202 (upd (S 202) v1.toInt.toNat 100) → (∀ v1_39 : Int32, v1_39 = v1 + 1 → wl_X7_begin_7 N P K n S_38 v1_39))))))
def wp_X7_begin (N : M2) (P : M2) (S : M2) (K : M2 → Prop) : Prop := (∀ S_2 : M2, S_2 = up2 S 201 (fun _ => 0) → wl_X7_begin_7 N P K fK S_2 0)
set_option maxRecDepth 100000 in
set_option maxHeartbeats 4000000 in
theorem c_X7_begin (l : Launch) (D : va_G) (Z : Nat → ClassId) (a q g : Nat → Nat) (rg sa aa : Nat) (N P : M2) (S : M2) (sz : Nat) (K : M2 → Prop) (hm : wp_X7_begin N P S K) : Met l yX7_begin (wy yX7_begin cX7_begin 2 none) (rk 1 0 0) (pre vwCl D Z (SW Z a q g rg sa aa N P S) sz [.ref (a 200)]) (poV vwCl D Z (SW Z a q g rg sa aa N P) S sz K) 0 0 (va_A (SW Z a q g rg sa aa N P S) sz) := by
  refine rwv_of (wsF := (SW Z a q g rg sa aa N P)) (u0 := S) (by decide +kernel) (Nat.le_of_ble_eq_true rfl) rfl ?_
  intro p e s m args below meth c Q A hC hN hsz hnm hT hK hret ls hl
  have hx := hC.1
  have hb := hC.2.1
  have hl : lv_has ls 2 [(0, .ref (a 200))] := hl
  have hT : TS vwCl D (SW Z a q g rg sa aa N P S) A s.heap s.heap [] := hT
  have L96 : ∀ (n96 : Nat), ∀ (S : M2) (v1 : Int32) (H : Heap) (locs : List Loc) (ls : Array Slot), wl_X7_begin_96 N P K n96 S v1 → TS vwCl D (SW Z a q g rg sa aa N P S) A s.heap H locs → lv_has ls 2 [(0, .ref (a 200)), (1, .int v1)] → W p l e (rk 1 0 0) s m args below meth c H locs 0 0 Q (F0 m 96 ls []) := by
    intro n96
    induction n96 with
    | zero =>
      intro S v1 H locs ls hm hT hl
      exact False.elim hm
    | succ n96 ih96 =>
      intro S v1 H locs ls hm hT hl
      refine lv_iload_n hx hb dX7_begin_96 rfl (lv_at hl 1 rfl) ?_
      refine lv_bipush (v := 8) hx hb dX7_begin_97 (by decide) ?_
      refine lv_icmp_ge (tgt := 172) hx hb dX7_begin_99 (by decide) (fun c_99 => ?_) (fun c_99 => ?_)
      · have hm := hm.1 c_99
        exact hret 172 _ _ _ _ hm hT dX7_begin_172
      · have hm := hm.2 c_99
        refine lv_aload_n hx hb dX7_begin_102 rfl (lv_at hl 0 rfl) ?_
        refine gSW_st_6 hC hK hT.1 wq_1368 dX7_begin_103 ?_
        refine lv_iload_n hx hb dX7_begin_106 rfl (lv_at hl 1 rfl) ?_
        refine lv_iconst (v := 0) hx hb dX7_begin_107 (by decide) ?_
        refine sSW_is hC hK hT hm.1 dX7_begin_108 (fun S_108 eS_108 H locs hT => ?_)
        have hm := hm.2 S_108 eS_108
        refine lv_aload_n hx hb dX7_begin_109 rfl (lv_at hl 0 rfl) ?_
        refine gSW_st_7 hC hK hT.1 wq_1370 dX7_begin_110 ?_
        refine lv_iload_n hx hb dX7_begin_113 rfl (lv_at hl 1 rfl) ?_
        refine lv_aload_n hx hb dX7_begin_114 rfl (lv_at hl 0 rfl) ?_
        refine gSW_st_14 hC hK hT.1 wq_1383 dX7_begin_115 ?_
        refine gNSW_mod_11 hC hN hK hT.1 wn_1431 dX7_begin_118 ?_
        refine gNSW_plan_14 hC hN hK hT.1 wn_1265 dX7_begin_121 ?_
        refine lv_iload_n hx hb dX7_begin_124 rfl (lv_at hl 1 rfl) ?_
        refine w_iald (q0 := 23) hC hK hT.1 rfl hm.1 dX7_begin_125 ?_
        have hm := hm.2
        refine sSW_end hC hK hT hm.1 dX7_begin_126 (fun S_126 eS_126 H locs hT => ?_)
        have hm := hm.2 S_126 eS_126
        refine lv_aload_n hx hb dX7_begin_127 rfl (lv_at hl 0 rfl) ?_
        refine gSW_st_8 hC hK hT.1 wq_1372 dX7_begin_128 ?_
        refine lv_iload_n hx hb dX7_begin_131 rfl (lv_at hl 1 rfl) ?_
        refine lv_aload_n hx hb dX7_begin_132 rfl (lv_at hl 0 rfl) ?_
        refine gSW_st_14 hC hK hT.1 wq_1383 dX7_begin_133 ?_
        refine gNSW_mod_11 hC hN hK hT.1 wn_1431 dX7_begin_136 ?_
        refine gNSW_plan_15 hC hN hK hT.1 wn_1268 dX7_begin_139 ?_
        refine lv_iload_n hx hb dX7_begin_142 rfl (lv_at hl 1 rfl) ?_
        refine w_iald (q0 := 24) hC hK hT.1 rfl hm.1 dX7_begin_143 ?_
        have hm := hm.2
        refine sSW_due hC hK hT hm.1 dX7_begin_144 (fun S_144 eS_144 H locs hT => ?_)
        have hm := hm.2 S_144 eS_144
        refine lv_aload_n hx hb dX7_begin_145 rfl (lv_at hl 0 rfl) ?_
        refine gSW_st_9 hC hK hT.1 wq_1374 dX7_begin_146 ?_
        refine lv_iload_n hx hb dX7_begin_149 rfl (lv_at hl 1 rfl) ?_
        refine lv_iconst (v := (-1)) hx hb dX7_begin_150 (by decide) ?_
        refine sSW_at hC hK hT hm.1 dX7_begin_151 (fun S_151 eS_151 H locs hT => ?_)
        have hm := hm.2 S_151 eS_151
        refine lv_aload_n hx hb dX7_begin_152 rfl (lv_at hl 0 rfl) ?_
        refine gSW_st_10 hC hK hT.1 wq_1376 dX7_begin_153 ?_
        refine lv_iload_n hx hb dX7_begin_156 rfl (lv_at hl 1 rfl) ?_
        refine lv_iconst (v := 0) hx hb dX7_begin_157 (by decide) ?_
        refine sSW_spushed hC hK hT hm.1 dX7_begin_158 (fun S_158 eS_158 H locs hT => ?_)
        have hm := hm.2 S_158 eS_158
        refine lv_aload_n hx hb dX7_begin_159 rfl (lv_at hl 0 rfl) ?_
        refine gSW_st_11 hC hK hT.1 wq_1378 dX7_begin_160 ?_
        refine lv_iload_n hx hb dX7_begin_163 rfl (lv_at hl 1 rfl) ?_
        refine lv_iconst (v := (-1)) hx hb dX7_begin_164 (by decide) ?_
        refine sSW_out hC hK hT hm.1 dX7_begin_165 (fun S_165 eS_165 H locs hT => ?_)
        have hm := hm.2 S_165 eS_165
        obtain ⟨v1_166, ev1_166⟩ : ∃ y : Int32, y = v1 + 1 := ⟨_, rfl⟩
        have hm := hm v1_166 ev1_166
        refine lv_iinc (v := v1_166) (lv' := [(1, .int v1_166), (0, .ref (a 200))]) hx hb dX7_begin_166 hl (k := 1) rfl (by rw [ev1_166]; rfl) (by decide) rfl (fun ls hl => ?_)
        refine lv_goto (tgt := 96) hx hb dX7_begin_169 (by decide) ?_
        exact ih96 _ _ _ _ _ hm hT (lv_sub hl [1, 0] rfl)
  have L47 : ∀ (n47 : Nat), ∀ (S : M2) (v1 : Int32) (H : Heap) (locs : List Loc) (ls : Array Slot), wl_X7_begin_47 N P K n47 S v1 → TS vwCl D (SW Z a q g rg sa aa N P S) A s.heap H locs → lv_has ls 2 [(0, .ref (a 200)), (1, .int v1)] → W p l e (rk 1 0 0) s m args below meth c H locs 0 0 Q (F0 m 47 ls []) := by
    intro n47
    induction n47 with
    | zero =>
      intro S v1 H locs ls hm hT hl
      exact False.elim hm
    | succ n47 ih47 =>
      intro S v1 H locs ls hm hT hl
      refine lv_iload_n hx hb dX7_begin_47 rfl (lv_at hl 1 rfl) ?_
      refine lv_bipush (v := 6) hx hb dX7_begin_48 (by decide) ?_
      refine lv_icmp_ge (tgt := 94) hx hb dX7_begin_50 (by decide) (fun c_50 => ?_) (fun c_50 => ?_)
      · have hm := hm.1 c_50
        refine lv_iconst (v := 0) hx hb dX7_begin_94 (by decide) ?_
        refine lv_istore_n (lv' := [(1, .int 0), (0, .ref (a 200))]) hx hb dX7_begin_95 rfl hl (by decide) rfl (fun ls hl => ?_)
        exact L96 _ _ _ _ _ _ hm hT (lv_sub hl [1, 0] rfl)
      · have hm := hm.2 c_50
        refine lv_aload_n hx hb dX7_begin_53 rfl (lv_at hl 0 rfl) ?_
        refine gSW_st_3 hC hK hT.1 wq_1362 dX7_begin_54 ?_
        refine lv_iload_n hx hb dX7_begin_57 rfl (lv_at hl 1 rfl) ?_
        refine lv_bipush (v := 10) hx hb dX7_begin_58 (by decide) ?_
        refine lv_aload_n hx hb dX7_begin_60 rfl (lv_at hl 0 rfl) ?_
        refine gSW_st_14 hC hK hT.1 wq_1383 dX7_begin_61 ?_
        refine gNSW_mod_11 hC hN hK hT.1 wn_1431 dX7_begin_64 ?_
        refine gNSW_plan_11 hC hN hK hT.1 wn_1257 dX7_begin_67 ?_
        refine lv_iload_n hx hb dX7_begin_70 rfl (lv_at hl 1 rfl) ?_
        refine w_iald (q0 := 21) hC hK hT.1 rfl hm.1 dX7_begin_71 ?_
        have hm := hm.2
        refine lv_imul hx hb dX7_begin_72 ?_
        refine sSW_breath hC hK hT hm.1 dX7_begin_73 (fun S_73 eS_73 H locs hT => ?_)
        have hm := hm.2 S_73 eS_73
        refine lv_aload_n hx hb dX7_begin_74 rfl (lv_at hl 0 rfl) ?_
        refine gSW_st_4 hC hK hT.1 wq_1364 dX7_begin_75 ?_
        refine lv_iload_n hx hb dX7_begin_78 rfl (lv_at hl 1 rfl) ?_
        refine lv_iconst (v := (-1)) hx hb dX7_begin_79 (by decide) ?_
        refine sSW_capAt hC hK hT hm.1 dX7_begin_80 (fun S_80 eS_80 H locs hT => ?_)
        have hm := hm.2 S_80 eS_80
        refine lv_aload_n hx hb dX7_begin_81 rfl (lv_at hl 0 rfl) ?_
        refine gSW_st_5 hC hK hT.1 wq_1366 dX7_begin_82 ?_
        refine lv_iload_n hx hb dX7_begin_85 rfl (lv_at hl 1 rfl) ?_
        refine lv_iconst (v := 0) hx hb dX7_begin_86 (by decide) ?_
        refine sSW_walks hC hK hT hm.1 dX7_begin_87 (fun S_87 eS_87 H locs hT => ?_)
        have hm := hm.2 S_87 eS_87
        obtain ⟨v1_88, ev1_88⟩ : ∃ y : Int32, y = v1 + 1 := ⟨_, rfl⟩
        have hm := hm v1_88 ev1_88
        refine lv_iinc (v := v1_88) (lv' := [(1, .int v1_88), (0, .ref (a 200))]) hx hb dX7_begin_88 hl (k := 1) rfl (by rw [ev1_88]; rfl) (by decide) rfl (fun ls hl => ?_)
        refine lv_goto (tgt := 47) hx hb dX7_begin_91 (by decide) ?_
        exact ih47 _ _ _ _ _ hm hT (lv_sub hl [1, 0] rfl)
  have L7 : ∀ (n7 : Nat), ∀ (S : M2) (v1 : Int32) (H : Heap) (locs : List Loc) (ls : Array Slot), wl_X7_begin_7 N P K n7 S v1 → TS vwCl D (SW Z a q g rg sa aa N P S) A s.heap H locs → lv_has ls 2 [(0, .ref (a 200)), (1, .int v1)] → W p l e (rk 1 0 0) s m args below meth c H locs 0 0 Q (F0 m 7 ls []) := by
    intro n7
    induction n7 with
    | zero =>
      intro S v1 H locs ls hm hT hl
      exact False.elim hm
    | succ n7 ih7 =>
      intro S v1 H locs ls hm hT hl
      refine lv_iload_n hx hb dX7_begin_7 rfl (lv_at hl 1 rfl) ?_
      refine lv_bipush (v := 60) hx hb dX7_begin_8 (by decide) ?_
      refine lv_icmp_ge (tgt := 45) hx hb dX7_begin_10 (by decide) (fun c_10 => ?_) (fun c_10 => ?_)
      · have hm := hm.1 c_10
        refine lv_iconst (v := 0) hx hb dX7_begin_45 (by decide) ?_
        refine lv_istore_n (lv' := [(1, .int 0), (0, .ref (a 200))]) hx hb dX7_begin_46 rfl hl (by decide) rfl (fun ls hl => ?_)
        exact L47 _ _ _ _ _ _ hm hT (lv_sub hl [1, 0] rfl)
      · have hm := hm.2 c_10
        refine lv_aload_n hx hb dX7_begin_13 rfl (lv_at hl 0 rfl) ?_
        refine gSW_st_2 hC hK hT.1 wq_1360 dX7_begin_14 ?_
        refine lv_iload_n hx hb dX7_begin_17 rfl (lv_at hl 1 rfl) ?_
        refine lv_iload_n hx hb dX7_begin_18 rfl (lv_at hl 1 rfl) ?_
        refine lv_aload_n hx hb dX7_begin_19 rfl (lv_at hl 0 rfl) ?_
        refine gSW_st_14 hC hK hT.1 wq_1383 dX7_begin_20 ?_
        refine gNSW_mod_11 hC hN hK hT.1 wn_1431 dX7_begin_23 ?_
        refine gNSW_plan_1 hC hN hK hT.1 wn_1231 dX7_begin_26 ?_
        refine lv_icmp_ge (tgt := 37) hx hb dX7_begin_29 (by decide) (fun c_29 => ?_) (fun c_29 => ?_)
        · have hm := hm.1 c_29
          refine lv_iconst (v := 0) hx hb dX7_begin_37 (by decide) ?_
          refine sSW_air hC hK hT hm.1 dX7_begin_38 (fun S_38 eS_38 H locs hT => ?_)
          have hm := hm.2 S_38 eS_38
          obtain ⟨v1_39, ev1_39⟩ : ∃ y : Int32, y = v1 + 1 := ⟨_, rfl⟩
          have hm := hm v1_39 ev1_39
          refine lv_iinc (v := v1_39) (lv' := [(1, .int v1_39), (0, .ref (a 200))]) hx hb dX7_begin_39 hl (k := 1) rfl (by rw [ev1_39]; rfl) (by decide) rfl (fun ls hl => ?_)
          refine lv_goto (tgt := 7) hx hb dX7_begin_42 (by decide) ?_
          exact ih7 _ _ _ _ _ hm hT (lv_sub hl [1, 0] rfl)
        · have hm := hm.2 c_29
          refine lv_bipush (v := 100) hx hb dX7_begin_32 (by decide) ?_
          refine lv_goto (tgt := 38) hx hb dX7_begin_34 (by decide) ?_
          refine sSW_air hC hK hT hm.1 dX7_begin_38 (fun S_38 eS_38 H locs hT => ?_)
          have hm := hm.2 S_38 eS_38
          obtain ⟨v1_39, ev1_39⟩ : ∃ y : Int32, y = v1 + 1 := ⟨_, rfl⟩
          have hm := hm v1_39 ev1_39
          refine lv_iinc (v := v1_39) (lv' := [(1, .int v1_39), (0, .ref (a 200))]) hx hb dX7_begin_39 hl (k := 1) rfl (by rw [ev1_39]; rfl) (by decide) rfl (fun ls hl => ?_)
          refine lv_goto (tgt := 7) hx hb dX7_begin_42 (by decide) ?_
          exact ih7 _ _ _ _ _ hm hT (lv_sub hl [1, 0] rfl)
  refine lv_aload_n hx hb dX7_begin_0 rfl (lv_at hl 0 rfl) ?_
  refine lv_iconst (v := 0) hx hb dX7_begin_1 (by decide) ?_
  refine pSW_st_1 hC hK hT wq_1358 dX7_begin_2 (fun S_2 eS_2 H locs hT => ?_)
  have hm := hm S_2 eS_2
  refine lv_iconst (v := 0) hx hb dX7_begin_5 (by decide) ?_
  refine lv_istore_n (lv' := [(1, .int 0), (0, .ref (a 200))]) hx hb dX7_begin_6 rfl hl (by decide) rfl (fun ls hl => ?_)
  exact L7 _ _ _ _ _ _ hm hT (lv_sub hl [1, 0] rfl)
section KX7_begin
variable {p : Program} {l : Launch} {e : Env} {s : State} {m : MethodId} {args : Array Value} {below : List Frame} {meth : Method} {c : Code} {H H0 : Heap} {locs : List Loc} {cells slots : Nat} {Q : State → Prop} {R : Room} {rn mcR msR : Nat}
variable {pc : Nat} {ls : Array Slot} {rest : List Value} {A : Nat → Prop} {D : va_G}
variable {cc : ByteArray} {nL index : Nat} {own host : String}
end KX7_begin
