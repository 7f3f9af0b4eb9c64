def KB (Z : Nat → ClassId) (a q : Nat → Nat) (rp : Nat) (bp : Nat) (F : M2) (L : L2) : va_W := [(a 60, .inr (2, [.ref (a 70), .ref (a 61), .ref (a 62), .ref (a 63), .ref (a 64), .ref rp, .int (F 66 0), .int (F 67 0), .int (F 68 0), .int (F 69 0)])), (a 61, .inl (Z 1, 5, .inr (.inl (L 61)))), (a 62, .inl (Z 1, 4, .inr (.inl (L 62)))), (a 63, .inl (Z 1, 6, .inr (.inl (L 63)))), (a 64, .inl (Z 1, 8, .inr (.inl (L 64)))), (a 70, .inr (3, [.ref (a 71), .ref (a 72), .int (F 73 0), .ref (a 74), .ref (a 75), .ref (a 76), .ref bp, .int (F 78 0)])), (a 71, .inl (Z 1, 40, .inr (.inl (L 71)))), (a 72, .inl (Z 0, 40, .inl (F 72))), (a 74, .inl (Z 0, 401, .inl (F 74))), (a 75, .inl (Z 0, 401, .inl (F 75))), (a 76, .inl (Z 1, 401, .inr (.inl (L 76)))), (a 80, .inl (Z 2, 2000, .inl (F 80))), (q 20, .inr (1, [.int (F 20 0), .int (F 21 0), .int (F 22 0), .int (F 23 0), .int (F 24 0), .ref (q 25), .ref (q 26), .ref (q 27), .ref (q 28), .ref (q 29), .ref (q 30), .ref (q 31), .ref (q 32), .ref (q 33), .ref (q 34), .ref (q 35), .ref (q 36), .ref (q 37), .ref (q 40)])), (q 25, .inl (Z 0, 5, .inl (F 25))), (q 26, .inl (Z 0, 5, .inl (F 26))), (q 27, .inl (Z 0, 5, .inl (F 27))), (q 28, .inl (Z 0, 60, .inl (F 28))), (q 29, .inl (Z 0, 4, .inl (F 29))), (q 30, .inl (Z 0, 4, .inl (F 30))), (q 31, .inl (Z 0, 6, .inl (F 31))), (q 32, .inl (Z 0, 6, .inl (F 32))), (q 33, .inl (Z 0, 8, .inl (F 33))), (q 34, .inl (Z 0, 8, .inl (F 34))), (q 35, .inl (Z 0, 8, .inl (F 35))), (q 36, .inl (Z 0, 8, .inl (F 36))), (q 37, .inl (Z 0, 8, .inl (F 37))), (q 40, .inr (0, [.int (F 40 0), .ref (q 41), .ref (q 42), .ref (q 43), .ref (q 44), .int (F 45 0), .ref (q 46), .ref (q 47)])), (q 41, .inl (Z 0, 16, .inl (F 41))), (q 42, .inl (Z 0, 16, .inl (F 42))), (q 43, .inl (Z 0, 16, .inl (F 43))), (q 44, .inl (Z 0, 16, .inl (F 44))), (q 46, .inl (Z 0, 400, .inl (F 46))), (q 47, .inl (Z 0, 400, .inl (F 47)))]
abbrev cutKB : List Nat := [0, 1, 2, 3, 4, 5, 6, 7, 8, 9, 10, 11, 12, 13, 14, 15, 16, 17, 18, 19, 20, 21, 22, 23, 24, 25, 26, 27, 28, 29, 30, 31, 32]
set_option maxRecDepth 100000 in
theorem cutOkKB (Z : Nat → ClassId) (a q : Nat → Nat) (rp : Nat) (bp : Nat) (F : M2) (L : L2) : Cut (KB Z a q rp bp F L) (fun u : Nat × M2 × L2 => KB Z a q rp u.1 u.2.1 u.2.2) (bp, F, L) [] cutKB [] cutKB (fun u : Nat × M2 × L2 => KB Z a q rp u.1 u.2.1 u.2.2) := ⟨rfl, rfl, rfl, fun i h => absurd h List.not_mem_nil, by decide, fun _ => rfl⟩
def RB (Z : Nat → ClassId) (a q rx : Nat → Nat) (bp : Nat) (rp : Nat) (F : M2) (L : L2) : va_W := [(a 60, .inr (2, [.ref (a 70), .ref (a 61), .ref (a 62), .ref (a 63), .ref (a 64), .ref rp, .int (F 66 0), .int (F 67 0), .int (F 68 0), .int (F 69 0)])), (a 61, .inl (Z 1, 5, .inr (.inl (L 61)))), (a 62, .inl (Z 1, 4, .inr (.inl (L 62)))), (a 63, .inl (Z 1, 6, .inr (.inl (L 63)))), (a 64, .inl (Z 1, 8, .inr (.inl (L 64)))), (a 70, .inr (3, [.ref (a 71), .ref (a 72), .int (F 73 0), .ref (a 74), .ref (a 75), .ref (a 76), .ref bp, .int (F 78 0)])), (a 71, .inl (Z 1, 40, .inr (.inl (L 71)))), (a 72, .inl (Z 0, 40, .inl (F 72))), (a 74, .inl (Z 0, 401, .inl (F 74))), (a 75, .inl (Z 0, 401, .inl (F 75))), (a 76, .inl (Z 1, 401, .inr (.inl (L 76)))), (a 80, .inl (Z 2, 2000, .inl (F 80))), (q 20, .inr (1, [.int (F 20 0), .int (F 21 0), .int (F 22 0), .int (F 23 0), .int (F 24 0), .ref (q 25), .ref (q 26), .ref (q 27), .ref (q 28), .ref (q 29), .ref (q 30), .ref (q 31), .ref (q 32), .ref (q 33), .ref (q 34), .ref (q 35), .ref (q 36), .ref (q 37), .ref (q 40)])), (q 25, .inl (Z 0, 5, .inl (F 25))), (q 26, .inl (Z 0, 5, .inl (F 26))), (q 27, .inl (Z 0, 5, .inl (F 27))), (q 28, .inl (Z 0, 60, .inl (F 28))), (q 29, .inl (Z 0, 4, .inl (F 29))), (q 30, .inl (Z 0, 4, .inl (F 30))), (q 31, .inl (Z 0, 6, .inl (F 31))), (q 32, .inl (Z 0, 6, .inl (F 32))), (q 33, .inl (Z 0, 8, .inl (F 33))), (q 34, .inl (Z 0, 8, .inl (F 34))), (q 35, .inl (Z 0, 8, .inl (F 35))), (q 36, .inl (Z 0, 8, .inl (F 36))), (q 37, .inl (Z 0, 8, .inl (F 37))), (q 40, .inr (0, [.int (F 40 0), .ref (q 41), .ref (q 42), .ref (q 43), .ref (q 44), .int (F 45 0), .ref (q 46), .ref (q 47)])), (q 41, .inl (Z 0, 16, .inl (F 41))), (q 42, .inl (Z 0, 16, .inl (F 42))), (q 43, .inl (Z 0, 16, .inl (F 43))), (q 44, .inl (Z 0, 16, .inl (F 44))), (q 46, .inl (Z 0, 400, .inl (F 46))), (q 47, .inl (Z 0, 400, .inl (F 47)))]
abbrev cutRB : List Nat := [0, 1, 2, 3, 4, 5, 6, 7, 8, 9, 10, 11, 12, 13, 14, 15, 16, 17, 18, 19, 20, 21, 22, 23, 24, 25, 26, 27, 28, 29, 30, 31, 32]
set_option maxRecDepth 100000 in
theorem cutOkRB (Z : Nat → ClassId) (a q rx : Nat → Nat) (bp : Nat) (rp : Nat) (F : M2) (L : L2) : Cut (RB Z a q rx bp rp F L) (fun u : Nat × Nat × M2 × L2 => RB Z a q rx u.1 u.2.1 u.2.2.1 u.2.2.2) (bp, rp, F, L) [] cutRB [] cutRB (fun u : Nat × Nat × M2 × L2 => RB Z a q rx u.1 u.2.1 u.2.2.1 u.2.2.2) := ⟨rfl, rfl, rfl, fun i h => absurd h List.not_mem_nil, by decide, fun _ => rfl⟩
section ROWSRB
variable {p : Program} {l : Launch} {e : Env} {s : State} {m : MethodId} {args : Array Value} {below : List Frame} {meth : Method} {c : Code} {H H0 : Heap} {locs : List Loc} {cells slots : Nat} {Q : State → Prop} {R : Room} {rn mcR msR : Nat}
variable {pc : Nat} {ls : Array Slot} {rest : List Value} {A : Nat → Prop} {D : va_G}
variable {cc : ByteArray} {nL index : Nat} {own host : String}
theorem gKB_tok_3 {Z : Nat → ClassId} {a q : Nat → Nat} {rp : Nat} {bp : Nat} {F : M2} {L : L2} (hC : CallFix p m c cc nL s args lw_g own) (hK : va_K D vwCl (tysG Z) s) (hP : va_P D vwCl (KB Z a q rp bp F L) H) (hl : Cond.fieldLink own index RX3 "kind" "[I" ∈ lw_g) (hdg : decode cc pc = .ok (.getfield index, 3)) (kk : W p l e R s m args below meth c H locs cells slots Q (F0 m (pc + 3) ls (.ref (a 74) :: rest))) : W p l e R s m args below meth c H locs cells slots Q (F0 m pc ls (.ref (a 70) :: rest)) :=
  w_get (C := RX3) (T := TX3) (N := 8) (ci := 3) (q0 := 5) (k := 3) hC hK hP fi_X3 rfl rfl rfl (by decide) rfl hl hdg kk
theorem gKB_tok_4 {Z : Nat → ClassId} {a q : Nat → Nat} {rp : Nat} {bp : Nat} {F : M2} {L : L2} (hC : CallFix p m c cc nL s args lw_g own) (hK : va_K D vwCl (tysG Z) s) (hP : va_P D vwCl (KB Z a q rp bp F L) H) (hl : Cond.fieldLink own index RX3 "start" "[I" ∈ lw_g) (hdg : decode cc pc = .ok (.getfield index, 3)) (kk : W p l e R s m args below meth c H locs cells slots Q (F0 m (pc + 3) ls (.ref (a 75) :: rest))) : W p l e R s m args below meth c H locs cells slots Q (F0 m pc ls (.ref (a 70) :: rest)) :=
  w_get (C := RX3) (T := TX3) (N := 8) (ci := 3) (q0 := 5) (k := 4) hC hK hP fi_X3 rfl rfl rfl (by decide) rfl hl hdg kk
theorem pKB_tok_7 {Z : Nat → ClassId} {a q : Nat → Nat} {rp : Nat} {bp : Nat} {F : M2} {L : L2} {x : Int32} (hC : CallFix p m c cc nL s args lw_g own) (hK : va_K D vwCl (tysG Z) s) (hT : TS vwCl D (KB Z a q rp bp F L) A H0 H locs) (hl : Cond.fieldLink own index RX3 "length" "I" ∈ lw_g) (hdg : decode cc pc = .ok (.putfield index, 3)) (kk : ∀ (F1 : M2), F1 = up2 F 78 (fun _ => x) → ∀ (H1 : Heap) (locs1 : List Loc), TS vwCl D (KB Z a q rp bp F1 L) A H0 H1 locs1 → W p l e R s m args below meth c H1 locs1 cells slots Q (F0 m (pc + 3) ls rest)) : W p l e R s m args below meth c H locs cells slots Q (F0 m pc ls (.int x :: .ref (a 70) :: rest)) :=
  w_put (C := RX3) (T := TX3) (N := 8) (ci := 3) (q0 := 5) (k := 7) (ty0 := tyX3) (ty := .int) (ws' := (KB Z a q rp bp (up2 F 78 (fun _ => x)) L)) hC hK hT fi_X3 tyX3_ok nmX3 rfl rfl (by decide) rfl rfl rfl rfl rfl (Nat.le_of_ble_eq_true rfl) rfl hl hdg (fun H1 locs1 hT1 => kk _ rfl H1 locs1 hT1)
theorem pfKB_tok_6 {Z : Nat → ClassId} {a q : Nat → Nat} {rp : Nat} {bp : Nat} {F : M2} {L : L2} {t : Nat} (hC : CallFix p m c cc nL s args lw_g own) (hK : va_K D vwCl (tysG Z) s) (hT : TS vwCl D (KB Z a q rp bp F L) A H0 H locs) (hl : Cond.fieldLink own index RX3 "bytes" "[B" ∈ lw_g) (hdg : decode cc pc = .ok (.putfield index, 3)) (kk : ∀ (H1 : Heap) (locs1 : List Loc), TS vwCl D (KB Z a q rp t F L) A H0 H1 locs1 → W p l e R s m args below meth c H1 locs1 cells slots Q (F0 m (pc + 3) ls rest)) : W p l e R s m args below meth c H locs cells slots Q (F0 m pc ls (.ref t :: .ref (a 70) :: rest)) :=
  w_put (C := RX3) (T := TX3) (N := 8) (ci := 3) (q0 := 5) (k := 6) (ty0 := tyX3) (ty := .array .byte) (ws' := (KB Z a q rp t F L)) hC hK hT fi_X3 tyX3_ok nmX3 rfl rfl (by decide) rfl rfl rfl rfl rfl (Nat.le_of_ble_eq_true rfl) rfl hl hdg kk
theorem uKB_start {Z : Nat → ClassId} {a q : Nat → Nat} {rp : Nat} {bp : Nat} {F : M2} {L : L2} {i : Int32} {x : Int32} (hC : CallFix p m c cc nL s args lw_g own) (hN : NW s) (hK : va_K D vwCl (tysG Z) s) (hT : TS vwCl D (KB Z a q rp bp F L) A H0 H locs) (hl : Cond.methodLinkNest own index yX5_put RX5 ∈ lw_n) (hlt : 0 < rn) (hsize : ls.size = nL) (hW : (rest.map fun v => v.category).sum ≤ 8) (hf : cells + 0 ≤ mcR ∧ slots + 0 ≤ msR) (hdg : decode cc pc = .ok (.invokestatic index, 3)) (kk : ∀ (F1 : M2), F1 = up2 F 75 (putv (F 75) 401 i x) → ∀ (H1 : Heap) (locs1 : List Loc), TS vwCl D (KB Z a q rp bp F1 L) A H0 H1 locs1 → W p l e (rk rn mcR msR) s m args below meth c H1 locs1 cells slots Q (F0 m (pc + 3) ls rest)) : W p l e (rk rn mcR msR) s m args below meth c H locs cells slots Q (F0 m pc ls (.int x :: .int i :: .ref (a 75) :: rest)) :=
  w_pu (q0 := 9) (ws' := (KB Z a q rp bp (up2 F 75 (putv (F 75) 401 i x)) L)) hC hN hK hT hl rfl rfl (by decide) hlt hsize hW hf hdg (fun H1 locs1 hT1 => kk _ rfl H1 locs1 hT1)
theorem gRB_rd_0 {Z : Nat → ClassId} {a q rx : Nat → Nat} {bp : Nat} {rp : Nat} {F : M2} {L : L2} (hC : CallFix p m c cc nL s args lw_g own) (hK : va_K D vwCl (tysG Z) s) (hP : va_P D vwCl (RB Z a q rx bp rp F L) H) (hl : Cond.fieldLink own index RX2 "tokens" "LTunnelLeggers$Tokens;" ∈ lw_g) (hdg : decode cc pc = .ok (.getfield index, 3)) (kk : W p l e R s m args below meth c H locs cells slots Q (F0 m (pc + 3) ls (.ref (a 70) :: rest))) : W p l e R s m args below meth c H locs cells slots Q (F0 m pc ls (.ref (a 60) :: rest)) :=
  w_get (C := RX2) (T := TX2) (N := 10) (ci := 2) (q0 := 0) (k := 0) hC hK hP fi_X2 rfl rfl rfl (by decide) rfl hl hdg kk
theorem gRB_rd_5 {Z : Nat → ClassId} {a q rx : Nat → Nat} {bp : Nat} {rp : Nat} {F : M2} {L : L2} (hC : CallFix p m c cc nL s args lw_g own) (hK : va_K D vwCl (tysG Z) s) (hP : va_P D vwCl (RB Z a q rx bp rp F L) H) (hl : Cond.fieldLink own index RX2 "plan" "LTunnelLeggers$Plan;" ∈ lw_g) (hdg : decode cc pc = .ok (.getfield index, 3)) (kk : W p l e R s m args below meth c H locs cells slots Q (F0 m (pc + 3) ls (.ref (rp) :: rest))) : W p l e R s m args below meth c H locs cells slots Q (F0 m pc ls (.ref (a 60) :: rest)) :=
  w_get (C := RX2) (T := TX2) (N := 10) (ci := 2) (q0 := 0) (k := 5) hC hK hP fi_X2 rfl rfl rfl (by decide) rfl hl hdg kk
theorem gRB_rd_6 {Z : Nat → ClassId} {a q rx : Nat → Nat} {bp : Nat} {rp : Nat} {F : M2} {L : L2} (hC : CallFix p m c cc nL s args lw_g own) (hK : va_K D vwCl (tysG Z) s) (hP : va_P D vwCl (RB Z a q rx bp rp F L) H) (hl : Cond.fieldLink own index RX2 "next" "I" ∈ lw_g) (hdg : decode cc pc = .ok (.getfield index, 3)) (kk : W p l e R s m args below meth c H locs cells slots Q (F0 m (pc + 3) ls (.int (F 66 0) :: rest))) : W p l e R s m args below meth c H locs cells slots Q (F0 m pc ls (.ref (a 60) :: rest)) :=
  w_get (C := RX2) (T := TX2) (N := 10) (ci := 2) (q0 := 0) (k := 6) hC hK hP fi_X2 rfl rfl rfl (by decide) rfl hl hdg kk
theorem gRB_rd_7 {Z : Nat → ClassId} {a q rx : Nat → Nat} {bp : Nat} {rp : Nat} {F : M2} {L : L2} (hC : CallFix p m c cc nL s args lw_g own) (hK : va_K D vwCl (tysG Z) s) (hP : va_P D vwCl (RB Z a q rx bp rp F L) H) (hl : Cond.fieldLink own index RX2 "fault" "I" ∈ lw_g) (hdg : decode cc pc = .ok (.getfield index, 3)) (kk : W p l e R s m args below meth c H locs cells slots Q (F0 m (pc + 3) ls (.int (F 67 0) :: rest))) : W p l e R s m args below meth c H locs cells slots Q (F0 m pc ls (.ref (a 60) :: rest)) :=
  w_get (C := RX2) (T := TX2) (N := 10) (ci := 2) (q0 := 0) (k := 7) hC hK hP fi_X2 rfl rfl rfl (by decide) rfl hl hdg kk
theorem gRB_rd_8 {Z : Nat → ClassId} {a q rx : Nat → Nat} {bp : Nat} {rp : Nat} {F : M2} {L : L2} (hC : CallFix p m c cc nL s args lw_g own) (hK : va_K D vwCl (tysG Z) s) (hP : va_P D vwCl (RB Z a q rx bp rp F L) H) (hl : Cond.fieldLink own index RX2 "faultToken" "I" ∈ lw_g) (hdg : decode cc pc = .ok (.getfield index, 3)) (kk : W p l e R s m args below meth c H locs cells slots Q (F0 m (pc + 3) ls (.int (F 68 0) :: rest))) : W p l e R s m args below meth c H locs cells slots Q (F0 m pc ls (.ref (a 60) :: rest)) :=
  w_get (C := RX2) (T := TX2) (N := 10) (ci := 2) (q0 := 0) (k := 8) hC hK hP fi_X2 rfl rfl rfl (by decide) rfl hl hdg kk
theorem gRB_tok_4 {Z : Nat → ClassId} {a q rx : Nat → Nat} {bp : Nat} {rp : Nat} {F : M2} {L : L2} (hC : CallFix p m c cc nL s args lw_g own) (hK : va_K D vwCl (tysG Z) s) (hP : va_P D vwCl (RB Z a q rx bp rp F L) H) (hl : Cond.fieldLink own index RX3 "start" "[I" ∈ lw_g) (hdg : decode cc pc = .ok (.getfield index, 3)) (kk : W p l e R s m args below meth c H locs cells slots Q (F0 m (pc + 3) ls (.ref (a 75) :: rest))) : W p l e R s m args below meth c H locs cells slots Q (F0 m pc ls (.ref (a 70) :: rest)) :=
  w_get (C := RX3) (T := TX3) (N := 8) (ci := 3) (q0 := 5) (k := 4) hC hK hP fi_X3 rfl rfl rfl (by decide) rfl hl hdg kk
theorem pRB_rd_6 {Z : Nat → ClassId} {a q rx : Nat → Nat} {bp : Nat} {rp : Nat} {F : M2} {L : L2} {x : Int32} (hC : CallFix p m c cc nL s args lw_g own) (hK : va_K D vwCl (tysG Z) s) (hT : TS vwCl D (RB Z a q rx bp rp F L) A H0 H locs) (hl : Cond.fieldLink own index RX2 "next" "I" ∈ lw_g) (hdg : decode cc pc = .ok (.putfield index, 3)) (kk : ∀ (F1 : M2), F1 = up2 F 66 (fun _ => x) → ∀ (H1 : Heap) (locs1 : List Loc), TS vwCl D (RB Z a q rx bp rp F1 L) A H0 H1 locs1 → W p l e R s m args below meth c H1 locs1 cells slots Q (F0 m (pc + 3) ls rest)) : W p l e R s m args below meth c H locs cells slots Q (F0 m pc ls (.int x :: .ref (a 60) :: rest)) :=
  w_put (C := RX2) (T := TX2) (N := 10) (ci := 2) (q0 := 0) (k := 6) (ty0 := tyX2) (ty := .int) (ws' := (RB Z a q rx bp rp (up2 F 66 (fun _ => x)) L)) hC hK hT fi_X2 tyX2_ok nmX2 rfl rfl (by decide) rfl rfl rfl rfl rfl (Nat.le_of_ble_eq_true rfl) rfl hl hdg (fun H1 locs1 hT1 => kk _ rfl H1 locs1 hT1)
theorem pRB_rd_7 {Z : Nat → ClassId} {a q rx : Nat → Nat} {bp : Nat} {rp : Nat} {F : M2} {L : L2} {x : Int32} (hC : CallFix p m c cc nL s args lw_g own) (hK : va_K D vwCl (tysG Z) s) (hT : TS vwCl D (RB Z a q rx bp rp F L) A H0 H locs) (hl : Cond.fieldLink own index RX2 "fault" "I" ∈ lw_g) (hdg : decode cc pc = .ok (.putfield index, 3)) (kk : ∀ (F1 : M2), F1 = up2 F 67 (fun _ => x) → ∀ (H1 : Heap) (locs1 : List Loc), TS vwCl D (RB Z a q rx bp rp F1 L) A H0 H1 locs1 → W p l e R s m args below meth c H1 locs1 cells slots Q (F0 m (pc + 3) ls rest)) : W p l e R s m args below meth c H locs cells slots Q (F0 m pc ls (.int x :: .ref (a 60) :: rest)) :=
  w_put (C := RX2) (T := TX2) (N := 10) (ci := 2) (q0 := 0) (k := 7) (ty0 := tyX2) (ty := .int) (ws' := (RB Z a q rx bp rp (up2 F 67 (fun _ => x)) L)) hC hK hT fi_X2 tyX2_ok nmX2 rfl rfl (by decide) rfl rfl rfl rfl rfl (Nat.le_of_ble_eq_true rfl) rfl hl hdg (fun H1 locs1 hT1 => kk _ rfl H1 locs1 hT1)
theorem pRB_rd_8 {Z : Nat → ClassId} {a q rx : Nat → Nat} {bp : Nat} {rp : Nat} {F : M2} {L : L2} {x : Int32} (hC : CallFix p m c cc nL s args lw_g own) (hK : va_K D vwCl (tysG Z) s) (hT : TS vwCl D (RB Z a q rx bp rp F L) A H0 H locs) (hl : Cond.fieldLink own index RX2 "faultToken" "I" ∈ lw_g) (hdg : decode cc pc = .ok (.putfield index, 3)) (kk : ∀ (F1 : M2), F1 = up2 F 68 (fun _ => x) → ∀ (H1 : Heap) (locs1 : List Loc), TS vwCl D (RB Z a q rx bp rp F1 L) A H0 H1 locs1 → W p l e R s m args below meth c H1 locs1 cells slots Q (F0 m (pc + 3) ls rest)) : W p l e R s m args below meth c H locs cells slots Q (F0 m pc ls (.int x :: .ref (a 60) :: rest)) :=
  w_put (C := RX2) (T := TX2) (N := 10) (ci := 2) (q0 := 0) (k := 8) (ty0 := tyX2) (ty := .int) (ws' := (RB Z a q rx bp rp (up2 F 68 (fun _ => x)) L)) hC hK hT fi_X2 tyX2_ok nmX2 rfl rfl (by decide) rfl rfl rfl rfl rfl (Nat.le_of_ble_eq_true rfl) rfl hl hdg (fun H1 locs1 hT1 => kk _ rfl H1 locs1 hT1)
theorem pRB_rd_9 {Z : Nat → ClassId} {a q rx : Nat → Nat} {bp : Nat} {rp : Nat} {F : M2} {L : L2} {x : Int32} (hC : CallFix p m c cc nL s args lw_g own) (hK : va_K D vwCl (tysG Z) s) (hT : TS vwCl D (RB Z a q rx bp rp F L) A H0 H locs) (hl : Cond.fieldLink own index RX2 "faultAt" "I" ∈ lw_g) (hdg : decode cc pc = .ok (.putfield index, 3)) (kk : ∀ (F1 : M2), F1 = up2 F 69 (fun _ => x) → ∀ (H1 : Heap) (locs1 : List Loc), TS vwCl D (RB Z a q rx bp rp F1 L) A H0 H1 locs1 → W p l e R s m args below meth c H1 locs1 cells slots Q (F0 m (pc + 3) ls rest)) : W p l e R s m args below meth c H locs cells slots Q (F0 m pc ls (.int x :: .ref (a 60) :: rest)) :=
  w_put (C := RX2) (T := TX2) (N := 10) (ci := 2) (q0 := 0) (k := 9) (ty0 := tyX2) (ty := .int) (ws' := (RB Z a q rx bp rp (up2 F 69 (fun _ => x)) L)) hC hK hT fi_X2 tyX2_ok nmX2 rfl rfl (by decide) rfl rfl rfl rfl rfl (Nat.le_of_ble_eq_true rfl) rfl hl hdg (fun H1 locs1 hT1 => kk _ rfl H1 locs1 hT1)
theorem pfRB_rd_5 {Z : Nat → ClassId} {a q rx : Nat → Nat} {bp : Nat} {rp : Nat} {F : M2} {L : L2} {t : Nat} (hC : CallFix p m c cc nL s args lw_g own) (hK : va_K D vwCl (tysG Z) s) (hT : TS vwCl D (RB Z a q rx bp rp F L) A H0 H locs) (hl : Cond.fieldLink own index RX2 "plan" "LTunnelLeggers$Plan;" ∈ lw_g) (hdg : decode cc pc = .ok (.putfield index, 3)) (kk : ∀ (H1 : Heap) (locs1 : List Loc), TS vwCl D (RB Z a q rx bp t F L) A H0 H1 locs1 → W p l e R s m args below meth c H1 locs1 cells slots Q (F0 m (pc + 3) ls rest)) : W p l e R s m args below meth c H locs cells slots Q (F0 m pc ls (.ref t :: .ref (a 60) :: rest)) :=
  w_put (C := RX2) (T := TX2) (N := 10) (ci := 2) (q0 := 0) (k := 5) (ty0 := tyX2) (ty := .object "TunnelLeggers$Plan") (ws' := (RB Z a q rx bp t F L)) hC hK hT fi_X2 tyX2_ok nmX2 rfl rfl (by decide) rfl rfl rfl rfl rfl (Nat.le_of_ble_eq_true rfl) rfl hl hdg kk
end ROWSRB
set_option maxRecDepth 100000 in
theorem sx_KWKB (Z : Nat → ClassId) (a q : Nat → Nat) (rp : Nat) (F : M2) (L : L2) : ([0, 1, 2, 3, 4, 5, 6, 7, 8, 9, 10, 11, 12, 13, 14, 15, 16, 17, 18, 19, 20, 21, 22, 23, 24, 25, 26, 27, 28, 29, 30, 31, 32] : List Nat).map (fun i => (KB Z a q rp (a 80) F L)[i]?) = (KW Z a q rp F L).map some := rfl
set_option maxRecDepth 100000 in
theorem cx_KWKB (Z : Nat → ClassId) (a q : Nat → Nat) (rp : Nat) (F : M2) (L : L2) : Cut (KB Z a q rp (a 80) F L) (fun u : M2 × L2 => KW Z a q rp u.1 u.2) (F, L) [] [0, 1, 2, 3, 4, 5, 6, 7, 8, 9, 10, 11, 12, 13, 14, 15, 16, 17, 18, 19, 20, 21, 22, 23, 24, 25, 26, 27, 28, 29, 30, 31, 32] [] [0, 1, 2, 3, 4, 5, 6, 7, 8, 9, 10, 11, 12, 13, 14, 15, 16, 17, 18, 19, 20, 21, 22, 23, 24, 25, 26, 27, 28, 29, 30, 31, 32] (fun u : M2 × L2 => (KB Z a q rp (a 80) u.1 u.2)) := ⟨rfl, rfl, rfl, by decide, rfl, fun _ => rfl⟩
set_option maxRecDepth 100000 in
theorem sx_KBRB (Z : Nat → ClassId) (a q rx : Nat → Nat) (bp : Nat) (rp : Nat) (F : M2) (L : L2) : ([0, 1, 2, 3, 4, 5, 6, 7, 8, 9, 10, 11, 12, 13, 14, 15, 16, 17, 18, 19, 20, 21, 22, 23, 24, 25, 26, 27, 28, 29, 30, 31, 32] : List Nat).map (fun i => (RB Z a q rx bp rp F L)[i]?) = (KB Z a q rp bp F L).map some := rfl
set_option maxRecDepth 100000 in
theorem cx_KBRB (Z : Nat → ClassId) (a q rx : Nat → Nat) (bp : Nat) (rp : Nat) (F : M2) (L : L2) : Cut (RB Z a q rx bp rp F L) (fun u : Nat × M2 × L2 => KB Z a q rp u.1 u.2.1 u.2.2) (bp, F, L) [] [0, 1, 2, 3, 4, 5, 6, 7, 8, 9, 10, 11, 12, 13, 14, 15, 16, 17, 18, 19, 20, 21, 22, 23, 24, 25, 26, 27, 28, 29, 30, 31, 32] [] [0, 1, 2, 3, 4, 5, 6, 7, 8, 9, 10, 11, 12, 13, 14, 15, 16, 17, 18, 19, 20, 21, 22, 23, 24, 25, 26, 27, 28, 29, 30, 31, 32] (fun u : Nat × M2 × L2 => (RB Z a q rx u.1 rp u.2.1 u.2.2)) := ⟨rfl, rfl, rfl, by decide, rfl, fun _ => rfl⟩
set_option maxRecDepth 100000 in
theorem sx_KWRB (Z : Nat → ClassId) (a q rx : Nat → Nat) (F : M2) (L : L2) : ([0, 1, 2, 3, 4, 5, 6, 7, 8, 9, 10, 11, 12, 13, 14, 15, 16, 17, 18, 19, 20, 21, 22, 23, 24, 25, 26, 27, 28, 29, 30, 31, 32] : List Nat).map (fun i => (RB Z a q rx (a 80) (q 20) F L)[i]?) = (KW Z a q (q 20) F L).map some := rfl
set_option maxRecDepth 100000 in
theorem cx_KWRB (Z : Nat → ClassId) (a q rx : Nat → Nat) (F : M2) (L : L2) : Cut (RB Z a q rx (a 80) (q 20) F L) (fun u : M2 × L2 => KW Z a q (q 20) u.1 u.2) (F, L) [] [0, 1, 2, 3, 4, 5, 6, 7, 8, 9, 10, 11, 12, 13, 14, 15, 16, 17, 18, 19, 20, 21, 22, 23, 24, 25, 26, 27, 28, 29, 30, 31, 32] [] [0, 1, 2, 3, 4, 5, 6, 7, 8, 9, 10, 11, 12, 13, 14, 15, 16, 17, 18, 19, 20, 21, 22, 23, 24, 25, 26, 27, 28, 29, 30, 31, 32] (fun u : M2 × L2 => (RB Z a q rx (a 80) (q 20) u.1 u.2)) := ⟨rfl, rfl, rfl, by decide, rfl, fun _ => rfl⟩
set_option maxRecDepth 100000 in
theorem sx_RKRB (Z : Nat → ClassId) (a q rx : Nat → Nat) (F : M2) (L : L2) : ([0, 1, 2, 3, 4, 5, 6, 7, 8, 9, 10, 11, 12, 13, 14, 15, 16, 17, 18, 19, 20, 21, 22, 23, 24, 25, 26, 27, 28, 29, 30, 31, 32] : List Nat).map (fun i => (RB Z a q rx (a 80) (q 20) F L)[i]?) = (RK Z a q rx F L).map some := rfl
set_option maxRecDepth 100000 in
theorem cx_RKRB (Z : Nat → ClassId) (a q rx : Nat → Nat) (F : M2) (L : L2) : Cut (RB Z a q rx (a 80) (q 20) F L) (fun u : M2 × L2 => RK Z a q rx u.1 u.2) (F, L) [] [0, 1, 2, 3, 4, 5, 6, 7, 8, 9, 10, 11, 12, 13, 14, 15, 16, 17, 18, 19, 20, 21, 22, 23, 24, 25, 26, 27, 28, 29, 30, 31, 32] [] [0, 1, 2, 3, 4, 5, 6, 7, 8, 9, 10, 11, 12, 13, 14, 15, 16, 17, 18, 19, 20, 21, 22, 23, 24, 25, 26, 27, 28, 29, 30, 31, 32] (fun u : M2 × L2 => (RB Z a q rx (a 80) (q 20) u.1 u.2)) := ⟨rfl, rfl, rfl, by decide, rfl, fun _ => rfl⟩
theorem dX3_read_0 : decode cX3_read 0 = .ok (.aload_n 0, 1) := by decide +kernel
theorem dX3_read_1 : decode cX3_read 1 = .ok (.aload_n 1, 1) := by decide +kernel
theorem dX3_read_2 : decode cX3_read 2 = .ok (.putfield 32, 3) := by decide +kernel
theorem dX3_read_5 : decode cX3_read 5 = .ok (.aload_n 0, 1) := by decide +kernel
theorem dX3_read_6 : decode cX3_read 6 = .ok (.iload_n 2, 1) := by decide +kernel
theorem dX3_read_7 : decode cX3_read 7 = .ok (.putfield 36, 3) := by decide +kernel
theorem dX3_read_10 : decode cX3_read 10 = .ok (.iconst 0, 1) := by decide +kernel
theorem dX3_read_11 : decode cX3_read 11 = .ok (.istore_n 3, 1) := by decide +kernel
theorem dX3_read_12 : decode cX3_read 12 = .ok (.iconst 1, 1) := by decide +kernel
theorem dX3_read_13 : decode cX3_read 13 = .ok (.istore 4, 2) := by decide +kernel
theorem dX3_read_15 : decode cX3_read 15 = .ok (.iconst 0, 1) := by decide +kernel
theorem dX3_read_16 : decode cX3_read 16 = .ok (.istore 5, 2) := by decide +kernel
theorem dX3_read_18 : decode cX3_read 18 = .ok (.iload 5, 2) := by decide +kernel
theorem dX3_read_20 : decode cX3_read 20 = .ok (.sipush 400, 3) := by decide +kernel
theorem dX3_read_23 : decode cX3_read 23 = .ok (.if_icmp .gt 70, 3) := by decide +kernel
theorem dX3_read_26 : decode cX3_read 26 = .ok (.iload 4, 2) := by decide +kernel
theorem dX3_read_28 : decode cX3_read 28 = .ok (.ifCond .eq 65, 3) := by decide +kernel
theorem dX3_read_31 : decode cX3_read 31 = .ok (.aload_n 0, 1) := by decide +kernel
theorem dX3_read_32 : decode cX3_read 32 = .ok (.iload_n 3, 1) := by decide +kernel
theorem dX3_read_33 : decode cX3_read 33 = .ok (.invokevirtual 129, 3) := by decide +kernel
theorem dX3_read_36 : decode cX3_read 36 = .ok (.istore_n 3, 1) := by decide +kernel
theorem dX3_read_37 : decode cX3_read 37 = .ok (.aload_n 0, 1) := by decide +kernel
theorem dX3_read_38 : decode cX3_read 38 = .ok (.getfield 26, 3) := by decide +kernel
theorem dX3_read_41 : decode cX3_read 41 = .ok (.iload 5, 2) := by decide +kernel
theorem dX3_read_43 : decode cX3_read 43 = .ok (.iload_n 3, 1) := by decide +kernel
theorem dX3_read_44 : decode cX3_read 44 = .ok (.invokestatic 126, 3) := by decide +kernel
theorem dX3_read_47 : decode cX3_read 47 = .ok (.aload_n 0, 1) := by decide +kernel
theorem dX3_read_48 : decode cX3_read 48 = .ok (.iload 5, 2) := by decide +kernel
theorem dX3_read_50 : decode cX3_read 50 = .ok (.iload_n 3, 1) := by decide +kernel
theorem dX3_read_51 : decode cX3_read 51 = .ok (.invokevirtual 132, 3) := by decide +kernel
theorem dX3_read_54 : decode cX3_read 54 = .ok (.istore_n 3, 1) := by decide +kernel
theorem dX3_read_55 : decode cX3_read 55 = .ok (.aload_n 0, 1) := by decide +kernel
theorem dX3_read_56 : decode cX3_read 56 = .ok (.getfield 23, 3) := by decide +kernel
theorem dX3_read_59 : decode cX3_read 59 = .ok (.iload 5, 2) := by decide +kernel
theorem dX3_read_61 : decode cX3_read 61 = .ok (.invokestatic 136, 3) := by decide +kernel
theorem dX3_read_64 : decode cX3_read 64 = .ok (.ifCond .eq 20, 3) := by decide +kernel
theorem dX3_read_67 : decode cX3_read 67 = .ok (.aload_n 0, 1) := by decide +kernel
theorem dX3_read_68 : decode cX3_read 68 = .ok (.getfield 23, 3) := by decide +kernel
theorem dX3_read_71 : decode cX3_read 71 = .ok (.iload 5, 2) := by decide +kernel
theorem dX3_read_73 : decode cX3_read 73 = .ok (.invokestatic 136, 3) := by decide +kernel
theorem dX3_read_76 : decode cX3_read 76 = .ok (.iconst 1, 1) := by decide +kernel
theorem dX3_read_77 : decode cX3_read 77 = .ok (.if_icmp .eq 7, 3) := by decide +kernel
theorem dX3_read_80 : decode cX3_read 80 = .ok (.iconst 1, 1) := by decide +kernel
theorem dX3_read_81 : decode cX3_read 81 = .ok (.goto 4, 3) := by decide +kernel
theorem dX3_read_84 : decode cX3_read 84 = .ok (.iconst 0, 1) := by decide +kernel
theorem dX3_read_85 : decode cX3_read 85 = .ok (.istore 4, 2) := by decide +kernel
theorem dX3_read_87 : decode cX3_read 87 = .ok (.iinc 5 1, 3) := by decide +kernel
theorem dX3_read_90 : decode cX3_read 90 = .ok (.goto (-72), 3) := by decide +kernel
theorem dX3_read_93 : decode cX3_read 93 = .ok (.return_, 1) := by decide +kernel
theorem dX2_read_0 : decode cX2_read 0 = .ok (.aload_n 0, 1) := by decide +kernel
theorem dX2_read_1 : decode cX2_read 1 = .ok (.getfield 12, 3) := by decide +kernel
theorem dX2_read_4 : decode cX2_read 4 = .ok (.aload_n 1, 1) := by decide +kernel
theorem dX2_read_5 : decode cX2_read 5 = .ok (.iload_n 2, 1) := by decide +kernel
theorem dX2_read_6 : decode cX2_read 6 = .ok (.invokevirtual 51, 3) := by decide +kernel
theorem dX2_read_9 : decode cX2_read 9 = .ok (.aload_n 0, 1) := by decide +kernel
theorem dX2_read_10 : decode cX2_read 10 = .ok (.aload_n 3, 1) := by decide +kernel
theorem dX2_read_11 : decode cX2_read 11 = .ok (.putfield 34, 3) := by decide +kernel
theorem dX2_read_14 : decode cX2_read 14 = .ok (.aload_n 0, 1) := by decide +kernel
theorem dX2_read_15 : decode cX2_read 15 = .ok (.getfield 34, 3) := by decide +kernel
theorem dX2_read_18 : decode cX2_read 18 = .ok (.invokevirtual 55, 3) := by decide +kernel
theorem dX2_read_21 : decode cX2_read 21 = .ok (.aload_n 0, 1) := by decide +kernel
theorem dX2_read_22 : decode cX2_read 22 = .ok (.iconst 0, 1) := by decide +kernel
theorem dX2_read_23 : decode cX2_read 23 = .ok (.putfield 38, 3) := by decide +kernel
theorem dX2_read_26 : decode cX2_read 26 = .ok (.aload_n 0, 1) := by decide +kernel
theorem dX2_read_27 : decode cX2_read 27 = .ok (.iconst 0, 1) := by decide +kernel
theorem dX2_read_28 : decode cX2_read 28 = .ok (.putfield 42, 3) := by decide +kernel
theorem dX2_read_31 : decode cX2_read 31 = .ok (.iconst 1, 1) := by decide +kernel
theorem dX2_read_32 : decode cX2_read 32 = .ok (.istore 4, 2) := by decide +kernel
theorem dX2_read_34 : decode cX2_read 34 = .ok (.iconst 0, 1) := by decide +kernel
theorem dX2_read_35 : decode cX2_read 35 = .ok (.istore 5, 2) := by decide +kernel
theorem dX2_read_37 : decode cX2_read 37 = .ok (.iload 5, 2) := by decide +kernel
theorem dX2_read_39 : decode cX2_read 39 = .ok (.sipush 400, 3) := by decide +kernel
theorem dX2_read_42 : decode cX2_read 42 = .ok (.if_icmp .gt 44, 3) := by decide +kernel
theorem dX2_read_45 : decode cX2_read 45 = .ok (.iload 4, 2) := by decide +kernel
theorem dX2_read_47 : decode cX2_read 47 = .ok (.ifCond .eq 39, 3) := by decide +kernel
theorem dX2_read_50 : decode cX2_read 50 = .ok (.aload_n 0, 1) := by decide +kernel
theorem dX2_read_51 : decode cX2_read 51 = .ok (.invokevirtual 58, 3) := by decide +kernel
theorem dX2_read_54 : decode cX2_read 54 = .ok (.ifCond .eq 32, 3) := by decide +kernel
theorem dX2_read_57 : decode cX2_read 57 = .ok (.aload_n 0, 1) := by decide +kernel
theorem dX2_read_58 : decode cX2_read 58 = .ok (.invokevirtual 62, 3) := by decide +kernel
theorem dX2_read_61 : decode cX2_read 61 = .ok (.ifCond .eq 16, 3) := by decide +kernel
theorem dX2_read_64 : decode cX2_read 64 = .ok (.aload_n 0, 1) := by decide +kernel
theorem dX2_read_65 : decode cX2_read 65 = .ok (.bipush 32, 2) := by decide +kernel
theorem dX2_read_67 : decode cX2_read 67 = .ok (.invokevirtual 66, 3) := by decide +kernel
theorem dX2_read_70 : decode cX2_read 70 = .ok (.ifCond .eq 7, 3) := by decide +kernel
theorem dX2_read_73 : decode cX2_read 73 = .ok (.iconst 1, 1) := by decide +kernel
theorem dX2_read_74 : decode cX2_read 74 = .ok (.goto 4, 3) := by decide +kernel
theorem dX2_read_77 : decode cX2_read 77 = .ok (.iconst 0, 1) := by decide +kernel
theorem dX2_read_78 : decode cX2_read 78 = .ok (.istore 4, 2) := by decide +kernel
theorem dX2_read_80 : decode cX2_read 80 = .ok (.iinc 5 1, 3) := by decide +kernel
theorem dX2_read_83 : decode cX2_read 83 = .ok (.goto (-46), 3) := by decide +kernel
theorem dX2_read_86 : decode cX2_read 86 = .ok (.iload 4, 2) := by decide +kernel
theorem dX2_read_88 : decode cX2_read 88 = .ok (.ifCond .ne 16, 3) := by decide +kernel
theorem dX2_read_91 : decode cX2_read 91 = .ok (.aload_n 0, 1) := by decide +kernel
theorem dX2_read_92 : decode cX2_read 92 = .ok (.iconst 1, 1) := by decide +kernel
theorem dX2_read_93 : decode cX2_read 93 = .ok (.putfield 42, 3) := by decide +kernel
theorem dX2_read_96 : decode cX2_read 96 = .ok (.aload_n 0, 1) := by decide +kernel
theorem dX2_read_97 : decode cX2_read 97 = .ok (.aload_n 0, 1) := by decide +kernel
theorem dX2_read_98 : decode cX2_read 98 = .ok (.getfield 38, 3) := by decide +kernel
theorem dX2_read_101 : decode cX2_read 101 = .ok (.putfield 45, 3) := by decide +kernel
theorem dX2_read_104 : decode cX2_read 104 = .ok (.aload_n 0, 1) := by decide +kernel
theorem dX2_read_105 : decode cX2_read 105 = .ok (.aload_n 0, 1) := by decide +kernel
theorem dX2_read_106 : decode cX2_read 106 = .ok (.getfield 42, 3) := by decide +kernel
theorem dX2_read_109 : decode cX2_read 109 = .ok (.ifCond .ne 7, 3) := by decide +kernel
theorem dX2_read_112 : decode cX2_read 112 = .ok (.iconst (-1), 1) := by decide +kernel
theorem dX2_read_113 : decode cX2_read 113 = .ok (.goto 17, 3) := by decide +kernel
theorem dX2_read_116 : decode cX2_read 116 = .ok (.aload_n 0, 1) := by decide +kernel
theorem dX2_read_117 : decode cX2_read 117 = .ok (.getfield 12, 3) := by decide +kernel
theorem dX2_read_120 : decode cX2_read 120 = .ok (.getfield 70, 3) := by decide +kernel
theorem dX2_read_123 : decode cX2_read 123 = .ok (.aload_n 0, 1) := by decide +kernel
theorem dX2_read_124 : decode cX2_read 124 = .ok (.getfield 45, 3) := by decide +kernel
theorem dX2_read_127 : decode cX2_read 127 = .ok (.invokestatic 74, 3) := by decide +kernel
theorem dX2_read_130 : decode cX2_read 130 = .ok (.putfield 48, 3) := by decide +kernel
theorem dX2_read_133 : decode cX2_read 133 = .ok (.aload_n 0, 1) := by decide +kernel
theorem dX2_read_134 : decode cX2_read 134 = .ok (.getfield 42, 3) := by decide +kernel
theorem dX2_read_137 : decode cX2_read 137 = .ok (.ireturn, 1) := by decide +kernel
theorem mi_X3_read : MInfo yX3_read cX3_read 6 none 2 := ⟨wq_950, wq_80, by decide, ⟨by decide +kernel, by decide +kernel, by decide +kernel⟩, by decide +kernel⟩
theorem mi_X2_read : MInfo yX2_read cX2_read 6 (some .int) 3 := ⟨wq_946, wq_79, by decide, ⟨by decide +kernel, by decide +kernel, by decide +kernel⟩, by decide +kernel⟩
def wl_X3_read_18 (a : Nat → Nat) (K : Nat → M2 → L2 → Prop) : Nat → M2 → L2 → Int32 → Int32 → Int32 → Prop
  | 0, _, _, _, _, _ => False
  | n + 1, F, L, v3, v4, v5 => ((400 < v5 → K ((a 80)) F L) ∧ (¬ 400 < v5 → ((v4 = 0 → K ((a 80)) F L) ∧ (¬ v4 = 0 → wp_X3_behindBlanks F L v3 (fun r_33 => (∀ F_44 : M2, F_44 = up2 F 75 (putv (F 75) 401 v5 r_33) → wp_X3_readOne F_44 L v5 r_33 (fun r_51 F_51 L_51 => (((atv (F_51 74) 401 v5) = 0 → (∀ v5_87 : Int32, v5_87 = v5 + 1 → wl_X3_read_18 a K n F_51 L_51 r_51 0 v5_87)) ∧ (¬ (atv (F_51 74) 401 v5) = 0 → (((atv (F_51 74) 401 v5) = 1 → (∀ v5_87 : Int32, v5_87 = v5 + 1 → wl_X3_read_18 a K n F_51 L_51 r_51 0 v5_87)) ∧ (¬ (atv (F_51 74) 401 v5) = 1 → (∀ v5_87 : Int32, v5_87 = v5 + 1 → wl_X3_read_18 a K n F_51 L_51 r_51 1 v5_87))))))))))))
def wp_X3_read (a : Nat → Nat) (bp : Nat) (F : M2) (L : L2) (x2 : Int32) (K : Nat → M2 → L2 → Prop) : Prop := (∀ F_7 : M2, F_7 = up2 F 78 (fun _ => x2) → wl_X3_read_18 a K fK F_7 L 0 1 0)
set_option maxRecDepth 100000 in
set_option maxHeartbeats 4000000 in
theorem c_X3_read (l : Launch) (D : va_G) (Z : Nat → ClassId) (a q : Nat → Nat) (rp : Nat) (bp : Nat) (F : M2) (L : L2) (sz : Nat) (x2 : Int32) (K : Nat → M2 → L2 → Prop) (hm : wp_X3_read a bp F L x2 K) : Met l yX3_read (wy yX3_read cX3_read 6 none) (rk 5 0 0) (pre vwCl D Z (KB Z a q rp bp F L) sz [.ref (a 70), .ref (a 80), .int x2]) (poV vwCl D Z (fun u : Nat × M2 × L2 => KB Z a q rp u.1 u.2.1 u.2.2) (bp, F, L) sz (fun (u : Nat × M2 × L2) => K u.1 u.2.1 u.2.2)) 0 0 (va_A (KB Z a q rp bp F L) sz) := by
  refine rwv_of (wsF := (fun u : Nat × M2 × L2 => KB Z a q rp u.1 u.2.1 u.2.2)) (u0 := (bp, F, L)) (by decide +kernel) (Nat.le_of_ble_eq_true rfl) rfl ?_
  intro p e s m args below meth c Q A hC hN hsz hnm hT hK hret ls hl
  have hx := hC.1
  have hb := hC.2.1
  have hl : lv_has ls 6 [(0, .ref (a 70)), (1, .ref (a 80)), (2, .int x2)] := hl
  have hT : TS vwCl D (KB Z a q rp bp F L) A s.heap s.heap [] := hT
  have L18 : ∀ (n18 : Nat), ∀ (F : M2) (L : L2) (v3 : Int32) (v4 : Int32) (v5 : Int32) (H : Heap) (locs : List Loc) (ls : Array Slot), wl_X3_read_18 a K n18 F L v3 v4 v5 → TS vwCl D (KB Z a q rp (a 80) F L) A s.heap H locs → lv_has ls 6 [(0, .ref (a 70)), (3, .int v3), (4, .int v4), (5, .int v5)] → W p l e (rk 5 0 0) s m args below meth c H locs 0 0 Q (F0 m 18 ls []) := by
    intro n18
    induction n18 with
    | zero =>
      intro F L v3 v4 v5 H locs ls hm hT hl
      exact False.elim hm
    | succ n18 ih18 =>
      intro F L v3 v4 v5 H locs ls hm hT hl
      refine lv_iload hx hb dX3_read_18 (lv_at hl 3 rfl) ?_
      refine lv_sipush (v := 400) hx hb dX3_read_20 (by decide) ?_
      refine lv_icmp_gt (tgt := 93) hx hb dX3_read_23 (by decide) (fun c_23 => ?_) (fun c_23 => ?_)
      · have hm := hm.1 c_23
        exact hret 93 _ _ _ ((a 80), F, L) hm hT dX3_read_93
      · have hm := hm.2 c_23
        refine lv_iload hx hb dX3_read_26 (lv_at hl 2 rfl) ?_
        refine lv_if_eq (tgt := 93) hx hb dX3_read_28 (by decide) (fun c_28 => ?_) (fun c_28 => ?_)
        · have hm := hm.1 c_28
          exact hret 93 _ _ _ ((a 80), F, L) hm hT dX3_read_93
        · have hm := hm.2 c_28
          refine lv_aload_n hx hb dX3_read_31 rfl (lv_at hl 0 rfl) ?_
          refine lv_iload_n hx hb dX3_read_32 rfl (lv_at hl 1 rfl) ?_
          refine kx_X3_behindBlanks hC hN hK hT.1 hT.D' (sx_KWKB Z a q rp F L) rfl hm wq_951 (by decide) hl.1 (Nat.le_of_ble_eq_true rfl) ⟨Nat.le_refl _, Nat.le_refl _⟩ dX3_read_33 (fun r_33 hm => ?_)
          refine lv_istore_n (lv' := [(3, .int r_33), (0, .ref (a 70)), (4, .int v4), (5, .int v5)]) hx hb dX3_read_36 rfl hl (by decide) rfl (fun ls hl => ?_)
          refine lv_aload_n hx hb dX3_read_37 rfl (lv_at hl 1 rfl) ?_
          refine gKB_tok_4 hC hK hT.1 wq_215 dX3_read_38 ?_
          refine lv_iload hx hb dX3_read_41 (lv_at hl 3 rfl) ?_
          refine lv_iload_n hx hb dX3_read_43 rfl (lv_at hl 0 rfl) ?_
          refine uKB_start hC hN hK hT wn_176 (by decide) hl.1 (Nat.le_of_ble_eq_true rfl) ⟨Nat.le_refl _, Nat.le_refl _⟩ dX3_read_44 (fun F_44 eF_44 H locs hT => ?_)
          have hm := hm F_44 eF_44
          refine lv_aload_n hx hb dX3_read_47 rfl (lv_at hl 1 rfl) ?_
          refine lv_iload hx hb dX3_read_48 (lv_at hl 3 rfl) ?_
          refine lv_iload_n hx hb dX3_read_50 rfl (lv_at hl 0 rfl) ?_
          refine kx_X3_readOne hC hN hK hT (cx_KWKB Z a q rp F_44 L) rfl hm wq_959 (by decide) hl.1 (Nat.le_of_ble_eq_true rfl) ⟨Nat.le_refl _, Nat.le_refl _⟩ dX3_read_51 (fun r_51 F_51 L_51 H locs hm hT => ?_)
          have hT : TS vwCl D (KB Z a q rp (a 80) F_51 L_51) A s.heap H locs := hT
          refine lv_istore_n (lv' := [(3, .int r_51), (0, .ref (a 70)), (4, .int v4), (5, .int v5)]) hx hb dX3_read_54 rfl hl (by decide) rfl (fun ls hl => ?_)
          refine lv_aload_n hx hb dX3_read_55 rfl (lv_at hl 1 rfl) ?_
          refine gKB_tok_3 hC hK hT.1 wq_213 dX3_read_56 ?_
          refine lv_iload hx hb dX3_read_59 (lv_at hl 3 rfl) ?_
          refine w_at (q0 := 8) hC hN hK hT.1 wn_978 rfl (by decide) (by decide) hl.1 (Nat.le_of_ble_eq_true rfl) ⟨Nat.le_refl _, Nat.le_refl _⟩ dX3_read_61 ?_
          refine lv_if_eq (tgt := 84) hx hb dX3_read_64 (by decide) (fun c_64 => ?_) (fun c_64 => ?_)
          · have hm := hm.1 c_64
            refine lv_iconst (v := 0) hx hb dX3_read_84 (by decide) ?_
            refine lv_istore (lv' := [(4, .int 0), (3, .int r_51), (0, .ref (a 70)), (5, .int v5)]) hx hb dX3_read_85 hl (by decide) rfl (fun ls hl => ?_)
            obtain ⟨v5_87, ev5_87⟩ : ∃ y : Int32, y = v5 + 1 := ⟨_, rfl⟩
            have hm := hm v5_87 ev5_87
            refine lv_iinc (v := v5_87) (lv' := [(5, .int v5_87), (4, .int 0), (3, .int r_51), (0, .ref (a 70))]) hx hb dX3_read_87 hl (k := 3) rfl (by rw [ev5_87]; rfl) (by decide) rfl (fun ls hl => ?_)
            refine lv_goto (tgt := 18) hx hb dX3_read_90 (by decide) ?_
            exact ih18 _ _ _ _ _ _ _ _ hm hT (lv_sub hl [3, 2, 1, 0] rfl)
          · have hm := hm.2 c_64
            refine lv_aload_n hx hb dX3_read_67 rfl (lv_at hl 1 rfl) ?_
            refine gKB_tok_3 hC hK hT.1 wq_213 dX3_read_68 ?_
            refine lv_iload hx hb dX3_read_71 (lv_at hl 3 rfl) ?_
            refine w_at (q0 := 8) hC hN hK hT.1 wn_978 rfl (by decide) (by decide) hl.1 (Nat.le_of_ble_eq_true rfl) ⟨Nat.le_refl _, Nat.le_refl _⟩ dX3_read_73 ?_
            refine lv_iconst (v := 1) hx hb dX3_read_76 (by decide) ?_
            refine lv_icmp_eq (tgt := 84) hx hb dX3_read_77 (by decide) (fun c_77 => ?_) (fun c_77 => ?_)
            · have hm := hm.1 c_77
              refine lv_iconst (v := 0) hx hb dX3_read_84 (by decide) ?_
              refine lv_istore (lv' := [(4, .int 0), (3, .int r_51), (0, .ref (a 70)), (5, .int v5)]) hx hb dX3_read_85 hl (by decide) rfl (fun ls hl => ?_)
              obtain ⟨v5_87, ev5_87⟩ : ∃ y : Int32, y = v5 + 1 := ⟨_, rfl⟩
              have hm := hm v5_87 ev5_87
              refine lv_iinc (v := v5_87) (lv' := [(5, .int v5_87), (4, .int 0), (3, .int r_51), (0, .ref (a 70))]) hx hb dX3_read_87 hl (k := 3) rfl (by rw [ev5_87]; rfl) (by decide) rfl (fun ls hl => ?_)
              refine lv_goto (tgt := 18) hx hb dX3_read_90 (by decide) ?_
              exact ih18 _ _ _ _ _ _ _ _ hm hT (lv_sub hl [3, 2, 1, 0] rfl)
            · have hm := hm.2 c_77
              refine lv_iconst (v := 1) hx hb dX3_read_80 (by decide) ?_
              refine lv_goto (tgt := 85) hx hb dX3_read_81 (by decide) ?_
              refine lv_istore (lv' := [(4, .int 1), (3, .int r_51), (0, .ref (a 70)), (5, .int v5)]) hx hb dX3_read_85 hl (by decide) rfl (fun ls hl => ?_)
              obtain ⟨v5_87, ev5_87⟩ : ∃ y : Int32, y = v5 + 1 := ⟨_, rfl⟩
              have hm := hm v5_87 ev5_87
              refine lv_iinc (v := v5_87) (lv' := [(5, .int v5_87), (4, .int 1), (3, .int r_51), (0, .ref (a 70))]) hx hb dX3_read_87 hl (k := 3) rfl (by rw [ev5_87]; rfl) (by decide) rfl (fun ls hl => ?_)
              refine lv_goto (tgt := 18) hx hb dX3_read_90 (by decide) ?_
              exact ih18 _ _ _ _ _ _ _ _ hm hT (lv_sub hl [3, 2, 1, 0] rfl)
  refine lv_aload_n hx hb dX3_read_0 rfl (lv_at hl 0 rfl) ?_
  refine lv_aload_n hx hb dX3_read_1 rfl (lv_at hl 1 rfl) ?_
  refine pfKB_tok_6 hC hK hT wq_219 dX3_read_2 (fun H locs hT => ?_)
  refine lv_aload_n hx hb dX3_read_5 rfl (lv_at hl 0 rfl) ?_
  refine lv_iload_n hx hb dX3_read_6 rfl (lv_at hl 2 rfl) ?_
  refine pKB_tok_7 hC hK hT wq_220 dX3_read_7 (fun F_7 eF_7 H locs hT => ?_)
  have hm := hm F_7 eF_7
  refine lv_iconst (v := 0) hx hb dX3_read_10 (by decide) ?_
  refine lv_istore_n (lv' := [(3, .int 0), (0, .ref (a 70)), (1, .ref (a 80)), (2, .int x2)]) hx hb dX3_read_11 rfl hl (by decide) rfl (fun ls hl => ?_)
  refine lv_iconst (v := 1) hx hb dX3_read_12 (by decide) ?_
  refine lv_istore (lv' := [(4, .int 1), (3, .int 0), (0, .ref (a 70)), (1, .ref (a 80)), (2, .int x2)]) hx hb dX3_read_13 hl (by decide) rfl (fun ls hl => ?_)
  refine lv_iconst (v := 0) hx hb dX3_read_15 (by decide) ?_
  refine lv_istore (lv' := [(5, .int 0), (4, .int 1), (3, .int 0), (0, .ref (a 70)), (1, .ref (a 80)), (2, .int x2)]) hx hb dX3_read_16 hl (by decide) rfl (fun ls hl => ?_)
  exact L18 _ _ _ _ _ _ _ _ _ hm hT (lv_sub hl [3, 2, 1, 0] rfl)
section KX3_read
variable {p : Program} {l : Launch} {e : Env} {s : State} {m : MethodId} {args : Array Value} {below : List Frame} {meth : Method} {c : Code} {H H0 : Heap} {locs : List Loc} {cells slots : Nat} {Q : State → Prop} {R : Room} {rn mcR msR : Nat}
variable {pc : Nat} {ls : Array Slot} {rest : List Value} {A : Nat → Prop} {D : va_G}
variable {cc : ByteArray} {nL index : Nat} {own host : String}
theorem k_X3_read {Z : Nat → ClassId} {a q : Nat → Nat} {rp : Nat} {bp : Nat} {F : M2} {L : L2} {x2 : Int32} {K : Nat → M2 → L2 → Prop} (hC : CallFix p m c cc nL s args lw_g own) (hN : NW s) (hK : va_K D vwCl (tysG Z) s) (hT : TS vwCl D (KB Z a q rp bp F L) A H0 H locs) (hm : wp_X3_read a bp F L x2 K) (hl : Cond.methodLink own index yX3_read ∈ lw_g) (hlt : 5 < rn) (hsize : ls.size = nL) (hW : (rest.map fun v => v.category).sum ≤ 8) (hf : cells + 0 ≤ mcR ∧ slots + 0 ≤ msR) (hdg : decode cc pc = .ok (.invokevirtual index, 3)) (kk : ∀ (bp1 : Nat) (F1 : M2) (L1 : L2) (H1 : Heap) (locs1 : List Loc), K bp1 F1 L1 → TS vwCl D (KB Z a q rp bp1 F1 L1) A H0 H1 locs1 → W p l e (rk rn mcR msR) s m args below meth c H1 locs1 cells slots Q (F0 m (pc + 3) ls (rest))) : W p l e (rk rn mcR msR) s m args below meth c H locs cells slots Q (F0 m pc ls (.int x2 :: .ref (a 80) :: .ref (a 70) :: rest)) :=
  rwv_go (wsF := (fun u : Nat × M2 × L2 => KB Z a q rp u.1 u.2.1 u.2.2)) (u0 := (bp, F, L)) (wr := []) (isC := cutKB) (isR := []) (pm := cutKB) (ws' := (fun u : Nat × M2 × L2 => KB Z a q rp u.1 u.2.1 u.2.2)) (runV (As := [.ref (a 80), .int x2]) hC hN (c_X3_read l D Z a q rp bp F L H.size x2 K hm) mi_X3_read hl wq_948 wq_949 hlt hT.1 hT.D' hK (q0 := 5) rfl rfl rfl hsize rfl hW hdg hf) (cutOkKB Z a q rp bp F L) hT (fun u H1 locs1 hk hT1 => kk u.1 u.2.1 u.2.2 H1 locs1 hk hT1)
theorem kx_X3_read {Z : Nat → ClassId} {a q : Nat → Nat} {rp : Nat} {bp : Nat} {F : M2} {L : L2} {x2 : Int32} {K : Nat → M2 → L2 → Prop} {ws wr : va_W} {isC isR pm : List Nat} {ws' : Nat × M2 × L2 → va_W} (hC : CallFix p m c cc nL s args lw_g own) (hN : NW s) (hK : va_K D vwCl (tysG Z) s) (hT : TS vwCl D ws A H0 H locs) (hc : Cut ws (fun u : Nat × M2 × L2 => KB Z a q rp u.1 u.2.1 u.2.2) (bp, F, L) wr isC isR pm ws') (hnd : va_nd isC = true) (hm : wp_X3_read a bp F L x2 K) (hl : Cond.methodLink own index yX3_read ∈ lw_g) (hlt : 5 < rn) (hsize : ls.size = nL) (hW : (rest.map fun v => v.category).sum ≤ 8) (hf : cells + 0 ≤ mcR ∧ slots + 0 ≤ msR) (hdg : decode cc pc = .ok (.invokevirtual index, 3)) (kk : ∀ (bp1 : Nat) (F1 : M2) (L1 : L2) (H1 : Heap) (locs1 : List Loc), K bp1 F1 L1 → TS vwCl D (ws' (bp1, F1, L1)) A H0 H1 locs1 → W p l e (rk rn mcR msR) s m args below meth c H1 locs1 cells slots Q (F0 m (pc + 3) ls (rest))) : W p l e (rk rn mcR msR) s m args below meth c H locs cells slots Q (F0 m pc ls (.int x2 :: .ref (a 80) :: .ref (a 70) :: rest)) :=
  rwv_go (wsF := (fun u : Nat × M2 × L2 => KB Z a q rp u.1 u.2.1 u.2.2)) (u0 := (bp, F, L)) (wr := wr) (isC := isC) (isR := isR) (pm := pm) (ws' := ws') (runV (As := [.ref (a 80), .int x2]) hC hN (c_X3_read l D Z a q rp bp F L H.size x2 K hm) mi_X3_read hl wq_948 wq_949 hlt (hT.1.sub isC (map_fm hc.1)) (hT.D'.sub isC hnd hc.1) hK (q0 := 5) rfl rfl rfl hsize rfl hW hdg hf) hc hT (fun u H1 locs1 hk hT1 => kk u.1 u.2.1 u.2.2 H1 locs1 hk hT1)
end KX3_read
def wj_X2_read_104 (a : Nat → Nat) (q : Nat → Nat) (K : Int32 → Nat → Nat → M2 → L2 → Prop) (F : M2) (L : L2) : Prop := ((¬ (F 67 0) = 0 → (∀ F_130 : M2, F_130 = up2 F 69 (fun _ => atv (F 75) 401 (F 68 0)) → K (F_130 67 0) ((a 80)) ((q 20)) F_130 L)) ∧ ((F 67 0) = 0 → (∀ F_130 : M2, F_130 = up2 F 69 (fun _ => (-1)) → K (F_130 67 0) ((a 80)) ((q 20)) F_130 L)))
def wj_X2_read_86 (a : Nat → Nat) (q : Nat → Nat) (K : Int32 → Nat → Nat → M2 → L2 → Prop) (F : M2) (L : L2) (v4 : Int32) : Prop := ((¬ v4 = 0 → wj_X2_read_104 a q K F L) ∧ (v4 = 0 → (∀ F_93 : M2, F_93 = up2 F 67 (fun _ => 1) → (∀ F_101 : M2, F_101 = up2 F_93 68 (fun _ => F_93 66 0) → wj_X2_read_104 a q K F_101 L))))
def wl_X2_read_37 (a : Nat → Nat) (q : Nat → Nat) (K : Int32 → Nat → Nat → M2 → L2 → Prop) : Nat → M2 → L2 → Int32 → Int32 → Prop
  | 0, _, _, _, _ => False
  | n + 1, F, L, v4, v5 => ((400 < v5 → wj_X2_read_86 a q K F L v4) ∧ (¬ 400 < v5 → ((v4 = 0 → wj_X2_read_86 a q K F L v4) ∧ (¬ v4 = 0 → wp_X2_peek F L (fun r_51 => ((r_51 = 0 → wj_X2_read_86 a q K F L v4) ∧ (¬ r_51 = 0 → wp_X2_line F L (fun r_58 F_58 L_58 => ((r_58 = 0 → (∀ v5_80 : Int32, v5_80 = v5 + 1 → wl_X2_read_37 a q K n F_58 L_58 0 v5_80)) ∧ (¬ r_58 = 0 → wp_X2_take F_58 L_58 32 (fun r_67 F_67 L_67 => ((r_67 = 0 → (∀ v5_80 : Int32, v5_80 = v5 + 1 → wl_X2_read_37 a q K n F_67 L_67 0 v5_80)) ∧ (¬ r_67 = 0 → (∀ v5_80 : Int32, v5_80 = v5 + 1 → wl_X2_read_37 a q K n F_67 L_67 1 v5_80))))))))))))))
def wp_X2_read (a : Nat → Nat) (q : Nat → Nat) (bp : Nat) (rp : Nat) (F : M2) (L : L2) (x2 : Int32) (K : Int32 → Nat → Nat → M2 → L2 → Prop) : Prop := wp_X3_read a bp F L x2 (fun bp_6 F_6 L_6 => bp_6 = (a 80) ∧ wp_X1_clear F_6 L_6 (fun F_18 L_18 => (∀ F_23 : M2, F_23 = up2 F_18 66 (fun _ => 0) → (∀ F_28 : M2, F_28 = up2 F_23 67 (fun _ => 0) → wl_X2_read_37 a q K fK F_28 L_18 1 0))))
set_option maxRecDepth 100000 in
set_option maxHeartbeats 4000000 in
theorem c_X2_read (l : Launch) (D : va_G) (Z : Nat → ClassId) (a q rx : Nat → Nat) (bp : Nat) (rp : Nat) (F : M2) (L : L2) (sz : Nat) (x2 : Int32) (K : Int32 → Nat → Nat → M2 → L2 → Prop) (hm : wp_X2_read a q bp rp F L x2 K) : Met l yX2_read (wy yX2_read cX2_read 6 (some .int)) (rk 133 0 0) (preR vwCl D Z rx (RB Z a q rx bp rp F L) sz [.ref (a 60), .ref (a 80), .int x2, .ref (q 20)]) (poI vwCl D Z (fun u : Nat × Nat × M2 × L2 => RB Z a q rx u.1 u.2.1 u.2.2.1 u.2.2.2) (bp, rp, F, L) sz (fun (r : Int32) (u : Nat × Nat × M2 × L2) => K r u.1 u.2.1 u.2.2.1 u.2.2.2)) 0 0 (va_A (RB Z a q rx bp rp F L) sz) := by
  refine rw_ofR (ty := .int) (wsF := (fun u : Nat × Nat × M2 × L2 => RB Z a q rx u.1 u.2.1 u.2.2.1 u.2.2.2)) (u0 := (bp, rp, F, L)) (by decide +kernel) (Nat.le_of_ble_eq_true rfl) rfl ?_
  intro p e s m args below meth c Q A hC hN hR hsz hT hK hret ls hl
  have hx := hC.1
  have hb := hC.2.1
  have hl : lv_has ls 6 [(0, .ref (a 60)), (1, .ref (a 80)), (2, .int x2), (3, .ref (q 20))] := hl
  have hT : TS vwCl D (RB Z a q rx bp rp F L) A s.heap s.heap [] := hT
  have L104 : ∀ (F : M2) (L : L2) (H : Heap) (locs : List Loc) (ls : Array Slot), wj_X2_read_104 a q K F L → TS vwCl D (RB Z a q rx (a 80) (q 20) F L) A s.heap H locs → lv_has ls 6 [(0, .ref (a 60))] → W p l e (rk 133 0 0) s m args below meth c H locs 0 0 Q (F0 m 104 ls []) := by
    intro F L H locs ls hm hT hl
    refine lv_aload_n hx hb dX2_read_104 rfl (lv_at hl 0 rfl) ?_
    refine lv_aload_n hx hb dX2_read_105 rfl (lv_at hl 0 rfl) ?_
    refine gRB_rd_7 hC hK hT.1 wq_392 dX2_read_106 ?_
    refine lv_if_ne (tgt := 116) hx hb dX2_read_109 (by decide) (fun c_109 => ?_) (fun c_109 => ?_)
    · have hm := hm.1 c_109
      refine lv_aload_n hx hb dX2_read_116 rfl (lv_at hl 0 rfl) ?_
      refine gRB_rd_0 hC hK hT.1 wq_385 dX2_read_117 ?_
      refine gRB_tok_4 hC hK hT.1 wq_216 dX2_read_120 ?_
      refine lv_aload_n hx hb dX2_read_123 rfl (lv_at hl 0 rfl) ?_
      refine gRB_rd_8 hC hK hT.1 wq_393 dX2_read_124 ?_
      refine w_at (q0 := 9) hC hN hK hT.1 wn_1003 rfl (by decide) (by decide) hl.1 (Nat.le_of_ble_eq_true rfl) ⟨Nat.le_refl _, Nat.le_refl _⟩ dX2_read_127 ?_
      refine pRB_rd_9 hC hK hT wq_394 dX2_read_130 (fun F_130 eF_130 H locs hT => ?_)
      have hm := hm F_130 eF_130
      refine lv_aload_n hx hb dX2_read_133 rfl (lv_at hl 0 rfl) ?_
      refine gRB_rd_7 hC hK hT.1 wq_392 dX2_read_134 ?_
      exact hret 137 _ _ _ _ ((a 80), (q 20), F_130, L) hm hT rfl dX2_read_137
    · have hm := hm.2 c_109
      refine lv_iconst (v := (-1)) hx hb dX2_read_112 (by decide) ?_
      refine lv_goto (tgt := 130) hx hb dX2_read_113 (by decide) ?_
      refine pRB_rd_9 hC hK hT wq_394 dX2_read_130 (fun F_130 eF_130 H locs hT => ?_)
      have hm := hm F_130 eF_130
      refine lv_aload_n hx hb dX2_read_133 rfl (lv_at hl 0 rfl) ?_
      refine gRB_rd_7 hC hK hT.1 wq_392 dX2_read_134 ?_
      exact hret 137 _ _ _ _ ((a 80), (q 20), F_130, L) hm hT rfl dX2_read_137
  have L86 : ∀ (F : M2) (L : L2) (v4 : Int32) (H : Heap) (locs : List Loc) (ls : Array Slot), wj_X2_read_86 a q K F L v4 → TS vwCl D (RB Z a q rx (a 80) (q 20) F L) A s.heap H locs → lv_has ls 6 [(0, .ref (a 60)), (4, .int v4)] → W p l e (rk 133 0 0) s m args below meth c H locs 0 0 Q (F0 m 86 ls []) := by
    intro F L v4 H locs ls hm hT hl
    refine lv_iload hx hb dX2_read_86 (lv_at hl 1 rfl) ?_
    refine lv_if_ne (tgt := 104) hx hb dX2_read_88 (by decide) (fun c_88 => ?_) (fun c_88 => ?_)
    · have hm := hm.1 c_88
      exact L104 _ _ _ _ _ hm hT (lv_sub hl [0] rfl)
    · have hm := hm.2 c_88
      refine lv_aload_n hx hb dX2_read_91 rfl (lv_at hl 0 rfl) ?_
      refine lv_iconst (v := 1) hx hb dX2_read_92 (by decide) ?_
      refine pRB_rd_7 hC hK hT wq_392 dX2_read_93 (fun F_93 eF_93 H locs hT => ?_)
      have hm := hm F_93 eF_93
      refine lv_aload_n hx hb dX2_read_96 rfl (lv_at hl 0 rfl) ?_
      refine lv_aload_n hx hb dX2_read_97 rfl (lv_at hl 0 rfl) ?_
      refine gRB_rd_6 hC hK hT.1 wq_391 dX2_read_98 ?_
      refine pRB_rd_8 hC hK hT wq_393 dX2_read_101 (fun F_101 eF_101 H locs hT => ?_)
      have hm := hm F_101 eF_101
      exact L104 _ _ _ _ _ hm hT (lv_sub hl [0] rfl)
  have L37 : ∀ (n37 : Nat), ∀ (F : M2) (L : L2) (v4 : Int32) (v5 : Int32) (H : Heap) (locs : List Loc) (ls : Array Slot), wl_X2_read_37 a q K n37 F L v4 v5 → TS vwCl D (RB Z a q rx (a 80) (q 20) F L) A s.heap H locs → lv_has ls 6 [(0, .ref (a 60)), (4, .int v4), (5, .int v5)] → W p l e (rk 133 0 0) s m args below meth c H locs 0 0 Q (F0 m 37 ls []) := by
    intro n37
    induction n37 with
    | zero =>
      intro F L v4 v5 H locs ls hm hT hl
      exact False.elim hm
    | succ n37 ih37 =>
      intro F L v4 v5 H locs ls hm hT hl
      refine lv_iload hx hb dX2_read_37 (lv_at hl 2 rfl) ?_
      refine lv_sipush (v := 400) hx hb dX2_read_39 (by decide) ?_
      refine lv_icmp_gt (tgt := 86) hx hb dX2_read_42 (by decide) (fun c_42 => ?_) (fun c_42 => ?_)
      · have hm := hm.1 c_42
        exact L86 _ _ _ _ _ _ hm hT (lv_sub hl [0, 1] rfl)
      · have hm := hm.2 c_42
        refine lv_iload hx hb dX2_read_45 (lv_at hl 1 rfl) ?_
        refine lv_if_eq (tgt := 86) hx hb dX2_read_47 (by decide) (fun c_47 => ?_) (fun c_47 => ?_)
        · have hm := hm.1 c_47
          exact L86 _ _ _ _ _ _ hm hT (lv_sub hl [0, 1] rfl)
        · have hm := hm.2 c_47
          refine lv_aload_n hx hb dX2_read_50 rfl (lv_at hl 0 rfl) ?_
          refine kx_X2_peek hC hN hK hT.1 hT.D' (sx_KWRB Z a q rx F L) rfl hm wq_999 (by decide) hl.1 (Nat.le_of_ble_eq_true rfl) ⟨Nat.le_refl _, Nat.le_refl _⟩ dX2_read_51 (fun r_51 hm => ?_)
          refine lv_if_eq (tgt := 86) hx hb dX2_read_54 (by decide) (fun c_54 => ?_) (fun c_54 => ?_)
          · have hm := hm.1 c_54
            exact L86 _ _ _ _ _ _ hm hT (lv_sub hl [0, 1] rfl)
          · have hm := hm.2 c_54
            refine lv_aload_n hx hb dX2_read_57 rfl (lv_at hl 0 rfl) ?_
            refine kx_X2_line hC hN (hT.rd hR) hK hT (cx_RKRB Z a q rx F L) rfl hm wq_1004 (by decide) hl.1 (Nat.le_of_ble_eq_true rfl) ⟨Nat.le_refl _, Nat.le_refl _⟩ dX2_read_58 (fun r_58 F_58 L_58 H locs hm hT => ?_)
            have hT : TS vwCl D (RB Z a q rx (a 80) (q 20) F_58 L_58) A s.heap H locs := hT
            refine lv_if_eq (tgt := 77) hx hb dX2_read_61 (by decide) (fun c_61 => ?_) (fun c_61 => ?_)
            · have hm := hm.1 c_61
              refine lv_iconst (v := 0) hx hb dX2_read_77 (by decide) ?_
              refine lv_istore (lv' := [(4, .int 0), (0, .ref (a 60)), (5, .int v5)]) hx hb dX2_read_78 hl (by decide) rfl (fun ls hl => ?_)
              obtain ⟨v5_80, ev5_80⟩ : ∃ y : Int32, y = v5 + 1 := ⟨_, rfl⟩
              have hm := hm v5_80 ev5_80
              refine lv_iinc (v := v5_80) (lv' := [(5, .int v5_80), (4, .int 0), (0, .ref (a 60))]) hx hb dX2_read_80 hl (k := 2) rfl (by rw [ev5_80]; rfl) (by decide) rfl (fun ls hl => ?_)
              refine lv_goto (tgt := 37) hx hb dX2_read_83 (by decide) ?_
              exact ih37 _ _ _ _ _ _ _ hm hT (lv_sub hl [2, 1, 0] rfl)
            · have hm := hm.2 c_61
              refine lv_aload_n hx hb dX2_read_64 rfl (lv_at hl 0 rfl) ?_
              refine lv_bipush (v := 32) hx hb dX2_read_65 (by decide) ?_
              refine kx_X2_take hC hN hK hT (cx_KWRB Z a q rx F_58 L_58) rfl hm wq_1018 (by decide) hl.1 (Nat.le_of_ble_eq_true rfl) ⟨Nat.le_refl _, Nat.le_refl _⟩ dX2_read_67 (fun r_67 F_67 L_67 H locs hm hT => ?_)
              have hT : TS vwCl D (RB Z a q rx (a 80) (q 20) F_67 L_67) A s.heap H locs := hT
              refine lv_if_eq (tgt := 77) hx hb dX2_read_70 (by decide) (fun c_70 => ?_) (fun c_70 => ?_)
              · have hm := hm.1 c_70
                refine lv_iconst (v := 0) hx hb dX2_read_77 (by decide) ?_
                refine lv_istore (lv' := [(4, .int 0), (0, .ref (a 60)), (5, .int v5)]) hx hb dX2_read_78 hl (by decide) rfl (fun ls hl => ?_)
                obtain ⟨v5_80, ev5_80⟩ : ∃ y : Int32, y = v5 + 1 := ⟨_, rfl⟩
                have hm := hm v5_80 ev5_80
                refine lv_iinc (v := v5_80) (lv' := [(5, .int v5_80), (4, .int 0), (0, .ref (a 60))]) hx hb dX2_read_80 hl (k := 2) rfl (by rw [ev5_80]; rfl) (by decide) rfl (fun ls hl => ?_)
                refine lv_goto (tgt := 37) hx hb dX2_read_83 (by decide) ?_
                exact ih37 _ _ _ _ _ _ _ hm hT (lv_sub hl [2, 1, 0] rfl)
              · have hm := hm.2 c_70
                refine lv_iconst (v := 1) hx hb dX2_read_73 (by decide) ?_
                refine lv_goto (tgt := 78) hx hb dX2_read_74 (by decide) ?_
                refine lv_istore (lv' := [(4, .int 1), (0, .ref (a 60)), (5, .int v5)]) hx hb dX2_read_78 hl (by decide) rfl (fun ls hl => ?_)
                obtain ⟨v5_80, ev5_80⟩ : ∃ y : Int32, y = v5 + 1 := ⟨_, rfl⟩
                have hm := hm v5_80 ev5_80
                refine lv_iinc (v := v5_80) (lv' := [(5, .int v5_80), (4, .int 1), (0, .ref (a 60))]) hx hb dX2_read_80 hl (k := 2) rfl (by rw [ev5_80]; rfl) (by decide) rfl (fun ls hl => ?_)
                refine lv_goto (tgt := 37) hx hb dX2_read_83 (by decide) ?_
                exact ih37 _ _ _ _ _ _ _ hm hT (lv_sub hl [2, 1, 0] rfl)
  refine lv_aload_n hx hb dX2_read_0 rfl (lv_at hl 0 rfl) ?_
  refine gRB_rd_0 hC hK hT.1 wq_385 dX2_read_1 ?_
  refine lv_aload_n hx hb dX2_read_4 rfl (lv_at hl 1 rfl) ?_
  refine lv_iload_n hx hb dX2_read_5 rfl (lv_at hl 2 rfl) ?_
  refine kx_X3_read hC hN hK hT (cx_KBRB Z a q rx bp rp F L) rfl hm wq_947 (by decide) hl.1 (Nat.le_of_ble_eq_true rfl) ⟨Nat.le_refl _, Nat.le_refl _⟩ dX2_read_6 (fun bp_6 F_6 L_6 H locs hm hT => ?_)
  have hT : TS vwCl D (RB Z a q rx bp_6 rp F_6 L_6) A s.heap H locs := hT
  obtain ⟨ebp_6, hm⟩ := hm
  subst ebp_6
  refine lv_aload_n hx hb dX2_read_9 rfl (lv_at hl 0 rfl) ?_
  refine lv_aload_n hx hb dX2_read_10 rfl (lv_at hl 3 rfl) ?_
  refine pfRB_rd_5 hC hK hT wq_390 dX2_read_11 (fun H locs hT => ?_)
  refine lv_aload_n hx hb dX2_read_14 rfl (lv_at hl 0 rfl) ?_
  refine gRB_rd_5 hC hK hT.1 wq_390 dX2_read_15 ?_
  refine kx_X1_clear hC hN hK hT (cx_KWRB Z a q rx F_6 L_6) rfl hm wq_991 (by decide) hl.1 (Nat.le_of_ble_eq_true rfl) ⟨Nat.le_refl _, Nat.le_refl _⟩ dX2_read_18 (fun F_18 L_18 H locs hm hT => ?_)
  have hT : TS vwCl D (RB Z a q rx (a 80) (q 20) F_18 L_18) A s.heap H locs := hT
  refine lv_aload_n hx hb dX2_read_21 rfl (lv_at hl 0 rfl) ?_
  refine lv_iconst (v := 0) hx hb dX2_read_22 (by decide) ?_
  refine pRB_rd_6 hC hK hT wq_391 dX2_read_23 (fun F_23 eF_23 H locs hT => ?_)
  have hm := hm F_23 eF_23
  refine lv_aload_n hx hb dX2_read_26 rfl (lv_at hl 0 rfl) ?_
  refine lv_iconst (v := 0) hx hb dX2_read_27 (by decide) ?_
  refine pRB_rd_7 hC hK hT wq_392 dX2_read_28 (fun F_28 eF_28 H locs hT => ?_)
  have hm := hm F_28 eF_28
  refine lv_iconst (v := 1) hx hb dX2_read_31 (by decide) ?_
  refine lv_istore (lv' := [(4, .int 1), (0, .ref (a 60)), (1, .ref (a 80)), (2, .int x2), (3, .ref (q 20))]) hx hb dX2_read_32 hl (by decide) rfl (fun ls hl => ?_)
  refine lv_iconst (v := 0) hx hb dX2_read_34 (by decide) ?_
  refine lv_istore (lv' := [(5, .int 0), (4, .int 1), (0, .ref (a 60)), (1, .ref (a 80)), (2, .int x2), (3, .ref (q 20))]) hx hb dX2_read_35 hl (by decide) rfl (fun ls hl => ?_)
  exact L37 _ _ _ _ _ _ _ _ hm hT (lv_sub hl [2, 1, 0] rfl)
section KX2_read
variable {p : Program} {l : Launch} {e : Env} {s : State} {m : MethodId} {args : Array Value} {below : List Frame} {meth : Method} {c : Code} {H H0 : Heap} {locs : List Loc} {cells slots : Nat} {Q : State → Prop} {R : Room} {rn mcR msR : Nat}
variable {pc : Nat} {ls : Array Slot} {rest : List Value} {A : Nat → Prop} {D : va_G}
variable {cc : ByteArray} {nL index : Nat} {own host : String}
end KX2_read
