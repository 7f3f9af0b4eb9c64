theorem wq_483 : Cond.fieldLink RX5 69 RX4 "plan" "LTunnelLeggers$Plan;" ∈ lw_g := lw_g_mk (tb_2 (List.mem_of_getElem? (i := 119) rfl)) rfl
theorem wq_350 : Cond.fieldLink RX5 84 RX1 "places" "I" ∈ lw_g := lw_g_mk (tb_1 (List.mem_of_getElem? (i := 226) rfl)) rfl
theorem wq_491 : Cond.fieldLink RX5 126 RX4 "air" "[I" ∈ lw_g := lw_g_mk (tb_2 (List.mem_of_getElem? (i := 127) rfl)) rfl
theorem wq_796 : Cond.methodLink RX5 122 yX5_at ∈ lw_g := lw_g_mk (tb_3 (List.mem_of_getElem? (i := 192) rfl)) rfl
theorem wq_801 : Cond.methodLink RX5 206 yX5_put ∈ lw_g := lw_g_mk (tb_3 (List.mem_of_getElem? (i := 197) rfl)) rfl
theorem wq_791 : Cond.code yX5_errorAt cX5_errorAt 1 (some .int) ∈ lw_g := lw_g_mk (tb_3 (List.mem_of_getElem? (i := 187) rfl)) rfl
theorem wq_795 : Cond.code yX5_worst cX5_worst 3 (some .int) ∈ lw_g := lw_g_mk (tb_3 (List.mem_of_getElem? (i := 191) rfl)) rfl
theorem wq_800 : Cond.code yX5_air cX5_air 3 (some .int) ∈ lw_g := lw_g_mk (tb_3 (List.mem_of_getElem? (i := 196) rfl)) rfl
def CQ (Z : Nat → ClassId) (a q : Nat → Nat) (ca tp rd sp ah : Nat) (P : M2) (F : M2) (C : M2) : va_W := [(a 0, .inr (4, [.ref (q 20), .int (F 1 0), .int (F 2 0), .int (F 3 0), .ref (a 4), .ref (a 5), .ref (a 6), .ref (a 7), .ref (a 8), .ref (a 9), .ref (a 10), .ref (a 11), .ref (a 12), .ref (a 13), .ref (a 14)])), (a 4, .inl (Z 0, 60, .inl (F 4))), (a 5, .inl (Z 0, 6, .inl (F 5))), (a 6, .inl (Z 0, 6, .inl (F 6))), (a 7, .inl (Z 0, 6, .inl (F 7))), (a 8, .inl (Z 0, 8, .inl (F 8))), (a 9, .inl (Z 0, 8, .inl (F 9))), (a 10, .inl (Z 0, 8, .inl (F 10))), (a 11, .inl (Z 0, 8, .inl (F 11))), (a 12, .inl (Z 0, 8, .inl (F 12))), (a 13, .inl (Z 0, 8, .inl (F 13))), (a 14, .inl (Z 0, 400, .inl (F 14))), (q 20, .inr (1, [.int (P 20 0), .int (P 21 0), .int (P 22 0), .int (P 23 0), .int (P 24 0), .ref (q 25), .ref (q 26), .ref (q 27), .ref (q 28), .ref (q 29), .ref (q 30), .ref (q 31), .ref (q 32), .ref (q 33), .ref (q 34), .ref (q 35), .ref (q 36), .ref (q 37), .ref (q 40)])), (q 25, .inl (Z 0, 5, .inl (P 25))), (q 26, .inl (Z 0, 5, .inl (P 26))), (q 27, .inl (Z 0, 5, .inl (P 27))), (q 28, .inl (Z 0, 60, .inl (P 28))), (q 29, .inl (Z 0, 4, .inl (P 29))), (q 30, .inl (Z 0, 4, .inl (P 30))), (q 31, .inl (Z 0, 6, .inl (P 31))), (q 32, .inl (Z 0, 6, .inl (P 32))), (q 33, .inl (Z 0, 8, .inl (P 33))), (q 34, .inl (Z 0, 8, .inl (P 34))), (q 35, .inl (Z 0, 8, .inl (P 35))), (q 36, .inl (Z 0, 8, .inl (P 36))), (q 37, .inl (Z 0, 8, .inl (P 37))), (q 40, .inr (0, [.int (P 40 0), .ref (q 41), .ref (q 42), .ref (q 43), .ref (q 44), .int (P 45 0), .ref (q 46), .ref (q 47)])), (q 41, .inl (Z 0, 16, .inl (P 41))), (q 42, .inl (Z 0, 16, .inl (P 42))), (q 43, .inl (Z 0, 16, .inl (P 43))), (q 44, .inl (Z 0, 16, .inl (P 44))), (q 46, .inl (Z 0, 400, .inl (P 46))), (q 47, .inl (Z 0, 400, .inl (P 47))), (ca, .inr (5, [.ref tp, .int (C 91 0), .int (C 92 0), .ref rd, .ref sp, .ref (a 0), .ref ah]))]
abbrev cutCQ : List Nat := [0, 1, 2, 3, 4, 5, 6, 7, 8, 9, 10, 11, 12, 13, 14, 15, 16, 17, 18, 19, 20, 21, 22, 23, 24, 25, 26, 27, 28, 29, 30, 31, 32, 33]
set_option maxRecDepth 100000 in
theorem cutOkCQ (Z : Nat → ClassId) (a q : Nat → Nat) (ca tp rd sp ah : Nat) (P : M2) (F : M2) (C : M2) : Cut (CQ Z a q ca tp rd sp ah P F C) (fun u : M2 × M2 => CQ Z a q ca tp rd sp ah P u.1 u.2) (F, C) [] cutCQ [] cutCQ (fun u : M2 × M2 => CQ Z a q ca tp rd sp ah P u.1 u.2) := ⟨rfl, rfl, rfl, fun i h => absurd h List.not_mem_nil, by decide, fun _ => rfl⟩
section ROWSCQ
variable {p : Program} {l : Launch} {e : Env} {s : State} {m : MethodId} {args : Array Value} {below : List Frame} {meth : Method} {c : Code} {H H0 : Heap} {locs : List Loc} {cells slots : Nat} {Q : State → Prop} {R : Room} {rn mcR msR : Nat}
variable {pc : Nat} {ls : Array Slot} {rest : List Value} {A : Nat → Prop} {D : va_G}
variable {cc : ByteArray} {nL index : Nat} {own host : String}
theorem gCQ_cl_2 {Z : Nat → ClassId} {a q : Nat → Nat} {ca tp rd sp ah : Nat} {P : M2} {F : M2} {C : M2} (hC : CallFix p m c cc nL s args lw_g own) (hK : va_K D vwCl (tysG Z) s) (hP : va_P D vwCl (CQ Z a q ca tp rd sp ah P F C) H) (hl : Cond.fieldLink own index RX5 "latestErrorAt" "I" ∈ lw_g) (hdg : decode cc pc = .ok (.getfield index, 3)) (kk : W p l e R s m args below meth c H locs cells slots Q (F0 m (pc + 3) ls (.int (C 92 0) :: rest))) : W p l e R s m args below meth c H locs cells slots Q (F0 m pc ls (.ref (ca) :: rest)) :=
  w_get (C := RX5) (T := TX5) (N := 7) (ci := 5) (q0 := 33) (k := 2) hC hK hP fi_X5 rfl rfl rfl (by decide) rfl hl hdg kk
theorem gCQ_cl_5 {Z : Nat → ClassId} {a q : Nat → Nat} {ca tp rd sp ah : Nat} {P : M2} {F : M2} {C : M2} (hC : CallFix p m c cc nL s args lw_g own) (hK : va_K D vwCl (tysG Z) s) (hP : va_P D vwCl (CQ Z a q ca tp rd sp ah P F C) H) (hl : Cond.fieldLink own index RX5 "now" "LTunnelLeggers$Tunnel;" ∈ lw_g) (hdg : decode cc pc = .ok (.getfield index, 3)) (kk : W p l e R s m args below meth c H locs cells slots Q (F0 m (pc + 3) ls (.ref (a 0) :: rest))) : W p l e R s m args below meth c H locs cells slots Q (F0 m pc ls (.ref (ca) :: rest)) :=
  w_get (C := RX5) (T := TX5) (N := 7) (ci := 5) (q0 := 33) (k := 5) hC hK hP fi_X5 rfl rfl rfl (by decide) rfl hl hdg kk
theorem gCQ_plan_1 {Z : Nat → ClassId} {a q : Nat → Nat} {ca tp rd sp ah : Nat} {P : M2} {F : M2} {C : M2} (hC : CallFix p m c cc nL s args lw_g own) (hK : va_K D vwCl (tysG Z) s) (hP : va_P D vwCl (CQ Z a q ca tp rd sp ah P F C) H) (hl : Cond.fieldLink own index RX1 "places" "I" ∈ lw_g) (hdg : decode cc pc = .ok (.getfield index, 3)) (kk : W p l e R s m args below meth c H locs cells slots Q (F0 m (pc + 3) ls (.int (P 21 0) :: rest))) : W p l e R s m args below meth c H locs cells slots Q (F0 m pc ls (.ref (q 20) :: rest)) :=
  w_get (C := RX1) (T := TX1) (N := 19) (ci := 1) (q0 := 12) (k := 1) hC hK hP fi_X1 rfl rfl rfl (by decide) rfl hl hdg kk
theorem gCQ_tun_0 {Z : Nat → ClassId} {a q : Nat → Nat} {ca tp rd sp ah : Nat} {P : M2} {F : M2} {C : M2} (hC : CallFix p m c cc nL s args lw_g own) (hK : va_K D vwCl (tysG Z) s) (hP : va_P D vwCl (CQ Z a q ca tp rd sp ah P F C) H) (hl : Cond.fieldLink own index RX4 "plan" "LTunnelLeggers$Plan;" ∈ lw_g) (hdg : decode cc pc = .ok (.getfield index, 3)) (kk : W p l e R s m args below meth c H locs cells slots Q (F0 m (pc + 3) ls (.ref (q 20) :: rest))) : W p l e R s m args below meth c H locs cells slots Q (F0 m pc ls (.ref (a 0) :: rest)) :=
  w_get (C := RX4) (T := TX4) (N := 15) (ci := 4) (q0 := 0) (k := 0) hC hK hP fi_X4 rfl rfl rfl (by decide) rfl hl hdg kk
theorem gCQ_tun_4 {Z : Nat → ClassId} {a q : Nat → Nat} {ca tp rd sp ah : Nat} {P : M2} {F : M2} {C : M2} (hC : CallFix p m c cc nL s args lw_g own) (hK : va_K D vwCl (tysG Z) s) (hP : va_P D vwCl (CQ Z a q ca tp rd sp ah P F C) H) (hl : Cond.fieldLink own index RX4 "air" "[I" ∈ lw_g) (hdg : decode cc pc = .ok (.getfield index, 3)) (kk : W p l e R s m args below meth c H locs cells slots Q (F0 m (pc + 3) ls (.ref (a 4) :: rest))) : W p l e R s m args below meth c H locs cells slots Q (F0 m pc ls (.ref (a 0) :: rest)) :=
  w_get (C := RX4) (T := TX4) (N := 15) (ci := 4) (q0 := 0) (k := 4) hC hK hP fi_X4 rfl rfl rfl (by decide) rfl hl hdg kk
theorem uSCQ_Tair {Z : Nat → ClassId} {a q : Nat → Nat} {ca tp rd sp ah : Nat} {P : M2} {F : M2} {C : M2} {i : Int32} {x : Int32} (hC : CallFix p m c cc nL s args lw_g own) (hN : NW s) (hK : va_K D vwCl (tysG Z) s) (hT : TS vwCl D (CQ Z a q ca tp rd sp ah P F C) A H0 H locs) (hl : Cond.methodLink own index yX5_put ∈ lw_g) (hlt : 0 < rn) (hsize : ls.size = nL) (hW : (rest.map fun v => v.category).sum ≤ 8) (hf : cells + 0 ≤ mcR ∧ slots + 0 ≤ msR) (hdg : decode cc pc = .ok (.invokestatic index, 3)) (kk : ∀ (F1 : M2), F1 = up2 F 4 (putv (F 4) 60 i x) → ∀ (H1 : Heap) (locs1 : List Loc), TS vwCl D (CQ Z a q ca tp rd sp ah P F1 C) A H0 H1 locs1 → W p l e (rk rn mcR msR) s m args below meth c H1 locs1 cells slots Q (F0 m (pc + 3) ls rest)) : W p l e (rk rn mcR msR) s m args below meth c H locs cells slots Q (F0 m pc ls (.int x :: .int i :: .ref (a 4) :: rest)) :=
  w_puS (q0 := 1) (ws' := (CQ Z a q ca tp rd sp ah P (up2 F 4 (putv (F 4) 60 i x)) C)) hC hN hK hT hl rfl rfl (by decide) hlt hsize hW hf hdg (fun H1 locs1 hT1 => kk _ rfl H1 locs1 hT1)
end ROWSCQ
set_option maxRecDepth 100000 in
theorem sx_TWCQ (Z : Nat → ClassId) (a q : Nat → Nat) (ca tp rd sp ah : Nat) (P : M2) (F : M2) (C : M2) : ([0, 1, 2, 3, 4, 5, 6, 7, 8, 9, 10, 11, 12, 13, 14, 15, 16, 17, 18, 19, 20, 21, 22, 23, 24, 25, 26, 27, 28, 29, 30, 31, 32] : List Nat).map (fun i => (CQ Z a q ca tp rd sp ah P F C)[i]?) = (TW Z a q P F).map some := rfl
theorem dX5_errorAt_0 : decode cX5_errorAt 0 = .ok (.aload_n 0, 1) := by decide +kernel
theorem dX5_errorAt_1 : decode cX5_errorAt 1 = .ok (.getfield 17, 3) := by decide +kernel
theorem dX5_errorAt_4 : decode cX5_errorAt 4 = .ok (.ireturn, 1) := by decide +kernel
theorem dX5_worst_0 : decode cX5_worst 0 = .ok (.iconst (-1), 1) := by decide +kernel
theorem dX5_worst_1 : decode cX5_worst 1 = .ok (.istore_n 1, 1) := by decide +kernel
theorem dX5_worst_2 : decode cX5_worst 2 = .ok (.iconst 0, 1) := by decide +kernel
theorem dX5_worst_3 : decode cX5_worst 3 = .ok (.istore_n 2, 1) := by decide +kernel
theorem dX5_worst_4 : decode cX5_worst 4 = .ok (.iload_n 2, 1) := by decide +kernel
theorem dX5_worst_5 : decode cX5_worst 5 = .ok (.aload_n 0, 1) := by decide +kernel
theorem dX5_worst_6 : decode cX5_worst 6 = .ok (.getfield 39, 3) := by decide +kernel
theorem dX5_worst_9 : decode cX5_worst 9 = .ok (.getfield 69, 3) := by decide +kernel
theorem dX5_worst_12 : decode cX5_worst 12 = .ok (.getfield 84, 3) := by decide +kernel
theorem dX5_worst_15 : decode cX5_worst 15 = .ok (.if_icmp .ge 41, 3) := by decide +kernel
theorem dX5_worst_18 : decode cX5_worst 18 = .ok (.iload_n 1, 1) := by decide +kernel
theorem dX5_worst_19 : decode cX5_worst 19 = .ok (.iconst (-1), 1) := by decide +kernel
theorem dX5_worst_20 : decode cX5_worst 20 = .ok (.if_icmp .eq 28, 3) := by decide +kernel
theorem dX5_worst_23 : decode cX5_worst 23 = .ok (.aload_n 0, 1) := by decide +kernel
theorem dX5_worst_24 : decode cX5_worst 24 = .ok (.getfield 39, 3) := by decide +kernel
theorem dX5_worst_27 : decode cX5_worst 27 = .ok (.getfield 126, 3) := by decide +kernel
theorem dX5_worst_30 : decode cX5_worst 30 = .ok (.iload_n 2, 1) := by decide +kernel
theorem dX5_worst_31 : decode cX5_worst 31 = .ok (.invokestatic 122, 3) := by decide +kernel
theorem dX5_worst_34 : decode cX5_worst 34 = .ok (.aload_n 0, 1) := by decide +kernel
theorem dX5_worst_35 : decode cX5_worst 35 = .ok (.getfield 39, 3) := by decide +kernel
theorem dX5_worst_38 : decode cX5_worst 38 = .ok (.getfield 126, 3) := by decide +kernel
theorem dX5_worst_41 : decode cX5_worst 41 = .ok (.iload_n 1, 1) := by decide +kernel
theorem dX5_worst_42 : decode cX5_worst 42 = .ok (.invokestatic 122, 3) := by decide +kernel
theorem dX5_worst_45 : decode cX5_worst 45 = .ok (.if_icmp .ge 5, 3) := by decide +kernel
theorem dX5_worst_48 : decode cX5_worst 48 = .ok (.iload_n 2, 1) := by decide +kernel
theorem dX5_worst_49 : decode cX5_worst 49 = .ok (.istore_n 1, 1) := by decide +kernel
theorem dX5_worst_50 : decode cX5_worst 50 = .ok (.iinc 2 1, 3) := by decide +kernel
theorem dX5_worst_53 : decode cX5_worst 53 = .ok (.goto (-49), 3) := by decide +kernel
theorem dX5_worst_56 : decode cX5_worst 56 = .ok (.iload_n 1, 1) := by decide +kernel
theorem dX5_worst_57 : decode cX5_worst 57 = .ok (.ireturn, 1) := by decide +kernel
theorem dX5_air_0 : decode cX5_air 0 = .ok (.iconst 0, 1) := by decide +kernel
theorem dX5_air_1 : decode cX5_air 1 = .ok (.istore_n 1, 1) := by decide +kernel
theorem dX5_air_2 : decode cX5_air 2 = .ok (.iconst 0, 1) := by decide +kernel
theorem dX5_air_3 : decode cX5_air 3 = .ok (.istore_n 2, 1) := by decide +kernel
theorem dX5_air_4 : decode cX5_air 4 = .ok (.iload_n 2, 1) := by decide +kernel
theorem dX5_air_5 : decode cX5_air 5 = .ok (.aload_n 0, 1) := by decide +kernel
theorem dX5_air_6 : decode cX5_air 6 = .ok (.getfield 39, 3) := by decide +kernel
theorem dX5_air_9 : decode cX5_air 9 = .ok (.getfield 69, 3) := by decide +kernel
theorem dX5_air_12 : decode cX5_air 12 = .ok (.getfield 84, 3) := by decide +kernel
theorem dX5_air_15 : decode cX5_air 15 = .ok (.if_icmp .ge 39, 3) := by decide +kernel
theorem dX5_air_18 : decode cX5_air 18 = .ok (.iload_n 1, 1) := by decide +kernel
theorem dX5_air_19 : decode cX5_air 19 = .ok (.bipush 100, 2) := by decide +kernel
theorem dX5_air_21 : decode cX5_air 21 = .ok (.aload_n 0, 1) := by decide +kernel
theorem dX5_air_22 : decode cX5_air 22 = .ok (.getfield 39, 3) := by decide +kernel
theorem dX5_air_25 : decode cX5_air 25 = .ok (.getfield 126, 3) := by decide +kernel
theorem dX5_air_28 : decode cX5_air 28 = .ok (.iload_n 2, 1) := by decide +kernel
theorem dX5_air_29 : decode cX5_air 29 = .ok (.invokestatic 122, 3) := by decide +kernel
theorem dX5_air_32 : decode cX5_air 32 = .ok (.isub, 1) := by decide +kernel
theorem dX5_air_33 : decode cX5_air 33 = .ok (.iadd, 1) := by decide +kernel
theorem dX5_air_34 : decode cX5_air 34 = .ok (.istore_n 1, 1) := by decide +kernel
theorem dX5_air_35 : decode cX5_air 35 = .ok (.aload_n 0, 1) := by decide +kernel
theorem dX5_air_36 : decode cX5_air 36 = .ok (.getfield 39, 3) := by decide +kernel
theorem dX5_air_39 : decode cX5_air 39 = .ok (.getfield 126, 3) := by decide +kernel
theorem dX5_air_42 : decode cX5_air 42 = .ok (.iload_n 2, 1) := by decide +kernel
theorem dX5_air_43 : decode cX5_air 43 = .ok (.bipush 100, 2) := by decide +kernel
theorem dX5_air_45 : decode cX5_air 45 = .ok (.invokestatic 206, 3) := by decide +kernel
theorem dX5_air_48 : decode cX5_air 48 = .ok (.iinc 2 1, 3) := by decide +kernel
theorem dX5_air_51 : decode cX5_air 51 = .ok (.goto (-47), 3) := by decide +kernel
theorem dX5_air_54 : decode cX5_air 54 = .ok (.iload_n 1, 1) := by decide +kernel
theorem dX5_air_55 : decode cX5_air 55 = .ok (.ireturn, 1) := by decide +kernel
theorem mi_X5_errorAt : MInfo yX5_errorAt cX5_errorAt 1 (some .int) 0 := ⟨wq_791, wq_125, by decide, ⟨by decide +kernel, by decide +kernel, by decide +kernel⟩, by decide +kernel⟩
theorem mi_X5_worst : MInfo yX5_worst cX5_worst 3 (some .int) 0 := ⟨wq_795, wq_125, by decide, ⟨by decide +kernel, by decide +kernel, by decide +kernel⟩, by decide +kernel⟩
theorem mi_X5_air : MInfo yX5_air cX5_air 3 (some .int) 0 := ⟨wq_800, wq_125, by decide, ⟨by decide +kernel, by decide +kernel, by decide +kernel⟩, by decide +kernel⟩
def wp_X5_errorAt (P : M2) (F : M2) (C : M2) (K : Int32 → Prop) : Prop := K (C 92 0)
set_option maxRecDepth 100000 in
set_option maxHeartbeats 4000000 in
theorem c_X5_errorAt (l : Launch) (D : va_G) (Z : Nat → ClassId) (a q : Nat → Nat) (ca tp rd sp ah : Nat) (P : M2) (F : M2) (C : M2) (sz : Nat) (K : Int32 → Prop) (hm : wp_X5_errorAt P F C K) : Met l yX5_errorAt (wy yX5_errorAt cX5_errorAt 1 (some .int)) (rk 1 0 0) (pre vwCl D Z (CQ Z a q ca tp rd sp ah P F C) sz [.ref (ca)]) (vp_Si K) 0 0 (fun _ => False) := by
  refine ro_of (ty := .int) (by decide +kernel) (Nat.le_of_ble_eq_true rfl) rfl ?_
  intro p e s m args below meth c Q hC hN hsz hP hD hK hret ls hl
  have hx := hC.1
  have hb := hC.2.1
  have hl : lv_has ls 1 [(0, .ref (ca))] := hl
  refine lv_aload_n hx hb dX5_errorAt_0 rfl (lv_at hl 0 rfl) ?_
  refine gCQ_cl_2 hC hK hP wq_544 dX5_errorAt_1 ?_
  exact hret 4 _ _ hm rfl dX5_errorAt_4
section KX5_errorAt
variable {p : Program} {l : Launch} {e : Env} {s : State} {m : MethodId} {args : Array Value} {below : List Frame} {meth : Method} {c : Code} {H H0 : Heap} {locs : List Loc} {cells slots : Nat} {Q : State → Prop} {R : Room} {rn mcR msR : Nat}
variable {pc : Nat} {ls : Array Slot} {rest : List Value} {A : Nat → Prop} {D : va_G}
variable {cc : ByteArray} {nL index : Nat} {own host : String}
end KX5_errorAt
def wl_X5_worst_4 (P : M2) (F : M2) (C : M2) (K : Int32 → Prop) : Nat → Int32 → Int32 → Prop
  | 0, _, _ => False
  | n + 1, v1, v2 => (((P 21 0) ≤ v2 → K v1) ∧ (¬ (P 21 0) ≤ v2 → ((v1 = ((-1)) → (∀ v2_50 : Int32, v2_50 = v2 + 1 → wl_X5_worst_4 P F C K n v2 v2_50)) ∧ (¬ v1 = ((-1)) → (((atv (F 4) 60 v1) ≤ (atv (F 4) 60 v2) → (∀ v2_50 : Int32, v2_50 = v2 + 1 → wl_X5_worst_4 P F C K n v1 v2_50)) ∧ (¬ (atv (F 4) 60 v1) ≤ (atv (F 4) 60 v2) → (∀ v2_50 : Int32, v2_50 = v2 + 1 → wl_X5_worst_4 P F C K n v2 v2_50)))))))
def wp_X5_worst (P : M2) (F : M2) (C : M2) (K : Int32 → Prop) : Prop := wl_X5_worst_4 P F C K fK ((-1)) 0
set_option maxRecDepth 100000 in
set_option maxHeartbeats 4000000 in
theorem c_X5_worst (l : Launch) (D : va_G) (Z : Nat → ClassId) (a q : Nat → Nat) (ca tp rd sp ah : Nat) (P : M2) (F : M2) (C : M2) (sz : Nat) (K : Int32 → Prop) (hm : wp_X5_worst P F C K) : Met l yX5_worst (wy yX5_worst cX5_worst 3 (some .int)) (rk 1 0 0) (pre vwCl D Z (CQ Z a q ca tp rd sp ah P F C) sz [.ref (ca)]) (vp_Si K) 0 0 (fun _ => False) := by
  refine ro_of (ty := .int) (by decide +kernel) (Nat.le_of_ble_eq_true rfl) rfl ?_
  intro p e s m args below meth c Q hC hN hsz hP hD hK hret ls hl
  have hx := hC.1
  have hb := hC.2.1
  have hl : lv_has ls 3 [(0, .ref (ca))] := hl
  have L4 : ∀ (n4 : Nat), ∀ (v1 : Int32) (v2 : Int32) (ls : Array Slot), wl_X5_worst_4 P F C K n4 v1 v2 → lv_has ls 3 [(0, .ref (ca)), (1, .int v1), (2, .int v2)] → W p l e (rk 1 0 0) s m args below meth c s.heap [] 0 0 Q (F0 m 4 ls []) := by
    intro n4
    induction n4 with
    | zero =>
      intro v1 v2 ls hm hl
      exact False.elim hm
    | succ n4 ih4 =>
      intro v1 v2 ls hm hl
      refine lv_iload_n hx hb dX5_worst_4 rfl (lv_at hl 2 rfl) ?_
      refine lv_aload_n hx hb dX5_worst_5 rfl (lv_at hl 0 rfl) ?_
      refine gCQ_cl_5 hC hK hP wq_547 dX5_worst_6 ?_
      refine gCQ_tun_0 hC hK hP wq_483 dX5_worst_9 ?_
      refine gCQ_plan_1 hC hK hP wq_350 dX5_worst_12 ?_
      refine lv_icmp_ge (tgt := 56) hx hb dX5_worst_15 (by decide) (fun c_15 => ?_) (fun c_15 => ?_)
      · have hm := hm.1 c_15
        refine lv_iload_n hx hb dX5_worst_56 rfl (lv_at hl 1 rfl) ?_
        exact hret 57 _ _ hm rfl dX5_worst_57
      · have hm := hm.2 c_15
        refine lv_iload_n hx hb dX5_worst_18 rfl (lv_at hl 1 rfl) ?_
        refine lv_iconst (v := (-1)) hx hb dX5_worst_19 (by decide) ?_
        refine lv_icmp_eq (tgt := 48) hx hb dX5_worst_20 (by decide) (fun c_20 => ?_) (fun c_20 => ?_)
        · have hm := hm.1 c_20
          refine lv_iload_n hx hb dX5_worst_48 rfl (lv_at hl 2 rfl) ?_
          refine lv_istore_n (lv' := [(1, .int v2), (0, .ref (ca)), (2, .int v2)]) hx hb dX5_worst_49 rfl hl (by decide) rfl (fun ls hl => ?_)
          obtain ⟨v2_50, ev2_50⟩ : ∃ y : Int32, y = v2 + 1 := ⟨_, rfl⟩
          have hm := hm v2_50 ev2_50
          refine lv_iinc (v := v2_50) (lv' := [(2, .int v2_50), (1, .int v2), (0, .ref (ca))]) hx hb dX5_worst_50 hl (k := 2) rfl (by rw [ev2_50]; rfl) (by decide) rfl (fun ls hl => ?_)
          refine lv_goto (tgt := 4) hx hb dX5_worst_53 (by decide) ?_
          exact ih4 _ _ _ hm (lv_sub hl [2, 1, 0] rfl)
        · have hm := hm.2 c_20
          refine lv_aload_n hx hb dX5_worst_23 rfl (lv_at hl 0 rfl) ?_
          refine gCQ_cl_5 hC hK hP wq_547 dX5_worst_24 ?_
          refine gCQ_tun_4 hC hK hP wq_491 dX5_worst_27 ?_
          refine lv_iload_n hx hb dX5_worst_30 rfl (lv_at hl 2 rfl) ?_
          refine w_atS (q0 := 1) hC hN hK hP wq_796 rfl (by decide) (by decide) hl.1 (Nat.le_of_ble_eq_true rfl) ⟨Nat.le_refl _, Nat.le_refl _⟩ dX5_worst_31 ?_
          refine lv_aload_n hx hb dX5_worst_34 rfl (lv_at hl 0 rfl) ?_
          refine gCQ_cl_5 hC hK hP wq_547 dX5_worst_35 ?_
          refine gCQ_tun_4 hC hK hP wq_491 dX5_worst_38 ?_
          refine lv_iload_n hx hb dX5_worst_41 rfl (lv_at hl 1 rfl) ?_
          refine w_atS (q0 := 1) hC hN hK hP wq_796 rfl (by decide) (by decide) hl.1 (Nat.le_of_ble_eq_true rfl) ⟨Nat.le_refl _, Nat.le_refl _⟩ dX5_worst_42 ?_
          refine lv_icmp_ge (tgt := 50) hx hb dX5_worst_45 (by decide) (fun c_45 => ?_) (fun c_45 => ?_)
          · have hm := hm.1 c_45
            obtain ⟨v2_50, ev2_50⟩ : ∃ y : Int32, y = v2 + 1 := ⟨_, rfl⟩
            have hm := hm v2_50 ev2_50
            refine lv_iinc (v := v2_50) (lv' := [(2, .int v2_50), (0, .ref (ca)), (1, .int v1)]) hx hb dX5_worst_50 hl (k := 2) rfl (by rw [ev2_50]; rfl) (by decide) rfl (fun ls hl => ?_)
            refine lv_goto (tgt := 4) hx hb dX5_worst_53 (by decide) ?_
            exact ih4 _ _ _ hm (lv_sub hl [1, 2, 0] rfl)
          · have hm := hm.2 c_45
            refine lv_iload_n hx hb dX5_worst_48 rfl (lv_at hl 2 rfl) ?_
            refine lv_istore_n (lv' := [(1, .int v2), (0, .ref (ca)), (2, .int v2)]) hx hb dX5_worst_49 rfl hl (by decide) rfl (fun ls hl => ?_)
            obtain ⟨v2_50, ev2_50⟩ : ∃ y : Int32, y = v2 + 1 := ⟨_, rfl⟩
            have hm := hm v2_50 ev2_50
            refine lv_iinc (v := v2_50) (lv' := [(2, .int v2_50), (1, .int v2), (0, .ref (ca))]) hx hb dX5_worst_50 hl (k := 2) rfl (by rw [ev2_50]; rfl) (by decide) rfl (fun ls hl => ?_)
            refine lv_goto (tgt := 4) hx hb dX5_worst_53 (by decide) ?_
            exact ih4 _ _ _ hm (lv_sub hl [2, 1, 0] rfl)
  refine lv_iconst (v := (-1)) hx hb dX5_worst_0 (by decide) ?_
  refine lv_istore_n (lv' := [(1, .int ((-1))), (0, .ref (ca))]) hx hb dX5_worst_1 rfl hl (by decide) rfl (fun ls hl => ?_)
  refine lv_iconst (v := 0) hx hb dX5_worst_2 (by decide) ?_
  refine lv_istore_n (lv' := [(2, .int 0), (1, .int ((-1))), (0, .ref (ca))]) hx hb dX5_worst_3 rfl hl (by decide) rfl (fun ls hl => ?_)
  exact L4 _ _ _ _ hm (lv_sub hl [2, 1, 0] rfl)
section KX5_worst
variable {p : Program} {l : Launch} {e : Env} {s : State} {m : MethodId} {args : Array Value} {below : List Frame} {meth : Method} {c : Code} {H H0 : Heap} {locs : List Loc} {cells slots : Nat} {Q : State → Prop} {R : Room} {rn mcR msR : Nat}
variable {pc : Nat} {ls : Array Slot} {rest : List Value} {A : Nat → Prop} {D : va_G}
variable {cc : ByteArray} {nL index : Nat} {own host : String}
end KX5_worst
def wl_X5_air_4 (P : M2) (K : Int32 → M2 → M2 → Prop) : Nat → M2 → M2 → Int32 → Int32 → Prop
  | 0, _, _, _, _ => False
  | n + 1, F, C, v1, v2 => (((P 21 0) ≤ v2 → K v1 F C) ∧ (¬ (P 21 0) ≤ v2 → (∀ v1_34, v1_34 = v1 + (100 - (atv (F 4) 60 v2)) → (∀ F_45 : M2, F_45 = up2 F 4 (putv (F 4) 60 v2 100) → (∀ v2_48 : Int32, v2_48 = v2 + 1 → wl_X5_air_4 P K n F_45 C v1_34 v2_48)))))
def wp_X5_air (P : M2) (F : M2) (C : M2) (K : Int32 → M2 → M2 → Prop) : Prop := wl_X5_air_4 P K fK F C 0 0
set_option maxRecDepth 100000 in
set_option maxHeartbeats 4000000 in
theorem c_X5_air (l : Launch) (D : va_G) (Z : Nat → ClassId) (a q : Nat → Nat) (ca tp rd sp ah : Nat) (P : M2) (F : M2) (C : M2) (sz : Nat) (K : Int32 → M2 → M2 → Prop) (hm : wp_X5_air P F C K) : Met l yX5_air (wy yX5_air cX5_air 3 (some .int)) (rk 1 0 0) (pre vwCl D Z (CQ Z a q ca tp rd sp ah P F C) sz [.ref (ca)]) (poI vwCl D Z (fun u : M2 × M2 => CQ Z a q ca tp rd sp ah P u.1 u.2) (F, C) sz (fun (r : Int32) (u : M2 × M2) => K r u.1 u.2)) 0 0 (va_A (CQ Z a q ca tp rd sp ah P F C) sz) := by
  refine rw_of (ty := .int) (wsF := (fun u : M2 × M2 => CQ Z a q ca tp rd sp ah P u.1 u.2)) (u0 := (F, C)) (by decide +kernel) (Nat.le_of_ble_eq_true rfl) rfl ?_
  intro p e s m args below meth c Q A hC hN hsz hT hK hret ls hl
  have hx := hC.1
  have hb := hC.2.1
  have hl : lv_has ls 3 [(0, .ref (ca))] := hl
  have hT : TS vwCl D (CQ Z a q ca tp rd sp ah P F C) A s.heap s.heap [] := hT
  have L4 : ∀ (n4 : Nat), ∀ (F : M2) (C : M2) (v1 : Int32) (v2 : Int32) (H : Heap) (locs : List Loc) (ls : Array Slot), wl_X5_air_4 P K n4 F C v1 v2 → TS vwCl D (CQ Z a q ca tp rd sp ah P F C) A s.heap H locs → lv_has ls 3 [(0, .ref (ca)), (1, .int v1), (2, .int v2)] → W p l e (rk 1 0 0) s m args below meth c H locs 0 0 Q (F0 m 4 ls []) := by
    intro n4
    induction n4 with
    | zero =>
      intro F C v1 v2 H locs ls hm hT hl
      exact False.elim hm
    | succ n4 ih4 =>
      intro F C v1 v2 H locs ls hm hT hl
      refine lv_iload_n hx hb dX5_air_4 rfl (lv_at hl 2 rfl) ?_
      refine lv_aload_n hx hb dX5_air_5 rfl (lv_at hl 0 rfl) ?_
      refine gCQ_cl_5 hC hK hT.1 wq_547 dX5_air_6 ?_
      refine gCQ_tun_0 hC hK hT.1 wq_483 dX5_air_9 ?_
      refine gCQ_plan_1 hC hK hT.1 wq_350 dX5_air_12 ?_
      refine lv_icmp_ge (tgt := 54) hx hb dX5_air_15 (by decide) (fun c_15 => ?_) (fun c_15 => ?_)
      · have hm := hm.1 c_15
        refine lv_iload_n hx hb dX5_air_54 rfl (lv_at hl 1 rfl) ?_
        exact hret 55 _ _ _ _ (F, C) hm hT rfl dX5_air_55
      · have hm := hm.2 c_15
        refine lv_iload_n hx hb dX5_air_18 rfl (lv_at hl 1 rfl) ?_
        refine lv_bipush (v := 100) hx hb dX5_air_19 (by decide) ?_
        refine lv_aload_n hx hb dX5_air_21 rfl (lv_at hl 0 rfl) ?_
        refine gCQ_cl_5 hC hK hT.1 wq_547 dX5_air_22 ?_
        refine gCQ_tun_4 hC hK hT.1 wq_491 dX5_air_25 ?_
        refine lv_iload_n hx hb dX5_air_28 rfl (lv_at hl 2 rfl) ?_
        refine w_atS (q0 := 1) hC hN hK hT.1 wq_796 rfl (by decide) (by decide) hl.1 (Nat.le_of_ble_eq_true rfl) ⟨Nat.le_refl _, Nat.le_refl _⟩ dX5_air_29 ?_
        refine lv_isub hx hb dX5_air_32 ?_
        refine lv_iadd hx hb dX5_air_33 ?_
        refine lv_topi (fun v1_34 ev1_34 => ?_)
        have hm := hm v1_34 ev1_34
        refine lv_istore_n (lv' := [(1, .int v1_34), (0, .ref (ca)), (2, .int v2)]) hx hb dX5_air_34 rfl hl (by decide) rfl (fun ls hl => ?_)
        refine lv_aload_n hx hb dX5_air_35 rfl (lv_at hl 1 rfl) ?_
        refine gCQ_cl_5 hC hK hT.1 wq_547 dX5_air_36 ?_
        refine gCQ_tun_4 hC hK hT.1 wq_491 dX5_air_39 ?_
        refine lv_iload_n hx hb dX5_air_42 rfl (lv_at hl 2 rfl) ?_
        refine lv_bipush (v := 100) hx hb dX5_air_43 (by decide) ?_
        refine uSCQ_Tair hC hN hK hT wq_801 (by decide) hl.1 (Nat.le_of_ble_eq_true rfl) ⟨Nat.le_refl _, Nat.le_refl _⟩ dX5_air_45 (fun F_45 eF_45 H locs hT => ?_)
        have hm := hm F_45 eF_45
        obtain ⟨v2_48, ev2_48⟩ : ∃ y : Int32, y = v2 + 1 := ⟨_, rfl⟩
        have hm := hm v2_48 ev2_48
        refine lv_iinc (v := v2_48) (lv' := [(2, .int v2_48), (1, .int v1_34), (0, .ref (ca))]) hx hb dX5_air_48 hl (k := 2) rfl (by rw [ev2_48]; rfl) (by decide) rfl (fun ls hl => ?_)
        refine lv_goto (tgt := 4) hx hb dX5_air_51 (by decide) ?_
        exact ih4 _ _ _ _ _ _ _ hm hT (lv_sub hl [2, 1, 0] rfl)
  refine lv_iconst (v := 0) hx hb dX5_air_0 (by decide) ?_
  refine lv_istore_n (lv' := [(1, .int 0), (0, .ref (ca))]) hx hb dX5_air_1 rfl hl (by decide) rfl (fun ls hl => ?_)
  refine lv_iconst (v := 0) hx hb dX5_air_2 (by decide) ?_
  refine lv_istore_n (lv' := [(2, .int 0), (1, .int 0), (0, .ref (ca))]) hx hb dX5_air_3 rfl hl (by decide) rfl (fun ls hl => ?_)
  exact L4 _ _ _ _ _ _ _ _ hm hT (lv_sub hl [2, 1, 0] rfl)
section KX5_air
variable {p : Program} {l : Launch} {e : Env} {s : State} {m : MethodId} {args : Array Value} {below : List Frame} {meth : Method} {c : Code} {H H0 : Heap} {locs : List Loc} {cells slots : Nat} {Q : State → Prop} {R : Room} {rn mcR msR : Nat}
variable {pc : Nat} {ls : Array Slot} {rest : List Value} {A : Nat → Prop} {D : va_G}
variable {cc : ByteArray} {nL index : Nat} {own host : String}
end KX5_air
