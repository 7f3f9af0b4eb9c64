theorem wq_845 : Cond.methodLink RX6 71 yX6_canEnter ∈ lw_g := lw_g_mk (tb_4 (List.mem_of_getElem? (i := 61) rfl)) rfl
theorem wq_870 : Cond.methodLink RX6 78 yJ7_fill_53178 ∈ lw_g := lw_g_mk (tb_4 (List.mem_of_getElem? (i := 86) rfl)) rfl
theorem wq_871 : Cond.static yJ7_fill_53178 ∈ lw_g := lw_g_mk (tb_4 (List.mem_of_getElem? (i := 87) rfl)) rfl
theorem wq_866 : Cond.methodLink RX6 74 yX6_push ∈ lw_g := lw_g_mk (tb_4 (List.mem_of_getElem? (i := 82) rfl)) rfl
theorem wq_1173 : Cond.fieldLink RX6 18 RX6 "shafts" "[[I" ∈ lw_g := lw_g_mk (tb_5 (List.mem_of_getElem? (i := 149) rfl)) rfl
theorem wq_831 : Cond.code yX6_pass cX6_pass 10 none ∈ lw_g := lw_g_mk (tb_4 (List.mem_of_getElem? (i := 47) rfl)) rfl
theorem wq_846 : Cond.instanceMethod yX6_canEnter ∈ lw_g := lw_g_mk (tb_4 (List.mem_of_getElem? (i := 62) rfl)) rfl
theorem wq_847 : Cond.selects RX6 yX6_canEnter yX6_canEnter ∈ lw_g := lw_g_mk (tb_4 (List.mem_of_getElem? (i := 63) rfl)) rfl
theorem wq_868 : Cond.instanceMethod yX6_push ∈ lw_g := lw_g_mk (tb_4 (List.mem_of_getElem? (i := 84) rfl)) rfl
theorem wq_27 : Cond.selects RX6 yX6_push yX6_push ∈ lw_g := lw_g_mk (tb_0 (List.mem_of_getElem? (i := 27) rfl)) rfl
theorem wq_872 : Cond.code yJ7_fill_53178 cJ7_fill_53178 4 none ∈ lw_g := lw_g_mk (tb_4 (List.mem_of_getElem? (i := 88) rfl)) rfl
section ROWSSM2
variable {p : Program} {l : Launch} {e : Env} {s : State} {m : MethodId} {args : Array Value} {below : List Frame} {meth : Method} {c : Code} {H H0 : Heap} {locs : List Loc} {cells slots : Nat} {Q : State → Prop} {R : Room} {rn mcR msR : Nat}
variable {pc : Nat} {ls : Array Slot} {rest : List Value} {A : Nat → Prop} {D : va_G}
variable {cc : ByteArray} {nL index : Nat} {own host : String}
theorem pSM_sim_0 {Z : Nat → ClassId} {sa : Nat} {o : Nat → Nat} {ro : Nat → Nat → Nat} {nn : Nat → Nat} {V S O : M2} {N : M2} {U : M2} {L : M2} {B : M2} {x : Int32} (hC : CallFix p m c cc nL s args lw_g own) (hK : va_K D vwCl (tysG Z) s) (hT : TS vwCl D (SM Z sa o ro nn V S O N U L B) A H0 H locs) (hl : Cond.fieldLink own index RX6 "minute" "I" ∈ lw_g) (hdg : decode cc pc = .ok (.putfield index, 3)) (kk : ∀ (N1 : M2), N1 = up2 N 0 (fun _ => x) → ∀ (H1 : Heap) (locs1 : List Loc), TS vwCl D (SM Z sa o ro nn V S O N1 U L B) A H0 H1 locs1 → W p l e R s m args below meth c H1 locs1 cells slots Q (F0 m (pc + 3) ls rest)) : W p l e R s m args below meth c H locs cells slots Q (F0 m pc ls (.int x :: .ref (sa) :: rest)) :=
  w_put (C := RX6) (T := TX6) (N := 9) (ci := 6) (q0 := 0) (k := 0) (ty0 := tyX6) (ty := .int) (ws' := (SM Z sa o ro nn V S O (up2 N 0 (fun _ => x)) U L B)) hC hK hT fi_X6 tyX6_ok nmX6 rfl rfl (by decide) rfl rfl rfl rfl rfl (Nat.le_of_ble_eq_true rfl) rfl hl hdg (fun H1 locs1 hT1 => kk _ rfl H1 locs1 hT1)
theorem pSM_sim_1 {Z : Nat → ClassId} {sa : Nat} {o : Nat → Nat} {ro : Nat → Nat → Nat} {nn : Nat → Nat} {V S O : M2} {N : M2} {U : M2} {L : M2} {B : M2} {x : Int32} (hC : CallFix p m c cc nL s args lw_g own) (hK : va_K D vwCl (tysG Z) s) (hT : TS vwCl D (SM Z sa o ro nn V S O N U L B) A H0 H locs) (hl : Cond.fieldLink own index RX6 "turn" "I" ∈ lw_g) (hdg : decode cc pc = .ok (.putfield index, 3)) (kk : ∀ (N1 : M2), N1 = up2 N 1 (fun _ => x) → ∀ (H1 : Heap) (locs1 : List Loc), TS vwCl D (SM Z sa o ro nn V S O N1 U L B) A H0 H1 locs1 → W p l e R s m args below meth c H1 locs1 cells slots Q (F0 m (pc + 3) ls rest)) : W p l e R s m args below meth c H locs cells slots Q (F0 m pc ls (.int x :: .ref (sa) :: rest)) :=
  w_put (C := RX6) (T := TX6) (N := 9) (ci := 6) (q0 := 0) (k := 1) (ty0 := tyX6) (ty := .int) (ws' := (SM Z sa o ro nn V S O (up2 N 1 (fun _ => x)) U L B)) hC hK hT fi_X6 tyX6_ok nmX6 rfl rfl (by decide) rfl rfl rfl rfl rfl (Nat.le_of_ble_eq_true rfl) rfl hl hdg (fun H1 locs1 hT1 => kk _ rfl H1 locs1 hT1)
end ROWSSM2
section LX6_canEnter0
variable {p : Program} {l : Launch} {e : Env} {s : State} {m : MethodId} {args : Array Value} {below : List Frame} {meth : Method} {c : Code} {H H0 : Heap} {locs : List Loc} {cells slots : Nat} {Q : State → Prop} {R : Room} {rn mcR msR : Nat}
variable {pc : Nat} {ls : Array Slot} {rest : List Value} {A : Nat → Prop} {D : va_G}
variable {cc : ByteArray} {nL index : Nat} {own host : String}
theorem k_X6_canEnter {Z : Nat → ClassId} {sa : Nat} {o : Nat → Nat} {ro : Nat → Nat → Nat} {nn : Nat → Nat} {V S O : M2} {N : M2} {U : M2} {L : M2} {B : M2} {x1 : Int32} {K : Int32 → Prop} (hC : CallFix p m c cc nL s args lw_g own) (hN : NW s) (hK : va_K D vwCl (tysG Z) s) (hP : va_P D vwCl (SM Z sa o ro nn V S O N U L B) H) (hD : va_D (fun _ => True) (SM Z sa o ro nn V S O N U L B)) (hm : wp_X6_canEnter nn V S O N U L B x1 K) (hl : Cond.methodLink own index yX6_canEnter ∈ lw_g) (hlt : 4 < rn) (hsize : ls.size = nL) (hW : (rest.map fun v => v.category).sum ≤ 8) (hf : cells + 0 ≤ mcR ∧ slots + 0 ≤ msR) (hdg : decode cc pc = .ok (.invokevirtual index, 3)) (kk : ∀ r : Int32, K r → W p l e (rk rn mcR msR) s m args below meth c H locs cells slots Q (F0 m (pc + 3) ls (.int r :: rest))) : W p l e (rk rn mcR msR) s m args below meth c H locs cells slots Q (F0 m pc ls (.int x1 :: .ref (sa) :: rest)) :=
  ro_go (runV (As := [.int x1]) hC hN (c_X6_canEnter l D Z sa o ro nn V S O N U L B H.size x1 K hm) mi_X6_canEnter hl wq_846 wq_847 hlt hP hD hK (q0 := 0) rfl rfl rfl hsize rfl hW hdg hf) kk
end LX6_canEnter0
section LX6_push0
variable {p : Program} {l : Launch} {e : Env} {s : State} {m : MethodId} {args : Array Value} {below : List Frame} {meth : Method} {c : Code} {H H0 : Heap} {locs : List Loc} {cells slots : Nat} {Q : State → Prop} {R : Room} {rn mcR msR : Nat}
variable {pc : Nat} {ls : Array Slot} {rest : List Value} {A : Nat → Prop} {D : va_G}
variable {cc : ByteArray} {nL index : Nat} {own host : String}
theorem k_X6_push {Z : Nat → ClassId} {sa : Nat} {o : Nat → Nat} {ro : Nat → Nat → Nat} {nn : Nat → Nat} {V S O : M2} {N : M2} {U : M2} {L : M2} {B : M2} {x1 : Int32} {K : M2 → M2 → M2 → M2 → Prop} (hC : CallFix p m c cc nL s args lw_g own) (hN : NW s) (hK : va_K D vwCl (tysG Z) s) (hT : TS vwCl D (SM Z sa o ro nn V S O N U L B) A H0 H locs) (hm : wp_X6_push nn V S O N U L B x1 K) (hl : Cond.methodLink own index yX6_push ∈ lw_g) (hlt : 2 < rn) (hsize : ls.size = nL) (hW : (rest.map fun v => v.category).sum ≤ 8) (hf : cells + 0 ≤ mcR ∧ slots + 0 ≤ msR) (hdg : decode cc pc = .ok (.invokevirtual index, 3)) (kk : ∀ (N1 : M2) (U1 : M2) (L1 : M2) (B1 : M2) (H1 : Heap) (locs1 : List Loc), K N1 U1 L1 B1 → TS vwCl D (SM Z sa o ro nn V S O N1 U1 L1 B1) A H0 H1 locs1 → W p l e (rk rn mcR msR) s m args below meth c H1 locs1 cells slots Q (F0 m (pc + 3) ls (rest))) : W p l e (rk rn mcR msR) s m args below meth c H locs cells slots Q (F0 m pc ls (.ref (ro 4 x1.toInt.toNat) :: .ref (sa) :: rest)) :=
  rwv_go (wsF := (fun u : M2 × M2 × M2 × M2 => SM Z sa o ro nn V S O u.1 u.2.1 u.2.2.1 u.2.2.2)) (u0 := (N, U, L, B)) (wr := []) (isC := List.range (smN nn)) (isR := []) (pm := List.range (smN nn)) (ws' := (fun u : M2 × M2 × M2 × M2 => SM Z sa o ro nn V S O u.1 u.2.1 u.2.2.1 u.2.2.2)) (runV (As := [.ref (ro 4 x1.toInt.toNat)]) hC hN (c_X6_push l D Z sa o ro nn V S O N U L B H.size x1 K hm) mi_X6_push hl wq_868 wq_27 hlt hT.1 hT.D' hK (q0 := 0) rfl rfl rfl hsize rfl hW hdg hf) (Cut.self (fun _ => sm_len)) hT (fun u H1 locs1 hk hT1 => kk u.1 u.2.1 u.2.2.1 u.2.2.2 H1 locs1 hk hT1)
end LX6_push0
theorem dJ7_fill_53178_0 : decode cJ7_fill_53178 0 = .ok (.iconst 0, 1) := by decide +kernel
theorem dJ7_fill_53178_1 : decode cJ7_fill_53178 1 = .ok (.istore_n 2, 1) := by decide +kernel
theorem dJ7_fill_53178_2 : decode cJ7_fill_53178 2 = .ok (.aload_n 0, 1) := by decide +kernel
theorem dJ7_fill_53178_3 : decode cJ7_fill_53178 3 = .ok (.arraylength, 1) := by decide +kernel
theorem dJ7_fill_53178_4 : decode cJ7_fill_53178 4 = .ok (.istore_n 3, 1) := by decide +kernel
theorem dJ7_fill_53178_5 : decode cJ7_fill_53178 5 = .ok (.iload_n 2, 1) := by decide +kernel
theorem dJ7_fill_53178_6 : decode cJ7_fill_53178 6 = .ok (.iload_n 3, 1) := by decide +kernel
theorem dJ7_fill_53178_7 : decode cJ7_fill_53178 7 = .ok (.if_icmp .ge 13, 3) := by decide +kernel
theorem dJ7_fill_53178_10 : decode cJ7_fill_53178 10 = .ok (.aload_n 0, 1) := by decide +kernel
theorem dJ7_fill_53178_11 : decode cJ7_fill_53178 11 = .ok (.iload_n 2, 1) := by decide +kernel
theorem dJ7_fill_53178_12 : decode cJ7_fill_53178 12 = .ok (.iload_n 1, 1) := by decide +kernel
theorem dJ7_fill_53178_13 : decode cJ7_fill_53178 13 = .ok (.iastore, 1) := by decide +kernel
theorem dJ7_fill_53178_14 : decode cJ7_fill_53178 14 = .ok (.iinc 2 1, 3) := by decide +kernel
theorem dJ7_fill_53178_17 : decode cJ7_fill_53178 17 = .ok (.goto (-12), 3) := by decide +kernel
theorem dJ7_fill_53178_20 : decode cJ7_fill_53178 20 = .ok (.return_, 1) := by decide +kernel
theorem mi_J7_fill_53178 : MInfo yJ7_fill_53178 cJ7_fill_53178 4 none 2 := ⟨wq_872, wq_72, by decide, ⟨by decide +kernel, by decide +kernel, by decide +kernel⟩, by decide +kernel⟩
theorem TS.sub {cl : List vw_C} {D : va_G} {ws ws' : va_W} {A : Nat → Prop} {H0 H : Heap} {locs : List Loc} (hT : TS cl D ws A H0 H locs) (h : ws'.Sublist ws) : TS cl D ws' A H0 H locs :=
  ⟨va_P_iff.mpr (fun q hq => va_P_iff.mp hT.1 q (h.subset hq)), va_D_iff.mpr ⟨(va_D_iff.mp hT.2.1).1.sublist h, fun q hq => (va_D_iff.mp hT.2.1).2 q (h.subset hq)⟩, hT.2.2⟩
set_option maxRecDepth 100000 in
theorem c_fill (l : Launch) (D : va_G) (Z : Nat → ClassId) (sz v n : Nat) (x : Int32) (f : Nat → Int32) (hn : n ≤ 100000) : Met l yJ7_fill_53178 (wy yJ7_fill_53178 cJ7_fill_53178 4 none) (rk 0 0 0) (pre vwCl D Z [(v, .inl (Z 0, n, .inl f))] sz [.ref v, .int x]) (poV vwCl D Z (fun g => [(v, .inl (Z 0, n, .inl g))]) f sz (fun g => ∀ j, j < n → g j = x)) 0 0 (va_A [(v, .inl (Z 0, n, .inl f))] sz) := by
  refine rwv_of (wsF := fun g => [(v, .inl (Z 0, n, .inl g))]) (u0 := f) (by decide +kernel) (Nat.le_of_ble_eq_true rfl) rfl ?_
  intro p e s m args below meth c Q A hC hN hsz hnm hT hK hret ls hl
  have hx := hC.1
  have hb := hC.2.1
  have hl : lv_has ls 4 [(0, .ref v), (1, .int x)] := hl
  have hT : TS vwCl D [(v, .inl (Z 0, n, .inl f))] A s.heap s.heap [] := hT
  have L : ∀ (d i : Nat) (g : Nat → Int32) (H : Heap) (locs : List Loc) (ls : Array Slot), i + d = n → (∀ j, j < i → g j = x) → TS vwCl D [(v, .inl (Z 0, n, .inl g))] A s.heap H locs → lv_has ls 4 [(2, .int (nI i)), (3, .int (Int32.ofNat n)), (0, .ref v), (1, .int x)] → W p l e (rk 0 0 0) s m args below meth c H locs 0 0 Q (F0 m 5 ls []) := by
    intro d
    induction d with
    | zero =>
      intro i g H locs ls hi hg hT hl
      refine lv_iload_n hx hb dJ7_fill_53178_5 rfl (lv_at hl 0 rfl) ?_
      refine lv_iload_n hx hb dJ7_fill_53178_6 rfl (lv_at hl 1 rfl) ?_
      refine lv_icmp_ge (tgt := 20) hx hb dJ7_fill_53178_7 (by decide) (fun _ => ?_) (fun z => absurd (show nI n ≤ nI i from nI_le (by omega) (by omega)) z)
      exact hret 20 ls H locs g (fun j hj => hg j (by omega)) hT dJ7_fill_53178_20
    | succ d ih =>
      intro i g H locs ls hi hg hT hl
      refine lv_iload_n hx hb dJ7_fill_53178_5 rfl (lv_at hl 0 rfl) ?_
      refine lv_iload_n hx hb dJ7_fill_53178_6 rfl (lv_at hl 1 rfl) ?_
      refine lv_icmp_ge (tgt := 20) hx hb dJ7_fill_53178_7 (by decide) (fun z => absurd z (nI_ge (by omega) (by omega))) (fun _ => ?_)
      refine lv_aload_n hx hb dJ7_fill_53178_10 rfl (lv_at hl 2 rfl) ?_
      refine lv_iload_n hx hb dJ7_fill_53178_11 rfl (lv_at hl 0 rfl) ?_
      refine lv_iload_n hx hb dJ7_fill_53178_12 rfl (lv_at hl 3 rfl) ?_
      refine w_iast (q0 := 0) (ws' := [(v, .inl (Z 0, n, .inl (upd g i x)))]) hC hK hT rfl (inb_nI (by omega) (by omega)) (by rw [tn_nIb (by omega)]; rfl) dJ7_fill_53178_13 (fun H1 locs1 hT1 => ?_)
      refine lv_iinc (v := nI (i + 1)) (lv' := [(2, .int (nI (i + 1))), (3, .int (Int32.ofNat n)), (0, .ref v), (1, .int x)]) hx hb dJ7_fill_53178_14 hl (k := 0) rfl (by rw [← nI_1]; rfl) (by decide) rfl (fun ls hl => ?_)
      refine lv_goto (tgt := 5) hx hb dJ7_fill_53178_17 (by decide) ?_
      refine ih (i + 1) (upd g i x) H1 locs1 ls (by omega) (fun j hj => ?_) hT1 hl
      unfold upd
      by_cases hji : j = i
      · rw [if_pos hji]
      · rw [if_neg hji]; exact hg j (by omega)
  refine lv_iconst (v := 0) hx hb dJ7_fill_53178_0 (by decide) ?_
  refine lv_istore_n (lv' := [(2, .int 0), (0, .ref v), (1, .int x)]) hx hb dJ7_fill_53178_1 rfl hl (by decide) rfl (fun ls hl => ?_)
  refine lv_aload_n hx hb dJ7_fill_53178_2 rfl (lv_at hl 1 rfl) ?_
  refine w_alen (q0 := 0) (t0 := 0) hC hK hT.1 rfl rfl dJ7_fill_53178_3 ?_
  refine lv_istore_n (lv' := [(3, .int (Int32.ofNat n)), (2, .int 0), (0, .ref v), (1, .int x)]) hx hb dJ7_fill_53178_4 rfl hl (by decide) rfl (fun ls hl => ?_)
  exact L n 0 f _ _ ls (by omega) (fun j hj => absurd hj (Nat.not_lt_zero _)) hT (lv_sub hl [1, 0, 2, 3] rfl)
theorem dX6_pass_0 : decode cX6_pass 0 = .ok (.aload_n 0, 1) := by decide +kernel
theorem dX6_pass_1 : decode cX6_pass 1 = .ok (.getfield 27, 3) := by decide +kernel
theorem dX6_pass_4 : decode cX6_pass 4 = .ok (.astore_n 1, 1) := by decide +kernel
theorem dX6_pass_5 : decode cX6_pass 5 = .ok (.aload_n 1, 1) := by decide +kernel
theorem dX6_pass_6 : decode cX6_pass 6 = .ok (.arraylength, 1) := by decide +kernel
theorem dX6_pass_7 : decode cX6_pass 7 = .ok (.istore_n 2, 1) := by decide +kernel
theorem dX6_pass_8 : decode cX6_pass 8 = .ok (.iconst 0, 1) := by decide +kernel
theorem dX6_pass_9 : decode cX6_pass 9 = .ok (.istore_n 3, 1) := by decide +kernel
theorem dX6_pass_10 : decode cX6_pass 10 = .ok (.iload_n 3, 1) := by decide +kernel
theorem dX6_pass_11 : decode cX6_pass 11 = .ok (.iload_n 2, 1) := by decide +kernel
theorem dX6_pass_12 : decode cX6_pass 12 = .ok (.if_icmp .ge 44, 3) := by decide +kernel
theorem dX6_pass_15 : decode cX6_pass 15 = .ok (.aload_n 1, 1) := by decide +kernel
theorem dX6_pass_16 : decode cX6_pass 16 = .ok (.iload_n 3, 1) := by decide +kernel
theorem dX6_pass_17 : decode cX6_pass 17 = .ok (.aaload, 1) := by decide +kernel
theorem dX6_pass_18 : decode cX6_pass 18 = .ok (.astore 4, 2) := by decide +kernel
theorem dX6_pass_20 : decode cX6_pass 20 = .ok (.aload 4, 2) := by decide +kernel
theorem dX6_pass_22 : decode cX6_pass 22 = .ok (.iconst 0, 1) := by decide +kernel
theorem dX6_pass_23 : decode cX6_pass 23 = .ok (.iaload, 1) := by decide +kernel
theorem dX6_pass_24 : decode cX6_pass 24 = .ok (.ifCond .ne 26, 3) := by decide +kernel
theorem dX6_pass_27 : decode cX6_pass 27 = .ok (.aload_n 0, 1) := by decide +kernel
theorem dX6_pass_28 : decode cX6_pass 28 = .ok (.aload 4, 2) := by decide +kernel
theorem dX6_pass_30 : decode cX6_pass 30 = .ok (.invokevirtual 56, 3) := by decide +kernel
theorem dX6_pass_33 : decode cX6_pass 33 = .ok (.ifCond .ne 6, 3) := by decide +kernel
theorem dX6_pass_36 : decode cX6_pass 36 = .ok (.goto 14, 3) := by decide +kernel
theorem dX6_pass_39 : decode cX6_pass 39 = .ok (.aload_n 0, 1) := by decide +kernel
theorem dX6_pass_40 : decode cX6_pass 40 = .ok (.aload 4, 2) := by decide +kernel
theorem dX6_pass_42 : decode cX6_pass 42 = .ok (.iconst 1, 1) := by decide +kernel
theorem dX6_pass_43 : decode cX6_pass 43 = .ok (.iaload, 1) := by decide +kernel
theorem dX6_pass_44 : decode cX6_pass 44 = .ok (.putfield 44, 3) := by decide +kernel
theorem dX6_pass_47 : decode cX6_pass 47 = .ok (.goto 9, 3) := by decide +kernel
theorem dX6_pass_50 : decode cX6_pass 50 = .ok (.iinc 3 1, 3) := by decide +kernel
theorem dX6_pass_53 : decode cX6_pass 53 = .ok (.goto (-43), 3) := by decide +kernel
theorem dX6_pass_56 : decode cX6_pass 56 = .ok (.iconst 0, 1) := by decide +kernel
theorem dX6_pass_57 : decode cX6_pass 57 = .ok (.istore_n 1, 1) := by decide +kernel
theorem dX6_pass_58 : decode cX6_pass 58 = .ok (.iload_n 1, 1) := by decide +kernel
theorem dX6_pass_59 : decode cX6_pass 59 = .ok (.aload_n 0, 1) := by decide +kernel
theorem dX6_pass_60 : decode cX6_pass 60 = .ok (.getfield 24, 3) := by decide +kernel
theorem dX6_pass_63 : decode cX6_pass 63 = .ok (.arraylength, 1) := by decide +kernel
theorem dX6_pass_64 : decode cX6_pass 64 = .ok (.if_icmp .ge 70, 3) := by decide +kernel
theorem dX6_pass_67 : decode cX6_pass 67 = .ok (.aload_n 0, 1) := by decide +kernel
theorem dX6_pass_68 : decode cX6_pass 68 = .ok (.iload_n 1, 1) := by decide +kernel
theorem dX6_pass_69 : decode cX6_pass 69 = .ok (.invokevirtual 71, 3) := by decide +kernel
theorem dX6_pass_72 : decode cX6_pass 72 = .ok (.ifCond .ne 6, 3) := by decide +kernel
theorem dX6_pass_75 : decode cX6_pass 75 = .ok (.goto 53, 3) := by decide +kernel
theorem dX6_pass_78 : decode cX6_pass 78 = .ok (.aload_n 0, 1) := by decide +kernel
theorem dX6_pass_79 : decode cX6_pass 79 = .ok (.getfield 24, 3) := by decide +kernel
theorem dX6_pass_82 : decode cX6_pass 82 = .ok (.iload_n 1, 1) := by decide +kernel
theorem dX6_pass_83 : decode cX6_pass 83 = .ok (.aaload, 1) := by decide +kernel
theorem dX6_pass_84 : decode cX6_pass 84 = .ok (.iconst 3, 1) := by decide +kernel
theorem dX6_pass_85 : decode cX6_pass 85 = .ok (.iconst 1, 1) := by decide +kernel
theorem dX6_pass_86 : decode cX6_pass 86 = .ok (.iastore, 1) := by decide +kernel
theorem dX6_pass_87 : decode cX6_pass 87 = .ok (.aload_n 0, 1) := by decide +kernel
theorem dX6_pass_88 : decode cX6_pass 88 = .ok (.getfield 24, 3) := by decide +kernel
theorem dX6_pass_91 : decode cX6_pass 91 = .ok (.iload_n 1, 1) := by decide +kernel
theorem dX6_pass_92 : decode cX6_pass 92 = .ok (.aaload, 1) := by decide +kernel
theorem dX6_pass_93 : decode cX6_pass 93 = .ok (.iconst 5, 1) := by decide +kernel
theorem dX6_pass_94 : decode cX6_pass 94 = .ok (.iconst 0, 1) := by decide +kernel
theorem dX6_pass_95 : decode cX6_pass 95 = .ok (.iastore, 1) := by decide +kernel
theorem dX6_pass_96 : decode cX6_pass 96 = .ok (.aload_n 0, 1) := by decide +kernel
theorem dX6_pass_97 : decode cX6_pass 97 = .ok (.aload_n 0, 1) := by decide +kernel
theorem dX6_pass_98 : decode cX6_pass 98 = .ok (.getfield 24, 3) := by decide +kernel
theorem dX6_pass_101 : decode cX6_pass 101 = .ok (.iload_n 1, 1) := by decide +kernel
theorem dX6_pass_102 : decode cX6_pass 102 = .ok (.aaload, 1) := by decide +kernel
theorem dX6_pass_103 : decode cX6_pass 103 = .ok (.aload_n 0, 1) := by decide +kernel
theorem dX6_pass_104 : decode cX6_pass 104 = .ok (.getfield 24, 3) := by decide +kernel
theorem dX6_pass_107 : decode cX6_pass 107 = .ok (.iload_n 1, 1) := by decide +kernel
theorem dX6_pass_108 : decode cX6_pass 108 = .ok (.aaload, 1) := by decide +kernel
theorem dX6_pass_109 : decode cX6_pass 109 = .ok (.iconst 1, 1) := by decide +kernel
theorem dX6_pass_110 : decode cX6_pass 110 = .ok (.iaload, 1) := by decide +kernel
theorem dX6_pass_111 : decode cX6_pass 111 = .ok (.ifCond .ne 7, 3) := by decide +kernel
theorem dX6_pass_114 : decode cX6_pass 114 = .ok (.iconst 0, 1) := by decide +kernel
theorem dX6_pass_115 : decode cX6_pass 115 = .ok (.goto 10, 3) := by decide +kernel
theorem dX6_pass_118 : decode cX6_pass 118 = .ok (.aload_n 0, 1) := by decide +kernel
theorem dX6_pass_119 : decode cX6_pass 119 = .ok (.getfield 15, 3) := by decide +kernel
theorem dX6_pass_122 : decode cX6_pass 122 = .ok (.arraylength, 1) := by decide +kernel
theorem dX6_pass_123 : decode cX6_pass 123 = .ok (.iconst 1, 1) := by decide +kernel
theorem dX6_pass_124 : decode cX6_pass 124 = .ok (.isub, 1) := by decide +kernel
theorem dX6_pass_125 : decode cX6_pass 125 = .ok (.invokevirtual 67, 3) := by decide +kernel
theorem dX6_pass_128 : decode cX6_pass 128 = .ok (.iinc 1 1, 3) := by decide +kernel
theorem dX6_pass_131 : decode cX6_pass 131 = .ok (.goto (-73), 3) := by decide +kernel
theorem dX6_pass_134 : decode cX6_pass 134 = .ok (.aload_n 0, 1) := by decide +kernel
theorem dX6_pass_135 : decode cX6_pass 135 = .ok (.getfield 24, 3) := by decide +kernel
theorem dX6_pass_138 : decode cX6_pass 138 = .ok (.astore_n 1, 1) := by decide +kernel
theorem dX6_pass_139 : decode cX6_pass 139 = .ok (.aload_n 1, 1) := by decide +kernel
theorem dX6_pass_140 : decode cX6_pass 140 = .ok (.arraylength, 1) := by decide +kernel
theorem dX6_pass_141 : decode cX6_pass 141 = .ok (.istore_n 2, 1) := by decide +kernel
theorem dX6_pass_142 : decode cX6_pass 142 = .ok (.iconst 0, 1) := by decide +kernel
theorem dX6_pass_143 : decode cX6_pass 143 = .ok (.istore_n 3, 1) := by decide +kernel
theorem dX6_pass_144 : decode cX6_pass 144 = .ok (.iload_n 3, 1) := by decide +kernel
theorem dX6_pass_145 : decode cX6_pass 145 = .ok (.iload_n 2, 1) := by decide +kernel
theorem dX6_pass_146 : decode cX6_pass 146 = .ok (.if_icmp .ge 28, 3) := by decide +kernel
theorem dX6_pass_149 : decode cX6_pass 149 = .ok (.aload_n 1, 1) := by decide +kernel
theorem dX6_pass_150 : decode cX6_pass 150 = .ok (.iload_n 3, 1) := by decide +kernel
theorem dX6_pass_151 : decode cX6_pass 151 = .ok (.aaload, 1) := by decide +kernel
theorem dX6_pass_152 : decode cX6_pass 152 = .ok (.astore 4, 2) := by decide +kernel
theorem dX6_pass_154 : decode cX6_pass 154 = .ok (.aload 4, 2) := by decide +kernel
theorem dX6_pass_156 : decode cX6_pass 156 = .ok (.iconst 3, 1) := by decide +kernel
theorem dX6_pass_157 : decode cX6_pass 157 = .ok (.iaload, 1) := by decide +kernel
theorem dX6_pass_158 : decode cX6_pass 158 = .ok (.iconst 1, 1) := by decide +kernel
theorem dX6_pass_159 : decode cX6_pass 159 = .ok (.if_icmp .ne 9, 3) := by decide +kernel
theorem dX6_pass_162 : decode cX6_pass 162 = .ok (.aload_n 0, 1) := by decide +kernel
theorem dX6_pass_163 : decode cX6_pass 163 = .ok (.aload 4, 2) := by decide +kernel
theorem dX6_pass_165 : decode cX6_pass 165 = .ok (.invokevirtual 74, 3) := by decide +kernel
theorem dX6_pass_168 : decode cX6_pass 168 = .ok (.iinc 3 1, 3) := by decide +kernel
theorem dX6_pass_171 : decode cX6_pass 171 = .ok (.goto (-27), 3) := by decide +kernel
theorem dX6_pass_174 : decode cX6_pass 174 = .ok (.aload_n 0, 1) := by decide +kernel
theorem dX6_pass_175 : decode cX6_pass 175 = .ok (.getfield 21, 3) := by decide +kernel
theorem dX6_pass_178 : decode cX6_pass 178 = .ok (.arraylength, 1) := by decide +kernel
theorem dX6_pass_179 : decode cX6_pass 179 = .ok (.newarray .int, 2) := by decide +kernel
theorem dX6_pass_181 : decode cX6_pass 181 = .ok (.astore_n 1, 1) := by decide +kernel
theorem dX6_pass_182 : decode cX6_pass 182 = .ok (.aload_n 1, 1) := by decide +kernel
theorem dX6_pass_183 : decode cX6_pass 183 = .ok (.iconst 2, 1) := by decide +kernel
theorem dX6_pass_184 : decode cX6_pass 184 = .ok (.invokestatic 78, 3) := by decide +kernel
theorem dX6_pass_187 : decode cX6_pass 187 = .ok (.aload_n 0, 1) := by decide +kernel
theorem dX6_pass_188 : decode cX6_pass 188 = .ok (.getfield 24, 3) := by decide +kernel
theorem dX6_pass_191 : decode cX6_pass 191 = .ok (.astore_n 2, 1) := by decide +kernel
theorem dX6_pass_192 : decode cX6_pass 192 = .ok (.aload_n 2, 1) := by decide +kernel
theorem dX6_pass_193 : decode cX6_pass 193 = .ok (.arraylength, 1) := by decide +kernel
theorem dX6_pass_194 : decode cX6_pass 194 = .ok (.istore_n 3, 1) := by decide +kernel
theorem dX6_pass_195 : decode cX6_pass 195 = .ok (.iconst 0, 1) := by decide +kernel
theorem dX6_pass_196 : decode cX6_pass 196 = .ok (.istore 4, 2) := by decide +kernel
theorem dX6_pass_198 : decode cX6_pass 198 = .ok (.iload 4, 2) := by decide +kernel
theorem dX6_pass_200 : decode cX6_pass 200 = .ok (.iload_n 3, 1) := by decide +kernel
theorem dX6_pass_201 : decode cX6_pass 201 = .ok (.if_icmp .ge 111, 3) := by decide +kernel
theorem dX6_pass_204 : decode cX6_pass 204 = .ok (.aload_n 2, 1) := by decide +kernel
theorem dX6_pass_205 : decode cX6_pass 205 = .ok (.iload 4, 2) := by decide +kernel
theorem dX6_pass_207 : decode cX6_pass 207 = .ok (.aaload, 1) := by decide +kernel
theorem dX6_pass_208 : decode cX6_pass 208 = .ok (.astore 5, 2) := by decide +kernel
theorem dX6_pass_210 : decode cX6_pass 210 = .ok (.aload 5, 2) := by decide +kernel
theorem dX6_pass_212 : decode cX6_pass 212 = .ok (.iconst 3, 1) := by decide +kernel
theorem dX6_pass_213 : decode cX6_pass 213 = .ok (.iaload, 1) := by decide +kernel
theorem dX6_pass_214 : decode cX6_pass 214 = .ok (.iconst 1, 1) := by decide +kernel
theorem dX6_pass_215 : decode cX6_pass 215 = .ok (.if_icmp .eq 6, 3) := by decide +kernel
theorem dX6_pass_218 : decode cX6_pass 218 = .ok (.goto 88, 3) := by decide +kernel
theorem dX6_pass_221 : decode cX6_pass 221 = .ok (.aload_n 0, 1) := by decide +kernel
theorem dX6_pass_222 : decode cX6_pass 222 = .ok (.getfield 15, 3) := by decide +kernel
theorem dX6_pass_225 : decode cX6_pass 225 = .ok (.aload 5, 2) := by decide +kernel
theorem dX6_pass_227 : decode cX6_pass 227 = .ok (.iconst 4, 1) := by decide +kernel
theorem dX6_pass_228 : decode cX6_pass 228 = .ok (.iaload, 1) := by decide +kernel
theorem dX6_pass_229 : decode cX6_pass 229 = .ok (.aaload, 1) := by decide +kernel
theorem dX6_pass_230 : decode cX6_pass 230 = .ok (.astore 6, 2) := by decide +kernel
theorem dX6_pass_232 : decode cX6_pass 232 = .ok (.aload 6, 2) := by decide +kernel
theorem dX6_pass_234 : decode cX6_pass 234 = .ok (.iconst 1, 1) := by decide +kernel
theorem dX6_pass_235 : decode cX6_pass 235 = .ok (.aload 6, 2) := by decide +kernel
theorem dX6_pass_237 : decode cX6_pass 237 = .ok (.iconst 1, 1) := by decide +kernel
theorem dX6_pass_238 : decode cX6_pass 238 = .ok (.iaload, 1) := by decide +kernel
theorem dX6_pass_239 : decode cX6_pass 239 = .ok (.bipush 6, 2) := by decide +kernel
theorem dX6_pass_241 : decode cX6_pass 241 = .ok (.if_icmp .ge 7, 3) := by decide +kernel
theorem dX6_pass_244 : decode cX6_pass 244 = .ok (.iconst 0, 1) := by decide +kernel
theorem dX6_pass_245 : decode cX6_pass 245 = .ok (.goto 10, 3) := by decide +kernel
theorem dX6_pass_248 : decode cX6_pass 248 = .ok (.aload 6, 2) := by decide +kernel
theorem dX6_pass_250 : decode cX6_pass 250 = .ok (.iconst 1, 1) := by decide +kernel
theorem dX6_pass_251 : decode cX6_pass 251 = .ok (.iaload, 1) := by decide +kernel
theorem dX6_pass_252 : decode cX6_pass 252 = .ok (.bipush 6, 2) := by decide +kernel
theorem dX6_pass_254 : decode cX6_pass 254 = .ok (.isub, 1) := by decide +kernel
theorem dX6_pass_255 : decode cX6_pass 255 = .ok (.iastore, 1) := by decide +kernel
theorem dX6_pass_256 : decode cX6_pass 256 = .ok (.bipush 40, 2) := by decide +kernel
theorem dX6_pass_258 : decode cX6_pass 258 = .ok (.aload 6, 2) := by decide +kernel
theorem dX6_pass_260 : decode cX6_pass 260 = .ok (.iconst 1, 1) := by decide +kernel
theorem dX6_pass_261 : decode cX6_pass 261 = .ok (.iaload, 1) := by decide +kernel
theorem dX6_pass_262 : decode cX6_pass 262 = .ok (.isub, 1) := by decide +kernel
theorem dX6_pass_263 : decode cX6_pass 263 = .ok (.istore 7, 2) := by decide +kernel
theorem dX6_pass_265 : decode cX6_pass 265 = .ok (.bipush 7, 2) := by decide +kernel
theorem dX6_pass_267 : decode cX6_pass 267 = .ok (.istore 8, 2) := by decide +kernel
theorem dX6_pass_269 : decode cX6_pass 269 = .ok (.iload 8, 2) := by decide +kernel
theorem dX6_pass_271 : decode cX6_pass 271 = .ok (.bipush 9, 2) := by decide +kernel
theorem dX6_pass_273 : decode cX6_pass 273 = .ok (.if_icmp .ge 33, 3) := by decide +kernel
theorem dX6_pass_276 : decode cX6_pass 276 = .ok (.aload_n 1, 1) := by decide +kernel
theorem dX6_pass_277 : decode cX6_pass 277 = .ok (.aload 5, 2) := by decide +kernel
theorem dX6_pass_279 : decode cX6_pass 279 = .ok (.iload 8, 2) := by decide +kernel
theorem dX6_pass_281 : decode cX6_pass 281 = .ok (.iaload, 1) := by decide +kernel
theorem dX6_pass_282 : decode cX6_pass 282 = .ok (.iload 7, 2) := by decide +kernel
theorem dX6_pass_284 : decode cX6_pass 284 = .ok (.ifCond .le 14, 3) := by decide +kernel
theorem dX6_pass_287 : decode cX6_pass 287 = .ok (.iload 7, 2) := by decide +kernel
theorem dX6_pass_289 : decode cX6_pass 289 = .ok (.bipush 10, 2) := by decide +kernel
theorem dX6_pass_291 : decode cX6_pass 291 = .ok (.idiv, 1) := by decide +kernel
theorem dX6_pass_292 : decode cX6_pass 292 = .ok (.iconst 1, 1) := by decide +kernel
theorem dX6_pass_293 : decode cX6_pass 293 = .ok (.iadd, 1) := by decide +kernel
theorem dX6_pass_294 : decode cX6_pass 294 = .ok (.ineg, 1) := by decide +kernel
theorem dX6_pass_295 : decode cX6_pass 295 = .ok (.goto 4, 3) := by decide +kernel
theorem dX6_pass_298 : decode cX6_pass 298 = .ok (.iconst 1, 1) := by decide +kernel
theorem dX6_pass_299 : decode cX6_pass 299 = .ok (.iastore, 1) := by decide +kernel
theorem dX6_pass_300 : decode cX6_pass 300 = .ok (.iinc 8 1, 3) := by decide +kernel
theorem dX6_pass_303 : decode cX6_pass 303 = .ok (.goto (-34), 3) := by decide +kernel
theorem dX6_pass_306 : decode cX6_pass 306 = .ok (.iinc 4 1, 3) := by decide +kernel
theorem dX6_pass_309 : decode cX6_pass 309 = .ok (.goto (-111), 3) := by decide +kernel
theorem dX6_pass_312 : decode cX6_pass 312 = .ok (.iconst 0, 1) := by decide +kernel
theorem dX6_pass_313 : decode cX6_pass 313 = .ok (.istore_n 2, 1) := by decide +kernel
theorem dX6_pass_314 : decode cX6_pass 314 = .ok (.iload_n 2, 1) := by decide +kernel
theorem dX6_pass_315 : decode cX6_pass 315 = .ok (.aload_n 1, 1) := by decide +kernel
theorem dX6_pass_316 : decode cX6_pass 316 = .ok (.arraylength, 1) := by decide +kernel
theorem dX6_pass_317 : decode cX6_pass 317 = .ok (.if_icmp .ge 56, 3) := by decide +kernel
theorem dX6_pass_320 : decode cX6_pass 320 = .ok (.aload_n 0, 1) := by decide +kernel
theorem dX6_pass_321 : decode cX6_pass 321 = .ok (.getfield 21, 3) := by decide +kernel
theorem dX6_pass_324 : decode cX6_pass 324 = .ok (.iload_n 2, 1) := by decide +kernel
theorem dX6_pass_325 : decode cX6_pass 325 = .ok (.aaload, 1) := by decide +kernel
theorem dX6_pass_326 : decode cX6_pass 326 = .ok (.astore_n 3, 1) := by decide +kernel
theorem dX6_pass_327 : decode cX6_pass 327 = .ok (.aload_n 3, 1) := by decide +kernel
theorem dX6_pass_328 : decode cX6_pass 328 = .ok (.iconst 2, 1) := by decide +kernel
theorem dX6_pass_329 : decode cX6_pass 329 = .ok (.dup2, 1) := by decide +kernel
theorem dX6_pass_330 : decode cX6_pass 330 = .ok (.iaload, 1) := by decide +kernel
theorem dX6_pass_331 : decode cX6_pass 331 = .ok (.aload_n 1, 1) := by decide +kernel
theorem dX6_pass_332 : decode cX6_pass 332 = .ok (.iload_n 2, 1) := by decide +kernel
theorem dX6_pass_333 : decode cX6_pass 333 = .ok (.iaload, 1) := by decide +kernel
theorem dX6_pass_334 : decode cX6_pass 334 = .ok (.iadd, 1) := by decide +kernel
theorem dX6_pass_335 : decode cX6_pass 335 = .ok (.iastore, 1) := by decide +kernel
theorem dX6_pass_336 : decode cX6_pass 336 = .ok (.aload_n 3, 1) := by decide +kernel
theorem dX6_pass_337 : decode cX6_pass 337 = .ok (.iconst 2, 1) := by decide +kernel
theorem dX6_pass_338 : decode cX6_pass 338 = .ok (.iaload, 1) := by decide +kernel
theorem dX6_pass_339 : decode cX6_pass 339 = .ok (.ifCond .ge 7, 3) := by decide +kernel
theorem dX6_pass_342 : decode cX6_pass 342 = .ok (.aload_n 3, 1) := by decide +kernel
theorem dX6_pass_343 : decode cX6_pass 343 = .ok (.iconst 2, 1) := by decide +kernel
theorem dX6_pass_344 : decode cX6_pass 344 = .ok (.iconst 0, 1) := by decide +kernel
theorem dX6_pass_345 : decode cX6_pass 345 = .ok (.iastore, 1) := by decide +kernel
theorem dX6_pass_346 : decode cX6_pass 346 = .ok (.aload_n 3, 1) := by decide +kernel
theorem dX6_pass_347 : decode cX6_pass 347 = .ok (.iconst 2, 1) := by decide +kernel
theorem dX6_pass_348 : decode cX6_pass 348 = .ok (.iaload, 1) := by decide +kernel
theorem dX6_pass_349 : decode cX6_pass 349 = .ok (.bipush 10, 2) := by decide +kernel
theorem dX6_pass_351 : decode cX6_pass 351 = .ok (.aload_n 3, 1) := by decide +kernel
theorem dX6_pass_352 : decode cX6_pass 352 = .ok (.iconst 1, 1) := by decide +kernel
theorem dX6_pass_353 : decode cX6_pass 353 = .ok (.iaload, 1) := by decide +kernel
theorem dX6_pass_354 : decode cX6_pass 354 = .ok (.imul, 1) := by decide +kernel
theorem dX6_pass_355 : decode cX6_pass 355 = .ok (.if_icmp .le 12, 3) := by decide +kernel
theorem dX6_pass_358 : decode cX6_pass 358 = .ok (.aload_n 3, 1) := by decide +kernel
theorem dX6_pass_359 : decode cX6_pass 359 = .ok (.iconst 2, 1) := by decide +kernel
theorem dX6_pass_360 : decode cX6_pass 360 = .ok (.bipush 10, 2) := by decide +kernel
theorem dX6_pass_362 : decode cX6_pass 362 = .ok (.aload_n 3, 1) := by decide +kernel
theorem dX6_pass_363 : decode cX6_pass 363 = .ok (.iconst 1, 1) := by decide +kernel
theorem dX6_pass_364 : decode cX6_pass 364 = .ok (.iaload, 1) := by decide +kernel
theorem dX6_pass_365 : decode cX6_pass 365 = .ok (.imul, 1) := by decide +kernel
theorem dX6_pass_366 : decode cX6_pass 366 = .ok (.iastore, 1) := by decide +kernel
theorem dX6_pass_367 : decode cX6_pass 367 = .ok (.iinc 2 1, 3) := by decide +kernel
theorem dX6_pass_370 : decode cX6_pass 370 = .ok (.goto (-56), 3) := by decide +kernel
theorem dX6_pass_373 : decode cX6_pass 373 = .ok (.aload_n 0, 1) := by decide +kernel
theorem dX6_pass_374 : decode cX6_pass 374 = .ok (.getfield 18, 3) := by decide +kernel
theorem dX6_pass_377 : decode cX6_pass 377 = .ok (.astore_n 2, 1) := by decide +kernel
theorem dX6_pass_378 : decode cX6_pass 378 = .ok (.aload_n 2, 1) := by decide +kernel
theorem dX6_pass_379 : decode cX6_pass 379 = .ok (.arraylength, 1) := by decide +kernel
theorem dX6_pass_380 : decode cX6_pass 380 = .ok (.istore_n 3, 1) := by decide +kernel
theorem dX6_pass_381 : decode cX6_pass 381 = .ok (.iconst 0, 1) := by decide +kernel
theorem dX6_pass_382 : decode cX6_pass 382 = .ok (.istore 4, 2) := by decide +kernel
theorem dX6_pass_384 : decode cX6_pass 384 = .ok (.iload 4, 2) := by decide +kernel
theorem dX6_pass_386 : decode cX6_pass 386 = .ok (.iload_n 3, 1) := by decide +kernel
theorem dX6_pass_387 : decode cX6_pass 387 = .ok (.if_icmp .ge 117, 3) := by decide +kernel
theorem dX6_pass_390 : decode cX6_pass 390 = .ok (.aload_n 2, 1) := by decide +kernel
theorem dX6_pass_391 : decode cX6_pass 391 = .ok (.iload 4, 2) := by decide +kernel
theorem dX6_pass_393 : decode cX6_pass 393 = .ok (.aaload, 1) := by decide +kernel
theorem dX6_pass_394 : decode cX6_pass 394 = .ok (.astore 5, 2) := by decide +kernel
theorem dX6_pass_396 : decode cX6_pass 396 = .ok (.iconst 0, 1) := by decide +kernel
theorem dX6_pass_397 : decode cX6_pass 397 = .ok (.istore 6, 2) := by decide +kernel
theorem dX6_pass_399 : decode cX6_pass 399 = .ok (.iload 6, 2) := by decide +kernel
theorem dX6_pass_401 : decode cX6_pass 401 = .ok (.aload_n 0, 1) := by decide +kernel
theorem dX6_pass_402 : decode cX6_pass 402 = .ok (.getfield 15, 3) := by decide +kernel
theorem dX6_pass_405 : decode cX6_pass 405 = .ok (.arraylength, 1) := by decide +kernel
theorem dX6_pass_406 : decode cX6_pass 406 = .ok (.if_icmp .ge 92, 3) := by decide +kernel
theorem dX6_pass_409 : decode cX6_pass 409 = .ok (.iload 6, 2) := by decide +kernel
theorem dX6_pass_411 : decode cX6_pass 411 = .ok (.aload 5, 2) := by decide +kernel
theorem dX6_pass_413 : decode cX6_pass 413 = .ok (.iconst 0, 1) := by decide +kernel
theorem dX6_pass_414 : decode cX6_pass 414 = .ok (.iaload, 1) := by decide +kernel
theorem dX6_pass_415 : decode cX6_pass 415 = .ok (.if_icmp .le 13, 3) := by decide +kernel
theorem dX6_pass_418 : decode cX6_pass 418 = .ok (.iload 6, 2) := by decide +kernel
theorem dX6_pass_420 : decode cX6_pass 420 = .ok (.aload 5, 2) := by decide +kernel
theorem dX6_pass_422 : decode cX6_pass 422 = .ok (.iconst 0, 1) := by decide +kernel
theorem dX6_pass_423 : decode cX6_pass 423 = .ok (.iaload, 1) := by decide +kernel
theorem dX6_pass_424 : decode cX6_pass 424 = .ok (.isub, 1) := by decide +kernel
theorem dX6_pass_425 : decode cX6_pass 425 = .ok (.goto 10, 3) := by decide +kernel
theorem dX6_pass_428 : decode cX6_pass 428 = .ok (.aload 5, 2) := by decide +kernel
theorem dX6_pass_430 : decode cX6_pass 430 = .ok (.iconst 0, 1) := by decide +kernel
theorem dX6_pass_431 : decode cX6_pass 431 = .ok (.iaload, 1) := by decide +kernel
theorem dX6_pass_432 : decode cX6_pass 432 = .ok (.iload 6, 2) := by decide +kernel
theorem dX6_pass_434 : decode cX6_pass 434 = .ok (.isub, 1) := by decide +kernel
theorem dX6_pass_435 : decode cX6_pass 435 = .ok (.istore 7, 2) := by decide +kernel
theorem dX6_pass_437 : decode cX6_pass 437 = .ok (.aload 5, 2) := by decide +kernel
theorem dX6_pass_439 : decode cX6_pass 439 = .ok (.iconst 1, 1) := by decide +kernel
theorem dX6_pass_440 : decode cX6_pass 440 = .ok (.iaload, 1) := by decide +kernel
theorem dX6_pass_441 : decode cX6_pass 441 = .ok (.iload 7, 2) := by decide +kernel
theorem dX6_pass_443 : decode cX6_pass 443 = .ok (.isub, 1) := by decide +kernel
theorem dX6_pass_444 : decode cX6_pass 444 = .ok (.iload 7, 2) := by decide +kernel
theorem dX6_pass_446 : decode cX6_pass 446 = .ok (.isub, 1) := by decide +kernel
theorem dX6_pass_447 : decode cX6_pass 447 = .ok (.istore 8, 2) := by decide +kernel
theorem dX6_pass_449 : decode cX6_pass 449 = .ok (.iconst 0, 1) := by decide +kernel
theorem dX6_pass_450 : decode cX6_pass 450 = .ok (.istore 9, 2) := by decide +kernel
theorem dX6_pass_452 : decode cX6_pass 452 = .ok (.iload 9, 2) := by decide +kernel
theorem dX6_pass_454 : decode cX6_pass 454 = .ok (.iload 8, 2) := by decide +kernel
theorem dX6_pass_456 : decode cX6_pass 456 = .ok (.if_icmp .ge 36, 3) := by decide +kernel
theorem dX6_pass_459 : decode cX6_pass 459 = .ok (.aload_n 0, 1) := by decide +kernel
theorem dX6_pass_460 : decode cX6_pass 460 = .ok (.getfield 15, 3) := by decide +kernel
theorem dX6_pass_463 : decode cX6_pass 463 = .ok (.iload 6, 2) := by decide +kernel
theorem dX6_pass_465 : decode cX6_pass 465 = .ok (.aaload, 1) := by decide +kernel
theorem dX6_pass_466 : decode cX6_pass 466 = .ok (.iconst 1, 1) := by decide +kernel
theorem dX6_pass_467 : decode cX6_pass 467 = .ok (.iaload, 1) := by decide +kernel
theorem dX6_pass_468 : decode cX6_pass 468 = .ok (.bipush 100, 2) := by decide +kernel
theorem dX6_pass_470 : decode cX6_pass 470 = .ok (.if_icmp .ge 22, 3) := by decide +kernel
theorem dX6_pass_473 : decode cX6_pass 473 = .ok (.aload_n 0, 1) := by decide +kernel
theorem dX6_pass_474 : decode cX6_pass 474 = .ok (.getfield 15, 3) := by decide +kernel
theorem dX6_pass_477 : decode cX6_pass 477 = .ok (.iload 6, 2) := by decide +kernel
theorem dX6_pass_479 : decode cX6_pass 479 = .ok (.aaload, 1) := by decide +kernel
theorem dX6_pass_480 : decode cX6_pass 480 = .ok (.iconst 1, 1) := by decide +kernel
theorem dX6_pass_481 : decode cX6_pass 481 = .ok (.dup2, 1) := by decide +kernel
theorem dX6_pass_482 : decode cX6_pass 482 = .ok (.iaload, 1) := by decide +kernel
theorem dX6_pass_483 : decode cX6_pass 483 = .ok (.iconst 1, 1) := by decide +kernel
theorem dX6_pass_484 : decode cX6_pass 484 = .ok (.iadd, 1) := by decide +kernel
theorem dX6_pass_485 : decode cX6_pass 485 = .ok (.iastore, 1) := by decide +kernel
theorem dX6_pass_486 : decode cX6_pass 486 = .ok (.iinc 9 1, 3) := by decide +kernel
theorem dX6_pass_489 : decode cX6_pass 489 = .ok (.goto (-37), 3) := by decide +kernel
theorem dX6_pass_492 : decode cX6_pass 492 = .ok (.iinc 6 1, 3) := by decide +kernel
theorem dX6_pass_495 : decode cX6_pass 495 = .ok (.goto (-96), 3) := by decide +kernel
theorem dX6_pass_498 : decode cX6_pass 498 = .ok (.iinc 4 1, 3) := by decide +kernel
theorem dX6_pass_501 : decode cX6_pass 501 = .ok (.goto (-117), 3) := by decide +kernel
theorem dX6_pass_504 : decode cX6_pass 504 = .ok (.aload_n 0, 1) := by decide +kernel
theorem dX6_pass_505 : decode cX6_pass 505 = .ok (.getfield 21, 3) := by decide +kernel
theorem dX6_pass_508 : decode cX6_pass 508 = .ok (.astore_n 2, 1) := by decide +kernel
theorem dX6_pass_509 : decode cX6_pass 509 = .ok (.aload_n 2, 1) := by decide +kernel
theorem dX6_pass_510 : decode cX6_pass 510 = .ok (.arraylength, 1) := by decide +kernel
theorem dX6_pass_511 : decode cX6_pass 511 = .ok (.istore_n 3, 1) := by decide +kernel
theorem dX6_pass_512 : decode cX6_pass 512 = .ok (.iconst 0, 1) := by decide +kernel
theorem dX6_pass_513 : decode cX6_pass 513 = .ok (.istore 4, 2) := by decide +kernel
theorem dX6_pass_515 : decode cX6_pass 515 = .ok (.iload 4, 2) := by decide +kernel
theorem dX6_pass_517 : decode cX6_pass 517 = .ok (.iload_n 3, 1) := by decide +kernel
theorem dX6_pass_518 : decode cX6_pass 518 = .ok (.if_icmp .ge 36, 3) := by decide +kernel
theorem dX6_pass_521 : decode cX6_pass 521 = .ok (.aload_n 2, 1) := by decide +kernel
theorem dX6_pass_522 : decode cX6_pass 522 = .ok (.iload 4, 2) := by decide +kernel
theorem dX6_pass_524 : decode cX6_pass 524 = .ok (.aaload, 1) := by decide +kernel
theorem dX6_pass_525 : decode cX6_pass 525 = .ok (.astore 5, 2) := by decide +kernel
theorem dX6_pass_527 : decode cX6_pass 527 = .ok (.aload 5, 2) := by decide +kernel
theorem dX6_pass_529 : decode cX6_pass 529 = .ok (.iconst 4, 1) := by decide +kernel
theorem dX6_pass_530 : decode cX6_pass 530 = .ok (.aload 5, 2) := by decide +kernel
theorem dX6_pass_532 : decode cX6_pass 532 = .ok (.iconst 4, 1) := by decide +kernel
theorem dX6_pass_533 : decode cX6_pass 533 = .ok (.iaload, 1) := by decide +kernel
theorem dX6_pass_534 : decode cX6_pass 534 = .ok (.ifCond .le 12, 3) := by decide +kernel
theorem dX6_pass_537 : decode cX6_pass 537 = .ok (.aload 5, 2) := by decide +kernel
theorem dX6_pass_539 : decode cX6_pass 539 = .ok (.iconst 4, 1) := by decide +kernel
theorem dX6_pass_540 : decode cX6_pass 540 = .ok (.iaload, 1) := by decide +kernel
theorem dX6_pass_541 : decode cX6_pass 541 = .ok (.iconst 1, 1) := by decide +kernel
theorem dX6_pass_542 : decode cX6_pass 542 = .ok (.isub, 1) := by decide +kernel
theorem dX6_pass_543 : decode cX6_pass 543 = .ok (.goto 4, 3) := by decide +kernel
theorem dX6_pass_546 : decode cX6_pass 546 = .ok (.iconst 0, 1) := by decide +kernel
theorem dX6_pass_547 : decode cX6_pass 547 = .ok (.iastore, 1) := by decide +kernel
theorem dX6_pass_548 : decode cX6_pass 548 = .ok (.iinc 4 1, 3) := by decide +kernel
theorem dX6_pass_551 : decode cX6_pass 551 = .ok (.goto (-36), 3) := by decide +kernel
theorem dX6_pass_554 : decode cX6_pass 554 = .ok (.aload_n 0, 1) := by decide +kernel
theorem dX6_pass_555 : decode cX6_pass 555 = .ok (.dup, 1) := by decide +kernel
theorem dX6_pass_556 : decode cX6_pass 556 = .ok (.getfield 34, 3) := by decide +kernel
theorem dX6_pass_559 : decode cX6_pass 559 = .ok (.iconst 1, 1) := by decide +kernel
theorem dX6_pass_560 : decode cX6_pass 560 = .ok (.iadd, 1) := by decide +kernel
theorem dX6_pass_561 : decode cX6_pass 561 = .ok (.putfield 34, 3) := by decide +kernel
theorem dX6_pass_564 : decode cX6_pass 564 = .ok (.return_, 1) := by decide +kernel
theorem mi_X6_pass : MInfo yX6_pass cX6_pass 10 none 0 := ⟨wq_831, wq_69, by decide, ⟨by decide +kernel, by decide +kernel, by decide +kernel⟩, by decide +kernel⟩
def wl_X6_pass_515 (nn : Nat → Nat) (V : M2) (S : M2) (O : M2) (K : M2 → M2 → M2 → M2 → Prop) : Nat → M2 → M2 → M2 → M2 → Int32 → Int32 → Prop
  | 0, _, _, _, _, _, _ => False
  | n + 1, N, U, L, B, v3, v4 => ((v3 ≤ v4 → (∀ N_561 : M2, N_561 = up2 N 0 (fun _ => (N 0 0) + 1) → K N_561 U L B)) ∧ (¬ v3 ≤ v4 → (inb v4 (nn 3) ∧ (inb v4 (nn 3) ∧ (((L v4.toInt.toNat 4) ≤ 0 → (inb v4 (nn 3) ∧ ∀ L_547 : M2, L_547 = up2 L v4.toInt.toNat (upd (L v4.toInt.toNat) 4 0) → (∀ v4_548 : Int32, v4_548 = v4 + 1 → wl_X6_pass_515 nn V S O K n N U L_547 B v3 v4_548))) ∧ (¬ (L v4.toInt.toNat 4) ≤ 0 → (inb v4 (nn 3) ∧ (inb v4 (nn 3) ∧ ∀ L_547 : M2, L_547 = up2 L v4.toInt.toNat (upd (L v4.toInt.toNat) 4 ((L v4.toInt.toNat 4) - 1)) → (∀ v4_548 : Int32, v4_548 = v4 + 1 → wl_X6_pass_515 nn V S O K n N U L_547 B v3 v4_548)))))))))
def wl_X6_pass_452 (nn : Nat → Nat) (V : M2) (S : M2) (O : M2) (C384 : M2 → M2 → M2 → M2 → Int32 → Int32 → Prop) (C399 : M2 → M2 → M2 → M2 → Int32 → Int32 → Int32 → Int32 → Prop) (K : M2 → M2 → M2 → M2 → Prop) : Nat → M2 → M2 → M2 → M2 → Int32 → Int32 → Int32 → Int32 → Int32 → Int32 → Prop
  | 0, _, _, _, _, _, _, _, _, _, _ => False
  | n + 1, N, U, L, B, v3, v4, v5, v6, v8, v9 => ((v8 ≤ v9 → (∀ v6_492 : Int32, v6_492 = v6 + 1 → C399 N U L B v3 v4 v5 v6_492)) ∧ (¬ v8 ≤ v9 → (inb v6 (nn 1) ∧ (inb v6 (nn 1) ∧ ((100 ≤ (U v6.toInt.toNat 1) → (∀ v6_492 : Int32, v6_492 = v6 + 1 → C399 N U L B v3 v4 v5 v6_492)) ∧ (¬ 100 ≤ (U v6.toInt.toNat 1) → (inb v6 (nn 1) ∧ (inb v6 (nn 1) ∧ (inb v6 (nn 1) ∧ ∀ U_485 : M2, U_485 = up2 U v6.toInt.toNat (upd (U v6.toInt.toNat) 1 ((U v6.toInt.toNat 1) + 1)) → (∀ v9_486 : Int32, v9_486 = v9 + 1 → wl_X6_pass_452 nn V S O C384 C399 K n N U_485 L B v3 v4 v5 v6 v8 v9_486))))))))))
def wj_X6_pass_435 (nn : Nat → Nat) (V : M2) (S : M2) (O : M2) (C384 : M2 → M2 → M2 → M2 → Int32 → Int32 → Prop) (C399 : M2 → M2 → M2 → M2 → Int32 → Int32 → Int32 → Int32 → Prop) (K : M2 → M2 → M2 → M2 → Prop) (N : M2) (U : M2) (L : M2) (B : M2) (v3 : Int32) (v4 : Int32) (v5 : Int32) (v6 : Int32) (q0 : Int32) : Prop := (inb v5 (nn 2) ∧ (∀ v8_447, v8_447 = ((S v5.toInt.toNat 1) - q0) - q0 → wl_X6_pass_452 nn V S O C384 C399 K fK N U L B v3 v4 v5 v6 v8_447 0))
def wl_X6_pass_399 (nn : Nat → Nat) (V : M2) (S : M2) (O : M2) (C384 : M2 → M2 → M2 → M2 → Int32 → Int32 → Prop) (K : M2 → M2 → M2 → M2 → Prop) : Nat → M2 → M2 → M2 → M2 → Int32 → Int32 → Int32 → Int32 → Prop
  | 0, _, _, _, _, _, _, _, _ => False
  | n + 1, N, U, L, B, v3, v4, v5, v6 => (((Int32.ofNat (nn 1)) ≤ v6 → (∀ v4_498 : Int32, v4_498 = v4 + 1 → C384 N U L B v3 v4_498)) ∧ (¬ (Int32.ofNat (nn 1)) ≤ v6 → (inb v5 (nn 2) ∧ ((v6 ≤ (S v5.toInt.toNat 0) → (inb v5 (nn 2) ∧ wj_X6_pass_435 nn V S O C384 (wl_X6_pass_399 nn V S O C384 K n) K N U L B v3 v4 v5 v6 ((S v5.toInt.toNat 0) - v6))) ∧ (¬ v6 ≤ (S v5.toInt.toNat 0) → (inb v5 (nn 2) ∧ wj_X6_pass_435 nn V S O C384 (wl_X6_pass_399 nn V S O C384 K n) K N U L B v3 v4 v5 v6 (v6 - (S v5.toInt.toNat 0))))))))
def wl_X6_pass_384 (nn : Nat → Nat) (V : M2) (S : M2) (O : M2) (K : M2 → M2 → M2 → M2 → Prop) : Nat → M2 → M2 → M2 → M2 → Int32 → Int32 → Prop
  | 0, _, _, _, _, _, _ => False
  | n + 1, N, U, L, B, v3, v4 => ((v3 ≤ v4 → (∀ v3_511, v3_511 = Int32.ofNat (nn 3) → wl_X6_pass_515 nn V S O K fK N U L B v3_511 0)) ∧ (¬ v3 ≤ v4 → (inb v4 (nn 2) ∧ wl_X6_pass_399 nn V S O (wl_X6_pass_384 nn V S O K n) K fK N U L B v3 v4 v4 0)))
def wj_X6_pass_346 (nn : Nat → Nat) (V : M2) (S : M2) (O : M2) (C314 : M2 → M2 → M2 → M2 → (Nat → Int32) → Int32 → Prop) (K : M2 → M2 → M2 → M2 → Prop) (N : M2) (U : M2) (L : M2) (B : M2) (e179 : (Nat → Int32)) (v2 : Int32) (v3 : Int32) : Prop := (inb v3 (nn 3) ∧ (inb v3 (nn 3) ∧ (((L v3.toInt.toNat 2) ≤ (10 * (L v3.toInt.toNat 1)) → (∀ v2_367 : Int32, v2_367 = v2 + 1 → C314 N U L B e179 v2_367)) ∧ (¬ (L v3.toInt.toNat 2) ≤ (10 * (L v3.toInt.toNat 1)) → (inb v3 (nn 3) ∧ (inb v3 (nn 3) ∧ ∀ L_366 : M2, L_366 = up2 L v3.toInt.toNat (upd (L v3.toInt.toNat) 2 (10 * (L v3.toInt.toNat 1))) → (∀ v2_367 : Int32, v2_367 = v2 + 1 → C314 N U L_366 B e179 v2_367)))))))
def wl_X6_pass_314 (nn : Nat → Nat) (V : M2) (S : M2) (O : M2) (K : M2 → M2 → M2 → M2 → Prop) : Nat → M2 → M2 → M2 → M2 → (Nat → Int32) → Int32 → Prop
  | 0, _, _, _, _, _, _ => False
  | n + 1, N, U, L, B, e179, v2 => (((Int32.ofNat (nn 3)) ≤ v2 → (∀ v3_380, v3_380 = Int32.ofNat (nn 2) → wl_X6_pass_384 nn V S O K fK N U L B v3_380 0)) ∧ (¬ (Int32.ofNat (nn 3)) ≤ v2 → (inb v2 (nn 3) ∧ (inb v2 (nn 3) ∧ (inb v2 (nn 3) ∧ (inb v2 (nn 3) ∧ ∀ L_335 : M2, L_335 = up2 L v2.toInt.toNat (upd (L v2.toInt.toNat) 2 ((L v2.toInt.toNat 2) + (e179 v2.toInt.toNat))) → (inb v2 (nn 3) ∧ ((0 ≤ (L_335 v2.toInt.toNat 2) → wj_X6_pass_346 nn V S O (wl_X6_pass_314 nn V S O K n) K N U L_335 B e179 v2 v2) ∧ (¬ 0 ≤ (L_335 v2.toInt.toNat 2) → (inb v2 (nn 3) ∧ ∀ L_345 : M2, L_345 = up2 L_335 v2.toInt.toNat (upd (L_335 v2.toInt.toNat) 2 0) → wj_X6_pass_346 nn V S O (wl_X6_pass_314 nn V S O K n) K N U L_345 B e179 v2 v2))))))))))
def wl_X6_pass_269 (nn : Nat → Nat) (V : M2) (S : M2) (O : M2) (C198 : M2 → M2 → M2 → M2 → (Nat → Int32) → Int32 → Int32 → Prop) (K : M2 → M2 → M2 → M2 → Prop) : Nat → M2 → M2 → M2 → M2 → (Nat → Int32) → Int32 → Int32 → Int32 → Int32 → Int32 → Prop
  | 0, _, _, _, _, _, _, _, _, _, _ => False
  | n + 1, N, U, L, B, e179, v3, v4, v5, v7, v8 => ((9 ≤ v8 → (∀ v4_306 : Int32, v4_306 = v4 + 1 → C198 N U L B e179 v3 v4_306)) ∧ (¬ 9 ≤ v8 → (inb v5 (nn 4) ∧ inb v8 9 ∧ ((v7 ≤ 0 → (inb (B v5.toInt.toNat v8.toInt.toNat) (nn 3) ∧ ∀ e179_299 : Nat → Int32, e179_299 = upd e179 ((B v5.toInt.toNat v8.toInt.toNat).toInt.toNat) 1 → (∀ v8_300 : Int32, v8_300 = v8 + 1 → wl_X6_pass_269 nn V S O C198 K n N U L B e179_299 v3 v4 v5 v7 v8_300))) ∧ (¬ v7 ≤ 0 → (inb (B v5.toInt.toNat v8.toInt.toNat) (nn 3) ∧ ∀ e179_299 : Nat → Int32, e179_299 = upd e179 ((B v5.toInt.toNat v8.toInt.toNat).toInt.toNat) (-((v7 / 10) + 1)) → (∀ v8_300 : Int32, v8_300 = v8 + 1 → wl_X6_pass_269 nn V S O C198 K n N U L B e179_299 v3 v4 v5 v7 v8_300)))))))
def wj_X6_pass_255 (nn : Nat → Nat) (V : M2) (S : M2) (O : M2) (C198 : M2 → M2 → M2 → M2 → (Nat → Int32) → Int32 → Int32 → Prop) (K : M2 → M2 → M2 → M2 → Prop) (N : M2) (U : M2) (L : M2) (B : M2) (e179 : (Nat → Int32)) (v3 : Int32) (v4 : Int32) (v5 : Int32) (v6 : Int32) (q0 : Int32) (q1 : Int32) (q2 : Int32) : Prop := (inb q2 (nn 1) ∧ inb q1 2 ∧ ∀ U_255 : M2, U_255 = up2 U q2.toInt.toNat (upd (U q2.toInt.toNat) q1.toInt.toNat q0) → (inb v6 (nn 1) ∧ (∀ v7_263, v7_263 = 40 - (U_255 v6.toInt.toNat 1) → wl_X6_pass_269 nn V S O C198 K fK N U_255 L B e179 v3 v4 v5 v7_263 7)))
def wl_X6_pass_198 (nn : Nat → Nat) (V : M2) (S : M2) (O : M2) (K : M2 → M2 → M2 → M2 → Prop) : Nat → M2 → M2 → M2 → M2 → (Nat → Int32) → Int32 → Int32 → Prop
  | 0, _, _, _, _, _, _, _ => False
  | n + 1, N, U, L, B, e179, v3, v4 => ((v3 ≤ v4 → wl_X6_pass_314 nn V S O K fK N U L B e179 0) ∧ (¬ v3 ≤ v4 → (inb v4 (nn 4) ∧ (inb v4 (nn 4) ∧ (((B v4.toInt.toNat 3) = 1 → (inb v4 (nn 4) ∧ (inb (B v4.toInt.toNat 4) (nn 1) ∧ (∀ v6_230 : Int32, v6_230 = B v4.toInt.toNat 4 → (inb v6_230 (nn 1) ∧ ((6 ≤ (U v6_230.toInt.toNat 1) → (inb v6_230 (nn 1) ∧ wj_X6_pass_255 nn V S O (wl_X6_pass_198 nn V S O K n) K N U L B e179 v3 v4 v4 v6_230 ((U v6_230.toInt.toNat 1) - 6) 1 v6_230)) ∧ (¬ 6 ≤ (U v6_230.toInt.toNat 1) → wj_X6_pass_255 nn V S O (wl_X6_pass_198 nn V S O K n) K N U L B e179 v3 v4 v4 v6_230 0 1 v6_230))))))) ∧ (¬ (B v4.toInt.toNat 3) = 1 → (∀ v4_306 : Int32, v4_306 = v4 + 1 → wl_X6_pass_198 nn V S O K n N U L B e179 v3 v4_306)))))))
def wl_X6_pass_144 (nn : Nat → Nat) (V : M2) (S : M2) (O : M2) (K : M2 → M2 → M2 → M2 → Prop) : Nat → M2 → M2 → M2 → M2 → Int32 → Int32 → Prop
  | 0, _, _, _, _, _, _ => False
  | n + 1, N, U, L, B, v2, v3 => ((v2 ≤ v3 → (nn 3 ≤ 64 ∧ (∀ e179_184 : Nat → Int32, (∀ j, j < nn 3 → e179_184 j = 2) → (∀ v3_194, v3_194 = Int32.ofNat (nn 4) → wl_X6_pass_198 nn V S O K fK N U L B e179_184 v3_194 0)))) ∧ (¬ v2 ≤ v3 → (inb v3 (nn 4) ∧ (inb v3 (nn 4) ∧ ((¬ (B v3.toInt.toNat 3) = 1 → (∀ v3_168 : Int32, v3_168 = v3 + 1 → wl_X6_pass_144 nn V S O K n N U L B v2 v3_168)) ∧ ((B v3.toInt.toNat 3) = 1 → wp_X6_push nn V S O N U L B v3 (fun N_165 U_165 L_165 B_165 => (∀ v3_168 : Int32, v3_168 = v3 + 1 → wl_X6_pass_144 nn V S O K n N_165 U_165 L_165 B_165 v2 v3_168))))))))
def wl_X6_pass_58 (nn : Nat → Nat) (V : M2) (S : M2) (O : M2) (K : M2 → M2 → M2 → M2 → Prop) : Nat → M2 → M2 → M2 → M2 → Int32 → Prop
  | 0, _, _, _, _, _ => False
  | n + 1, N, U, L, B, v1 => (((Int32.ofNat (nn 4)) ≤ v1 → (∀ v2_141, v2_141 = Int32.ofNat (nn 4) → wl_X6_pass_144 nn V S O K fK N U L B v2_141 0)) ∧ (¬ (Int32.ofNat (nn 4)) ≤ v1 → wp_X6_canEnter nn V S O N U L B v1 (fun r_69 => ((¬ r_69 = 0 → (inb v1 (nn 4) ∧ (inb v1 (nn 4) ∧ ∀ B_86 : M2, B_86 = up2 B v1.toInt.toNat (upd (B v1.toInt.toNat) 3 1) → (inb v1 (nn 4) ∧ (inb v1 (nn 4) ∧ ∀ B_95 : M2, B_95 = up2 B_86 v1.toInt.toNat (upd (B_86 v1.toInt.toNat) 5 0) → (inb v1 (nn 4) ∧ (inb v1 (nn 4) ∧ (inb v1 (nn 4) ∧ ((¬ (B_95 v1.toInt.toNat 1) = 0 → wp_X6_come nn V S O N U L B_95 v1 ((Int32.ofNat (nn 1)) - 1) (fun N_125 U_125 L_125 B_125 => (∀ v1_128 : Int32, v1_128 = v1 + 1 → wl_X6_pass_58 nn V S O K n N_125 U_125 L_125 B_125 v1_128))) ∧ ((B_95 v1.toInt.toNat 1) = 0 → wp_X6_come nn V S O N U L B_95 v1 0 (fun N_125 U_125 L_125 B_125 => (∀ v1_128 : Int32, v1_128 = v1 + 1 → wl_X6_pass_58 nn V S O K n N_125 U_125 L_125 B_125 v1_128)))))))))))) ∧ (r_69 = 0 → (∀ v1_128 : Int32, v1_128 = v1 + 1 → wl_X6_pass_58 nn V S O K n N U L B v1_128))))))
def wl_X6_pass_10 (nn : Nat → Nat) (V : M2) (S : M2) (O : M2) (K : M2 → M2 → M2 → M2 → Prop) : Nat → M2 → M2 → M2 → M2 → Int32 → Int32 → Prop
  | 0, _, _, _, _, _, _ => False
  | n + 1, N, U, L, B, v2, v3 => ((v2 ≤ v3 → wl_X6_pass_58 nn V S O K fK N U L B 0) ∧ (¬ v2 ≤ v3 → (inb v3 (nn 5) ∧ (inb v3 (nn 5) ∧ ((¬ (O v3.toInt.toNat 0) = 0 → (∀ v3_50 : Int32, v3_50 = v3 + 1 → wl_X6_pass_10 nn V S O K n N U L B v2 v3_50)) ∧ ((O v3.toInt.toNat 0) = 0 → wp_X6_holds nn V S O N U L B v3 (fun r_30 => ((¬ r_30 = 0 → (inb v3 (nn 5) ∧ (∀ N_44 : M2, N_44 = up2 N 1 (fun _ => O v3.toInt.toNat 1) → wl_X6_pass_58 nn V S O K fK N_44 U L B 0))) ∧ (r_30 = 0 → (∀ v3_50 : Int32, v3_50 = v3 + 1 → wl_X6_pass_10 nn V S O K n N U L B v2 v3_50))))))))))
def wp_X6_pass (nn : Nat → Nat) (V : M2) (S : M2) (O : M2) (N : M2) (U : M2) (L : M2) (B : M2) (K : M2 → M2 → M2 → M2 → Prop) : Prop := (∀ v2_7, v2_7 = Int32.ofNat (nn 5) → wl_X6_pass_10 nn V S O K fK N U L B v2_7 0)
set_option maxRecDepth 100000 in
set_option maxHeartbeats 4000000 in
theorem c_X6_pass (l : Launch) (D : va_G) (Z : Nat → ClassId) (sa : Nat) (o : Nat → Nat) (ro : Nat → Nat → Nat) (nn : Nat → Nat) (V S O : M2) (N : M2) (U : M2) (L : M2) (B : M2) (sz : Nat) (K : M2 → M2 → M2 → M2 → Prop) (hm : wp_X6_pass nn V S O N U L B K) : Met l yX6_pass (wy yX6_pass cX6_pass 10 none) (rk 5 1 64) (pre vwCl D Z (SM Z sa o ro nn V S O N U L B) sz [.ref (sa)]) (poV vwCl D Z (fun u : M2 × M2 × M2 × M2 => SM Z sa o ro nn V S O u.1 u.2.1 u.2.2.1 u.2.2.2) (N, U, L, B) sz (fun (u : M2 × M2 × M2 × M2) => K u.1 u.2.1 u.2.2.1 u.2.2.2)) 1 64 (va_A (SM Z sa o ro nn V S O N U L B) sz) := by
  refine rwv_of (wsF := (fun u : M2 × M2 × M2 × M2 => SM Z sa o ro nn V S O u.1 u.2.1 u.2.2.1 u.2.2.2)) (u0 := (N, U, L, B)) (by decide +kernel) (Nat.le_of_ble_eq_true rfl) rfl ?_
  intro p e s m args below meth c Q A hC hN hsz hnm hT hK hret ls hl
  have hx := hC.1
  have hb := hC.2.1
  have hl : lv_has ls 10 [(0, .ref (sa))] := hl
  have hT : TS vwCl D (SM Z sa o ro nn V S O N U L B) A s.heap s.heap [] := hT
  have L515 : ∀ (n515 : Nat), ∀ (N : M2) (U : M2) (L : M2) (B : M2) (v3 : Int32) (v4 : Int32) (H : Heap) (locs : List Loc) (ls : Array Slot) (cc cs : Nat), wl_X6_pass_515 nn V S O K n515 N U L B v3 v4 → TS vwCl D (SM Z sa o ro nn V S O N U L B) A s.heap H locs → lv_has ls 10 [(0, .ref (sa)), (2, .ref (o 3)), (3, .int v3), (4, .int v4)] → cc + (n515 * 0 + 0) ≤ 1 ∧ cs + (n515 * 0 + 0) ≤ 64 → W p l e (rk 5 1 64) s m args below meth c H locs cc cs Q (F0 m 515 ls []) := by
    intro n515
    induction n515 with
    | zero =>
      intro N U L B v3 v4 H locs ls cc cs hm hT hl hcb
      exact False.elim hm
    | succ n515 ih515 =>
      intro N U L B v3 v4 H locs ls cc cs hm hT hl hcb
      refine lv_iload hx hb dX6_pass_515 (lv_at hl 3 rfl) ?_
      refine lv_iload_n hx hb dX6_pass_517 rfl (lv_at hl 2 rfl) ?_
      refine lv_icmp_ge (tgt := 554) hx hb dX6_pass_518 (by decide) (fun c_518 => ?_) (fun c_518 => ?_)
      · have hm := hm.1 c_518
        refine lv_aload_n hx hb dX6_pass_554 rfl (lv_at hl 0 rfl) ?_
        refine lv_dup hx hb dX6_pass_555 rfl ?_
        refine gSM_sim_0 hC hK hT.1 wq_1165 dX6_pass_556 ?_
        refine lv_iconst (v := 1) hx hb dX6_pass_559 (by decide) ?_
        refine lv_iadd hx hb dX6_pass_560 ?_
        refine pSM_sim_0 hC hK hT wq_1165 dX6_pass_561 (fun N_561 eN_561 H locs hT => ?_)
        have hm := hm N_561 eN_561
        refine W.widen (k := 1) (n := 64) (by omega) (by omega) ?_
        exact hret 564 _ _ _ (N_561, U, L, B) hm hT dX6_pass_564
      · have hm := hm.2 c_518
        refine lv_aload_n hx hb dX6_pass_521 rfl (lv_at hl 1 rfl) ?_
        refine lv_iload hx hb dX6_pass_522 (lv_at hl 3 rfl) ?_
        refine w_aaldR (q0 := 4) hC hK hT.1 rfl hm.1 dX6_pass_524 ?_
        have hm := hm.2
        refine lv_astore (lv' := [(5, .ref (ro 3 v4.toInt.toNat)), (0, .ref (sa)), (2, .ref (o 3)), (3, .int v3), (4, .int v4)]) hx hb dX6_pass_525 hl (by decide) rfl (fun ls hl => ?_)
        refine lv_aload hx hb dX6_pass_527 (lv_at hl 0 rfl) ?_
        refine lv_iconst (v := 4) hx hb dX6_pass_529 (by decide) ?_
        refine lv_aload hx hb dX6_pass_530 (lv_at hl 0 rfl) ?_
        refine lv_iconst (v := 4) hx hb dX6_pass_532 (by decide) ?_
        refine wr_ld (jn := 4) (f := (fun X => SM Z sa o ro nn V S O N U X B)) (sm_3 Z sa o ro nn V S O N U B) hC hK hT.1 hm.1 (by decide) rfl dX6_pass_533 ?_
        have hm := hm.2
        refine lv_if_le (tgt := 546) hx hb dX6_pass_534 (by decide) (fun c_534 => ?_) (fun c_534 => ?_)
        · have hm := hm.1 c_534
          refine lv_iconst (v := 0) hx hb dX6_pass_546 (by decide) ?_
          refine wr_st (jn := 4) (f := (fun X => SM Z sa o ro nn V S O N U X B)) (sm_3 Z sa o ro nn V S O N U B) hC hK hT hm.1 (by decide) rfl dX6_pass_547 (fun L_547 eL_547 H locs hT => ?_)
          have hm := hm.2 L_547 eL_547
          have hT : TS vwCl D (SM Z sa o ro nn V S O N U L_547 B) A s.heap H locs := hT
          obtain ⟨v4_548, ev4_548⟩ : ∃ y : Int32, y = v4 + 1 := ⟨_, rfl⟩
          have hm := hm v4_548 ev4_548
          refine lv_iinc (v := v4_548) (lv' := [(4, .int v4_548), (5, .ref (ro 3 v4.toInt.toNat)), (0, .ref (sa)), (2, .ref (o 3)), (3, .int v3)]) hx hb dX6_pass_548 hl (k := 4) rfl (by rw [ev4_548]; rfl) (by decide) rfl (fun ls hl => ?_)
          refine lv_goto (tgt := 515) hx hb dX6_pass_551 (by decide) ?_
          exact ih515 _ _ _ _ _ _ _ _ _ _ _ hm hT (lv_sub hl [2, 3, 4, 0] rfl) ⟨by omega, by omega⟩
        · have hm := hm.2 c_534
          refine lv_aload hx hb dX6_pass_537 (lv_at hl 0 rfl) ?_
          refine lv_iconst (v := 4) hx hb dX6_pass_539 (by decide) ?_
          refine wr_ld (jn := 4) (f := (fun X => SM Z sa o ro nn V S O N U X B)) (sm_3 Z sa o ro nn V S O N U B) hC hK hT.1 hm.1 (by decide) rfl dX6_pass_540 ?_
          have hm := hm.2
          refine lv_iconst (v := 1) hx hb dX6_pass_541 (by decide) ?_
          refine lv_isub hx hb dX6_pass_542 ?_
          refine lv_goto (tgt := 547) hx hb dX6_pass_543 (by decide) ?_
          refine wr_st (jn := 4) (f := (fun X => SM Z sa o ro nn V S O N U X B)) (sm_3 Z sa o ro nn V S O N U B) hC hK hT hm.1 (by decide) rfl dX6_pass_547 (fun L_547 eL_547 H locs hT => ?_)
          have hm := hm.2 L_547 eL_547
          have hT : TS vwCl D (SM Z sa o ro nn V S O N U L_547 B) A s.heap H locs := hT
          obtain ⟨v4_548, ev4_548⟩ : ∃ y : Int32, y = v4 + 1 := ⟨_, rfl⟩
          have hm := hm v4_548 ev4_548
          refine lv_iinc (v := v4_548) (lv' := [(4, .int v4_548), (5, .ref (ro 3 v4.toInt.toNat)), (0, .ref (sa)), (2, .ref (o 3)), (3, .int v3)]) hx hb dX6_pass_548 hl (k := 4) rfl (by rw [ev4_548]; rfl) (by decide) rfl (fun ls hl => ?_)
          refine lv_goto (tgt := 515) hx hb dX6_pass_551 (by decide) ?_
          exact ih515 _ _ _ _ _ _ _ _ _ _ _ hm hT (lv_sub hl [2, 3, 4, 0] rfl) ⟨by omega, by omega⟩
  have L384 : ∀ (n384 : Nat), ∀ (N : M2) (U : M2) (L : M2) (B : M2) (v3 : Int32) (v4 : Int32) (H : Heap) (locs : List Loc) (ls : Array Slot) (cc cs : Nat), wl_X6_pass_384 nn V S O K n384 N U L B v3 v4 → TS vwCl D (SM Z sa o ro nn V S O N U L B) A s.heap H locs → lv_has ls 10 [(0, .ref (sa)), (2, .ref (o 2)), (3, .int v3), (4, .int v4)] → cc + (n384 * 0 + 0) ≤ 1 ∧ cs + (n384 * 0 + 0) ≤ 64 → W p l e (rk 5 1 64) s m args below meth c H locs cc cs Q (F0 m 384 ls []) := by
    intro n384
    induction n384 with
    | zero =>
      intro N U L B v3 v4 H locs ls cc cs hm hT hl hcb
      exact False.elim hm
    | succ n384 ih384 =>
      have L399 : ∀ (n399 : Nat), ∀ (N : M2) (U : M2) (L : M2) (B : M2) (v3 : Int32) (v4 : Int32) (v5 : Int32) (v6 : Int32) (H : Heap) (locs : List Loc) (ls : Array Slot) (cc cs : Nat), wl_X6_pass_399 nn V S O (wl_X6_pass_384 nn V S O K n384) K n399 N U L B v3 v4 v5 v6 → TS vwCl D (SM Z sa o ro nn V S O N U L B) A s.heap H locs → lv_has ls 10 [(0, .ref (sa)), (2, .ref (o 2)), (3, .int v3), (4, .int v4), (5, .ref (ro 2 v5.toInt.toNat)), (6, .int v6)] → cc + (n399 * 0 + 0 + n384 * 0 + 0) ≤ 1 ∧ cs + (n399 * 0 + 0 + n384 * 0 + 0) ≤ 64 → W p l e (rk 5 1 64) s m args below meth c H locs cc cs Q (F0 m 399 ls []) := by
        intro n399
        induction n399 with
        | zero =>
          intro N U L B v3 v4 v5 v6 H locs ls cc cs hm hT hl hcb
          exact False.elim hm
        | succ n399 ih399 =>
          have L452 : ∀ (n452 : Nat), ∀ (N : M2) (U : M2) (L : M2) (B : M2) (v3 : Int32) (v4 : Int32) (v5 : Int32) (v6 : Int32) (v8 : Int32) (v9 : Int32) (H : Heap) (locs : List Loc) (ls : Array Slot) (cc cs : Nat), wl_X6_pass_452 nn V S O (wl_X6_pass_384 nn V S O K n384) (wl_X6_pass_399 nn V S O (wl_X6_pass_384 nn V S O K n384) K n399) K n452 N U L B v3 v4 v5 v6 v8 v9 → TS vwCl D (SM Z sa o ro nn V S O N U L B) A s.heap H locs → lv_has ls 10 [(0, .ref (sa)), (2, .ref (o 2)), (3, .int v3), (4, .int v4), (5, .ref (ro 2 v5.toInt.toNat)), (6, .int v6), (8, .int v8), (9, .int v9)] → cc + (n452 * 0 + 0 + n384 * 0 + 0 + n399 * 0 + 0) ≤ 1 ∧ cs + (n452 * 0 + 0 + n384 * 0 + 0 + n399 * 0 + 0) ≤ 64 → W p l e (rk 5 1 64) s m args below meth c H locs cc cs Q (F0 m 452 ls []) := by
            intro n452
            induction n452 with
            | zero =>
              intro N U L B v3 v4 v5 v6 v8 v9 H locs ls cc cs hm hT hl hcb
              exact False.elim hm
            | succ n452 ih452 =>
              intro N U L B v3 v4 v5 v6 v8 v9 H locs ls cc cs hm hT hl hcb
              refine lv_iload hx hb dX6_pass_452 (lv_at hl 7 rfl) ?_
              refine lv_iload hx hb dX6_pass_454 (lv_at hl 6 rfl) ?_
              refine lv_icmp_ge (tgt := 492) hx hb dX6_pass_456 (by decide) (fun c_456 => ?_) (fun c_456 => ?_)
              · have hm := hm.1 c_456
                obtain ⟨v6_492, ev6_492⟩ : ∃ y : Int32, y = v6 + 1 := ⟨_, rfl⟩
                have hm := hm v6_492 ev6_492
                refine lv_iinc (v := v6_492) (lv' := [(6, .int v6_492), (0, .ref (sa)), (2, .ref (o 2)), (3, .int v3), (4, .int v4), (5, .ref (ro 2 v5.toInt.toNat)), (8, .int v8), (9, .int v9)]) hx hb dX6_pass_492 hl (k := 5) rfl (by rw [ev6_492]; rfl) (by decide) rfl (fun ls hl => ?_)
                refine lv_goto (tgt := 399) hx hb dX6_pass_495 (by decide) ?_
                exact ih399 _ _ _ _ _ _ _ _ _ _ _ _ _ hm hT (lv_sub hl [1, 2, 3, 4, 5, 0] rfl) ⟨by omega, by omega⟩
              · have hm := hm.2 c_456
                refine lv_aload_n hx hb dX6_pass_459 rfl (lv_at hl 0 rfl) ?_
                refine gSM_sim_3 hC hK hT.1 wq_1171 dX6_pass_460 ?_
                refine lv_iload hx hb dX6_pass_463 (lv_at hl 5 rfl) ?_
                refine w_aaldR (q0 := 2) hC hK hT.1 rfl hm.1 dX6_pass_465 ?_
                have hm := hm.2
                refine lv_iconst (v := 1) hx hb dX6_pass_466 (by decide) ?_
                refine wr_ld (jn := 1) (f := (fun X => SM Z sa o ro nn V S O N X L B)) (sm_1 Z sa o ro nn V S O N L B) hC hK hT.1 hm.1 (by decide) rfl dX6_pass_467 ?_
                have hm := hm.2
                refine lv_bipush (v := 100) hx hb dX6_pass_468 (by decide) ?_
                refine lv_icmp_ge (tgt := 492) hx hb dX6_pass_470 (by decide) (fun c_470 => ?_) (fun c_470 => ?_)
                · have hm := hm.1 c_470
                  obtain ⟨v6_492, ev6_492⟩ : ∃ y : Int32, y = v6 + 1 := ⟨_, rfl⟩
                  have hm := hm v6_492 ev6_492
                  refine lv_iinc (v := v6_492) (lv' := [(6, .int v6_492), (0, .ref (sa)), (2, .ref (o 2)), (3, .int v3), (4, .int v4), (5, .ref (ro 2 v5.toInt.toNat)), (8, .int v8), (9, .int v9)]) hx hb dX6_pass_492 hl (k := 5) rfl (by rw [ev6_492]; rfl) (by decide) rfl (fun ls hl => ?_)
                  refine lv_goto (tgt := 399) hx hb dX6_pass_495 (by decide) ?_
                  exact ih399 _ _ _ _ _ _ _ _ _ _ _ _ _ hm hT (lv_sub hl [1, 2, 3, 4, 5, 0] rfl) ⟨by omega, by omega⟩
                · have hm := hm.2 c_470
                  refine lv_aload_n hx hb dX6_pass_473 rfl (lv_at hl 0 rfl) ?_
                  refine gSM_sim_3 hC hK hT.1 wq_1171 dX6_pass_474 ?_
                  refine lv_iload hx hb dX6_pass_477 (lv_at hl 5 rfl) ?_
                  refine w_aaldR (q0 := 2) hC hK hT.1 rfl hm.1 dX6_pass_479 ?_
                  have hm := hm.2
                  refine lv_iconst (v := 1) hx hb dX6_pass_480 (by decide) ?_
                  refine lv_dup2_11 hx hb dX6_pass_481 rfl rfl ?_
                  refine wr_ld (jn := 1) (f := (fun X => SM Z sa o ro nn V S O N X L B)) (sm_1 Z sa o ro nn V S O N L B) hC hK hT.1 hm.1 (by decide) rfl dX6_pass_482 ?_
                  have hm := hm.2
                  refine lv_iconst (v := 1) hx hb dX6_pass_483 (by decide) ?_
                  refine lv_iadd hx hb dX6_pass_484 ?_
                  refine wr_st (jn := 1) (f := (fun X => SM Z sa o ro nn V S O N X L B)) (sm_1 Z sa o ro nn V S O N L B) hC hK hT hm.1 (by decide) rfl dX6_pass_485 (fun U_485 eU_485 H locs hT => ?_)
                  have hm := hm.2 U_485 eU_485
                  have hT : TS vwCl D (SM Z sa o ro nn V S O N U_485 L B) A s.heap H locs := hT
                  obtain ⟨v9_486, ev9_486⟩ : ∃ y : Int32, y = v9 + 1 := ⟨_, rfl⟩
                  have hm := hm v9_486 ev9_486
                  refine lv_iinc (v := v9_486) (lv' := [(9, .int v9_486), (0, .ref (sa)), (2, .ref (o 2)), (3, .int v3), (4, .int v4), (5, .ref (ro 2 v5.toInt.toNat)), (6, .int v6), (8, .int v8)]) hx hb dX6_pass_486 hl (k := 7) rfl (by rw [ev9_486]; rfl) (by decide) rfl (fun ls hl => ?_)
                  refine lv_goto (tgt := 452) hx hb dX6_pass_489 (by decide) ?_
                  exact ih452 _ _ _ _ _ _ _ _ _ _ _ _ _ _ _ hm hT (lv_sub hl [1, 2, 3, 4, 5, 6, 7, 0] rfl) ⟨by omega, by omega⟩
          have L435 : ∀ (N : M2) (U : M2) (L : M2) (B : M2) (v3 : Int32) (v4 : Int32) (v5 : Int32) (v6 : Int32) (q0 : Int32) (H : Heap) (locs : List Loc) (ls : Array Slot) (cc cs : Nat), wj_X6_pass_435 nn V S O (wl_X6_pass_384 nn V S O K n384) (wl_X6_pass_399 nn V S O (wl_X6_pass_384 nn V S O K n384) K n399) K N U L B v3 v4 v5 v6 q0 → TS vwCl D (SM Z sa o ro nn V S O N U L B) A s.heap H locs → lv_has ls 10 [(0, .ref (sa)), (2, .ref (o 2)), (3, .int v3), (4, .int v4), (5, .ref (ro 2 v5.toInt.toNat)), (6, .int v6)] → cc + (0 + n384 * 0 + 0 + n399 * 0 + 0) ≤ 1 ∧ cs + (0 + n384 * 0 + 0 + n399 * 0 + 0) ≤ 64 → W p l e (rk 5 1 64) s m args below meth c H locs cc cs Q (F0 m 435 ls [.int q0]) := by
            intro N U L B v3 v4 v5 v6 q0 H locs ls cc cs hm hT hl hcb
            refine lv_istore (lv' := [(7, .int q0), (0, .ref (sa)), (2, .ref (o 2)), (3, .int v3), (4, .int v4), (5, .ref (ro 2 v5.toInt.toNat)), (6, .int v6)]) hx hb dX6_pass_435 hl (by decide) rfl (fun ls hl => ?_)
            refine lv_aload hx hb dX6_pass_437 (lv_at hl 5 rfl) ?_
            refine lv_iconst (v := 1) hx hb dX6_pass_439 (by decide) ?_
            refine wr_ld (jn := 1) (f := (fun X => SM Z sa o ro nn V X O N U L B)) (sm_2 Z sa o ro nn V O N U L B) hC hK hT.1 hm.1 (by decide) rfl dX6_pass_440 ?_
            have hm := hm.2
            refine lv_iload hx hb dX6_pass_441 (lv_at hl 0 rfl) ?_
            refine lv_isub hx hb dX6_pass_443 ?_
            refine lv_iload hx hb dX6_pass_444 (lv_at hl 0 rfl) ?_
            refine lv_isub hx hb dX6_pass_446 ?_
            refine lv_topi (fun v8_447 ev8_447 => ?_)
            have hm := hm v8_447 ev8_447
            refine lv_istore (lv' := [(8, .int v8_447), (7, .int q0), (0, .ref (sa)), (2, .ref (o 2)), (3, .int v3), (4, .int v4), (5, .ref (ro 2 v5.toInt.toNat)), (6, .int v6)]) hx hb dX6_pass_447 hl (by decide) rfl (fun ls hl => ?_)
            refine lv_iconst (v := 0) hx hb dX6_pass_449 (by decide) ?_
            refine lv_istore (lv' := [(9, .int 0), (8, .int v8_447), (7, .int q0), (0, .ref (sa)), (2, .ref (o 2)), (3, .int v3), (4, .int v4), (5, .ref (ro 2 v5.toInt.toNat)), (6, .int v6)]) hx hb dX6_pass_450 hl (by decide) rfl (fun ls hl => ?_)
            exact L452 _ _ _ _ _ _ _ _ _ _ _ _ _ _ _ _ hm hT (lv_sub hl [3, 4, 5, 6, 7, 8, 1, 0] rfl) ⟨by omega, by omega⟩
          intro N U L B v3 v4 v5 v6 H locs ls cc cs hm hT hl hcb
          refine lv_iload hx hb dX6_pass_399 (lv_at hl 5 rfl) ?_
          refine lv_aload_n hx hb dX6_pass_401 rfl (lv_at hl 0 rfl) ?_
          refine gSM_sim_3 hC hK hT.1 wq_1171 dX6_pass_402 ?_
          refine w_alen (q0 := 2) (t0 := 3) hC hK hT.1 rfl rfl dX6_pass_405 ?_
          refine lv_icmp_ge (tgt := 498) hx hb dX6_pass_406 (by decide) (fun c_406 => ?_) (fun c_406 => ?_)
          · have hm := hm.1 c_406
            obtain ⟨v4_498, ev4_498⟩ : ∃ y : Int32, y = v4 + 1 := ⟨_, rfl⟩
            have hm := hm v4_498 ev4_498
            refine lv_iinc (v := v4_498) (lv' := [(4, .int v4_498), (0, .ref (sa)), (2, .ref (o 2)), (3, .int v3), (5, .ref (ro 2 v5.toInt.toNat)), (6, .int v6)]) hx hb dX6_pass_498 hl (k := 3) rfl (by rw [ev4_498]; rfl) (by decide) rfl (fun ls hl => ?_)
            refine lv_goto (tgt := 384) hx hb dX6_pass_501 (by decide) ?_
            exact ih384 _ _ _ _ _ _ _ _ _ _ _ hm hT (lv_sub hl [1, 2, 3, 0] rfl) ⟨by omega, by omega⟩
          · have hm := hm.2 c_406
            refine lv_iload hx hb dX6_pass_409 (lv_at hl 5 rfl) ?_
            refine lv_aload hx hb dX6_pass_411 (lv_at hl 4 rfl) ?_
            refine lv_iconst (v := 0) hx hb dX6_pass_413 (by decide) ?_
            refine wr_ld (jn := 0) (f := (fun X => SM Z sa o ro nn V X O N U L B)) (sm_2 Z sa o ro nn V O N U L B) hC hK hT.1 hm.1 (by decide) rfl dX6_pass_414 ?_
            have hm := hm.2
            refine lv_icmp_le (tgt := 428) hx hb dX6_pass_415 (by decide) (fun c_415 => ?_) (fun c_415 => ?_)
            · have hm := hm.1 c_415
              refine lv_aload hx hb dX6_pass_428 (lv_at hl 4 rfl) ?_
              refine lv_iconst (v := 0) hx hb dX6_pass_430 (by decide) ?_
              refine wr_ld (jn := 0) (f := (fun X => SM Z sa o ro nn V X O N U L B)) (sm_2 Z sa o ro nn V O N U L B) hC hK hT.1 hm.1 (by decide) rfl dX6_pass_431 ?_
              have hm := hm.2
              refine lv_iload hx hb dX6_pass_432 (lv_at hl 5 rfl) ?_
              refine lv_isub hx hb dX6_pass_434 ?_
              exact L435 _ _ _ _ _ _ _ _ _ _ _ _ _ _ hm hT (lv_sub hl [0, 1, 2, 3, 4, 5] rfl) ⟨by omega, by omega⟩
            · have hm := hm.2 c_415
              refine lv_iload hx hb dX6_pass_418 (lv_at hl 5 rfl) ?_
              refine lv_aload hx hb dX6_pass_420 (lv_at hl 4 rfl) ?_
              refine lv_iconst (v := 0) hx hb dX6_pass_422 (by decide) ?_
              refine wr_ld (jn := 0) (f := (fun X => SM Z sa o ro nn V X O N U L B)) (sm_2 Z sa o ro nn V O N U L B) hC hK hT.1 hm.1 (by decide) rfl dX6_pass_423 ?_
              have hm := hm.2
              refine lv_isub hx hb dX6_pass_424 ?_
              refine lv_goto (tgt := 435) hx hb dX6_pass_425 (by decide) ?_
              exact L435 _ _ _ _ _ _ _ _ _ _ _ _ _ _ hm hT (lv_sub hl [0, 1, 2, 3, 4, 5] rfl) ⟨by omega, by omega⟩
      intro N U L B v3 v4 H locs ls cc cs hm hT hl hcb
      refine lv_iload hx hb dX6_pass_384 (lv_at hl 3 rfl) ?_
      refine lv_iload_n hx hb dX6_pass_386 rfl (lv_at hl 2 rfl) ?_
      refine lv_icmp_ge (tgt := 504) hx hb dX6_pass_387 (by decide) (fun c_387 => ?_) (fun c_387 => ?_)
      · have hm := hm.1 c_387
        refine lv_aload_n hx hb dX6_pass_504 rfl (lv_at hl 0 rfl) ?_
        refine gSM_sim_5 hC hK hT.1 wq_1175 dX6_pass_505 ?_
        refine lv_astore_n (lv' := [(2, .ref (o 3)), (0, .ref (sa)), (3, .int v3), (4, .int v4)]) hx hb dX6_pass_508 rfl hl (by decide) rfl (fun ls hl => ?_)
        refine lv_aload_n hx hb dX6_pass_509 rfl (lv_at hl 0 rfl) ?_
        refine w_alen (q0 := 4) (t0 := 3) hC hK hT.1 rfl rfl dX6_pass_510 ?_
        refine lv_topi (fun v3_511 ev3_511 => ?_)
        have hm := hm v3_511 ev3_511
        refine lv_istore_n (lv' := [(3, .int v3_511), (2, .ref (o 3)), (0, .ref (sa)), (4, .int v4)]) hx hb dX6_pass_511 rfl hl (by decide) rfl (fun ls hl => ?_)
        refine lv_iconst (v := 0) hx hb dX6_pass_512 (by decide) ?_
        refine lv_istore (lv' := [(4, .int 0), (3, .int v3_511), (2, .ref (o 3)), (0, .ref (sa))]) hx hb dX6_pass_513 hl (by decide) rfl (fun ls hl => ?_)
        exact L515 _ _ _ _ _ _ _ _ _ _ _ _ hm hT (lv_sub hl [3, 2, 1, 0] rfl) ⟨by omega, by omega⟩
      · have hm := hm.2 c_387
        refine lv_aload_n hx hb dX6_pass_390 rfl (lv_at hl 1 rfl) ?_
        refine lv_iload hx hb dX6_pass_391 (lv_at hl 3 rfl) ?_
        refine w_aaldR (q0 := 3) hC hK hT.1 rfl hm.1 dX6_pass_393 ?_
        have hm := hm.2
        refine lv_astore (lv' := [(5, .ref (ro 2 v4.toInt.toNat)), (0, .ref (sa)), (2, .ref (o 2)), (3, .int v3), (4, .int v4)]) hx hb dX6_pass_394 hl (by decide) rfl (fun ls hl => ?_)
        refine lv_iconst (v := 0) hx hb dX6_pass_396 (by decide) ?_
        refine lv_istore (lv' := [(6, .int 0), (5, .ref (ro 2 v4.toInt.toNat)), (0, .ref (sa)), (2, .ref (o 2)), (3, .int v3), (4, .int v4)]) hx hb dX6_pass_397 hl (by decide) rfl (fun ls hl => ?_)
        exact L399 _ _ _ _ _ _ _ _ _ _ _ _ _ _ hm hT (lv_sub hl [2, 3, 4, 5, 1, 0] rfl) ⟨by omega, by omega⟩
  have L314 : ∀ (n314 : Nat), ∀ (N : M2) (U : M2) (L : M2) (B : M2) (e179 : (Nat → Int32)) (v2 : Int32) (ae179 : Nat) (H : Heap) (locs : List Loc) (ls : Array Slot) (cc cs : Nat), wl_X6_pass_314 nn V S O K n314 N U L B e179 v2 → TS vwCl D ([(ae179, .inl (Z 0, nn 3, .inl e179))] ++ (SM Z sa o ro nn V S O N U L B)) A s.heap H locs → lv_has ls 10 [(0, .ref (sa)), (1, .ref ae179), (2, .int v2)] → cc + (n314 * 0 + 0) ≤ 1 ∧ cs + (n314 * 0 + 0) ≤ 64 → W p l e (rk 5 1 64) s m args below meth c H locs cc cs Q (F0 m 314 ls []) := by
    intro n314
    induction n314 with
    | zero =>
      intro N U L B e179 v2 ae179 H locs ls cc cs hm hT hl hcb
      exact False.elim hm
    | succ n314 ih314 =>
      have L346 : ∀ (N : M2) (U : M2) (L : M2) (B : M2) (e179 : (Nat → Int32)) (v2 : Int32) (v3 : Int32) (ae179 : Nat) (H : Heap) (locs : List Loc) (ls : Array Slot) (cc cs : Nat), wj_X6_pass_346 nn V S O (wl_X6_pass_314 nn V S O K n314) K N U L B e179 v2 v3 → TS vwCl D ([(ae179, .inl (Z 0, nn 3, .inl e179))] ++ (SM Z sa o ro nn V S O N U L B)) A s.heap H locs → lv_has ls 10 [(0, .ref (sa)), (1, .ref ae179), (2, .int v2), (3, .ref (ro 3 v3.toInt.toNat))] → cc + (0 + n314 * 0 + 0) ≤ 1 ∧ cs + (0 + n314 * 0 + 0) ≤ 64 → W p l e (rk 5 1 64) s m args below meth c H locs cc cs Q (F0 m 346 ls []) := by
        intro N U L B e179 v2 v3 ae179 H locs ls cc cs hm hT hl hcb
        refine lv_aload_n hx hb dX6_pass_346 rfl (lv_at hl 3 rfl) ?_
        refine lv_iconst (v := 2) hx hb dX6_pass_347 (by decide) ?_
        refine wr_ld (jn := 2) (f := (fun X => [(ae179, .inl (Z 0, nn 3, .inl e179))] ++ SM Z sa o ro nn V S O N U X B)) (sm_pre (sm_3 Z sa o ro nn V S O N U B) _) hC hK hT.1 hm.1 (by decide) rfl dX6_pass_348 ?_
        have hm := hm.2
        refine lv_bipush (v := 10) hx hb dX6_pass_349 (by decide) ?_
        refine lv_aload_n hx hb dX6_pass_351 rfl (lv_at hl 3 rfl) ?_
        refine lv_iconst (v := 1) hx hb dX6_pass_352 (by decide) ?_
        refine wr_ld (jn := 1) (f := (fun X => [(ae179, .inl (Z 0, nn 3, .inl e179))] ++ SM Z sa o ro nn V S O N U X B)) (sm_pre (sm_3 Z sa o ro nn V S O N U B) _) hC hK hT.1 hm.1 (by decide) rfl dX6_pass_353 ?_
        have hm := hm.2
        refine lv_imul hx hb dX6_pass_354 ?_
        refine lv_icmp_le (tgt := 367) hx hb dX6_pass_355 (by decide) (fun c_355 => ?_) (fun c_355 => ?_)
        · have hm := hm.1 c_355
          obtain ⟨v2_367, ev2_367⟩ : ∃ y : Int32, y = v2 + 1 := ⟨_, rfl⟩
          have hm := hm v2_367 ev2_367
          refine lv_iinc (v := v2_367) (lv' := [(2, .int v2_367), (0, .ref (sa)), (1, .ref ae179), (3, .ref (ro 3 v3.toInt.toNat))]) hx hb dX6_pass_367 hl (k := 2) rfl (by rw [ev2_367]; rfl) (by decide) rfl (fun ls hl => ?_)
          refine lv_goto (tgt := 314) hx hb dX6_pass_370 (by decide) ?_
          exact ih314 _ _ _ _ _ _ _ _ _ _ _ _ hm hT (lv_sub hl [1, 2, 0] rfl) ⟨by omega, by omega⟩
        · have hm := hm.2 c_355
          refine lv_aload_n hx hb dX6_pass_358 rfl (lv_at hl 3 rfl) ?_
          refine lv_iconst (v := 2) hx hb dX6_pass_359 (by decide) ?_
          refine lv_bipush (v := 10) hx hb dX6_pass_360 (by decide) ?_
          refine lv_aload_n hx hb dX6_pass_362 rfl (lv_at hl 3 rfl) ?_
          refine lv_iconst (v := 1) hx hb dX6_pass_363 (by decide) ?_
          refine wr_ld (jn := 1) (f := (fun X => [(ae179, .inl (Z 0, nn 3, .inl e179))] ++ SM Z sa o ro nn V S O N U X B)) (sm_pre (sm_3 Z sa o ro nn V S O N U B) _) hC hK hT.1 hm.1 (by decide) rfl dX6_pass_364 ?_
          have hm := hm.2
          refine lv_imul hx hb dX6_pass_365 ?_
          refine wr_st (jn := 2) (f := (fun X => [(ae179, .inl (Z 0, nn 3, .inl e179))] ++ SM Z sa o ro nn V S O N U X B)) (sm_pre (sm_3 Z sa o ro nn V S O N U B) _) hC hK hT hm.1 (by decide) rfl dX6_pass_366 (fun L_366 eL_366 H locs hT => ?_)
          have hm := hm.2 L_366 eL_366
          have hT : TS vwCl D ([(ae179, .inl (Z 0, nn 3, .inl e179))] ++ (SM Z sa o ro nn V S O N U L_366 B)) A s.heap H locs := hT
          obtain ⟨v2_367, ev2_367⟩ : ∃ y : Int32, y = v2 + 1 := ⟨_, rfl⟩
          have hm := hm v2_367 ev2_367
          refine lv_iinc (v := v2_367) (lv' := [(2, .int v2_367), (0, .ref (sa)), (1, .ref ae179), (3, .ref (ro 3 v3.toInt.toNat))]) hx hb dX6_pass_367 hl (k := 2) rfl (by rw [ev2_367]; rfl) (by decide) rfl (fun ls hl => ?_)
          refine lv_goto (tgt := 314) hx hb dX6_pass_370 (by decide) ?_
          exact ih314 _ _ _ _ _ _ _ _ _ _ _ _ hm hT (lv_sub hl [1, 2, 0] rfl) ⟨by omega, by omega⟩
      intro N U L B e179 v2 ae179 H locs ls cc cs hm hT hl hcb
      refine lv_iload_n hx hb dX6_pass_314 rfl (lv_at hl 2 rfl) ?_
      refine lv_aload_n hx hb dX6_pass_315 rfl (lv_at hl 1 rfl) ?_
      refine w_alen (q0 := 0) (t0 := 0) hC hK hT.1 rfl rfl dX6_pass_316 ?_
      refine lv_icmp_ge (tgt := 373) hx hb dX6_pass_317 (by decide) (fun c_317 => ?_) (fun c_317 => ?_)
      · have hm := hm.1 c_317
        refine lv_aload_n hx hb dX6_pass_373 rfl (lv_at hl 0 rfl) ?_
        refine w_get (C := RX6) (T := TX6) (N := 9) (ci := 6) (q0 := 1) (k := 4) hC hK hT.1 fi_X6 rfl rfl rfl (by decide) rfl wq_1173 dX6_pass_374 ?_
        refine lv_astore_n (lv' := [(2, .ref (o 2)), (0, .ref (sa)), (1, .ref ae179)]) hx hb dX6_pass_377 rfl hl (by decide) rfl (fun ls hl => ?_)
        refine lv_aload_n hx hb dX6_pass_378 rfl (lv_at hl 0 rfl) ?_
        refine w_alen (q0 := 4) (t0 := 3) hC hK hT.1 rfl rfl dX6_pass_379 ?_
        refine lv_topi (fun v3_380 ev3_380 => ?_)
        have hm := hm v3_380 ev3_380
        refine lv_istore_n (lv' := [(3, .int v3_380), (2, .ref (o 2)), (0, .ref (sa)), (1, .ref ae179)]) hx hb dX6_pass_380 rfl hl (by decide) rfl (fun ls hl => ?_)
        refine lv_iconst (v := 0) hx hb dX6_pass_381 (by decide) ?_
        refine lv_istore (lv' := [(4, .int 0), (3, .int v3_380), (2, .ref (o 2)), (0, .ref (sa)), (1, .ref ae179)]) hx hb dX6_pass_382 hl (by decide) rfl (fun ls hl => ?_)
        have hT : TS vwCl D (SM Z sa o ro nn V S O N U L B) A s.heap _ _ := hT.sub (List.Sublist.cons _ (List.Sublist.refl _))
        exact L384 _ _ _ _ _ _ _ _ _ _ _ _ hm hT (lv_sub hl [3, 2, 1, 0] rfl) ⟨by omega, by omega⟩
      · have hm := hm.2 c_317
        refine lv_aload_n hx hb dX6_pass_320 rfl (lv_at hl 0 rfl) ?_
        refine w_get (C := RX6) (T := TX6) (N := 9) (ci := 6) (q0 := 1) (k := 5) hC hK hT.1 fi_X6 rfl rfl rfl (by decide) rfl wq_1175 dX6_pass_321 ?_
        refine lv_iload_n hx hb dX6_pass_324 rfl (lv_at hl 2 rfl) ?_
        refine w_aaldR (q0 := 5) hC hK hT.1 rfl hm.1 dX6_pass_325 ?_
        have hm := hm.2
        refine lv_astore_n (lv' := [(3, .ref (ro 3 v2.toInt.toNat)), (0, .ref (sa)), (1, .ref ae179), (2, .int v2)]) hx hb dX6_pass_326 rfl hl (by decide) rfl (fun ls hl => ?_)
        refine lv_aload_n hx hb dX6_pass_327 rfl (lv_at hl 0 rfl) ?_
        refine lv_iconst (v := 2) hx hb dX6_pass_328 (by decide) ?_
        refine lv_dup2_11 hx hb dX6_pass_329 rfl rfl ?_
        refine wr_ld (jn := 2) (f := (fun X => [(ae179, .inl (Z 0, nn 3, .inl e179))] ++ SM Z sa o ro nn V S O N U X B)) (sm_pre (sm_3 Z sa o ro nn V S O N U B) _) hC hK hT.1 hm.1 (by decide) rfl dX6_pass_330 ?_
        have hm := hm.2
        refine lv_aload_n hx hb dX6_pass_331 rfl (lv_at hl 2 rfl) ?_
        refine lv_iload_n hx hb dX6_pass_332 rfl (lv_at hl 3 rfl) ?_
        refine w_iald (q0 := 0) hC hK hT.1 rfl hm.1 dX6_pass_333 ?_
        have hm := hm.2
        refine lv_iadd hx hb dX6_pass_334 ?_
        refine wr_st (jn := 2) (f := (fun X => [(ae179, .inl (Z 0, nn 3, .inl e179))] ++ SM Z sa o ro nn V S O N U X B)) (sm_pre (sm_3 Z sa o ro nn V S O N U B) _) hC hK hT hm.1 (by decide) rfl dX6_pass_335 (fun L_335 eL_335 H locs hT => ?_)
        have hm := hm.2 L_335 eL_335
        have hT : TS vwCl D ([(ae179, .inl (Z 0, nn 3, .inl e179))] ++ (SM Z sa o ro nn V S O N U L_335 B)) A s.heap H locs := hT
        refine lv_aload_n hx hb dX6_pass_336 rfl (lv_at hl 0 rfl) ?_
        refine lv_iconst (v := 2) hx hb dX6_pass_337 (by decide) ?_
        refine wr_ld (jn := 2) (f := (fun X => [(ae179, .inl (Z 0, nn 3, .inl e179))] ++ SM Z sa o ro nn V S O N U X B)) (sm_pre (sm_3 Z sa o ro nn V S O N U B) _) hC hK hT.1 hm.1 (by decide) rfl dX6_pass_338 ?_
        have hm := hm.2
        refine lv_if_ge (tgt := 346) hx hb dX6_pass_339 (by decide) (fun c_339 => ?_) (fun c_339 => ?_)
        · have hm := hm.1 c_339
          exact L346 _ _ _ _ _ _ _ _ _ _ _ _ _ hm hT (lv_sub hl [1, 2, 3, 0] rfl) ⟨by omega, by omega⟩
        · have hm := hm.2 c_339
          refine lv_aload_n hx hb dX6_pass_342 rfl (lv_at hl 0 rfl) ?_
          refine lv_iconst (v := 2) hx hb dX6_pass_343 (by decide) ?_
          refine lv_iconst (v := 0) hx hb dX6_pass_344 (by decide) ?_
          refine wr_st (jn := 2) (f := (fun X => [(ae179, .inl (Z 0, nn 3, .inl e179))] ++ SM Z sa o ro nn V S O N U X B)) (sm_pre (sm_3 Z sa o ro nn V S O N U B) _) hC hK hT hm.1 (by decide) rfl dX6_pass_345 (fun L_345 eL_345 H locs hT => ?_)
          have hm := hm.2 L_345 eL_345
          have hT : TS vwCl D ([(ae179, .inl (Z 0, nn 3, .inl e179))] ++ (SM Z sa o ro nn V S O N U L_345 B)) A s.heap H locs := hT
          exact L346 _ _ _ _ _ _ _ _ _ _ _ _ _ hm hT (lv_sub hl [1, 2, 3, 0] rfl) ⟨by omega, by omega⟩
  have L198 : ∀ (n198 : Nat), ∀ (N : M2) (U : M2) (L : M2) (B : M2) (e179 : (Nat → Int32)) (v3 : Int32) (v4 : Int32) (ae179 : Nat) (H : Heap) (locs : List Loc) (ls : Array Slot) (cc cs : Nat), wl_X6_pass_198 nn V S O K n198 N U L B e179 v3 v4 → TS vwCl D ([(ae179, .inl (Z 0, nn 3, .inl e179))] ++ (SM Z sa o ro nn V S O N U L B)) A s.heap H locs → lv_has ls 10 [(0, .ref (sa)), (1, .ref ae179), (2, .ref (o 4)), (3, .int v3), (4, .int v4)] → cc + (n198 * 0 + 0) ≤ 1 ∧ cs + (n198 * 0 + 0) ≤ 64 → W p l e (rk 5 1 64) s m args below meth c H locs cc cs Q (F0 m 198 ls []) := by
    intro n198
    induction n198 with
    | zero =>
      intro N U L B e179 v3 v4 ae179 H locs ls cc cs hm hT hl hcb
      exact False.elim hm
    | succ n198 ih198 =>
      have L269 : ∀ (n269 : Nat), ∀ (N : M2) (U : M2) (L : M2) (B : M2) (e179 : (Nat → Int32)) (v3 : Int32) (v4 : Int32) (v5 : Int32) (v7 : Int32) (v8 : Int32) (ae179 : Nat) (H : Heap) (locs : List Loc) (ls : Array Slot) (cc cs : Nat), wl_X6_pass_269 nn V S O (wl_X6_pass_198 nn V S O K n198) K n269 N U L B e179 v3 v4 v5 v7 v8 → TS vwCl D ([(ae179, .inl (Z 0, nn 3, .inl e179))] ++ (SM Z sa o ro nn V S O N U L B)) A s.heap H locs → lv_has ls 10 [(0, .ref (sa)), (1, .ref ae179), (2, .ref (o 4)), (3, .int v3), (4, .int v4), (5, .ref (ro 4 v5.toInt.toNat)), (7, .int v7), (8, .int v8)] → cc + (n269 * 0 + 0 + n198 * 0 + 0) ≤ 1 ∧ cs + (n269 * 0 + 0 + n198 * 0 + 0) ≤ 64 → W p l e (rk 5 1 64) s m args below meth c H locs cc cs Q (F0 m 269 ls []) := by
        intro n269
        induction n269 with
        | zero =>
          intro N U L B e179 v3 v4 v5 v7 v8 ae179 H locs ls cc cs hm hT hl hcb
          exact False.elim hm
        | succ n269 ih269 =>
          intro N U L B e179 v3 v4 v5 v7 v8 ae179 H locs ls cc cs hm hT hl hcb
          refine lv_iload hx hb dX6_pass_269 (lv_at hl 7 rfl) ?_
          refine lv_bipush (v := 9) hx hb dX6_pass_271 (by decide) ?_
          refine lv_icmp_ge (tgt := 306) hx hb dX6_pass_273 (by decide) (fun c_273 => ?_) (fun c_273 => ?_)
          · have hm := hm.1 c_273
            obtain ⟨v4_306, ev4_306⟩ : ∃ y : Int32, y = v4 + 1 := ⟨_, rfl⟩
            have hm := hm v4_306 ev4_306
            refine lv_iinc (v := v4_306) (lv' := [(4, .int v4_306), (0, .ref (sa)), (1, .ref ae179), (2, .ref (o 4)), (3, .int v3), (5, .ref (ro 4 v5.toInt.toNat)), (7, .int v7), (8, .int v8)]) hx hb dX6_pass_306 hl (k := 4) rfl (by rw [ev4_306]; rfl) (by decide) rfl (fun ls hl => ?_)
            refine lv_goto (tgt := 198) hx hb dX6_pass_309 (by decide) ?_
            exact ih198 _ _ _ _ _ _ _ _ _ _ _ _ _ hm hT (lv_sub hl [1, 2, 3, 4, 0] rfl) ⟨by omega, by omega⟩
          · have hm := hm.2 c_273
            refine lv_aload_n hx hb dX6_pass_276 rfl (lv_at hl 1 rfl) ?_
            refine lv_aload hx hb dX6_pass_277 (lv_at hl 5 rfl) ?_
            refine lv_iload hx hb dX6_pass_279 (lv_at hl 7 rfl) ?_
            refine wr_ld (jn := v8.toInt.toNat) (f := (fun X => [(ae179, .inl (Z 0, nn 3, .inl e179))] ++ SM Z sa o ro nn V S O N U L X)) (sm_pre (sm_4 Z sa o ro nn V S O N U L) _) hC hK hT.1 hm.1 hm.2.1 rfl dX6_pass_281 ?_
            have hm := hm.2.2
            refine lv_iload hx hb dX6_pass_282 (lv_at hl 6 rfl) ?_
            refine lv_if_le (tgt := 298) hx hb dX6_pass_284 (by decide) (fun c_284 => ?_) (fun c_284 => ?_)
            · have hm := hm.1 c_284
              refine lv_iconst (v := 1) hx hb dX6_pass_298 (by decide) ?_
              have hj299 := hm.1
              obtain ⟨e179_299, ee179_299⟩ : ∃ y : Nat → Int32, y = upd e179 ((B v5.toInt.toNat v8.toInt.toNat).toInt.toNat) 1 := ⟨_, rfl⟩
              have hm := hm.2 e179_299 ee179_299
              refine w_iast (q0 := 0) (ws' := ([(ae179, .inl (Z 0, nn 3, .inl e179_299))] ++ (SM Z sa o ro nn V S O N U L B))) hC hK hT rfl hj299 (by rw [ee179_299]; rfl) dX6_pass_299 (fun H locs hT => ?_)
              obtain ⟨v8_300, ev8_300⟩ : ∃ y : Int32, y = v8 + 1 := ⟨_, rfl⟩
              have hm := hm v8_300 ev8_300
              refine lv_iinc (v := v8_300) (lv' := [(8, .int v8_300), (0, .ref (sa)), (1, .ref ae179), (2, .ref (o 4)), (3, .int v3), (4, .int v4), (5, .ref (ro 4 v5.toInt.toNat)), (7, .int v7)]) hx hb dX6_pass_300 hl (k := 7) rfl (by rw [ev8_300]; rfl) (by decide) rfl (fun ls hl => ?_)
              refine lv_goto (tgt := 269) hx hb dX6_pass_303 (by decide) ?_
              exact ih269 _ _ _ _ _ _ _ _ _ _ _ _ _ _ _ _ hm hT (lv_sub hl [1, 2, 3, 4, 5, 6, 7, 0] rfl) ⟨by omega, by omega⟩
            · have hm := hm.2 c_284
              refine lv_iload hx hb dX6_pass_287 (lv_at hl 6 rfl) ?_
              refine lv_bipush (v := 10) hx hb dX6_pass_289 (by decide) ?_
              refine lv_idiv hx hb dX6_pass_291 (by decide) ?_
              refine lv_iconst (v := 1) hx hb dX6_pass_292 (by decide) ?_
              refine lv_iadd hx hb dX6_pass_293 ?_
              refine lv_ineg hx hb dX6_pass_294 ?_
              refine lv_goto (tgt := 299) hx hb dX6_pass_295 (by decide) ?_
              have hj299 := hm.1
              obtain ⟨e179_299, ee179_299⟩ : ∃ y : Nat → Int32, y = upd e179 ((B v5.toInt.toNat v8.toInt.toNat).toInt.toNat) (-((v7 / 10) + 1)) := ⟨_, rfl⟩
              have hm := hm.2 e179_299 ee179_299
              refine w_iast (q0 := 0) (ws' := ([(ae179, .inl (Z 0, nn 3, .inl e179_299))] ++ (SM Z sa o ro nn V S O N U L B))) hC hK hT rfl hj299 (by rw [ee179_299]; rfl) dX6_pass_299 (fun H locs hT => ?_)
              obtain ⟨v8_300, ev8_300⟩ : ∃ y : Int32, y = v8 + 1 := ⟨_, rfl⟩
              have hm := hm v8_300 ev8_300
              refine lv_iinc (v := v8_300) (lv' := [(8, .int v8_300), (0, .ref (sa)), (1, .ref ae179), (2, .ref (o 4)), (3, .int v3), (4, .int v4), (5, .ref (ro 4 v5.toInt.toNat)), (7, .int v7)]) hx hb dX6_pass_300 hl (k := 7) rfl (by rw [ev8_300]; rfl) (by decide) rfl (fun ls hl => ?_)
              refine lv_goto (tgt := 269) hx hb dX6_pass_303 (by decide) ?_
              exact ih269 _ _ _ _ _ _ _ _ _ _ _ _ _ _ _ _ hm hT (lv_sub hl [1, 2, 3, 4, 5, 6, 7, 0] rfl) ⟨by omega, by omega⟩
      have L255 : ∀ (N : M2) (U : M2) (L : M2) (B : M2) (e179 : (Nat → Int32)) (v3 : Int32) (v4 : Int32) (v5 : Int32) (v6 : Int32) (q0 : Int32) (q1 : Int32) (q2 : Int32) (ae179 : Nat) (H : Heap) (locs : List Loc) (ls : Array Slot) (cc cs : Nat), wj_X6_pass_255 nn V S O (wl_X6_pass_198 nn V S O K n198) K N U L B e179 v3 v4 v5 v6 q0 q1 q2 → TS vwCl D ([(ae179, .inl (Z 0, nn 3, .inl e179))] ++ (SM Z sa o ro nn V S O N U L B)) A s.heap H locs → lv_has ls 10 [(0, .ref (sa)), (1, .ref ae179), (2, .ref (o 4)), (3, .int v3), (4, .int v4), (5, .ref (ro 4 v5.toInt.toNat)), (6, .ref (ro 1 v6.toInt.toNat))] → cc + (0 + n198 * 0 + 0) ≤ 1 ∧ cs + (0 + n198 * 0 + 0) ≤ 64 → W p l e (rk 5 1 64) s m args below meth c H locs cc cs Q (F0 m 255 ls [.int q0, .int q1, .ref (ro 1 q2.toInt.toNat)]) := by
        intro N U L B e179 v3 v4 v5 v6 q0 q1 q2 ae179 H locs ls cc cs hm hT hl hcb
        refine wr_st (jn := q1.toInt.toNat) (f := (fun X => [(ae179, .inl (Z 0, nn 3, .inl e179))] ++ SM Z sa o ro nn V S O N X L B)) (sm_pre (sm_1 Z sa o ro nn V S O N L B) _) hC hK hT hm.1 hm.2.1 rfl dX6_pass_255 (fun U_255 eU_255 H locs hT => ?_)
        have hm := hm.2.2 U_255 eU_255
        have hT : TS vwCl D ([(ae179, .inl (Z 0, nn 3, .inl e179))] ++ (SM Z sa o ro nn V S O N U_255 L B)) A s.heap H locs := hT
        refine lv_bipush (v := 40) hx hb dX6_pass_256 (by decide) ?_
        refine lv_aload hx hb dX6_pass_258 (lv_at hl 6 rfl) ?_
        refine lv_iconst (v := 1) hx hb dX6_pass_260 (by decide) ?_
        refine wr_ld (jn := 1) (f := (fun X => [(ae179, .inl (Z 0, nn 3, .inl e179))] ++ SM Z sa o ro nn V S O N X L B)) (sm_pre (sm_1 Z sa o ro nn V S O N L B) _) hC hK hT.1 hm.1 (by decide) rfl dX6_pass_261 ?_
        have hm := hm.2
        refine lv_isub hx hb dX6_pass_262 ?_
        refine lv_topi (fun v7_263 ev7_263 => ?_)
        have hm := hm v7_263 ev7_263
        refine lv_istore (lv' := [(7, .int v7_263), (0, .ref (sa)), (1, .ref ae179), (2, .ref (o 4)), (3, .int v3), (4, .int v4), (5, .ref (ro 4 v5.toInt.toNat)), (6, .ref (ro 1 v6.toInt.toNat))]) hx hb dX6_pass_263 hl (by decide) rfl (fun ls hl => ?_)
        refine lv_bipush (v := 7) hx hb dX6_pass_265 (by decide) ?_
        refine lv_istore (lv' := [(8, .int 7), (7, .int v7_263), (0, .ref (sa)), (1, .ref ae179), (2, .ref (o 4)), (3, .int v3), (4, .int v4), (5, .ref (ro 4 v5.toInt.toNat)), (6, .ref (ro 1 v6.toInt.toNat))]) hx hb dX6_pass_267 hl (by decide) rfl (fun ls hl => ?_)
        exact L269 _ _ _ _ _ _ _ _ _ _ _ _ _ _ _ _ _ hm hT (lv_sub hl [2, 3, 4, 5, 6, 7, 1, 0] rfl) ⟨by omega, by omega⟩
      intro N U L B e179 v3 v4 ae179 H locs ls cc cs hm hT hl hcb
      refine lv_iload hx hb dX6_pass_198 (lv_at hl 4 rfl) ?_
      refine lv_iload_n hx hb dX6_pass_200 rfl (lv_at hl 3 rfl) ?_
      refine lv_icmp_ge (tgt := 312) hx hb dX6_pass_201 (by decide) (fun c_201 => ?_) (fun c_201 => ?_)
      · have hm := hm.1 c_201
        refine lv_iconst (v := 0) hx hb dX6_pass_312 (by decide) ?_
        refine lv_istore_n (lv' := [(2, .int 0), (0, .ref (sa)), (1, .ref ae179), (3, .int v3), (4, .int v4)]) hx hb dX6_pass_313 rfl hl (by decide) rfl (fun ls hl => ?_)
        exact L314 _ _ _ _ _ _ _ _ _ _ _ _ _ hm hT (lv_sub hl [1, 2, 0] rfl) ⟨by omega, by omega⟩
      · have hm := hm.2 c_201
        refine lv_aload_n hx hb dX6_pass_204 rfl (lv_at hl 2 rfl) ?_
        refine lv_iload hx hb dX6_pass_205 (lv_at hl 4 rfl) ?_
        refine w_aaldR (q0 := 6) hC hK hT.1 rfl hm.1 dX6_pass_207 ?_
        have hm := hm.2
        refine lv_astore (lv' := [(5, .ref (ro 4 v4.toInt.toNat)), (0, .ref (sa)), (1, .ref ae179), (2, .ref (o 4)), (3, .int v3), (4, .int v4)]) hx hb dX6_pass_208 hl (by decide) rfl (fun ls hl => ?_)
        refine lv_aload hx hb dX6_pass_210 (lv_at hl 0 rfl) ?_
        refine lv_iconst (v := 3) hx hb dX6_pass_212 (by decide) ?_
        refine wr_ld (jn := 3) (f := (fun X => [(ae179, .inl (Z 0, nn 3, .inl e179))] ++ SM Z sa o ro nn V S O N U L X)) (sm_pre (sm_4 Z sa o ro nn V S O N U L) _) hC hK hT.1 hm.1 (by decide) rfl dX6_pass_213 ?_
        have hm := hm.2
        refine lv_iconst (v := 1) hx hb dX6_pass_214 (by decide) ?_
        refine lv_icmp_eq (tgt := 221) hx hb dX6_pass_215 (by decide) (fun c_215 => ?_) (fun c_215 => ?_)
        · have hm := hm.1 c_215
          refine lv_aload_n hx hb dX6_pass_221 rfl (lv_at hl 1 rfl) ?_
          refine w_get (C := RX6) (T := TX6) (N := 9) (ci := 6) (q0 := 1) (k := 3) hC hK hT.1 fi_X6 rfl rfl rfl (by decide) rfl wq_1171 dX6_pass_222 ?_
          refine lv_aload hx hb dX6_pass_225 (lv_at hl 0 rfl) ?_
          refine lv_iconst (v := 4) hx hb dX6_pass_227 (by decide) ?_
          refine wr_ld (jn := 4) (f := (fun X => [(ae179, .inl (Z 0, nn 3, .inl e179))] ++ SM Z sa o ro nn V S O N U L X)) (sm_pre (sm_4 Z sa o ro nn V S O N U L) _) hC hK hT.1 hm.1 (by decide) rfl dX6_pass_228 ?_
          have hm := hm.2
          refine w_aaldR (q0 := 3) hC hK hT.1 rfl hm.1 dX6_pass_229 ?_
          have hm := hm.2
          obtain ⟨v6_230, ev6_230⟩ : ∃ y : Int32, y = B v4.toInt.toNat 4 := ⟨_, rfl⟩
          rw [← ev6_230]
          have hm := hm v6_230 ev6_230
          refine lv_astore (lv' := [(6, .ref (ro 1 v6_230.toInt.toNat)), (5, .ref (ro 4 v4.toInt.toNat)), (0, .ref (sa)), (1, .ref ae179), (2, .ref (o 4)), (3, .int v3), (4, .int v4)]) hx hb dX6_pass_230 hl (by decide) rfl (fun ls hl => ?_)
          refine lv_aload hx hb dX6_pass_232 (lv_at hl 0 rfl) ?_
          refine lv_iconst (v := 1) hx hb dX6_pass_234 (by decide) ?_
          refine lv_aload hx hb dX6_pass_235 (lv_at hl 0 rfl) ?_
          refine lv_iconst (v := 1) hx hb dX6_pass_237 (by decide) ?_
          refine wr_ld (jn := 1) (f := (fun X => [(ae179, .inl (Z 0, nn 3, .inl e179))] ++ SM Z sa o ro nn V S O N X L B)) (sm_pre (sm_1 Z sa o ro nn V S O N L B) _) hC hK hT.1 hm.1 (by decide) rfl dX6_pass_238 ?_
          have hm := hm.2
          refine lv_bipush (v := 6) hx hb dX6_pass_239 (by decide) ?_
          refine lv_icmp_ge (tgt := 248) hx hb dX6_pass_241 (by decide) (fun c_241 => ?_) (fun c_241 => ?_)
          · have hm := hm.1 c_241
            refine lv_aload hx hb dX6_pass_248 (lv_at hl 0 rfl) ?_
            refine lv_iconst (v := 1) hx hb dX6_pass_250 (by decide) ?_
            refine wr_ld (jn := 1) (f := (fun X => [(ae179, .inl (Z 0, nn 3, .inl e179))] ++ SM Z sa o ro nn V S O N X L B)) (sm_pre (sm_1 Z sa o ro nn V S O N L B) _) hC hK hT.1 hm.1 (by decide) rfl dX6_pass_251 ?_
            have hm := hm.2
            refine lv_bipush (v := 6) hx hb dX6_pass_252 (by decide) ?_
            refine lv_isub hx hb dX6_pass_254 ?_
            exact L255 _ _ _ _ _ _ _ _ _ _ _ _ _ _ _ _ _ _ hm hT (lv_sub hl [2, 3, 4, 5, 6, 1, 0] rfl) ⟨by omega, by omega⟩
          · have hm := hm.2 c_241
            refine lv_iconst (v := 0) hx hb dX6_pass_244 (by decide) ?_
            refine lv_goto (tgt := 255) hx hb dX6_pass_245 (by decide) ?_
            exact L255 _ _ _ _ _ _ _ _ _ _ _ _ _ _ _ _ _ _ hm hT (lv_sub hl [2, 3, 4, 5, 6, 1, 0] rfl) ⟨by omega, by omega⟩
        · have hm := hm.2 c_215
          refine lv_goto (tgt := 306) hx hb dX6_pass_218 (by decide) ?_
          obtain ⟨v4_306, ev4_306⟩ : ∃ y : Int32, y = v4 + 1 := ⟨_, rfl⟩
          have hm := hm v4_306 ev4_306
          refine lv_iinc (v := v4_306) (lv' := [(4, .int v4_306), (5, .ref (ro 4 v4.toInt.toNat)), (0, .ref (sa)), (1, .ref ae179), (2, .ref (o 4)), (3, .int v3)]) hx hb dX6_pass_306 hl (k := 5) rfl (by rw [ev4_306]; rfl) (by decide) rfl (fun ls hl => ?_)
          refine lv_goto (tgt := 198) hx hb dX6_pass_309 (by decide) ?_
          exact ih198 _ _ _ _ _ _ _ _ _ _ _ _ _ hm hT (lv_sub hl [2, 3, 4, 5, 0] rfl) ⟨by omega, by omega⟩
  have L144 : ∀ (n144 : Nat), ∀ (N : M2) (U : M2) (L : M2) (B : M2) (v2 : Int32) (v3 : Int32) (H : Heap) (locs : List Loc) (ls : Array Slot) (cc cs : Nat), wl_X6_pass_144 nn V S O K n144 N U L B v2 v3 → TS vwCl D (SM Z sa o ro nn V S O N U L B) A s.heap H locs → lv_has ls 10 [(0, .ref (sa)), (1, .ref (o 4)), (2, .int v2), (3, .int v3)] → cc + (n144 * 0 + 1) ≤ 1 ∧ cs + (n144 * 0 + 64) ≤ 64 → W p l e (rk 5 1 64) s m args below meth c H locs cc cs Q (F0 m 144 ls []) := by
    intro n144
    induction n144 with
    | zero =>
      intro N U L B v2 v3 H locs ls cc cs hm hT hl hcb
      exact False.elim hm
    | succ n144 ih144 =>
      intro N U L B v2 v3 H locs ls cc cs hm hT hl hcb
      refine lv_iload_n hx hb dX6_pass_144 rfl (lv_at hl 3 rfl) ?_
      refine lv_iload_n hx hb dX6_pass_145 rfl (lv_at hl 2 rfl) ?_
      refine lv_icmp_ge (tgt := 174) hx hb dX6_pass_146 (by decide) (fun c_146 => ?_) (fun c_146 => ?_)
      · have hm := hm.1 c_146
        refine lv_aload_n hx hb dX6_pass_174 rfl (lv_at hl 0 rfl) ?_
        refine gSM_sim_5 hC hK hT.1 wq_1175 dX6_pass_175 ?_
        refine w_alen (q0 := 4) (t0 := 3) hC hK hT.1 rfl rfl dX6_pass_178 ?_
        have hz179 := hm.1
        have hm := hm.2
        refine w_newI (N := nn 3) hC hK hT wq_240 (nI_pos (by omega)) (clampI (by omega)) (by omega) (by show _ ≤ 1; omega) (by show _ ≤ 64; omega) dX6_pass_179 (fun ae179 H hT => ?_)
        have hT : TS vwCl D ([(ae179, .inl (Z 0, nn 3, .inl ((fun _ => 0))))] ++ (SM Z sa o ro nn V S O N U L B)) A s.heap H _ := hT.front
        refine lv_astore_n (lv' := [(1, .ref ae179), (0, .ref (sa)), (2, .int v2), (3, .int v3)]) hx hb dX6_pass_181 rfl hl (by decide) rfl (fun ls hl => ?_)
        refine lv_aload_n hx hb dX6_pass_182 rfl (lv_at hl 0 rfl) ?_
        refine lv_iconst (v := 2) hx hb dX6_pass_183 (by decide) ?_
        refine goV (u0 := ((fun _ => 0))) (wsF := fun g => [(ae179, .inl (Z 0, nn 3, .inl g))]) (runS (As := [.ref ae179, .int 2]) hC hN (c_fill l D Z _ ae179 (nn 3) 2 ((fun _ => 0)) (by omega)) mi_J7_fill_53178 wq_870 wq_871 (by decide) hT.dropR.1 hT.dropR.D' hK rfl hl.1 rfl (Nat.le_of_ble_eq_true rfl) dX6_pass_184 ⟨by omega, by omega⟩) rfl hT (fun e179_184 H locs ee179_184 hT => ?_)
        have hm := hm e179_184 ee179_184
        refine lv_aload_n hx hb dX6_pass_187 rfl (lv_at hl 1 rfl) ?_
        refine w_get (C := RX6) (T := TX6) (N := 9) (ci := 6) (q0 := 1) (k := 6) hC hK hT.1 fi_X6 rfl rfl rfl (by decide) rfl wq_1177 dX6_pass_188 ?_
        refine lv_astore_n (lv' := [(2, .ref (o 4)), (1, .ref ae179), (0, .ref (sa)), (3, .int v3)]) hx hb dX6_pass_191 rfl hl (by decide) rfl (fun ls hl => ?_)
        refine lv_aload_n hx hb dX6_pass_192 rfl (lv_at hl 0 rfl) ?_
        refine w_alen (q0 := 6) (t0 := 3) hC hK hT.1 rfl rfl dX6_pass_193 ?_
        refine lv_topi (fun v3_194 ev3_194 => ?_)
        have hm := hm v3_194 ev3_194
        refine lv_istore_n (lv' := [(3, .int v3_194), (2, .ref (o 4)), (1, .ref ae179), (0, .ref (sa))]) hx hb dX6_pass_194 rfl hl (by decide) rfl (fun ls hl => ?_)
        refine lv_iconst (v := 0) hx hb dX6_pass_195 (by decide) ?_
        refine lv_istore (lv' := [(4, .int 0), (3, .int v3_194), (2, .ref (o 4)), (1, .ref ae179), (0, .ref (sa))]) hx hb dX6_pass_196 hl (by decide) rfl (fun ls hl => ?_)
        exact L198 _ _ _ _ _ _ _ _ _ _ _ _ _ _ hm hT (lv_sub hl [4, 3, 2, 1, 0] rfl) ⟨by omega, by omega⟩
      · have hm := hm.2 c_146
        refine lv_aload_n hx hb dX6_pass_149 rfl (lv_at hl 1 rfl) ?_
        refine lv_iload_n hx hb dX6_pass_150 rfl (lv_at hl 3 rfl) ?_
        refine w_aaldR (q0 := 5) hC hK hT.1 rfl hm.1 dX6_pass_151 ?_
        have hm := hm.2
        refine lv_astore (lv' := [(4, .ref (ro 4 v3.toInt.toNat)), (0, .ref (sa)), (1, .ref (o 4)), (2, .int v2), (3, .int v3)]) hx hb dX6_pass_152 hl (by decide) rfl (fun ls hl => ?_)
        refine lv_aload hx hb dX6_pass_154 (lv_at hl 0 rfl) ?_
        refine lv_iconst (v := 3) hx hb dX6_pass_156 (by decide) ?_
        refine wr_ld (jn := 3) (f := (fun X => SM Z sa o ro nn V S O N U L X)) (sm_4 Z sa o ro nn V S O N U L) hC hK hT.1 hm.1 (by decide) rfl dX6_pass_157 ?_
        have hm := hm.2
        refine lv_iconst (v := 1) hx hb dX6_pass_158 (by decide) ?_
        refine lv_icmp_ne (tgt := 168) hx hb dX6_pass_159 (by decide) (fun c_159 => ?_) (fun c_159 => ?_)
        · have hm := hm.1 c_159
          obtain ⟨v3_168, ev3_168⟩ : ∃ y : Int32, y = v3 + 1 := ⟨_, rfl⟩
          have hm := hm v3_168 ev3_168
          refine lv_iinc (v := v3_168) (lv' := [(3, .int v3_168), (4, .ref (ro 4 v3.toInt.toNat)), (0, .ref (sa)), (1, .ref (o 4)), (2, .int v2)]) hx hb dX6_pass_168 hl (k := 4) rfl (by rw [ev3_168]; rfl) (by decide) rfl (fun ls hl => ?_)
          refine lv_goto (tgt := 144) hx hb dX6_pass_171 (by decide) ?_
          exact ih144 _ _ _ _ _ _ _ _ _ _ _ hm hT (lv_sub hl [2, 3, 4, 0] rfl) ⟨by omega, by omega⟩
        · have hm := hm.2 c_159
          refine lv_aload_n hx hb dX6_pass_162 rfl (lv_at hl 1 rfl) ?_
          refine lv_aload hx hb dX6_pass_163 (lv_at hl 0 rfl) ?_
          refine k_X6_push hC hN hK hT hm wq_866 (by decide) hl.1 (Nat.le_of_ble_eq_true rfl) ⟨by omega, by omega⟩ dX6_pass_165 (fun N_165 U_165 L_165 B_165 H locs hm hT => ?_)
          obtain ⟨v3_168, ev3_168⟩ : ∃ y : Int32, y = v3 + 1 := ⟨_, rfl⟩
          have hm := hm v3_168 ev3_168
          refine lv_iinc (v := v3_168) (lv' := [(3, .int v3_168), (4, .ref (ro 4 v3.toInt.toNat)), (0, .ref (sa)), (1, .ref (o 4)), (2, .int v2)]) hx hb dX6_pass_168 hl (k := 4) rfl (by rw [ev3_168]; rfl) (by decide) rfl (fun ls hl => ?_)
          refine lv_goto (tgt := 144) hx hb dX6_pass_171 (by decide) ?_
          exact ih144 _ _ _ _ _ _ _ _ _ _ _ hm hT (lv_sub hl [2, 3, 4, 0] rfl) ⟨by omega, by omega⟩
  have L58 : ∀ (n58 : Nat), ∀ (N : M2) (U : M2) (L : M2) (B : M2) (v1 : Int32) (H : Heap) (locs : List Loc) (ls : Array Slot) (cc cs : Nat), wl_X6_pass_58 nn V S O K n58 N U L B v1 → TS vwCl D (SM Z sa o ro nn V S O N U L B) A s.heap H locs → lv_has ls 10 [(0, .ref (sa)), (1, .int v1)] → cc + (n58 * 0 + 1) ≤ 1 ∧ cs + (n58 * 0 + 64) ≤ 64 → W p l e (rk 5 1 64) s m args below meth c H locs cc cs Q (F0 m 58 ls []) := by
    intro n58
    induction n58 with
    | zero =>
      intro N U L B v1 H locs ls cc cs hm hT hl hcb
      exact False.elim hm
    | succ n58 ih58 =>
      intro N U L B v1 H locs ls cc cs hm hT hl hcb
      refine lv_iload_n hx hb dX6_pass_58 rfl (lv_at hl 1 rfl) ?_
      refine lv_aload_n hx hb dX6_pass_59 rfl (lv_at hl 0 rfl) ?_
      refine gSM_sim_6 hC hK hT.1 wq_1177 dX6_pass_60 ?_
      refine w_alen (q0 := 5) (t0 := 3) hC hK hT.1 rfl rfl dX6_pass_63 ?_
      refine lv_icmp_ge (tgt := 134) hx hb dX6_pass_64 (by decide) (fun c_64 => ?_) (fun c_64 => ?_)
      · have hm := hm.1 c_64
        refine lv_aload_n hx hb dX6_pass_134 rfl (lv_at hl 0 rfl) ?_
        refine gSM_sim_6 hC hK hT.1 wq_1177 dX6_pass_135 ?_
        refine lv_astore_n (lv' := [(1, .ref (o 4)), (0, .ref (sa))]) hx hb dX6_pass_138 rfl hl (by decide) rfl (fun ls hl => ?_)
        refine lv_aload_n hx hb dX6_pass_139 rfl (lv_at hl 0 rfl) ?_
        refine w_alen (q0 := 5) (t0 := 3) hC hK hT.1 rfl rfl dX6_pass_140 ?_
        refine lv_topi (fun v2_141 ev2_141 => ?_)
        have hm := hm v2_141 ev2_141
        refine lv_istore_n (lv' := [(2, .int v2_141), (1, .ref (o 4)), (0, .ref (sa))]) hx hb dX6_pass_141 rfl hl (by decide) rfl (fun ls hl => ?_)
        refine lv_iconst (v := 0) hx hb dX6_pass_142 (by decide) ?_
        refine lv_istore_n (lv' := [(3, .int 0), (2, .int v2_141), (1, .ref (o 4)), (0, .ref (sa))]) hx hb dX6_pass_143 rfl hl (by decide) rfl (fun ls hl => ?_)
        exact L144 _ _ _ _ _ _ _ _ _ _ _ _ hm hT (lv_sub hl [3, 2, 1, 0] rfl) ⟨by omega, by omega⟩
      · have hm := hm.2 c_64
        refine lv_aload_n hx hb dX6_pass_67 rfl (lv_at hl 0 rfl) ?_
        refine lv_iload_n hx hb dX6_pass_68 rfl (lv_at hl 1 rfl) ?_
        refine k_X6_canEnter hC hN hK hT.1 hT.D' hm wq_845 (by decide) hl.1 (Nat.le_of_ble_eq_true rfl) ⟨by omega, by omega⟩ dX6_pass_69 (fun r_69 hm => ?_)
        refine lv_if_ne (tgt := 78) hx hb dX6_pass_72 (by decide) (fun c_72 => ?_) (fun c_72 => ?_)
        · have hm := hm.1 c_72
          refine lv_aload_n hx hb dX6_pass_78 rfl (lv_at hl 0 rfl) ?_
          refine gSM_sim_6 hC hK hT.1 wq_1177 dX6_pass_79 ?_
          refine lv_iload_n hx hb dX6_pass_82 rfl (lv_at hl 1 rfl) ?_
          refine w_aaldR (q0 := 5) hC hK hT.1 rfl hm.1 dX6_pass_83 ?_
          have hm := hm.2
          refine lv_iconst (v := 3) hx hb dX6_pass_84 (by decide) ?_
          refine lv_iconst (v := 1) hx hb dX6_pass_85 (by decide) ?_
          refine wr_st (jn := 3) (f := (fun X => SM Z sa o ro nn V S O N U L X)) (sm_4 Z sa o ro nn V S O N U L) hC hK hT hm.1 (by decide) rfl dX6_pass_86 (fun B_86 eB_86 H locs hT => ?_)
          have hm := hm.2 B_86 eB_86
          have hT : TS vwCl D (SM Z sa o ro nn V S O N U L B_86) A s.heap H locs := hT
          refine lv_aload_n hx hb dX6_pass_87 rfl (lv_at hl 0 rfl) ?_
          refine gSM_sim_6 hC hK hT.1 wq_1177 dX6_pass_88 ?_
          refine lv_iload_n hx hb dX6_pass_91 rfl (lv_at hl 1 rfl) ?_
          refine w_aaldR (q0 := 5) hC hK hT.1 rfl hm.1 dX6_pass_92 ?_
          have hm := hm.2
          refine lv_iconst (v := 5) hx hb dX6_pass_93 (by decide) ?_
          refine lv_iconst (v := 0) hx hb dX6_pass_94 (by decide) ?_
          refine wr_st (jn := 5) (f := (fun X => SM Z sa o ro nn V S O N U L X)) (sm_4 Z sa o ro nn V S O N U L) hC hK hT hm.1 (by decide) rfl dX6_pass_95 (fun B_95 eB_95 H locs hT => ?_)
          have hm := hm.2 B_95 eB_95
          have hT : TS vwCl D (SM Z sa o ro nn V S O N U L B_95) A s.heap H locs := hT
          refine lv_aload_n hx hb dX6_pass_96 rfl (lv_at hl 0 rfl) ?_
          refine lv_aload_n hx hb dX6_pass_97 rfl (lv_at hl 0 rfl) ?_
          refine gSM_sim_6 hC hK hT.1 wq_1177 dX6_pass_98 ?_
          refine lv_iload_n hx hb dX6_pass_101 rfl (lv_at hl 1 rfl) ?_
          refine w_aaldR (q0 := 5) hC hK hT.1 rfl hm.1 dX6_pass_102 ?_
          have hm := hm.2
          refine lv_aload_n hx hb dX6_pass_103 rfl (lv_at hl 0 rfl) ?_
          refine gSM_sim_6 hC hK hT.1 wq_1177 dX6_pass_104 ?_
          refine lv_iload_n hx hb dX6_pass_107 rfl (lv_at hl 1 rfl) ?_
          refine w_aaldR (q0 := 5) hC hK hT.1 rfl hm.1 dX6_pass_108 ?_
          have hm := hm.2
          refine lv_iconst (v := 1) hx hb dX6_pass_109 (by decide) ?_
          refine wr_ld (jn := 1) (f := (fun X => SM Z sa o ro nn V S O N U L X)) (sm_4 Z sa o ro nn V S O N U L) hC hK hT.1 hm.1 (by decide) rfl dX6_pass_110 ?_
          have hm := hm.2
          refine lv_if_ne (tgt := 118) hx hb dX6_pass_111 (by decide) (fun c_111 => ?_) (fun c_111 => ?_)
          · have hm := hm.1 c_111
            refine lv_aload_n hx hb dX6_pass_118 rfl (lv_at hl 0 rfl) ?_
            refine gSM_sim_3 hC hK hT.1 wq_1171 dX6_pass_119 ?_
            refine w_alen (q0 := 2) (t0 := 3) hC hK hT.1 rfl rfl dX6_pass_122 ?_
            refine lv_iconst (v := 1) hx hb dX6_pass_123 (by decide) ?_
            refine lv_isub hx hb dX6_pass_124 ?_
            refine k_X6_come hC hN hK hT hm wq_861 (by decide) hl.1 (Nat.le_of_ble_eq_true rfl) ⟨by omega, by omega⟩ dX6_pass_125 (fun N_125 U_125 L_125 B_125 H locs hm hT => ?_)
            obtain ⟨v1_128, ev1_128⟩ : ∃ y : Int32, y = v1 + 1 := ⟨_, rfl⟩
            have hm := hm v1_128 ev1_128
            refine lv_iinc (v := v1_128) (lv' := [(1, .int v1_128), (0, .ref (sa))]) hx hb dX6_pass_128 hl (k := 1) rfl (by rw [ev1_128]; rfl) (by decide) rfl (fun ls hl => ?_)
            refine lv_goto (tgt := 58) hx hb dX6_pass_131 (by decide) ?_
            exact ih58 _ _ _ _ _ _ _ _ _ _ hm hT (lv_sub hl [1, 0] rfl) ⟨by omega, by omega⟩
          · have hm := hm.2 c_111
            refine lv_iconst (v := 0) hx hb dX6_pass_114 (by decide) ?_
            refine lv_goto (tgt := 125) hx hb dX6_pass_115 (by decide) ?_
            refine k_X6_come hC hN hK hT hm wq_861 (by decide) hl.1 (Nat.le_of_ble_eq_true rfl) ⟨by omega, by omega⟩ dX6_pass_125 (fun N_125 U_125 L_125 B_125 H locs hm hT => ?_)
            obtain ⟨v1_128, ev1_128⟩ : ∃ y : Int32, y = v1 + 1 := ⟨_, rfl⟩
            have hm := hm v1_128 ev1_128
            refine lv_iinc (v := v1_128) (lv' := [(1, .int v1_128), (0, .ref (sa))]) hx hb dX6_pass_128 hl (k := 1) rfl (by rw [ev1_128]; rfl) (by decide) rfl (fun ls hl => ?_)
            refine lv_goto (tgt := 58) hx hb dX6_pass_131 (by decide) ?_
            exact ih58 _ _ _ _ _ _ _ _ _ _ hm hT (lv_sub hl [1, 0] rfl) ⟨by omega, by omega⟩
        · have hm := hm.2 c_72
          refine lv_goto (tgt := 128) hx hb dX6_pass_75 (by decide) ?_
          obtain ⟨v1_128, ev1_128⟩ : ∃ y : Int32, y = v1 + 1 := ⟨_, rfl⟩
          have hm := hm v1_128 ev1_128
          refine lv_iinc (v := v1_128) (lv' := [(1, .int v1_128), (0, .ref (sa))]) hx hb dX6_pass_128 hl (k := 1) rfl (by rw [ev1_128]; rfl) (by decide) rfl (fun ls hl => ?_)
          refine lv_goto (tgt := 58) hx hb dX6_pass_131 (by decide) ?_
          exact ih58 _ _ _ _ _ _ _ _ _ _ hm hT (lv_sub hl [1, 0] rfl) ⟨by omega, by omega⟩
  have L10 : ∀ (n10 : Nat), ∀ (N : M2) (U : M2) (L : M2) (B : M2) (v2 : Int32) (v3 : Int32) (H : Heap) (locs : List Loc) (ls : Array Slot) (cc cs : Nat), wl_X6_pass_10 nn V S O K n10 N U L B v2 v3 → TS vwCl D (SM Z sa o ro nn V S O N U L B) A s.heap H locs → lv_has ls 10 [(0, .ref (sa)), (1, .ref (o 5)), (2, .int v2), (3, .int v3)] → cc + (n10 * 0 + 1) ≤ 1 ∧ cs + (n10 * 0 + 64) ≤ 64 → W p l e (rk 5 1 64) s m args below meth c H locs cc cs Q (F0 m 10 ls []) := by
    intro n10
    induction n10 with
    | zero =>
      intro N U L B v2 v3 H locs ls cc cs hm hT hl hcb
      exact False.elim hm
    | succ n10 ih10 =>
      intro N U L B v2 v3 H locs ls cc cs hm hT hl hcb
      refine lv_iload_n hx hb dX6_pass_10 rfl (lv_at hl 3 rfl) ?_
      refine lv_iload_n hx hb dX6_pass_11 rfl (lv_at hl 2 rfl) ?_
      refine lv_icmp_ge (tgt := 56) hx hb dX6_pass_12 (by decide) (fun c_12 => ?_) (fun c_12 => ?_)
      · have hm := hm.1 c_12
        refine lv_iconst (v := 0) hx hb dX6_pass_56 (by decide) ?_
        refine lv_istore_n (lv' := [(1, .int 0), (0, .ref (sa)), (2, .int v2), (3, .int v3)]) hx hb dX6_pass_57 rfl hl (by decide) rfl (fun ls hl => ?_)
        exact L58 _ _ _ _ _ _ _ _ _ _ _ hm hT (lv_sub hl [1, 0] rfl) ⟨by omega, by omega⟩
      · have hm := hm.2 c_12
        refine lv_aload_n hx hb dX6_pass_15 rfl (lv_at hl 1 rfl) ?_
        refine lv_iload_n hx hb dX6_pass_16 rfl (lv_at hl 3 rfl) ?_
        refine w_aaldR (q0 := 6) hC hK hT.1 rfl hm.1 dX6_pass_17 ?_
        have hm := hm.2
        refine lv_astore (lv' := [(4, .ref (ro 5 v3.toInt.toNat)), (0, .ref (sa)), (1, .ref (o 5)), (2, .int v2), (3, .int v3)]) hx hb dX6_pass_18 hl (by decide) rfl (fun ls hl => ?_)
        refine lv_aload hx hb dX6_pass_20 (lv_at hl 0 rfl) ?_
        refine lv_iconst (v := 0) hx hb dX6_pass_22 (by decide) ?_
        refine wr_ld (jn := 0) (f := (fun X => SM Z sa o ro nn V S X N U L B)) (sm_5 Z sa o ro nn V S N U L B) hC hK hT.1 hm.1 (by decide) rfl dX6_pass_23 ?_
        have hm := hm.2
        refine lv_if_ne (tgt := 50) hx hb dX6_pass_24 (by decide) (fun c_24 => ?_) (fun c_24 => ?_)
        · have hm := hm.1 c_24
          obtain ⟨v3_50, ev3_50⟩ : ∃ y : Int32, y = v3 + 1 := ⟨_, rfl⟩
          have hm := hm v3_50 ev3_50
          refine lv_iinc (v := v3_50) (lv' := [(3, .int v3_50), (4, .ref (ro 5 v3.toInt.toNat)), (0, .ref (sa)), (1, .ref (o 5)), (2, .int v2)]) hx hb dX6_pass_50 hl (k := 4) rfl (by rw [ev3_50]; rfl) (by decide) rfl (fun ls hl => ?_)
          refine lv_goto (tgt := 10) hx hb dX6_pass_53 (by decide) ?_
          exact ih10 _ _ _ _ _ _ _ _ _ _ _ hm hT (lv_sub hl [2, 3, 4, 0] rfl) ⟨by omega, by omega⟩
        · have hm := hm.2 c_24
          refine lv_aload_n hx hb dX6_pass_27 rfl (lv_at hl 1 rfl) ?_
          refine lv_aload hx hb dX6_pass_28 (lv_at hl 0 rfl) ?_
          refine k_X6_holds hC hN hK hT.1 hT.D' hm wq_832 (by decide) hl.1 (Nat.le_of_ble_eq_true rfl) ⟨by omega, by omega⟩ dX6_pass_30 (fun r_30 hm => ?_)
          refine lv_if_ne (tgt := 39) hx hb dX6_pass_33 (by decide) (fun c_33 => ?_) (fun c_33 => ?_)
          · have hm := hm.1 c_33
            refine lv_aload_n hx hb dX6_pass_39 rfl (lv_at hl 1 rfl) ?_
            refine lv_aload hx hb dX6_pass_40 (lv_at hl 0 rfl) ?_
            refine lv_iconst (v := 1) hx hb dX6_pass_42 (by decide) ?_
            refine wr_ld (jn := 1) (f := (fun X => SM Z sa o ro nn V S X N U L B)) (sm_5 Z sa o ro nn V S N U L B) hC hK hT.1 hm.1 (by decide) rfl dX6_pass_43 ?_
            have hm := hm.2
            refine pSM_sim_1 hC hK hT wq_1167 dX6_pass_44 (fun N_44 eN_44 H locs hT => ?_)
            have hm := hm N_44 eN_44
            refine lv_goto (tgt := 56) hx hb dX6_pass_47 (by decide) ?_
            refine lv_iconst (v := 0) hx hb dX6_pass_56 (by decide) ?_
            refine lv_istore_n (lv' := [(1, .int 0), (4, .ref (ro 5 v3.toInt.toNat)), (0, .ref (sa)), (2, .int v2), (3, .int v3)]) hx hb dX6_pass_57 rfl hl (by decide) rfl (fun ls hl => ?_)
            exact L58 _ _ _ _ _ _ _ _ _ _ _ hm hT (lv_sub hl [2, 0] rfl) ⟨by omega, by omega⟩
          · have hm := hm.2 c_33
            refine lv_goto (tgt := 50) hx hb dX6_pass_36 (by decide) ?_
            obtain ⟨v3_50, ev3_50⟩ : ∃ y : Int32, y = v3 + 1 := ⟨_, rfl⟩
            have hm := hm v3_50 ev3_50
            refine lv_iinc (v := v3_50) (lv' := [(3, .int v3_50), (4, .ref (ro 5 v3.toInt.toNat)), (0, .ref (sa)), (1, .ref (o 5)), (2, .int v2)]) hx hb dX6_pass_50 hl (k := 4) rfl (by rw [ev3_50]; rfl) (by decide) rfl (fun ls hl => ?_)
            refine lv_goto (tgt := 10) hx hb dX6_pass_53 (by decide) ?_
            exact ih10 _ _ _ _ _ _ _ _ _ _ _ hm hT (lv_sub hl [2, 3, 4, 0] rfl) ⟨by omega, by omega⟩
  refine lv_aload_n hx hb dX6_pass_0 rfl (lv_at hl 0 rfl) ?_
  refine gSM_sim_7 hC hK hT.1 wq_1179 dX6_pass_1 ?_
  refine lv_astore_n (lv' := [(1, .ref (o 5)), (0, .ref (sa))]) hx hb dX6_pass_4 rfl hl (by decide) rfl (fun ls hl => ?_)
  refine lv_aload_n hx hb dX6_pass_5 rfl (lv_at hl 0 rfl) ?_
  refine w_alen (q0 := 6) (t0 := 3) hC hK hT.1 rfl rfl dX6_pass_6 ?_
  refine lv_topi (fun v2_7 ev2_7 => ?_)
  have hm := hm v2_7 ev2_7
  refine lv_istore_n (lv' := [(2, .int v2_7), (1, .ref (o 5)), (0, .ref (sa))]) hx hb dX6_pass_7 rfl hl (by decide) rfl (fun ls hl => ?_)
  refine lv_iconst (v := 0) hx hb dX6_pass_8 (by decide) ?_
  refine lv_istore_n (lv' := [(3, .int 0), (2, .int v2_7), (1, .ref (o 5)), (0, .ref (sa))]) hx hb dX6_pass_9 rfl hl (by decide) rfl (fun ls hl => ?_)
  exact L10 _ _ _ _ _ _ _ _ _ _ _ _ hm hT (lv_sub hl [3, 2, 1, 0] rfl) ⟨by omega, by omega⟩
section KX6_pass
variable {p : Program} {l : Launch} {e : Env} {s : State} {m : MethodId} {args : Array Value} {below : List Frame} {meth : Method} {c : Code} {H H0 : Heap} {locs : List Loc} {cells slots : Nat} {Q : State → Prop} {R : Room} {rn mcR msR : Nat}
variable {pc : Nat} {ls : Array Slot} {rest : List Value} {A : Nat → Prop} {D : va_G}
variable {cc : ByteArray} {nL index : Nat} {own host : String}
end KX6_pass
