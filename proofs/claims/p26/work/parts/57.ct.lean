theorem wq_938 : Cond.code yX5_append cX5_append 3 none ∈ lw_g := lw_g_mk (tb_4 (List.mem_of_getElem? (i := 154) rfl)) rfl
def CT (Z : Nat → ClassId) (ca tp rd sp tn ah : Nat) (F : M2) (C : M2) : va_W := [(ca, .inr (5, [.ref (tp), .int (C 91 0), .int (C 92 0), .ref rd, .ref sp, .ref tn, .ref ah])), (tp, .inl (Z 2, 2000, .inl (F 80)))]
abbrev cutCT : List Nat := [0, 1]
set_option maxRecDepth 100000 in
theorem cutOkCT (Z : Nat → ClassId) (ca tp rd sp tn ah : Nat) (F : M2) (C : M2) : Cut (CT Z ca tp rd sp tn ah F C) (fun u : M2 × M2 => CT Z ca tp rd sp tn ah u.1 u.2) (F, C) [] cutCT [] cutCT (fun u : M2 × M2 => CT Z ca tp rd sp tn ah u.1 u.2) := ⟨rfl, rfl, rfl, fun i h => absurd h List.not_mem_nil, by decide, fun _ => rfl⟩
section ROWSCT
variable {p : Program} {l : Launch} {e : Env} {s : State} {m : MethodId} {args : Array Value} {below : List Frame} {meth : Method} {c : Code} {H H0 : Heap} {locs : List Loc} {cells slots : Nat} {Q : State → Prop} {R : Room} {rn mcR msR : Nat}
variable {pc : Nat} {ls : Array Slot} {rest : List Value} {A : Nat → Prop} {D : va_G}
variable {cc : ByteArray} {nL index : Nat} {own host : String}
theorem gCT_cl_0 {Z : Nat → ClassId} {ca tp rd sp tn ah : Nat} {F : M2} {C : M2} (hC : CallFix p m c cc nL s args lw_g own) (hK : va_K D vwCl (tysG Z) s) (hP : va_P D vwCl (CT Z ca tp rd sp tn ah F C) H) (hl : Cond.fieldLink own index RX5 "tape" "[B" ∈ lw_g) (hdg : decode cc pc = .ok (.getfield index, 3)) (kk : W p l e R s m args below meth c H locs cells slots Q (F0 m (pc + 3) ls (.ref (tp) :: rest))) : W p l e R s m args below meth c H locs cells slots Q (F0 m pc ls (.ref (ca) :: rest)) :=
  w_get (C := RX5) (T := TX5) (N := 7) (ci := 5) (q0 := 0) (k := 0) hC hK hP fi_X5 rfl rfl rfl (by decide) rfl hl hdg kk
theorem gCT_cl_1 {Z : Nat → ClassId} {ca tp rd sp tn ah : Nat} {F : M2} {C : M2} (hC : CallFix p m c cc nL s args lw_g own) (hK : va_K D vwCl (tysG Z) s) (hP : va_P D vwCl (CT Z ca tp rd sp tn ah F C) H) (hl : Cond.fieldLink own index RX5 "length" "I" ∈ lw_g) (hdg : decode cc pc = .ok (.getfield index, 3)) (kk : W p l e R s m args below meth c H locs cells slots Q (F0 m (pc + 3) ls (.int (C 91 0) :: rest))) : W p l e R s m args below meth c H locs cells slots Q (F0 m pc ls (.ref (ca) :: rest)) :=
  w_get (C := RX5) (T := TX5) (N := 7) (ci := 5) (q0 := 0) (k := 1) hC hK hP fi_X5 rfl rfl rfl (by decide) rfl hl hdg kk
theorem pCT_cl_1 {Z : Nat → ClassId} {ca tp rd sp tn ah : Nat} {F : M2} {C : M2} {x : Int32} (hC : CallFix p m c cc nL s args lw_g own) (hK : va_K D vwCl (tysG Z) s) (hT : TS vwCl D (CT Z ca tp rd sp tn ah F C) A H0 H locs) (hl : Cond.fieldLink own index RX5 "length" "I" ∈ lw_g) (hdg : decode cc pc = .ok (.putfield index, 3)) (kk : ∀ (C1 : M2), C1 = up2 C 91 (fun _ => x) → ∀ (H1 : Heap) (locs1 : List Loc), TS vwCl D (CT Z ca tp rd sp tn ah F C1) A H0 H1 locs1 → W p l e R s m args below meth c H1 locs1 cells slots Q (F0 m (pc + 3) ls rest)) : W p l e R s m args below meth c H locs cells slots Q (F0 m pc ls (.int x :: .ref (ca) :: rest)) :=
  w_put (C := RX5) (T := TX5) (N := 7) (ci := 5) (q0 := 0) (k := 1) (ty0 := tyX5) (ty := .int) (ws' := (CT Z ca tp rd sp tn ah F (up2 C 91 (fun _ => x)))) hC hK hT fi_X5 tyX5_ok nmX5 rfl rfl (by decide) rfl rfl rfl rfl rfl (Nat.le_of_ble_eq_true rfl) rfl hl hdg (fun H1 locs1 hT1 => kk _ rfl H1 locs1 hT1)
theorem sCT_tape {Z : Nat → ClassId} {ca tp rd sp tn ah : Nat} {F : M2} {C : M2} {i : Int32} {x : Int32} (hC : CallFix p m c cc nL s args lw_g own) (hK : va_K D vwCl (tysG Z) s) (hT : TS vwCl D (CT Z ca tp rd sp tn ah F C) A H0 H locs) (hi : inb i 2000) (hdg : decode cc pc = .ok (.bastore, 1)) (kk : ∀ (F1 : M2), F1 = up2 F 80 (upd (F 80) i.toInt.toNat (x.toInt8.toInt32)) → ∀ (H1 : Heap) (locs1 : List Loc), TS vwCl D (CT Z ca tp rd sp tn ah F1 C) A H0 H1 locs1 → W p l e R s m args below meth c H1 locs1 cells slots Q (F0 m (pc + 1) ls rest)) : W p l e R s m args below meth c H locs cells slots Q (F0 m pc ls (.int x :: .int i :: .ref (tp) :: rest)) :=
  w_bast (q0 := 1) (ws' := (CT Z ca tp rd sp tn ah (up2 F 80 (upd (F 80) i.toInt.toNat (x.toInt8.toInt32))) C)) hC hK hT rfl hi rfl hdg (fun H1 locs1 hT1 => kk _ rfl H1 locs1 hT1)
end ROWSCT
theorem dX5_append_0 : decode cX5_append 0 = .ok (.bipush 24, 2) := by decide +kernel
theorem dX5_append_2 : decode cX5_append 2 = .ok (.istore_n 2, 1) := by decide +kernel
theorem dX5_append_3 : decode cX5_append 3 = .ok (.iload_n 2, 1) := by decide +kernel
theorem dX5_append_4 : decode cX5_append 4 = .ok (.ifCond .lt 51, 3) := by decide +kernel
theorem dX5_append_7 : decode cX5_append 7 = .ok (.aload_n 0, 1) := by decide +kernel
theorem dX5_append_8 : decode cX5_append 8 = .ok (.getfield 13, 3) := by decide +kernel
theorem dX5_append_11 : decode cX5_append 11 = .ok (.ifCond .lt 38, 3) := by decide +kernel
theorem dX5_append_14 : decode cX5_append 14 = .ok (.aload_n 0, 1) := by decide +kernel
theorem dX5_append_15 : decode cX5_append 15 = .ok (.getfield 13, 3) := by decide +kernel
theorem dX5_append_18 : decode cX5_append 18 = .ok (.aload_n 0, 1) := by decide +kernel
theorem dX5_append_19 : decode cX5_append 19 = .ok (.getfield 9, 3) := by decide +kernel
theorem dX5_append_22 : decode cX5_append 22 = .ok (.arraylength, 1) := by decide +kernel
theorem dX5_append_23 : decode cX5_append 23 = .ok (.if_icmp .ge 26, 3) := by decide +kernel
theorem dX5_append_26 : decode cX5_append 26 = .ok (.aload_n 0, 1) := by decide +kernel
theorem dX5_append_27 : decode cX5_append 27 = .ok (.getfield 9, 3) := by decide +kernel
theorem dX5_append_30 : decode cX5_append 30 = .ok (.aload_n 0, 1) := by decide +kernel
theorem dX5_append_31 : decode cX5_append 31 = .ok (.getfield 13, 3) := by decide +kernel
theorem dX5_append_34 : decode cX5_append 34 = .ok (.iload_n 1, 1) := by decide +kernel
theorem dX5_append_35 : decode cX5_append 35 = .ok (.iload_n 2, 1) := by decide +kernel
theorem dX5_append_36 : decode cX5_append 36 = .ok (.iushr, 1) := by decide +kernel
theorem dX5_append_37 : decode cX5_append 37 = .ok (.i2b, 1) := by decide +kernel
theorem dX5_append_38 : decode cX5_append 38 = .ok (.bastore, 1) := by decide +kernel
theorem dX5_append_39 : decode cX5_append 39 = .ok (.aload_n 0, 1) := by decide +kernel
theorem dX5_append_40 : decode cX5_append 40 = .ok (.dup, 1) := by decide +kernel
theorem dX5_append_41 : decode cX5_append 41 = .ok (.getfield 13, 3) := by decide +kernel
theorem dX5_append_44 : decode cX5_append 44 = .ok (.iconst 1, 1) := by decide +kernel
theorem dX5_append_45 : decode cX5_append 45 = .ok (.iadd, 1) := by decide +kernel
theorem dX5_append_46 : decode cX5_append 46 = .ok (.putfield 13, 3) := by decide +kernel
theorem dX5_append_49 : decode cX5_append 49 = .ok (.iinc 2 (-8), 3) := by decide +kernel
theorem dX5_append_52 : decode cX5_append 52 = .ok (.goto (-49), 3) := by decide +kernel
theorem dX5_append_55 : decode cX5_append 55 = .ok (.return_, 1) := by decide +kernel
theorem mi_X5_append : MInfo yX5_append cX5_append 3 none 1 := ⟨wq_938, wq_78, by decide, ⟨by decide +kernel, by decide +kernel, by decide +kernel⟩, by decide +kernel⟩
def wl_X5_append_3 (K : M2 → M2 → Prop) : Nat → M2 → M2 → Int32 → Int32 → Prop
  | 0, _, _, _, _ => False
  | n + 1, F, C, v1, v2 => ((v2 < 0 → K F C) ∧ (¬ v2 < 0 → (((C 91 0) < 0 → (∀ v2_49 : Int32, v2_49 = v2 + (-8) → wl_X5_append_3 K n F C v1 v2_49)) ∧ (¬ (C 91 0) < 0 → (((Int32.ofNat 2000) ≤ (C 91 0) → (∀ v2_49 : Int32, v2_49 = v2 + (-8) → wl_X5_append_3 K n F C v1 v2_49)) ∧ (¬ (Int32.ofNat 2000) ≤ (C 91 0) → (inb (C 91 0) 2000 ∧ ∀ F_38 : M2, F_38 = up2 F 80 (upd (F 80) (C 91 0).toInt.toNat ((((v1.toUInt32 >>> (v2.toUInt32 &&& Int32.toUInt32 31)).toInt32).toInt8.toInt32).toInt8.toInt32)) → (∀ C_46 : M2, C_46 = up2 C 91 (fun _ => (C 91 0) + 1) → (∀ v2_49 : Int32, v2_49 = v2 + (-8) → wl_X5_append_3 K n F_38 C_46 v1 v2_49)))))))))
def wp_X5_append (F : M2) (C : M2) (x1 : Int32) (K : M2 → M2 → Prop) : Prop := wl_X5_append_3 K fK F C x1 24
set_option maxRecDepth 100000 in
set_option maxHeartbeats 4000000 in
theorem c_X5_append (l : Launch) (D : va_G) (Z : Nat → ClassId) (ca tp rd sp tn ah : Nat) (F : M2) (C : M2) (sz : Nat) (x1 : Int32) (K : M2 → M2 → Prop) (hm : wp_X5_append F C x1 K) : Met l yX5_append (wy yX5_append cX5_append 3 none) (rk 1 0 0) (pre vwCl D Z (CT Z ca tp rd sp tn ah F C) sz [.ref (ca), .int x1]) (poV vwCl D Z (fun u : M2 × M2 => CT Z ca tp rd sp tn ah u.1 u.2) (F, C) sz (fun (u : M2 × M2) => K u.1 u.2)) 0 0 (va_A (CT Z ca tp rd sp tn ah F C) sz) := by
  refine rwv_of (wsF := (fun u : M2 × M2 => CT Z ca tp rd sp tn ah u.1 u.2)) (u0 := (F, C)) (by decide +kernel) (Nat.le_of_ble_eq_true rfl) rfl ?_
  intro p e s m args below meth c Q A hC hN hsz hnm hT hK hret ls hl
  have hx := hC.1
  have hb := hC.2.1
  have hl : lv_has ls 3 [(0, .ref (ca)), (1, .int x1)] := hl
  have hT : TS vwCl D (CT Z ca tp rd sp tn ah F C) A s.heap s.heap [] := hT
  have L3 : ∀ (n3 : Nat), ∀ (F : M2) (C : M2) (v1 : Int32) (v2 : Int32) (H : Heap) (locs : List Loc) (ls : Array Slot), wl_X5_append_3 K n3 F C v1 v2 → TS vwCl D (CT Z ca tp rd sp tn ah F C) A s.heap H locs → lv_has ls 3 [(0, .ref (ca)), (1, .int v1), (2, .int v2)] → W p l e (rk 1 0 0) s m args below meth c H locs 0 0 Q (F0 m 3 ls []) := by
    intro n3
    induction n3 with
    | zero =>
      intro F C v1 v2 H locs ls hm hT hl
      exact False.elim hm
    | succ n3 ih3 =>
      intro F C v1 v2 H locs ls hm hT hl
      refine lv_iload_n hx hb dX5_append_3 rfl (lv_at hl 2 rfl) ?_
      refine lv_if_lt (tgt := 55) hx hb dX5_append_4 (by decide) (fun c_4 => ?_) (fun c_4 => ?_)
      · have hm := hm.1 c_4
        exact hret 55 _ _ _ (F, C) hm hT dX5_append_55
      · have hm := hm.2 c_4
        refine lv_aload_n hx hb dX5_append_7 rfl (lv_at hl 0 rfl) ?_
        refine gCT_cl_1 hC hK hT.1 wq_486 dX5_append_8 ?_
        refine lv_if_lt (tgt := 49) hx hb dX5_append_11 (by decide) (fun c_11 => ?_) (fun c_11 => ?_)
        · have hm := hm.1 c_11
          obtain ⟨v2_49, ev2_49⟩ : ∃ y : Int32, y = v2 + (-8) := ⟨_, rfl⟩
          have hm := hm v2_49 ev2_49
          refine lv_iinc (v := v2_49) (lv' := [(2, .int v2_49), (0, .ref (ca)), (1, .int v1)]) hx hb dX5_append_49 hl (k := 2) rfl (by rw [ev2_49]; rfl) (by decide) rfl (fun ls hl => ?_)
          refine lv_goto (tgt := 3) hx hb dX5_append_52 (by decide) ?_
          exact ih3 _ _ _ _ _ _ _ hm hT (lv_sub hl [1, 2, 0] rfl)
        · have hm := hm.2 c_11
          refine lv_aload_n hx hb dX5_append_14 rfl (lv_at hl 0 rfl) ?_
          refine gCT_cl_1 hC hK hT.1 wq_486 dX5_append_15 ?_
          refine lv_aload_n hx hb dX5_append_18 rfl (lv_at hl 0 rfl) ?_
          refine gCT_cl_0 hC hK hT.1 wq_485 dX5_append_19 ?_
          refine w_alen (q0 := 1) (t0 := 2) hC hK hT.1 rfl rfl dX5_append_22 ?_
          refine lv_icmp_ge (tgt := 49) hx hb dX5_append_23 (by decide) (fun c_23 => ?_) (fun c_23 => ?_)
          · have hm := hm.1 c_23
            obtain ⟨v2_49, ev2_49⟩ : ∃ y : Int32, y = v2 + (-8) := ⟨_, rfl⟩
            have hm := hm v2_49 ev2_49
            refine lv_iinc (v := v2_49) (lv' := [(2, .int v2_49), (0, .ref (ca)), (1, .int v1)]) hx hb dX5_append_49 hl (k := 2) rfl (by rw [ev2_49]; rfl) (by decide) rfl (fun ls hl => ?_)
            refine lv_goto (tgt := 3) hx hb dX5_append_52 (by decide) ?_
            exact ih3 _ _ _ _ _ _ _ hm hT (lv_sub hl [1, 2, 0] rfl)
          · have hm := hm.2 c_23
            refine lv_aload_n hx hb dX5_append_26 rfl (lv_at hl 0 rfl) ?_
            refine gCT_cl_0 hC hK hT.1 wq_485 dX5_append_27 ?_
            refine lv_aload_n hx hb dX5_append_30 rfl (lv_at hl 0 rfl) ?_
            refine gCT_cl_1 hC hK hT.1 wq_486 dX5_append_31 ?_
            refine lv_iload_n hx hb dX5_append_34 rfl (lv_at hl 1 rfl) ?_
            refine lv_iload_n hx hb dX5_append_35 rfl (lv_at hl 2 rfl) ?_
            refine lv_iushr (v := (v1.toUInt32 >>> (v2.toUInt32 &&& Int32.toUInt32 31)).toInt32) hx hb dX5_append_36 rfl ?_
            refine lv_i2b (v := ((v1.toUInt32 >>> (v2.toUInt32 &&& Int32.toUInt32 31)).toInt32).toInt8.toInt32) hx hb dX5_append_37 rfl ?_
            refine sCT_tape hC hK hT hm.1 dX5_append_38 (fun F_38 eF_38 H locs hT => ?_)
            have hm := hm.2 F_38 eF_38
            refine lv_aload_n hx hb dX5_append_39 rfl (lv_at hl 0 rfl) ?_
            refine lv_dup hx hb dX5_append_40 rfl ?_
            refine gCT_cl_1 hC hK hT.1 wq_486 dX5_append_41 ?_
            refine lv_iconst (v := 1) hx hb dX5_append_44 (by decide) ?_
            refine lv_iadd hx hb dX5_append_45 ?_
            refine pCT_cl_1 hC hK hT wq_486 dX5_append_46 (fun C_46 eC_46 H locs hT => ?_)
            have hm := hm C_46 eC_46
            obtain ⟨v2_49, ev2_49⟩ : ∃ y : Int32, y = v2 + (-8) := ⟨_, rfl⟩
            have hm := hm v2_49 ev2_49
            refine lv_iinc (v := v2_49) (lv' := [(2, .int v2_49), (0, .ref (ca)), (1, .int v1)]) hx hb dX5_append_49 hl (k := 2) rfl (by rw [ev2_49]; rfl) (by decide) rfl (fun ls hl => ?_)
            refine lv_goto (tgt := 3) hx hb dX5_append_52 (by decide) ?_
            exact ih3 _ _ _ _ _ _ _ hm hT (lv_sub hl [1, 2, 0] rfl)
  refine lv_bipush (v := 24) hx hb dX5_append_0 (by decide) ?_
  refine lv_istore_n (lv' := [(2, .int 24), (0, .ref (ca)), (1, .int x1)]) hx hb dX5_append_2 rfl hl (by decide) rfl (fun ls hl => ?_)
  exact L3 _ _ _ _ _ _ _ _ hm hT (lv_sub hl [1, 2, 0] rfl)
section KX5_append
variable {p : Program} {l : Launch} {e : Env} {s : State} {m : MethodId} {args : Array Value} {below : List Frame} {meth : Method} {c : Code} {H H0 : Heap} {locs : List Loc} {cells slots : Nat} {Q : State → Prop} {R : Room} {rn mcR msR : Nat}
variable {pc : Nat} {ls : Array Slot} {rest : List Value} {A : Nat → Prop} {D : va_G}
variable {cc : ByteArray} {nL index : Nat} {own host : String}
end KX5_append
