theorem dX5_until_0 : decode cX5_until 0 = .ok (.iload_n 1, 1) := by decide +kernel
theorem dX5_until_1 : decode cX5_until 1 = .ok (.aload_n 0, 1) := by decide +kernel
theorem dX5_until_2 : decode cX5_until 2 = .ok (.getfield 39, 3) := by decide +kernel
theorem dX5_until_5 : decode cX5_until 5 = .ok (.getfield 69, 3) := by decide +kernel
theorem dX5_until_8 : decode cX5_until 8 = .ok (.getfield 93, 3) := by decide +kernel
theorem dX5_until_11 : decode cX5_until 11 = .ok (.invokestatic 114, 3) := by decide +kernel
theorem dX5_until_14 : decode cX5_until 14 = .ok (.aload_n 0, 1) := by decide +kernel
theorem dX5_until_15 : decode cX5_until 15 = .ok (.getfield 43, 3) := by decide +kernel
theorem dX5_until_18 : decode cX5_until 18 = .ok (.aload_n 0, 1) := by decide +kernel
theorem dX5_until_19 : decode cX5_until 19 = .ok (.getfield 39, 3) := by decide +kernel
theorem dX5_until_22 : decode cX5_until 22 = .ok (.invokevirtual 223, 3) := by decide +kernel
theorem dX5_until_25 : decode cX5_until 25 = .ok (.iconst 0, 1) := by decide +kernel
theorem dX5_until_26 : decode cX5_until 26 = .ok (.istore_n 2, 1) := by decide +kernel
theorem dX5_until_27 : decode cX5_until 27 = .ok (.iload_n 2, 1) := by decide +kernel
theorem dX5_until_28 : decode cX5_until 28 = .ok (.sipush 300, 3) := by decide +kernel
theorem dX5_until_31 : decode cX5_until 31 = .ok (.if_icmp .gt 34, 3) := by decide +kernel
theorem dX5_until_34 : decode cX5_until 34 = .ok (.aload_n 0, 1) := by decide +kernel
theorem dX5_until_35 : decode cX5_until 35 = .ok (.getfield 43, 3) := by decide +kernel
theorem dX5_until_38 : decode cX5_until 38 = .ok (.getfield 180, 3) := by decide +kernel
theorem dX5_until_41 : decode cX5_until 41 = .ok (.iload_n 1, 1) := by decide +kernel
theorem dX5_until_42 : decode cX5_until 42 = .ok (.invokestatic 122, 3) := by decide +kernel
theorem dX5_until_45 : decode cX5_until 45 = .ok (.iconst 2, 1) := by decide +kernel
theorem dX5_until_46 : decode cX5_until 46 = .ok (.if_icmp .ne 5, 3) := by decide +kernel
theorem dX5_until_49 : decode cX5_until 49 = .ok (.iload_n 2, 1) := by decide +kernel
theorem dX5_until_50 : decode cX5_until 50 = .ok (.ireturn, 1) := by decide +kernel
theorem dX5_until_51 : decode cX5_until 51 = .ok (.aload_n 0, 1) := by decide +kernel
theorem dX5_until_52 : decode cX5_until 52 = .ok (.getfield 43, 3) := by decide +kernel
theorem dX5_until_55 : decode cX5_until 55 = .ok (.iconst 1, 1) := by decide +kernel
theorem dX5_until_56 : decode cX5_until 56 = .ok (.invokevirtual 220, 3) := by decide +kernel
theorem dX5_until_59 : decode cX5_until 59 = .ok (.iinc 2 1, 3) := by decide +kernel
theorem dX5_until_62 : decode cX5_until 62 = .ok (.goto (-35), 3) := by decide +kernel
theorem dX5_until_65 : decode cX5_until 65 = .ok (.iconst (-1), 1) := by decide +kernel
theorem dX5_until_66 : decode cX5_until 66 = .ok (.ireturn, 1) := by decide +kernel
theorem dX5_foresee_0 : decode cX5_foresee 0 = .ok (.iload_n 1, 1) := by decide +kernel
theorem dX5_foresee_1 : decode cX5_foresee 1 = .ok (.invokestatic 217, 3) := by decide +kernel
theorem dX5_foresee_4 : decode cX5_foresee 4 = .ok (.iload_n 2, 1) := by decide +kernel
theorem dX5_foresee_5 : decode cX5_foresee 5 = .ok (.bipush 8, 2) := by decide +kernel
theorem dX5_foresee_7 : decode cX5_foresee 7 = .ok (.if_icmp .lt 9, 3) := by decide +kernel
theorem dX5_foresee_10 : decode cX5_foresee 10 = .ok (.iload_n 2, 1) := by decide +kernel
theorem dX5_foresee_11 : decode cX5_foresee 11 = .ok (.bipush 12, 2) := by decide +kernel
theorem dX5_foresee_13 : decode cX5_foresee 13 = .ok (.if_icmp .le 13, 3) := by decide +kernel
theorem dX5_foresee_16 : decode cX5_foresee 16 = .ok (.new 109, 3) := by decide +kernel
theorem dX5_foresee_19 : decode cX5_foresee 19 = .ok (.dup, 1) := by decide +kernel
theorem dX5_foresee_20 : decode cX5_foresee 20 = .ok (.ldc 227, 2) := by decide +kernel
theorem dX5_foresee_22 : decode cX5_foresee 22 = .ok (.invokespecial 113, 3) := by decide +kernel
theorem dX5_foresee_25 : decode cX5_foresee 25 = .ok (.athrow, 1) := by decide +kernel
theorem dX5_foresee_26 : decode cX5_foresee 26 = .ok (.aload_n 0, 1) := by decide +kernel
theorem dX5_foresee_27 : decode cX5_foresee 27 = .ok (.getfield 43, 3) := by decide +kernel
theorem dX5_foresee_30 : decode cX5_foresee 30 = .ok (.aload_n 0, 1) := by decide +kernel
theorem dX5_foresee_31 : decode cX5_foresee 31 = .ok (.getfield 39, 3) := by decide +kernel
theorem dX5_foresee_34 : decode cX5_foresee 34 = .ok (.invokevirtual 223, 3) := by decide +kernel
theorem dX5_foresee_37 : decode cX5_foresee 37 = .ok (.aload_n 0, 1) := by decide +kernel
theorem dX5_foresee_38 : decode cX5_foresee 38 = .ok (.getfield 43, 3) := by decide +kernel
theorem dX5_foresee_41 : decode cX5_foresee 41 = .ok (.iload_n 1, 1) := by decide +kernel
theorem dX5_foresee_42 : decode cX5_foresee 42 = .ok (.invokevirtual 220, 3) := by decide +kernel
theorem dX5_foresee_45 : decode cX5_foresee 45 = .ok (.aload_n 0, 1) := by decide +kernel
theorem dX5_foresee_46 : decode cX5_foresee 46 = .ok (.getfield 43, 3) := by decide +kernel
theorem dX5_foresee_49 : decode cX5_foresee 49 = .ok (.iload_n 2, 1) := by decide +kernel
theorem dX5_foresee_50 : decode cX5_foresee 50 = .ok (.invokevirtual 105, 3) := by decide +kernel
theorem dX5_foresee_53 : decode cX5_foresee 53 = .ok (.ireturn, 1) := by decide +kernel
theorem dX5_advise_0 : decode cX5_advise 0 = .ok (.iload_n 1, 1) := by decide +kernel
theorem dX5_advise_1 : decode cX5_advise 1 = .ok (.invokestatic 217, 3) := by decide +kernel
theorem dX5_advise_4 : decode cX5_advise 4 = .ok (.iconst 0, 1) := by decide +kernel
theorem dX5_advise_5 : decode cX5_advise 5 = .ok (.istore_n 2, 1) := by decide +kernel
theorem dX5_advise_6 : decode cX5_advise 6 = .ok (.iconst (-1), 1) := by decide +kernel
theorem dX5_advise_7 : decode cX5_advise 7 = .ok (.istore_n 3, 1) := by decide +kernel
theorem dX5_advise_8 : decode cX5_advise 8 = .ok (.iconst 0, 1) := by decide +kernel
theorem dX5_advise_9 : decode cX5_advise 9 = .ok (.istore 4, 2) := by decide +kernel
theorem dX5_advise_11 : decode cX5_advise 11 = .ok (.iload 4, 2) := by decide +kernel
theorem dX5_advise_13 : decode cX5_advise 13 = .ok (.iconst 1, 1) := by decide +kernel
theorem dX5_advise_14 : decode cX5_advise 14 = .ok (.if_icmp .gt 60, 3) := by decide +kernel
theorem dX5_advise_17 : decode cX5_advise 17 = .ok (.aload_n 0, 1) := by decide +kernel
theorem dX5_advise_18 : decode cX5_advise 18 = .ok (.getfield 43, 3) := by decide +kernel
theorem dX5_advise_21 : decode cX5_advise 21 = .ok (.aload_n 0, 1) := by decide +kernel
theorem dX5_advise_22 : decode cX5_advise 22 = .ok (.getfield 39, 3) := by decide +kernel
theorem dX5_advise_25 : decode cX5_advise 25 = .ok (.invokevirtual 223, 3) := by decide +kernel
theorem dX5_advise_28 : decode cX5_advise 28 = .ok (.aload_n 0, 1) := by decide +kernel
theorem dX5_advise_29 : decode cX5_advise 29 = .ok (.getfield 43, 3) := by decide +kernel
theorem dX5_advise_32 : decode cX5_advise 32 = .ok (.iload 4, 2) := by decide +kernel
theorem dX5_advise_34 : decode cX5_advise 34 = .ok (.putfield 78, 3) := by decide +kernel
theorem dX5_advise_37 : decode cX5_advise 37 = .ok (.aload_n 0, 1) := by decide +kernel
theorem dX5_advise_38 : decode cX5_advise 38 = .ok (.getfield 43, 3) := by decide +kernel
theorem dX5_advise_41 : decode cX5_advise 41 = .ok (.iload_n 1, 1) := by decide +kernel
theorem dX5_advise_42 : decode cX5_advise 42 = .ok (.invokevirtual 220, 3) := by decide +kernel
theorem dX5_advise_45 : decode cX5_advise 45 = .ok (.aload_n 0, 1) := by decide +kernel
theorem dX5_advise_46 : decode cX5_advise 46 = .ok (.getfield 43, 3) := by decide +kernel
theorem dX5_advise_49 : decode cX5_advise 49 = .ok (.bipush 10, 2) := by decide +kernel
theorem dX5_advise_51 : decode cX5_advise 51 = .ok (.invokevirtual 105, 3) := by decide +kernel
theorem dX5_advise_54 : decode cX5_advise 54 = .ok (.istore 5, 2) := by decide +kernel
theorem dX5_advise_56 : decode cX5_advise 56 = .ok (.iload 5, 2) := by decide +kernel
theorem dX5_advise_58 : decode cX5_advise 58 = .ok (.iload_n 3, 1) := by decide +kernel
theorem dX5_advise_59 : decode cX5_advise 59 = .ok (.if_icmp .le 9, 3) := by decide +kernel
theorem dX5_advise_62 : decode cX5_advise 62 = .ok (.iload 4, 2) := by decide +kernel
theorem dX5_advise_64 : decode cX5_advise 64 = .ok (.istore_n 2, 1) := by decide +kernel
theorem dX5_advise_65 : decode cX5_advise 65 = .ok (.iload 5, 2) := by decide +kernel
theorem dX5_advise_67 : decode cX5_advise 67 = .ok (.istore_n 3, 1) := by decide +kernel
theorem dX5_advise_68 : decode cX5_advise 68 = .ok (.iinc 4 1, 3) := by decide +kernel
theorem dX5_advise_71 : decode cX5_advise 71 = .ok (.goto (-60), 3) := by decide +kernel
theorem dX5_advise_74 : decode cX5_advise 74 = .ok (.iload_n 2, 1) := by decide +kernel
theorem dX5_advise_75 : decode cX5_advise 75 = .ok (.ireturn, 1) := by decide +kernel
theorem dX5_missed_0 : decode cX5_missed 0 = .ok (.iload_n 1, 1) := by decide +kernel
theorem dX5_missed_1 : decode cX5_missed 1 = .ok (.invokestatic 217, 3) := by decide +kernel
theorem dX5_missed_4 : decode cX5_missed 4 = .ok (.iconst (-1), 1) := by decide +kernel
theorem dX5_missed_5 : decode cX5_missed 5 = .ok (.istore_n 2, 1) := by decide +kernel
theorem dX5_missed_6 : decode cX5_missed 6 = .ok (.iconst 0, 1) := by decide +kernel
theorem dX5_missed_7 : decode cX5_missed 7 = .ok (.istore_n 3, 1) := by decide +kernel
theorem dX5_missed_8 : decode cX5_missed 8 = .ok (.iconst 0, 1) := by decide +kernel
theorem dX5_missed_9 : decode cX5_missed 9 = .ok (.istore 4, 2) := by decide +kernel
theorem dX5_missed_11 : decode cX5_missed 11 = .ok (.iload 4, 2) := by decide +kernel
theorem dX5_missed_13 : decode cX5_missed 13 = .ok (.aload_n 0, 1) := by decide +kernel
theorem dX5_missed_14 : decode cX5_missed 14 = .ok (.getfield 39, 3) := by decide +kernel
theorem dX5_missed_17 : decode cX5_missed 17 = .ok (.getfield 69, 3) := by decide +kernel
theorem dX5_missed_20 : decode cX5_missed 20 = .ok (.getfield 90, 3) := by decide +kernel
theorem dX5_missed_23 : decode cX5_missed 23 = .ok (.if_icmp .ge 65, 3) := by decide +kernel
theorem dX5_missed_26 : decode cX5_missed 26 = .ok (.aload_n 0, 1) := by decide +kernel
theorem dX5_missed_27 : decode cX5_missed 27 = .ok (.getfield 43, 3) := by decide +kernel
theorem dX5_missed_30 : decode cX5_missed 30 = .ok (.aload_n 0, 1) := by decide +kernel
theorem dX5_missed_31 : decode cX5_missed 31 = .ok (.getfield 39, 3) := by decide +kernel
theorem dX5_missed_34 : decode cX5_missed 34 = .ok (.invokevirtual 223, 3) := by decide +kernel
theorem dX5_missed_37 : decode cX5_missed 37 = .ok (.aload_n 0, 1) := by decide +kernel
theorem dX5_missed_38 : decode cX5_missed 38 = .ok (.getfield 43, 3) := by decide +kernel
theorem dX5_missed_41 : decode cX5_missed 41 = .ok (.iload 4, 2) := by decide +kernel
theorem dX5_missed_43 : decode cX5_missed 43 = .ok (.putfield 229, 3) := by decide +kernel
theorem dX5_missed_46 : decode cX5_missed 46 = .ok (.aload_n 0, 1) := by decide +kernel
theorem dX5_missed_47 : decode cX5_missed 47 = .ok (.getfield 43, 3) := by decide +kernel
theorem dX5_missed_50 : decode cX5_missed 50 = .ok (.iload_n 1, 1) := by decide +kernel
theorem dX5_missed_51 : decode cX5_missed 51 = .ok (.invokevirtual 220, 3) := by decide +kernel
theorem dX5_missed_54 : decode cX5_missed 54 = .ok (.aload_n 0, 1) := by decide +kernel
theorem dX5_missed_55 : decode cX5_missed 55 = .ok (.getfield 43, 3) := by decide +kernel
theorem dX5_missed_58 : decode cX5_missed 58 = .ok (.bipush 10, 2) := by decide +kernel
theorem dX5_missed_60 : decode cX5_missed 60 = .ok (.invokevirtual 105, 3) := by decide +kernel
theorem dX5_missed_63 : decode cX5_missed 63 = .ok (.istore 5, 2) := by decide +kernel
theorem dX5_missed_65 : decode cX5_missed 65 = .ok (.iload_n 2, 1) := by decide +kernel
theorem dX5_missed_66 : decode cX5_missed 66 = .ok (.iconst (-1), 1) := by decide +kernel
theorem dX5_missed_67 : decode cX5_missed 67 = .ok (.if_icmp .eq 9, 3) := by decide +kernel
theorem dX5_missed_70 : decode cX5_missed 70 = .ok (.iload 5, 2) := by decide +kernel
theorem dX5_missed_72 : decode cX5_missed 72 = .ok (.iload_n 3, 1) := by decide +kernel
theorem dX5_missed_73 : decode cX5_missed 73 = .ok (.if_icmp .ge 9, 3) := by decide +kernel
theorem dX5_missed_76 : decode cX5_missed 76 = .ok (.iload 4, 2) := by decide +kernel
theorem dX5_missed_78 : decode cX5_missed 78 = .ok (.istore_n 2, 1) := by decide +kernel
theorem dX5_missed_79 : decode cX5_missed 79 = .ok (.iload 5, 2) := by decide +kernel
theorem dX5_missed_81 : decode cX5_missed 81 = .ok (.istore_n 3, 1) := by decide +kernel
theorem dX5_missed_82 : decode cX5_missed 82 = .ok (.iinc 4 1, 3) := by decide +kernel
theorem dX5_missed_85 : decode cX5_missed 85 = .ok (.goto (-74), 3) := by decide +kernel
theorem dX5_missed_88 : decode cX5_missed 88 = .ok (.iload_n 2, 1) := by decide +kernel
theorem dX5_missed_89 : decode cX5_missed 89 = .ok (.ireturn, 1) := by decide +kernel
theorem mi_X5_until : MInfo yX5_until cX5_until 3 (some .int) 1 := ⟨wq_795, wq_78, by decide, ⟨by decide +kernel, by decide +kernel, by decide +kernel⟩, by decide +kernel⟩
theorem mi_X5_foresee : MInfo yX5_foresee cX5_foresee 3 (some .int) 2 := ⟨wq_806, wq_78, by decide, ⟨by decide +kernel, by decide +kernel, by decide +kernel⟩, by decide +kernel⟩
theorem mi_X5_advise : MInfo yX5_advise cX5_advise 6 (some .int) 1 := ⟨wq_811, wq_78, by decide, ⟨by decide +kernel, by decide +kernel, by decide +kernel⟩, by decide +kernel⟩
theorem mi_X5_missed : MInfo yX5_missed cX5_missed 6 (some .int) 1 := ⟨wq_815, wq_78, by decide, ⟨by decide +kernel, by decide +kernel, by decide +kernel⟩, by decide +kernel⟩
def wl_X5_until_27 (q : Nat → Nat) (P : M2) (KX : Nat → Prop) (K : Int32 → Nat → M2 → M2 → M2 → Prop) : Nat → M2 → M2 → M2 → Int32 → Int32 → Prop
  | 0, _, _, _, _, _ => False
  | n + 1, F, G, C, v1, v2 => ((300 < v2 → K ((-1)) ((q 20)) F G C) ∧ (¬ 300 < v2 → ((¬ (atv (G 10) 8 v1) = 2 → wp_X4_run P G 1 (fun G_56 => (∀ v2_59 : Int32, v2_59 = v2 + 1 → wl_X5_until_27 q P KX K n F G_56 C v1 v2_59))) ∧ ((atv (G 10) 8 v1) = 2 → K v2 ((q 20)) F G C))))
def wp_X5_until (q : Nat → Nat) (P : M2) (KX : Nat → Prop) (ap : Nat) (F : M2) (G : M2) (C : M2) (x1 : Int32) (K : Int32 → Nat → M2 → M2 → M2 → Prop) : Prop := ((¬ x1 < 0 → x1 < (P 24 0) → wp_X4_copyFrom q F ap G (fun ap_22 G_22 => ap_22 = (q 20) ∧ wl_X5_until_27 q P KX K fK F G_22 C x1 0)) ∧ ((x1 < 0 ∨ ¬ x1 < (P 24 0)) → KX 2))
set_option maxRecDepth 100000 in
set_option maxHeartbeats 4000000 in
theorem c_X5_until (l : Launch) (D : va_G) (Z : Nat → ClassId) (a b q : Nat → Nat) (ca tp rd sp : Nat) (P : M2) (ap : Nat) (F : M2) (G : M2) (C : M2) (sz : Nat) (x1 : Int32) (K : Int32 → Nat → M2 → M2 → M2 → Prop) (hm : wp_X5_until q P (fun _ => False) ap F G C x1 K) : Met l yX5_until (wy yX5_until cX5_until 3 (some .int)) (rk 7 0 0) (pre vwCl D Z (CA Z a b q ca tp rd sp P ap F G C) sz [.ref (ca), .int x1]) (poI vwCl D Z (fun u : Nat × M2 × M2 × M2 => CA Z a b q ca tp rd sp P u.1 u.2.1 u.2.2.1 u.2.2.2) (ap, F, G, C) sz (fun (r : Int32) (u : Nat × M2 × M2 × M2) => K r u.1 u.2.1 u.2.2.1 u.2.2.2)) 0 0 (va_A (CA Z a b q ca tp rd sp P ap F G C) sz) := by
  refine rw_of (ty := .int) (wsF := (fun u : Nat × M2 × M2 × M2 => CA Z a b q ca tp rd sp P u.1 u.2.1 u.2.2.1 u.2.2.2)) (u0 := (ap, F, G, C)) (by decide +kernel) (Nat.le_of_ble_eq_true rfl) rfl ?_
  intro p e s m args below meth c Q A hC hN hsz hT hK hret ls hl
  have hx := hC.1
  have hb := hC.2.1
  have hl : lv_has ls 3 [(0, .ref (ca)), (1, .int x1)] := hl
  have hT : TS vwCl D (CA Z a b q ca tp rd sp P ap F G C) A s.heap s.heap [] := hT
  have L27 : ∀ (n27 : Nat), ∀ (F : M2) (G : M2) (C : M2) (v1 : Int32) (v2 : Int32) (H : Heap) (locs : List Loc) (ls : Array Slot), wl_X5_until_27 q P (fun _ => False) K n27 F G C v1 v2 → TS vwCl D (CA Z a b q ca tp rd sp P (q 20) F G C) A s.heap H locs → lv_has ls 3 [(0, .ref (ca)), (1, .int v1), (2, .int v2)] → W p l e (rk 7 0 0) s m args below meth c H locs 0 0 Q (F0 m 27 ls []) := by
    intro n27
    induction n27 with
    | zero =>
      intro F G C v1 v2 H locs ls hm hT hl
      exact False.elim hm
    | succ n27 ih27 =>
      intro F G C v1 v2 H locs ls hm hT hl
      refine lv_iload_n hx hb dX5_until_27 rfl (lv_at hl 2 rfl) ?_
      refine lv_sipush (v := 300) hx hb dX5_until_28 (by decide) ?_
      refine lv_icmp_gt (tgt := 65) hx hb dX5_until_31 (by decide) (fun c_31 => ?_) (fun c_31 => ?_)
      · have hm := hm.1 c_31
        refine lv_iconst (v := (-1)) hx hb dX5_until_65 (by decide) ?_
        exact hret 66 _ _ _ _ ((q 20), F, G, C) hm hT rfl dX5_until_66
      · have hm := hm.2 c_31
        refine lv_aload_n hx hb dX5_until_34 rfl (lv_at hl 0 rfl) ?_
        refine gCA_cl_6 hC hK hT.1 wq_491 dX5_until_35 ?_
        refine gCA_Atun_10 hC hK hT.1 wq_446 dX5_until_38 ?_
        refine lv_iload_n hx hb dX5_until_41 rfl (lv_at hl 1 rfl) ?_
        refine w_atS (q0 := 40) hC hN hK hT.1 wq_605 rfl (by decide) (by decide) hl.1 (Nat.le_of_ble_eq_true rfl) ⟨Nat.le_refl _, Nat.le_refl _⟩ dX5_until_42 ?_
        refine lv_iconst (v := 2) hx hb dX5_until_45 (by decide) ?_
        refine lv_icmp_ne (tgt := 51) hx hb dX5_until_46 (by decide) (fun c_46 => ?_) (fun c_46 => ?_)
        · have hm := hm.1 c_46
          refine lv_aload_n hx hb dX5_until_51 rfl (lv_at hl 0 rfl) ?_
          refine gCA_cl_6 hC hK hT.1 wq_491 dX5_until_52 ?_
          refine lv_iconst (v := 1) hx hb dX5_until_55 (by decide) ?_
          refine kx_X4_run hC hN hK hT (cx_TWCAa Z a b q ca tp rd sp P F G C) rfl hm wq_728 (by decide) hl.1 (Nat.le_of_ble_eq_true rfl) ⟨Nat.le_refl _, Nat.le_refl _⟩ dX5_until_56 (fun G_56 H locs hm hT => ?_)
          have hT : TS vwCl D (CA Z a b q ca tp rd sp P (q 20) F G_56 C) A s.heap H locs := hT
          obtain ⟨v2_59, ev2_59⟩ : ∃ y : Int32, y = v2 + 1 := ⟨_, rfl⟩
          have hm := hm v2_59 ev2_59
          refine lv_iinc (v := v2_59) (lv' := [(2, .int v2_59), (0, .ref (ca)), (1, .int v1)]) hx hb dX5_until_59 hl (k := 2) rfl (by rw [ev2_59]; rfl) (by decide) rfl (fun ls hl => ?_)
          refine lv_goto (tgt := 27) hx hb dX5_until_62 (by decide) ?_
          exact ih27 _ _ _ _ _ _ _ _ hm hT (lv_sub hl [1, 2, 0] rfl)
        · have hm := hm.2 c_46
          refine lv_iload_n hx hb dX5_until_49 rfl (lv_at hl 2 rfl) ?_
          exact hret 50 _ _ _ _ ((q 20), F, G, C) hm hT rfl dX5_until_50
  refine lv_iload_n hx hb dX5_until_0 rfl (lv_at hl 1 rfl) ?_
  refine lv_aload_n hx hb dX5_until_1 rfl (lv_at hl 0 rfl) ?_
  refine gCA_cl_5 hC hK hT.1 wq_490 dX5_until_2 ?_
  refine gCA_tun_0 hC hK hT.1 wq_426 dX5_until_5 ?_
  refine gCA_plan_4 hC hK hT.1 wq_305 dX5_until_8 ?_
  have h_11 := w_nx hm.2
  refine w_needOneOfN hC h_11.1 h_11.2 wq_601 (by decide) hl.1 (Nat.le_of_ble_eq_true rfl) ⟨Nat.le_refl _, Nat.le_refl _⟩ dX5_until_11 ?_
  have hm := hm.1 h_11.1 h_11.2
  refine lv_aload_n hx hb dX5_until_14 rfl (lv_at hl 0 rfl) ?_
  refine gCA_cl_6 hC hK hT.1 wq_491 dX5_until_15 ?_
  refine lv_aload_n hx hb dX5_until_18 rfl (lv_at hl 0 rfl) ?_
  refine gCA_cl_5 hC hK hT.1 wq_490 dX5_until_19 ?_
  refine kx_X4_copyFrom hC hN hK hT (cx_TTCA Z a b q ca tp rd sp P ap F G C) rfl hm wq_796 (by decide) hl.1 (Nat.le_of_ble_eq_true rfl) ⟨Nat.le_refl _, Nat.le_refl _⟩ dX5_until_22 (fun ap_22 G_22 H locs hm hT => ?_)
  have hT : TS vwCl D (CA Z a b q ca tp rd sp P ap_22 F G_22 C) A s.heap H locs := hT
  obtain ⟨eap_22, hm⟩ := hm
  subst eap_22
  refine lv_iconst (v := 0) hx hb dX5_until_25 (by decide) ?_
  refine lv_istore_n (lv' := [(2, .int 0), (0, .ref (ca)), (1, .int x1)]) hx hb dX5_until_26 rfl hl (by decide) rfl (fun ls hl => ?_)
  exact L27 _ _ _ _ _ _ _ _ _ hm hT (lv_sub hl [1, 2, 0] rfl)
section KX5_until
variable {p : Program} {l : Launch} {e : Env} {s : State} {m : MethodId} {args : Array Value} {below : List Frame} {meth : Method} {c : Code} {H H0 : Heap} {locs : List Loc} {cells slots : Nat} {Q : State → Prop} {R : Room} {rn mcR msR : Nat}
variable {pc : Nat} {ls : Array Slot} {rest : List Value} {A : Nat → Prop} {D : va_G}
variable {cc : ByteArray} {nL index : Nat} {own host : String}
end KX5_until
def wp_X5_foresee (q : Nat → Nat) (P : M2) (KX : Nat → Prop) (ap : Nat) (F : M2) (G : M2) (C : M2) (x1 : Int32) (x2 : Int32) (K : Int32 → Nat → M2 → M2 → M2 → Prop) : Prop := ((¬ x1 < 1 → x1 ≤ 120 → ((x2 < 8 → KX 2) ∧ (¬ x2 < 8 → ((x2 ≤ 12 → wp_X4_copyFrom q F ap G (fun ap_34 G_34 => ap_34 = (q 20) ∧ wp_X4_run P G_34 x1 (fun G_42 => wp_X4_tally P G_42 x2 (fun r_50 => K r_50 ((q 20)) F G_42 C)))) ∧ (¬ x2 ≤ 12 → KX 2))))) ∧ ((x1 < 1 ∨ ¬ x1 ≤ 120) → KX 1))
set_option maxRecDepth 100000 in
set_option maxHeartbeats 4000000 in
theorem c_X5_foresee (l : Launch) (D : va_G) (Z : Nat → ClassId) (a b q : Nat → Nat) (ca tp rd sp : Nat) (P : M2) (ap : Nat) (F : M2) (G : M2) (C : M2) (sz : Nat) (x1 : Int32) (x2 : Int32) (K : Int32 → Nat → M2 → M2 → M2 → Prop) (hm : wp_X5_foresee q P (fun _ => False) ap F G C x1 x2 K) : Met l yX5_foresee (wy yX5_foresee cX5_foresee 3 (some .int)) (rk 7 0 0) (pre vwCl D Z (CA Z a b q ca tp rd sp P ap F G C) sz [.ref (ca), .int x1, .int x2]) (poI vwCl D Z (fun u : Nat × M2 × M2 × M2 => CA Z a b q ca tp rd sp P u.1 u.2.1 u.2.2.1 u.2.2.2) (ap, F, G, C) sz (fun (r : Int32) (u : Nat × M2 × M2 × M2) => K r u.1 u.2.1 u.2.2.1 u.2.2.2)) 0 0 (va_A (CA Z a b q ca tp rd sp P ap F G C) sz) := by
  refine rw_of (ty := .int) (wsF := (fun u : Nat × M2 × M2 × M2 => CA Z a b q ca tp rd sp P u.1 u.2.1 u.2.2.1 u.2.2.2)) (u0 := (ap, F, G, C)) (by decide +kernel) (Nat.le_of_ble_eq_true rfl) rfl ?_
  intro p e s m args below meth c Q A hC hN hsz hT hK hret ls hl
  have hx := hC.1
  have hb := hC.2.1
  have hl : lv_has ls 3 [(0, .ref (ca)), (1, .int x1), (2, .int x2)] := hl
  have hT : TS vwCl D (CA Z a b q ca tp rd sp P ap F G C) A s.heap s.heap [] := hT
  refine lv_iload_n hx hb dX5_foresee_0 rfl (lv_at hl 1 rfl) ?_
  have h_1 := w_nx hm.2
  refine w_needMinutesN hC h_1.1 h_1.2 wq_709 (by decide) hl.1 (Nat.le_of_ble_eq_true rfl) ⟨Nat.le_refl _, Nat.le_refl _⟩ dX5_foresee_1 ?_
  have hm := hm.1 h_1.1 h_1.2
  refine lv_iload_n hx hb dX5_foresee_4 rfl (lv_at hl 2 rfl) ?_
  refine lv_bipush (v := 8) hx hb dX5_foresee_5 (by decide) ?_
  refine lv_icmp_lt (tgt := 16) hx hb dX5_foresee_7 (by decide) (fun c_7 => ?_) (fun c_7 => ?_)
  · have hm := hm.1 c_7
    exact False.elim hm
  · have hm := hm.2 c_7
    refine lv_iload_n hx hb dX5_foresee_10 rfl (lv_at hl 2 rfl) ?_
    refine lv_bipush (v := 12) hx hb dX5_foresee_11 (by decide) ?_
    refine lv_icmp_le (tgt := 26) hx hb dX5_foresee_13 (by decide) (fun c_13 => ?_) (fun c_13 => ?_)
    · have hm := hm.1 c_13
      refine lv_aload_n hx hb dX5_foresee_26 rfl (lv_at hl 0 rfl) ?_
      refine gCA_cl_6 hC hK hT.1 wq_491 dX5_foresee_27 ?_
      refine lv_aload_n hx hb dX5_foresee_30 rfl (lv_at hl 0 rfl) ?_
      refine gCA_cl_5 hC hK hT.1 wq_490 dX5_foresee_31 ?_
      refine kx_X4_copyFrom hC hN hK hT (cx_TTCA Z a b q ca tp rd sp P ap F G C) rfl hm wq_796 (by decide) hl.1 (Nat.le_of_ble_eq_true rfl) ⟨Nat.le_refl _, Nat.le_refl _⟩ dX5_foresee_34 (fun ap_34 G_34 H locs hm hT => ?_)
      have hT : TS vwCl D (CA Z a b q ca tp rd sp P ap_34 F G_34 C) A s.heap H locs := hT
      obtain ⟨eap_34, hm⟩ := hm
      subst eap_34
      refine lv_aload_n hx hb dX5_foresee_37 rfl (lv_at hl 0 rfl) ?_
      refine gCA_cl_6 hC hK hT.1 wq_491 dX5_foresee_38 ?_
      refine lv_iload_n hx hb dX5_foresee_41 rfl (lv_at hl 1 rfl) ?_
      refine kx_X4_run hC hN hK hT (cx_TWCAa Z a b q ca tp rd sp P F G_34 C) rfl hm wq_728 (by decide) hl.1 (Nat.le_of_ble_eq_true rfl) ⟨Nat.le_refl _, Nat.le_refl _⟩ dX5_foresee_42 (fun G_42 H locs hm hT => ?_)
      have hT : TS vwCl D (CA Z a b q ca tp rd sp P (q 20) F G_42 C) A s.heap H locs := hT
      refine lv_aload_n hx hb dX5_foresee_45 rfl (lv_at hl 0 rfl) ?_
      refine gCA_cl_6 hC hK hT.1 wq_491 dX5_foresee_46 ?_
      refine lv_iload_n hx hb dX5_foresee_49 rfl (lv_at hl 2 rfl) ?_
      refine kx_X4_tally hC hN hK hT.1 hT.D' (sx_TWCAa Z a b q ca tp rd sp P F G_42 C) rfl hm wq_511 (by decide) hl.1 (Nat.le_of_ble_eq_true rfl) ⟨Nat.le_refl _, Nat.le_refl _⟩ dX5_foresee_50 (fun r_50 hm => ?_)
      exact hret 53 _ _ _ _ ((q 20), F, G_42, C) hm hT rfl dX5_foresee_53
    · have hm := hm.2 c_13
      exact False.elim hm
section KX5_foresee
variable {p : Program} {l : Launch} {e : Env} {s : State} {m : MethodId} {args : Array Value} {below : List Frame} {meth : Method} {c : Code} {H H0 : Heap} {locs : List Loc} {cells slots : Nat} {Q : State → Prop} {R : Room} {rn mcR msR : Nat}
variable {pc : Nat} {ls : Array Slot} {rest : List Value} {A : Nat → Prop} {D : va_G}
variable {cc : ByteArray} {nL index : Nat} {own host : String}
end KX5_foresee
def wl_X5_advise_11 (q : Nat → Nat) (P : M2) (KX : Nat → Prop) (K : Int32 → Nat → M2 → M2 → M2 → Prop) : Nat → Nat → M2 → M2 → M2 → Int32 → Int32 → Int32 → Int32 → Prop
  | 0, _, _, _, _, _, _, _, _ => False
  | n + 1, ap, F, G, C, v1, v2, v3, v4 => ((1 < v4 → K v2 ap F G C) ∧ (¬ 1 < v4 → wp_X4_copyFrom q F ap G (fun ap_25 G_25 => ap_25 = (q 20) ∧ (∀ G_34 : M2, G_34 = up2 G_25 2 (fun _ => v4) → wp_X4_run P G_34 v1 (fun G_42 => wp_X4_tally P G_42 10 (fun r_51 => ((r_51 ≤ v3 → (∀ v4_68 : Int32, v4_68 = v4 + 1 → wl_X5_advise_11 q P KX K n ((q 20)) F G_42 C v1 v2 v3 v4_68)) ∧ (¬ r_51 ≤ v3 → (∀ v4_68 : Int32, v4_68 = v4 + 1 → wl_X5_advise_11 q P KX K n ((q 20)) F G_42 C v1 v4 r_51 v4_68)))))))))
def wp_X5_advise (q : Nat → Nat) (P : M2) (KX : Nat → Prop) (ap : Nat) (F : M2) (G : M2) (C : M2) (x1 : Int32) (K : Int32 → Nat → M2 → M2 → M2 → Prop) : Prop := ((¬ x1 < 1 → x1 ≤ 120 → wl_X5_advise_11 q P KX K fK ap F G C x1 0 ((-1)) 0) ∧ ((x1 < 1 ∨ ¬ x1 ≤ 120) → KX 1))
set_option maxRecDepth 100000 in
set_option maxHeartbeats 4000000 in
theorem c_X5_advise (l : Launch) (D : va_G) (Z : Nat → ClassId) (a b q : Nat → Nat) (ca tp rd sp : Nat) (P : M2) (ap : Nat) (F : M2) (G : M2) (C : M2) (sz : Nat) (x1 : Int32) (K : Int32 → Nat → M2 → M2 → M2 → Prop) (hm : wp_X5_advise q P (fun _ => False) ap F G C x1 K) : Met l yX5_advise (wy yX5_advise cX5_advise 6 (some .int)) (rk 7 0 0) (pre vwCl D Z (CA Z a b q ca tp rd sp P ap F G C) sz [.ref (ca), .int x1]) (poI vwCl D Z (fun u : Nat × M2 × M2 × M2 => CA Z a b q ca tp rd sp P u.1 u.2.1 u.2.2.1 u.2.2.2) (ap, F, G, C) sz (fun (r : Int32) (u : Nat × M2 × M2 × M2) => K r u.1 u.2.1 u.2.2.1 u.2.2.2)) 0 0 (va_A (CA Z a b q ca tp rd sp P ap F G C) sz) := by
  refine rw_of (ty := .int) (wsF := (fun u : Nat × M2 × M2 × M2 => CA Z a b q ca tp rd sp P u.1 u.2.1 u.2.2.1 u.2.2.2)) (u0 := (ap, F, G, C)) (by decide +kernel) (Nat.le_of_ble_eq_true rfl) rfl ?_
  intro p e s m args below meth c Q A hC hN hsz hT hK hret ls hl
  have hx := hC.1
  have hb := hC.2.1
  have hl : lv_has ls 6 [(0, .ref (ca)), (1, .int x1)] := hl
  have hT : TS vwCl D (CA Z a b q ca tp rd sp P ap F G C) A s.heap s.heap [] := hT
  have L11 : ∀ (n11 : Nat), ∀ (ap : Nat) (F : M2) (G : M2) (C : M2) (v1 : Int32) (v2 : Int32) (v3 : Int32) (v4 : Int32) (H : Heap) (locs : List Loc) (ls : Array Slot), wl_X5_advise_11 q P (fun _ => False) K n11 ap F G C v1 v2 v3 v4 → TS vwCl D (CA Z a b q ca tp rd sp P ap F G C) A s.heap H locs → lv_has ls 6 [(0, .ref (ca)), (1, .int v1), (2, .int v2), (3, .int v3), (4, .int v4)] → W p l e (rk 7 0 0) s m args below meth c H locs 0 0 Q (F0 m 11 ls []) := by
    intro n11
    induction n11 with
    | zero =>
      intro ap F G C v1 v2 v3 v4 H locs ls hm hT hl
      exact False.elim hm
    | succ n11 ih11 =>
      intro ap F G C v1 v2 v3 v4 H locs ls hm hT hl
      refine lv_iload hx hb dX5_advise_11 (lv_at hl 4 rfl) ?_
      refine lv_iconst (v := 1) hx hb dX5_advise_13 (by decide) ?_
      refine lv_icmp_gt (tgt := 74) hx hb dX5_advise_14 (by decide) (fun c_14 => ?_) (fun c_14 => ?_)
      · have hm := hm.1 c_14
        refine lv_iload_n hx hb dX5_advise_74 rfl (lv_at hl 2 rfl) ?_
        exact hret 75 _ _ _ _ (ap, F, G, C) hm hT rfl dX5_advise_75
      · have hm := hm.2 c_14
        refine lv_aload_n hx hb dX5_advise_17 rfl (lv_at hl 0 rfl) ?_
        refine gCA_cl_6 hC hK hT.1 wq_491 dX5_advise_18 ?_
        refine lv_aload_n hx hb dX5_advise_21 rfl (lv_at hl 0 rfl) ?_
        refine gCA_cl_5 hC hK hT.1 wq_490 dX5_advise_22 ?_
        refine kx_X4_copyFrom hC hN hK hT (cx_TTCA Z a b q ca tp rd sp P ap F G C) rfl hm wq_796 (by decide) hl.1 (Nat.le_of_ble_eq_true rfl) ⟨Nat.le_refl _, Nat.le_refl _⟩ dX5_advise_25 (fun ap_25 G_25 H locs hm hT => ?_)
        have hT : TS vwCl D (CA Z a b q ca tp rd sp P ap_25 F G_25 C) A s.heap H locs := hT
        obtain ⟨eap_25, hm⟩ := hm
        subst eap_25
        refine lv_aload_n hx hb dX5_advise_28 rfl (lv_at hl 0 rfl) ?_
        refine gCA_cl_6 hC hK hT.1 wq_491 dX5_advise_29 ?_
        refine lv_iload hx hb dX5_advise_32 (lv_at hl 4 rfl) ?_
        refine pCA_Atun_2 hC hK hT wq_430 dX5_advise_34 (fun G_34 eG_34 H locs hT => ?_)
        have hm := hm G_34 eG_34
        refine lv_aload_n hx hb dX5_advise_37 rfl (lv_at hl 0 rfl) ?_
        refine gCA_cl_6 hC hK hT.1 wq_491 dX5_advise_38 ?_
        refine lv_iload_n hx hb dX5_advise_41 rfl (lv_at hl 1 rfl) ?_
        refine kx_X4_run hC hN hK hT (cx_TWCAa Z a b q ca tp rd sp P F G_34 C) rfl hm wq_728 (by decide) hl.1 (Nat.le_of_ble_eq_true rfl) ⟨Nat.le_refl _, Nat.le_refl _⟩ dX5_advise_42 (fun G_42 H locs hm hT => ?_)
        have hT : TS vwCl D (CA Z a b q ca tp rd sp P (q 20) F G_42 C) A s.heap H locs := hT
        refine lv_aload_n hx hb dX5_advise_45 rfl (lv_at hl 0 rfl) ?_
        refine gCA_cl_6 hC hK hT.1 wq_491 dX5_advise_46 ?_
        refine lv_bipush (v := 10) hx hb dX5_advise_49 (by decide) ?_
        refine kx_X4_tally hC hN hK hT.1 hT.D' (sx_TWCAa Z a b q ca tp rd sp P F G_42 C) rfl hm wq_511 (by decide) hl.1 (Nat.le_of_ble_eq_true rfl) ⟨Nat.le_refl _, Nat.le_refl _⟩ dX5_advise_51 (fun r_51 hm => ?_)
        refine lv_istore (lv' := [(5, .int r_51), (0, .ref (ca)), (1, .int v1), (2, .int v2), (3, .int v3), (4, .int v4)]) hx hb dX5_advise_54 hl (by decide) rfl (fun ls hl => ?_)
        refine lv_iload hx hb dX5_advise_56 (lv_at hl 0 rfl) ?_
        refine lv_iload_n hx hb dX5_advise_58 rfl (lv_at hl 4 rfl) ?_
        refine lv_icmp_le (tgt := 68) hx hb dX5_advise_59 (by decide) (fun c_59 => ?_) (fun c_59 => ?_)
        · have hm := hm.1 c_59
          obtain ⟨v4_68, ev4_68⟩ : ∃ y : Int32, y = v4 + 1 := ⟨_, rfl⟩
          have hm := hm v4_68 ev4_68
          refine lv_iinc (v := v4_68) (lv' := [(4, .int v4_68), (5, .int r_51), (0, .ref (ca)), (1, .int v1), (2, .int v2), (3, .int v3)]) hx hb dX5_advise_68 hl (k := 5) rfl (by rw [ev4_68]; rfl) (by decide) rfl (fun ls hl => ?_)
          refine lv_goto (tgt := 11) hx hb dX5_advise_71 (by decide) ?_
          exact ih11 _ _ _ _ _ _ _ _ _ _ _ hm hT (lv_sub hl [2, 3, 4, 5, 0] rfl)
        · have hm := hm.2 c_59
          refine lv_iload hx hb dX5_advise_62 (lv_at hl 5 rfl) ?_
          refine lv_istore_n (lv' := [(2, .int v4), (5, .int r_51), (0, .ref (ca)), (1, .int v1), (3, .int v3), (4, .int v4)]) hx hb dX5_advise_64 rfl hl (by decide) rfl (fun ls hl => ?_)
          refine lv_iload hx hb dX5_advise_65 (lv_at hl 1 rfl) ?_
          refine lv_istore_n (lv' := [(3, .int r_51), (2, .int v4), (5, .int r_51), (0, .ref (ca)), (1, .int v1), (4, .int v4)]) hx hb dX5_advise_67 rfl hl (by decide) rfl (fun ls hl => ?_)
          obtain ⟨v4_68, ev4_68⟩ : ∃ y : Int32, y = v4 + 1 := ⟨_, rfl⟩
          have hm := hm v4_68 ev4_68
          refine lv_iinc (v := v4_68) (lv' := [(4, .int v4_68), (3, .int r_51), (2, .int v4), (5, .int r_51), (0, .ref (ca)), (1, .int v1)]) hx hb dX5_advise_68 hl (k := 5) rfl (by rw [ev4_68]; rfl) (by decide) rfl (fun ls hl => ?_)
          refine lv_goto (tgt := 11) hx hb dX5_advise_71 (by decide) ?_
          exact ih11 _ _ _ _ _ _ _ _ _ _ _ hm hT (lv_sub hl [4, 5, 2, 1, 0] rfl)
  refine lv_iload_n hx hb dX5_advise_0 rfl (lv_at hl 1 rfl) ?_
  have h_1 := w_nx hm.2
  refine w_needMinutesN hC h_1.1 h_1.2 wq_709 (by decide) hl.1 (Nat.le_of_ble_eq_true rfl) ⟨Nat.le_refl _, Nat.le_refl _⟩ dX5_advise_1 ?_
  have hm := hm.1 h_1.1 h_1.2
  refine lv_iconst (v := 0) hx hb dX5_advise_4 (by decide) ?_
  refine lv_istore_n (lv' := [(2, .int 0), (0, .ref (ca)), (1, .int x1)]) hx hb dX5_advise_5 rfl hl (by decide) rfl (fun ls hl => ?_)
  refine lv_iconst (v := (-1)) hx hb dX5_advise_6 (by decide) ?_
  refine lv_istore_n (lv' := [(3, .int ((-1))), (2, .int 0), (0, .ref (ca)), (1, .int x1)]) hx hb dX5_advise_7 rfl hl (by decide) rfl (fun ls hl => ?_)
  refine lv_iconst (v := 0) hx hb dX5_advise_8 (by decide) ?_
  refine lv_istore (lv' := [(4, .int 0), (3, .int ((-1))), (2, .int 0), (0, .ref (ca)), (1, .int x1)]) hx hb dX5_advise_9 hl (by decide) rfl (fun ls hl => ?_)
  exact L11 _ _ _ _ _ _ _ _ _ _ _ _ hm hT (lv_sub hl [3, 4, 2, 1, 0] rfl)
section KX5_advise
variable {p : Program} {l : Launch} {e : Env} {s : State} {m : MethodId} {args : Array Value} {below : List Frame} {meth : Method} {c : Code} {H H0 : Heap} {locs : List Loc} {cells slots : Nat} {Q : State → Prop} {R : Room} {rn mcR msR : Nat}
variable {pc : Nat} {ls : Array Slot} {rest : List Value} {A : Nat → Prop} {D : va_G}
variable {cc : ByteArray} {nL index : Nat} {own host : String}
end KX5_advise
def wl_X5_missed_11 (q : Nat → Nat) (P : M2) (KX : Nat → Prop) (K : Int32 → Nat → M2 → M2 → M2 → Prop) : Nat → Nat → M2 → M2 → M2 → Int32 → Int32 → Int32 → Int32 → Prop
  | 0, _, _, _, _, _, _, _, _ => False
  | n + 1, ap, F, G, C, v1, v2, v3, v4 => (((P 23 0) ≤ v4 → K v2 ap F G C) ∧ (¬ (P 23 0) ≤ v4 → wp_X4_copyFrom q F ap G (fun ap_34 G_34 => ap_34 = (q 20) ∧ (∀ G_43 : M2, G_43 = up2 G_34 3 (fun _ => v4) → wp_X4_run P G_43 v1 (fun G_51 => wp_X4_tally P G_51 10 (fun r_60 => ((v2 = ((-1)) → (∀ v4_82 : Int32, v4_82 = v4 + 1 → wl_X5_missed_11 q P KX K n ((q 20)) F G_51 C v1 v4 r_60 v4_82)) ∧ (¬ v2 = ((-1)) → ((v3 ≤ r_60 → (∀ v4_82 : Int32, v4_82 = v4 + 1 → wl_X5_missed_11 q P KX K n ((q 20)) F G_51 C v1 v2 v3 v4_82)) ∧ (¬ v3 ≤ r_60 → (∀ v4_82 : Int32, v4_82 = v4 + 1 → wl_X5_missed_11 q P KX K n ((q 20)) F G_51 C v1 v4 r_60 v4_82)))))))))))
def wp_X5_missed (q : Nat → Nat) (P : M2) (KX : Nat → Prop) (ap : Nat) (F : M2) (G : M2) (C : M2) (x1 : Int32) (K : Int32 → Nat → M2 → M2 → M2 → Prop) : Prop := ((¬ x1 < 1 → x1 ≤ 120 → wl_X5_missed_11 q P KX K fK ap F G C x1 ((-1)) 0 0) ∧ ((x1 < 1 ∨ ¬ x1 ≤ 120) → KX 1))
set_option maxRecDepth 100000 in
set_option maxHeartbeats 4000000 in
theorem c_X5_missed (l : Launch) (D : va_G) (Z : Nat → ClassId) (a b q : Nat → Nat) (ca tp rd sp : Nat) (P : M2) (ap : Nat) (F : M2) (G : M2) (C : M2) (sz : Nat) (x1 : Int32) (K : Int32 → Nat → M2 → M2 → M2 → Prop) (hm : wp_X5_missed q P (fun _ => False) ap F G C x1 K) : Met l yX5_missed (wy yX5_missed cX5_missed 6 (some .int)) (rk 7 0 0) (pre vwCl D Z (CA Z a b q ca tp rd sp P ap F G C) sz [.ref (ca), .int x1]) (poI vwCl D Z (fun u : Nat × M2 × M2 × M2 => CA Z a b q ca tp rd sp P u.1 u.2.1 u.2.2.1 u.2.2.2) (ap, F, G, C) sz (fun (r : Int32) (u : Nat × M2 × M2 × M2) => K r u.1 u.2.1 u.2.2.1 u.2.2.2)) 0 0 (va_A (CA Z a b q ca tp rd sp P ap F G C) sz) := by
  refine rw_of (ty := .int) (wsF := (fun u : Nat × M2 × M2 × M2 => CA Z a b q ca tp rd sp P u.1 u.2.1 u.2.2.1 u.2.2.2)) (u0 := (ap, F, G, C)) (by decide +kernel) (Nat.le_of_ble_eq_true rfl) rfl ?_
  intro p e s m args below meth c Q A hC hN hsz hT hK hret ls hl
  have hx := hC.1
  have hb := hC.2.1
  have hl : lv_has ls 6 [(0, .ref (ca)), (1, .int x1)] := hl
  have hT : TS vwCl D (CA Z a b q ca tp rd sp P ap F G C) A s.heap s.heap [] := hT
  have L11 : ∀ (n11 : Nat), ∀ (ap : Nat) (F : M2) (G : M2) (C : M2) (v1 : Int32) (v2 : Int32) (v3 : Int32) (v4 : Int32) (H : Heap) (locs : List Loc) (ls : Array Slot), wl_X5_missed_11 q P (fun _ => False) K n11 ap F G C v1 v2 v3 v4 → TS vwCl D (CA Z a b q ca tp rd sp P ap F G C) A s.heap H locs → lv_has ls 6 [(0, .ref (ca)), (1, .int v1), (2, .int v2), (3, .int v3), (4, .int v4)] → W p l e (rk 7 0 0) s m args below meth c H locs 0 0 Q (F0 m 11 ls []) := by
    intro n11
    induction n11 with
    | zero =>
      intro ap F G C v1 v2 v3 v4 H locs ls hm hT hl
      exact False.elim hm
    | succ n11 ih11 =>
      intro ap F G C v1 v2 v3 v4 H locs ls hm hT hl
      refine lv_iload hx hb dX5_missed_11 (lv_at hl 4 rfl) ?_
      refine lv_aload_n hx hb dX5_missed_13 rfl (lv_at hl 0 rfl) ?_
      refine gCA_cl_5 hC hK hT.1 wq_490 dX5_missed_14 ?_
      refine gCA_tun_0 hC hK hT.1 wq_426 dX5_missed_17 ?_
      refine gCA_plan_3 hC hK hT.1 wq_301 dX5_missed_20 ?_
      refine lv_icmp_ge (tgt := 88) hx hb dX5_missed_23 (by decide) (fun c_23 => ?_) (fun c_23 => ?_)
      · have hm := hm.1 c_23
        refine lv_iload_n hx hb dX5_missed_88 rfl (lv_at hl 2 rfl) ?_
        exact hret 89 _ _ _ _ (ap, F, G, C) hm hT rfl dX5_missed_89
      · have hm := hm.2 c_23
        refine lv_aload_n hx hb dX5_missed_26 rfl (lv_at hl 0 rfl) ?_
        refine gCA_cl_6 hC hK hT.1 wq_491 dX5_missed_27 ?_
        refine lv_aload_n hx hb dX5_missed_30 rfl (lv_at hl 0 rfl) ?_
        refine gCA_cl_5 hC hK hT.1 wq_490 dX5_missed_31 ?_
        refine kx_X4_copyFrom hC hN hK hT (cx_TTCA Z a b q ca tp rd sp P ap F G C) rfl hm wq_796 (by decide) hl.1 (Nat.le_of_ble_eq_true rfl) ⟨Nat.le_refl _, Nat.le_refl _⟩ dX5_missed_34 (fun ap_34 G_34 H locs hm hT => ?_)
        have hT : TS vwCl D (CA Z a b q ca tp rd sp P ap_34 F G_34 C) A s.heap H locs := hT
        obtain ⟨eap_34, hm⟩ := hm
        subst eap_34
        refine lv_aload_n hx hb dX5_missed_37 rfl (lv_at hl 0 rfl) ?_
        refine gCA_cl_6 hC hK hT.1 wq_491 dX5_missed_38 ?_
        refine lv_iload hx hb dX5_missed_41 (lv_at hl 4 rfl) ?_
        refine pCA_Atun_3 hC hK hT wq_432 dX5_missed_43 (fun G_43 eG_43 H locs hT => ?_)
        have hm := hm G_43 eG_43
        refine lv_aload_n hx hb dX5_missed_46 rfl (lv_at hl 0 rfl) ?_
        refine gCA_cl_6 hC hK hT.1 wq_491 dX5_missed_47 ?_
        refine lv_iload_n hx hb dX5_missed_50 rfl (lv_at hl 1 rfl) ?_
        refine kx_X4_run hC hN hK hT (cx_TWCAa Z a b q ca tp rd sp P F G_43 C) rfl hm wq_728 (by decide) hl.1 (Nat.le_of_ble_eq_true rfl) ⟨Nat.le_refl _, Nat.le_refl _⟩ dX5_missed_51 (fun G_51 H locs hm hT => ?_)
        have hT : TS vwCl D (CA Z a b q ca tp rd sp P (q 20) F G_51 C) A s.heap H locs := hT
        refine lv_aload_n hx hb dX5_missed_54 rfl (lv_at hl 0 rfl) ?_
        refine gCA_cl_6 hC hK hT.1 wq_491 dX5_missed_55 ?_
        refine lv_bipush (v := 10) hx hb dX5_missed_58 (by decide) ?_
        refine kx_X4_tally hC hN hK hT.1 hT.D' (sx_TWCAa Z a b q ca tp rd sp P F G_51 C) rfl hm wq_511 (by decide) hl.1 (Nat.le_of_ble_eq_true rfl) ⟨Nat.le_refl _, Nat.le_refl _⟩ dX5_missed_60 (fun r_60 hm => ?_)
        refine lv_istore (lv' := [(5, .int r_60), (0, .ref (ca)), (1, .int v1), (2, .int v2), (3, .int v3), (4, .int v4)]) hx hb dX5_missed_63 hl (by decide) rfl (fun ls hl => ?_)
        refine lv_iload_n hx hb dX5_missed_65 rfl (lv_at hl 3 rfl) ?_
        refine lv_iconst (v := (-1)) hx hb dX5_missed_66 (by decide) ?_
        refine lv_icmp_eq (tgt := 76) hx hb dX5_missed_67 (by decide) (fun c_67 => ?_) (fun c_67 => ?_)
        · have hm := hm.1 c_67
          refine lv_iload hx hb dX5_missed_76 (lv_at hl 5 rfl) ?_
          refine lv_istore_n (lv' := [(2, .int v4), (5, .int r_60), (0, .ref (ca)), (1, .int v1), (3, .int v3), (4, .int v4)]) hx hb dX5_missed_78 rfl hl (by decide) rfl (fun ls hl => ?_)
          refine lv_iload hx hb dX5_missed_79 (lv_at hl 1 rfl) ?_
          refine lv_istore_n (lv' := [(3, .int r_60), (2, .int v4), (5, .int r_60), (0, .ref (ca)), (1, .int v1), (4, .int v4)]) hx hb dX5_missed_81 rfl hl (by decide) rfl (fun ls hl => ?_)
          obtain ⟨v4_82, ev4_82⟩ : ∃ y : Int32, y = v4 + 1 := ⟨_, rfl⟩
          have hm := hm v4_82 ev4_82
          refine lv_iinc (v := v4_82) (lv' := [(4, .int v4_82), (3, .int r_60), (2, .int v4), (5, .int r_60), (0, .ref (ca)), (1, .int v1)]) hx hb dX5_missed_82 hl (k := 5) rfl (by rw [ev4_82]; rfl) (by decide) rfl (fun ls hl => ?_)
          refine lv_goto (tgt := 11) hx hb dX5_missed_85 (by decide) ?_
          exact ih11 _ _ _ _ _ _ _ _ _ _ _ hm hT (lv_sub hl [4, 5, 2, 1, 0] rfl)
        · have hm := hm.2 c_67
          refine lv_iload hx hb dX5_missed_70 (lv_at hl 0 rfl) ?_
          refine lv_iload_n hx hb dX5_missed_72 rfl (lv_at hl 4 rfl) ?_
          refine lv_icmp_ge (tgt := 82) hx hb dX5_missed_73 (by decide) (fun c_73 => ?_) (fun c_73 => ?_)
          · have hm := hm.1 c_73
            obtain ⟨v4_82, ev4_82⟩ : ∃ y : Int32, y = v4 + 1 := ⟨_, rfl⟩
            have hm := hm v4_82 ev4_82
            refine lv_iinc (v := v4_82) (lv' := [(4, .int v4_82), (5, .int r_60), (0, .ref (ca)), (1, .int v1), (2, .int v2), (3, .int v3)]) hx hb dX5_missed_82 hl (k := 5) rfl (by rw [ev4_82]; rfl) (by decide) rfl (fun ls hl => ?_)
            refine lv_goto (tgt := 11) hx hb dX5_missed_85 (by decide) ?_
            exact ih11 _ _ _ _ _ _ _ _ _ _ _ hm hT (lv_sub hl [2, 3, 4, 5, 0] rfl)
          · have hm := hm.2 c_73
            refine lv_iload hx hb dX5_missed_76 (lv_at hl 5 rfl) ?_
            refine lv_istore_n (lv' := [(2, .int v4), (5, .int r_60), (0, .ref (ca)), (1, .int v1), (3, .int v3), (4, .int v4)]) hx hb dX5_missed_78 rfl hl (by decide) rfl (fun ls hl => ?_)
            refine lv_iload hx hb dX5_missed_79 (lv_at hl 1 rfl) ?_
            refine lv_istore_n (lv' := [(3, .int r_60), (2, .int v4), (5, .int r_60), (0, .ref (ca)), (1, .int v1), (4, .int v4)]) hx hb dX5_missed_81 rfl hl (by decide) rfl (fun ls hl => ?_)
            obtain ⟨v4_82, ev4_82⟩ : ∃ y : Int32, y = v4 + 1 := ⟨_, rfl⟩
            have hm := hm v4_82 ev4_82
            refine lv_iinc (v := v4_82) (lv' := [(4, .int v4_82), (3, .int r_60), (2, .int v4), (5, .int r_60), (0, .ref (ca)), (1, .int v1)]) hx hb dX5_missed_82 hl (k := 5) rfl (by rw [ev4_82]; rfl) (by decide) rfl (fun ls hl => ?_)
            refine lv_goto (tgt := 11) hx hb dX5_missed_85 (by decide) ?_
            exact ih11 _ _ _ _ _ _ _ _ _ _ _ hm hT (lv_sub hl [4, 5, 2, 1, 0] rfl)
  refine lv_iload_n hx hb dX5_missed_0 rfl (lv_at hl 1 rfl) ?_
  have h_1 := w_nx hm.2
  refine w_needMinutesN hC h_1.1 h_1.2 wq_709 (by decide) hl.1 (Nat.le_of_ble_eq_true rfl) ⟨Nat.le_refl _, Nat.le_refl _⟩ dX5_missed_1 ?_
  have hm := hm.1 h_1.1 h_1.2
  refine lv_iconst (v := (-1)) hx hb dX5_missed_4 (by decide) ?_
  refine lv_istore_n (lv' := [(2, .int ((-1))), (0, .ref (ca)), (1, .int x1)]) hx hb dX5_missed_5 rfl hl (by decide) rfl (fun ls hl => ?_)
  refine lv_iconst (v := 0) hx hb dX5_missed_6 (by decide) ?_
  refine lv_istore_n (lv' := [(3, .int 0), (2, .int ((-1))), (0, .ref (ca)), (1, .int x1)]) hx hb dX5_missed_7 rfl hl (by decide) rfl (fun ls hl => ?_)
  refine lv_iconst (v := 0) hx hb dX5_missed_8 (by decide) ?_
  refine lv_istore (lv' := [(4, .int 0), (3, .int 0), (2, .int ((-1))), (0, .ref (ca)), (1, .int x1)]) hx hb dX5_missed_9 hl (by decide) rfl (fun ls hl => ?_)
  exact L11 _ _ _ _ _ _ _ _ _ _ _ _ hm hT (lv_sub hl [3, 4, 2, 1, 0] rfl)
section KX5_missed
variable {p : Program} {l : Launch} {e : Env} {s : State} {m : MethodId} {args : Array Value} {below : List Frame} {meth : Method} {c : Code} {H H0 : Heap} {locs : List Loc} {cells slots : Nat} {Q : State → Prop} {R : Room} {rn mcR msR : Nat}
variable {pc : Nat} {ls : Array Slot} {rest : List Value} {A : Nat → Prop} {D : va_G}
variable {cc : ByteArray} {nL index : Nat} {own host : String}
end KX5_missed
