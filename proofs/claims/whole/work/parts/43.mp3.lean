theorem dX8_isOrderLine_0 : decode cX8_isOrderLine 0 = .ok (.aload_n 0, 1) := by decide +kernel
theorem dX8_isOrderLine_1 : decode cX8_isOrderLine 1 = .ok (.getfield 17, 3) := by decide +kernel
theorem dX8_isOrderLine_4 : decode cX8_isOrderLine 4 = .ok (.aload_n 0, 1) := by decide +kernel
theorem dX8_isOrderLine_5 : decode cX8_isOrderLine 5 = .ok (.getfield 127, 3) := by decide +kernel
theorem dX8_isOrderLine_8 : decode cX8_isOrderLine 8 = .ok (.iaload, 1) := by decide +kernel
theorem dX8_isOrderLine_9 : decode cX8_isOrderLine 9 = .ok (.istore_n 1, 1) := by decide +kernel
theorem dX8_isOrderLine_10 : decode cX8_isOrderLine 10 = .ok (.iload_n 1, 1) := by decide +kernel
theorem dX8_isOrderLine_11 : decode cX8_isOrderLine 11 = .ok (.bipush 17, 2) := by decide +kernel
theorem dX8_isOrderLine_13 : decode cX8_isOrderLine 13 = .ok (.if_icmp .eq 11, 3) := by decide +kernel
theorem dX8_isOrderLine_16 : decode cX8_isOrderLine 16 = .ok (.iload_n 1, 1) := by decide +kernel
theorem dX8_isOrderLine_17 : decode cX8_isOrderLine 17 = .ok (.bipush 18, 2) := by decide +kernel
theorem dX8_isOrderLine_19 : decode cX8_isOrderLine 19 = .ok (.if_icmp .eq 5, 3) := by decide +kernel
theorem dX8_isOrderLine_22 : decode cX8_isOrderLine 22 = .ok (.iconst 0, 1) := by decide +kernel
theorem dX8_isOrderLine_23 : decode cX8_isOrderLine 23 = .ok (.ireturn, 1) := by decide +kernel
theorem dX8_isOrderLine_24 : decode cX8_isOrderLine 24 = .ok (.aload_n 0, 1) := by decide +kernel
theorem dX8_isOrderLine_25 : decode cX8_isOrderLine 25 = .ok (.getfield 26, 3) := by decide +kernel
theorem dX8_isOrderLine_28 : decode cX8_isOrderLine 28 = .ok (.aload_n 0, 1) := by decide +kernel
theorem dX8_isOrderLine_29 : decode cX8_isOrderLine 29 = .ok (.getfield 127, 3) := by decide +kernel
theorem dX8_isOrderLine_32 : decode cX8_isOrderLine 32 = .ok (.iload_n 1, 1) := by decide +kernel
theorem dX8_isOrderLine_33 : decode cX8_isOrderLine 33 = .ok (.bipush 17, 2) := by decide +kernel
theorem dX8_isOrderLine_35 : decode cX8_isOrderLine 35 = .ok (.if_icmp .ne 7, 3) := by decide +kernel
theorem dX8_isOrderLine_38 : decode cX8_isOrderLine 38 = .ok (.iconst 5, 1) := by decide +kernel
theorem dX8_isOrderLine_39 : decode cX8_isOrderLine 39 = .ok (.goto 5, 3) := by decide +kernel
theorem dX8_isOrderLine_42 : decode cX8_isOrderLine 42 = .ok (.bipush 6, 2) := by decide +kernel
theorem dX8_isOrderLine_44 : decode cX8_isOrderLine 44 = .ok (.iastore, 1) := by decide +kernel
theorem dX8_isOrderLine_45 : decode cX8_isOrderLine 45 = .ok (.aload_n 0, 1) := by decide +kernel
theorem dX8_isOrderLine_46 : decode cX8_isOrderLine 46 = .ok (.dup, 1) := by decide +kernel
theorem dX8_isOrderLine_47 : decode cX8_isOrderLine 47 = .ok (.getfield 127, 3) := by decide +kernel
theorem dX8_isOrderLine_50 : decode cX8_isOrderLine 50 = .ok (.iconst 1, 1) := by decide +kernel
theorem dX8_isOrderLine_51 : decode cX8_isOrderLine 51 = .ok (.iadd, 1) := by decide +kernel
theorem dX8_isOrderLine_52 : decode cX8_isOrderLine 52 = .ok (.putfield 127, 3) := by decide +kernel
theorem dX8_isOrderLine_55 : decode cX8_isOrderLine 55 = .ok (.aload_n 0, 1) := by decide +kernel
theorem dX8_isOrderLine_56 : decode cX8_isOrderLine 56 = .ok (.getfield 39, 3) := by decide +kernel
theorem dX8_isOrderLine_59 : decode cX8_isOrderLine 59 = .ok (.getfield 167, 3) := by decide +kernel
theorem dX8_isOrderLine_62 : decode cX8_isOrderLine 62 = .ok (.bipush 16, 2) := by decide +kernel
theorem dX8_isOrderLine_64 : decode cX8_isOrderLine 64 = .ok (.invokestatic 80, 3) := by decide +kernel
theorem dX8_isOrderLine_67 : decode cX8_isOrderLine 67 = .ok (.istore_n 2, 1) := by decide +kernel
theorem dX8_isOrderLine_68 : decode cX8_isOrderLine 68 = .ok (.aload_n 0, 1) := by decide +kernel
theorem dX8_isOrderLine_69 : decode cX8_isOrderLine 69 = .ok (.getfield 39, 3) := by decide +kernel
theorem dX8_isOrderLine_72 : decode cX8_isOrderLine 72 = .ok (.dup, 1) := by decide +kernel
theorem dX8_isOrderLine_73 : decode cX8_isOrderLine 73 = .ok (.getfield 167, 3) := by decide +kernel
theorem dX8_isOrderLine_76 : decode cX8_isOrderLine 76 = .ok (.iconst 1, 1) := by decide +kernel
theorem dX8_isOrderLine_77 : decode cX8_isOrderLine 77 = .ok (.iadd, 1) := by decide +kernel
theorem dX8_isOrderLine_78 : decode cX8_isOrderLine 78 = .ok (.putfield 167, 3) := by decide +kernel
theorem dX8_isOrderLine_81 : decode cX8_isOrderLine 81 = .ok (.iload_n 1, 1) := by decide +kernel
theorem dX8_isOrderLine_82 : decode cX8_isOrderLine 82 = .ok (.bipush 17, 2) := by decide +kernel
theorem dX8_isOrderLine_84 : decode cX8_isOrderLine 84 = .ok (.if_icmp .ne 15, 3) := by decide +kernel
theorem dX8_isOrderLine_87 : decode cX8_isOrderLine 87 = .ok (.aload_n 0, 1) := by decide +kernel
theorem dX8_isOrderLine_88 : decode cX8_isOrderLine 88 = .ok (.bipush 18, 2) := by decide +kernel
theorem dX8_isOrderLine_90 : decode cX8_isOrderLine 90 = .ok (.invokevirtual 164, 3) := by decide +kernel
theorem dX8_isOrderLine_93 : decode cX8_isOrderLine 93 = .ok (.ifCond .eq 26, 3) := by decide +kernel
theorem dX8_isOrderLine_96 : decode cX8_isOrderLine 96 = .ok (.goto 14, 3) := by decide +kernel
theorem dX8_isOrderLine_99 : decode cX8_isOrderLine 99 = .ok (.aload_n 0, 1) := by decide +kernel
theorem dX8_isOrderLine_100 : decode cX8_isOrderLine 100 = .ok (.bipush 40, 2) := by decide +kernel
theorem dX8_isOrderLine_102 : decode cX8_isOrderLine 102 = .ok (.bipush 19, 2) := by decide +kernel
theorem dX8_isOrderLine_104 : decode cX8_isOrderLine 104 = .ok (.invokevirtual 160, 3) := by decide +kernel
theorem dX8_isOrderLine_107 : decode cX8_isOrderLine 107 = .ok (.ifCond .eq 12, 3) := by decide +kernel
theorem dX8_isOrderLine_110 : decode cX8_isOrderLine 110 = .ok (.aload_n 0, 1) := by decide +kernel
theorem dX8_isOrderLine_111 : decode cX8_isOrderLine 111 = .ok (.bipush 19, 2) := by decide +kernel
theorem dX8_isOrderLine_113 : decode cX8_isOrderLine 113 = .ok (.invokevirtual 133, 3) := by decide +kernel
theorem dX8_isOrderLine_116 : decode cX8_isOrderLine 116 = .ok (.ifCond .ne 5, 3) := by decide +kernel
theorem dX8_isOrderLine_119 : decode cX8_isOrderLine 119 = .ok (.iconst 0, 1) := by decide +kernel
theorem dX8_isOrderLine_120 : decode cX8_isOrderLine 120 = .ok (.ireturn, 1) := by decide +kernel
theorem dX8_isOrderLine_121 : decode cX8_isOrderLine 121 = .ok (.aload_n 0, 1) := by decide +kernel
theorem dX8_isOrderLine_122 : decode cX8_isOrderLine 122 = .ok (.getfield 39, 3) := by decide +kernel
theorem dX8_isOrderLine_125 : decode cX8_isOrderLine 125 = .ok (.getfield 170, 3) := by decide +kernel
theorem dX8_isOrderLine_128 : decode cX8_isOrderLine 128 = .ok (.iload_n 2, 1) := by decide +kernel
theorem dX8_isOrderLine_129 : decode cX8_isOrderLine 129 = .ok (.aload_n 0, 1) := by decide +kernel
theorem dX8_isOrderLine_130 : decode cX8_isOrderLine 130 = .ok (.getfield 39, 3) := by decide +kernel
theorem dX8_isOrderLine_133 : decode cX8_isOrderLine 133 = .ok (.getfield 139, 3) := by decide +kernel
theorem dX8_isOrderLine_136 : decode cX8_isOrderLine 136 = .ok (.iastore, 1) := by decide +kernel
theorem dX8_isOrderLine_137 : decode cX8_isOrderLine 137 = .ok (.aload_n 0, 1) := by decide +kernel
theorem dX8_isOrderLine_138 : decode cX8_isOrderLine 138 = .ok (.invokevirtual 173, 3) := by decide +kernel
theorem dX8_isOrderLine_141 : decode cX8_isOrderLine 141 = .ok (.ifCond .ne 5, 3) := by decide +kernel
theorem dX8_isOrderLine_144 : decode cX8_isOrderLine 144 = .ok (.iconst 0, 1) := by decide +kernel
theorem dX8_isOrderLine_145 : decode cX8_isOrderLine 145 = .ok (.ireturn, 1) := by decide +kernel
theorem dX8_isOrderLine_146 : decode cX8_isOrderLine 146 = .ok (.aload_n 0, 1) := by decide +kernel
theorem dX8_isOrderLine_147 : decode cX8_isOrderLine 147 = .ok (.getfield 39, 3) := by decide +kernel
theorem dX8_isOrderLine_150 : decode cX8_isOrderLine 150 = .ok (.getfield 176, 3) := by decide +kernel
theorem dX8_isOrderLine_153 : decode cX8_isOrderLine 153 = .ok (.iload_n 2, 1) := by decide +kernel
theorem dX8_isOrderLine_154 : decode cX8_isOrderLine 154 = .ok (.aload_n 0, 1) := by decide +kernel
theorem dX8_isOrderLine_155 : decode cX8_isOrderLine 155 = .ok (.getfield 39, 3) := by decide +kernel
theorem dX8_isOrderLine_158 : decode cX8_isOrderLine 158 = .ok (.getfield 139, 3) := by decide +kernel
theorem dX8_isOrderLine_161 : decode cX8_isOrderLine 161 = .ok (.iastore, 1) := by decide +kernel
theorem dX8_isOrderLine_162 : decode cX8_isOrderLine 162 = .ok (.iconst 1, 1) := by decide +kernel
theorem dX8_isOrderLine_163 : decode cX8_isOrderLine 163 = .ok (.ireturn, 1) := by decide +kernel
theorem dX8_isPlan_0 : decode cX8_isPlan 0 = .ok (.aload_n 0, 1) := by decide +kernel
theorem dX8_isPlan_1 : decode cX8_isPlan 1 = .ok (.sipush 900, 3) := by decide +kernel
theorem dX8_isPlan_4 : decode cX8_isPlan 4 = .ok (.invokevirtual 130, 3) := by decide +kernel
theorem dX8_isPlan_7 : decode cX8_isPlan 7 = .ok (.ifCond .ne 88, 3) := by decide +kernel
theorem dX8_isPlan_10 : decode cX8_isPlan 10 = .ok (.aload_n 0, 1) := by decide +kernel
theorem dX8_isPlan_11 : decode cX8_isPlan 11 = .ok (.iconst 0, 1) := by decide +kernel
theorem dX8_isPlan_12 : decode cX8_isPlan 12 = .ok (.invokevirtual 130, 3) := by decide +kernel
theorem dX8_isPlan_15 : decode cX8_isPlan 15 = .ok (.ifCond .eq 10, 3) := by decide +kernel
theorem dX8_isPlan_18 : decode cX8_isPlan 18 = .ok (.aload_n 0, 1) := by decide +kernel
theorem dX8_isPlan_19 : decode cX8_isPlan 19 = .ok (.invokevirtual 140, 3) := by decide +kernel
theorem dX8_isPlan_22 : decode cX8_isPlan 22 = .ok (.goto 54, 3) := by decide +kernel
theorem dX8_isPlan_25 : decode cX8_isPlan 25 = .ok (.aload_n 0, 1) := by decide +kernel
theorem dX8_isPlan_26 : decode cX8_isPlan 26 = .ok (.iconst 3, 1) := by decide +kernel
theorem dX8_isPlan_27 : decode cX8_isPlan 27 = .ok (.invokevirtual 130, 3) := by decide +kernel
theorem dX8_isPlan_30 : decode cX8_isPlan 30 = .ok (.ifCond .eq 10, 3) := by decide +kernel
theorem dX8_isPlan_33 : decode cX8_isPlan 33 = .ok (.aload_n 0, 1) := by decide +kernel
theorem dX8_isPlan_34 : decode cX8_isPlan 34 = .ok (.invokevirtual 144, 3) := by decide +kernel
theorem dX8_isPlan_37 : decode cX8_isPlan 37 = .ok (.goto 39, 3) := by decide +kernel
theorem dX8_isPlan_40 : decode cX8_isPlan 40 = .ok (.aload_n 0, 1) := by decide +kernel
theorem dX8_isPlan_41 : decode cX8_isPlan 41 = .ok (.bipush 6, 2) := by decide +kernel
theorem dX8_isPlan_43 : decode cX8_isPlan 43 = .ok (.invokevirtual 130, 3) := by decide +kernel
theorem dX8_isPlan_46 : decode cX8_isPlan 46 = .ok (.ifCond .eq 10, 3) := by decide +kernel
theorem dX8_isPlan_49 : decode cX8_isPlan 49 = .ok (.aload_n 0, 1) := by decide +kernel
theorem dX8_isPlan_50 : decode cX8_isPlan 50 = .ok (.invokevirtual 147, 3) := by decide +kernel
theorem dX8_isPlan_53 : decode cX8_isPlan 53 = .ok (.goto 23, 3) := by decide +kernel
theorem dX8_isPlan_56 : decode cX8_isPlan 56 = .ok (.aload_n 0, 1) := by decide +kernel
theorem dX8_isPlan_57 : decode cX8_isPlan 57 = .ok (.bipush 9, 2) := by decide +kernel
theorem dX8_isPlan_59 : decode cX8_isPlan 59 = .ok (.invokevirtual 130, 3) := by decide +kernel
theorem dX8_isPlan_62 : decode cX8_isPlan 62 = .ok (.ifCond .eq 10, 3) := by decide +kernel
theorem dX8_isPlan_65 : decode cX8_isPlan 65 = .ok (.aload_n 0, 1) := by decide +kernel
theorem dX8_isPlan_66 : decode cX8_isPlan 66 = .ok (.invokevirtual 150, 3) := by decide +kernel
theorem dX8_isPlan_69 : decode cX8_isPlan 69 = .ok (.goto 7, 3) := by decide +kernel
theorem dX8_isPlan_72 : decode cX8_isPlan 72 = .ok (.aload_n 0, 1) := by decide +kernel
theorem dX8_isPlan_73 : decode cX8_isPlan 73 = .ok (.invokevirtual 153, 3) := by decide +kernel
theorem dX8_isPlan_76 : decode cX8_isPlan 76 = .ok (.istore_n 1, 1) := by decide +kernel
theorem dX8_isPlan_77 : decode cX8_isPlan 77 = .ok (.iload_n 1, 1) := by decide +kernel
theorem dX8_isPlan_78 : decode cX8_isPlan 78 = .ok (.ifCond .eq 12, 3) := by decide +kernel
theorem dX8_isPlan_81 : decode cX8_isPlan 81 = .ok (.aload_n 0, 1) := by decide +kernel
theorem dX8_isPlan_82 : decode cX8_isPlan 82 = .ok (.bipush 59, 2) := by decide +kernel
theorem dX8_isPlan_84 : decode cX8_isPlan 84 = .ok (.invokevirtual 156, 3) := by decide +kernel
theorem dX8_isPlan_87 : decode cX8_isPlan 87 = .ok (.ifCond .ne 5, 3) := by decide +kernel
theorem dX8_isPlan_90 : decode cX8_isPlan 90 = .ok (.iconst 0, 1) := by decide +kernel
theorem dX8_isPlan_91 : decode cX8_isPlan 91 = .ok (.ireturn, 1) := by decide +kernel
theorem dX8_isPlan_92 : decode cX8_isPlan 92 = .ok (.goto (-92), 3) := by decide +kernel
theorem dX8_isPlan_95 : decode cX8_isPlan 95 = .ok (.iconst 1, 1) := by decide +kernel
theorem dX8_isPlan_96 : decode cX8_isPlan 96 = .ok (.ireturn, 1) := by decide +kernel
theorem mi_X8_isOrderLine : MInfo yX8_isOrderLine cX8_isOrderLine 3 (some .boolean) 0 := ⟨wq_1614, wq_135, by decide, ⟨by decide +kernel, by decide +kernel, by decide +kernel⟩, by decide +kernel⟩
theorem mi_X8_isPlan : MInfo yX8_isPlan cX8_isPlan 2 (some .boolean) 0 := ⟨wq_1578, wq_135, by decide, ⟨by decide +kernel, by decide +kernel, by decide +kernel⟩, by decide +kernel⟩
def wj_X8_isOrderLine_110 (K : Int32 → M2 → M2 → Prop) (N : M2) (P : M2) (v2 : Int32) : Prop := wp_X8_eat N P 19 (fun r_113 N_113 P_113 => ((¬ r_113 = 0 → (inb v2 17 ∧ ∀ P_136 : M2, P_136 = up2 P_113 261 (upd (P_113 261) v2.toInt.toNat (P_113 264 0)) → wp_X8_isTest (gX8 120) N_113 P_136 (fun r_138 N_138 P_138 => ((¬ r_138 = 0 → (inb v2 17 ∧ ∀ P_161 : M2, P_161 = up2 P_138 262 (upd (P_138 262) v2.toInt.toNat (P_138 264 0)) → K 1 N_138 P_161)) ∧ (r_138 = 0 → K 0 N_138 P_138))))) ∧ (r_113 = 0 → K 0 N_113 P_113)))
def wj_X8_isOrderLine_44 (K : Int32 → M2 → M2 → Prop) (N : M2) (P : M2) (v1 : Int32) (q0 : Int32) (q1 : Int32) : Prop := (inb q1 401 ∧ ∀ N_44 : M2, N_44 = up2 N 227 (upd (N 227) q1.toInt.toNat q0) → (∀ N_52 : M2, N_52 = up2 N_44 229 (fun _ => (N_44 229 0) + 1) → (∀ v2_67, v2_67 = mnv (P 258 0) 16 → (∀ P_78 : M2, P_78 = up2 P 258 (fun _ => (P 258 0) + 1) → ((¬ v1 = 17 → wp_X8_eatAs N_52 P_78 40 19 (fun r_104 N_104 P_104 => ((r_104 = 0 → K 0 N_104 P_104) ∧ (¬ r_104 = 0 → wj_X8_isOrderLine_110 K N_104 P_104 v2_67)))) ∧ (v1 = 17 → wp_X8_isEnd N_52 P_78 18 (fun r_90 N_90 P_90 => ((r_90 = 0 → K 0 N_90 P_90) ∧ (¬ r_90 = 0 → wj_X8_isOrderLine_110 K N_90 P_90 v2_67)))))))))
def wj_X8_isOrderLine_24 (K : Int32 → M2 → M2 → Prop) (N : M2) (P : M2) (v1 : Int32) : Prop := ((¬ v1 = 17 → wj_X8_isOrderLine_44 K N P v1 6 (N 229 0)) ∧ (v1 = 17 → wj_X8_isOrderLine_44 K N P v1 5 (N 229 0)))
def wp_X8_isOrderLine (N : M2) (P : M2) (K : Int32 → M2 → M2 → Prop) : Prop := (inb (N 229 0) 401 ∧ (∀ v1_9, v1_9 = N 224 (N 229 0).toInt.toNat → ((v1_9 = 17 → wj_X8_isOrderLine_24 K N P v1_9) ∧ (¬ v1_9 = 17 → ((v1_9 = 18 → wj_X8_isOrderLine_24 K N P v1_9) ∧ (¬ v1_9 = 18 → K 0 N P))))))
set_option maxRecDepth 100000 in
set_option maxHeartbeats 4000000 in
theorem c_X8_isOrderLine (l : Launch) (D : va_G) (Z : Nat → ClassId) (q g : Nat → Nat) (pl sa aa : Nat) (N : M2) (P : M2) (sz : Nat) (K : Int32 → M2 → M2 → Prop) (hm : wp_X8_isOrderLine N P K) : Met l yX8_isOrderLine (wy yX8_isOrderLine cX8_isOrderLine 3 (some .boolean)) (rk 131 0 0) (pre vwCl D Z (MP Z q g pl sa aa N P) sz [.ref (g 220)]) (poI vwCl D Z (fun u : M2 × M2 => MP Z q g pl sa aa u.1 u.2) (N, P) sz (fun (r : Int32) (u : M2 × M2) => K r u.1 u.2)) 0 0 (va_A (MP Z q g pl sa aa N P) sz) := by
  refine rw_of (ty := .boolean) (wsF := (fun u : M2 × M2 => MP Z q g pl sa aa u.1 u.2)) (u0 := (N, P)) (by decide +kernel) (Nat.le_of_ble_eq_true rfl) rfl ?_
  intro p e s m args below meth c Q A hC hN hsz hT hK hret ls hl
  have hx := hC.1
  have hb := hC.2.1
  have hl : lv_has ls 3 [(0, .ref (g 220))] := hl
  have hT : TS vwCl D (MP Z q g pl sa aa N P) A s.heap s.heap [] := hT
  have L110 : ∀ (N : M2) (P : M2) (v2 : Int32) (H : Heap) (locs : List Loc) (ls : Array Slot), wj_X8_isOrderLine_110 K N P v2 → TS vwCl D (MP Z q g pl sa aa N P) A s.heap H locs → lv_has ls 3 [(0, .ref (g 220)), (2, .int v2)] → W p l e (rk 131 0 0) s m args below meth c H locs 0 0 Q (F0 m 110 ls []) := by
    intro N P v2 H locs ls hm hT hl
    refine lv_aload_n hx hb dX8_isOrderLine_110 rfl (lv_at hl 0 rfl) ?_
    refine lv_bipush (v := 19) hx hb dX8_isOrderLine_111 (by decide) ?_
    refine k_X8_eat hC hN hK hT hm wq_1591 (by decide) hl.1 (Nat.le_of_ble_eq_true rfl) ⟨Nat.le_refl _, Nat.le_refl _⟩ dX8_isOrderLine_113 (fun r_113 N_113 P_113 H locs hm hT => ?_)
    refine lv_if_ne (tgt := 121) hx hb dX8_isOrderLine_116 (by decide) (fun c_116 => ?_) (fun c_116 => ?_)
    · have hm := hm.1 c_116
      refine lv_aload_n hx hb dX8_isOrderLine_121 rfl (lv_at hl 0 rfl) ?_
      refine gMP_mod_12 hC hK hT.1 wq_1432 dX8_isOrderLine_122 ?_
      refine gNMP_plan_21 hC hN hK hT.1 wn_1284 dX8_isOrderLine_125 ?_
      refine lv_iload_n hx hb dX8_isOrderLine_128 rfl (lv_at hl 1 rfl) ?_
      refine lv_aload_n hx hb dX8_isOrderLine_129 rfl (lv_at hl 0 rfl) ?_
      refine gMP_mod_12 hC hK hT.1 wq_1432 dX8_isOrderLine_130 ?_
      refine gNMP_plan_24 hC hN hK hT.1 wn_1291 dX8_isOrderLine_133 ?_
      refine sMP_test hC hK hT hm.1 dX8_isOrderLine_136 (fun P_136 eP_136 H locs hT => ?_)
      have hm := hm.2 P_136 eP_136
      refine lv_aload_n hx hb dX8_isOrderLine_137 rfl (lv_at hl 0 rfl) ?_
      refine k_X8_isTest hC hN hK hT hm wq_1616 (by decide) hl.1 (Nat.le_of_ble_eq_true rfl) ⟨Nat.le_refl _, Nat.le_refl _⟩ dX8_isOrderLine_138 (fun r_138 N_138 P_138 H locs hm hT => ?_)
      refine lv_if_ne (tgt := 146) hx hb dX8_isOrderLine_141 (by decide) (fun c_141 => ?_) (fun c_141 => ?_)
      · have hm := hm.1 c_141
        refine lv_aload_n hx hb dX8_isOrderLine_146 rfl (lv_at hl 0 rfl) ?_
        refine gMP_mod_12 hC hK hT.1 wq_1432 dX8_isOrderLine_147 ?_
        refine gNMP_plan_22 hC hN hK hT.1 wn_1287 dX8_isOrderLine_150 ?_
        refine lv_iload_n hx hb dX8_isOrderLine_153 rfl (lv_at hl 1 rfl) ?_
        refine lv_aload_n hx hb dX8_isOrderLine_154 rfl (lv_at hl 0 rfl) ?_
        refine gMP_mod_12 hC hK hT.1 wq_1432 dX8_isOrderLine_155 ?_
        refine gNMP_plan_24 hC hN hK hT.1 wn_1291 dX8_isOrderLine_158 ?_
        refine sMP_testEnd hC hK hT hm.1 dX8_isOrderLine_161 (fun P_161 eP_161 H locs hT => ?_)
        have hm := hm.2 P_161 eP_161
        refine lv_iconst (v := 1) hx hb dX8_isOrderLine_162 (by decide) ?_
        exact hret 163 _ _ _ _ (N_138, P_161) hm hT rfl dX8_isOrderLine_163
      · have hm := hm.2 c_141
        refine lv_iconst (v := 0) hx hb dX8_isOrderLine_144 (by decide) ?_
        exact hret 145 _ _ _ _ (N_138, P_138) hm hT rfl dX8_isOrderLine_145
    · have hm := hm.2 c_116
      refine lv_iconst (v := 0) hx hb dX8_isOrderLine_119 (by decide) ?_
      exact hret 120 _ _ _ _ (N_113, P_113) hm hT rfl dX8_isOrderLine_120
  have L44 : ∀ (N : M2) (P : M2) (v1 : Int32) (q0 : Int32) (q1 : Int32) (H : Heap) (locs : List Loc) (ls : Array Slot), wj_X8_isOrderLine_44 K N P v1 q0 q1 → TS vwCl D (MP Z q g pl sa aa N P) A s.heap H locs → lv_has ls 3 [(0, .ref (g 220)), (1, .int v1)] → W p l e (rk 131 0 0) s m args below meth c H locs 0 0 Q (F0 m 44 ls [.int q0, .int q1, .ref (g 227)]) := by
    intro N P v1 q0 q1 H locs ls hm hT hl
    refine sMP_role hC hK hT hm.1 dX8_isOrderLine_44 (fun N_44 eN_44 H locs hT => ?_)
    have hm := hm.2 N_44 eN_44
    refine lv_aload_n hx hb dX8_isOrderLine_45 rfl (lv_at hl 0 rfl) ?_
    refine lv_dup hx hb dX8_isOrderLine_46 rfl ?_
    refine gMP_mod_9 hC hK hT.1 wq_1428 dX8_isOrderLine_47 ?_
    refine lv_iconst (v := 1) hx hb dX8_isOrderLine_50 (by decide) ?_
    refine lv_iadd hx hb dX8_isOrderLine_51 ?_
    refine pMP_mod_9 hC hK hT wq_1428 dX8_isOrderLine_52 (fun N_52 eN_52 H locs hT => ?_)
    have hm := hm N_52 eN_52
    refine lv_aload_n hx hb dX8_isOrderLine_55 rfl (lv_at hl 0 rfl) ?_
    refine gMP_mod_12 hC hK hT.1 wq_1432 dX8_isOrderLine_56 ?_
    refine gNMP_plan_18 hC hN hK hT.1 wn_1275 dX8_isOrderLine_59 ?_
    refine lv_bipush (v := 16) hx hb dX8_isOrderLine_62 (by decide) ?_
    refine w_min hC wq_1615 (by decide) (Nat.le_of_ble_eq_true rfl) hl.1 ⟨Nat.le_refl _, Nat.le_refl _⟩ dX8_isOrderLine_64 ?_
    refine lv_topi (fun v2_67 ev2_67 => ?_)
    have hm := hm v2_67 ev2_67
    refine lv_istore_n (lv' := [(2, .int v2_67), (0, .ref (g 220)), (1, .int v1)]) hx hb dX8_isOrderLine_67 rfl hl (by decide) rfl (fun ls hl => ?_)
    refine lv_aload_n hx hb dX8_isOrderLine_68 rfl (lv_at hl 1 rfl) ?_
    refine gMP_mod_12 hC hK hT.1 wq_1432 dX8_isOrderLine_69 ?_
    refine lv_dup hx hb dX8_isOrderLine_72 rfl ?_
    refine gNMP_plan_18 hC hN hK hT.1 wn_1275 dX8_isOrderLine_73 ?_
    refine lv_iconst (v := 1) hx hb dX8_isOrderLine_76 (by decide) ?_
    refine lv_iadd hx hb dX8_isOrderLine_77 ?_
    refine pNMP_plan_18 hC hN hK hT wn_1275 dX8_isOrderLine_78 (fun P_78 eP_78 H locs hT => ?_)
    have hm := hm P_78 eP_78
    refine lv_iload_n hx hb dX8_isOrderLine_81 rfl (lv_at hl 2 rfl) ?_
    refine lv_bipush (v := 17) hx hb dX8_isOrderLine_82 (by decide) ?_
    refine lv_icmp_ne (tgt := 99) hx hb dX8_isOrderLine_84 (by decide) (fun c_84 => ?_) (fun c_84 => ?_)
    · have hm := hm.1 c_84
      refine lv_aload_n hx hb dX8_isOrderLine_99 rfl (lv_at hl 1 rfl) ?_
      refine lv_bipush (v := 40) hx hb dX8_isOrderLine_100 (by decide) ?_
      refine lv_bipush (v := 19) hx hb dX8_isOrderLine_102 (by decide) ?_
      refine k_X8_eatAs hC hN hK hT hm wq_1587 (by decide) hl.1 (Nat.le_of_ble_eq_true rfl) ⟨Nat.le_refl _, Nat.le_refl _⟩ dX8_isOrderLine_104 (fun r_104 N_104 P_104 H locs hm hT => ?_)
      refine lv_if_eq (tgt := 119) hx hb dX8_isOrderLine_107 (by decide) (fun c_107 => ?_) (fun c_107 => ?_)
      · have hm := hm.1 c_107
        refine lv_iconst (v := 0) hx hb dX8_isOrderLine_119 (by decide) ?_
        exact hret 120 _ _ _ _ (N_104, P_104) hm hT rfl dX8_isOrderLine_120
      · have hm := hm.2 c_107
        exact L110 _ _ _ _ _ _ hm hT (lv_sub hl [1, 0] rfl)
    · have hm := hm.2 c_84
      refine lv_aload_n hx hb dX8_isOrderLine_87 rfl (lv_at hl 1 rfl) ?_
      refine lv_bipush (v := 18) hx hb dX8_isOrderLine_88 (by decide) ?_
      refine k_X8_isEnd hC hN hK hT hm wq_1607 (by decide) hl.1 (Nat.le_of_ble_eq_true rfl) ⟨Nat.le_refl _, Nat.le_refl _⟩ dX8_isOrderLine_90 (fun r_90 N_90 P_90 H locs hm hT => ?_)
      refine lv_if_eq (tgt := 119) hx hb dX8_isOrderLine_93 (by decide) (fun c_93 => ?_) (fun c_93 => ?_)
      · have hm := hm.1 c_93
        refine lv_iconst (v := 0) hx hb dX8_isOrderLine_119 (by decide) ?_
        exact hret 120 _ _ _ _ (N_90, P_90) hm hT rfl dX8_isOrderLine_120
      · have hm := hm.2 c_93
        refine lv_goto (tgt := 110) hx hb dX8_isOrderLine_96 (by decide) ?_
        exact L110 _ _ _ _ _ _ hm hT (lv_sub hl [1, 0] rfl)
  have L24 : ∀ (N : M2) (P : M2) (v1 : Int32) (H : Heap) (locs : List Loc) (ls : Array Slot), wj_X8_isOrderLine_24 K N P v1 → TS vwCl D (MP Z q g pl sa aa N P) A s.heap H locs → lv_has ls 3 [(0, .ref (g 220)), (1, .int v1)] → W p l e (rk 131 0 0) s m args below meth c H locs 0 0 Q (F0 m 24 ls []) := by
    intro N P v1 H locs ls hm hT hl
    refine lv_aload_n hx hb dX8_isOrderLine_24 rfl (lv_at hl 0 rfl) ?_
    refine gMP_mod_7 hC hK hT.1 wq_1426 dX8_isOrderLine_25 ?_
    refine lv_aload_n hx hb dX8_isOrderLine_28 rfl (lv_at hl 0 rfl) ?_
    refine gMP_mod_9 hC hK hT.1 wq_1428 dX8_isOrderLine_29 ?_
    refine lv_iload_n hx hb dX8_isOrderLine_32 rfl (lv_at hl 1 rfl) ?_
    refine lv_bipush (v := 17) hx hb dX8_isOrderLine_33 (by decide) ?_
    refine lv_icmp_ne (tgt := 42) hx hb dX8_isOrderLine_35 (by decide) (fun c_35 => ?_) (fun c_35 => ?_)
    · have hm := hm.1 c_35
      refine lv_bipush (v := 6) hx hb dX8_isOrderLine_42 (by decide) ?_
      exact L44 _ _ _ _ _ _ _ _ hm hT (lv_sub hl [0, 1] rfl)
    · have hm := hm.2 c_35
      refine lv_iconst (v := 5) hx hb dX8_isOrderLine_38 (by decide) ?_
      refine lv_goto (tgt := 44) hx hb dX8_isOrderLine_39 (by decide) ?_
      exact L44 _ _ _ _ _ _ _ _ hm hT (lv_sub hl [0, 1] rfl)
  refine lv_aload_n hx hb dX8_isOrderLine_0 rfl (lv_at hl 0 rfl) ?_
  refine gMP_mod_4 hC hK hT.1 wq_1423 dX8_isOrderLine_1 ?_
  refine lv_aload_n hx hb dX8_isOrderLine_4 rfl (lv_at hl 0 rfl) ?_
  refine gMP_mod_9 hC hK hT.1 wq_1428 dX8_isOrderLine_5 ?_
  refine w_iald (q0 := 2) hC hK hT.1 rfl hm.1 dX8_isOrderLine_8 ?_
  have hm := hm.2
  refine lv_topi (fun v1_9 ev1_9 => ?_)
  have hm := hm v1_9 ev1_9
  refine lv_istore_n (lv' := [(1, .int v1_9), (0, .ref (g 220))]) hx hb dX8_isOrderLine_9 rfl hl (by decide) rfl (fun ls hl => ?_)
  refine lv_iload_n hx hb dX8_isOrderLine_10 rfl (lv_at hl 0 rfl) ?_
  refine lv_bipush (v := 17) hx hb dX8_isOrderLine_11 (by decide) ?_
  refine lv_icmp_eq (tgt := 24) hx hb dX8_isOrderLine_13 (by decide) (fun c_13 => ?_) (fun c_13 => ?_)
  · have hm := hm.1 c_13
    exact L24 _ _ _ _ _ _ hm hT (lv_sub hl [1, 0] rfl)
  · have hm := hm.2 c_13
    refine lv_iload_n hx hb dX8_isOrderLine_16 rfl (lv_at hl 0 rfl) ?_
    refine lv_bipush (v := 18) hx hb dX8_isOrderLine_17 (by decide) ?_
    refine lv_icmp_eq (tgt := 24) hx hb dX8_isOrderLine_19 (by decide) (fun c_19 => ?_) (fun c_19 => ?_)
    · have hm := hm.1 c_19
      exact L24 _ _ _ _ _ _ hm hT (lv_sub hl [1, 0] rfl)
    · have hm := hm.2 c_19
      refine lv_iconst (v := 0) hx hb dX8_isOrderLine_22 (by decide) ?_
      exact hret 23 _ _ _ _ (N, P) hm hT rfl dX8_isOrderLine_23
section KX8_isOrderLine
variable {p : Program} {l : Launch} {e : Env} {s : State} {m : MethodId} {args : Array Value} {below : List Frame} {meth : Method} {c : Code} {H H0 : Heap} {locs : List Loc} {cells slots : Nat} {Q : State → Prop} {R : Room} {rn mcR msR : Nat}
variable {pc : Nat} {ls : Array Slot} {rest : List Value} {A : Nat → Prop} {D : va_G}
variable {cc : ByteArray} {nL index : Nat} {own host : String}
theorem k_X8_isOrderLine {Z : Nat → ClassId} {q g : Nat → Nat} {pl sa aa : Nat} {N : M2} {P : M2} {K : Int32 → M2 → M2 → Prop} (hC : CallFix p m c cc nL s args lw_g own) (hN : NW s) (hK : va_K D vwCl (tysG Z) s) (hT : TS vwCl D (MP Z q g pl sa aa N P) A H0 H locs) (hm : wp_X8_isOrderLine N P K) (hl : Cond.methodLink own index yX8_isOrderLine ∈ lw_g) (hlt : 131 < rn) (hsize : ls.size = nL) (hW : (rest.map fun v => v.category).sum ≤ 8) (hf : cells + 0 ≤ mcR ∧ slots + 0 ≤ msR) (hdg : decode cc pc = .ok (.invokevirtual index, 3)) (kk : ∀ (r : Int32) (N1 : M2) (P1 : M2) (H1 : Heap) (locs1 : List Loc), K r N1 P1 → TS vwCl D (MP Z q g pl sa aa N1 P1) A H0 H1 locs1 → W p l e (rk rn mcR msR) s m args below meth c H1 locs1 cells slots Q (F0 m (pc + 3) ls (.int r :: rest))) : W p l e (rk rn mcR msR) s m args below meth c H locs cells slots Q (F0 m pc ls (.ref (g 220) :: rest)) :=
  rw_go (wsF := (fun u : M2 × M2 => MP Z q g pl sa aa u.1 u.2)) (u0 := (N, P)) (wr := []) (isC := cutMP) (isR := []) (pm := cutMP) (ws' := (fun u : M2 × M2 => MP Z q g pl sa aa u.1 u.2)) (runV (As := []) hC hN (c_X8_isOrderLine l D Z q g pl sa aa N P H.size K hm) mi_X8_isOrderLine hl wq_1613 wq_77 hlt hT.1 hT.D' hK (q0 := 0) rfl rfl rfl hsize rfl hW hdg hf) (cutOkMP Z q g pl sa aa N P) hT (fun r u H1 locs1 hk hT1 => kk r u.1 u.2 H1 locs1 hk hT1)
end KX8_isOrderLine
def wj_X8_isPlan_76 (C0 : M2 → M2 → Prop) (K : Int32 → M2 → M2 → Prop) (N : M2) (P : M2) (q0 : Int32) : Prop := ((q0 = 0 → K 0 N P) ∧ (¬ q0 = 0 → wp_X8_eatSign N P 59 (fun r_84 N_84 P_84 => ((¬ r_84 = 0 → C0 N_84 P_84) ∧ (r_84 = 0 → K 0 N_84 P_84)))))
def wl_X8_isPlan_0 (K : Int32 → M2 → M2 → Prop) : Nat → M2 → M2 → Prop
  | 0, _, _ => False
  | n + 1, N, P => wp_X8_is N P 900 (fun r_4 => ((¬ r_4 = 0 → K 1 N P) ∧ (r_4 = 0 → wp_X8_is N P 0 (fun r_12 => ((r_12 = 0 → wp_X8_is N P 3 (fun r_27 => ((r_27 = 0 → wp_X8_is N P 6 (fun r_43 => ((r_43 = 0 → wp_X8_is N P 9 (fun r_59 => ((r_59 = 0 → wp_X8_isOrderLine N P (fun r_73 N_73 P_73 => wj_X8_isPlan_76 (wl_X8_isPlan_0 K n) K N_73 P_73 r_73)) ∧ (¬ r_59 = 0 → wp_X8_isBoatLine N P (fun r_66 N_66 P_66 => wj_X8_isPlan_76 (wl_X8_isPlan_0 K n) K N_66 P_66 r_66))))) ∧ (¬ r_43 = 0 → wp_X8_isLeggerLine N P (fun r_50 N_50 P_50 => wj_X8_isPlan_76 (wl_X8_isPlan_0 K n) K N_50 P_50 r_50))))) ∧ (¬ r_27 = 0 → wp_X8_isShaftLine N P (fun r_34 N_34 P_34 => wj_X8_isPlan_76 (wl_X8_isPlan_0 K n) K N_34 P_34 r_34))))) ∧ (¬ r_12 = 0 → wp_X8_isBoreLine N P (fun r_19 N_19 P_19 => wj_X8_isPlan_76 (wl_X8_isPlan_0 K n) K N_19 P_19 r_19)))))))
def wp_X8_isPlan (N : M2) (P : M2) (K : Int32 → M2 → M2 → Prop) : Prop := wl_X8_isPlan_0 K fK N P
set_option maxRecDepth 100000 in
set_option maxHeartbeats 4000000 in
theorem c_X8_isPlan (l : Launch) (D : va_G) (Z : Nat → ClassId) (q g : Nat → Nat) (pl sa aa : Nat) (N : M2) (P : M2) (sz : Nat) (K : Int32 → M2 → M2 → Prop) (hm : wp_X8_isPlan N P K) : Met l yX8_isPlan (wy yX8_isPlan cX8_isPlan 2 (some .boolean)) (rk 132 0 0) (pre vwCl D Z (MP Z q g pl sa aa N P) sz [.ref (g 220)]) (poI vwCl D Z (fun u : M2 × M2 => MP Z q g pl sa aa u.1 u.2) (N, P) sz (fun (r : Int32) (u : M2 × M2) => K r u.1 u.2)) 0 0 (va_A (MP Z q g pl sa aa N P) sz) := by
  refine rw_of (ty := .boolean) (wsF := (fun u : M2 × M2 => MP Z q g pl sa aa u.1 u.2)) (u0 := (N, P)) (by decide +kernel) (Nat.le_of_ble_eq_true rfl) rfl ?_
  intro p e s m args below meth c Q A hC hN hsz hT hK hret ls hl
  have hx := hC.1
  have hb := hC.2.1
  have hl : lv_has ls 2 [(0, .ref (g 220))] := hl
  have hT : TS vwCl D (MP Z q g pl sa aa N P) A s.heap s.heap [] := hT
  have L0 : ∀ (n0 : Nat), ∀ (N : M2) (P : M2) (H : Heap) (locs : List Loc) (ls : Array Slot), wl_X8_isPlan_0 K n0 N P → TS vwCl D (MP Z q g pl sa aa N P) A s.heap H locs → lv_has ls 2 [(0, .ref (g 220))] → W p l e (rk 132 0 0) s m args below meth c H locs 0 0 Q (F0 m 0 ls []) := by
    intro n0
    induction n0 with
    | zero =>
      intro N P H locs ls hm hT hl
      exact False.elim hm
    | succ n0 ih0 =>
      have L76 : ∀ (N : M2) (P : M2) (q0 : Int32) (H : Heap) (locs : List Loc) (ls : Array Slot), wj_X8_isPlan_76 (wl_X8_isPlan_0 K n0) K N P q0 → TS vwCl D (MP Z q g pl sa aa N P) A s.heap H locs → lv_has ls 2 [(0, .ref (g 220))] → W p l e (rk 132 0 0) s m args below meth c H locs 0 0 Q (F0 m 76 ls [.int q0]) := by
        intro N P q0 H locs ls hm hT hl
        refine lv_istore_n (lv' := [(1, .int q0), (0, .ref (g 220))]) hx hb dX8_isPlan_76 rfl hl (by decide) rfl (fun ls hl => ?_)
        refine lv_iload_n hx hb dX8_isPlan_77 rfl (lv_at hl 0 rfl) ?_
        refine lv_if_eq (tgt := 90) hx hb dX8_isPlan_78 (by decide) (fun c_78 => ?_) (fun c_78 => ?_)
        · have hm := hm.1 c_78
          refine lv_iconst (v := 0) hx hb dX8_isPlan_90 (by decide) ?_
          exact hret 91 _ _ _ _ (N, P) hm hT rfl dX8_isPlan_91
        · have hm := hm.2 c_78
          refine lv_aload_n hx hb dX8_isPlan_81 rfl (lv_at hl 1 rfl) ?_
          refine lv_bipush (v := 59) hx hb dX8_isPlan_82 (by decide) ?_
          refine k_X8_eatSign hC hN hK hT hm wq_1640 (by decide) hl.1 (Nat.le_of_ble_eq_true rfl) ⟨Nat.le_refl _, Nat.le_refl _⟩ dX8_isPlan_84 (fun r_84 N_84 P_84 H locs hm hT => ?_)
          refine lv_if_ne (tgt := 92) hx hb dX8_isPlan_87 (by decide) (fun c_87 => ?_) (fun c_87 => ?_)
          · have hm := hm.1 c_87
            refine lv_goto (tgt := 0) hx hb dX8_isPlan_92 (by decide) ?_
            exact ih0 _ _ _ _ _ hm hT (lv_sub hl [1] rfl)
          · have hm := hm.2 c_87
            refine lv_iconst (v := 0) hx hb dX8_isPlan_90 (by decide) ?_
            exact hret 91 _ _ _ _ (N_84, P_84) hm hT rfl dX8_isPlan_91
      intro N P H locs ls hm hT hl
      refine lv_aload_n hx hb dX8_isPlan_0 rfl (lv_at hl 0 rfl) ?_
      refine lv_sipush (v := 900) hx hb dX8_isPlan_1 (by decide) ?_
      refine k_X8_is hC hN hK hT.1 hT.D' hm wq_1579 (by decide) hl.1 (Nat.le_of_ble_eq_true rfl) ⟨Nat.le_refl _, Nat.le_refl _⟩ dX8_isPlan_4 (fun r_4 hm => ?_)
      refine lv_if_ne (tgt := 95) hx hb dX8_isPlan_7 (by decide) (fun c_7 => ?_) (fun c_7 => ?_)
      · have hm := hm.1 c_7
        refine lv_iconst (v := 1) hx hb dX8_isPlan_95 (by decide) ?_
        exact hret 96 _ _ _ _ (N, P) hm hT rfl dX8_isPlan_96
      · have hm := hm.2 c_7
        refine lv_aload_n hx hb dX8_isPlan_10 rfl (lv_at hl 0 rfl) ?_
        refine lv_iconst (v := 0) hx hb dX8_isPlan_11 (by decide) ?_
        refine k_X8_is hC hN hK hT.1 hT.D' hm wq_1579 (by decide) hl.1 (Nat.le_of_ble_eq_true rfl) ⟨Nat.le_refl _, Nat.le_refl _⟩ dX8_isPlan_12 (fun r_12 hm => ?_)
        refine lv_if_eq (tgt := 25) hx hb dX8_isPlan_15 (by decide) (fun c_15 => ?_) (fun c_15 => ?_)
        · have hm := hm.1 c_15
          refine lv_aload_n hx hb dX8_isPlan_25 rfl (lv_at hl 0 rfl) ?_
          refine lv_iconst (v := 3) hx hb dX8_isPlan_26 (by decide) ?_
          refine k_X8_is hC hN hK hT.1 hT.D' hm wq_1579 (by decide) hl.1 (Nat.le_of_ble_eq_true rfl) ⟨Nat.le_refl _, Nat.le_refl _⟩ dX8_isPlan_27 (fun r_27 hm => ?_)
          refine lv_if_eq (tgt := 40) hx hb dX8_isPlan_30 (by decide) (fun c_30 => ?_) (fun c_30 => ?_)
          · have hm := hm.1 c_30
            refine lv_aload_n hx hb dX8_isPlan_40 rfl (lv_at hl 0 rfl) ?_
            refine lv_bipush (v := 6) hx hb dX8_isPlan_41 (by decide) ?_
            refine k_X8_is hC hN hK hT.1 hT.D' hm wq_1579 (by decide) hl.1 (Nat.le_of_ble_eq_true rfl) ⟨Nat.le_refl _, Nat.le_refl _⟩ dX8_isPlan_43 (fun r_43 hm => ?_)
            refine lv_if_eq (tgt := 56) hx hb dX8_isPlan_46 (by decide) (fun c_46 => ?_) (fun c_46 => ?_)
            · have hm := hm.1 c_46
              refine lv_aload_n hx hb dX8_isPlan_56 rfl (lv_at hl 0 rfl) ?_
              refine lv_bipush (v := 9) hx hb dX8_isPlan_57 (by decide) ?_
              refine k_X8_is hC hN hK hT.1 hT.D' hm wq_1579 (by decide) hl.1 (Nat.le_of_ble_eq_true rfl) ⟨Nat.le_refl _, Nat.le_refl _⟩ dX8_isPlan_59 (fun r_59 hm => ?_)
              refine lv_if_eq (tgt := 72) hx hb dX8_isPlan_62 (by decide) (fun c_62 => ?_) (fun c_62 => ?_)
              · have hm := hm.1 c_62
                refine lv_aload_n hx hb dX8_isPlan_72 rfl (lv_at hl 0 rfl) ?_
                refine k_X8_isOrderLine hC hN hK hT hm wq_1611 (by decide) hl.1 (Nat.le_of_ble_eq_true rfl) ⟨Nat.le_refl _, Nat.le_refl _⟩ dX8_isPlan_73 (fun r_73 N_73 P_73 H locs hm hT => ?_)
                exact L76 _ _ _ _ _ _ hm hT (lv_sub hl [0] rfl)
              · have hm := hm.2 c_62
                refine lv_aload_n hx hb dX8_isPlan_65 rfl (lv_at hl 0 rfl) ?_
                refine k_X8_isBoatLine hC hN hK hT hm wq_1603 (by decide) hl.1 (Nat.le_of_ble_eq_true rfl) ⟨Nat.le_refl _, Nat.le_refl _⟩ dX8_isPlan_66 (fun r_66 N_66 P_66 H locs hm hT => ?_)
                refine lv_goto (tgt := 76) hx hb dX8_isPlan_69 (by decide) ?_
                exact L76 _ _ _ _ _ _ hm hT (lv_sub hl [0] rfl)
            · have hm := hm.2 c_46
              refine lv_aload_n hx hb dX8_isPlan_49 rfl (lv_at hl 0 rfl) ?_
              refine k_X8_isLeggerLine hC hN hK hT hm wq_1599 (by decide) hl.1 (Nat.le_of_ble_eq_true rfl) ⟨Nat.le_refl _, Nat.le_refl _⟩ dX8_isPlan_50 (fun r_50 N_50 P_50 H locs hm hT => ?_)
              refine lv_goto (tgt := 76) hx hb dX8_isPlan_53 (by decide) ?_
              exact L76 _ _ _ _ _ _ hm hT (lv_sub hl [0] rfl)
          · have hm := hm.2 c_30
            refine lv_aload_n hx hb dX8_isPlan_33 rfl (lv_at hl 0 rfl) ?_
            refine k_X8_isShaftLine hC hN hK hT hm wq_1595 (by decide) hl.1 (Nat.le_of_ble_eq_true rfl) ⟨Nat.le_refl _, Nat.le_refl _⟩ dX8_isPlan_34 (fun r_34 N_34 P_34 H locs hm hT => ?_)
            refine lv_goto (tgt := 76) hx hb dX8_isPlan_37 (by decide) ?_
            exact L76 _ _ _ _ _ _ hm hT (lv_sub hl [0] rfl)
        · have hm := hm.2 c_15
          refine lv_aload_n hx hb dX8_isPlan_18 rfl (lv_at hl 0 rfl) ?_
          refine k_X8_isBoreLine hC hN hK hT hm wq_1583 (by decide) hl.1 (Nat.le_of_ble_eq_true rfl) ⟨Nat.le_refl _, Nat.le_refl _⟩ dX8_isPlan_19 (fun r_19 N_19 P_19 H locs hm hT => ?_)
          refine lv_goto (tgt := 76) hx hb dX8_isPlan_22 (by decide) ?_
          exact L76 _ _ _ _ _ _ hm hT (lv_sub hl [0] rfl)
  exact L0 _ _ _ _ _ _ hm hT (lv_sub hl [0] rfl)
section KX8_isPlan
variable {p : Program} {l : Launch} {e : Env} {s : State} {m : MethodId} {args : Array Value} {below : List Frame} {meth : Method} {c : Code} {H H0 : Heap} {locs : List Loc} {cells slots : Nat} {Q : State → Prop} {R : Room} {rn mcR msR : Nat}
variable {pc : Nat} {ls : Array Slot} {rest : List Value} {A : Nat → Prop} {D : va_G}
variable {cc : ByteArray} {nL index : Nat} {own host : String}
end KX8_isPlan
