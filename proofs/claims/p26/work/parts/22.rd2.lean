theorem dX2_peek_0 : decode cX2_peek 0 = .ok (.aload_n 0, 1) := by decide +kernel
theorem dX2_peek_1 : decode cX2_peek 1 = .ok (.getfield 12, 3) := by decide +kernel
theorem dX2_peek_4 : decode cX2_peek 4 = .ok (.getfield 78, 3) := by decide +kernel
theorem dX2_peek_7 : decode cX2_peek 7 = .ok (.aload_n 0, 1) := by decide +kernel
theorem dX2_peek_8 : decode cX2_peek 8 = .ok (.getfield 38, 3) := by decide +kernel
theorem dX2_peek_11 : decode cX2_peek 11 = .ok (.invokestatic 74, 3) := by decide +kernel
theorem dX2_peek_14 : decode cX2_peek 14 = .ok (.ireturn, 1) := by decide +kernel
theorem dX2_number_0 : decode cX2_number 0 = .ok (.aload_n 0, 1) := by decide +kernel
theorem dX2_number_1 : decode cX2_number 1 = .ok (.getfield 12, 3) := by decide +kernel
theorem dX2_number_4 : decode cX2_number 4 = .ok (.getfield 81, 3) := by decide +kernel
theorem dX2_number_7 : decode cX2_number 7 = .ok (.iload_n 1, 1) := by decide +kernel
theorem dX2_number_8 : decode cX2_number 8 = .ok (.invokestatic 84, 3) := by decide +kernel
theorem dX2_number_11 : decode cX2_number 11 = .ok (.l2i, 1) := by decide +kernel
theorem dX2_number_12 : decode cX2_number 12 = .ok (.ireturn, 1) := by decide +kernel
theorem dX2_indexOf_0 : decode cX2_indexOf 0 = .ok (.iconst 0, 1) := by decide +kernel
theorem dX2_indexOf_1 : decode cX2_indexOf 1 = .ok (.istore 4, 2) := by decide +kernel
theorem dX2_indexOf_3 : decode cX2_indexOf 3 = .ok (.iload 4, 2) := by decide +kernel
theorem dX2_indexOf_5 : decode cX2_indexOf 5 = .ok (.iload_n 1, 1) := by decide +kernel
theorem dX2_indexOf_6 : decode cX2_indexOf 6 = .ok (.if_icmp .ge 28, 3) := by decide +kernel
theorem dX2_indexOf_9 : decode cX2_indexOf 9 = .ok (.iload 4, 2) := by decide +kernel
theorem dX2_indexOf_11 : decode cX2_indexOf 11 = .ok (.aload_n 0, 1) := by decide +kernel
theorem dX2_indexOf_12 : decode cX2_indexOf 12 = .ok (.arraylength, 1) := by decide +kernel
theorem dX2_indexOf_13 : decode cX2_indexOf 13 = .ok (.if_icmp .ge 21, 3) := by decide +kernel
theorem dX2_indexOf_16 : decode cX2_indexOf 16 = .ok (.aload_n 0, 1) := by decide +kernel
theorem dX2_indexOf_17 : decode cX2_indexOf 17 = .ok (.iload 4, 2) := by decide +kernel
theorem dX2_indexOf_19 : decode cX2_indexOf 19 = .ok (.laload, 1) := by decide +kernel
theorem dX2_indexOf_20 : decode cX2_indexOf 20 = .ok (.lload_n 2, 1) := by decide +kernel
theorem dX2_indexOf_21 : decode cX2_indexOf 21 = .ok (.lcmp, 1) := by decide +kernel
theorem dX2_indexOf_22 : decode cX2_indexOf 22 = .ok (.ifCond .ne 6, 3) := by decide +kernel
theorem dX2_indexOf_25 : decode cX2_indexOf 25 = .ok (.iload 4, 2) := by decide +kernel
theorem dX2_indexOf_27 : decode cX2_indexOf 27 = .ok (.ireturn, 1) := by decide +kernel
theorem dX2_indexOf_28 : decode cX2_indexOf 28 = .ok (.iinc 4 1, 3) := by decide +kernel
theorem dX2_indexOf_31 : decode cX2_indexOf 31 = .ok (.goto (-28), 3) := by decide +kernel
theorem dX2_indexOf_34 : decode cX2_indexOf 34 = .ok (.iconst (-1), 1) := by decide +kernel
theorem dX2_indexOf_35 : decode cX2_indexOf 35 = .ok (.ireturn, 1) := by decide +kernel
theorem dX2_take_0 : decode cX2_take 0 = .ok (.aload_n 0, 1) := by decide +kernel
theorem dX2_take_1 : decode cX2_take 1 = .ok (.getfield 12, 3) := by decide +kernel
theorem dX2_take_4 : decode cX2_take 4 = .ok (.getfield 78, 3) := by decide +kernel
theorem dX2_take_7 : decode cX2_take 7 = .ok (.aload_n 0, 1) := by decide +kernel
theorem dX2_take_8 : decode cX2_take 8 = .ok (.getfield 38, 3) := by decide +kernel
theorem dX2_take_11 : decode cX2_take 11 = .ok (.invokestatic 74, 3) := by decide +kernel
theorem dX2_take_14 : decode cX2_take 14 = .ok (.iload_n 1, 1) := by decide +kernel
theorem dX2_take_15 : decode cX2_take 15 = .ok (.if_icmp .eq 5, 3) := by decide +kernel
theorem dX2_take_18 : decode cX2_take 18 = .ok (.iconst 0, 1) := by decide +kernel
theorem dX2_take_19 : decode cX2_take 19 = .ok (.ireturn, 1) := by decide +kernel
theorem dX2_take_20 : decode cX2_take 20 = .ok (.aload_n 0, 1) := by decide +kernel
theorem dX2_take_21 : decode cX2_take 21 = .ok (.dup, 1) := by decide +kernel
theorem dX2_take_22 : decode cX2_take 22 = .ok (.getfield 38, 3) := by decide +kernel
theorem dX2_take_25 : decode cX2_take 25 = .ok (.iconst 1, 1) := by decide +kernel
theorem dX2_take_26 : decode cX2_take 26 = .ok (.iadd, 1) := by decide +kernel
theorem dX2_take_27 : decode cX2_take 27 = .ok (.putfield 38, 3) := by decide +kernel
theorem dX2_take_30 : decode cX2_take 30 = .ok (.iconst 1, 1) := by decide +kernel
theorem dX2_take_31 : decode cX2_take 31 = .ok (.ireturn, 1) := by decide +kernel
theorem dX2_tellFault_0 : decode cX2_tellFault 0 = .ok (.aload_n 0, 1) := by decide +kernel
theorem dX2_tellFault_1 : decode cX2_tellFault 1 = .ok (.getfield 42, 3) := by decide +kernel
theorem dX2_tellFault_4 : decode cX2_tellFault 4 = .ok (.ifCond .ne 13, 3) := by decide +kernel
theorem dX2_tellFault_7 : decode cX2_tellFault 7 = .ok (.aload_n 0, 1) := by decide +kernel
theorem dX2_tellFault_8 : decode cX2_tellFault 8 = .ok (.iload_n 1, 1) := by decide +kernel
theorem dX2_tellFault_9 : decode cX2_tellFault 9 = .ok (.putfield 42, 3) := by decide +kernel
theorem dX2_tellFault_12 : decode cX2_tellFault 12 = .ok (.aload_n 0, 1) := by decide +kernel
theorem dX2_tellFault_13 : decode cX2_tellFault 13 = .ok (.iload_n 2, 1) := by decide +kernel
theorem dX2_tellFault_14 : decode cX2_tellFault 14 = .ok (.putfield 45, 3) := by decide +kernel
theorem dX2_tellFault_17 : decode cX2_tellFault 17 = .ok (.return_, 1) := by decide +kernel
theorem dX2_needNew_0 : decode cX2_needNew 0 = .ok (.aload_n 1, 1) := by decide +kernel
theorem dX2_needNew_1 : decode cX2_needNew 1 = .ok (.iload_n 2, 1) := by decide +kernel
theorem dX2_needNew_2 : decode cX2_needNew 2 = .ok (.aload_n 0, 1) := by decide +kernel
theorem dX2_needNew_3 : decode cX2_needNew 3 = .ok (.getfield 12, 3) := by decide +kernel
theorem dX2_needNew_6 : decode cX2_needNew 6 = .ok (.getfield 81, 3) := by decide +kernel
theorem dX2_needNew_9 : decode cX2_needNew 9 = .ok (.iload_n 3, 1) := by decide +kernel
theorem dX2_needNew_10 : decode cX2_needNew 10 = .ok (.invokestatic 84, 3) := by decide +kernel
theorem dX2_needNew_13 : decode cX2_needNew 13 = .ok (.invokestatic 87, 3) := by decide +kernel
theorem dX2_needNew_16 : decode cX2_needNew 16 = .ok (.iconst (-1), 1) := by decide +kernel
theorem dX2_needNew_17 : decode cX2_needNew 17 = .ok (.if_icmp .eq 9, 3) := by decide +kernel
theorem dX2_needNew_20 : decode cX2_needNew 20 = .ok (.aload_n 0, 1) := by decide +kernel
theorem dX2_needNew_21 : decode cX2_needNew 21 = .ok (.iconst 2, 1) := by decide +kernel
theorem dX2_needNew_22 : decode cX2_needNew 22 = .ok (.iload_n 3, 1) := by decide +kernel
theorem dX2_needNew_23 : decode cX2_needNew 23 = .ok (.invokevirtual 91, 3) := by decide +kernel
theorem dX2_needNew_26 : decode cX2_needNew 26 = .ok (.iload_n 2, 1) := by decide +kernel
theorem dX2_needNew_27 : decode cX2_needNew 27 = .ok (.aload_n 1, 1) := by decide +kernel
theorem dX2_needNew_28 : decode cX2_needNew 28 = .ok (.arraylength, 1) := by decide +kernel
theorem dX2_needNew_29 : decode cX2_needNew 29 = .ok (.if_icmp .lt 9, 3) := by decide +kernel
theorem dX2_needNew_32 : decode cX2_needNew 32 = .ok (.aload_n 0, 1) := by decide +kernel
theorem dX2_needNew_33 : decode cX2_needNew 33 = .ok (.iconst 4, 1) := by decide +kernel
theorem dX2_needNew_34 : decode cX2_needNew 34 = .ok (.iload_n 3, 1) := by decide +kernel
theorem dX2_needNew_35 : decode cX2_needNew 35 = .ok (.invokevirtual 91, 3) := by decide +kernel
theorem dX2_needNew_38 : decode cX2_needNew 38 = .ok (.return_, 1) := by decide +kernel
theorem dX2_needKnown_0 : decode cX2_needKnown 0 = .ok (.aload_n 1, 1) := by decide +kernel
theorem dX2_needKnown_1 : decode cX2_needKnown 1 = .ok (.iload_n 2, 1) := by decide +kernel
theorem dX2_needKnown_2 : decode cX2_needKnown 2 = .ok (.aload_n 0, 1) := by decide +kernel
theorem dX2_needKnown_3 : decode cX2_needKnown 3 = .ok (.getfield 12, 3) := by decide +kernel
theorem dX2_needKnown_6 : decode cX2_needKnown 6 = .ok (.getfield 81, 3) := by decide +kernel
theorem dX2_needKnown_9 : decode cX2_needKnown 9 = .ok (.iload_n 3, 1) := by decide +kernel
theorem dX2_needKnown_10 : decode cX2_needKnown 10 = .ok (.invokestatic 84, 3) := by decide +kernel
theorem dX2_needKnown_13 : decode cX2_needKnown 13 = .ok (.invokestatic 87, 3) := by decide +kernel
theorem dX2_needKnown_16 : decode cX2_needKnown 16 = .ok (.istore 4, 2) := by decide +kernel
theorem dX2_needKnown_18 : decode cX2_needKnown 18 = .ok (.iload 4, 2) := by decide +kernel
theorem dX2_needKnown_20 : decode cX2_needKnown 20 = .ok (.iconst (-1), 1) := by decide +kernel
theorem dX2_needKnown_21 : decode cX2_needKnown 21 = .ok (.if_icmp .ne 9, 3) := by decide +kernel
theorem dX2_needKnown_24 : decode cX2_needKnown 24 = .ok (.aload_n 0, 1) := by decide +kernel
theorem dX2_needKnown_25 : decode cX2_needKnown 25 = .ok (.iconst 3, 1) := by decide +kernel
theorem dX2_needKnown_26 : decode cX2_needKnown 26 = .ok (.iload_n 3, 1) := by decide +kernel
theorem dX2_needKnown_27 : decode cX2_needKnown 27 = .ok (.invokevirtual 91, 3) := by decide +kernel
theorem dX2_needKnown_30 : decode cX2_needKnown 30 = .ok (.iload 4, 2) := by decide +kernel
theorem dX2_needKnown_32 : decode cX2_needKnown 32 = .ok (.ireturn, 1) := by decide +kernel
theorem dX2_needRange_0 : decode cX2_needRange 0 = .ok (.aload_n 0, 1) := by decide +kernel
theorem dX2_needRange_1 : decode cX2_needRange 1 = .ok (.iload_n 1, 1) := by decide +kernel
theorem dX2_needRange_2 : decode cX2_needRange 2 = .ok (.invokevirtual 95, 3) := by decide +kernel
theorem dX2_needRange_5 : decode cX2_needRange 5 = .ok (.istore 4, 2) := by decide +kernel
theorem dX2_needRange_7 : decode cX2_needRange 7 = .ok (.iload 4, 2) := by decide +kernel
theorem dX2_needRange_9 : decode cX2_needRange 9 = .ok (.iload_n 2, 1) := by decide +kernel
theorem dX2_needRange_10 : decode cX2_needRange 10 = .ok (.if_icmp .lt 9, 3) := by decide +kernel
theorem dX2_needRange_13 : decode cX2_needRange 13 = .ok (.iload 4, 2) := by decide +kernel
theorem dX2_needRange_15 : decode cX2_needRange 15 = .ok (.iload_n 3, 1) := by decide +kernel
theorem dX2_needRange_16 : decode cX2_needRange 16 = .ok (.if_icmp .le 9, 3) := by decide +kernel
theorem dX2_needRange_19 : decode cX2_needRange 19 = .ok (.aload_n 0, 1) := by decide +kernel
theorem dX2_needRange_20 : decode cX2_needRange 20 = .ok (.iconst 5, 1) := by decide +kernel
theorem dX2_needRange_21 : decode cX2_needRange 21 = .ok (.iload_n 1, 1) := by decide +kernel
theorem dX2_needRange_22 : decode cX2_needRange 22 = .ok (.invokevirtual 91, 3) := by decide +kernel
theorem dX2_needRange_25 : decode cX2_needRange 25 = .ok (.return_, 1) := by decide +kernel
theorem dX2_takeDeeper_0 : decode cX2_takeDeeper 0 = .ok (.iload_n 2, 1) := by decide +kernel
theorem dX2_takeDeeper_1 : decode cX2_takeDeeper 1 = .ok (.bipush 8, 2) := by decide +kernel
theorem dX2_takeDeeper_3 : decode cX2_takeDeeper 3 = .ok (.if_icmp .ge 15, 3) := by decide +kernel
theorem dX2_takeDeeper_6 : decode cX2_takeDeeper 6 = .ok (.aload_n 0, 1) := by decide +kernel
theorem dX2_takeDeeper_7 : decode cX2_takeDeeper 7 = .ok (.iload_n 1, 1) := by decide +kernel
theorem dX2_takeDeeper_8 : decode cX2_takeDeeper 8 = .ok (.invokevirtual 66, 3) := by decide +kernel
theorem dX2_takeDeeper_11 : decode cX2_takeDeeper 11 = .ok (.ifCond .eq 7, 3) := by decide +kernel
theorem dX2_takeDeeper_14 : decode cX2_takeDeeper 14 = .ok (.iconst 1, 1) := by decide +kernel
theorem dX2_takeDeeper_15 : decode cX2_takeDeeper 15 = .ok (.goto 4, 3) := by decide +kernel
theorem dX2_takeDeeper_18 : decode cX2_takeDeeper 18 = .ok (.iconst 0, 1) := by decide +kernel
theorem dX2_takeDeeper_19 : decode cX2_takeDeeper 19 = .ok (.ireturn, 1) := by decide +kernel
theorem dX2_emit_0 : decode cX2_emit 0 = .ok (.aload_n 0, 1) := by decide +kernel
theorem dX2_emit_1 : decode cX2_emit 1 = .ok (.getfield 34, 3) := by decide +kernel
theorem dX2_emit_4 : decode cX2_emit 4 = .ok (.getfield 181, 3) := by decide +kernel
theorem dX2_emit_7 : decode cX2_emit 7 = .ok (.iload_n 1, 1) := by decide +kernel
theorem dX2_emit_8 : decode cX2_emit 8 = .ok (.iload_n 2, 1) := by decide +kernel
theorem dX2_emit_9 : decode cX2_emit 9 = .ok (.invokevirtual 233, 3) := by decide +kernel
theorem dX2_emit_12 : decode cX2_emit 12 = .ok (.iconst 1, 1) := by decide +kernel
theorem dX2_emit_13 : decode cX2_emit 13 = .ok (.ireturn, 1) := by decide +kernel
theorem dX2_ofOne_0 : decode cX2_ofOne 0 = .ok (.aload_n 0, 1) := by decide +kernel
theorem dX2_ofOne_1 : decode cX2_ofOne 1 = .ok (.dup, 1) := by decide +kernel
theorem dX2_ofOne_2 : decode cX2_ofOne 2 = .ok (.getfield 38, 3) := by decide +kernel
theorem dX2_ofOne_5 : decode cX2_ofOne 5 = .ok (.iconst 1, 1) := by decide +kernel
theorem dX2_ofOne_6 : decode cX2_ofOne 6 = .ok (.iadd, 1) := by decide +kernel
theorem dX2_ofOne_7 : decode cX2_ofOne 7 = .ok (.putfield 38, 3) := by decide +kernel
theorem dX2_ofOne_10 : decode cX2_ofOne 10 = .ok (.aload_n 0, 1) := by decide +kernel
theorem dX2_ofOne_11 : decode cX2_ofOne 11 = .ok (.iconst 2, 1) := by decide +kernel
theorem dX2_ofOne_12 : decode cX2_ofOne 12 = .ok (.invokevirtual 66, 3) := by decide +kernel
theorem dX2_ofOne_15 : decode cX2_ofOne 15 = .ok (.ifCond .eq 27, 3) := by decide +kernel
theorem dX2_ofOne_18 : decode cX2_ofOne 18 = .ok (.aload_n 0, 1) := by decide +kernel
theorem dX2_ofOne_19 : decode cX2_ofOne 19 = .ok (.iload_n 1, 1) := by decide +kernel
theorem dX2_ofOne_20 : decode cX2_ofOne 20 = .ok (.aload_n 0, 1) := by decide +kernel
theorem dX2_ofOne_21 : decode cX2_ofOne 21 = .ok (.aload_n 2, 1) := by decide +kernel
theorem dX2_ofOne_22 : decode cX2_ofOne 22 = .ok (.iload_n 3, 1) := by decide +kernel
theorem dX2_ofOne_23 : decode cX2_ofOne 23 = .ok (.aload_n 0, 1) := by decide +kernel
theorem dX2_ofOne_24 : decode cX2_ofOne 24 = .ok (.getfield 38, 3) := by decide +kernel
theorem dX2_ofOne_27 : decode cX2_ofOne 27 = .ok (.iconst 1, 1) := by decide +kernel
theorem dX2_ofOne_28 : decode cX2_ofOne 28 = .ok (.isub, 1) := by decide +kernel
theorem dX2_ofOne_29 : decode cX2_ofOne 29 = .ok (.invokevirtual 173, 3) := by decide +kernel
theorem dX2_ofOne_32 : decode cX2_ofOne 32 = .ok (.invokevirtual 202, 3) := by decide +kernel
theorem dX2_ofOne_35 : decode cX2_ofOne 35 = .ok (.ifCond .eq 7, 3) := by decide +kernel
theorem dX2_ofOne_38 : decode cX2_ofOne 38 = .ok (.iconst 1, 1) := by decide +kernel
theorem dX2_ofOne_39 : decode cX2_ofOne 39 = .ok (.goto 4, 3) := by decide +kernel
theorem dX2_ofOne_42 : decode cX2_ofOne 42 = .ok (.iconst 0, 1) := by decide +kernel
theorem dX2_ofOne_43 : decode cX2_ofOne 43 = .ok (.ireturn, 1) := by decide +kernel
theorem mi_X2_peek : MInfo yX2_peek cX2_peek 1 (some .int) 0 := ⟨wq_1002, wq_79, by decide, ⟨by decide +kernel, by decide +kernel, by decide +kernel⟩, by decide +kernel⟩
theorem mi_X2_number : MInfo yX2_number cX2_number 2 (some .int) 1 := ⟨wq_1041, wq_79, by decide, ⟨by decide +kernel, by decide +kernel, by decide +kernel⟩, by decide +kernel⟩
theorem mi_X2_indexOf : MInfo yX2_indexOf cX2_indexOf 5 (some .int) 3 := ⟨wq_1029, wq_79, by decide, ⟨by decide +kernel, by decide +kernel, by decide +kernel⟩, by decide +kernel⟩
theorem mi_X2_take : MInfo yX2_take cX2_take 2 (some .boolean) 1 := ⟨wq_1021, wq_79, by decide, ⟨by decide +kernel, by decide +kernel, by decide +kernel⟩, by decide +kernel⟩
theorem mi_X2_tellFault : MInfo yX2_tellFault cX2_tellFault 3 none 2 := ⟨wq_1033, wq_79, by decide, ⟨by decide +kernel, by decide +kernel, by decide +kernel⟩, by decide +kernel⟩
theorem mi_X2_needNew : MInfo yX2_needNew cX2_needNew 4 none 3 := ⟨wq_1025, wq_79, by decide, ⟨by decide +kernel, by decide +kernel, by decide +kernel⟩, by decide +kernel⟩
theorem mi_X2_needKnown : MInfo yX2_needKnown cX2_needKnown 5 (some .int) 3 := ⟨wq_1077, wq_79, by decide, ⟨by decide +kernel, by decide +kernel, by decide +kernel⟩, by decide +kernel⟩
theorem mi_X2_needRange : MInfo yX2_needRange cX2_needRange 5 none 3 := ⟨wq_1037, wq_79, by decide, ⟨by decide +kernel, by decide +kernel, by decide +kernel⟩, by decide +kernel⟩
theorem mi_X2_takeDeeper : MInfo yX2_takeDeeper cX2_takeDeeper 3 (some .boolean) 2 := ⟨wq_1103, wq_79, by decide, ⟨by decide +kernel, by decide +kernel, by decide +kernel⟩, by decide +kernel⟩
theorem mi_X2_emit : MInfo yX2_emit cX2_emit 3 (some .boolean) 2 := ⟨wq_1107, wq_79, by decide, ⟨by decide +kernel, by decide +kernel, by decide +kernel⟩, by decide +kernel⟩
theorem mi_X2_ofOne : MInfo yX2_ofOne cX2_ofOne 4 (some .boolean) 3 := ⟨wq_1116, wq_79, by decide, ⟨by decide +kernel, by decide +kernel, by decide +kernel⟩, by decide +kernel⟩
def wp_X2_peek (F : M2) (L : L2) (K : Int32 → Prop) : Prop := K (atv (F 74) 401 (F 66 0))
set_option maxRecDepth 100000 in
set_option maxHeartbeats 4000000 in
theorem c_X2_peek (l : Launch) (D : va_G) (Z : Nat → ClassId) (a q : Nat → Nat) (F : M2) (L : L2) (sz : Nat) (K : Int32 → Prop) (hm : wp_X2_peek F L K) : Met l yX2_peek (wy yX2_peek cX2_peek 1 (some .int)) (rk 1 0 0) (pre vwCl D Z (KW Z a q (q 20) F L) sz [.ref (a 60)]) (vp_Si K) 0 0 (fun _ => False) := by
  refine ro_of (ty := .int) (by decide +kernel) (Nat.le_of_ble_eq_true rfl) rfl ?_
  intro p e s m args below meth c Q hC hN hsz hP hD hK hret ls hl
  have hx := hC.1
  have hb := hC.2.1
  have hl : lv_has ls 1 [(0, .ref (a 60))] := hl
  refine lv_aload_n hx hb dX2_peek_0 rfl (lv_at hl 0 rfl) ?_
  refine gKW_rd_0 hC hK hP wq_385 dX2_peek_1 ?_
  refine gKW_tok_3 hC hK hP wq_214 dX2_peek_4 ?_
  refine lv_aload_n hx hb dX2_peek_7 rfl (lv_at hl 0 rfl) ?_
  refine gKW_rd_6 hC hK hP wq_391 dX2_peek_8 ?_
  refine w_at (q0 := 8) hC hN hK hP wn_1003 rfl (by decide) (by decide) hl.1 (Nat.le_of_ble_eq_true rfl) ⟨Nat.le_refl _, Nat.le_refl _⟩ dX2_peek_11 ?_
  exact hret 14 _ _ hm rfl dX2_peek_14
section KX2_peek
variable {p : Program} {l : Launch} {e : Env} {s : State} {m : MethodId} {args : Array Value} {below : List Frame} {meth : Method} {c : Code} {H H0 : Heap} {locs : List Loc} {cells slots : Nat} {Q : State → Prop} {R : Room} {rn mcR msR : Nat}
variable {pc : Nat} {ls : Array Slot} {rest : List Value} {A : Nat → Prop} {D : va_G}
variable {cc : ByteArray} {nL index : Nat} {own host : String}
theorem k_X2_peek {Z : Nat → ClassId} {a q : Nat → Nat} {F : M2} {L : L2} {K : Int32 → Prop} (hC : CallFix p m c cc nL s args lw_g own) (hN : NW s) (hK : va_K D vwCl (tysG Z) s) (hP : va_P D vwCl (KW Z a q (q 20) F L) H) (hD : va_D (fun _ => True) (KW Z a q (q 20) F L)) (hm : wp_X2_peek F L K) (hl : Cond.methodLink own index yX2_peek ∈ lw_g) (hlt : 1 < rn) (hsize : ls.size = nL) (hW : (rest.map fun v => v.category).sum ≤ 8) (hf : cells + 0 ≤ mcR ∧ slots + 0 ≤ msR) (hdg : decode cc pc = .ok (.invokevirtual index, 3)) (kk : ∀ r : Int32, K r → W p l e (rk rn mcR msR) s m args below meth c H locs cells slots Q (F0 m (pc + 3) ls (.int r :: rest))) : W p l e (rk rn mcR msR) s m args below meth c H locs cells slots Q (F0 m pc ls (.ref (a 60) :: rest)) :=
  ro_go (runV (As := []) hC hN (c_X2_peek l D Z a q F L H.size K hm) mi_X2_peek hl wq_1001 wq_37 hlt hP hD hK (q0 := 0) rfl rfl rfl hsize rfl hW hdg hf) kk
end KX2_peek
def wp_X2_number (F : M2) (L : L2) (x1 : Int32) (K : Int32 → Prop) : Prop := K ((atl (L 76) 401 x1).toInt32)
set_option maxRecDepth 100000 in
set_option maxHeartbeats 4000000 in
theorem c_X2_number (l : Launch) (D : va_G) (Z : Nat → ClassId) (a q : Nat → Nat) (F : M2) (L : L2) (sz : Nat) (x1 : Int32) (K : Int32 → Prop) (hm : wp_X2_number F L x1 K) : Met l yX2_number (wy yX2_number cX2_number 2 (some .int)) (rk 1 0 0) (pre vwCl D Z (KW Z a q (q 20) F L) sz [.ref (a 60), .int x1]) (vp_Si K) 0 0 (fun _ => False) := by
  refine ro_of (ty := .int) (by decide +kernel) (Nat.le_of_ble_eq_true rfl) rfl ?_
  intro p e s m args below meth c Q hC hN hsz hP hD hK hret ls hl
  have hx := hC.1
  have hb := hC.2.1
  have hl : lv_has ls 2 [(0, .ref (a 60)), (1, .int x1)] := hl
  refine lv_aload_n hx hb dX2_number_0 rfl (lv_at hl 0 rfl) ?_
  refine gKW_rd_0 hC hK hP wq_385 dX2_number_1 ?_
  refine gKW_tok_5 hC hK hP wq_218 dX2_number_4 ?_
  refine lv_iload_n hx hb dX2_number_7 rfl (lv_at hl 1 rfl) ?_
  refine w_atl (q0 := 10) hC hN hK hP wn_1026 rfl (by decide) (by decide) hl.1 (Nat.le_of_ble_eq_true rfl) ⟨Nat.le_refl _, Nat.le_refl _⟩ dX2_number_8 ?_
  refine lv_l2i (v := (atl (L 76) 401 x1).toInt32) hx hb dX2_number_11 rfl ?_
  exact hret 12 _ _ hm rfl dX2_number_12
section KX2_number
variable {p : Program} {l : Launch} {e : Env} {s : State} {m : MethodId} {args : Array Value} {below : List Frame} {meth : Method} {c : Code} {H H0 : Heap} {locs : List Loc} {cells slots : Nat} {Q : State → Prop} {R : Room} {rn mcR msR : Nat}
variable {pc : Nat} {ls : Array Slot} {rest : List Value} {A : Nat → Prop} {D : va_G}
variable {cc : ByteArray} {nL index : Nat} {own host : String}
theorem k_X2_number {Z : Nat → ClassId} {a q : Nat → Nat} {F : M2} {L : L2} {x1 : Int32} {K : Int32 → Prop} (hC : CallFix p m c cc nL s args lw_g own) (hN : NW s) (hK : va_K D vwCl (tysG Z) s) (hP : va_P D vwCl (KW Z a q (q 20) F L) H) (hD : va_D (fun _ => True) (KW Z a q (q 20) F L)) (hm : wp_X2_number F L x1 K) (hl : Cond.methodLink own index yX2_number ∈ lw_g) (hlt : 1 < rn) (hsize : ls.size = nL) (hW : (rest.map fun v => v.category).sum ≤ 8) (hf : cells + 0 ≤ mcR ∧ slots + 0 ≤ msR) (hdg : decode cc pc = .ok (.invokevirtual index, 3)) (kk : ∀ r : Int32, K r → W p l e (rk rn mcR msR) s m args below meth c H locs cells slots Q (F0 m (pc + 3) ls (.int r :: rest))) : W p l e (rk rn mcR msR) s m args below meth c H locs cells slots Q (F0 m pc ls (.int x1 :: .ref (a 60) :: rest)) :=
  ro_go (runV (As := [.int x1]) hC hN (c_X2_number l D Z a q F L H.size x1 K hm) mi_X2_number hl wq_1040 wq_45 hlt hP hD hK (q0 := 0) rfl rfl rfl hsize rfl hW hdg hf) kk
end KX2_number
def wl_X2_indexOf_nB_3 (F : M2) (L : L2) (K : Int32 → Prop) : Nat → Int32 → Int64 → Int32 → Prop
  | 0, _, _, _ => False
  | n + 1, v1, v2, v4 => ((v1 ≤ v4 → K ((-1))) ∧ (¬ v1 ≤ v4 → (((Int32.ofNat 5) ≤ v4 → K ((-1))) ∧ (¬ (Int32.ofNat 5) ≤ v4 → (inb v4 5 ∧ ((¬ (lg_cmp (L 61 v4.toInt.toNat) v2) = 0 → (∀ v4_28 : Int32, v4_28 = v4 + 1 → wl_X2_indexOf_nB_3 F L K n v1 v2 v4_28)) ∧ ((lg_cmp (L 61 v4.toInt.toNat) v2) = 0 → K v4)))))))
def wp_X2_indexOf_nB (F : M2) (L : L2) (x1 : Int32) (x2 : Int64) (K : Int32 → Prop) : Prop := wl_X2_indexOf_nB_3 F L K fK x1 x2 0
set_option maxRecDepth 100000 in
set_option maxHeartbeats 4000000 in
theorem c_X2_indexOf_nB (l : Launch) (D : va_G) (Z : Nat → ClassId) (a q : Nat → Nat) (F : M2) (L : L2) (sz : Nat) (x1 : Int32) (x2 : Int64) (K : Int32 → Prop) (hm : wp_X2_indexOf_nB F L x1 x2 K) : Met l yX2_indexOf (wy yX2_indexOf cX2_indexOf 5 (some .int)) (rk 1 0 0) (pre vwCl D Z (KW Z a q (q 20) F L) sz [.ref (a 61), .int x1, .long x2]) (vp_Si K) 0 0 (fun _ => False) := by
  refine ro_of (ty := .int) (by decide +kernel) (Nat.le_of_ble_eq_true rfl) rfl ?_
  intro p e s m args below meth c Q hC hN hsz hP hD hK hret ls hl
  have hx := hC.1
  have hb := hC.2.1
  have hl : lv_has ls 5 [(0, .ref (a 61)), (1, .int x1), (2, .long x2)] := hl
  have L3 : ∀ (n3 : Nat), ∀ (v1 : Int32) (v2 : Int64) (v4 : Int32) (ls : Array Slot), wl_X2_indexOf_nB_3 F L K n3 v1 v2 v4 → lv_has ls 5 [(0, .ref (a 61)), (1, .int v1), (2, .long v2), (4, .int v4)] → W p l e (rk 1 0 0) s m args below meth c s.heap [] 0 0 Q (F0 m 3 ls []) := by
    intro n3
    induction n3 with
    | zero =>
      intro v1 v2 v4 ls hm hl
      exact False.elim hm
    | succ n3 ih3 =>
      intro v1 v2 v4 ls hm hl
      refine lv_iload hx hb dX2_indexOf_3 (lv_at hl 3 rfl) ?_
      refine lv_iload_n hx hb dX2_indexOf_5 rfl (lv_at hl 1 rfl) ?_
      refine lv_icmp_ge (tgt := 34) hx hb dX2_indexOf_6 (by decide) (fun c_6 => ?_) (fun c_6 => ?_)
      · have hm := hm.1 c_6
        refine lv_iconst (v := (-1)) hx hb dX2_indexOf_34 (by decide) ?_
        exact hret 35 _ _ hm rfl dX2_indexOf_35
      · have hm := hm.2 c_6
        refine lv_iload hx hb dX2_indexOf_9 (lv_at hl 3 rfl) ?_
        refine lv_aload_n hx hb dX2_indexOf_11 rfl (lv_at hl 0 rfl) ?_
        refine w_alen (q0 := 1) (t0 := 1) hC hK hP rfl rfl dX2_indexOf_12 ?_
        refine lv_icmp_ge (tgt := 34) hx hb dX2_indexOf_13 (by decide) (fun c_13 => ?_) (fun c_13 => ?_)
        · have hm := hm.1 c_13
          refine lv_iconst (v := (-1)) hx hb dX2_indexOf_34 (by decide) ?_
          exact hret 35 _ _ hm rfl dX2_indexOf_35
        · have hm := hm.2 c_13
          refine lv_aload_n hx hb dX2_indexOf_16 rfl (lv_at hl 0 rfl) ?_
          refine lv_iload hx hb dX2_indexOf_17 (lv_at hl 3 rfl) ?_
          refine w_lald (q0 := 1) hC hK hP rfl hm.1 dX2_indexOf_19 ?_
          have hm := hm.2
          refine lv_lload_n hx hb dX2_indexOf_20 rfl (lv_at hl 2 rfl) ?_
          refine W.lcmp hx hb dX2_indexOf_21 ?_
          refine lv_if_ne (tgt := 28) hx hb dX2_indexOf_22 (by decide) (fun c_22 => ?_) (fun c_22 => ?_)
          · have hm := hm.1 c_22
            obtain ⟨v4_28, ev4_28⟩ : ∃ y : Int32, y = v4 + 1 := ⟨_, rfl⟩
            have hm := hm v4_28 ev4_28
            refine lv_iinc (v := v4_28) (lv' := [(4, .int v4_28), (0, .ref (a 61)), (1, .int v1), (2, .long v2)]) hx hb dX2_indexOf_28 hl (k := 3) rfl (by rw [ev4_28]; rfl) (by decide) rfl (fun ls hl => ?_)
            refine lv_goto (tgt := 3) hx hb dX2_indexOf_31 (by decide) ?_
            exact ih3 _ _ _ _ hm (lv_sub hl [1, 2, 3, 0] rfl)
          · have hm := hm.2 c_22
            refine lv_iload hx hb dX2_indexOf_25 (lv_at hl 3 rfl) ?_
            exact hret 27 _ _ hm rfl dX2_indexOf_27
  refine lv_iconst (v := 0) hx hb dX2_indexOf_0 (by decide) ?_
  refine lv_istore (lv' := [(4, .int 0), (0, .ref (a 61)), (1, .int x1), (2, .long x2)]) hx hb dX2_indexOf_1 hl (by decide) rfl (fun ls hl => ?_)
  exact L3 _ _ _ _ _ hm (lv_sub hl [1, 2, 3, 0] rfl)
section KX2_indexOf_nB
variable {p : Program} {l : Launch} {e : Env} {s : State} {m : MethodId} {args : Array Value} {below : List Frame} {meth : Method} {c : Code} {H H0 : Heap} {locs : List Loc} {cells slots : Nat} {Q : State → Prop} {R : Room} {rn mcR msR : Nat}
variable {pc : Nat} {ls : Array Slot} {rest : List Value} {A : Nat → Prop} {D : va_G}
variable {cc : ByteArray} {nL index : Nat} {own host : String}
theorem k_X2_indexOf_nB {Z : Nat → ClassId} {a q : Nat → Nat} {F : M2} {L : L2} {x1 : Int32} {x2 : Int64} {K : Int32 → Prop} (hC : CallFix p m c cc nL s args lw_g own) (hN : NW s) (hK : va_K D vwCl (tysG Z) s) (hP : va_P D vwCl (KW Z a q (q 20) F L) H) (hD : va_D (fun _ => True) (KW Z a q (q 20) F L)) (hm : wp_X2_indexOf_nB F L x1 x2 K) (hl : Cond.methodLink own index yX2_indexOf ∈ lw_g) (hlt : 1 < rn) (hsize : ls.size = nL) (hW : (rest.map fun v => v.category).sum ≤ 8) (hf : cells + 0 ≤ mcR ∧ slots + 0 ≤ msR) (hdg : decode cc pc = .ok (.invokestatic index, 3)) (kk : ∀ r : Int32, K r → W p l e (rk rn mcR msR) s m args below meth c H locs cells slots Q (F0 m (pc + 3) ls (.int r :: rest))) : W p l e (rk rn mcR msR) s m args below meth c H locs cells slots Q (F0 m pc ls (.long x2 :: .int x1 :: .ref (a 61) :: rest)) :=
  ro_go (runS (As := [.ref (a 61), .int x1, .long x2]) hC hN (c_X2_indexOf_nB l D Z a q F L H.size x1 x2 K hm) mi_X2_indexOf hl wq_1028 hlt hP hD hK rfl hsize rfl hW hdg hf) kk
end KX2_indexOf_nB
def wl_X2_indexOf_nS_3 (F : M2) (L : L2) (K : Int32 → Prop) : Nat → Int32 → Int64 → Int32 → Prop
  | 0, _, _, _ => False
  | n + 1, v1, v2, v4 => ((v1 ≤ v4 → K ((-1))) ∧ (¬ v1 ≤ v4 → (((Int32.ofNat 4) ≤ v4 → K ((-1))) ∧ (¬ (Int32.ofNat 4) ≤ v4 → (inb v4 4 ∧ ((¬ (lg_cmp (L 62 v4.toInt.toNat) v2) = 0 → (∀ v4_28 : Int32, v4_28 = v4 + 1 → wl_X2_indexOf_nS_3 F L K n v1 v2 v4_28)) ∧ ((lg_cmp (L 62 v4.toInt.toNat) v2) = 0 → K v4)))))))
def wp_X2_indexOf_nS (F : M2) (L : L2) (x1 : Int32) (x2 : Int64) (K : Int32 → Prop) : Prop := wl_X2_indexOf_nS_3 F L K fK x1 x2 0
set_option maxRecDepth 100000 in
set_option maxHeartbeats 4000000 in
theorem c_X2_indexOf_nS (l : Launch) (D : va_G) (Z : Nat → ClassId) (a q : Nat → Nat) (F : M2) (L : L2) (sz : Nat) (x1 : Int32) (x2 : Int64) (K : Int32 → Prop) (hm : wp_X2_indexOf_nS F L x1 x2 K) : Met l yX2_indexOf (wy yX2_indexOf cX2_indexOf 5 (some .int)) (rk 1 0 0) (pre vwCl D Z (KW Z a q (q 20) F L) sz [.ref (a 62), .int x1, .long x2]) (vp_Si K) 0 0 (fun _ => False) := by
  refine ro_of (ty := .int) (by decide +kernel) (Nat.le_of_ble_eq_true rfl) rfl ?_
  intro p e s m args below meth c Q hC hN hsz hP hD hK hret ls hl
  have hx := hC.1
  have hb := hC.2.1
  have hl : lv_has ls 5 [(0, .ref (a 62)), (1, .int x1), (2, .long x2)] := hl
  have L3 : ∀ (n3 : Nat), ∀ (v1 : Int32) (v2 : Int64) (v4 : Int32) (ls : Array Slot), wl_X2_indexOf_nS_3 F L K n3 v1 v2 v4 → lv_has ls 5 [(0, .ref (a 62)), (1, .int v1), (2, .long v2), (4, .int v4)] → W p l e (rk 1 0 0) s m args below meth c s.heap [] 0 0 Q (F0 m 3 ls []) := by
    intro n3
    induction n3 with
    | zero =>
      intro v1 v2 v4 ls hm hl
      exact False.elim hm
    | succ n3 ih3 =>
      intro v1 v2 v4 ls hm hl
      refine lv_iload hx hb dX2_indexOf_3 (lv_at hl 3 rfl) ?_
      refine lv_iload_n hx hb dX2_indexOf_5 rfl (lv_at hl 1 rfl) ?_
      refine lv_icmp_ge (tgt := 34) hx hb dX2_indexOf_6 (by decide) (fun c_6 => ?_) (fun c_6 => ?_)
      · have hm := hm.1 c_6
        refine lv_iconst (v := (-1)) hx hb dX2_indexOf_34 (by decide) ?_
        exact hret 35 _ _ hm rfl dX2_indexOf_35
      · have hm := hm.2 c_6
        refine lv_iload hx hb dX2_indexOf_9 (lv_at hl 3 rfl) ?_
        refine lv_aload_n hx hb dX2_indexOf_11 rfl (lv_at hl 0 rfl) ?_
        refine w_alen (q0 := 2) (t0 := 1) hC hK hP rfl rfl dX2_indexOf_12 ?_
        refine lv_icmp_ge (tgt := 34) hx hb dX2_indexOf_13 (by decide) (fun c_13 => ?_) (fun c_13 => ?_)
        · have hm := hm.1 c_13
          refine lv_iconst (v := (-1)) hx hb dX2_indexOf_34 (by decide) ?_
          exact hret 35 _ _ hm rfl dX2_indexOf_35
        · have hm := hm.2 c_13
          refine lv_aload_n hx hb dX2_indexOf_16 rfl (lv_at hl 0 rfl) ?_
          refine lv_iload hx hb dX2_indexOf_17 (lv_at hl 3 rfl) ?_
          refine w_lald (q0 := 2) hC hK hP rfl hm.1 dX2_indexOf_19 ?_
          have hm := hm.2
          refine lv_lload_n hx hb dX2_indexOf_20 rfl (lv_at hl 2 rfl) ?_
          refine W.lcmp hx hb dX2_indexOf_21 ?_
          refine lv_if_ne (tgt := 28) hx hb dX2_indexOf_22 (by decide) (fun c_22 => ?_) (fun c_22 => ?_)
          · have hm := hm.1 c_22
            obtain ⟨v4_28, ev4_28⟩ : ∃ y : Int32, y = v4 + 1 := ⟨_, rfl⟩
            have hm := hm v4_28 ev4_28
            refine lv_iinc (v := v4_28) (lv' := [(4, .int v4_28), (0, .ref (a 62)), (1, .int v1), (2, .long v2)]) hx hb dX2_indexOf_28 hl (k := 3) rfl (by rw [ev4_28]; rfl) (by decide) rfl (fun ls hl => ?_)
            refine lv_goto (tgt := 3) hx hb dX2_indexOf_31 (by decide) ?_
            exact ih3 _ _ _ _ hm (lv_sub hl [1, 2, 3, 0] rfl)
          · have hm := hm.2 c_22
            refine lv_iload hx hb dX2_indexOf_25 (lv_at hl 3 rfl) ?_
            exact hret 27 _ _ hm rfl dX2_indexOf_27
  refine lv_iconst (v := 0) hx hb dX2_indexOf_0 (by decide) ?_
  refine lv_istore (lv' := [(4, .int 0), (0, .ref (a 62)), (1, .int x1), (2, .long x2)]) hx hb dX2_indexOf_1 hl (by decide) rfl (fun ls hl => ?_)
  exact L3 _ _ _ _ _ hm (lv_sub hl [1, 2, 3, 0] rfl)
section KX2_indexOf_nS
variable {p : Program} {l : Launch} {e : Env} {s : State} {m : MethodId} {args : Array Value} {below : List Frame} {meth : Method} {c : Code} {H H0 : Heap} {locs : List Loc} {cells slots : Nat} {Q : State → Prop} {R : Room} {rn mcR msR : Nat}
variable {pc : Nat} {ls : Array Slot} {rest : List Value} {A : Nat → Prop} {D : va_G}
variable {cc : ByteArray} {nL index : Nat} {own host : String}
theorem k_X2_indexOf_nS {Z : Nat → ClassId} {a q : Nat → Nat} {F : M2} {L : L2} {x1 : Int32} {x2 : Int64} {K : Int32 → Prop} (hC : CallFix p m c cc nL s args lw_g own) (hN : NW s) (hK : va_K D vwCl (tysG Z) s) (hP : va_P D vwCl (KW Z a q (q 20) F L) H) (hD : va_D (fun _ => True) (KW Z a q (q 20) F L)) (hm : wp_X2_indexOf_nS F L x1 x2 K) (hl : Cond.methodLink own index yX2_indexOf ∈ lw_g) (hlt : 1 < rn) (hsize : ls.size = nL) (hW : (rest.map fun v => v.category).sum ≤ 8) (hf : cells + 0 ≤ mcR ∧ slots + 0 ≤ msR) (hdg : decode cc pc = .ok (.invokestatic index, 3)) (kk : ∀ r : Int32, K r → W p l e (rk rn mcR msR) s m args below meth c H locs cells slots Q (F0 m (pc + 3) ls (.int r :: rest))) : W p l e (rk rn mcR msR) s m args below meth c H locs cells slots Q (F0 m pc ls (.long x2 :: .int x1 :: .ref (a 62) :: rest)) :=
  ro_go (runS (As := [.ref (a 62), .int x1, .long x2]) hC hN (c_X2_indexOf_nS l D Z a q F L H.size x1 x2 K hm) mi_X2_indexOf hl wq_1028 hlt hP hD hK rfl hsize rfl hW hdg hf) kk
end KX2_indexOf_nS
def wl_X2_indexOf_nL_3 (F : M2) (L : L2) (K : Int32 → Prop) : Nat → Int32 → Int64 → Int32 → Prop
  | 0, _, _, _ => False
  | n + 1, v1, v2, v4 => ((v1 ≤ v4 → K ((-1))) ∧ (¬ v1 ≤ v4 → (((Int32.ofNat 6) ≤ v4 → K ((-1))) ∧ (¬ (Int32.ofNat 6) ≤ v4 → (inb v4 6 ∧ ((¬ (lg_cmp (L 63 v4.toInt.toNat) v2) = 0 → (∀ v4_28 : Int32, v4_28 = v4 + 1 → wl_X2_indexOf_nL_3 F L K n v1 v2 v4_28)) ∧ ((lg_cmp (L 63 v4.toInt.toNat) v2) = 0 → K v4)))))))
def wp_X2_indexOf_nL (F : M2) (L : L2) (x1 : Int32) (x2 : Int64) (K : Int32 → Prop) : Prop := wl_X2_indexOf_nL_3 F L K fK x1 x2 0
set_option maxRecDepth 100000 in
set_option maxHeartbeats 4000000 in
theorem c_X2_indexOf_nL (l : Launch) (D : va_G) (Z : Nat → ClassId) (a q : Nat → Nat) (F : M2) (L : L2) (sz : Nat) (x1 : Int32) (x2 : Int64) (K : Int32 → Prop) (hm : wp_X2_indexOf_nL F L x1 x2 K) : Met l yX2_indexOf (wy yX2_indexOf cX2_indexOf 5 (some .int)) (rk 1 0 0) (pre vwCl D Z (KW Z a q (q 20) F L) sz [.ref (a 63), .int x1, .long x2]) (vp_Si K) 0 0 (fun _ => False) := by
  refine ro_of (ty := .int) (by decide +kernel) (Nat.le_of_ble_eq_true rfl) rfl ?_
  intro p e s m args below meth c Q hC hN hsz hP hD hK hret ls hl
  have hx := hC.1
  have hb := hC.2.1
  have hl : lv_has ls 5 [(0, .ref (a 63)), (1, .int x1), (2, .long x2)] := hl
  have L3 : ∀ (n3 : Nat), ∀ (v1 : Int32) (v2 : Int64) (v4 : Int32) (ls : Array Slot), wl_X2_indexOf_nL_3 F L K n3 v1 v2 v4 → lv_has ls 5 [(0, .ref (a 63)), (1, .int v1), (2, .long v2), (4, .int v4)] → W p l e (rk 1 0 0) s m args below meth c s.heap [] 0 0 Q (F0 m 3 ls []) := by
    intro n3
    induction n3 with
    | zero =>
      intro v1 v2 v4 ls hm hl
      exact False.elim hm
    | succ n3 ih3 =>
      intro v1 v2 v4 ls hm hl
      refine lv_iload hx hb dX2_indexOf_3 (lv_at hl 3 rfl) ?_
      refine lv_iload_n hx hb dX2_indexOf_5 rfl (lv_at hl 1 rfl) ?_
      refine lv_icmp_ge (tgt := 34) hx hb dX2_indexOf_6 (by decide) (fun c_6 => ?_) (fun c_6 => ?_)
      · have hm := hm.1 c_6
        refine lv_iconst (v := (-1)) hx hb dX2_indexOf_34 (by decide) ?_
        exact hret 35 _ _ hm rfl dX2_indexOf_35
      · have hm := hm.2 c_6
        refine lv_iload hx hb dX2_indexOf_9 (lv_at hl 3 rfl) ?_
        refine lv_aload_n hx hb dX2_indexOf_11 rfl (lv_at hl 0 rfl) ?_
        refine w_alen (q0 := 3) (t0 := 1) hC hK hP rfl rfl dX2_indexOf_12 ?_
        refine lv_icmp_ge (tgt := 34) hx hb dX2_indexOf_13 (by decide) (fun c_13 => ?_) (fun c_13 => ?_)
        · have hm := hm.1 c_13
          refine lv_iconst (v := (-1)) hx hb dX2_indexOf_34 (by decide) ?_
          exact hret 35 _ _ hm rfl dX2_indexOf_35
        · have hm := hm.2 c_13
          refine lv_aload_n hx hb dX2_indexOf_16 rfl (lv_at hl 0 rfl) ?_
          refine lv_iload hx hb dX2_indexOf_17 (lv_at hl 3 rfl) ?_
          refine w_lald (q0 := 3) hC hK hP rfl hm.1 dX2_indexOf_19 ?_
          have hm := hm.2
          refine lv_lload_n hx hb dX2_indexOf_20 rfl (lv_at hl 2 rfl) ?_
          refine W.lcmp hx hb dX2_indexOf_21 ?_
          refine lv_if_ne (tgt := 28) hx hb dX2_indexOf_22 (by decide) (fun c_22 => ?_) (fun c_22 => ?_)
          · have hm := hm.1 c_22
            obtain ⟨v4_28, ev4_28⟩ : ∃ y : Int32, y = v4 + 1 := ⟨_, rfl⟩
            have hm := hm v4_28 ev4_28
            refine lv_iinc (v := v4_28) (lv' := [(4, .int v4_28), (0, .ref (a 63)), (1, .int v1), (2, .long v2)]) hx hb dX2_indexOf_28 hl (k := 3) rfl (by rw [ev4_28]; rfl) (by decide) rfl (fun ls hl => ?_)
            refine lv_goto (tgt := 3) hx hb dX2_indexOf_31 (by decide) ?_
            exact ih3 _ _ _ _ hm (lv_sub hl [1, 2, 3, 0] rfl)
          · have hm := hm.2 c_22
            refine lv_iload hx hb dX2_indexOf_25 (lv_at hl 3 rfl) ?_
            exact hret 27 _ _ hm rfl dX2_indexOf_27
  refine lv_iconst (v := 0) hx hb dX2_indexOf_0 (by decide) ?_
  refine lv_istore (lv' := [(4, .int 0), (0, .ref (a 63)), (1, .int x1), (2, .long x2)]) hx hb dX2_indexOf_1 hl (by decide) rfl (fun ls hl => ?_)
  exact L3 _ _ _ _ _ hm (lv_sub hl [1, 2, 3, 0] rfl)
section KX2_indexOf_nL
variable {p : Program} {l : Launch} {e : Env} {s : State} {m : MethodId} {args : Array Value} {below : List Frame} {meth : Method} {c : Code} {H H0 : Heap} {locs : List Loc} {cells slots : Nat} {Q : State → Prop} {R : Room} {rn mcR msR : Nat}
variable {pc : Nat} {ls : Array Slot} {rest : List Value} {A : Nat → Prop} {D : va_G}
variable {cc : ByteArray} {nL index : Nat} {own host : String}
theorem k_X2_indexOf_nL {Z : Nat → ClassId} {a q : Nat → Nat} {F : M2} {L : L2} {x1 : Int32} {x2 : Int64} {K : Int32 → Prop} (hC : CallFix p m c cc nL s args lw_g own) (hN : NW s) (hK : va_K D vwCl (tysG Z) s) (hP : va_P D vwCl (KW Z a q (q 20) F L) H) (hD : va_D (fun _ => True) (KW Z a q (q 20) F L)) (hm : wp_X2_indexOf_nL F L x1 x2 K) (hl : Cond.methodLink own index yX2_indexOf ∈ lw_g) (hlt : 1 < rn) (hsize : ls.size = nL) (hW : (rest.map fun v => v.category).sum ≤ 8) (hf : cells + 0 ≤ mcR ∧ slots + 0 ≤ msR) (hdg : decode cc pc = .ok (.invokestatic index, 3)) (kk : ∀ r : Int32, K r → W p l e (rk rn mcR msR) s m args below meth c H locs cells slots Q (F0 m (pc + 3) ls (.int r :: rest))) : W p l e (rk rn mcR msR) s m args below meth c H locs cells slots Q (F0 m pc ls (.long x2 :: .int x1 :: .ref (a 63) :: rest)) :=
  ro_go (runS (As := [.ref (a 63), .int x1, .long x2]) hC hN (c_X2_indexOf_nL l D Z a q F L H.size x1 x2 K hm) mi_X2_indexOf hl wq_1028 hlt hP hD hK rfl hsize rfl hW hdg hf) kk
end KX2_indexOf_nL
def wl_X2_indexOf_nO_3 (F : M2) (L : L2) (K : Int32 → Prop) : Nat → Int32 → Int64 → Int32 → Prop
  | 0, _, _, _ => False
  | n + 1, v1, v2, v4 => ((v1 ≤ v4 → K ((-1))) ∧ (¬ v1 ≤ v4 → (((Int32.ofNat 8) ≤ v4 → K ((-1))) ∧ (¬ (Int32.ofNat 8) ≤ v4 → (inb v4 8 ∧ ((¬ (lg_cmp (L 64 v4.toInt.toNat) v2) = 0 → (∀ v4_28 : Int32, v4_28 = v4 + 1 → wl_X2_indexOf_nO_3 F L K n v1 v2 v4_28)) ∧ ((lg_cmp (L 64 v4.toInt.toNat) v2) = 0 → K v4)))))))
def wp_X2_indexOf_nO (F : M2) (L : L2) (x1 : Int32) (x2 : Int64) (K : Int32 → Prop) : Prop := wl_X2_indexOf_nO_3 F L K fK x1 x2 0
set_option maxRecDepth 100000 in
set_option maxHeartbeats 4000000 in
theorem c_X2_indexOf_nO (l : Launch) (D : va_G) (Z : Nat → ClassId) (a q : Nat → Nat) (F : M2) (L : L2) (sz : Nat) (x1 : Int32) (x2 : Int64) (K : Int32 → Prop) (hm : wp_X2_indexOf_nO F L x1 x2 K) : Met l yX2_indexOf (wy yX2_indexOf cX2_indexOf 5 (some .int)) (rk 1 0 0) (pre vwCl D Z (KW Z a q (q 20) F L) sz [.ref (a 64), .int x1, .long x2]) (vp_Si K) 0 0 (fun _ => False) := by
  refine ro_of (ty := .int) (by decide +kernel) (Nat.le_of_ble_eq_true rfl) rfl ?_
  intro p e s m args below meth c Q hC hN hsz hP hD hK hret ls hl
  have hx := hC.1
  have hb := hC.2.1
  have hl : lv_has ls 5 [(0, .ref (a 64)), (1, .int x1), (2, .long x2)] := hl
  have L3 : ∀ (n3 : Nat), ∀ (v1 : Int32) (v2 : Int64) (v4 : Int32) (ls : Array Slot), wl_X2_indexOf_nO_3 F L K n3 v1 v2 v4 → lv_has ls 5 [(0, .ref (a 64)), (1, .int v1), (2, .long v2), (4, .int v4)] → W p l e (rk 1 0 0) s m args below meth c s.heap [] 0 0 Q (F0 m 3 ls []) := by
    intro n3
    induction n3 with
    | zero =>
      intro v1 v2 v4 ls hm hl
      exact False.elim hm
    | succ n3 ih3 =>
      intro v1 v2 v4 ls hm hl
      refine lv_iload hx hb dX2_indexOf_3 (lv_at hl 3 rfl) ?_
      refine lv_iload_n hx hb dX2_indexOf_5 rfl (lv_at hl 1 rfl) ?_
      refine lv_icmp_ge (tgt := 34) hx hb dX2_indexOf_6 (by decide) (fun c_6 => ?_) (fun c_6 => ?_)
      · have hm := hm.1 c_6
        refine lv_iconst (v := (-1)) hx hb dX2_indexOf_34 (by decide) ?_
        exact hret 35 _ _ hm rfl dX2_indexOf_35
      · have hm := hm.2 c_6
        refine lv_iload hx hb dX2_indexOf_9 (lv_at hl 3 rfl) ?_
        refine lv_aload_n hx hb dX2_indexOf_11 rfl (lv_at hl 0 rfl) ?_
        refine w_alen (q0 := 4) (t0 := 1) hC hK hP rfl rfl dX2_indexOf_12 ?_
        refine lv_icmp_ge (tgt := 34) hx hb dX2_indexOf_13 (by decide) (fun c_13 => ?_) (fun c_13 => ?_)
        · have hm := hm.1 c_13
          refine lv_iconst (v := (-1)) hx hb dX2_indexOf_34 (by decide) ?_
          exact hret 35 _ _ hm rfl dX2_indexOf_35
        · have hm := hm.2 c_13
          refine lv_aload_n hx hb dX2_indexOf_16 rfl (lv_at hl 0 rfl) ?_
          refine lv_iload hx hb dX2_indexOf_17 (lv_at hl 3 rfl) ?_
          refine w_lald (q0 := 4) hC hK hP rfl hm.1 dX2_indexOf_19 ?_
          have hm := hm.2
          refine lv_lload_n hx hb dX2_indexOf_20 rfl (lv_at hl 2 rfl) ?_
          refine W.lcmp hx hb dX2_indexOf_21 ?_
          refine lv_if_ne (tgt := 28) hx hb dX2_indexOf_22 (by decide) (fun c_22 => ?_) (fun c_22 => ?_)
          · have hm := hm.1 c_22
            obtain ⟨v4_28, ev4_28⟩ : ∃ y : Int32, y = v4 + 1 := ⟨_, rfl⟩
            have hm := hm v4_28 ev4_28
            refine lv_iinc (v := v4_28) (lv' := [(4, .int v4_28), (0, .ref (a 64)), (1, .int v1), (2, .long v2)]) hx hb dX2_indexOf_28 hl (k := 3) rfl (by rw [ev4_28]; rfl) (by decide) rfl (fun ls hl => ?_)
            refine lv_goto (tgt := 3) hx hb dX2_indexOf_31 (by decide) ?_
            exact ih3 _ _ _ _ hm (lv_sub hl [1, 2, 3, 0] rfl)
          · have hm := hm.2 c_22
            refine lv_iload hx hb dX2_indexOf_25 (lv_at hl 3 rfl) ?_
            exact hret 27 _ _ hm rfl dX2_indexOf_27
  refine lv_iconst (v := 0) hx hb dX2_indexOf_0 (by decide) ?_
  refine lv_istore (lv' := [(4, .int 0), (0, .ref (a 64)), (1, .int x1), (2, .long x2)]) hx hb dX2_indexOf_1 hl (by decide) rfl (fun ls hl => ?_)
  exact L3 _ _ _ _ _ hm (lv_sub hl [1, 2, 3, 0] rfl)
section KX2_indexOf_nO
variable {p : Program} {l : Launch} {e : Env} {s : State} {m : MethodId} {args : Array Value} {below : List Frame} {meth : Method} {c : Code} {H H0 : Heap} {locs : List Loc} {cells slots : Nat} {Q : State → Prop} {R : Room} {rn mcR msR : Nat}
variable {pc : Nat} {ls : Array Slot} {rest : List Value} {A : Nat → Prop} {D : va_G}
variable {cc : ByteArray} {nL index : Nat} {own host : String}
theorem k_X2_indexOf_nO {Z : Nat → ClassId} {a q : Nat → Nat} {F : M2} {L : L2} {x1 : Int32} {x2 : Int64} {K : Int32 → Prop} (hC : CallFix p m c cc nL s args lw_g own) (hN : NW s) (hK : va_K D vwCl (tysG Z) s) (hP : va_P D vwCl (KW Z a q (q 20) F L) H) (hD : va_D (fun _ => True) (KW Z a q (q 20) F L)) (hm : wp_X2_indexOf_nO F L x1 x2 K) (hl : Cond.methodLink own index yX2_indexOf ∈ lw_g) (hlt : 1 < rn) (hsize : ls.size = nL) (hW : (rest.map fun v => v.category).sum ≤ 8) (hf : cells + 0 ≤ mcR ∧ slots + 0 ≤ msR) (hdg : decode cc pc = .ok (.invokestatic index, 3)) (kk : ∀ r : Int32, K r → W p l e (rk rn mcR msR) s m args below meth c H locs cells slots Q (F0 m (pc + 3) ls (.int r :: rest))) : W p l e (rk rn mcR msR) s m args below meth c H locs cells slots Q (F0 m pc ls (.long x2 :: .int x1 :: .ref (a 64) :: rest)) :=
  ro_go (runS (As := [.ref (a 64), .int x1, .long x2]) hC hN (c_X2_indexOf_nO l D Z a q F L H.size x1 x2 K hm) mi_X2_indexOf hl wq_1028 hlt hP hD hK rfl hsize rfl hW hdg hf) kk
end KX2_indexOf_nO
def wp_X2_take (F : M2) (L : L2) (x1 : Int32) (K : Int32 → M2 → L2 → Prop) : Prop := (((atv (F 74) 401 (F 66 0)) = x1 → (∀ F_27 : M2, F_27 = up2 F 66 (fun _ => (F 66 0) + 1) → K 1 F_27 L)) ∧ (¬ (atv (F 74) 401 (F 66 0)) = x1 → K 0 F L))
set_option maxRecDepth 100000 in
set_option maxHeartbeats 4000000 in
theorem c_X2_take (l : Launch) (D : va_G) (Z : Nat → ClassId) (a q : Nat → Nat) (F : M2) (L : L2) (sz : Nat) (x1 : Int32) (K : Int32 → M2 → L2 → Prop) (hm : wp_X2_take F L x1 K) : Met l yX2_take (wy yX2_take cX2_take 2 (some .boolean)) (rk 1 0 0) (pre vwCl D Z (KW Z a q (q 20) F L) sz [.ref (a 60), .int x1]) (poI vwCl D Z (fun u : M2 × L2 => KW Z a q (q 20) u.1 u.2) (F, L) sz (fun (r : Int32) (u : M2 × L2) => K r u.1 u.2)) 0 0 (va_A (KW Z a q (q 20) F L) sz) := by
  refine rw_of (ty := .boolean) (wsF := (fun u : M2 × L2 => KW Z a q (q 20) u.1 u.2)) (u0 := (F, L)) (by decide +kernel) (Nat.le_of_ble_eq_true rfl) rfl ?_
  intro p e s m args below meth c Q A hC hN hsz hT hK hret ls hl
  have hx := hC.1
  have hb := hC.2.1
  have hl : lv_has ls 2 [(0, .ref (a 60)), (1, .int x1)] := hl
  have hT : TS vwCl D (KW Z a q (q 20) F L) A s.heap s.heap [] := hT
  refine lv_aload_n hx hb dX2_take_0 rfl (lv_at hl 0 rfl) ?_
  refine gKW_rd_0 hC hK hT.1 wq_385 dX2_take_1 ?_
  refine gKW_tok_3 hC hK hT.1 wq_214 dX2_take_4 ?_
  refine lv_aload_n hx hb dX2_take_7 rfl (lv_at hl 0 rfl) ?_
  refine gKW_rd_6 hC hK hT.1 wq_391 dX2_take_8 ?_
  refine w_at (q0 := 8) hC hN hK hT.1 wn_1003 rfl (by decide) (by decide) hl.1 (Nat.le_of_ble_eq_true rfl) ⟨Nat.le_refl _, Nat.le_refl _⟩ dX2_take_11 ?_
  refine lv_iload_n hx hb dX2_take_14 rfl (lv_at hl 1 rfl) ?_
  refine lv_icmp_eq (tgt := 20) hx hb dX2_take_15 (by decide) (fun c_15 => ?_) (fun c_15 => ?_)
  · have hm := hm.1 c_15
    refine lv_aload_n hx hb dX2_take_20 rfl (lv_at hl 0 rfl) ?_
    refine lv_dup hx hb dX2_take_21 rfl ?_
    refine gKW_rd_6 hC hK hT.1 wq_391 dX2_take_22 ?_
    refine lv_iconst (v := 1) hx hb dX2_take_25 (by decide) ?_
    refine lv_iadd hx hb dX2_take_26 ?_
    refine pKW_rd_6 hC hK hT wq_391 dX2_take_27 (fun F_27 eF_27 H locs hT => ?_)
    have hm := hm F_27 eF_27
    refine lv_iconst (v := 1) hx hb dX2_take_30 (by decide) ?_
    exact hret 31 _ _ _ _ (F_27, L) hm hT rfl dX2_take_31
  · have hm := hm.2 c_15
    refine lv_iconst (v := 0) hx hb dX2_take_18 (by decide) ?_
    exact hret 19 _ _ _ _ (F, L) hm hT rfl dX2_take_19
section KX2_take
variable {p : Program} {l : Launch} {e : Env} {s : State} {m : MethodId} {args : Array Value} {below : List Frame} {meth : Method} {c : Code} {H H0 : Heap} {locs : List Loc} {cells slots : Nat} {Q : State → Prop} {R : Room} {rn mcR msR : Nat}
variable {pc : Nat} {ls : Array Slot} {rest : List Value} {A : Nat → Prop} {D : va_G}
variable {cc : ByteArray} {nL index : Nat} {own host : String}
theorem k_X2_take {Z : Nat → ClassId} {a q : Nat → Nat} {F : M2} {L : L2} {x1 : Int32} {K : Int32 → M2 → L2 → Prop} (hC : CallFix p m c cc nL s args lw_g own) (hN : NW s) (hK : va_K D vwCl (tysG Z) s) (hT : TS vwCl D (KW Z a q (q 20) F L) A H0 H locs) (hm : wp_X2_take F L x1 K) (hl : Cond.methodLink own index yX2_take ∈ lw_g) (hlt : 1 < rn) (hsize : ls.size = nL) (hW : (rest.map fun v => v.category).sum ≤ 8) (hf : cells + 0 ≤ mcR ∧ slots + 0 ≤ msR) (hdg : decode cc pc = .ok (.invokevirtual index, 3)) (kk : ∀ (r : Int32) (F1 : M2) (L1 : L2) (H1 : Heap) (locs1 : List Loc), K r F1 L1 → TS vwCl D (KW Z a q (q 20) F1 L1) A H0 H1 locs1 → W p l e (rk rn mcR msR) s m args below meth c H1 locs1 cells slots Q (F0 m (pc + 3) ls (.int r :: rest))) : W p l e (rk rn mcR msR) s m args below meth c H locs cells slots Q (F0 m pc ls (.int x1 :: .ref (a 60) :: rest)) :=
  rw_go (wsF := (fun u : M2 × L2 => KW Z a q (q 20) u.1 u.2)) (u0 := (F, L)) (wr := []) (isC := cutKW) (isR := []) (pm := cutKW) (ws' := (fun u : M2 × L2 => KW Z a q (q 20) u.1 u.2)) (runV (As := [.int x1]) hC hN (c_X2_take l D Z a q F L H.size x1 K hm) mi_X2_take hl wq_1020 wq_41 hlt hT.1 hT.D' hK (q0 := 0) rfl rfl rfl hsize rfl hW hdg hf) (cutOkKW Z a q (q 20) F L) hT (fun r u H1 locs1 hk hT1 => kk r u.1 u.2 H1 locs1 hk hT1)
end KX2_take
def wp_X2_tellFault (F : M2) (L : L2) (x1 : Int32) (x2 : Int32) (K : M2 → L2 → Prop) : Prop := ((¬ (F 67 0) = 0 → K F L) ∧ ((F 67 0) = 0 → (∀ F_9 : M2, F_9 = up2 F 67 (fun _ => x1) → (∀ F_14 : M2, F_14 = up2 F_9 68 (fun _ => x2) → K F_14 L))))
set_option maxRecDepth 100000 in
set_option maxHeartbeats 4000000 in
theorem c_X2_tellFault (l : Launch) (D : va_G) (Z : Nat → ClassId) (a q : Nat → Nat) (F : M2) (L : L2) (sz : Nat) (x1 : Int32) (x2 : Int32) (K : M2 → L2 → Prop) (hm : wp_X2_tellFault F L x1 x2 K) : Met l yX2_tellFault (wy yX2_tellFault cX2_tellFault 3 none) (rk 1 0 0) (pre vwCl D Z (KW Z a q (q 20) F L) sz [.ref (a 60), .int x1, .int x2]) (poV vwCl D Z (fun u : M2 × L2 => KW Z a q (q 20) u.1 u.2) (F, L) sz (fun (u : M2 × L2) => K u.1 u.2)) 0 0 (va_A (KW Z a q (q 20) F L) sz) := by
  refine rwv_of (wsF := (fun u : M2 × L2 => KW Z a q (q 20) u.1 u.2)) (u0 := (F, L)) (by decide +kernel) (Nat.le_of_ble_eq_true rfl) rfl ?_
  intro p e s m args below meth c Q A hC hN hsz hnm hT hK hret ls hl
  have hx := hC.1
  have hb := hC.2.1
  have hl : lv_has ls 3 [(0, .ref (a 60)), (1, .int x1), (2, .int x2)] := hl
  have hT : TS vwCl D (KW Z a q (q 20) F L) A s.heap s.heap [] := hT
  refine lv_aload_n hx hb dX2_tellFault_0 rfl (lv_at hl 0 rfl) ?_
  refine gKW_rd_7 hC hK hT.1 wq_392 dX2_tellFault_1 ?_
  refine lv_if_ne (tgt := 17) hx hb dX2_tellFault_4 (by decide) (fun c_4 => ?_) (fun c_4 => ?_)
  · have hm := hm.1 c_4
    exact hret 17 _ _ _ (F, L) hm hT dX2_tellFault_17
  · have hm := hm.2 c_4
    refine lv_aload_n hx hb dX2_tellFault_7 rfl (lv_at hl 0 rfl) ?_
    refine lv_iload_n hx hb dX2_tellFault_8 rfl (lv_at hl 1 rfl) ?_
    refine pKW_rd_7 hC hK hT wq_392 dX2_tellFault_9 (fun F_9 eF_9 H locs hT => ?_)
    have hm := hm F_9 eF_9
    refine lv_aload_n hx hb dX2_tellFault_12 rfl (lv_at hl 0 rfl) ?_
    refine lv_iload_n hx hb dX2_tellFault_13 rfl (lv_at hl 2 rfl) ?_
    refine pKW_rd_8 hC hK hT wq_393 dX2_tellFault_14 (fun F_14 eF_14 H locs hT => ?_)
    have hm := hm F_14 eF_14
    exact hret 17 _ _ _ (F_14, L) hm hT dX2_tellFault_17
section KX2_tellFault
variable {p : Program} {l : Launch} {e : Env} {s : State} {m : MethodId} {args : Array Value} {below : List Frame} {meth : Method} {c : Code} {H H0 : Heap} {locs : List Loc} {cells slots : Nat} {Q : State → Prop} {R : Room} {rn mcR msR : Nat}
variable {pc : Nat} {ls : Array Slot} {rest : List Value} {A : Nat → Prop} {D : va_G}
variable {cc : ByteArray} {nL index : Nat} {own host : String}
theorem k_X2_tellFault {Z : Nat → ClassId} {a q : Nat → Nat} {F : M2} {L : L2} {x1 : Int32} {x2 : Int32} {K : M2 → L2 → Prop} (hC : CallFix p m c cc nL s args lw_g own) (hN : NW s) (hK : va_K D vwCl (tysG Z) s) (hT : TS vwCl D (KW Z a q (q 20) F L) A H0 H locs) (hm : wp_X2_tellFault F L x1 x2 K) (hl : Cond.methodLink own index yX2_tellFault ∈ lw_g) (hlt : 1 < rn) (hsize : ls.size = nL) (hW : (rest.map fun v => v.category).sum ≤ 8) (hf : cells + 0 ≤ mcR ∧ slots + 0 ≤ msR) (hdg : decode cc pc = .ok (.invokevirtual index, 3)) (kk : ∀ (F1 : M2) (L1 : L2) (H1 : Heap) (locs1 : List Loc), K F1 L1 → TS vwCl D (KW Z a q (q 20) F1 L1) A H0 H1 locs1 → W p l e (rk rn mcR msR) s m args below meth c H1 locs1 cells slots Q (F0 m (pc + 3) ls (rest))) : W p l e (rk rn mcR msR) s m args below meth c H locs cells slots Q (F0 m pc ls (.int x2 :: .int x1 :: .ref (a 60) :: rest)) :=
  rwv_go (wsF := (fun u : M2 × L2 => KW Z a q (q 20) u.1 u.2)) (u0 := (F, L)) (wr := []) (isC := cutKW) (isR := []) (pm := cutKW) (ws' := (fun u : M2 × L2 => KW Z a q (q 20) u.1 u.2)) (runV (As := [.int x1, .int x2]) hC hN (c_X2_tellFault l D Z a q F L H.size x1 x2 K hm) mi_X2_tellFault hl wq_1032 wq_43 hlt hT.1 hT.D' hK (q0 := 0) rfl rfl rfl hsize rfl hW hdg hf) (cutOkKW Z a q (q 20) F L) hT (fun u H1 locs1 hk hT1 => kk u.1 u.2 H1 locs1 hk hT1)
end KX2_tellFault
def wj_X2_needNew_nB_26 (K : M2 → L2 → Prop) (F : M2) (L : L2) (v2 : Int32) (v3 : Int32) : Prop := ((v2 < (Int32.ofNat 5) → K F L) ∧ (¬ v2 < (Int32.ofNat 5) → wp_X2_tellFault F L 4 v3 (fun F_35 L_35 => K F_35 L_35)))
def wp_X2_needNew_nB (F : M2) (L : L2) (x2 : Int32) (x3 : Int32) (K : M2 → L2 → Prop) : Prop := wp_X2_indexOf_nB F L x2 (atl (L 76) 401 x3) (fun r_13 => ((r_13 = ((-1)) → wj_X2_needNew_nB_26 K F L x2 x3) ∧ (¬ r_13 = ((-1)) → wp_X2_tellFault F L 2 x3 (fun F_23 L_23 => wj_X2_needNew_nB_26 K F_23 L_23 x2 x3))))
set_option maxRecDepth 100000 in
set_option maxHeartbeats 4000000 in
theorem c_X2_needNew_nB (l : Launch) (D : va_G) (Z : Nat → ClassId) (a q : Nat → Nat) (F : M2) (L : L2) (sz : Nat) (x2 : Int32) (x3 : Int32) (K : M2 → L2 → Prop) (hm : wp_X2_needNew_nB F L x2 x3 K) : Met l yX2_needNew (wy yX2_needNew cX2_needNew 4 none) (rk 2 0 0) (pre vwCl D Z (KW Z a q (q 20) F L) sz [.ref (a 60), .ref (a 61), .int x2, .int x3]) (poV vwCl D Z (fun u : M2 × L2 => KW Z a q (q 20) u.1 u.2) (F, L) sz (fun (u : M2 × L2) => K u.1 u.2)) 0 0 (va_A (KW Z a q (q 20) F L) sz) := by
  refine rwv_of (wsF := (fun u : M2 × L2 => KW Z a q (q 20) u.1 u.2)) (u0 := (F, L)) (by decide +kernel) (Nat.le_of_ble_eq_true rfl) rfl ?_
  intro p e s m args below meth c Q A hC hN hsz hnm hT hK hret ls hl
  have hx := hC.1
  have hb := hC.2.1
  have hl : lv_has ls 4 [(0, .ref (a 60)), (1, .ref (a 61)), (2, .int x2), (3, .int x3)] := hl
  have hT : TS vwCl D (KW Z a q (q 20) F L) A s.heap s.heap [] := hT
  have L26 : ∀ (F : M2) (L : L2) (v2 : Int32) (v3 : Int32) (H : Heap) (locs : List Loc) (ls : Array Slot), wj_X2_needNew_nB_26 K F L v2 v3 → TS vwCl D (KW Z a q (q 20) F L) A s.heap H locs → lv_has ls 4 [(0, .ref (a 60)), (1, .ref (a 61)), (2, .int v2), (3, .int v3)] → W p l e (rk 2 0 0) s m args below meth c H locs 0 0 Q (F0 m 26 ls []) := by
    intro F L v2 v3 H locs ls hm hT hl
    refine lv_iload_n hx hb dX2_needNew_26 rfl (lv_at hl 2 rfl) ?_
    refine lv_aload_n hx hb dX2_needNew_27 rfl (lv_at hl 1 rfl) ?_
    refine w_alen (q0 := 1) (t0 := 1) hC hK hT.1 rfl rfl dX2_needNew_28 ?_
    refine lv_icmp_lt (tgt := 38) hx hb dX2_needNew_29 (by decide) (fun c_29 => ?_) (fun c_29 => ?_)
    · have hm := hm.1 c_29
      exact hret 38 _ _ _ (F, L) hm hT dX2_needNew_38
    · have hm := hm.2 c_29
      refine lv_aload_n hx hb dX2_needNew_32 rfl (lv_at hl 0 rfl) ?_
      refine lv_iconst (v := 4) hx hb dX2_needNew_33 (by decide) ?_
      refine lv_iload_n hx hb dX2_needNew_34 rfl (lv_at hl 3 rfl) ?_
      refine k_X2_tellFault hC hN hK hT hm wq_1030 (by decide) hl.1 (Nat.le_of_ble_eq_true rfl) ⟨Nat.le_refl _, Nat.le_refl _⟩ dX2_needNew_35 (fun F_35 L_35 H locs hm hT => ?_)
      exact hret 38 _ _ _ (F_35, L_35) hm hT dX2_needNew_38
  refine lv_aload_n hx hb dX2_needNew_0 rfl (lv_at hl 1 rfl) ?_
  refine lv_iload_n hx hb dX2_needNew_1 rfl (lv_at hl 2 rfl) ?_
  refine lv_aload_n hx hb dX2_needNew_2 rfl (lv_at hl 0 rfl) ?_
  refine gKW_rd_0 hC hK hT.1 wq_385 dX2_needNew_3 ?_
  refine gKW_tok_5 hC hK hT.1 wq_218 dX2_needNew_6 ?_
  refine lv_iload_n hx hb dX2_needNew_9 rfl (lv_at hl 3 rfl) ?_
  refine w_atl (q0 := 10) hC hN hK hT.1 wn_1026 rfl (by decide) (by decide) hl.1 (Nat.le_of_ble_eq_true rfl) ⟨Nat.le_refl _, Nat.le_refl _⟩ dX2_needNew_10 ?_
  refine k_X2_indexOf_nB hC hN hK hT.1 hT.D' hm wq_1027 (by decide) hl.1 (Nat.le_of_ble_eq_true rfl) ⟨Nat.le_refl _, Nat.le_refl _⟩ dX2_needNew_13 (fun r_13 hm => ?_)
  refine lv_iconst (v := (-1)) hx hb dX2_needNew_16 (by decide) ?_
  refine lv_icmp_eq (tgt := 26) hx hb dX2_needNew_17 (by decide) (fun c_17 => ?_) (fun c_17 => ?_)
  · have hm := hm.1 c_17
    exact L26 _ _ _ _ _ _ _ hm hT (lv_sub hl [0, 1, 2, 3] rfl)
  · have hm := hm.2 c_17
    refine lv_aload_n hx hb dX2_needNew_20 rfl (lv_at hl 0 rfl) ?_
    refine lv_iconst (v := 2) hx hb dX2_needNew_21 (by decide) ?_
    refine lv_iload_n hx hb dX2_needNew_22 rfl (lv_at hl 3 rfl) ?_
    refine k_X2_tellFault hC hN hK hT hm wq_1030 (by decide) hl.1 (Nat.le_of_ble_eq_true rfl) ⟨Nat.le_refl _, Nat.le_refl _⟩ dX2_needNew_23 (fun F_23 L_23 H locs hm hT => ?_)
    exact L26 _ _ _ _ _ _ _ hm hT (lv_sub hl [0, 1, 2, 3] rfl)
section KX2_needNew_nB
variable {p : Program} {l : Launch} {e : Env} {s : State} {m : MethodId} {args : Array Value} {below : List Frame} {meth : Method} {c : Code} {H H0 : Heap} {locs : List Loc} {cells slots : Nat} {Q : State → Prop} {R : Room} {rn mcR msR : Nat}
variable {pc : Nat} {ls : Array Slot} {rest : List Value} {A : Nat → Prop} {D : va_G}
variable {cc : ByteArray} {nL index : Nat} {own host : String}
end KX2_needNew_nB
def wj_X2_needNew_nS_26 (K : M2 → L2 → Prop) (F : M2) (L : L2) (v2 : Int32) (v3 : Int32) : Prop := ((v2 < (Int32.ofNat 4) → K F L) ∧ (¬ v2 < (Int32.ofNat 4) → wp_X2_tellFault F L 4 v3 (fun F_35 L_35 => K F_35 L_35)))
def wp_X2_needNew_nS (F : M2) (L : L2) (x2 : Int32) (x3 : Int32) (K : M2 → L2 → Prop) : Prop := wp_X2_indexOf_nS F L x2 (atl (L 76) 401 x3) (fun r_13 => ((r_13 = ((-1)) → wj_X2_needNew_nS_26 K F L x2 x3) ∧ (¬ r_13 = ((-1)) → wp_X2_tellFault F L 2 x3 (fun F_23 L_23 => wj_X2_needNew_nS_26 K F_23 L_23 x2 x3))))
set_option maxRecDepth 100000 in
set_option maxHeartbeats 4000000 in
theorem c_X2_needNew_nS (l : Launch) (D : va_G) (Z : Nat → ClassId) (a q : Nat → Nat) (F : M2) (L : L2) (sz : Nat) (x2 : Int32) (x3 : Int32) (K : M2 → L2 → Prop) (hm : wp_X2_needNew_nS F L x2 x3 K) : Met l yX2_needNew (wy yX2_needNew cX2_needNew 4 none) (rk 2 0 0) (pre vwCl D Z (KW Z a q (q 20) F L) sz [.ref (a 60), .ref (a 62), .int x2, .int x3]) (poV vwCl D Z (fun u : M2 × L2 => KW Z a q (q 20) u.1 u.2) (F, L) sz (fun (u : M2 × L2) => K u.1 u.2)) 0 0 (va_A (KW Z a q (q 20) F L) sz) := by
  refine rwv_of (wsF := (fun u : M2 × L2 => KW Z a q (q 20) u.1 u.2)) (u0 := (F, L)) (by decide +kernel) (Nat.le_of_ble_eq_true rfl) rfl ?_
  intro p e s m args below meth c Q A hC hN hsz hnm hT hK hret ls hl
  have hx := hC.1
  have hb := hC.2.1
  have hl : lv_has ls 4 [(0, .ref (a 60)), (1, .ref (a 62)), (2, .int x2), (3, .int x3)] := hl
  have hT : TS vwCl D (KW Z a q (q 20) F L) A s.heap s.heap [] := hT
  have L26 : ∀ (F : M2) (L : L2) (v2 : Int32) (v3 : Int32) (H : Heap) (locs : List Loc) (ls : Array Slot), wj_X2_needNew_nS_26 K F L v2 v3 → TS vwCl D (KW Z a q (q 20) F L) A s.heap H locs → lv_has ls 4 [(0, .ref (a 60)), (1, .ref (a 62)), (2, .int v2), (3, .int v3)] → W p l e (rk 2 0 0) s m args below meth c H locs 0 0 Q (F0 m 26 ls []) := by
    intro F L v2 v3 H locs ls hm hT hl
    refine lv_iload_n hx hb dX2_needNew_26 rfl (lv_at hl 2 rfl) ?_
    refine lv_aload_n hx hb dX2_needNew_27 rfl (lv_at hl 1 rfl) ?_
    refine w_alen (q0 := 2) (t0 := 1) hC hK hT.1 rfl rfl dX2_needNew_28 ?_
    refine lv_icmp_lt (tgt := 38) hx hb dX2_needNew_29 (by decide) (fun c_29 => ?_) (fun c_29 => ?_)
    · have hm := hm.1 c_29
      exact hret 38 _ _ _ (F, L) hm hT dX2_needNew_38
    · have hm := hm.2 c_29
      refine lv_aload_n hx hb dX2_needNew_32 rfl (lv_at hl 0 rfl) ?_
      refine lv_iconst (v := 4) hx hb dX2_needNew_33 (by decide) ?_
      refine lv_iload_n hx hb dX2_needNew_34 rfl (lv_at hl 3 rfl) ?_
      refine k_X2_tellFault hC hN hK hT hm wq_1030 (by decide) hl.1 (Nat.le_of_ble_eq_true rfl) ⟨Nat.le_refl _, Nat.le_refl _⟩ dX2_needNew_35 (fun F_35 L_35 H locs hm hT => ?_)
      exact hret 38 _ _ _ (F_35, L_35) hm hT dX2_needNew_38
  refine lv_aload_n hx hb dX2_needNew_0 rfl (lv_at hl 1 rfl) ?_
  refine lv_iload_n hx hb dX2_needNew_1 rfl (lv_at hl 2 rfl) ?_
  refine lv_aload_n hx hb dX2_needNew_2 rfl (lv_at hl 0 rfl) ?_
  refine gKW_rd_0 hC hK hT.1 wq_385 dX2_needNew_3 ?_
  refine gKW_tok_5 hC hK hT.1 wq_218 dX2_needNew_6 ?_
  refine lv_iload_n hx hb dX2_needNew_9 rfl (lv_at hl 3 rfl) ?_
  refine w_atl (q0 := 10) hC hN hK hT.1 wn_1026 rfl (by decide) (by decide) hl.1 (Nat.le_of_ble_eq_true rfl) ⟨Nat.le_refl _, Nat.le_refl _⟩ dX2_needNew_10 ?_
  refine k_X2_indexOf_nS hC hN hK hT.1 hT.D' hm wq_1027 (by decide) hl.1 (Nat.le_of_ble_eq_true rfl) ⟨Nat.le_refl _, Nat.le_refl _⟩ dX2_needNew_13 (fun r_13 hm => ?_)
  refine lv_iconst (v := (-1)) hx hb dX2_needNew_16 (by decide) ?_
  refine lv_icmp_eq (tgt := 26) hx hb dX2_needNew_17 (by decide) (fun c_17 => ?_) (fun c_17 => ?_)
  · have hm := hm.1 c_17
    exact L26 _ _ _ _ _ _ _ hm hT (lv_sub hl [0, 1, 2, 3] rfl)
  · have hm := hm.2 c_17
    refine lv_aload_n hx hb dX2_needNew_20 rfl (lv_at hl 0 rfl) ?_
    refine lv_iconst (v := 2) hx hb dX2_needNew_21 (by decide) ?_
    refine lv_iload_n hx hb dX2_needNew_22 rfl (lv_at hl 3 rfl) ?_
    refine k_X2_tellFault hC hN hK hT hm wq_1030 (by decide) hl.1 (Nat.le_of_ble_eq_true rfl) ⟨Nat.le_refl _, Nat.le_refl _⟩ dX2_needNew_23 (fun F_23 L_23 H locs hm hT => ?_)
    exact L26 _ _ _ _ _ _ _ hm hT (lv_sub hl [0, 1, 2, 3] rfl)
section KX2_needNew_nS
variable {p : Program} {l : Launch} {e : Env} {s : State} {m : MethodId} {args : Array Value} {below : List Frame} {meth : Method} {c : Code} {H H0 : Heap} {locs : List Loc} {cells slots : Nat} {Q : State → Prop} {R : Room} {rn mcR msR : Nat}
variable {pc : Nat} {ls : Array Slot} {rest : List Value} {A : Nat → Prop} {D : va_G}
variable {cc : ByteArray} {nL index : Nat} {own host : String}
end KX2_needNew_nS
def wj_X2_needNew_nL_26 (K : M2 → L2 → Prop) (F : M2) (L : L2) (v2 : Int32) (v3 : Int32) : Prop := ((v2 < (Int32.ofNat 6) → K F L) ∧ (¬ v2 < (Int32.ofNat 6) → wp_X2_tellFault F L 4 v3 (fun F_35 L_35 => K F_35 L_35)))
def wp_X2_needNew_nL (F : M2) (L : L2) (x2 : Int32) (x3 : Int32) (K : M2 → L2 → Prop) : Prop := wp_X2_indexOf_nL F L x2 (atl (L 76) 401 x3) (fun r_13 => ((r_13 = ((-1)) → wj_X2_needNew_nL_26 K F L x2 x3) ∧ (¬ r_13 = ((-1)) → wp_X2_tellFault F L 2 x3 (fun F_23 L_23 => wj_X2_needNew_nL_26 K F_23 L_23 x2 x3))))
set_option maxRecDepth 100000 in
set_option maxHeartbeats 4000000 in
theorem c_X2_needNew_nL (l : Launch) (D : va_G) (Z : Nat → ClassId) (a q : Nat → Nat) (F : M2) (L : L2) (sz : Nat) (x2 : Int32) (x3 : Int32) (K : M2 → L2 → Prop) (hm : wp_X2_needNew_nL F L x2 x3 K) : Met l yX2_needNew (wy yX2_needNew cX2_needNew 4 none) (rk 2 0 0) (pre vwCl D Z (KW Z a q (q 20) F L) sz [.ref (a 60), .ref (a 63), .int x2, .int x3]) (poV vwCl D Z (fun u : M2 × L2 => KW Z a q (q 20) u.1 u.2) (F, L) sz (fun (u : M2 × L2) => K u.1 u.2)) 0 0 (va_A (KW Z a q (q 20) F L) sz) := by
  refine rwv_of (wsF := (fun u : M2 × L2 => KW Z a q (q 20) u.1 u.2)) (u0 := (F, L)) (by decide +kernel) (Nat.le_of_ble_eq_true rfl) rfl ?_
  intro p e s m args below meth c Q A hC hN hsz hnm hT hK hret ls hl
  have hx := hC.1
  have hb := hC.2.1
  have hl : lv_has ls 4 [(0, .ref (a 60)), (1, .ref (a 63)), (2, .int x2), (3, .int x3)] := hl
  have hT : TS vwCl D (KW Z a q (q 20) F L) A s.heap s.heap [] := hT
  have L26 : ∀ (F : M2) (L : L2) (v2 : Int32) (v3 : Int32) (H : Heap) (locs : List Loc) (ls : Array Slot), wj_X2_needNew_nL_26 K F L v2 v3 → TS vwCl D (KW Z a q (q 20) F L) A s.heap H locs → lv_has ls 4 [(0, .ref (a 60)), (1, .ref (a 63)), (2, .int v2), (3, .int v3)] → W p l e (rk 2 0 0) s m args below meth c H locs 0 0 Q (F0 m 26 ls []) := by
    intro F L v2 v3 H locs ls hm hT hl
    refine lv_iload_n hx hb dX2_needNew_26 rfl (lv_at hl 2 rfl) ?_
    refine lv_aload_n hx hb dX2_needNew_27 rfl (lv_at hl 1 rfl) ?_
    refine w_alen (q0 := 3) (t0 := 1) hC hK hT.1 rfl rfl dX2_needNew_28 ?_
    refine lv_icmp_lt (tgt := 38) hx hb dX2_needNew_29 (by decide) (fun c_29 => ?_) (fun c_29 => ?_)
    · have hm := hm.1 c_29
      exact hret 38 _ _ _ (F, L) hm hT dX2_needNew_38
    · have hm := hm.2 c_29
      refine lv_aload_n hx hb dX2_needNew_32 rfl (lv_at hl 0 rfl) ?_
      refine lv_iconst (v := 4) hx hb dX2_needNew_33 (by decide) ?_
      refine lv_iload_n hx hb dX2_needNew_34 rfl (lv_at hl 3 rfl) ?_
      refine k_X2_tellFault hC hN hK hT hm wq_1030 (by decide) hl.1 (Nat.le_of_ble_eq_true rfl) ⟨Nat.le_refl _, Nat.le_refl _⟩ dX2_needNew_35 (fun F_35 L_35 H locs hm hT => ?_)
      exact hret 38 _ _ _ (F_35, L_35) hm hT dX2_needNew_38
  refine lv_aload_n hx hb dX2_needNew_0 rfl (lv_at hl 1 rfl) ?_
  refine lv_iload_n hx hb dX2_needNew_1 rfl (lv_at hl 2 rfl) ?_
  refine lv_aload_n hx hb dX2_needNew_2 rfl (lv_at hl 0 rfl) ?_
  refine gKW_rd_0 hC hK hT.1 wq_385 dX2_needNew_3 ?_
  refine gKW_tok_5 hC hK hT.1 wq_218 dX2_needNew_6 ?_
  refine lv_iload_n hx hb dX2_needNew_9 rfl (lv_at hl 3 rfl) ?_
  refine w_atl (q0 := 10) hC hN hK hT.1 wn_1026 rfl (by decide) (by decide) hl.1 (Nat.le_of_ble_eq_true rfl) ⟨Nat.le_refl _, Nat.le_refl _⟩ dX2_needNew_10 ?_
  refine k_X2_indexOf_nL hC hN hK hT.1 hT.D' hm wq_1027 (by decide) hl.1 (Nat.le_of_ble_eq_true rfl) ⟨Nat.le_refl _, Nat.le_refl _⟩ dX2_needNew_13 (fun r_13 hm => ?_)
  refine lv_iconst (v := (-1)) hx hb dX2_needNew_16 (by decide) ?_
  refine lv_icmp_eq (tgt := 26) hx hb dX2_needNew_17 (by decide) (fun c_17 => ?_) (fun c_17 => ?_)
  · have hm := hm.1 c_17
    exact L26 _ _ _ _ _ _ _ hm hT (lv_sub hl [0, 1, 2, 3] rfl)
  · have hm := hm.2 c_17
    refine lv_aload_n hx hb dX2_needNew_20 rfl (lv_at hl 0 rfl) ?_
    refine lv_iconst (v := 2) hx hb dX2_needNew_21 (by decide) ?_
    refine lv_iload_n hx hb dX2_needNew_22 rfl (lv_at hl 3 rfl) ?_
    refine k_X2_tellFault hC hN hK hT hm wq_1030 (by decide) hl.1 (Nat.le_of_ble_eq_true rfl) ⟨Nat.le_refl _, Nat.le_refl _⟩ dX2_needNew_23 (fun F_23 L_23 H locs hm hT => ?_)
    exact L26 _ _ _ _ _ _ _ hm hT (lv_sub hl [0, 1, 2, 3] rfl)
section KX2_needNew_nL
variable {p : Program} {l : Launch} {e : Env} {s : State} {m : MethodId} {args : Array Value} {below : List Frame} {meth : Method} {c : Code} {H H0 : Heap} {locs : List Loc} {cells slots : Nat} {Q : State → Prop} {R : Room} {rn mcR msR : Nat}
variable {pc : Nat} {ls : Array Slot} {rest : List Value} {A : Nat → Prop} {D : va_G}
variable {cc : ByteArray} {nL index : Nat} {own host : String}
end KX2_needNew_nL
def wj_X2_needNew_nO_26 (K : M2 → L2 → Prop) (F : M2) (L : L2) (v2 : Int32) (v3 : Int32) : Prop := ((v2 < (Int32.ofNat 8) → K F L) ∧ (¬ v2 < (Int32.ofNat 8) → wp_X2_tellFault F L 4 v3 (fun F_35 L_35 => K F_35 L_35)))
def wp_X2_needNew_nO (F : M2) (L : L2) (x2 : Int32) (x3 : Int32) (K : M2 → L2 → Prop) : Prop := wp_X2_indexOf_nO F L x2 (atl (L 76) 401 x3) (fun r_13 => ((r_13 = ((-1)) → wj_X2_needNew_nO_26 K F L x2 x3) ∧ (¬ r_13 = ((-1)) → wp_X2_tellFault F L 2 x3 (fun F_23 L_23 => wj_X2_needNew_nO_26 K F_23 L_23 x2 x3))))
set_option maxRecDepth 100000 in
set_option maxHeartbeats 4000000 in
theorem c_X2_needNew_nO (l : Launch) (D : va_G) (Z : Nat → ClassId) (a q : Nat → Nat) (F : M2) (L : L2) (sz : Nat) (x2 : Int32) (x3 : Int32) (K : M2 → L2 → Prop) (hm : wp_X2_needNew_nO F L x2 x3 K) : Met l yX2_needNew (wy yX2_needNew cX2_needNew 4 none) (rk 2 0 0) (pre vwCl D Z (KW Z a q (q 20) F L) sz [.ref (a 60), .ref (a 64), .int x2, .int x3]) (poV vwCl D Z (fun u : M2 × L2 => KW Z a q (q 20) u.1 u.2) (F, L) sz (fun (u : M2 × L2) => K u.1 u.2)) 0 0 (va_A (KW Z a q (q 20) F L) sz) := by
  refine rwv_of (wsF := (fun u : M2 × L2 => KW Z a q (q 20) u.1 u.2)) (u0 := (F, L)) (by decide +kernel) (Nat.le_of_ble_eq_true rfl) rfl ?_
  intro p e s m args below meth c Q A hC hN hsz hnm hT hK hret ls hl
  have hx := hC.1
  have hb := hC.2.1
  have hl : lv_has ls 4 [(0, .ref (a 60)), (1, .ref (a 64)), (2, .int x2), (3, .int x3)] := hl
  have hT : TS vwCl D (KW Z a q (q 20) F L) A s.heap s.heap [] := hT
  have L26 : ∀ (F : M2) (L : L2) (v2 : Int32) (v3 : Int32) (H : Heap) (locs : List Loc) (ls : Array Slot), wj_X2_needNew_nO_26 K F L v2 v3 → TS vwCl D (KW Z a q (q 20) F L) A s.heap H locs → lv_has ls 4 [(0, .ref (a 60)), (1, .ref (a 64)), (2, .int v2), (3, .int v3)] → W p l e (rk 2 0 0) s m args below meth c H locs 0 0 Q (F0 m 26 ls []) := by
    intro F L v2 v3 H locs ls hm hT hl
    refine lv_iload_n hx hb dX2_needNew_26 rfl (lv_at hl 2 rfl) ?_
    refine lv_aload_n hx hb dX2_needNew_27 rfl (lv_at hl 1 rfl) ?_
    refine w_alen (q0 := 4) (t0 := 1) hC hK hT.1 rfl rfl dX2_needNew_28 ?_
    refine lv_icmp_lt (tgt := 38) hx hb dX2_needNew_29 (by decide) (fun c_29 => ?_) (fun c_29 => ?_)
    · have hm := hm.1 c_29
      exact hret 38 _ _ _ (F, L) hm hT dX2_needNew_38
    · have hm := hm.2 c_29
      refine lv_aload_n hx hb dX2_needNew_32 rfl (lv_at hl 0 rfl) ?_
      refine lv_iconst (v := 4) hx hb dX2_needNew_33 (by decide) ?_
      refine lv_iload_n hx hb dX2_needNew_34 rfl (lv_at hl 3 rfl) ?_
      refine k_X2_tellFault hC hN hK hT hm wq_1030 (by decide) hl.1 (Nat.le_of_ble_eq_true rfl) ⟨Nat.le_refl _, Nat.le_refl _⟩ dX2_needNew_35 (fun F_35 L_35 H locs hm hT => ?_)
      exact hret 38 _ _ _ (F_35, L_35) hm hT dX2_needNew_38
  refine lv_aload_n hx hb dX2_needNew_0 rfl (lv_at hl 1 rfl) ?_
  refine lv_iload_n hx hb dX2_needNew_1 rfl (lv_at hl 2 rfl) ?_
  refine lv_aload_n hx hb dX2_needNew_2 rfl (lv_at hl 0 rfl) ?_
  refine gKW_rd_0 hC hK hT.1 wq_385 dX2_needNew_3 ?_
  refine gKW_tok_5 hC hK hT.1 wq_218 dX2_needNew_6 ?_
  refine lv_iload_n hx hb dX2_needNew_9 rfl (lv_at hl 3 rfl) ?_
  refine w_atl (q0 := 10) hC hN hK hT.1 wn_1026 rfl (by decide) (by decide) hl.1 (Nat.le_of_ble_eq_true rfl) ⟨Nat.le_refl _, Nat.le_refl _⟩ dX2_needNew_10 ?_
  refine k_X2_indexOf_nO hC hN hK hT.1 hT.D' hm wq_1027 (by decide) hl.1 (Nat.le_of_ble_eq_true rfl) ⟨Nat.le_refl _, Nat.le_refl _⟩ dX2_needNew_13 (fun r_13 hm => ?_)
  refine lv_iconst (v := (-1)) hx hb dX2_needNew_16 (by decide) ?_
  refine lv_icmp_eq (tgt := 26) hx hb dX2_needNew_17 (by decide) (fun c_17 => ?_) (fun c_17 => ?_)
  · have hm := hm.1 c_17
    exact L26 _ _ _ _ _ _ _ hm hT (lv_sub hl [0, 1, 2, 3] rfl)
  · have hm := hm.2 c_17
    refine lv_aload_n hx hb dX2_needNew_20 rfl (lv_at hl 0 rfl) ?_
    refine lv_iconst (v := 2) hx hb dX2_needNew_21 (by decide) ?_
    refine lv_iload_n hx hb dX2_needNew_22 rfl (lv_at hl 3 rfl) ?_
    refine k_X2_tellFault hC hN hK hT hm wq_1030 (by decide) hl.1 (Nat.le_of_ble_eq_true rfl) ⟨Nat.le_refl _, Nat.le_refl _⟩ dX2_needNew_23 (fun F_23 L_23 H locs hm hT => ?_)
    exact L26 _ _ _ _ _ _ _ hm hT (lv_sub hl [0, 1, 2, 3] rfl)
section KX2_needNew_nO
variable {p : Program} {l : Launch} {e : Env} {s : State} {m : MethodId} {args : Array Value} {below : List Frame} {meth : Method} {c : Code} {H H0 : Heap} {locs : List Loc} {cells slots : Nat} {Q : State → Prop} {R : Room} {rn mcR msR : Nat}
variable {pc : Nat} {ls : Array Slot} {rest : List Value} {A : Nat → Prop} {D : va_G}
variable {cc : ByteArray} {nL index : Nat} {own host : String}
end KX2_needNew_nO
def wp_X2_needKnown_nL (F : M2) (L : L2) (x2 : Int32) (x3 : Int32) (K : Int32 → M2 → L2 → Prop) : Prop := wp_X2_indexOf_nL F L x2 (atl (L 76) 401 x3) (fun r_13 => ((¬ r_13 = ((-1)) → K r_13 F L) ∧ (r_13 = ((-1)) → wp_X2_tellFault F L 3 x3 (fun F_27 L_27 => K r_13 F_27 L_27))))
set_option maxRecDepth 100000 in
set_option maxHeartbeats 4000000 in
theorem c_X2_needKnown_nL (l : Launch) (D : va_G) (Z : Nat → ClassId) (a q : Nat → Nat) (F : M2) (L : L2) (sz : Nat) (x2 : Int32) (x3 : Int32) (K : Int32 → M2 → L2 → Prop) (hm : wp_X2_needKnown_nL F L x2 x3 K) : Met l yX2_needKnown (wy yX2_needKnown cX2_needKnown 5 (some .int)) (rk 2 0 0) (pre vwCl D Z (KW Z a q (q 20) F L) sz [.ref (a 60), .ref (a 63), .int x2, .int x3]) (poI vwCl D Z (fun u : M2 × L2 => KW Z a q (q 20) u.1 u.2) (F, L) sz (fun (r : Int32) (u : M2 × L2) => K r u.1 u.2)) 0 0 (va_A (KW Z a q (q 20) F L) sz) := by
  refine rw_of (ty := .int) (wsF := (fun u : M2 × L2 => KW Z a q (q 20) u.1 u.2)) (u0 := (F, L)) (by decide +kernel) (Nat.le_of_ble_eq_true rfl) rfl ?_
  intro p e s m args below meth c Q A hC hN hsz hT hK hret ls hl
  have hx := hC.1
  have hb := hC.2.1
  have hl : lv_has ls 5 [(0, .ref (a 60)), (1, .ref (a 63)), (2, .int x2), (3, .int x3)] := hl
  have hT : TS vwCl D (KW Z a q (q 20) F L) A s.heap s.heap [] := hT
  refine lv_aload_n hx hb dX2_needKnown_0 rfl (lv_at hl 1 rfl) ?_
  refine lv_iload_n hx hb dX2_needKnown_1 rfl (lv_at hl 2 rfl) ?_
  refine lv_aload_n hx hb dX2_needKnown_2 rfl (lv_at hl 0 rfl) ?_
  refine gKW_rd_0 hC hK hT.1 wq_385 dX2_needKnown_3 ?_
  refine gKW_tok_5 hC hK hT.1 wq_218 dX2_needKnown_6 ?_
  refine lv_iload_n hx hb dX2_needKnown_9 rfl (lv_at hl 3 rfl) ?_
  refine w_atl (q0 := 10) hC hN hK hT.1 wn_1026 rfl (by decide) (by decide) hl.1 (Nat.le_of_ble_eq_true rfl) ⟨Nat.le_refl _, Nat.le_refl _⟩ dX2_needKnown_10 ?_
  refine k_X2_indexOf_nL hC hN hK hT.1 hT.D' hm wq_1027 (by decide) hl.1 (Nat.le_of_ble_eq_true rfl) ⟨Nat.le_refl _, Nat.le_refl _⟩ dX2_needKnown_13 (fun r_13 hm => ?_)
  refine lv_istore (lv' := [(4, .int r_13), (0, .ref (a 60)), (1, .ref (a 63)), (2, .int x2), (3, .int x3)]) hx hb dX2_needKnown_16 hl (by decide) rfl (fun ls hl => ?_)
  refine lv_iload hx hb dX2_needKnown_18 (lv_at hl 0 rfl) ?_
  refine lv_iconst (v := (-1)) hx hb dX2_needKnown_20 (by decide) ?_
  refine lv_icmp_ne (tgt := 30) hx hb dX2_needKnown_21 (by decide) (fun c_21 => ?_) (fun c_21 => ?_)
  · have hm := hm.1 c_21
    refine lv_iload hx hb dX2_needKnown_30 (lv_at hl 0 rfl) ?_
    exact hret 32 _ _ _ _ (F, L) hm hT rfl dX2_needKnown_32
  · have hm := hm.2 c_21
    refine lv_aload_n hx hb dX2_needKnown_24 rfl (lv_at hl 1 rfl) ?_
    refine lv_iconst (v := 3) hx hb dX2_needKnown_25 (by decide) ?_
    refine lv_iload_n hx hb dX2_needKnown_26 rfl (lv_at hl 4 rfl) ?_
    refine k_X2_tellFault hC hN hK hT hm wq_1030 (by decide) hl.1 (Nat.le_of_ble_eq_true rfl) ⟨Nat.le_refl _, Nat.le_refl _⟩ dX2_needKnown_27 (fun F_27 L_27 H locs hm hT => ?_)
    refine lv_iload hx hb dX2_needKnown_30 (lv_at hl 0 rfl) ?_
    exact hret 32 _ _ _ _ (F_27, L_27) hm hT rfl dX2_needKnown_32
section KX2_needKnown_nL
variable {p : Program} {l : Launch} {e : Env} {s : State} {m : MethodId} {args : Array Value} {below : List Frame} {meth : Method} {c : Code} {H H0 : Heap} {locs : List Loc} {cells slots : Nat} {Q : State → Prop} {R : Room} {rn mcR msR : Nat}
variable {pc : Nat} {ls : Array Slot} {rest : List Value} {A : Nat → Prop} {D : va_G}
variable {cc : ByteArray} {nL index : Nat} {own host : String}
theorem k_X2_needKnown_nL {Z : Nat → ClassId} {a q : Nat → Nat} {F : M2} {L : L2} {x2 : Int32} {x3 : Int32} {K : Int32 → M2 → L2 → Prop} (hC : CallFix p m c cc nL s args lw_g own) (hN : NW s) (hK : va_K D vwCl (tysG Z) s) (hT : TS vwCl D (KW Z a q (q 20) F L) A H0 H locs) (hm : wp_X2_needKnown_nL F L x2 x3 K) (hl : Cond.methodLink own index yX2_needKnown ∈ lw_g) (hlt : 2 < rn) (hsize : ls.size = nL) (hW : (rest.map fun v => v.category).sum ≤ 8) (hf : cells + 0 ≤ mcR ∧ slots + 0 ≤ msR) (hdg : decode cc pc = .ok (.invokevirtual index, 3)) (kk : ∀ (r : Int32) (F1 : M2) (L1 : L2) (H1 : Heap) (locs1 : List Loc), K r F1 L1 → TS vwCl D (KW Z a q (q 20) F1 L1) A H0 H1 locs1 → W p l e (rk rn mcR msR) s m args below meth c H1 locs1 cells slots Q (F0 m (pc + 3) ls (.int r :: rest))) : W p l e (rk rn mcR msR) s m args below meth c H locs cells slots Q (F0 m pc ls (.int x3 :: .int x2 :: .ref (a 63) :: .ref (a 60) :: rest)) :=
  rw_go (wsF := (fun u : M2 × L2 => KW Z a q (q 20) u.1 u.2)) (u0 := (F, L)) (wr := []) (isC := cutKW) (isR := []) (pm := cutKW) (ws' := (fun u : M2 × L2 => KW Z a q (q 20) u.1 u.2)) (runV (As := [.ref (a 63), .int x2, .int x3]) hC hN (c_X2_needKnown_nL l D Z a q F L H.size x2 x3 K hm) mi_X2_needKnown hl wq_1076 wq_49 hlt hT.1 hT.D' hK (q0 := 0) rfl rfl rfl hsize rfl hW hdg hf) (cutOkKW Z a q (q 20) F L) hT (fun r u H1 locs1 hk hT1 => kk r u.1 u.2 H1 locs1 hk hT1)
end KX2_needKnown_nL
def wp_X2_needKnown_nO (F : M2) (L : L2) (x2 : Int32) (x3 : Int32) (K : Int32 → M2 → L2 → Prop) : Prop := wp_X2_indexOf_nO F L x2 (atl (L 76) 401 x3) (fun r_13 => ((¬ r_13 = ((-1)) → K r_13 F L) ∧ (r_13 = ((-1)) → wp_X2_tellFault F L 3 x3 (fun F_27 L_27 => K r_13 F_27 L_27))))
set_option maxRecDepth 100000 in
set_option maxHeartbeats 4000000 in
theorem c_X2_needKnown_nO (l : Launch) (D : va_G) (Z : Nat → ClassId) (a q : Nat → Nat) (F : M2) (L : L2) (sz : Nat) (x2 : Int32) (x3 : Int32) (K : Int32 → M2 → L2 → Prop) (hm : wp_X2_needKnown_nO F L x2 x3 K) : Met l yX2_needKnown (wy yX2_needKnown cX2_needKnown 5 (some .int)) (rk 2 0 0) (pre vwCl D Z (KW Z a q (q 20) F L) sz [.ref (a 60), .ref (a 64), .int x2, .int x3]) (poI vwCl D Z (fun u : M2 × L2 => KW Z a q (q 20) u.1 u.2) (F, L) sz (fun (r : Int32) (u : M2 × L2) => K r u.1 u.2)) 0 0 (va_A (KW Z a q (q 20) F L) sz) := by
  refine rw_of (ty := .int) (wsF := (fun u : M2 × L2 => KW Z a q (q 20) u.1 u.2)) (u0 := (F, L)) (by decide +kernel) (Nat.le_of_ble_eq_true rfl) rfl ?_
  intro p e s m args below meth c Q A hC hN hsz hT hK hret ls hl
  have hx := hC.1
  have hb := hC.2.1
  have hl : lv_has ls 5 [(0, .ref (a 60)), (1, .ref (a 64)), (2, .int x2), (3, .int x3)] := hl
  have hT : TS vwCl D (KW Z a q (q 20) F L) A s.heap s.heap [] := hT
  refine lv_aload_n hx hb dX2_needKnown_0 rfl (lv_at hl 1 rfl) ?_
  refine lv_iload_n hx hb dX2_needKnown_1 rfl (lv_at hl 2 rfl) ?_
  refine lv_aload_n hx hb dX2_needKnown_2 rfl (lv_at hl 0 rfl) ?_
  refine gKW_rd_0 hC hK hT.1 wq_385 dX2_needKnown_3 ?_
  refine gKW_tok_5 hC hK hT.1 wq_218 dX2_needKnown_6 ?_
  refine lv_iload_n hx hb dX2_needKnown_9 rfl (lv_at hl 3 rfl) ?_
  refine w_atl (q0 := 10) hC hN hK hT.1 wn_1026 rfl (by decide) (by decide) hl.1 (Nat.le_of_ble_eq_true rfl) ⟨Nat.le_refl _, Nat.le_refl _⟩ dX2_needKnown_10 ?_
  refine k_X2_indexOf_nO hC hN hK hT.1 hT.D' hm wq_1027 (by decide) hl.1 (Nat.le_of_ble_eq_true rfl) ⟨Nat.le_refl _, Nat.le_refl _⟩ dX2_needKnown_13 (fun r_13 hm => ?_)
  refine lv_istore (lv' := [(4, .int r_13), (0, .ref (a 60)), (1, .ref (a 64)), (2, .int x2), (3, .int x3)]) hx hb dX2_needKnown_16 hl (by decide) rfl (fun ls hl => ?_)
  refine lv_iload hx hb dX2_needKnown_18 (lv_at hl 0 rfl) ?_
  refine lv_iconst (v := (-1)) hx hb dX2_needKnown_20 (by decide) ?_
  refine lv_icmp_ne (tgt := 30) hx hb dX2_needKnown_21 (by decide) (fun c_21 => ?_) (fun c_21 => ?_)
  · have hm := hm.1 c_21
    refine lv_iload hx hb dX2_needKnown_30 (lv_at hl 0 rfl) ?_
    exact hret 32 _ _ _ _ (F, L) hm hT rfl dX2_needKnown_32
  · have hm := hm.2 c_21
    refine lv_aload_n hx hb dX2_needKnown_24 rfl (lv_at hl 1 rfl) ?_
    refine lv_iconst (v := 3) hx hb dX2_needKnown_25 (by decide) ?_
    refine lv_iload_n hx hb dX2_needKnown_26 rfl (lv_at hl 4 rfl) ?_
    refine k_X2_tellFault hC hN hK hT hm wq_1030 (by decide) hl.1 (Nat.le_of_ble_eq_true rfl) ⟨Nat.le_refl _, Nat.le_refl _⟩ dX2_needKnown_27 (fun F_27 L_27 H locs hm hT => ?_)
    refine lv_iload hx hb dX2_needKnown_30 (lv_at hl 0 rfl) ?_
    exact hret 32 _ _ _ _ (F_27, L_27) hm hT rfl dX2_needKnown_32
section KX2_needKnown_nO
variable {p : Program} {l : Launch} {e : Env} {s : State} {m : MethodId} {args : Array Value} {below : List Frame} {meth : Method} {c : Code} {H H0 : Heap} {locs : List Loc} {cells slots : Nat} {Q : State → Prop} {R : Room} {rn mcR msR : Nat}
variable {pc : Nat} {ls : Array Slot} {rest : List Value} {A : Nat → Prop} {D : va_G}
variable {cc : ByteArray} {nL index : Nat} {own host : String}
theorem k_X2_needKnown_nO {Z : Nat → ClassId} {a q : Nat → Nat} {F : M2} {L : L2} {x2 : Int32} {x3 : Int32} {K : Int32 → M2 → L2 → Prop} (hC : CallFix p m c cc nL s args lw_g own) (hN : NW s) (hK : va_K D vwCl (tysG Z) s) (hT : TS vwCl D (KW Z a q (q 20) F L) A H0 H locs) (hm : wp_X2_needKnown_nO F L x2 x3 K) (hl : Cond.methodLink own index yX2_needKnown ∈ lw_g) (hlt : 2 < rn) (hsize : ls.size = nL) (hW : (rest.map fun v => v.category).sum ≤ 8) (hf : cells + 0 ≤ mcR ∧ slots + 0 ≤ msR) (hdg : decode cc pc = .ok (.invokevirtual index, 3)) (kk : ∀ (r : Int32) (F1 : M2) (L1 : L2) (H1 : Heap) (locs1 : List Loc), K r F1 L1 → TS vwCl D (KW Z a q (q 20) F1 L1) A H0 H1 locs1 → W p l e (rk rn mcR msR) s m args below meth c H1 locs1 cells slots Q (F0 m (pc + 3) ls (.int r :: rest))) : W p l e (rk rn mcR msR) s m args below meth c H locs cells slots Q (F0 m pc ls (.int x3 :: .int x2 :: .ref (a 64) :: .ref (a 60) :: rest)) :=
  rw_go (wsF := (fun u : M2 × L2 => KW Z a q (q 20) u.1 u.2)) (u0 := (F, L)) (wr := []) (isC := cutKW) (isR := []) (pm := cutKW) (ws' := (fun u : M2 × L2 => KW Z a q (q 20) u.1 u.2)) (runV (As := [.ref (a 64), .int x2, .int x3]) hC hN (c_X2_needKnown_nO l D Z a q F L H.size x2 x3 K hm) mi_X2_needKnown hl wq_1076 wq_49 hlt hT.1 hT.D' hK (q0 := 0) rfl rfl rfl hsize rfl hW hdg hf) (cutOkKW Z a q (q 20) F L) hT (fun r u H1 locs1 hk hT1 => kk r u.1 u.2 H1 locs1 hk hT1)
end KX2_needKnown_nO
def wp_X2_needRange (F : M2) (L : L2) (x1 : Int32) (x2 : Int32) (x3 : Int32) (K : M2 → L2 → Prop) : Prop := wp_X2_number F L x1 (fun r_2 => ((r_2 < x2 → wp_X2_tellFault F L 5 x1 (fun F_22 L_22 => K F_22 L_22)) ∧ (¬ r_2 < x2 → ((r_2 ≤ x3 → K F L) ∧ (¬ r_2 ≤ x3 → wp_X2_tellFault F L 5 x1 (fun F_22 L_22 => K F_22 L_22))))))
set_option maxRecDepth 100000 in
set_option maxHeartbeats 4000000 in
theorem c_X2_needRange (l : Launch) (D : va_G) (Z : Nat → ClassId) (a q : Nat → Nat) (F : M2) (L : L2) (sz : Nat) (x1 : Int32) (x2 : Int32) (x3 : Int32) (K : M2 → L2 → Prop) (hm : wp_X2_needRange F L x1 x2 x3 K) : Met l yX2_needRange (wy yX2_needRange cX2_needRange 5 none) (rk 2 0 0) (pre vwCl D Z (KW Z a q (q 20) F L) sz [.ref (a 60), .int x1, .int x2, .int x3]) (poV vwCl D Z (fun u : M2 × L2 => KW Z a q (q 20) u.1 u.2) (F, L) sz (fun (u : M2 × L2) => K u.1 u.2)) 0 0 (va_A (KW Z a q (q 20) F L) sz) := by
  refine rwv_of (wsF := (fun u : M2 × L2 => KW Z a q (q 20) u.1 u.2)) (u0 := (F, L)) (by decide +kernel) (Nat.le_of_ble_eq_true rfl) rfl ?_
  intro p e s m args below meth c Q A hC hN hsz hnm hT hK hret ls hl
  have hx := hC.1
  have hb := hC.2.1
  have hl : lv_has ls 5 [(0, .ref (a 60)), (1, .int x1), (2, .int x2), (3, .int x3)] := hl
  have hT : TS vwCl D (KW Z a q (q 20) F L) A s.heap s.heap [] := hT
  refine lv_aload_n hx hb dX2_needRange_0 rfl (lv_at hl 0 rfl) ?_
  refine lv_iload_n hx hb dX2_needRange_1 rfl (lv_at hl 1 rfl) ?_
  refine k_X2_number hC hN hK hT.1 hT.D' hm wq_1038 (by decide) hl.1 (Nat.le_of_ble_eq_true rfl) ⟨Nat.le_refl _, Nat.le_refl _⟩ dX2_needRange_2 (fun r_2 hm => ?_)
  refine lv_istore (lv' := [(4, .int r_2), (0, .ref (a 60)), (1, .int x1), (2, .int x2), (3, .int x3)]) hx hb dX2_needRange_5 hl (by decide) rfl (fun ls hl => ?_)
  refine lv_iload hx hb dX2_needRange_7 (lv_at hl 0 rfl) ?_
  refine lv_iload_n hx hb dX2_needRange_9 rfl (lv_at hl 3 rfl) ?_
  refine lv_icmp_lt (tgt := 19) hx hb dX2_needRange_10 (by decide) (fun c_10 => ?_) (fun c_10 => ?_)
  · have hm := hm.1 c_10
    refine lv_aload_n hx hb dX2_needRange_19 rfl (lv_at hl 1 rfl) ?_
    refine lv_iconst (v := 5) hx hb dX2_needRange_20 (by decide) ?_
    refine lv_iload_n hx hb dX2_needRange_21 rfl (lv_at hl 2 rfl) ?_
    refine k_X2_tellFault hC hN hK hT hm wq_1030 (by decide) hl.1 (Nat.le_of_ble_eq_true rfl) ⟨Nat.le_refl _, Nat.le_refl _⟩ dX2_needRange_22 (fun F_22 L_22 H locs hm hT => ?_)
    exact hret 25 _ _ _ (F_22, L_22) hm hT dX2_needRange_25
  · have hm := hm.2 c_10
    refine lv_iload hx hb dX2_needRange_13 (lv_at hl 0 rfl) ?_
    refine lv_iload_n hx hb dX2_needRange_15 rfl (lv_at hl 4 rfl) ?_
    refine lv_icmp_le (tgt := 25) hx hb dX2_needRange_16 (by decide) (fun c_16 => ?_) (fun c_16 => ?_)
    · have hm := hm.1 c_16
      exact hret 25 _ _ _ (F, L) hm hT dX2_needRange_25
    · have hm := hm.2 c_16
      refine lv_aload_n hx hb dX2_needRange_19 rfl (lv_at hl 1 rfl) ?_
      refine lv_iconst (v := 5) hx hb dX2_needRange_20 (by decide) ?_
      refine lv_iload_n hx hb dX2_needRange_21 rfl (lv_at hl 2 rfl) ?_
      refine k_X2_tellFault hC hN hK hT hm wq_1030 (by decide) hl.1 (Nat.le_of_ble_eq_true rfl) ⟨Nat.le_refl _, Nat.le_refl _⟩ dX2_needRange_22 (fun F_22 L_22 H locs hm hT => ?_)
      exact hret 25 _ _ _ (F_22, L_22) hm hT dX2_needRange_25
section KX2_needRange
variable {p : Program} {l : Launch} {e : Env} {s : State} {m : MethodId} {args : Array Value} {below : List Frame} {meth : Method} {c : Code} {H H0 : Heap} {locs : List Loc} {cells slots : Nat} {Q : State → Prop} {R : Room} {rn mcR msR : Nat}
variable {pc : Nat} {ls : Array Slot} {rest : List Value} {A : Nat → Prop} {D : va_G}
variable {cc : ByteArray} {nL index : Nat} {own host : String}
end KX2_needRange
def wp_X2_takeDeeper (F : M2) (L : L2) (x1 : Int32) (x2 : Int32) (K : Int32 → M2 → L2 → Prop) : Prop := ((8 ≤ x2 → K 0 F L) ∧ (¬ 8 ≤ x2 → wp_X2_take F L x1 (fun r_8 F_8 L_8 => ((r_8 = 0 → K 0 F_8 L_8) ∧ (¬ r_8 = 0 → K 1 F_8 L_8)))))
set_option maxRecDepth 100000 in
set_option maxHeartbeats 4000000 in
theorem c_X2_takeDeeper (l : Launch) (D : va_G) (Z : Nat → ClassId) (a q : Nat → Nat) (F : M2) (L : L2) (sz : Nat) (x1 : Int32) (x2 : Int32) (K : Int32 → M2 → L2 → Prop) (hm : wp_X2_takeDeeper F L x1 x2 K) : Met l yX2_takeDeeper (wy yX2_takeDeeper cX2_takeDeeper 3 (some .boolean)) (rk 2 0 0) (pre vwCl D Z (KW Z a q (q 20) F L) sz [.ref (a 60), .int x1, .int x2]) (poI vwCl D Z (fun u : M2 × L2 => KW Z a q (q 20) u.1 u.2) (F, L) sz (fun (r : Int32) (u : M2 × L2) => K r u.1 u.2)) 0 0 (va_A (KW Z a q (q 20) F L) sz) := by
  refine rw_of (ty := .boolean) (wsF := (fun u : M2 × L2 => KW Z a q (q 20) u.1 u.2)) (u0 := (F, L)) (by decide +kernel) (Nat.le_of_ble_eq_true rfl) rfl ?_
  intro p e s m args below meth c Q A hC hN hsz hT hK hret ls hl
  have hx := hC.1
  have hb := hC.2.1
  have hl : lv_has ls 3 [(0, .ref (a 60)), (1, .int x1), (2, .int x2)] := hl
  have hT : TS vwCl D (KW Z a q (q 20) F L) A s.heap s.heap [] := hT
  refine lv_iload_n hx hb dX2_takeDeeper_0 rfl (lv_at hl 2 rfl) ?_
  refine lv_bipush (v := 8) hx hb dX2_takeDeeper_1 (by decide) ?_
  refine lv_icmp_ge (tgt := 18) hx hb dX2_takeDeeper_3 (by decide) (fun c_3 => ?_) (fun c_3 => ?_)
  · have hm := hm.1 c_3
    refine lv_iconst (v := 0) hx hb dX2_takeDeeper_18 (by decide) ?_
    exact hret 19 _ _ _ _ (F, L) hm hT rfl dX2_takeDeeper_19
  · have hm := hm.2 c_3
    refine lv_aload_n hx hb dX2_takeDeeper_6 rfl (lv_at hl 0 rfl) ?_
    refine lv_iload_n hx hb dX2_takeDeeper_7 rfl (lv_at hl 1 rfl) ?_
    refine k_X2_take hC hN hK hT hm wq_1018 (by decide) hl.1 (Nat.le_of_ble_eq_true rfl) ⟨Nat.le_refl _, Nat.le_refl _⟩ dX2_takeDeeper_8 (fun r_8 F_8 L_8 H locs hm hT => ?_)
    refine lv_if_eq (tgt := 18) hx hb dX2_takeDeeper_11 (by decide) (fun c_11 => ?_) (fun c_11 => ?_)
    · have hm := hm.1 c_11
      refine lv_iconst (v := 0) hx hb dX2_takeDeeper_18 (by decide) ?_
      exact hret 19 _ _ _ _ (F_8, L_8) hm hT rfl dX2_takeDeeper_19
    · have hm := hm.2 c_11
      refine lv_iconst (v := 1) hx hb dX2_takeDeeper_14 (by decide) ?_
      refine lv_goto (tgt := 19) hx hb dX2_takeDeeper_15 (by decide) ?_
      exact hret 19 _ _ _ _ (F_8, L_8) hm hT rfl dX2_takeDeeper_19
section KX2_takeDeeper
variable {p : Program} {l : Launch} {e : Env} {s : State} {m : MethodId} {args : Array Value} {below : List Frame} {meth : Method} {c : Code} {H H0 : Heap} {locs : List Loc} {cells slots : Nat} {Q : State → Prop} {R : Room} {rn mcR msR : Nat}
variable {pc : Nat} {ls : Array Slot} {rest : List Value} {A : Nat → Prop} {D : va_G}
variable {cc : ByteArray} {nL index : Nat} {own host : String}
theorem k_X2_takeDeeper {Z : Nat → ClassId} {a q : Nat → Nat} {F : M2} {L : L2} {x1 : Int32} {x2 : Int32} {K : Int32 → M2 → L2 → Prop} (hC : CallFix p m c cc nL s args lw_g own) (hN : NW s) (hK : va_K D vwCl (tysG Z) s) (hT : TS vwCl D (KW Z a q (q 20) F L) A H0 H locs) (hm : wp_X2_takeDeeper F L x1 x2 K) (hl : Cond.methodLink own index yX2_takeDeeper ∈ lw_g) (hlt : 2 < rn) (hsize : ls.size = nL) (hW : (rest.map fun v => v.category).sum ≤ 8) (hf : cells + 0 ≤ mcR ∧ slots + 0 ≤ msR) (hdg : decode cc pc = .ok (.invokevirtual index, 3)) (kk : ∀ (r : Int32) (F1 : M2) (L1 : L2) (H1 : Heap) (locs1 : List Loc), K r F1 L1 → TS vwCl D (KW Z a q (q 20) F1 L1) A H0 H1 locs1 → W p l e (rk rn mcR msR) s m args below meth c H1 locs1 cells slots Q (F0 m (pc + 3) ls (.int r :: rest))) : W p l e (rk rn mcR msR) s m args below meth c H locs cells slots Q (F0 m pc ls (.int x2 :: .int x1 :: .ref (a 60) :: rest)) :=
  rw_go (wsF := (fun u : M2 × L2 => KW Z a q (q 20) u.1 u.2)) (u0 := (F, L)) (wr := []) (isC := cutKW) (isR := []) (pm := cutKW) (ws' := (fun u : M2 × L2 => KW Z a q (q 20) u.1 u.2)) (runV (As := [.int x1, .int x2]) hC hN (c_X2_takeDeeper l D Z a q F L H.size x1 x2 K hm) mi_X2_takeDeeper hl wq_1102 wq_54 hlt hT.1 hT.D' hK (q0 := 0) rfl rfl rfl hsize rfl hW hdg hf) (cutOkKW Z a q (q 20) F L) hT (fun r u H1 locs1 hk hT1 => kk r u.1 u.2 H1 locs1 hk hT1)
end KX2_takeDeeper
def wp_X2_emit (F : M2) (L : L2) (x1 : Int32) (x2 : Int32) (K : Int32 → M2 → L2 → Prop) : Prop := wp_X0_emit F L x1 x2 (fun F_9 L_9 => K 1 F_9 L_9)
set_option maxRecDepth 100000 in
set_option maxHeartbeats 4000000 in
theorem c_X2_emit (l : Launch) (D : va_G) (Z : Nat → ClassId) (a q : Nat → Nat) (F : M2) (L : L2) (sz : Nat) (x1 : Int32) (x2 : Int32) (K : Int32 → M2 → L2 → Prop) (hm : wp_X2_emit F L x1 x2 K) : Met l yX2_emit (wy yX2_emit cX2_emit 3 (some .boolean)) (rk 2 0 0) (pre vwCl D Z (KW Z a q (q 20) F L) sz [.ref (a 60), .int x1, .int x2]) (poI vwCl D Z (fun u : M2 × L2 => KW Z a q (q 20) u.1 u.2) (F, L) sz (fun (r : Int32) (u : M2 × L2) => K r u.1 u.2)) 0 0 (va_A (KW Z a q (q 20) F L) sz) := by
  refine rw_of (ty := .boolean) (wsF := (fun u : M2 × L2 => KW Z a q (q 20) u.1 u.2)) (u0 := (F, L)) (by decide +kernel) (Nat.le_of_ble_eq_true rfl) rfl ?_
  intro p e s m args below meth c Q A hC hN hsz hT hK hret ls hl
  have hx := hC.1
  have hb := hC.2.1
  have hl : lv_has ls 3 [(0, .ref (a 60)), (1, .int x1), (2, .int x2)] := hl
  have hT : TS vwCl D (KW Z a q (q 20) F L) A s.heap s.heap [] := hT
  refine lv_aload_n hx hb dX2_emit_0 rfl (lv_at hl 0 rfl) ?_
  refine gKW_rd_5 hC hK hT.1 wq_390 dX2_emit_1 ?_
  refine gKW_plan_18 hC hK hT.1 wq_345 dX2_emit_4 ?_
  refine lv_iload_n hx hb dX2_emit_7 rfl (lv_at hl 1 rfl) ?_
  refine lv_iload_n hx hb dX2_emit_8 rfl (lv_at hl 2 rfl) ?_
  refine k_X0_emit hC hN hK hT hm wq_1108 (by decide) hl.1 (Nat.le_of_ble_eq_true rfl) ⟨Nat.le_refl _, Nat.le_refl _⟩ dX2_emit_9 (fun F_9 L_9 H locs hm hT => ?_)
  refine lv_iconst (v := 1) hx hb dX2_emit_12 (by decide) ?_
  exact hret 13 _ _ _ _ (F_9, L_9) hm hT rfl dX2_emit_13
section KX2_emit
variable {p : Program} {l : Launch} {e : Env} {s : State} {m : MethodId} {args : Array Value} {below : List Frame} {meth : Method} {c : Code} {H H0 : Heap} {locs : List Loc} {cells slots : Nat} {Q : State → Prop} {R : Room} {rn mcR msR : Nat}
variable {pc : Nat} {ls : Array Slot} {rest : List Value} {A : Nat → Prop} {D : va_G}
variable {cc : ByteArray} {nL index : Nat} {own host : String}
theorem k_X2_emit {Z : Nat → ClassId} {a q : Nat → Nat} {F : M2} {L : L2} {x1 : Int32} {x2 : Int32} {K : Int32 → M2 → L2 → Prop} (hC : CallFix p m c cc nL s args lw_g own) (hN : NW s) (hK : va_K D vwCl (tysG Z) s) (hT : TS vwCl D (KW Z a q (q 20) F L) A H0 H locs) (hm : wp_X2_emit F L x1 x2 K) (hl : Cond.methodLink own index yX2_emit ∈ lw_g) (hlt : 2 < rn) (hsize : ls.size = nL) (hW : (rest.map fun v => v.category).sum ≤ 8) (hf : cells + 0 ≤ mcR ∧ slots + 0 ≤ msR) (hdg : decode cc pc = .ok (.invokevirtual index, 3)) (kk : ∀ (r : Int32) (F1 : M2) (L1 : L2) (H1 : Heap) (locs1 : List Loc), K r F1 L1 → TS vwCl D (KW Z a q (q 20) F1 L1) A H0 H1 locs1 → W p l e (rk rn mcR msR) s m args below meth c H1 locs1 cells slots Q (F0 m (pc + 3) ls (.int r :: rest))) : W p l e (rk rn mcR msR) s m args below meth c H locs cells slots Q (F0 m pc ls (.int x2 :: .int x1 :: .ref (a 60) :: rest)) :=
  rw_go (wsF := (fun u : M2 × L2 => KW Z a q (q 20) u.1 u.2)) (u0 := (F, L)) (wr := []) (isC := cutKW) (isR := []) (pm := cutKW) (ws' := (fun u : M2 × L2 => KW Z a q (q 20) u.1 u.2)) (runV (As := [.int x1, .int x2]) hC hN (c_X2_emit l D Z a q F L H.size x1 x2 K hm) mi_X2_emit hl wq_1106 wq_55 hlt hT.1 hT.D' hK (q0 := 0) rfl rfl rfl hsize rfl hW hdg hf) (cutOkKW Z a q (q 20) F L) hT (fun r u H1 locs1 hk hT1 => kk r u.1 u.2 H1 locs1 hk hT1)
end KX2_emit
def wp_X2_ofOne_nL (F : M2) (L : L2) (x1 : Int32) (x3 : Int32) (K : Int32 → M2 → L2 → Prop) : Prop := (∀ F_7 : M2, F_7 = up2 F 66 (fun _ => (F 66 0) + 1) → wp_X2_take F_7 L 2 (fun r_12 F_12 L_12 => ((r_12 = 0 → K 0 F_12 L_12) ∧ (¬ r_12 = 0 → wp_X2_needKnown_nL F_12 L_12 x3 ((F_12 66 0) - 1) (fun r_29 F_29 L_29 => wp_X2_emit F_29 L_29 x1 r_29 (fun r_32 F_32 L_32 => ((r_32 = 0 → K 0 F_32 L_32) ∧ (¬ r_32 = 0 → K 1 F_32 L_32))))))))
set_option maxRecDepth 100000 in
set_option maxHeartbeats 4000000 in
theorem c_X2_ofOne_nL (l : Launch) (D : va_G) (Z : Nat → ClassId) (a q : Nat → Nat) (F : M2) (L : L2) (sz : Nat) (x1 : Int32) (x3 : Int32) (K : Int32 → M2 → L2 → Prop) (hm : wp_X2_ofOne_nL F L x1 x3 K) : Met l yX2_ofOne (wy yX2_ofOne cX2_ofOne 4 (some .boolean)) (rk 3 0 0) (pre vwCl D Z (KW Z a q (q 20) F L) sz [.ref (a 60), .int x1, .ref (a 63), .int x3]) (poI vwCl D Z (fun u : M2 × L2 => KW Z a q (q 20) u.1 u.2) (F, L) sz (fun (r : Int32) (u : M2 × L2) => K r u.1 u.2)) 0 0 (va_A (KW Z a q (q 20) F L) sz) := by
  refine rw_of (ty := .boolean) (wsF := (fun u : M2 × L2 => KW Z a q (q 20) u.1 u.2)) (u0 := (F, L)) (by decide +kernel) (Nat.le_of_ble_eq_true rfl) rfl ?_
  intro p e s m args below meth c Q A hC hN hsz hT hK hret ls hl
  have hx := hC.1
  have hb := hC.2.1
  have hl : lv_has ls 4 [(0, .ref (a 60)), (1, .int x1), (2, .ref (a 63)), (3, .int x3)] := hl
  have hT : TS vwCl D (KW Z a q (q 20) F L) A s.heap s.heap [] := hT
  refine lv_aload_n hx hb dX2_ofOne_0 rfl (lv_at hl 0 rfl) ?_
  refine lv_dup hx hb dX2_ofOne_1 rfl ?_
  refine gKW_rd_6 hC hK hT.1 wq_391 dX2_ofOne_2 ?_
  refine lv_iconst (v := 1) hx hb dX2_ofOne_5 (by decide) ?_
  refine lv_iadd hx hb dX2_ofOne_6 ?_
  refine pKW_rd_6 hC hK hT wq_391 dX2_ofOne_7 (fun F_7 eF_7 H locs hT => ?_)
  have hm := hm F_7 eF_7
  refine lv_aload_n hx hb dX2_ofOne_10 rfl (lv_at hl 0 rfl) ?_
  refine lv_iconst (v := 2) hx hb dX2_ofOne_11 (by decide) ?_
  refine k_X2_take hC hN hK hT hm wq_1018 (by decide) hl.1 (Nat.le_of_ble_eq_true rfl) ⟨Nat.le_refl _, Nat.le_refl _⟩ dX2_ofOne_12 (fun r_12 F_12 L_12 H locs hm hT => ?_)
  refine lv_if_eq (tgt := 42) hx hb dX2_ofOne_15 (by decide) (fun c_15 => ?_) (fun c_15 => ?_)
  · have hm := hm.1 c_15
    refine lv_iconst (v := 0) hx hb dX2_ofOne_42 (by decide) ?_
    exact hret 43 _ _ _ _ (F_12, L_12) hm hT rfl dX2_ofOne_43
  · have hm := hm.2 c_15
    refine lv_aload_n hx hb dX2_ofOne_18 rfl (lv_at hl 0 rfl) ?_
    refine lv_iload_n hx hb dX2_ofOne_19 rfl (lv_at hl 1 rfl) ?_
    refine lv_aload_n hx hb dX2_ofOne_20 rfl (lv_at hl 0 rfl) ?_
    refine lv_aload_n hx hb dX2_ofOne_21 rfl (lv_at hl 2 rfl) ?_
    refine lv_iload_n hx hb dX2_ofOne_22 rfl (lv_at hl 3 rfl) ?_
    refine lv_aload_n hx hb dX2_ofOne_23 rfl (lv_at hl 0 rfl) ?_
    refine gKW_rd_6 hC hK hT.1 wq_391 dX2_ofOne_24 ?_
    refine lv_iconst (v := 1) hx hb dX2_ofOne_27 (by decide) ?_
    refine lv_isub hx hb dX2_ofOne_28 ?_
    refine k_X2_needKnown_nL hC hN hK hT hm wq_1074 (by decide) hl.1 (Nat.le_of_ble_eq_true rfl) ⟨Nat.le_refl _, Nat.le_refl _⟩ dX2_ofOne_29 (fun r_29 F_29 L_29 H locs hm hT => ?_)
    refine k_X2_emit hC hN hK hT hm wq_1104 (by decide) hl.1 (Nat.le_of_ble_eq_true rfl) ⟨Nat.le_refl _, Nat.le_refl _⟩ dX2_ofOne_32 (fun r_32 F_32 L_32 H locs hm hT => ?_)
    refine lv_if_eq (tgt := 42) hx hb dX2_ofOne_35 (by decide) (fun c_35 => ?_) (fun c_35 => ?_)
    · have hm := hm.1 c_35
      refine lv_iconst (v := 0) hx hb dX2_ofOne_42 (by decide) ?_
      exact hret 43 _ _ _ _ (F_32, L_32) hm hT rfl dX2_ofOne_43
    · have hm := hm.2 c_35
      refine lv_iconst (v := 1) hx hb dX2_ofOne_38 (by decide) ?_
      refine lv_goto (tgt := 43) hx hb dX2_ofOne_39 (by decide) ?_
      exact hret 43 _ _ _ _ (F_32, L_32) hm hT rfl dX2_ofOne_43
section KX2_ofOne_nL
variable {p : Program} {l : Launch} {e : Env} {s : State} {m : MethodId} {args : Array Value} {below : List Frame} {meth : Method} {c : Code} {H H0 : Heap} {locs : List Loc} {cells slots : Nat} {Q : State → Prop} {R : Room} {rn mcR msR : Nat}
variable {pc : Nat} {ls : Array Slot} {rest : List Value} {A : Nat → Prop} {D : va_G}
variable {cc : ByteArray} {nL index : Nat} {own host : String}
theorem k_X2_ofOne_nL {Z : Nat → ClassId} {a q : Nat → Nat} {F : M2} {L : L2} {x1 : Int32} {x3 : Int32} {K : Int32 → M2 → L2 → Prop} (hC : CallFix p m c cc nL s args lw_g own) (hN : NW s) (hK : va_K D vwCl (tysG Z) s) (hT : TS vwCl D (KW Z a q (q 20) F L) A H0 H locs) (hm : wp_X2_ofOne_nL F L x1 x3 K) (hl : Cond.methodLink own index yX2_ofOne ∈ lw_g) (hlt : 3 < rn) (hsize : ls.size = nL) (hW : (rest.map fun v => v.category).sum ≤ 8) (hf : cells + 0 ≤ mcR ∧ slots + 0 ≤ msR) (hdg : decode cc pc = .ok (.invokevirtual index, 3)) (kk : ∀ (r : Int32) (F1 : M2) (L1 : L2) (H1 : Heap) (locs1 : List Loc), K r F1 L1 → TS vwCl D (KW Z a q (q 20) F1 L1) A H0 H1 locs1 → W p l e (rk rn mcR msR) s m args below meth c H1 locs1 cells slots Q (F0 m (pc + 3) ls (.int r :: rest))) : W p l e (rk rn mcR msR) s m args below meth c H locs cells slots Q (F0 m pc ls (.int x3 :: .ref (a 63) :: .int x1 :: .ref (a 60) :: rest)) :=
  rw_go (wsF := (fun u : M2 × L2 => KW Z a q (q 20) u.1 u.2)) (u0 := (F, L)) (wr := []) (isC := cutKW) (isR := []) (pm := cutKW) (ws' := (fun u : M2 × L2 => KW Z a q (q 20) u.1 u.2)) (runV (As := [.int x1, .ref (a 63), .int x3]) hC hN (c_X2_ofOne_nL l D Z a q F L H.size x1 x3 K hm) mi_X2_ofOne hl wq_1115 wq_56 hlt hT.1 hT.D' hK (q0 := 0) rfl rfl rfl hsize rfl hW hdg hf) (cutOkKW Z a q (q 20) F L) hT (fun r u H1 locs1 hk hT1 => kk r u.1 u.2 H1 locs1 hk hT1)
end KX2_ofOne_nL
def wp_X2_ofOne_nO (F : M2) (L : L2) (x1 : Int32) (x3 : Int32) (K : Int32 → M2 → L2 → Prop) : Prop := (∀ F_7 : M2, F_7 = up2 F 66 (fun _ => (F 66 0) + 1) → wp_X2_take F_7 L 2 (fun r_12 F_12 L_12 => ((r_12 = 0 → K 0 F_12 L_12) ∧ (¬ r_12 = 0 → wp_X2_needKnown_nO F_12 L_12 x3 ((F_12 66 0) - 1) (fun r_29 F_29 L_29 => wp_X2_emit F_29 L_29 x1 r_29 (fun r_32 F_32 L_32 => ((r_32 = 0 → K 0 F_32 L_32) ∧ (¬ r_32 = 0 → K 1 F_32 L_32))))))))
set_option maxRecDepth 100000 in
set_option maxHeartbeats 4000000 in
theorem c_X2_ofOne_nO (l : Launch) (D : va_G) (Z : Nat → ClassId) (a q : Nat → Nat) (F : M2) (L : L2) (sz : Nat) (x1 : Int32) (x3 : Int32) (K : Int32 → M2 → L2 → Prop) (hm : wp_X2_ofOne_nO F L x1 x3 K) : Met l yX2_ofOne (wy yX2_ofOne cX2_ofOne 4 (some .boolean)) (rk 3 0 0) (pre vwCl D Z (KW Z a q (q 20) F L) sz [.ref (a 60), .int x1, .ref (a 64), .int x3]) (poI vwCl D Z (fun u : M2 × L2 => KW Z a q (q 20) u.1 u.2) (F, L) sz (fun (r : Int32) (u : M2 × L2) => K r u.1 u.2)) 0 0 (va_A (KW Z a q (q 20) F L) sz) := by
  refine rw_of (ty := .boolean) (wsF := (fun u : M2 × L2 => KW Z a q (q 20) u.1 u.2)) (u0 := (F, L)) (by decide +kernel) (Nat.le_of_ble_eq_true rfl) rfl ?_
  intro p e s m args below meth c Q A hC hN hsz hT hK hret ls hl
  have hx := hC.1
  have hb := hC.2.1
  have hl : lv_has ls 4 [(0, .ref (a 60)), (1, .int x1), (2, .ref (a 64)), (3, .int x3)] := hl
  have hT : TS vwCl D (KW Z a q (q 20) F L) A s.heap s.heap [] := hT
  refine lv_aload_n hx hb dX2_ofOne_0 rfl (lv_at hl 0 rfl) ?_
  refine lv_dup hx hb dX2_ofOne_1 rfl ?_
  refine gKW_rd_6 hC hK hT.1 wq_391 dX2_ofOne_2 ?_
  refine lv_iconst (v := 1) hx hb dX2_ofOne_5 (by decide) ?_
  refine lv_iadd hx hb dX2_ofOne_6 ?_
  refine pKW_rd_6 hC hK hT wq_391 dX2_ofOne_7 (fun F_7 eF_7 H locs hT => ?_)
  have hm := hm F_7 eF_7
  refine lv_aload_n hx hb dX2_ofOne_10 rfl (lv_at hl 0 rfl) ?_
  refine lv_iconst (v := 2) hx hb dX2_ofOne_11 (by decide) ?_
  refine k_X2_take hC hN hK hT hm wq_1018 (by decide) hl.1 (Nat.le_of_ble_eq_true rfl) ⟨Nat.le_refl _, Nat.le_refl _⟩ dX2_ofOne_12 (fun r_12 F_12 L_12 H locs hm hT => ?_)
  refine lv_if_eq (tgt := 42) hx hb dX2_ofOne_15 (by decide) (fun c_15 => ?_) (fun c_15 => ?_)
  · have hm := hm.1 c_15
    refine lv_iconst (v := 0) hx hb dX2_ofOne_42 (by decide) ?_
    exact hret 43 _ _ _ _ (F_12, L_12) hm hT rfl dX2_ofOne_43
  · have hm := hm.2 c_15
    refine lv_aload_n hx hb dX2_ofOne_18 rfl (lv_at hl 0 rfl) ?_
    refine lv_iload_n hx hb dX2_ofOne_19 rfl (lv_at hl 1 rfl) ?_
    refine lv_aload_n hx hb dX2_ofOne_20 rfl (lv_at hl 0 rfl) ?_
    refine lv_aload_n hx hb dX2_ofOne_21 rfl (lv_at hl 2 rfl) ?_
    refine lv_iload_n hx hb dX2_ofOne_22 rfl (lv_at hl 3 rfl) ?_
    refine lv_aload_n hx hb dX2_ofOne_23 rfl (lv_at hl 0 rfl) ?_
    refine gKW_rd_6 hC hK hT.1 wq_391 dX2_ofOne_24 ?_
    refine lv_iconst (v := 1) hx hb dX2_ofOne_27 (by decide) ?_
    refine lv_isub hx hb dX2_ofOne_28 ?_
    refine k_X2_needKnown_nO hC hN hK hT hm wq_1074 (by decide) hl.1 (Nat.le_of_ble_eq_true rfl) ⟨Nat.le_refl _, Nat.le_refl _⟩ dX2_ofOne_29 (fun r_29 F_29 L_29 H locs hm hT => ?_)
    refine k_X2_emit hC hN hK hT hm wq_1104 (by decide) hl.1 (Nat.le_of_ble_eq_true rfl) ⟨Nat.le_refl _, Nat.le_refl _⟩ dX2_ofOne_32 (fun r_32 F_32 L_32 H locs hm hT => ?_)
    refine lv_if_eq (tgt := 42) hx hb dX2_ofOne_35 (by decide) (fun c_35 => ?_) (fun c_35 => ?_)
    · have hm := hm.1 c_35
      refine lv_iconst (v := 0) hx hb dX2_ofOne_42 (by decide) ?_
      exact hret 43 _ _ _ _ (F_32, L_32) hm hT rfl dX2_ofOne_43
    · have hm := hm.2 c_35
      refine lv_iconst (v := 1) hx hb dX2_ofOne_38 (by decide) ?_
      refine lv_goto (tgt := 43) hx hb dX2_ofOne_39 (by decide) ?_
      exact hret 43 _ _ _ _ (F_32, L_32) hm hT rfl dX2_ofOne_43
section KX2_ofOne_nO
variable {p : Program} {l : Launch} {e : Env} {s : State} {m : MethodId} {args : Array Value} {below : List Frame} {meth : Method} {c : Code} {H H0 : Heap} {locs : List Loc} {cells slots : Nat} {Q : State → Prop} {R : Room} {rn mcR msR : Nat}
variable {pc : Nat} {ls : Array Slot} {rest : List Value} {A : Nat → Prop} {D : va_G}
variable {cc : ByteArray} {nL index : Nat} {own host : String}
theorem k_X2_ofOne_nO {Z : Nat → ClassId} {a q : Nat → Nat} {F : M2} {L : L2} {x1 : Int32} {x3 : Int32} {K : Int32 → M2 → L2 → Prop} (hC : CallFix p m c cc nL s args lw_g own) (hN : NW s) (hK : va_K D vwCl (tysG Z) s) (hT : TS vwCl D (KW Z a q (q 20) F L) A H0 H locs) (hm : wp_X2_ofOne_nO F L x1 x3 K) (hl : Cond.methodLink own index yX2_ofOne ∈ lw_g) (hlt : 3 < rn) (hsize : ls.size = nL) (hW : (rest.map fun v => v.category).sum ≤ 8) (hf : cells + 0 ≤ mcR ∧ slots + 0 ≤ msR) (hdg : decode cc pc = .ok (.invokevirtual index, 3)) (kk : ∀ (r : Int32) (F1 : M2) (L1 : L2) (H1 : Heap) (locs1 : List Loc), K r F1 L1 → TS vwCl D (KW Z a q (q 20) F1 L1) A H0 H1 locs1 → W p l e (rk rn mcR msR) s m args below meth c H1 locs1 cells slots Q (F0 m (pc + 3) ls (.int r :: rest))) : W p l e (rk rn mcR msR) s m args below meth c H locs cells slots Q (F0 m pc ls (.int x3 :: .ref (a 64) :: .int x1 :: .ref (a 60) :: rest)) :=
  rw_go (wsF := (fun u : M2 × L2 => KW Z a q (q 20) u.1 u.2)) (u0 := (F, L)) (wr := []) (isC := cutKW) (isR := []) (pm := cutKW) (ws' := (fun u : M2 × L2 => KW Z a q (q 20) u.1 u.2)) (runV (As := [.int x1, .ref (a 64), .int x3]) hC hN (c_X2_ofOne_nO l D Z a q F L H.size x1 x3 K hm) mi_X2_ofOne hl wq_1115 wq_56 hlt hT.1 hT.D' hK (q0 := 0) rfl rfl rfl hsize rfl hW hdg hf) (cutOkKW Z a q (q 20) F L) hT (fun r u H1 locs1 hk hT1 => kk r u.1 u.2 H1 locs1 hk hT1)
end KX2_ofOne_nO
