set_option maxRecDepth 100000 in
set_option maxHeartbeats 16000000 in
theorem tl_745 {p : Program} {l : Launch} {e : Env} {s : State} {m : MethodId} {args : Array Value} {below : List Frame} {meth : Method} {c : Code} {Q : State → Prop} {A : Nat → Prop} {D : va_G} {rx : Nat → Nat} {Z : Nat → ClassId} {a b q : Nat → Nat} {ca tp rd sp : Nat} {P : M2} {sa : Nat} {o : Nat → Nat} {ro : Nat → Nat → Nat} {nn : Nat → Nat} {V S O : M2} {scr Ln : Nat} {xs : Nat → Int32} {K : Int32 → Prop} (hC : CallFix p m c cL_law 35 s args lw_g RL) (hN : NW s) (hfl : l.stackTraces = false) (hR : RX rx scr Ln xs A s s.heap) (hK : va_K D vwCl (tysG Z) s) (hLn : Ln < 2 ^ 31) (n60 : Nat) (n687 : Nat) (ih687 : ∀ (ap : Nat) (F : M2) (G : M2) (C : M2) (N : M2) (U : M2) (L : M2) (B : M2) (e143 : (Nat → Int32)) (e137 : (Nat → Int32)) (e129 : M2) (e119 : M2) (v4 : Int32) (v5 : Int32) (v6 : Int32) (v7 : Int32) (v8 : Int32) (v13 : Int32) (v14 : Int32) (v15 : Int32) (v16 : Int32) (v17 : Int32) (v18 : Int32) (v19 : Int32) (ae143 : Nat) (ae137 : Nat) (ae129 : Nat) (rae129 : Nat → Nat) (ae119 : Nat) (rae119 : Nat → Nat) (H : Heap) (locs : List Loc) (ls : Array Slot) (cc cs : Nat), wl_L_law_687 q P nn V S O xs Ln (wl_L_law_60 q P nn V S O xs Ln K n60) K n687 ap F G C N U L B e143 e137 e129 e119 v4 v5 v6 v7 v8 v13 v14 v15 v16 v17 v18 v19 → TS vwCl D ([(ae143, .inl (Z 4, v6.toInt.toNat, .inl e143)), (ae137, .inl (Z 0, v4.toInt.toNat, .inl e137)), (ae129, .inl (Z 3, v5.toInt.toNat, .inr (.inr (.inr (.inr (fun j => if j < v5.toInt.toNat then some (rae129 j) else none)))))), (ae119, .inl (Z 3, v6.toInt.toNat, .inr (.inr (.inr (.inr (fun j => if j < v6.toInt.toNat then some (rae119 j) else none))))))] ++ ((CA Z a b q ca tp rd sp P ap F G C) ++ ((SM Z sa o ro nn V S O N U L B) ++ (pool Z rae129 e129 7 (v5.toInt.toNat) ++ (pool Z rae119 e119 7 (v6.toInt.toNat) ++ []))))) A s.heap H locs → lv_has ls 35 [(0, .ref scr), (2, .ref (sa)), (3, .ref (ca)), (4, .int v4), (5, .int v5), (6, .int v6), (7, .int v7), (8, .int v8), (9, .ref ae119), (10, .ref ae129), (11, .ref ae137), (12, .ref ae143), (13, .int v13), (14, .int v14), (15, .int v15), (16, .int v16), (17, .int v17), (18, .int v18), (19, .int v19)] → cc + (n687 * 0 + 3 + n60 * 140 + 14) ≤ 600086 ∧ cs + (n687 * 0 + 100 + n60 * 1300 + 150) ≤ 7301442 → W p l e (rk 2048 600086 7301442) s m args below meth c H locs cc cs Q (F0 m 687 ls [])) : ∀ (ap : Nat) (F : M2) (G : M2) (C : M2) (N : M2) (U : M2) (L : M2) (B : M2) (e143 : (Nat → Int32)) (e137 : (Nat → Int32)) (e129 : M2) (e119 : M2) (v4 : Int32) (v5 : Int32) (v6 : Int32) (v7 : Int32) (v8 : Int32) (v13 : Int32) (v14 : Int32) (v15 : Int32) (v16 : Int32) (v17 : Int32) (v19 : Int32) (q0 : Int32) (q1 : Int32) (ae143 : Nat) (ae137 : Nat) (ae129 : Nat) (rae129 : Nat → Nat) (ae119 : Nat) (rae119 : Nat → Nat) (H : Heap) (locs : List Loc) (ls : Array Slot) (cc cs : Nat), wj_L_law_745 q P nn V S O xs Ln (wl_L_law_60 q P nn V S O xs Ln K n60) (wl_L_law_687 q P nn V S O xs Ln (wl_L_law_60 q P nn V S O xs Ln K n60) K n687) K ap F G C N U L B e143 e137 e129 e119 v4 v5 v6 v7 v8 v13 v14 v15 v16 v17 v19 q0 q1 → TS vwCl D ([(ae143, .inl (Z 4, v6.toInt.toNat, .inl e143)), (ae137, .inl (Z 0, v4.toInt.toNat, .inl e137)), (ae129, .inl (Z 3, v5.toInt.toNat, .inr (.inr (.inr (.inr (fun j => if j < v5.toInt.toNat then some (rae129 j) else none)))))), (ae119, .inl (Z 3, v6.toInt.toNat, .inr (.inr (.inr (.inr (fun j => if j < v6.toInt.toNat then some (rae119 j) else none))))))] ++ ((CA Z a b q ca tp rd sp P ap F G C) ++ ((SM Z sa o ro nn V S O N U L B) ++ (pool Z rae129 e129 7 (v5.toInt.toNat) ++ (pool Z rae119 e119 7 (v6.toInt.toNat) ++ []))))) A s.heap H locs → lv_has ls 35 [(0, .ref scr), (2, .ref (sa)), (3, .ref (ca)), (4, .int v4), (5, .int v5), (6, .int v6), (7, .int v7), (8, .int v8), (9, .ref ae119), (10, .ref ae129), (11, .ref ae137), (12, .ref ae143), (13, .int v13), (14, .int v14), (15, .int v15), (16, .int v16), (17, .int v17), (19, .int v19)] → cc + (0 + n60 * 140 + 14 + n687 * 0 + 3) ≤ 600086 ∧ cs + (0 + n60 * 1300 + 150 + n687 * 0 + 100) ≤ 7301442 → W p l e (rk 2048 600086 7301442) s m args below meth c H locs cc cs Q (F0 m 745 ls [.int q0, .int q1]) := by
  have hx := hC.1
  have hb := hC.2.1
  intro ap F G C N U L B e143 e137 e129 e119 v4 v5 v6 v7 v8 v13 v14 v15 v16 v17 v19 q0 q1 ae143 ae137 ae129 rae129 ae119 rae119 H locs ls cc cs hm hT hl hcb
  refine lv_iadd hx hb dL_law_745 ?_
  refine lv_topi (fun v18_746 ev18_746 => ?_)
  have hm := hm v18_746 ev18_746
  refine lv_istore (lv' := [(18, .int v18_746), (0, .ref scr), (2, .ref (sa)), (3, .ref (ca)), (4, .int v4), (5, .int v5), (6, .int v6), (7, .int v7), (8, .int v8), (9, .ref ae119), (10, .ref ae129), (11, .ref ae137), (12, .ref ae143), (13, .int v13), (14, .int v14), (15, .int v15), (16, .int v16), (17, .int v17), (19, .int v19)]) hx hb dL_law_746 hl (by decide) rfl (fun ls hl => ?_)
  refine lv_aload hx hb dL_law_748 (lv_at hl 11 rfl) ?_
  refine lv_iload hx hb dL_law_750 (lv_at hl 18 rfl) ?_
  refine w_iald (q0 := 1) hC hK hT.1 rfl hm.1 dL_law_752 ?_
  have hm := hm.2
  refine lv_if_lt (tgt := 790) hx hb dL_law_753 (by decide) (fun c_753 => ?_) (fun c_753 => ?_)
  · have hm := hm.1 c_753
    refine lv_iconst (v := 0) hx hb dL_law_790 (by decide) ?_
    exact hm.elim
  · have hm := hm.2 c_753
    refine lv_aload hx hb dL_law_756 (lv_at hl 11 rfl) ?_
    refine lv_iload hx hb dL_law_758 (lv_at hl 18 rfl) ?_
    refine w_iald (q0 := 1) hC hK hT.1 rfl hm.1 dL_law_760 ?_
    have hm := hm.2
    refine lv_bipush (v := 100) hx hb dL_law_761 (by decide) ?_
    refine lv_icmp_gt (tgt := 790) hx hb dL_law_763 (by decide) (fun c_763 => ?_) (fun c_763 => ?_)
    · have hm := hm.1 c_763
      refine lv_iconst (v := 0) hx hb dL_law_790 (by decide) ?_
      exact hm.elim
    · have hm := hm.2 c_763
      refine lv_aload hx hb dL_law_766 (lv_at hl 11 rfl) ?_
      refine lv_iload hx hb dL_law_768 (lv_at hl 18 rfl) ?_
      refine w_iald (q0 := 1) hC hK hT.1 rfl hm.1 dL_law_770 ?_
      have hm := hm.2
      refine lv_aload hx hb dL_law_771 (lv_at hl 11 rfl) ?_
      refine lv_aload_n hx hb dL_law_773 rfl (lv_at hl 3 rfl) ?_
      refine k_X5_worst hC hN hK hT.dropL.dropR.1 hT.dropL.dropR.D' hm wq_701 (by decide) hl.1 (Nat.le_of_ble_eq_true rfl) ⟨by omega, by omega⟩ dL_law_774 (fun r_774 hm => ?_)
      refine w_iald (q0 := 1) hC hK hT.1 rfl hm.1 dL_law_777 ?_
      have hm := hm.2
      refine lv_icmp_ge (tgt := 792) hx hb dL_law_778 (by decide) (fun c_778 => ?_) (fun c_778 => ?_)
      · have hm := hm.1 c_778
        obtain ⟨v19_792, ev19_792⟩ : ∃ y : Int32, y = v19 + 1 := ⟨_, rfl⟩
        have hm := hm v19_792 ev19_792
        refine lv_iinc (v := v19_792) (lv' := [(19, .int v19_792), (18, .int v18_746), (0, .ref scr), (2, .ref (sa)), (3, .ref (ca)), (4, .int v4), (5, .int v5), (6, .int v6), (7, .int v7), (8, .int v8), (9, .ref ae119), (10, .ref ae129), (11, .ref ae137), (12, .ref ae143), (13, .int v13), (14, .int v14), (15, .int v15), (16, .int v16), (17, .int v17)]) hx hb dL_law_792 hl (k := 18) rfl (by rw [ev19_792]; rfl) (by decide) rfl (fun ls hl => ?_)
        refine lv_goto (tgt := 687) hx hb dL_law_795 (by decide) ?_
        exact ih687 _ _ _ _ _ _ _ _ _ _ _ _ _ _ _ _ _ _ _ _ _ _ _ _ _ _ _ _ _ _ _ _ _ _ _ hm hT (lv_sub hl [2, 3, 4, 5, 6, 7, 8, 9, 10, 11, 12, 13, 14, 15, 16, 17, 18, 1, 0] rfl) ⟨by omega, by omega⟩
      · have hm := hm.2 c_778
        refine lv_aload_n hx hb dL_law_781 rfl (lv_at hl 3 rfl) ?_
        refine k_X5_worst hC hN hK hT.dropL.dropR.1 hT.dropL.dropR.D' hm wq_701 (by decide) hl.1 (Nat.le_of_ble_eq_true rfl) ⟨by omega, by omega⟩ dL_law_782 (fun r_782 hm => ?_)
        refine lv_iload hx hb dL_law_785 (lv_at hl 18 rfl) ?_
        refine lv_icmp_ge (tgt := 792) hx hb dL_law_787 (by decide) (fun c_787 => ?_) (fun c_787 => ?_)
        · have hm := hm.1 c_787
          obtain ⟨v19_792, ev19_792⟩ : ∃ y : Int32, y = v19 + 1 := ⟨_, rfl⟩
          have hm := hm v19_792 ev19_792
          refine lv_iinc (v := v19_792) (lv' := [(19, .int v19_792), (18, .int v18_746), (0, .ref scr), (2, .ref (sa)), (3, .ref (ca)), (4, .int v4), (5, .int v5), (6, .int v6), (7, .int v7), (8, .int v8), (9, .ref ae119), (10, .ref ae129), (11, .ref ae137), (12, .ref ae143), (13, .int v13), (14, .int v14), (15, .int v15), (16, .int v16), (17, .int v17)]) hx hb dL_law_792 hl (k := 18) rfl (by rw [ev19_792]; rfl) (by decide) rfl (fun ls hl => ?_)
          refine lv_goto (tgt := 687) hx hb dL_law_795 (by decide) ?_
          exact ih687 _ _ _ _ _ _ _ _ _ _ _ _ _ _ _ _ _ _ _ _ _ _ _ _ _ _ _ _ _ _ _ _ _ _ _ hm hT (lv_sub hl [2, 3, 4, 5, 6, 7, 8, 9, 10, 11, 12, 13, 14, 15, 16, 17, 18, 1, 0] rfl) ⟨by omega, by omega⟩
        · have hm := hm.2 c_787
          refine lv_iconst (v := 0) hx hb dL_law_790 (by decide) ?_
          exact hm.elim
