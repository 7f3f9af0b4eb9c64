set_option maxRecDepth 100000 in
set_option maxHeartbeats 16000000 in
theorem tl_745 {p : Program} {l : Launch} {e : Env} {s : State} {m : MethodId} {args : Array Value} {below : List Frame} {meth : Method} {c : Code} {Q : State → Prop} {A : Nat → Prop} {D : va_G} {rx : Nat → Nat} {Z : Nat → ClassId} {a b q : Nat → Nat} {ca tp rd sp : Nat} {P : M2} {sa : Nat} {o : Nat → Nat} {ro : Nat → Nat → Nat} {nn : Nat → Nat} {V S O : M2} {scr Ln : Nat} {xs : Nat → Int32} {K : Int32 → Prop} (hC : CallFix p m c cL_law 35 s args lw_g RL) (hN : NW s) (hfl : l.stackTraces = false) (hR : RX rx scr Ln xs A s s.heap) (hK : va_K D vwCl (tysG Z) s) (hLn : Ln < 2 ^ 31) (n60 : Nat) (n687 : Nat) (ih687 : ∀ (ap : Nat) (F : M2) (G : M2) (C : M2) (N : M2) (U : M2) (L : M2) (B : M2) (e143 : (Nat → Int32)) (e137 : (Nat → Int32)) (e129 : M2) (e119 : M2) (v4 : Int32) (v5 : Int32) (v6 : Int32) (v7 : Int32) (v8 : Int32) (v13 : Int32) (v14 : Int32) (v15 : Int32) (v16 : Int32) (v17 : Int32) (v18 : Int32) (v19 : Int32) (ae143 : Nat) (ae137 : Nat) (ae129 : Nat) (rae129 : Nat → Nat) (ae119 : Nat) (rae119 : Nat → Nat) (H : Heap) (locs : List Loc) (ls : Array Slot) (cc cs : Nat), wl_L_law_687 q P nn V S O xs Ln (wl_L_law_60 q P nn V S O xs Ln K n60) K n687 ap F G C N U L B e143 e137 e129 e119 v4 v5 v6 v7 v8 v13 v14 v15 v16 v17 v18 v19 → TS vwCl D ([(ae143, .inl (Z 4, v6.toInt.toNat, .inl e143)), (ae137, .inl (Z 0, v4.toInt.toNat, .inl e137)), (ae129, .inl (Z 3, v5.toInt.toNat, .inr (.inr (.inr (.inr (fun j => if j < v5.toInt.toNat then some (rae129 j) else none)))))), (ae119, .inl (Z 3, v6.toInt.toNat, .inr (.inr (.inr (.inr (fun j => if j < v6.toInt.toNat then some (rae119 j) else none))))))] ++ ((CA Z a b q ca tp rd sp P ap F G C) ++ ((SM Z sa o ro nn V S O N U L B) ++ (pool Z rae129 e129 7 (v5.toInt.toNat) ++ (pool Z rae119 e119 7 (v6.toInt.toNat) ++ []))))) A s.heap H locs → lv_has ls 35 [(0, .ref scr), (2, .ref (sa)), (3, .ref (ca)), (4, .int v4), (5, .int v5), (6, .int v6), (7, .int v7), (8, .int v8), (9, .ref ae119), (10, .ref ae129), (11, .ref ae137), (12, .ref ae143), (13, .int v13), (14, .int v14), (15, .int v15), (16, .int v16), (17, .int v17), (18, .int v18), (19, .int v19)] → cc + (n687 * 0 + 3 + n60 * 140 + 14) ≤ 600086 ∧ cs + (n687 * 0 + 100 + n60 * 1300 + 150) ≤ 7301442 → W p l e (rk 2048 600086 7301442) s m args below meth c H locs cc cs Q (F0 m 687 ls [])) : ∀ (ap : Nat) (F : M2) (G : M2) (C : M2) (N : M2) (U : M2) (L : M2) (B : M2) (e143 : (Nat → Int32)) (e137 : (Nat → Int32)) (e129 : M2) (e119 : M2) (v4 : Int32) (v5 : Int32) (v6 : Int32) (v7 : Int32) (v8 : Int32) (v13 : Int32) (v14 : Int32) (v15 : Int32) (v16 : Int32) (v17 : Int32) (v19 : Int32) (q0 : Int32) (q1 : Int32) (ae143 : Nat) (ae137 : Nat) (ae129 : Nat) (rae129 : Nat → Nat) (ae119 : Nat) (rae119 : Nat → Nat) (H : Heap) (locs : List Loc) (ls : Array Slot) (cc cs : Nat), wj_L_law_745 q P nn V S O xs Ln (wl_L_law_60 q P nn V S O xs Ln K n60) (wl_L_law_687 q P nn V S O xs Ln (wl_L_law_60 q P nn V S O xs Ln K n60) K n687) K ap F G C N U L B e143 e137 e129 e119 v4 v5 v6 v7 v8 v13 v14 v15 v16 v17 v19 q0 q1 → TS vwCl D ([(ae143, .inl (Z 4, v6.toInt.toNat, .inl e143)), (ae137, .inl (Z 0, v4.toInt.toNat, .inl e137)), (ae129, .inl (Z 3, v5.toInt.toNat, .inr (.inr (.inr (.inr (fun j => if j < v5.toInt.toNat then some (rae129 j) else none)))))), (ae119, .inl (Z 3, v6.toInt.toNat, .inr (.inr (.inr (.inr (fun j => if j < v6.toInt.toNat then some (rae119 j) else none))))))] ++ ((CA Z a b q ca tp rd sp P ap F G C) ++ ((SM Z sa o ro nn V S O N U L B) ++ (pool Z rae129 e129 7 (v5.toInt.toNat) ++ (pool Z rae119 e119 7 (v6.toInt.toNat) ++ []))))) A s.heap H locs → lv_has ls 35 [(0, .ref scr), (2, .ref (sa)), (3, .ref (ca)), (4, .int v4), (5, .int v5), (6, .int v6), (7, .int v7), (8, .int v8), (9, .ref ae119), (10, .ref ae129), (11, .ref ae137), (12, .ref ae143), (13, .int v13), (14, .int v14), (15, .int v15), (16, .int v16), (17, .int v17), (19, .int v19)] → cc + (0 + n60 * 140 + 14 + n687 * 0 + 3) ≤ 600086 ∧ cs + (0 + n60 * 1300 + 150 + n687 * 0 + 100) ≤ 7301442 → W p l e (rk 2048 600086 7301442) s m args below meth c H locs cc cs Q (F0 m 745 ls [.int q0, .int q1]) := by
  have hx := hC.1
  have hb := hC.2.1
  intro ap F G C N U L B e143 e137 e129 e119 v4 v5 v6 v7 v8 v13 v14 v15 v16 v17 v19 q0 q1 ae143 ae137 ae129 rae129 ae119 rae119 H locs ls cc cs hm hT hl hcb
  refine lv_iadd hx hb dL_law_745 ?_
  refine lv_topi (fun v18_746 ev18_746 => ?_)
  have hm := hm v18_746 ev18_746
  refine lv_istore (lv' := [(18, .int v18_746), (0, .ref scr), (2, .ref (sa)), (3, .ref (ca)), (4, .int v4), (5, .int v5), (6, .int v6), (7, .int v7), (8, .int v8), (9, .ref ae119), (10, .ref ae129), (11, .ref ae137), (12, .ref ae143), (13, .int v13), (14, .int v14), (15, .int v15), (16, .int v16), (17, .int v17), (19, .int v19)]) hx hb dL_law_746 hl (by decide) rfl (fun ls hl => ?_)
  refine lv_aload hx hb dL_law_748 (lv_at hl 11 rfl) ?_
  refine lv_iload hx hb dL_law_750 (lv_at hl 18 rfl) ?_
  refine w_iald (q0 := 1) hC hK hT.1 rfl hm.1 dL_law_752 ?_
  have hm := hm.2
  refine lv_if_lt (tgt := 790) hx hb dL_law_753 (by decide) (fun c_753 => ?_) (fun c_753 => ?_)
  · have hm := hm.1 c_753
    refine lv_iconst (v := 0) hx hb dL_law_790 (by decide) ?_
    exact hm.elim
  · have hm := hm.2 c_753
    refine lv_aload hx hb dL_law_756 (lv_at hl 11 rfl) ?_
    refine lv_iload hx hb dL_law_758 (lv_at hl 18 rfl) ?_
    refine w_iald (q0 := 1) hC hK hT.1 rfl hm.1 dL_law_760 ?_
    have hm := hm.2
    refine lv_bipush (v := 100) hx hb dL_law_761 (by decide) ?_
    refine lv_icmp_gt (tgt := 790) hx hb dL_law_763 (by decide) (fun c_763 => ?_) (fun c_763 => ?_)
    · have hm := hm.1 c_763
      refine lv_iconst (v := 0) hx hb dL_law_790 (by decide) ?_
      exact hm.elim
    · have hm := hm.2 c_763
      refine lv_aload hx hb dL_law_766 (lv_at hl 11 rfl) ?_
      refine lv_iload hx hb dL_law_768 (lv_at hl 18 rfl) ?_
      refine w_iald (q0 := 1) hC hK hT.1 rfl hm.1 dL_law_770 ?_
      have hm := hm.2
      refine lv_aload hx hb dL_law_771 (lv_at hl 11 rfl) ?_
      refine lv_aload_n hx hb dL_law_773 rfl (lv_at hl 3 rfl) ?_
      refine k_X5_worst hC hN hK hT.dropL.dropR.1 hT.dropL.dropR.D' hm wq_701 (by decide) hl.1 (Nat.le_of_ble_eq_true rfl) ⟨by omega, by omega⟩ dL_law_774 (fun r_774 hm => ?_)
      refine w_iald (q0 := 1) hC hK hT.1 rfl hm.1 dL_law_777 ?_
      have hm := hm.2
      refine lv_icmp_ge (tgt := 792) hx hb dL_law_778 (by decide) (fun c_778 => ?_) (fun c_778 => ?_)
      · have hm := hm.1 c_778
        obtain ⟨v19_792, ev19_792⟩ : ∃ y : Int32, y = v19 + 1 := ⟨_, rfl⟩
        have hm := hm v19_792 ev19_792
        refine lv_iinc (v := v19_792) (lv' := [(19, .int v19_792), (18, .int v18_746), (0, .ref scr), (2, .ref (sa)), (3, .ref (ca)), (4, .int v4), (5, .int v5), (6, .int v6), (7, .int v7), (8, .int v8), (9, .ref ae119), (10, .ref ae129), (11, .ref ae137), (12, .ref ae143), (13, .int v13), (14, .int v14), (15, .int v15), (16, .int v16), (17, .int v17)]) hx hb dL_law_792 hl (k := 18) rfl (by rw [ev19_792]; rfl) (by decide) rfl (fun ls hl => ?_)
        refine lv_goto (tgt := 687) hx hb dL_law_795 (by decide) ?_
        exact ih687 _ _ _ _ _ _ _ _ _ _ _ _ _ _ _ _ _ _ _ _ _ _ _ _ _ _ _ _ _ _ _ _ _ _ _ hm hT (lv_sub hl [2, 3, 4, 5, 6, 7, 8, 9, 10, 11, 12, 13, 14, 15, 16, 17, 18, 1, 0] rfl) ⟨by omega, by omega⟩
      · have hm := hm.2 c_778
        refine lv_aload_n hx hb dL_law_781 rfl (lv_at hl 3 rfl) ?_
        refine k_X5_worst hC hN hK hT.dropL.dropR.1 hT.dropL.dropR.D' hm wq_701 (by decide) hl.1 (Nat.le_of_ble_eq_true rfl) ⟨by omega, by omega⟩ dL_law_782 (fun r_782 hm => ?_)
        refine lv_iload hx hb dL_law_785 (lv_at hl 18 rfl) ?_
        refine lv_icmp_ge (tgt := 792) hx hb dL_law_787 (by decide) (fun c_787 => ?_) (fun c_787 => ?_)
        · have hm := hm.1 c_787
          obtain ⟨v19_792, ev19_792⟩ : ∃ y : Int32, y = v19 + 1 := ⟨_, rfl⟩
          have hm := hm v19_792 ev19_792
          refine lv_iinc (v := v19_792) (lv' := [(19, .int v19_792), (18, .int v18_746), (0, .ref scr), (2, .ref (sa)), (3, .ref (ca)), (4, .int v4), (5, .int v5), (6, .int v6), (7, .int v7), (8, .int v8), (9, .ref ae119), (10, .ref ae129), (11, .ref ae137), (12, .ref ae143), (13, .int v13), (14, .int v14), (15, .int v15), (16, .int v16), (17, .int v17)]) hx hb dL_law_792 hl (k := 18) rfl (by rw [ev19_792]; rfl) (by decide) rfl (fun ls hl => ?_)
          refine lv_goto (tgt := 687) hx hb dL_law_795 (by decide) ?_
          exact ih687 _ _ _ _ _ _ _ _ _ _ _ _ _ _ _ _ _ _ _ _ _ _ _ _ _ _ _ _ _ _ _ _ _ _ _ hm hT (lv_sub hl [2, 3, 4, 5, 6, 7, 8, 9, 10, 11, 12, 13, 14, 15, 16, 17, 18, 1, 0] rfl) ⟨by omega, by omega⟩
        · have hm := hm.2 c_787
          refine lv_iconst (v := 0) hx hb dL_law_790 (by decide) ?_
          exact hm.elim
set_option maxRecDepth 100000 in
set_option maxHeartbeats 16000000 in
theorem tl_687 {p : Program} {l : Launch} {e : Env} {s : State} {m : MethodId} {args : Array Value} {below : List Frame} {meth : Method} {c : Code} {Q : State → Prop} {A : Nat → Prop} {D : va_G} {rx : Nat → Nat} {Z : Nat → ClassId} {a b q : Nat → Nat} {ca tp rd sp : Nat} {P : M2} {sa : Nat} {o : Nat → Nat} {ro : Nat → Nat → Nat} {nn : Nat → Nat} {V S O : M2} {scr Ln : Nat} {xs : Nat → Int32} {K : Int32 → Prop} (hC : CallFix p m c cL_law 35 s args lw_g RL) (hN : NW s) (hfl : l.stackTraces = false) (hR : RX rx scr Ln xs A s s.heap) (hK : va_K D vwCl (tysG Z) s) (hLn : Ln < 2 ^ 31) (n60 : Nat) (L905 : ∀ (n905 : Nat), ∀ (ap : Nat) (F : M2) (G : M2) (C : M2) (N : M2) (U : M2) (L : M2) (B : M2) (e897 : (Nat → Int32)) (e143 : (Nat → Int32)) (e137 : (Nat → Int32)) (e129 : M2) (e119 : M2) (v4 : Int32) (v5 : Int32) (v6 : Int32) (v7 : Int32) (v8 : Int32) (v19 : Int32) (v20 : Int32) (v21 : Int64) (v24 : Int32) (ae897 : Nat) (ae143 : Nat) (ae137 : Nat) (ae129 : Nat) (rae129 : Nat → Nat) (ae119 : Nat) (rae119 : Nat → Nat) (H : Heap) (locs : List Loc) (ls : Array Slot) (cc cs : Nat), wl_L_law_905 q P nn V S O xs Ln (wl_L_law_60 q P nn V S O xs Ln K n60) K n905 ap F G C N U L B e897 e143 e137 e129 e119 v4 v5 v6 v7 v8 v19 v20 v21 v24 → TS vwCl D ([(ae897, .inl (Z 0, 13, .inl e897)), (ae143, .inl (Z 4, v6.toInt.toNat, .inl e143)), (ae137, .inl (Z 0, v4.toInt.toNat, .inl e137)), (ae129, .inl (Z 3, v5.toInt.toNat, .inr (.inr (.inr (.inr (fun j => if j < v5.toInt.toNat then some (rae129 j) else none)))))), (ae119, .inl (Z 3, v6.toInt.toNat, .inr (.inr (.inr (.inr (fun j => if j < v6.toInt.toNat then some (rae119 j) else none))))))] ++ ((CA Z a b q ca tp rd sp P ap F G C) ++ ((SM Z sa o ro nn V S O N U L B) ++ (pool Z rae129 e129 7 (v5.toInt.toNat) ++ (pool Z rae119 e119 7 (v6.toInt.toNat) ++ []))))) A s.heap H locs → lv_has ls 35 [(0, .ref scr), (2, .ref (sa)), (3, .ref (ca)), (4, .int v4), (5, .int v5), (6, .int v6), (7, .int v7), (8, .int v8), (9, .ref ae119), (10, .ref ae129), (11, .ref ae137), (12, .ref ae143), (19, .int v19), (20, .int v20), (21, .long v21), (23, .ref ae897), (24, .int v24)] → cc + (n905 * 0 + 2 + n60 * 140 + 14) ≤ 600086 ∧ cs + (n905 * 0 + 80 + n60 * 1300 + 150) ≤ 7301442 → W p l e (rk 2048 600086 7301442) s m args below meth c H locs cc cs Q (F0 m 905 ls [])) : ∀ (n687 : Nat), ∀ (ap : Nat) (F : M2) (G : M2) (C : M2) (N : M2) (U : M2) (L : M2) (B : M2) (e143 : (Nat → Int32)) (e137 : (Nat → Int32)) (e129 : M2) (e119 : M2) (v4 : Int32) (v5 : Int32) (v6 : Int32) (v7 : Int32) (v8 : Int32) (v13 : Int32) (v14 : Int32) (v15 : Int32) (v16 : Int32) (v17 : Int32) (v18 : Int32) (v19 : Int32) (ae143 : Nat) (ae137 : Nat) (ae129 : Nat) (rae129 : Nat → Nat) (ae119 : Nat) (rae119 : Nat → Nat) (H : Heap) (locs : List Loc) (ls : Array Slot) (cc cs : Nat), wl_L_law_687 q P nn V S O xs Ln (wl_L_law_60 q P nn V S O xs Ln K n60) K n687 ap F G C N U L B e143 e137 e129 e119 v4 v5 v6 v7 v8 v13 v14 v15 v16 v17 v18 v19 → TS vwCl D ([(ae143, .inl (Z 4, v6.toInt.toNat, .inl e143)), (ae137, .inl (Z 0, v4.toInt.toNat, .inl e137)), (ae129, .inl (Z 3, v5.toInt.toNat, .inr (.inr (.inr (.inr (fun j => if j < v5.toInt.toNat then some (rae129 j) else none)))))), (ae119, .inl (Z 3, v6.toInt.toNat, .inr (.inr (.inr (.inr (fun j => if j < v6.toInt.toNat then some (rae119 j) else none))))))] ++ ((CA Z a b q ca tp rd sp P ap F G C) ++ ((SM Z sa o ro nn V S O N U L B) ++ (pool Z rae129 e129 7 (v5.toInt.toNat) ++ (pool Z rae119 e119 7 (v6.toInt.toNat) ++ []))))) A s.heap H locs → lv_has ls 35 [(0, .ref scr), (2, .ref (sa)), (3, .ref (ca)), (4, .int v4), (5, .int v5), (6, .int v6), (7, .int v7), (8, .int v8), (9, .ref ae119), (10, .ref ae129), (11, .ref ae137), (12, .ref ae143), (13, .int v13), (14, .int v14), (15, .int v15), (16, .int v16), (17, .int v17), (18, .int v18), (19, .int v19)] → cc + (n687 * 0 + 3 + n60 * 140 + 14) ≤ 600086 ∧ cs + (n687 * 0 + 100 + n60 * 1300 + 150) ≤ 7301442 → W p l e (rk 2048 600086 7301442) s m args below meth c H locs cc cs Q (F0 m 687 ls []) := by
  have hx := hC.1
  have hb := hC.2.1
  intro n687
  induction n687 with
  | zero =>
    intro ap F G C N U L B e143 e137 e129 e119 v4 v5 v6 v7 v8 v13 v14 v15 v16 v17 v18 v19 ae143 ae137 ae129 rae129 ae119 rae119 H locs ls cc cs hm hT hl hcb
    exact False.elim hm
  | succ n687 ih687 =>
    have L745 : ∀ (ap : Nat) (F : M2) (G : M2) (C : M2) (N : M2) (U : M2) (L : M2) (B : M2) (e143 : (Nat → Int32)) (e137 : (Nat → Int32)) (e129 : M2) (e119 : M2) (v4 : Int32) (v5 : Int32) (v6 : Int32) (v7 : Int32) (v8 : Int32) (v13 : Int32) (v14 : Int32) (v15 : Int32) (v16 : Int32) (v17 : Int32) (v19 : Int32) (q0 : Int32) (q1 : Int32) (ae143 : Nat) (ae137 : Nat) (ae129 : Nat) (rae129 : Nat → Nat) (ae119 : Nat) (rae119 : Nat → Nat) (H : Heap) (locs : List Loc) (ls : Array Slot) (cc cs : Nat), wj_L_law_745 q P nn V S O xs Ln (wl_L_law_60 q P nn V S O xs Ln K n60) (wl_L_law_687 q P nn V S O xs Ln (wl_L_law_60 q P nn V S O xs Ln K n60) K n687) K ap F G C N U L B e143 e137 e129 e119 v4 v5 v6 v7 v8 v13 v14 v15 v16 v17 v19 q0 q1 → TS vwCl D ([(ae143, .inl (Z 4, v6.toInt.toNat, .inl e143)), (ae137, .inl (Z 0, v4.toInt.toNat, .inl e137)), (ae129, .inl (Z 3, v5.toInt.toNat, .inr (.inr (.inr (.inr (fun j => if j < v5.toInt.toNat then some (rae129 j) else none)))))), (ae119, .inl (Z 3, v6.toInt.toNat, .inr (.inr (.inr (.inr (fun j => if j < v6.toInt.toNat then some (rae119 j) else none))))))] ++ ((CA Z a b q ca tp rd sp P ap F G C) ++ ((SM Z sa o ro nn V S O N U L B) ++ (pool Z rae129 e129 7 (v5.toInt.toNat) ++ (pool Z rae119 e119 7 (v6.toInt.toNat) ++ []))))) A s.heap H locs → lv_has ls 35 [(0, .ref scr), (2, .ref (sa)), (3, .ref (ca)), (4, .int v4), (5, .int v5), (6, .int v6), (7, .int v7), (8, .int v8), (9, .ref ae119), (10, .ref ae129), (11, .ref ae137), (12, .ref ae143), (13, .int v13), (14, .int v14), (15, .int v15), (16, .int v16), (17, .int v17), (19, .int v19)] → cc + (0 + n60 * 140 + 14 + n687 * 0 + 3) ≤ 600086 ∧ cs + (0 + n60 * 1300 + 150 + n687 * 0 + 100) ≤ 7301442 → W p l e (rk 2048 600086 7301442) s m args below meth c H locs cc cs Q (F0 m 745 ls [.int q0, .int q1]) := tl_745 hC hN hfl hR hK hLn n60 n687 ih687
    intro ap F G C N U L B e143 e137 e129 e119 v4 v5 v6 v7 v8 v13 v14 v15 v16 v17 v18 v19 ae143 ae137 ae129 rae129 ae119 rae119 H locs ls cc cs hm hT hl hcb
    refine lv_iload hx hb dL_law_687 (lv_at hl 18 rfl) ?_
    refine lv_iload hx hb dL_law_689 (lv_at hl 3 rfl) ?_
    refine lv_icmp_ge (tgt := 798) hx hb dL_law_691 (by decide) (fun c_691 => ?_) (fun c_691 => ?_)
    · have hm := hm.1 c_691
      refine lv_iload hx hb dL_law_798 (lv_at hl 13 rfl) ?_
      refine lv_iconst (v := 3) hx hb dL_law_800 (by decide) ?_
      refine lv_icmp_eq (tgt := 872) hx hb dL_law_801 (by decide) (fun c_801 => ?_) (fun c_801 => ?_)
      · have hm := hm.1 c_801
        refine lv_iconst (v := 0) hx hb dL_law_872 (by decide) ?_
        exact hm.elim
      · have hm := hm.2 c_801
        refine lv_iload hx hb dL_law_804 (lv_at hl 17 rfl) ?_
        refine lv_iload hx hb dL_law_806 (lv_at hl 12 rfl) ?_
        refine lv_icmp_ne (tgt := 872) hx hb dL_law_808 (by decide) (fun c_808 => ?_) (fun c_808 => ?_)
        · have hm := hm.1 c_808
          refine lv_iconst (v := 0) hx hb dL_law_872 (by decide) ?_
          exact hm.elim
        · have hm := hm.2 c_808
          refine lv_aload_n hx hb dL_law_811 rfl (lv_at hl 2 rfl) ?_
          refine lv_bipush (v := 9) hx hb dL_law_812 (by decide) ?_
          refine k_X5_count hC hN hK hT.dropL.dropR.1 hT.dropL.dropR.D' hm wq_507 (by decide) hl.1 (Nat.le_of_ble_eq_true rfl) ⟨by omega, by omega⟩ dL_law_814 (fun r_814 hm => ?_)
          refine lv_iload hx hb dL_law_817 (lv_at hl 12 rfl) ?_
          refine lv_icmp_ne (tgt := 872) hx hb dL_law_819 (by decide) (fun c_819 => ?_) (fun c_819 => ?_)
          · have hm := hm.1 c_819
            refine lv_iconst (v := 0) hx hb dL_law_872 (by decide) ?_
            exact hm.elim
          · have hm := hm.2 c_819
            refine lv_aload_n hx hb dL_law_822 rfl (lv_at hl 2 rfl) ?_
            refine lv_bipush (v := 8) hx hb dL_law_823 (by decide) ?_
            refine k_X5_count hC hN hK hT.dropL.dropR.1 hT.dropL.dropR.D' hm wq_507 (by decide) hl.1 (Nat.le_of_ble_eq_true rfl) ⟨by omega, by omega⟩ dL_law_825 (fun r_825 hm => ?_)
            refine lv_iload hx hb dL_law_828 (lv_at hl 12 rfl) ?_
            refine lv_iadd hx hb dL_law_830 ?_
            refine lv_aload_n hx hb dL_law_831 rfl (lv_at hl 2 rfl) ?_
            refine lv_bipush (v := 10) hx hb dL_law_832 (by decide) ?_
            refine k_X5_count hC hN hK hT.dropL.dropR.1 hT.dropL.dropR.D' hm wq_507 (by decide) hl.1 (Nat.le_of_ble_eq_true rfl) ⟨by omega, by omega⟩ dL_law_834 (fun r_834 hm => ?_)
            refine lv_iadd hx hb dL_law_837 ?_
            refine lv_iload hx hb dL_law_838 (lv_at hl 5 rfl) ?_
            refine lv_icmp_ne (tgt := 872) hx hb dL_law_840 (by decide) (fun c_840 => ?_) (fun c_840 => ?_)
            · have hm := hm.1 c_840
              refine lv_iconst (v := 0) hx hb dL_law_872 (by decide) ?_
              exact hm.elim
            · have hm := hm.2 c_840
              refine lv_aload_n hx hb dL_law_843 rfl (lv_at hl 2 rfl) ?_
              refine lv_bipush (v := 11) hx hb dL_law_844 (by decide) ?_
              refine k_X5_count hC hN hK hT.dropL.dropR.1 hT.dropL.dropR.D' hm wq_507 (by decide) hl.1 (Nat.le_of_ble_eq_true rfl) ⟨by omega, by omega⟩ dL_law_846 (fun r_846 hm => ?_)
              refine lv_iload hx hb dL_law_849 (lv_at hl 15 rfl) ?_
              refine lv_icmp_ne (tgt := 872) hx hb dL_law_851 (by decide) (fun c_851 => ?_) (fun c_851 => ?_)
              · have hm := hm.1 c_851
                refine lv_iconst (v := 0) hx hb dL_law_872 (by decide) ?_
                exact hm.elim
              · have hm := hm.2 c_851
                refine lv_aload_n hx hb dL_law_854 rfl (lv_at hl 2 rfl) ?_
                refine lv_bipush (v := 12) hx hb dL_law_855 (by decide) ?_
                refine k_X5_count hC hN hK hT.dropL.dropR.1 hT.dropL.dropR.D' hm wq_507 (by decide) hl.1 (Nat.le_of_ble_eq_true rfl) ⟨by omega, by omega⟩ dL_law_857 (fun r_857 hm => ?_)
                refine lv_iload hx hb dL_law_860 (lv_at hl 14 rfl) ?_
                refine lv_icmp_ne (tgt := 872) hx hb dL_law_862 (by decide) (fun c_862 => ?_) (fun c_862 => ?_)
                · have hm := hm.1 c_862
                  refine lv_iconst (v := 0) hx hb dL_law_872 (by decide) ?_
                  exact hm.elim
                · have hm := hm.2 c_862
                  refine lv_iload hx hb dL_law_865 (lv_at hl 16 rfl) ?_
                  refine lv_iload hx hb dL_law_867 (lv_at hl 14 rfl) ?_
                  refine lv_icmp_eq (tgt := 874) hx hb dL_law_869 (by decide) (fun c_869 => ?_) (fun c_869 => ?_)
                  · have hm := hm.1 c_869
                    refine lv_aload_n hx hb dL_law_874 rfl (lv_at hl 2 rfl) ?_
                    refine lv_iconst (v := 1) hx hb dL_law_875 (by decide) ?_
                    refine k_X5_count hC hN hK hT.dropL.dropR.1 hT.dropL.dropR.D' hm wq_507 (by decide) hl.1 (Nat.le_of_ble_eq_true rfl) ⟨by omega, by omega⟩ dL_law_876 (fun r_876 hm => ?_)
                    refine lv_istore (lv' := [(19, .int r_876), (0, .ref scr), (2, .ref (sa)), (3, .ref (ca)), (4, .int v4), (5, .int v5), (6, .int v6), (7, .int v7), (8, .int v8), (9, .ref ae119), (10, .ref ae129), (11, .ref ae137), (12, .ref ae143), (13, .int v13), (14, .int v14), (15, .int v15), (16, .int v16), (17, .int v17), (18, .int v18)]) hx hb dL_law_879 hl (by decide) rfl (fun ls hl => ?_)
                    refine lv_aload_n hx hb dL_law_881 rfl (lv_at hl 3 rfl) ?_
                    refine lv_bipush (v := 10) hx hb dL_law_882 (by decide) ?_
                    refine k_X5_count hC hN hK hT.dropL.dropR.1 hT.dropL.dropR.D' hm wq_507 (by decide) hl.1 (Nat.le_of_ble_eq_true rfl) ⟨by omega, by omega⟩ dL_law_884 (fun r_884 hm => ?_)
                    refine lv_istore (lv' := [(20, .int r_884), (19, .int r_876), (0, .ref scr), (2, .ref (sa)), (3, .ref (ca)), (4, .int v4), (5, .int v5), (6, .int v6), (7, .int v7), (8, .int v8), (9, .ref ae119), (10, .ref ae129), (11, .ref ae137), (12, .ref ae143), (13, .int v13), (14, .int v14), (15, .int v15), (16, .int v16), (17, .int v17), (18, .int v18)]) hx hb dL_law_887 hl (by decide) rfl (fun ls hl => ?_)
                    refine lv_aload_n hx hb dL_law_889 rfl (lv_at hl 4 rfl) ?_
                    refine k_X5_digest hC hN hK hT.dropL.dropR.1 hT.dropL.dropR.D' hm wq_816 (by decide) hl.1 (Nat.le_of_ble_eq_true rfl) ⟨by omega, by omega⟩ dL_law_890 (fun r_890 hm => ?_)
                    refine lv_lstore (lv' := [(21, .long r_890), (20, .int r_884), (19, .int r_876), (0, .ref scr), (2, .ref (sa)), (3, .ref (ca)), (4, .int v4), (5, .int v5), (6, .int v6), (7, .int v7), (8, .int v8), (9, .ref ae119), (10, .ref ae129), (11, .ref ae137), (12, .ref ae143), (13, .int v13), (14, .int v14), (15, .int v15), (16, .int v16), (17, .int v17), (18, .int v18)]) hx hb dL_law_893 hl (by decide) rfl (fun ls hl => ?_)
                    refine lv_bipush (v := 13) hx hb dL_law_895 (by decide) ?_
                    refine w_newI (N := 13) hC hK hT wq_240 (by decide) (by decide) (by decide) (by show _ ≤ 600086; omega) (by show _ ≤ 7301442; omega) dL_law_897 (fun ae897 H hT => ?_)
                    have hT : TS vwCl D ([(ae897, .inl (Z 0, 13, .inl ((fun _ => 0)))), (ae143, .inl (Z 4, v6.toInt.toNat, .inl e143)), (ae137, .inl (Z 0, v4.toInt.toNat, .inl e137)), (ae129, .inl (Z 3, v5.toInt.toNat, .inr (.inr (.inr (.inr (fun j => if j < v5.toInt.toNat then some (rae129 j) else none)))))), (ae119, .inl (Z 3, v6.toInt.toNat, .inr (.inr (.inr (.inr (fun j => if j < v6.toInt.toNat then some (rae119 j) else none))))))] ++ ((CA Z a b q ca tp rd sp P ap F G C) ++ ((SM Z sa o ro nn V S O N U L B) ++ (pool Z rae129 e129 7 (v5.toInt.toNat) ++ (pool Z rae119 e119 7 (v6.toInt.toNat) ++ []))))) A s.heap H _ := hT.front
                    refine lv_astore (lv' := [(23, .ref ae897), (21, .long r_890), (20, .int r_884), (19, .int r_876), (0, .ref scr), (2, .ref (sa)), (3, .ref (ca)), (4, .int v4), (5, .int v5), (6, .int v6), (7, .int v7), (8, .int v8), (9, .ref ae119), (10, .ref ae129), (11, .ref ae137), (12, .ref ae143), (13, .int v13), (14, .int v14), (15, .int v15), (16, .int v16), (17, .int v17), (18, .int v18)]) hx hb dL_law_899 hl (by decide) rfl (fun ls hl => ?_)
                    refine lv_bipush (v := 8) hx hb dL_law_901 (by decide) ?_
                    refine lv_istore (lv' := [(24, .int 8), (23, .ref ae897), (21, .long r_890), (20, .int r_884), (19, .int r_876), (0, .ref scr), (2, .ref (sa)), (3, .ref (ca)), (4, .int v4), (5, .int v5), (6, .int v6), (7, .int v7), (8, .int v8), (9, .ref ae119), (10, .ref ae129), (11, .ref ae137), (12, .ref ae143), (13, .int v13), (14, .int v14), (15, .int v15), (16, .int v16), (17, .int v17), (18, .int v18)]) hx hb dL_law_903 hl (by decide) rfl (fun ls hl => ?_)
                    exact L905 _ _ _ _ _ _ _ _ _ _ _ _ _ _ _ _ _ _ _ _ _ _ _ _ _ _ _ _ _ _ _ _ _ _ _ hm hT (lv_sub hl [5, 6, 7, 8, 9, 10, 11, 12, 13, 14, 15, 16, 4, 3, 2, 1, 0] rfl) ⟨by omega, by omega⟩
                  · have hm := hm.2 c_869
                    refine lv_iconst (v := 0) hx hb dL_law_872 (by decide) ?_
                    exact hm.elim
    · have hm := hm.2 c_691
      refine lv_aload hx hb dL_law_694 (lv_at hl 10 rfl) ?_
      refine lv_iload hx hb dL_law_696 (lv_at hl 18 rfl) ?_
      refine lv_aload_n hx hb dL_law_698 rfl (lv_at hl 2 rfl) ?_
      refine lv_iload hx hb dL_law_699 (lv_at hl 18 rfl) ?_
      refine lv_iconst (v := 1) hx hb dL_law_701 (by decide) ?_
      refine k_X5_place hC hN hK hT.dropL.dropR.1 hT.dropL.dropR.D' hm wq_597 (by decide) hl.1 (Nat.le_of_ble_eq_true rfl) ⟨by omega, by omega⟩ dL_law_702 (fun r_702 hm => ?_)
      have hj705 := hm.1
      obtain ⟨e137_705, ee137_705⟩ : ∃ y : Nat → Int32, y = upd e137 v19.toInt.toNat r_702 := ⟨_, rfl⟩
      have hm := hm.2 e137_705 ee137_705
      refine w_iast (q0 := 1) (ws' := ([(ae143, .inl (Z 4, v6.toInt.toNat, .inl e143)), (ae137, .inl (Z 0, v4.toInt.toNat, .inl e137_705)), (ae129, .inl (Z 3, v5.toInt.toNat, .inr (.inr (.inr (.inr (fun j => if j < v5.toInt.toNat then some (rae129 j) else none)))))), (ae119, .inl (Z 3, v6.toInt.toNat, .inr (.inr (.inr (.inr (fun j => if j < v6.toInt.toNat then some (rae119 j) else none))))))] ++ ((CA Z a b q ca tp rd sp P ap F G C) ++ ((SM Z sa o ro nn V S O N U L B) ++ (pool Z rae129 e129 7 (v5.toInt.toNat) ++ (pool Z rae119 e119 7 (v6.toInt.toNat) ++ [])))))) hC hK hT rfl hj705 (by rw [ee137_705]; rfl) dL_law_705 (fun H locs hT => ?_)
      refine lv_iload hx hb dL_law_706 (lv_at hl 15 rfl) ?_
      refine lv_aload hx hb dL_law_708 (lv_at hl 10 rfl) ?_
      refine lv_iload hx hb dL_law_710 (lv_at hl 18 rfl) ?_
      refine w_iald (q0 := 1) hC hK hT.1 rfl hm.1 dL_law_712 ?_
      have hm := hm.2
      refine lv_iadd hx hb dL_law_713 ?_
      refine lv_topi (fun v16_714 ev16_714 => ?_)
      have hm := hm v16_714 ev16_714
      refine lv_istore (lv' := [(16, .int v16_714), (0, .ref scr), (2, .ref (sa)), (3, .ref (ca)), (4, .int v4), (5, .int v5), (6, .int v6), (7, .int v7), (8, .int v8), (9, .ref ae119), (10, .ref ae129), (11, .ref ae137), (12, .ref ae143), (13, .int v13), (14, .int v14), (15, .int v15), (17, .int v17), (18, .int v18), (19, .int v19)]) hx hb dL_law_714 hl (by decide) rfl (fun ls hl => ?_)
      refine lv_iload hx hb dL_law_716 (lv_at hl 16 rfl) ?_
      refine lv_aload_n hx hb dL_law_718 rfl (lv_at hl 3 rfl) ?_
      refine lv_iload hx hb dL_law_719 (lv_at hl 18 rfl) ?_
      refine lv_iconst (v := 2) hx hb dL_law_721 (by decide) ?_
      refine k_X5_place hC hN hK hT.dropL.dropR.1 hT.dropL.dropR.D' hm wq_597 (by decide) hl.1 (Nat.le_of_ble_eq_true rfl) ⟨by omega, by omega⟩ dL_law_722 (fun r_722 hm => ?_)
      refine lv_iadd hx hb dL_law_725 ?_
      refine lv_topi (fun v17_726 ev17_726 => ?_)
      have hm := hm v17_726 ev17_726
      refine lv_istore (lv' := [(17, .int v17_726), (16, .int v16_714), (0, .ref scr), (2, .ref (sa)), (3, .ref (ca)), (4, .int v4), (5, .int v5), (6, .int v6), (7, .int v7), (8, .int v8), (9, .ref ae119), (10, .ref ae129), (11, .ref ae137), (12, .ref ae143), (13, .int v13), (14, .int v14), (15, .int v15), (18, .int v18), (19, .int v19)]) hx hb dL_law_726 hl (by decide) rfl (fun ls hl => ?_)
      refine lv_iload hx hb dL_law_728 (lv_at hl 17 rfl) ?_
      refine lv_aload_n hx hb dL_law_730 rfl (lv_at hl 4 rfl) ?_
      refine lv_iload hx hb dL_law_731 (lv_at hl 18 rfl) ?_
      refine lv_iconst (v := 3) hx hb dL_law_733 (by decide) ?_
      refine k_X5_place hC hN hK hT.dropL.dropR.1 hT.dropL.dropR.D' hm wq_597 (by decide) hl.1 (Nat.le_of_ble_eq_true rfl) ⟨by omega, by omega⟩ dL_law_734 (fun r_734 hm => ?_)
      refine lv_if_ge (tgt := 744) hx hb dL_law_737 (by decide) (fun c_737 => ?_) (fun c_737 => ?_)
      · have hm := hm.1 c_737
        refine lv_iconst (v := 1) hx hb dL_law_744 (by decide) ?_
        exact L745 _ _ _ _ _ _ _ _ _ _ _ _ _ _ _ _ _ _ _ _ _ _ _ _ _ _ _ _ _ _ _ _ _ _ _ _ hm hT (lv_sub hl [2, 3, 4, 5, 6, 7, 8, 9, 10, 11, 12, 13, 14, 15, 16, 1, 0, 18] rfl) ⟨by omega, by omega⟩
      · have hm := hm.2 c_737
        refine lv_iconst (v := 0) hx hb dL_law_740 (by decide) ?_
        refine lv_goto (tgt := 745) hx hb dL_law_741 (by decide) ?_
        exact L745 _ _ _ _ _ _ _ _ _ _ _ _ _ _ _ _ _ _ _ _ _ _ _ _ _ _ _ _ _ _ _ _ _ _ _ _ hm hT (lv_sub hl [2, 3, 4, 5, 6, 7, 8, 9, 10, 11, 12, 13, 14, 15, 16, 1, 0, 18] rfl) ⟨by omega, by omega⟩
set_option maxRecDepth 100000 in
set_option maxHeartbeats 16000000 in
theorem tl_634 {p : Program} {l : Launch} {e : Env} {s : State} {m : MethodId} {args : Array Value} {below : List Frame} {meth : Method} {c : Code} {Q : State → Prop} {A : Nat → Prop} {D : va_G} {rx : Nat → Nat} {Z : Nat → ClassId} {a b q : Nat → Nat} {ca tp rd sp : Nat} {P : M2} {sa : Nat} {o : Nat → Nat} {ro : Nat → Nat → Nat} {nn : Nat → Nat} {V S O : M2} {scr Ln : Nat} {xs : Nat → Int32} {K : Int32 → Prop} (hC : CallFix p m c cL_law 35 s args lw_g RL) (hN : NW s) (hfl : l.stackTraces = false) (hR : RX rx scr Ln xs A s s.heap) (hK : va_K D vwCl (tysG Z) s) (hLn : Ln < 2 ^ 31) (n60 : Nat) (n454 : Nat) (ih454 : ∀ (ap : Nat) (F : M2) (G : M2) (C : M2) (N : M2) (U : M2) (L : M2) (B : M2) (e143 : (Nat → Int32)) (e137 : (Nat → Int32)) (e129 : M2) (e119 : M2) (v4 : Int32) (v5 : Int32) (v6 : Int32) (v7 : Int32) (v8 : Int32) (v13 : Int32) (v14 : Int32) (v15 : Int32) (v16 : Int32) (ae143 : Nat) (ae137 : Nat) (ae129 : Nat) (rae129 : Nat → Nat) (ae119 : Nat) (rae119 : Nat → Nat) (H : Heap) (locs : List Loc) (ls : Array Slot) (cc cs : Nat), wl_L_law_454 q P nn V S O xs Ln (wl_L_law_60 q P nn V S O xs Ln K n60) K n454 ap F G C N U L B e143 e137 e129 e119 v4 v5 v6 v7 v8 v13 v14 v15 v16 → TS vwCl D ([(ae143, .inl (Z 4, v6.toInt.toNat, .inl e143)), (ae137, .inl (Z 0, v4.toInt.toNat, .inl e137)), (ae129, .inl (Z 3, v5.toInt.toNat, .inr (.inr (.inr (.inr (fun j => if j < v5.toInt.toNat then some (rae129 j) else none)))))), (ae119, .inl (Z 3, v6.toInt.toNat, .inr (.inr (.inr (.inr (fun j => if j < v6.toInt.toNat then some (rae119 j) else none))))))] ++ ((CA Z a b q ca tp rd sp P ap F G C) ++ ((SM Z sa o ro nn V S O N U L B) ++ (pool Z rae129 e129 7 (v5.toInt.toNat) ++ (pool Z rae119 e119 7 (v6.toInt.toNat) ++ []))))) A s.heap H locs → lv_has ls 35 [(0, .ref scr), (2, .ref (sa)), (3, .ref (ca)), (4, .int v4), (5, .int v5), (6, .int v6), (7, .int v7), (8, .int v8), (9, .ref ae119), (10, .ref ae129), (11, .ref ae137), (12, .ref ae143), (13, .int v13), (14, .int v14), (15, .int v15), (16, .int v16)] → cc + (n454 * 0 + 3 + n60 * 140 + 14) ≤ 600086 ∧ cs + (n454 * 0 + 100 + n60 * 1300 + 150) ≤ 7301442 → W p l e (rk 2048 600086 7301442) s m args below meth c H locs cc cs Q (F0 m 454 ls [])) : ∀ (ap : Nat) (F : M2) (G : M2) (C : M2) (N : M2) (U : M2) (L : M2) (B : M2) (e143 : (Nat → Int32)) (e137 : (Nat → Int32)) (e129 : M2) (e119 : M2) (v4 : Int32) (v5 : Int32) (v6 : Int32) (v7 : Int32) (v8 : Int32) (v13 : Int32) (v14 : Int32) (v15 : Int32) (v16 : Int32) (v17 : Int32) (ae143 : Nat) (ae137 : Nat) (ae129 : Nat) (rae129 : Nat → Nat) (ae119 : Nat) (rae119 : Nat → Nat) (H : Heap) (locs : List Loc) (ls : Array Slot) (cc cs : Nat), wj_L_law_634 q P nn V S O xs Ln (wl_L_law_60 q P nn V S O xs Ln K n60) (wl_L_law_454 q P nn V S O xs Ln (wl_L_law_60 q P nn V S O xs Ln K n60) K n454) K ap F G C N U L B e143 e137 e129 e119 v4 v5 v6 v7 v8 v13 v14 v15 v16 v17 → TS vwCl D ([(ae143, .inl (Z 4, v6.toInt.toNat, .inl e143)), (ae137, .inl (Z 0, v4.toInt.toNat, .inl e137)), (ae129, .inl (Z 3, v5.toInt.toNat, .inr (.inr (.inr (.inr (fun j => if j < v5.toInt.toNat then some (rae129 j) else none)))))), (ae119, .inl (Z 3, v6.toInt.toNat, .inr (.inr (.inr (.inr (fun j => if j < v6.toInt.toNat then some (rae119 j) else none))))))] ++ ((CA Z a b q ca tp rd sp P ap F G C) ++ ((SM Z sa o ro nn V S O N U L B) ++ (pool Z rae129 e129 7 (v5.toInt.toNat) ++ (pool Z rae119 e119 7 (v6.toInt.toNat) ++ []))))) A s.heap H locs → lv_has ls 35 [(0, .ref scr), (2, .ref (sa)), (3, .ref (ca)), (4, .int v4), (5, .int v5), (6, .int v6), (7, .int v7), (8, .int v8), (9, .ref ae119), (10, .ref ae129), (11, .ref ae137), (12, .ref ae143), (13, .int v13), (14, .int v14), (15, .int v15), (16, .int v16), (17, .ref (rae129 v17.toInt.toNat))] → cc + (0 + n60 * 140 + 14 + n454 * 0 + 3) ≤ 600086 ∧ cs + (0 + n60 * 1300 + 150 + n454 * 0 + 100) ≤ 7301442 → W p l e (rk 2048 600086 7301442) s m args below meth c H locs cc cs Q (F0 m 634 ls []) := by
  have hx := hC.1
  have hb := hC.2.1
  intro ap F G C N U L B e143 e137 e129 e119 v4 v5 v6 v7 v8 v13 v14 v15 v16 v17 ae143 ae137 ae129 rae129 ae119 rae119 H locs ls cc cs hm hT hl hcb
  refine lv_aload hx hb dL_law_634 (lv_at hl 16 rfl) ?_
  refine lv_bipush (v := 6) hx hb dL_law_636 (by decide) ?_
  refine wr_ld (jn := 6) (f := (fun X => [(ae143, .inl (Z 4, v6.toInt.toNat, .inl e143)), (ae137, .inl (Z 0, v4.toInt.toNat, .inl e137)), (ae129, .inl (Z 3, v5.toInt.toNat, .inr (.inr (.inr (.inr (fun j => if j < v5.toInt.toNat then some (rae129 j) else none)))))), (ae119, .inl (Z 3, v6.toInt.toNat, .inr (.inr (.inr (.inr (fun j => if j < v6.toInt.toNat then some (rae119 j) else none))))))] ++ ((CA Z a b q ca tp rd sp P ap F G C) ++ ((SM Z sa o ro nn V S O N U L B) ++ (pool Z rae129 X 7 (v5.toInt.toNat) ++ (pool Z rae119 e119 7 (v6.toInt.toNat) ++ [])))))) (sm_pre (sm_pre (sm_pre pool_hf _) _) _) hC hK hT.1 hm.1 (by decide) rfl dL_law_638 ?_
  have hm := hm.2
  refine lv_if_lt (tgt := 669) hx hb dL_law_639 (by decide) (fun c_639 => ?_) (fun c_639 => ?_)
  · have hm := hm.1 c_639
    obtain ⟨v16_669, ev16_669⟩ : ∃ y : Int32, y = v16 + 1 := ⟨_, rfl⟩
    have hm := hm v16_669 ev16_669
    refine lv_iinc (v := v16_669) (lv' := [(16, .int v16_669), (0, .ref scr), (2, .ref (sa)), (3, .ref (ca)), (4, .int v4), (5, .int v5), (6, .int v6), (7, .int v7), (8, .int v8), (9, .ref ae119), (10, .ref ae129), (11, .ref ae137), (12, .ref ae143), (13, .int v13), (14, .int v14), (15, .int v15), (17, .ref (rae129 v17.toInt.toNat))]) hx hb dL_law_669 hl (k := 15) rfl (by rw [ev16_669]; rfl) (by decide) rfl (fun ls hl => ?_)
    refine lv_goto (tgt := 454) hx hb dL_law_672 (by decide) ?_
    exact ih454 _ _ _ _ _ _ _ _ _ _ _ _ _ _ _ _ _ _ _ _ _ _ _ _ _ _ _ _ _ _ _ _ hm hT (lv_sub hl [1, 2, 3, 4, 5, 6, 7, 8, 9, 10, 11, 12, 13, 14, 15, 0] rfl) ⟨by omega, by omega⟩
  · have hm := hm.2 c_639
    refine lv_aload_n hx hb dL_law_642 rfl (lv_at hl 2 rfl) ?_
    refine lv_aload_n hx hb dL_law_643 rfl (lv_at hl 2 rfl) ?_
    refine lv_aload hx hb dL_law_644 (lv_at hl 16 rfl) ?_
    refine lv_bipush (v := 6) hx hb dL_law_646 (by decide) ?_
    refine wr_ld (jn := 6) (f := (fun X => [(ae143, .inl (Z 4, v6.toInt.toNat, .inl e143)), (ae137, .inl (Z 0, v4.toInt.toNat, .inl e137)), (ae129, .inl (Z 3, v5.toInt.toNat, .inr (.inr (.inr (.inr (fun j => if j < v5.toInt.toNat then some (rae129 j) else none)))))), (ae119, .inl (Z 3, v6.toInt.toNat, .inr (.inr (.inr (.inr (fun j => if j < v6.toInt.toNat then some (rae119 j) else none))))))] ++ ((CA Z a b q ca tp rd sp P ap F G C) ++ ((SM Z sa o ro nn V S O N U L B) ++ (pool Z rae129 X 7 (v5.toInt.toNat) ++ (pool Z rae119 e119 7 (v6.toInt.toNat) ++ [])))))) (sm_pre (sm_pre (sm_pre pool_hf _) _) _) hC hK hT.1 hm.1 (by decide) rfl dL_law_648 ?_
    have hm := hm.2
    refine lv_iconst (v := 0) hx hb dL_law_649 (by decide) ?_
    refine k_X5_place hC hN hK hT.dropL.dropR.1 hT.dropL.dropR.D' hm wq_597 (by decide) hl.1 (Nat.le_of_ble_eq_true rfl) ⟨by omega, by omega⟩ dL_law_650 (fun r_650 hm => ?_)
    refine lv_iconst (v := 1) hx hb dL_law_653 (by decide) ?_
    refine k_X5_bore hC hN hK hT.dropL.dropR.1 hT.dropL.dropR.D' hm wq_615 (by decide) hl.1 (Nat.le_of_ble_eq_true rfl) ⟨by omega, by omega⟩ dL_law_654 (fun r_654 hm => ?_)
    refine lv_aload hx hb dL_law_657 (lv_at hl 16 rfl) ?_
    refine lv_iconst (v := 0) hx hb dL_law_659 (by decide) ?_
    refine wr_ld (jn := 0) (f := (fun X => [(ae143, .inl (Z 4, v6.toInt.toNat, .inl e143)), (ae137, .inl (Z 0, v4.toInt.toNat, .inl e137)), (ae129, .inl (Z 3, v5.toInt.toNat, .inr (.inr (.inr (.inr (fun j => if j < v5.toInt.toNat then some (rae129 j) else none)))))), (ae119, .inl (Z 3, v6.toInt.toNat, .inr (.inr (.inr (.inr (fun j => if j < v6.toInt.toNat then some (rae119 j) else none))))))] ++ ((CA Z a b q ca tp rd sp P ap F G C) ++ ((SM Z sa o ro nn V S O N U L B) ++ (pool Z rae129 X 7 (v5.toInt.toNat) ++ (pool Z rae119 e119 7 (v6.toInt.toNat) ++ [])))))) (sm_pre (sm_pre (sm_pre pool_hf _) _) _) hC hK hT.1 hm.1 (by decide) rfl dL_law_660 ?_
    have hm := hm.2
    refine lv_iadd hx hb dL_law_661 ?_
    refine lv_bipush (v := 12) hx hb dL_law_662 (by decide) ?_
    refine lv_icmp_gt (tgt := 669) hx hb dL_law_664 (by decide) (fun c_664 => ?_) (fun c_664 => ?_)
    · have hm := hm.1 c_664
      obtain ⟨v16_669, ev16_669⟩ : ∃ y : Int32, y = v16 + 1 := ⟨_, rfl⟩
      have hm := hm v16_669 ev16_669
      refine lv_iinc (v := v16_669) (lv' := [(16, .int v16_669), (0, .ref scr), (2, .ref (sa)), (3, .ref (ca)), (4, .int v4), (5, .int v5), (6, .int v6), (7, .int v7), (8, .int v8), (9, .ref ae119), (10, .ref ae129), (11, .ref ae137), (12, .ref ae143), (13, .int v13), (14, .int v14), (15, .int v15), (17, .ref (rae129 v17.toInt.toNat))]) hx hb dL_law_669 hl (k := 15) rfl (by rw [ev16_669]; rfl) (by decide) rfl (fun ls hl => ?_)
      refine lv_goto (tgt := 454) hx hb dL_law_672 (by decide) ?_
      exact ih454 _ _ _ _ _ _ _ _ _ _ _ _ _ _ _ _ _ _ _ _ _ _ _ _ _ _ _ _ _ _ _ _ hm hT (lv_sub hl [1, 2, 3, 4, 5, 6, 7, 8, 9, 10, 11, 12, 13, 14, 15, 0] rfl) ⟨by omega, by omega⟩
    · have hm := hm.2 c_664
      refine lv_iconst (v := 0) hx hb dL_law_667 (by decide) ?_
      exact hm.elim
set_option maxRecDepth 100000 in
set_option maxHeartbeats 16000000 in
theorem tl_597 {p : Program} {l : Launch} {e : Env} {s : State} {m : MethodId} {args : Array Value} {below : List Frame} {meth : Method} {c : Code} {Q : State → Prop} {A : Nat → Prop} {D : va_G} {rx : Nat → Nat} {Z : Nat → ClassId} {a b q : Nat → Nat} {ca tp rd sp : Nat} {P : M2} {sa : Nat} {o : Nat → Nat} {ro : Nat → Nat → Nat} {nn : Nat → Nat} {V S O : M2} {scr Ln : Nat} {xs : Nat → Int32} {K : Int32 → Prop} (hC : CallFix p m c cL_law 35 s args lw_g RL) (hN : NW s) (hfl : l.stackTraces = false) (hR : RX rx scr Ln xs A s s.heap) (hK : va_K D vwCl (tysG Z) s) (hLn : Ln < 2 ^ 31) (n60 : Nat) (n454 : Nat) (L634 : ∀ (ap : Nat) (F : M2) (G : M2) (C : M2) (N : M2) (U : M2) (L : M2) (B : M2) (e143 : (Nat → Int32)) (e137 : (Nat → Int32)) (e129 : M2) (e119 : M2) (v4 : Int32) (v5 : Int32) (v6 : Int32) (v7 : Int32) (v8 : Int32) (v13 : Int32) (v14 : Int32) (v15 : Int32) (v16 : Int32) (v17 : Int32) (ae143 : Nat) (ae137 : Nat) (ae129 : Nat) (rae129 : Nat → Nat) (ae119 : Nat) (rae119 : Nat → Nat) (H : Heap) (locs : List Loc) (ls : Array Slot) (cc cs : Nat), wj_L_law_634 q P nn V S O xs Ln (wl_L_law_60 q P nn V S O xs Ln K n60) (wl_L_law_454 q P nn V S O xs Ln (wl_L_law_60 q P nn V S O xs Ln K n60) K n454) K ap F G C N U L B e143 e137 e129 e119 v4 v5 v6 v7 v8 v13 v14 v15 v16 v17 → TS vwCl D ([(ae143, .inl (Z 4, v6.toInt.toNat, .inl e143)), (ae137, .inl (Z 0, v4.toInt.toNat, .inl e137)), (ae129, .inl (Z 3, v5.toInt.toNat, .inr (.inr (.inr (.inr (fun j => if j < v5.toInt.toNat then some (rae129 j) else none)))))), (ae119, .inl (Z 3, v6.toInt.toNat, .inr (.inr (.inr (.inr (fun j => if j < v6.toInt.toNat then some (rae119 j) else none))))))] ++ ((CA Z a b q ca tp rd sp P ap F G C) ++ ((SM Z sa o ro nn V S O N U L B) ++ (pool Z rae129 e129 7 (v5.toInt.toNat) ++ (pool Z rae119 e119 7 (v6.toInt.toNat) ++ []))))) A s.heap H locs → lv_has ls 35 [(0, .ref scr), (2, .ref (sa)), (3, .ref (ca)), (4, .int v4), (5, .int v5), (6, .int v6), (7, .int v7), (8, .int v8), (9, .ref ae119), (10, .ref ae129), (11, .ref ae137), (12, .ref ae143), (13, .int v13), (14, .int v14), (15, .int v15), (16, .int v16), (17, .ref (rae129 v17.toInt.toNat))] → cc + (0 + n60 * 140 + 14 + n454 * 0 + 3) ≤ 600086 ∧ cs + (0 + n60 * 1300 + 150 + n454 * 0 + 100) ≤ 7301442 → W p l e (rk 2048 600086 7301442) s m args below meth c H locs cc cs Q (F0 m 634 ls [])) : ∀ (ap : Nat) (F : M2) (G : M2) (C : M2) (N : M2) (U : M2) (L : M2) (B : M2) (e143 : (Nat → Int32)) (e137 : (Nat → Int32)) (e129 : M2) (e119 : M2) (v4 : Int32) (v5 : Int32) (v6 : Int32) (v7 : Int32) (v8 : Int32) (v13 : Int32) (v14 : Int32) (v15 : Int32) (v16 : Int32) (v17 : Int32) (ae143 : Nat) (ae137 : Nat) (ae129 : Nat) (rae129 : Nat → Nat) (ae119 : Nat) (rae119 : Nat → Nat) (H : Heap) (locs : List Loc) (ls : Array Slot) (cc cs : Nat), wj_L_law_597 q P nn V S O xs Ln (wl_L_law_60 q P nn V S O xs Ln K n60) (wl_L_law_454 q P nn V S O xs Ln (wl_L_law_60 q P nn V S O xs Ln K n60) K n454) K ap F G C N U L B e143 e137 e129 e119 v4 v5 v6 v7 v8 v13 v14 v15 v16 v17 → TS vwCl D ([(ae143, .inl (Z 4, v6.toInt.toNat, .inl e143)), (ae137, .inl (Z 0, v4.toInt.toNat, .inl e137)), (ae129, .inl (Z 3, v5.toInt.toNat, .inr (.inr (.inr (.inr (fun j => if j < v5.toInt.toNat then some (rae129 j) else none)))))), (ae119, .inl (Z 3, v6.toInt.toNat, .inr (.inr (.inr (.inr (fun j => if j < v6.toInt.toNat then some (rae119 j) else none))))))] ++ ((CA Z a b q ca tp rd sp P ap F G C) ++ ((SM Z sa o ro nn V S O N U L B) ++ (pool Z rae129 e129 7 (v5.toInt.toNat) ++ (pool Z rae119 e119 7 (v6.toInt.toNat) ++ []))))) A s.heap H locs → lv_has ls 35 [(0, .ref scr), (2, .ref (sa)), (3, .ref (ca)), (4, .int v4), (5, .int v5), (6, .int v6), (7, .int v7), (8, .int v8), (9, .ref ae119), (10, .ref ae129), (11, .ref ae137), (12, .ref ae143), (13, .int v13), (14, .int v14), (15, .int v15), (16, .int v16), (17, .ref (rae129 v17.toInt.toNat))] → cc + (0 + n60 * 140 + 14 + n454 * 0 + 3) ≤ 600086 ∧ cs + (0 + n60 * 1300 + 150 + n454 * 0 + 100) ≤ 7301442 → W p l e (rk 2048 600086 7301442) s m args below meth c H locs cc cs Q (F0 m 597 ls []) := by
  have hx := hC.1
  have hb := hC.2.1
  intro ap F G C N U L B e143 e137 e129 e119 v4 v5 v6 v7 v8 v13 v14 v15 v16 v17 ae143 ae137 ae129 rae129 ae119 rae119 H locs ls cc cs hm hT hl hcb
  refine lv_aload hx hb dL_law_597 (lv_at hl 16 rfl) ?_
  refine lv_iconst (v := 4) hx hb dL_law_599 (by decide) ?_
  refine wr_ld (jn := 4) (f := (fun X => [(ae143, .inl (Z 4, v6.toInt.toNat, .inl e143)), (ae137, .inl (Z 0, v4.toInt.toNat, .inl e137)), (ae129, .inl (Z 3, v5.toInt.toNat, .inr (.inr (.inr (.inr (fun j => if j < v5.toInt.toNat then some (rae129 j) else none)))))), (ae119, .inl (Z 3, v6.toInt.toNat, .inr (.inr (.inr (.inr (fun j => if j < v6.toInt.toNat then some (rae119 j) else none))))))] ++ ((CA Z a b q ca tp rd sp P ap F G C) ++ ((SM Z sa o ro nn V S O N U L B) ++ (pool Z rae129 X 7 (v5.toInt.toNat) ++ (pool Z rae119 e119 7 (v6.toInt.toNat) ++ [])))))) (sm_pre (sm_pre (sm_pre pool_hf _) _) _) hC hK hT.1 hm.1 (by decide) rfl dL_law_600 ?_
  have hm := hm.2
  refine lv_if_lt (tgt := 634) hx hb dL_law_601 (by decide) (fun c_601 => ?_) (fun c_601 => ?_)
  · have hm := hm.1 c_601
    exact L634 _ _ _ _ _ _ _ _ _ _ _ _ _ _ _ _ _ _ _ _ _ _ _ _ _ _ _ _ _ _ _ _ _ hm hT (lv_sub hl [0, 1, 2, 3, 4, 5, 6, 7, 8, 9, 10, 11, 12, 13, 14, 15, 16] rfl) ⟨by omega, by omega⟩
  · have hm := hm.2 c_601
    refine lv_aload_n hx hb dL_law_604 rfl (lv_at hl 2 rfl) ?_
    refine lv_aload hx hb dL_law_605 (lv_at hl 16 rfl) ?_
    refine lv_iconst (v := 4) hx hb dL_law_607 (by decide) ?_
    refine wr_ld (jn := 4) (f := (fun X => [(ae143, .inl (Z 4, v6.toInt.toNat, .inl e143)), (ae137, .inl (Z 0, v4.toInt.toNat, .inl e137)), (ae129, .inl (Z 3, v5.toInt.toNat, .inr (.inr (.inr (.inr (fun j => if j < v5.toInt.toNat then some (rae129 j) else none)))))), (ae119, .inl (Z 3, v6.toInt.toNat, .inr (.inr (.inr (.inr (fun j => if j < v6.toInt.toNat then some (rae119 j) else none))))))] ++ ((CA Z a b q ca tp rd sp P ap F G C) ++ ((SM Z sa o ro nn V S O N U L B) ++ (pool Z rae129 X 7 (v5.toInt.toNat) ++ (pool Z rae119 e119 7 (v6.toInt.toNat) ++ [])))))) (sm_pre (sm_pre (sm_pre pool_hf _) _) _) hC hK hT.1 hm.1 (by decide) rfl dL_law_608 ?_
    have hm := hm.2
    refine lv_iconst (v := 0) hx hb dL_law_609 (by decide) ?_
    refine k_X5_crew hC hN hK hT.dropL.dropR.1 hT.dropL.dropR.D' hm wq_643 (by decide) hl.1 (Nat.le_of_ble_eq_true rfl) ⟨by omega, by omega⟩ dL_law_610 (fun r_610 hm => ?_)
    refine lv_iload hx hb dL_law_613 (lv_at hl 15 rfl) ?_
    refine lv_icmp_eq (tgt := 634) hx hb dL_law_615 (by decide) (fun c_615 => ?_) (fun c_615 => ?_)
    · have hm := hm.1 c_615
      exact L634 _ _ _ _ _ _ _ _ _ _ _ _ _ _ _ _ _ _ _ _ _ _ _ _ _ _ _ _ _ _ _ _ _ hm hT (lv_sub hl [0, 1, 2, 3, 4, 5, 6, 7, 8, 9, 10, 11, 12, 13, 14, 15, 16] rfl) ⟨by omega, by omega⟩
    · have hm := hm.2 c_615
      refine lv_aload_n hx hb dL_law_618 rfl (lv_at hl 2 rfl) ?_
      refine lv_aload hx hb dL_law_619 (lv_at hl 16 rfl) ?_
      refine lv_iconst (v := 4) hx hb dL_law_621 (by decide) ?_
      refine wr_ld (jn := 4) (f := (fun X => [(ae143, .inl (Z 4, v6.toInt.toNat, .inl e143)), (ae137, .inl (Z 0, v4.toInt.toNat, .inl e137)), (ae129, .inl (Z 3, v5.toInt.toNat, .inr (.inr (.inr (.inr (fun j => if j < v5.toInt.toNat then some (rae129 j) else none)))))), (ae119, .inl (Z 3, v6.toInt.toNat, .inr (.inr (.inr (.inr (fun j => if j < v6.toInt.toNat then some (rae119 j) else none))))))] ++ ((CA Z a b q ca tp rd sp P ap F G C) ++ ((SM Z sa o ro nn V S O N U L B) ++ (pool Z rae129 X 7 (v5.toInt.toNat) ++ (pool Z rae119 e119 7 (v6.toInt.toNat) ++ [])))))) (sm_pre (sm_pre (sm_pre pool_hf _) _) _) hC hK hT.1 hm.1 (by decide) rfl dL_law_622 ?_
      have hm := hm.2
      refine lv_iconst (v := 1) hx hb dL_law_623 (by decide) ?_
      refine k_X5_crew hC hN hK hT.dropL.dropR.1 hT.dropL.dropR.D' hm wq_643 (by decide) hl.1 (Nat.le_of_ble_eq_true rfl) ⟨by omega, by omega⟩ dL_law_624 (fun r_624 hm => ?_)
      refine lv_iload hx hb dL_law_627 (lv_at hl 15 rfl) ?_
      refine lv_icmp_eq (tgt := 634) hx hb dL_law_629 (by decide) (fun c_629 => ?_) (fun c_629 => ?_)
      · have hm := hm.1 c_629
        exact L634 _ _ _ _ _ _ _ _ _ _ _ _ _ _ _ _ _ _ _ _ _ _ _ _ _ _ _ _ _ _ _ _ _ hm hT (lv_sub hl [0, 1, 2, 3, 4, 5, 6, 7, 8, 9, 10, 11, 12, 13, 14, 15, 16] rfl) ⟨by omega, by omega⟩
      · have hm := hm.2 c_629
        refine lv_iconst (v := 0) hx hb dL_law_632 (by decide) ?_
        exact hm.elim
set_option maxRecDepth 100000 in
set_option maxHeartbeats 16000000 in
theorem tl_564 {p : Program} {l : Launch} {e : Env} {s : State} {m : MethodId} {args : Array Value} {below : List Frame} {meth : Method} {c : Code} {Q : State → Prop} {A : Nat → Prop} {D : va_G} {rx : Nat → Nat} {Z : Nat → ClassId} {a b q : Nat → Nat} {ca tp rd sp : Nat} {P : M2} {sa : Nat} {o : Nat → Nat} {ro : Nat → Nat → Nat} {nn : Nat → Nat} {V S O : M2} {scr Ln : Nat} {xs : Nat → Int32} {K : Int32 → Prop} (hC : CallFix p m c cL_law 35 s args lw_g RL) (hN : NW s) (hfl : l.stackTraces = false) (hR : RX rx scr Ln xs A s s.heap) (hK : va_K D vwCl (tysG Z) s) (hLn : Ln < 2 ^ 31) (n60 : Nat) (n454 : Nat) (L597 : ∀ (ap : Nat) (F : M2) (G : M2) (C : M2) (N : M2) (U : M2) (L : M2) (B : M2) (e143 : (Nat → Int32)) (e137 : (Nat → Int32)) (e129 : M2) (e119 : M2) (v4 : Int32) (v5 : Int32) (v6 : Int32) (v7 : Int32) (v8 : Int32) (v13 : Int32) (v14 : Int32) (v15 : Int32) (v16 : Int32) (v17 : Int32) (ae143 : Nat) (ae137 : Nat) (ae129 : Nat) (rae129 : Nat → Nat) (ae119 : Nat) (rae119 : Nat → Nat) (H : Heap) (locs : List Loc) (ls : Array Slot) (cc cs : Nat), wj_L_law_597 q P nn V S O xs Ln (wl_L_law_60 q P nn V S O xs Ln K n60) (wl_L_law_454 q P nn V S O xs Ln (wl_L_law_60 q P nn V S O xs Ln K n60) K n454) K ap F G C N U L B e143 e137 e129 e119 v4 v5 v6 v7 v8 v13 v14 v15 v16 v17 → TS vwCl D ([(ae143, .inl (Z 4, v6.toInt.toNat, .inl e143)), (ae137, .inl (Z 0, v4.toInt.toNat, .inl e137)), (ae129, .inl (Z 3, v5.toInt.toNat, .inr (.inr (.inr (.inr (fun j => if j < v5.toInt.toNat then some (rae129 j) else none)))))), (ae119, .inl (Z 3, v6.toInt.toNat, .inr (.inr (.inr (.inr (fun j => if j < v6.toInt.toNat then some (rae119 j) else none))))))] ++ ((CA Z a b q ca tp rd sp P ap F G C) ++ ((SM Z sa o ro nn V S O N U L B) ++ (pool Z rae129 e129 7 (v5.toInt.toNat) ++ (pool Z rae119 e119 7 (v6.toInt.toNat) ++ []))))) A s.heap H locs → lv_has ls 35 [(0, .ref scr), (2, .ref (sa)), (3, .ref (ca)), (4, .int v4), (5, .int v5), (6, .int v6), (7, .int v7), (8, .int v8), (9, .ref ae119), (10, .ref ae129), (11, .ref ae137), (12, .ref ae143), (13, .int v13), (14, .int v14), (15, .int v15), (16, .int v16), (17, .ref (rae129 v17.toInt.toNat))] → cc + (0 + n60 * 140 + 14 + n454 * 0 + 3) ≤ 600086 ∧ cs + (0 + n60 * 1300 + 150 + n454 * 0 + 100) ≤ 7301442 → W p l e (rk 2048 600086 7301442) s m args below meth c H locs cc cs Q (F0 m 597 ls [])) : ∀ (ap : Nat) (F : M2) (G : M2) (C : M2) (N : M2) (U : M2) (L : M2) (B : M2) (e143 : (Nat → Int32)) (e137 : (Nat → Int32)) (e129 : M2) (e119 : M2) (v4 : Int32) (v5 : Int32) (v6 : Int32) (v7 : Int32) (v8 : Int32) (v13 : Int32) (v14 : Int32) (v15 : Int32) (v16 : Int32) (v17 : Int32) (q0 : Int32) (q1 : Int32) (ae143 : Nat) (ae137 : Nat) (ae129 : Nat) (rae129 : Nat → Nat) (ae119 : Nat) (rae119 : Nat → Nat) (H : Heap) (locs : List Loc) (ls : Array Slot) (cc cs : Nat), wj_L_law_564 q P nn V S O xs Ln (wl_L_law_60 q P nn V S O xs Ln K n60) (wl_L_law_454 q P nn V S O xs Ln (wl_L_law_60 q P nn V S O xs Ln K n60) K n454) K ap F G C N U L B e143 e137 e129 e119 v4 v5 v6 v7 v8 v13 v14 v15 v16 v17 q0 q1 → TS vwCl D ([(ae143, .inl (Z 4, v6.toInt.toNat, .inl e143)), (ae137, .inl (Z 0, v4.toInt.toNat, .inl e137)), (ae129, .inl (Z 3, v5.toInt.toNat, .inr (.inr (.inr (.inr (fun j => if j < v5.toInt.toNat then some (rae129 j) else none)))))), (ae119, .inl (Z 3, v6.toInt.toNat, .inr (.inr (.inr (.inr (fun j => if j < v6.toInt.toNat then some (rae119 j) else none))))))] ++ ((CA Z a b q ca tp rd sp P ap F G C) ++ ((SM Z sa o ro nn V S O N U L B) ++ (pool Z rae129 e129 7 (v5.toInt.toNat) ++ (pool Z rae119 e119 7 (v6.toInt.toNat) ++ []))))) A s.heap H locs → lv_has ls 35 [(0, .ref scr), (2, .ref (sa)), (3, .ref (ca)), (4, .int v4), (5, .int v5), (6, .int v6), (7, .int v7), (8, .int v8), (9, .ref ae119), (10, .ref ae129), (11, .ref ae137), (12, .ref ae143), (13, .int v13), (14, .int v14), (15, .int v15), (16, .int v16), (17, .ref (rae129 v17.toInt.toNat))] → cc + (0 + n60 * 140 + 14 + n454 * 0 + 3) ≤ 600086 ∧ cs + (0 + n60 * 1300 + 150 + n454 * 0 + 100) ≤ 7301442 → W p l e (rk 2048 600086 7301442) s m args below meth c H locs cc cs Q (F0 m 564 ls [.int q0, .int q1]) := by
  have hx := hC.1
  have hb := hC.2.1
  intro ap F G C N U L B e143 e137 e129 e119 v4 v5 v6 v7 v8 v13 v14 v15 v16 v17 q0 q1 ae143 ae137 ae129 rae129 ae119 rae119 H locs ls cc cs hm hT hl hcb
  refine lv_icmp_ne (tgt := 632) hx hb dL_law_564 (by decide) (fun c_564 => ?_) (fun c_564 => ?_)
  · have hm := hm.1 c_564
    refine lv_iconst (v := 0) hx hb dL_law_632 (by decide) ?_
    exact hm.elim
  · have hm := hm.2 c_564
    refine lv_aload hx hb dL_law_567 (lv_at hl 16 rfl) ?_
    refine lv_iconst (v := 5) hx hb dL_law_569 (by decide) ?_
    refine wr_ld (jn := 5) (f := (fun X => [(ae143, .inl (Z 4, v6.toInt.toNat, .inl e143)), (ae137, .inl (Z 0, v4.toInt.toNat, .inl e137)), (ae129, .inl (Z 3, v5.toInt.toNat, .inr (.inr (.inr (.inr (fun j => if j < v5.toInt.toNat then some (rae129 j) else none)))))), (ae119, .inl (Z 3, v6.toInt.toNat, .inr (.inr (.inr (.inr (fun j => if j < v6.toInt.toNat then some (rae119 j) else none))))))] ++ ((CA Z a b q ca tp rd sp P ap F G C) ++ ((SM Z sa o ro nn V S O N U L B) ++ (pool Z rae129 X 7 (v5.toInt.toNat) ++ (pool Z rae119 e119 7 (v6.toInt.toNat) ++ [])))))) (sm_pre (sm_pre (sm_pre pool_hf _) _) _) hC hK hT.1 hm.1 (by decide) rfl dL_law_570 ?_
    have hm := hm.2
    refine lv_if_lt (tgt := 632) hx hb dL_law_571 (by decide) (fun c_571 => ?_) (fun c_571 => ?_)
    · have hm := hm.1 c_571
      refine lv_iconst (v := 0) hx hb dL_law_632 (by decide) ?_
      exact hm.elim
    · have hm := hm.2 c_571
      refine lv_aload hx hb dL_law_574 (lv_at hl 16 rfl) ?_
      refine lv_iconst (v := 5) hx hb dL_law_576 (by decide) ?_
      refine wr_ld (jn := 5) (f := (fun X => [(ae143, .inl (Z 4, v6.toInt.toNat, .inl e143)), (ae137, .inl (Z 0, v4.toInt.toNat, .inl e137)), (ae129, .inl (Z 3, v5.toInt.toNat, .inr (.inr (.inr (.inr (fun j => if j < v5.toInt.toNat then some (rae129 j) else none)))))), (ae119, .inl (Z 3, v6.toInt.toNat, .inr (.inr (.inr (.inr (fun j => if j < v6.toInt.toNat then some (rae119 j) else none))))))] ++ ((CA Z a b q ca tp rd sp P ap F G C) ++ ((SM Z sa o ro nn V S O N U L B) ++ (pool Z rae129 X 7 (v5.toInt.toNat) ++ (pool Z rae119 e119 7 (v6.toInt.toNat) ++ [])))))) (sm_pre (sm_pre (sm_pre pool_hf _) _) _) hC hK hT.1 hm.1 (by decide) rfl dL_law_577 ?_
      have hm := hm.2
      refine lv_bipush (v := 9) hx hb dL_law_578 (by decide) ?_
      refine lv_icmp_gt (tgt := 632) hx hb dL_law_580 (by decide) (fun c_580 => ?_) (fun c_580 => ?_)
      · have hm := hm.1 c_580
        refine lv_iconst (v := 0) hx hb dL_law_632 (by decide) ?_
        exact hm.elim
      · have hm := hm.2 c_580
        refine lv_aload hx hb dL_law_583 (lv_at hl 16 rfl) ?_
        refine lv_iconst (v := 4) hx hb dL_law_585 (by decide) ?_
        refine wr_ld (jn := 4) (f := (fun X => [(ae143, .inl (Z 4, v6.toInt.toNat, .inl e143)), (ae137, .inl (Z 0, v4.toInt.toNat, .inl e137)), (ae129, .inl (Z 3, v5.toInt.toNat, .inr (.inr (.inr (.inr (fun j => if j < v5.toInt.toNat then some (rae129 j) else none)))))), (ae119, .inl (Z 3, v6.toInt.toNat, .inr (.inr (.inr (.inr (fun j => if j < v6.toInt.toNat then some (rae119 j) else none))))))] ++ ((CA Z a b q ca tp rd sp P ap F G C) ++ ((SM Z sa o ro nn V S O N U L B) ++ (pool Z rae129 X 7 (v5.toInt.toNat) ++ (pool Z rae119 e119 7 (v6.toInt.toNat) ++ [])))))) (sm_pre (sm_pre (sm_pre pool_hf _) _) _) hC hK hT.1 hm.1 (by decide) rfl dL_law_586 ?_
        have hm := hm.2
        refine lv_if_lt (tgt := 597) hx hb dL_law_587 (by decide) (fun c_587 => ?_) (fun c_587 => ?_)
        · have hm := hm.1 c_587
          exact L597 _ _ _ _ _ _ _ _ _ _ _ _ _ _ _ _ _ _ _ _ _ _ _ _ _ _ _ _ _ _ _ _ _ hm hT (lv_sub hl [0, 1, 2, 3, 4, 5, 6, 7, 8, 9, 10, 11, 12, 13, 14, 15, 16] rfl) ⟨by omega, by omega⟩
        · have hm := hm.2 c_587
          refine lv_aload hx hb dL_law_590 (lv_at hl 16 rfl) ?_
          refine lv_iconst (v := 5) hx hb dL_law_592 (by decide) ?_
          refine wr_ld (jn := 5) (f := (fun X => [(ae143, .inl (Z 4, v6.toInt.toNat, .inl e143)), (ae137, .inl (Z 0, v4.toInt.toNat, .inl e137)), (ae129, .inl (Z 3, v5.toInt.toNat, .inr (.inr (.inr (.inr (fun j => if j < v5.toInt.toNat then some (rae129 j) else none)))))), (ae119, .inl (Z 3, v6.toInt.toNat, .inr (.inr (.inr (.inr (fun j => if j < v6.toInt.toNat then some (rae119 j) else none))))))] ++ ((CA Z a b q ca tp rd sp P ap F G C) ++ ((SM Z sa o ro nn V S O N U L B) ++ (pool Z rae129 X 7 (v5.toInt.toNat) ++ (pool Z rae119 e119 7 (v6.toInt.toNat) ++ [])))))) (sm_pre (sm_pre (sm_pre pool_hf _) _) _) hC hK hT.1 hm.1 (by decide) rfl dL_law_593 ?_
          have hm := hm.2
          refine lv_if_gt (tgt := 632) hx hb dL_law_594 (by decide) (fun c_594 => ?_) (fun c_594 => ?_)
          · have hm := hm.1 c_594
            refine lv_iconst (v := 0) hx hb dL_law_632 (by decide) ?_
            exact hm.elim
          · have hm := hm.2 c_594
            exact L597 _ _ _ _ _ _ _ _ _ _ _ _ _ _ _ _ _ _ _ _ _ _ _ _ _ _ _ _ _ _ _ _ _ hm hT (lv_sub hl [0, 1, 2, 3, 4, 5, 6, 7, 8, 9, 10, 11, 12, 13, 14, 15, 16] rfl) ⟨by omega, by omega⟩
set_option maxRecDepth 100000 in
set_option maxHeartbeats 16000000 in
theorem tl_514 {p : Program} {l : Launch} {e : Env} {s : State} {m : MethodId} {args : Array Value} {below : List Frame} {meth : Method} {c : Code} {Q : State → Prop} {A : Nat → Prop} {D : va_G} {rx : Nat → Nat} {Z : Nat → ClassId} {a b q : Nat → Nat} {ca tp rd sp : Nat} {P : M2} {sa : Nat} {o : Nat → Nat} {ro : Nat → Nat → Nat} {nn : Nat → Nat} {V S O : M2} {scr Ln : Nat} {xs : Nat → Int32} {K : Int32 → Prop} (hC : CallFix p m c cL_law 35 s args lw_g RL) (hN : NW s) (hfl : l.stackTraces = false) (hR : RX rx scr Ln xs A s s.heap) (hK : va_K D vwCl (tysG Z) s) (hLn : Ln < 2 ^ 31) (n60 : Nat) (n454 : Nat) (L564 : ∀ (ap : Nat) (F : M2) (G : M2) (C : M2) (N : M2) (U : M2) (L : M2) (B : M2) (e143 : (Nat → Int32)) (e137 : (Nat → Int32)) (e129 : M2) (e119 : M2) (v4 : Int32) (v5 : Int32) (v6 : Int32) (v7 : Int32) (v8 : Int32) (v13 : Int32) (v14 : Int32) (v15 : Int32) (v16 : Int32) (v17 : Int32) (q0 : Int32) (q1 : Int32) (ae143 : Nat) (ae137 : Nat) (ae129 : Nat) (rae129 : Nat → Nat) (ae119 : Nat) (rae119 : Nat → Nat) (H : Heap) (locs : List Loc) (ls : Array Slot) (cc cs : Nat), wj_L_law_564 q P nn V S O xs Ln (wl_L_law_60 q P nn V S O xs Ln K n60) (wl_L_law_454 q P nn V S O xs Ln (wl_L_law_60 q P nn V S O xs Ln K n60) K n454) K ap F G C N U L B e143 e137 e129 e119 v4 v5 v6 v7 v8 v13 v14 v15 v16 v17 q0 q1 → TS vwCl D ([(ae143, .inl (Z 4, v6.toInt.toNat, .inl e143)), (ae137, .inl (Z 0, v4.toInt.toNat, .inl e137)), (ae129, .inl (Z 3, v5.toInt.toNat, .inr (.inr (.inr (.inr (fun j => if j < v5.toInt.toNat then some (rae129 j) else none)))))), (ae119, .inl (Z 3, v6.toInt.toNat, .inr (.inr (.inr (.inr (fun j => if j < v6.toInt.toNat then some (rae119 j) else none))))))] ++ ((CA Z a b q ca tp rd sp P ap F G C) ++ ((SM Z sa o ro nn V S O N U L B) ++ (pool Z rae129 e129 7 (v5.toInt.toNat) ++ (pool Z rae119 e119 7 (v6.toInt.toNat) ++ []))))) A s.heap H locs → lv_has ls 35 [(0, .ref scr), (2, .ref (sa)), (3, .ref (ca)), (4, .int v4), (5, .int v5), (6, .int v6), (7, .int v7), (8, .int v8), (9, .ref ae119), (10, .ref ae129), (11, .ref ae137), (12, .ref ae143), (13, .int v13), (14, .int v14), (15, .int v15), (16, .int v16), (17, .ref (rae129 v17.toInt.toNat))] → cc + (0 + n60 * 140 + 14 + n454 * 0 + 3) ≤ 600086 ∧ cs + (0 + n60 * 1300 + 150 + n454 * 0 + 100) ≤ 7301442 → W p l e (rk 2048 600086 7301442) s m args below meth c H locs cc cs Q (F0 m 564 ls [.int q0, .int q1])) : ∀ (ap : Nat) (F : M2) (G : M2) (C : M2) (N : M2) (U : M2) (L : M2) (B : M2) (e143 : (Nat → Int32)) (e137 : (Nat → Int32)) (e129 : M2) (e119 : M2) (v4 : Int32) (v5 : Int32) (v6 : Int32) (v7 : Int32) (v8 : Int32) (v13 : Int32) (v14 : Int32) (v16 : Int32) (v17 : Int32) (q0 : Int32) (q1 : Int32) (ae143 : Nat) (ae137 : Nat) (ae129 : Nat) (rae129 : Nat → Nat) (ae119 : Nat) (rae119 : Nat → Nat) (H : Heap) (locs : List Loc) (ls : Array Slot) (cc cs : Nat), wj_L_law_514 q P nn V S O xs Ln (wl_L_law_60 q P nn V S O xs Ln K n60) (wl_L_law_454 q P nn V S O xs Ln (wl_L_law_60 q P nn V S O xs Ln K n60) K n454) K ap F G C N U L B e143 e137 e129 e119 v4 v5 v6 v7 v8 v13 v14 v16 v17 q0 q1 → TS vwCl D ([(ae143, .inl (Z 4, v6.toInt.toNat, .inl e143)), (ae137, .inl (Z 0, v4.toInt.toNat, .inl e137)), (ae129, .inl (Z 3, v5.toInt.toNat, .inr (.inr (.inr (.inr (fun j => if j < v5.toInt.toNat then some (rae129 j) else none)))))), (ae119, .inl (Z 3, v6.toInt.toNat, .inr (.inr (.inr (.inr (fun j => if j < v6.toInt.toNat then some (rae119 j) else none))))))] ++ ((CA Z a b q ca tp rd sp P ap F G C) ++ ((SM Z sa o ro nn V S O N U L B) ++ (pool Z rae129 e129 7 (v5.toInt.toNat) ++ (pool Z rae119 e119 7 (v6.toInt.toNat) ++ []))))) A s.heap H locs → lv_has ls 35 [(0, .ref scr), (2, .ref (sa)), (3, .ref (ca)), (4, .int v4), (5, .int v5), (6, .int v6), (7, .int v7), (8, .int v8), (9, .ref ae119), (10, .ref ae129), (11, .ref ae137), (12, .ref ae143), (13, .int v13), (14, .int v14), (16, .int v16), (17, .ref (rae129 v17.toInt.toNat))] → cc + (0 + n60 * 140 + 14 + n454 * 0 + 3) ≤ 600086 ∧ cs + (0 + n60 * 1300 + 150 + n454 * 0 + 100) ≤ 7301442 → W p l e (rk 2048 600086 7301442) s m args below meth c H locs cc cs Q (F0 m 514 ls [.int q0, .int q1]) := by
  have hx := hC.1
  have hb := hC.2.1
  intro ap F G C N U L B e143 e137 e129 e119 v4 v5 v6 v7 v8 v13 v14 v16 v17 q0 q1 ae143 ae137 ae129 rae129 ae119 rae119 H locs ls cc cs hm hT hl hcb
  refine lv_iadd hx hb dL_law_514 ?_
  refine lv_topi (fun v15_515 ev15_515 => ?_)
  have hm := hm v15_515 ev15_515
  refine lv_istore (lv' := [(15, .int v15_515), (0, .ref scr), (2, .ref (sa)), (3, .ref (ca)), (4, .int v4), (5, .int v5), (6, .int v6), (7, .int v7), (8, .int v8), (9, .ref ae119), (10, .ref ae129), (11, .ref ae137), (12, .ref ae143), (13, .int v13), (14, .int v14), (16, .int v16), (17, .ref (rae129 v17.toInt.toNat))]) hx hb dL_law_515 hl (by decide) rfl (fun ls hl => ?_)
  refine lv_aload hx hb dL_law_517 (lv_at hl 16 rfl) ?_
  refine lv_iconst (v := 2) hx hb dL_law_519 (by decide) ?_
  refine wr_ld (jn := 2) (f := (fun X => [(ae143, .inl (Z 4, v6.toInt.toNat, .inl e143)), (ae137, .inl (Z 0, v4.toInt.toNat, .inl e137)), (ae129, .inl (Z 3, v5.toInt.toNat, .inr (.inr (.inr (.inr (fun j => if j < v5.toInt.toNat then some (rae129 j) else none)))))), (ae119, .inl (Z 3, v6.toInt.toNat, .inr (.inr (.inr (.inr (fun j => if j < v6.toInt.toNat then some (rae119 j) else none))))))] ++ ((CA Z a b q ca tp rd sp P ap F G C) ++ ((SM Z sa o ro nn V S O N U L B) ++ (pool Z rae129 X 7 (v5.toInt.toNat) ++ (pool Z rae119 e119 7 (v6.toInt.toNat) ++ [])))))) (sm_pre (sm_pre (sm_pre pool_hf _) _) _) hC hK hT.1 hm.1 (by decide) rfl dL_law_520 ?_
  have hm := hm.2
  refine lv_if_lt (tgt := 632) hx hb dL_law_521 (by decide) (fun c_521 => ?_) (fun c_521 => ?_)
  · have hm := hm.1 c_521
    refine lv_iconst (v := 0) hx hb dL_law_632 (by decide) ?_
    exact hm.elim
  · have hm := hm.2 c_521
    refine lv_aload hx hb dL_law_524 (lv_at hl 16 rfl) ?_
    refine lv_iconst (v := 2) hx hb dL_law_526 (by decide) ?_
    refine wr_ld (jn := 2) (f := (fun X => [(ae143, .inl (Z 4, v6.toInt.toNat, .inl e143)), (ae137, .inl (Z 0, v4.toInt.toNat, .inl e137)), (ae129, .inl (Z 3, v5.toInt.toNat, .inr (.inr (.inr (.inr (fun j => if j < v5.toInt.toNat then some (rae129 j) else none)))))), (ae119, .inl (Z 3, v6.toInt.toNat, .inr (.inr (.inr (.inr (fun j => if j < v6.toInt.toNat then some (rae119 j) else none))))))] ++ ((CA Z a b q ca tp rd sp P ap F G C) ++ ((SM Z sa o ro nn V S O N U L B) ++ (pool Z rae129 X 7 (v5.toInt.toNat) ++ (pool Z rae119 e119 7 (v6.toInt.toNat) ++ [])))))) (sm_pre (sm_pre (sm_pre pool_hf _) _) _) hC hK hT.1 hm.1 (by decide) rfl dL_law_527 ?_
    have hm := hm.2
    refine lv_bipush (v := 10) hx hb dL_law_528 (by decide) ?_
    refine lv_aload hx hb dL_law_530 (lv_at hl 16 rfl) ?_
    refine lv_iconst (v := 1) hx hb dL_law_532 (by decide) ?_
    refine wr_ld (jn := 1) (f := (fun X => [(ae143, .inl (Z 4, v6.toInt.toNat, .inl e143)), (ae137, .inl (Z 0, v4.toInt.toNat, .inl e137)), (ae129, .inl (Z 3, v5.toInt.toNat, .inr (.inr (.inr (.inr (fun j => if j < v5.toInt.toNat then some (rae129 j) else none)))))), (ae119, .inl (Z 3, v6.toInt.toNat, .inr (.inr (.inr (.inr (fun j => if j < v6.toInt.toNat then some (rae119 j) else none))))))] ++ ((CA Z a b q ca tp rd sp P ap F G C) ++ ((SM Z sa o ro nn V S O N U L B) ++ (pool Z rae129 X 7 (v5.toInt.toNat) ++ (pool Z rae119 e119 7 (v6.toInt.toNat) ++ [])))))) (sm_pre (sm_pre (sm_pre pool_hf _) _) _) hC hK hT.1 hm.1 (by decide) rfl dL_law_533 ?_
    have hm := hm.2
    refine lv_imul hx hb dL_law_534 ?_
    refine lv_icmp_gt (tgt := 632) hx hb dL_law_535 (by decide) (fun c_535 => ?_) (fun c_535 => ?_)
    · have hm := hm.1 c_535
      refine lv_iconst (v := 0) hx hb dL_law_632 (by decide) ?_
      exact hm.elim
    · have hm := hm.2 c_535
      refine lv_aload hx hb dL_law_538 (lv_at hl 16 rfl) ?_
      refine lv_iconst (v := 3) hx hb dL_law_540 (by decide) ?_
      refine wr_ld (jn := 3) (f := (fun X => [(ae143, .inl (Z 4, v6.toInt.toNat, .inl e143)), (ae137, .inl (Z 0, v4.toInt.toNat, .inl e137)), (ae129, .inl (Z 3, v5.toInt.toNat, .inr (.inr (.inr (.inr (fun j => if j < v5.toInt.toNat then some (rae129 j) else none)))))), (ae119, .inl (Z 3, v6.toInt.toNat, .inr (.inr (.inr (.inr (fun j => if j < v6.toInt.toNat then some (rae119 j) else none))))))] ++ ((CA Z a b q ca tp rd sp P ap F G C) ++ ((SM Z sa o ro nn V S O N U L B) ++ (pool Z rae129 X 7 (v5.toInt.toNat) ++ (pool Z rae119 e119 7 (v6.toInt.toNat) ++ [])))))) (sm_pre (sm_pre (sm_pre pool_hf _) _) _) hC hK hT.1 hm.1 (by decide) rfl dL_law_541 ?_
      have hm := hm.2
      refine lv_iconst (v := 1) hx hb dL_law_542 (by decide) ?_
      refine lv_icmp_ne (tgt := 550) hx hb dL_law_543 (by decide) (fun c_543 => ?_) (fun c_543 => ?_)
      · have hm := hm.1 c_543
        refine lv_iconst (v := 0) hx hb dL_law_550 (by decide) ?_
        refine lv_aload hx hb dL_law_551 (lv_at hl 16 rfl) ?_
        refine lv_bipush (v := 6) hx hb dL_law_553 (by decide) ?_
        refine wr_ld (jn := 6) (f := (fun X => [(ae143, .inl (Z 4, v6.toInt.toNat, .inl e143)), (ae137, .inl (Z 0, v4.toInt.toNat, .inl e137)), (ae129, .inl (Z 3, v5.toInt.toNat, .inr (.inr (.inr (.inr (fun j => if j < v5.toInt.toNat then some (rae129 j) else none)))))), (ae119, .inl (Z 3, v6.toInt.toNat, .inr (.inr (.inr (.inr (fun j => if j < v6.toInt.toNat then some (rae119 j) else none))))))] ++ ((CA Z a b q ca tp rd sp P ap F G C) ++ ((SM Z sa o ro nn V S O N U L B) ++ (pool Z rae129 X 7 (v5.toInt.toNat) ++ (pool Z rae119 e119 7 (v6.toInt.toNat) ++ [])))))) (sm_pre (sm_pre (sm_pre pool_hf _) _) _) hC hK hT.1 hm.1 (by decide) rfl dL_law_555 ?_
        have hm := hm.2
        refine lv_if_ge (tgt := 563) hx hb dL_law_556 (by decide) (fun c_556 => ?_) (fun c_556 => ?_)
        · have hm := hm.1 c_556
          refine lv_iconst (v := 0) hx hb dL_law_563 (by decide) ?_
          exact L564 _ _ _ _ _ _ _ _ _ _ _ _ _ _ _ _ _ _ _ _ _ _ _ _ _ _ _ _ _ _ _ _ _ _ _ hm hT (lv_sub hl [1, 2, 3, 4, 5, 6, 7, 8, 9, 10, 11, 12, 13, 14, 0, 15, 16] rfl) ⟨by omega, by omega⟩
        · have hm := hm.2 c_556
          refine lv_iconst (v := 1) hx hb dL_law_559 (by decide) ?_
          refine lv_goto (tgt := 564) hx hb dL_law_560 (by decide) ?_
          exact L564 _ _ _ _ _ _ _ _ _ _ _ _ _ _ _ _ _ _ _ _ _ _ _ _ _ _ _ _ _ _ _ _ _ _ _ hm hT (lv_sub hl [1, 2, 3, 4, 5, 6, 7, 8, 9, 10, 11, 12, 13, 14, 0, 15, 16] rfl) ⟨by omega, by omega⟩
      · have hm := hm.2 c_543
        refine lv_iconst (v := 1) hx hb dL_law_546 (by decide) ?_
        refine lv_goto (tgt := 551) hx hb dL_law_547 (by decide) ?_
        refine lv_aload hx hb dL_law_551 (lv_at hl 16 rfl) ?_
        refine lv_bipush (v := 6) hx hb dL_law_553 (by decide) ?_
        refine wr_ld (jn := 6) (f := (fun X => [(ae143, .inl (Z 4, v6.toInt.toNat, .inl e143)), (ae137, .inl (Z 0, v4.toInt.toNat, .inl e137)), (ae129, .inl (Z 3, v5.toInt.toNat, .inr (.inr (.inr (.inr (fun j => if j < v5.toInt.toNat then some (rae129 j) else none)))))), (ae119, .inl (Z 3, v6.toInt.toNat, .inr (.inr (.inr (.inr (fun j => if j < v6.toInt.toNat then some (rae119 j) else none))))))] ++ ((CA Z a b q ca tp rd sp P ap F G C) ++ ((SM Z sa o ro nn V S O N U L B) ++ (pool Z rae129 X 7 (v5.toInt.toNat) ++ (pool Z rae119 e119 7 (v6.toInt.toNat) ++ [])))))) (sm_pre (sm_pre (sm_pre pool_hf _) _) _) hC hK hT.1 hm.1 (by decide) rfl dL_law_555 ?_
        have hm := hm.2
        refine lv_if_ge (tgt := 563) hx hb dL_law_556 (by decide) (fun c_556 => ?_) (fun c_556 => ?_)
        · have hm := hm.1 c_556
          refine lv_iconst (v := 0) hx hb dL_law_563 (by decide) ?_
          exact L564 _ _ _ _ _ _ _ _ _ _ _ _ _ _ _ _ _ _ _ _ _ _ _ _ _ _ _ _ _ _ _ _ _ _ _ hm hT (lv_sub hl [1, 2, 3, 4, 5, 6, 7, 8, 9, 10, 11, 12, 13, 14, 0, 15, 16] rfl) ⟨by omega, by omega⟩
        · have hm := hm.2 c_556
          refine lv_iconst (v := 1) hx hb dL_law_559 (by decide) ?_
          refine lv_goto (tgt := 564) hx hb dL_law_560 (by decide) ?_
          exact L564 _ _ _ _ _ _ _ _ _ _ _ _ _ _ _ _ _ _ _ _ _ _ _ _ _ _ _ _ _ _ _ _ _ _ _ hm hT (lv_sub hl [1, 2, 3, 4, 5, 6, 7, 8, 9, 10, 11, 12, 13, 14, 0, 15, 16] rfl) ⟨by omega, by omega⟩
set_option maxRecDepth 100000 in
set_option maxHeartbeats 16000000 in
theorem tl_464 {p : Program} {l : Launch} {e : Env} {s : State} {m : MethodId} {args : Array Value} {below : List Frame} {meth : Method} {c : Code} {Q : State → Prop} {A : Nat → Prop} {D : va_G} {rx : Nat → Nat} {Z : Nat → ClassId} {a b q : Nat → Nat} {ca tp rd sp : Nat} {P : M2} {sa : Nat} {o : Nat → Nat} {ro : Nat → Nat → Nat} {nn : Nat → Nat} {V S O : M2} {scr Ln : Nat} {xs : Nat → Int32} {K : Int32 → Prop} (hC : CallFix p m c cL_law 35 s args lw_g RL) (hN : NW s) (hfl : l.stackTraces = false) (hR : RX rx scr Ln xs A s s.heap) (hK : va_K D vwCl (tysG Z) s) (hLn : Ln < 2 ^ 31) (n60 : Nat) (n454 : Nat) (L514 : ∀ (ap : Nat) (F : M2) (G : M2) (C : M2) (N : M2) (U : M2) (L : M2) (B : M2) (e143 : (Nat → Int32)) (e137 : (Nat → Int32)) (e129 : M2) (e119 : M2) (v4 : Int32) (v5 : Int32) (v6 : Int32) (v7 : Int32) (v8 : Int32) (v13 : Int32) (v14 : Int32) (v16 : Int32) (v17 : Int32) (q0 : Int32) (q1 : Int32) (ae143 : Nat) (ae137 : Nat) (ae129 : Nat) (rae129 : Nat → Nat) (ae119 : Nat) (rae119 : Nat → Nat) (H : Heap) (locs : List Loc) (ls : Array Slot) (cc cs : Nat), wj_L_law_514 q P nn V S O xs Ln (wl_L_law_60 q P nn V S O xs Ln K n60) (wl_L_law_454 q P nn V S O xs Ln (wl_L_law_60 q P nn V S O xs Ln K n60) K n454) K ap F G C N U L B e143 e137 e129 e119 v4 v5 v6 v7 v8 v13 v14 v16 v17 q0 q1 → TS vwCl D ([(ae143, .inl (Z 4, v6.toInt.toNat, .inl e143)), (ae137, .inl (Z 0, v4.toInt.toNat, .inl e137)), (ae129, .inl (Z 3, v5.toInt.toNat, .inr (.inr (.inr (.inr (fun j => if j < v5.toInt.toNat then some (rae129 j) else none)))))), (ae119, .inl (Z 3, v6.toInt.toNat, .inr (.inr (.inr (.inr (fun j => if j < v6.toInt.toNat then some (rae119 j) else none))))))] ++ ((CA Z a b q ca tp rd sp P ap F G C) ++ ((SM Z sa o ro nn V S O N U L B) ++ (pool Z rae129 e129 7 (v5.toInt.toNat) ++ (pool Z rae119 e119 7 (v6.toInt.toNat) ++ []))))) A s.heap H locs → lv_has ls 35 [(0, .ref scr), (2, .ref (sa)), (3, .ref (ca)), (4, .int v4), (5, .int v5), (6, .int v6), (7, .int v7), (8, .int v8), (9, .ref ae119), (10, .ref ae129), (11, .ref ae137), (12, .ref ae143), (13, .int v13), (14, .int v14), (16, .int v16), (17, .ref (rae129 v17.toInt.toNat))] → cc + (0 + n60 * 140 + 14 + n454 * 0 + 3) ≤ 600086 ∧ cs + (0 + n60 * 1300 + 150 + n454 * 0 + 100) ≤ 7301442 → W p l e (rk 2048 600086 7301442) s m args below meth c H locs cc cs Q (F0 m 514 ls [.int q0, .int q1])) : ∀ (n464 : Nat), ∀ (ap : Nat) (F : M2) (G : M2) (C : M2) (N : M2) (U : M2) (L : M2) (B : M2) (e143 : (Nat → Int32)) (e137 : (Nat → Int32)) (e129 : M2) (e119 : M2) (v4 : Int32) (v5 : Int32) (v6 : Int32) (v7 : Int32) (v8 : Int32) (v13 : Int32) (v14 : Int32) (v15 : Int32) (v16 : Int32) (v17 : Int32) (ae143 : Nat) (ae137 : Nat) (ae129 : Nat) (rae129 : Nat → Nat) (ae119 : Nat) (rae119 : Nat → Nat) (H : Heap) (locs : List Loc) (ls : Array Slot) (cc cs : Nat), wl_L_law_464 q P nn V S O xs Ln (wl_L_law_60 q P nn V S O xs Ln K n60) (wl_L_law_454 q P nn V S O xs Ln (wl_L_law_60 q P nn V S O xs Ln K n60) K n454) K n464 ap F G C N U L B e143 e137 e129 e119 v4 v5 v6 v7 v8 v13 v14 v15 v16 v17 → TS vwCl D ([(ae143, .inl (Z 4, v6.toInt.toNat, .inl e143)), (ae137, .inl (Z 0, v4.toInt.toNat, .inl e137)), (ae129, .inl (Z 3, v5.toInt.toNat, .inr (.inr (.inr (.inr (fun j => if j < v5.toInt.toNat then some (rae129 j) else none)))))), (ae119, .inl (Z 3, v6.toInt.toNat, .inr (.inr (.inr (.inr (fun j => if j < v6.toInt.toNat then some (rae119 j) else none))))))] ++ ((CA Z a b q ca tp rd sp P ap F G C) ++ ((SM Z sa o ro nn V S O N U L B) ++ (pool Z rae129 e129 7 (v5.toInt.toNat) ++ (pool Z rae119 e119 7 (v6.toInt.toNat) ++ []))))) A s.heap H locs → lv_has ls 35 [(0, .ref scr), (2, .ref (sa)), (3, .ref (ca)), (4, .int v4), (5, .int v5), (6, .int v6), (7, .int v7), (8, .int v8), (9, .ref ae119), (10, .ref ae129), (11, .ref ae137), (12, .ref ae143), (13, .int v13), (14, .int v14), (15, .int v15), (16, .int v16), (17, .int v17)] → cc + (n464 * 0 + 0 + n60 * 140 + 14 + n454 * 0 + 3) ≤ 600086 ∧ cs + (n464 * 0 + 0 + n60 * 1300 + 150 + n454 * 0 + 100) ≤ 7301442 → W p l e (rk 2048 600086 7301442) s m args below meth c H locs cc cs Q (F0 m 464 ls []) := by
  have hx := hC.1
  have hb := hC.2.1
  intro n464
  induction n464 with
  | zero =>
    intro ap F G C N U L B e143 e137 e129 e119 v4 v5 v6 v7 v8 v13 v14 v15 v16 v17 ae143 ae137 ae129 rae129 ae119 rae119 H locs ls cc cs hm hT hl hcb
    exact False.elim hm
  | succ n464 ih464 =>
    intro ap F G C N U L B e143 e137 e129 e119 v4 v5 v6 v7 v8 v13 v14 v15 v16 v17 ae143 ae137 ae129 rae129 ae119 rae119 H locs ls cc cs hm hT hl hcb
    refine lv_iload hx hb dL_law_464 (lv_at hl 16 rfl) ?_
    refine lv_bipush (v := 7) hx hb dL_law_466 (by decide) ?_
    refine lv_icmp_ge (tgt := 493) hx hb dL_law_468 (by decide) (fun c_468 => ?_) (fun c_468 => ?_)
    · have hm := hm.1 c_468
      refine lv_aload hx hb dL_law_493 (lv_at hl 9 rfl) ?_
      refine lv_iload hx hb dL_law_495 (lv_at hl 15 rfl) ?_
      refine w_aaldR (q0 := 2) hC hK hT.1 rfl hm.1 dL_law_497 ?_
      have hm := hm.2
      refine lv_astore (lv' := [(17, .ref (rae129 v16.toInt.toNat)), (0, .ref scr), (2, .ref (sa)), (3, .ref (ca)), (4, .int v4), (5, .int v5), (6, .int v6), (7, .int v7), (8, .int v8), (9, .ref ae119), (10, .ref ae129), (11, .ref ae137), (12, .ref ae143), (13, .int v13), (14, .int v14), (15, .int v15), (16, .int v16)]) hx hb dL_law_498 hl (by decide) rfl (fun ls hl => ?_)
      refine lv_iload hx hb dL_law_500 (lv_at hl 15 rfl) ?_
      refine lv_aload hx hb dL_law_502 (lv_at hl 0 rfl) ?_
      refine lv_iconst (v := 3) hx hb dL_law_504 (by decide) ?_
      refine wr_ld (jn := 3) (f := (fun X => [(ae143, .inl (Z 4, v6.toInt.toNat, .inl e143)), (ae137, .inl (Z 0, v4.toInt.toNat, .inl e137)), (ae129, .inl (Z 3, v5.toInt.toNat, .inr (.inr (.inr (.inr (fun j => if j < v5.toInt.toNat then some (rae129 j) else none)))))), (ae119, .inl (Z 3, v6.toInt.toNat, .inr (.inr (.inr (.inr (fun j => if j < v6.toInt.toNat then some (rae119 j) else none))))))] ++ ((CA Z a b q ca tp rd sp P ap F G C) ++ ((SM Z sa o ro nn V S O N U L B) ++ (pool Z rae129 X 7 (v5.toInt.toNat) ++ (pool Z rae119 e119 7 (v6.toInt.toNat) ++ [])))))) (sm_pre (sm_pre (sm_pre pool_hf _) _) _) hC hK hT.1 hm.1 (by decide) rfl dL_law_505 ?_
      have hm := hm.2
      refine lv_if_ne (tgt := 513) hx hb dL_law_506 (by decide) (fun c_506 => ?_) (fun c_506 => ?_)
      · have hm := hm.1 c_506
        refine lv_iconst (v := 0) hx hb dL_law_513 (by decide) ?_
        exact L514 _ _ _ _ _ _ _ _ _ _ _ _ _ _ _ _ _ _ _ _ _ _ _ _ _ _ _ _ _ _ _ _ _ _ hm hT (lv_sub hl [1, 2, 3, 4, 5, 6, 7, 8, 9, 10, 11, 12, 13, 14, 16, 0] rfl) ⟨by omega, by omega⟩
      · have hm := hm.2 c_506
        refine lv_iconst (v := 1) hx hb dL_law_509 (by decide) ?_
        refine lv_goto (tgt := 514) hx hb dL_law_510 (by decide) ?_
        exact L514 _ _ _ _ _ _ _ _ _ _ _ _ _ _ _ _ _ _ _ _ _ _ _ _ _ _ _ _ _ _ _ _ _ _ hm hT (lv_sub hl [1, 2, 3, 4, 5, 6, 7, 8, 9, 10, 11, 12, 13, 14, 16, 0] rfl) ⟨by omega, by omega⟩
    · have hm := hm.2 c_468
      refine lv_aload hx hb dL_law_471 (lv_at hl 9 rfl) ?_
      refine lv_iload hx hb dL_law_473 (lv_at hl 15 rfl) ?_
      refine w_aaldR (q0 := 2) hC hK hT.1 rfl hm.1 dL_law_475 ?_
      have hm := hm.2
      refine lv_iload hx hb dL_law_476 (lv_at hl 16 rfl) ?_
      refine lv_aload_n hx hb dL_law_478 rfl (lv_at hl 2 rfl) ?_
      refine lv_iload hx hb dL_law_479 (lv_at hl 15 rfl) ?_
      refine lv_iload hx hb dL_law_481 (lv_at hl 16 rfl) ?_
      refine k_X5_legger hC hN hK hT.dropL.dropR.1 hT.dropL.dropR.D' hm wq_624 (by decide) hl.1 (Nat.le_of_ble_eq_true rfl) ⟨by omega, by omega⟩ dL_law_483 (fun r_483 hm => ?_)
      refine wr_st (jn := v17.toInt.toNat) (f := (fun X => [(ae143, .inl (Z 4, v6.toInt.toNat, .inl e143)), (ae137, .inl (Z 0, v4.toInt.toNat, .inl e137)), (ae129, .inl (Z 3, v5.toInt.toNat, .inr (.inr (.inr (.inr (fun j => if j < v5.toInt.toNat then some (rae129 j) else none)))))), (ae119, .inl (Z 3, v6.toInt.toNat, .inr (.inr (.inr (.inr (fun j => if j < v6.toInt.toNat then some (rae119 j) else none))))))] ++ ((CA Z a b q ca tp rd sp P ap F G C) ++ ((SM Z sa o ro nn V S O N U L B) ++ (pool Z rae129 X 7 (v5.toInt.toNat) ++ (pool Z rae119 e119 7 (v6.toInt.toNat) ++ [])))))) (sm_pre (sm_pre (sm_pre pool_hf _) _) _) hC hK hT hm.1 hm.2.1 rfl dL_law_486 (fun e129_486 ee129_486 H locs hT => ?_)
      have hm := hm.2.2 e129_486 ee129_486
      have hT : TS vwCl D ([(ae143, .inl (Z 4, v6.toInt.toNat, .inl e143)), (ae137, .inl (Z 0, v4.toInt.toNat, .inl e137)), (ae129, .inl (Z 3, v5.toInt.toNat, .inr (.inr (.inr (.inr (fun j => if j < v5.toInt.toNat then some (rae129 j) else none)))))), (ae119, .inl (Z 3, v6.toInt.toNat, .inr (.inr (.inr (.inr (fun j => if j < v6.toInt.toNat then some (rae119 j) else none))))))] ++ ((CA Z a b q ca tp rd sp P ap F G C) ++ ((SM Z sa o ro nn V S O N U L B) ++ (pool Z rae129 e129_486 7 (v5.toInt.toNat) ++ (pool Z rae119 e119 7 (v6.toInt.toNat) ++ []))))) A s.heap H locs := hT
      obtain ⟨v17_487, ev17_487⟩ : ∃ y : Int32, y = v17 + 1 := ⟨_, rfl⟩
      have hm := hm v17_487 ev17_487
      refine lv_iinc (v := v17_487) (lv' := [(17, .int v17_487), (0, .ref scr), (2, .ref (sa)), (3, .ref (ca)), (4, .int v4), (5, .int v5), (6, .int v6), (7, .int v7), (8, .int v8), (9, .ref ae119), (10, .ref ae129), (11, .ref ae137), (12, .ref ae143), (13, .int v13), (14, .int v14), (15, .int v15), (16, .int v16)]) hx hb dL_law_487 hl (k := 16) rfl (by rw [ev17_487]; rfl) (by decide) rfl (fun ls hl => ?_)
      refine lv_goto (tgt := 464) hx hb dL_law_490 (by decide) ?_
      exact ih464 _ _ _ _ _ _ _ _ _ _ _ _ _ _ _ _ _ _ _ _ _ _ _ _ _ _ _ _ _ _ _ _ _ hm hT (lv_sub hl [1, 2, 3, 4, 5, 6, 7, 8, 9, 10, 11, 12, 13, 14, 15, 16, 0] rfl) ⟨by omega, by omega⟩
set_option maxRecDepth 100000 in
set_option maxHeartbeats 16000000 in
theorem tl_454 {p : Program} {l : Launch} {e : Env} {s : State} {m : MethodId} {args : Array Value} {below : List Frame} {meth : Method} {c : Code} {Q : State → Prop} {A : Nat → Prop} {D : va_G} {rx : Nat → Nat} {Z : Nat → ClassId} {a b q : Nat → Nat} {ca tp rd sp : Nat} {P : M2} {sa : Nat} {o : Nat → Nat} {ro : Nat → Nat → Nat} {nn : Nat → Nat} {V S O : M2} {scr Ln : Nat} {xs : Nat → Int32} {K : Int32 → Prop} (hC : CallFix p m c cL_law 35 s args lw_g RL) (hN : NW s) (hfl : l.stackTraces = false) (hR : RX rx scr Ln xs A s s.heap) (hK : va_K D vwCl (tysG Z) s) (hLn : Ln < 2 ^ 31) (n60 : Nat) (L687 : ∀ (n687 : Nat), ∀ (ap : Nat) (F : M2) (G : M2) (C : M2) (N : M2) (U : M2) (L : M2) (B : M2) (e143 : (Nat → Int32)) (e137 : (Nat → Int32)) (e129 : M2) (e119 : M2) (v4 : Int32) (v5 : Int32) (v6 : Int32) (v7 : Int32) (v8 : Int32) (v13 : Int32) (v14 : Int32) (v15 : Int32) (v16 : Int32) (v17 : Int32) (v18 : Int32) (v19 : Int32) (ae143 : Nat) (ae137 : Nat) (ae129 : Nat) (rae129 : Nat → Nat) (ae119 : Nat) (rae119 : Nat → Nat) (H : Heap) (locs : List Loc) (ls : Array Slot) (cc cs : Nat), wl_L_law_687 q P nn V S O xs Ln (wl_L_law_60 q P nn V S O xs Ln K n60) K n687 ap F G C N U L B e143 e137 e129 e119 v4 v5 v6 v7 v8 v13 v14 v15 v16 v17 v18 v19 → TS vwCl D ([(ae143, .inl (Z 4, v6.toInt.toNat, .inl e143)), (ae137, .inl (Z 0, v4.toInt.toNat, .inl e137)), (ae129, .inl (Z 3, v5.toInt.toNat, .inr (.inr (.inr (.inr (fun j => if j < v5.toInt.toNat then some (rae129 j) else none)))))), (ae119, .inl (Z 3, v6.toInt.toNat, .inr (.inr (.inr (.inr (fun j => if j < v6.toInt.toNat then some (rae119 j) else none))))))] ++ ((CA Z a b q ca tp rd sp P ap F G C) ++ ((SM Z sa o ro nn V S O N U L B) ++ (pool Z rae129 e129 7 (v5.toInt.toNat) ++ (pool Z rae119 e119 7 (v6.toInt.toNat) ++ []))))) A s.heap H locs → lv_has ls 35 [(0, .ref scr), (2, .ref (sa)), (3, .ref (ca)), (4, .int v4), (5, .int v5), (6, .int v6), (7, .int v7), (8, .int v8), (9, .ref ae119), (10, .ref ae129), (11, .ref ae137), (12, .ref ae143), (13, .int v13), (14, .int v14), (15, .int v15), (16, .int v16), (17, .int v17), (18, .int v18), (19, .int v19)] → cc + (n687 * 0 + 3 + n60 * 140 + 14) ≤ 600086 ∧ cs + (n687 * 0 + 100 + n60 * 1300 + 150) ≤ 7301442 → W p l e (rk 2048 600086 7301442) s m args below meth c H locs cc cs Q (F0 m 687 ls [])) : ∀ (n454 : Nat), ∀ (ap : Nat) (F : M2) (G : M2) (C : M2) (N : M2) (U : M2) (L : M2) (B : M2) (e143 : (Nat → Int32)) (e137 : (Nat → Int32)) (e129 : M2) (e119 : M2) (v4 : Int32) (v5 : Int32) (v6 : Int32) (v7 : Int32) (v8 : Int32) (v13 : Int32) (v14 : Int32) (v15 : Int32) (v16 : Int32) (ae143 : Nat) (ae137 : Nat) (ae129 : Nat) (rae129 : Nat → Nat) (ae119 : Nat) (rae119 : Nat → Nat) (H : Heap) (locs : List Loc) (ls : Array Slot) (cc cs : Nat), wl_L_law_454 q P nn V S O xs Ln (wl_L_law_60 q P nn V S O xs Ln K n60) K n454 ap F G C N U L B e143 e137 e129 e119 v4 v5 v6 v7 v8 v13 v14 v15 v16 → TS vwCl D ([(ae143, .inl (Z 4, v6.toInt.toNat, .inl e143)), (ae137, .inl (Z 0, v4.toInt.toNat, .inl e137)), (ae129, .inl (Z 3, v5.toInt.toNat, .inr (.inr (.inr (.inr (fun j => if j < v5.toInt.toNat then some (rae129 j) else none)))))), (ae119, .inl (Z 3, v6.toInt.toNat, .inr (.inr (.inr (.inr (fun j => if j < v6.toInt.toNat then some (rae119 j) else none))))))] ++ ((CA Z a b q ca tp rd sp P ap F G C) ++ ((SM Z sa o ro nn V S O N U L B) ++ (pool Z rae129 e129 7 (v5.toInt.toNat) ++ (pool Z rae119 e119 7 (v6.toInt.toNat) ++ []))))) A s.heap H locs → lv_has ls 35 [(0, .ref scr), (2, .ref (sa)), (3, .ref (ca)), (4, .int v4), (5, .int v5), (6, .int v6), (7, .int v7), (8, .int v8), (9, .ref ae119), (10, .ref ae129), (11, .ref ae137), (12, .ref ae143), (13, .int v13), (14, .int v14), (15, .int v15), (16, .int v16)] → cc + (n454 * 0 + 3 + n60 * 140 + 14) ≤ 600086 ∧ cs + (n454 * 0 + 100 + n60 * 1300 + 150) ≤ 7301442 → W p l e (rk 2048 600086 7301442) s m args below meth c H locs cc cs Q (F0 m 454 ls []) := by
  have hx := hC.1
  have hb := hC.2.1
  intro n454
  induction n454 with
  | zero =>
    intro ap F G C N U L B e143 e137 e129 e119 v4 v5 v6 v7 v8 v13 v14 v15 v16 ae143 ae137 ae129 rae129 ae119 rae119 H locs ls cc cs hm hT hl hcb
    exact False.elim hm
  | succ n454 ih454 =>
    have L634 : ∀ (ap : Nat) (F : M2) (G : M2) (C : M2) (N : M2) (U : M2) (L : M2) (B : M2) (e143 : (Nat → Int32)) (e137 : (Nat → Int32)) (e129 : M2) (e119 : M2) (v4 : Int32) (v5 : Int32) (v6 : Int32) (v7 : Int32) (v8 : Int32) (v13 : Int32) (v14 : Int32) (v15 : Int32) (v16 : Int32) (v17 : Int32) (ae143 : Nat) (ae137 : Nat) (ae129 : Nat) (rae129 : Nat → Nat) (ae119 : Nat) (rae119 : Nat → Nat) (H : Heap) (locs : List Loc) (ls : Array Slot) (cc cs : Nat), wj_L_law_634 q P nn V S O xs Ln (wl_L_law_60 q P nn V S O xs Ln K n60) (wl_L_law_454 q P nn V S O xs Ln (wl_L_law_60 q P nn V S O xs Ln K n60) K n454) K ap F G C N U L B e143 e137 e129 e119 v4 v5 v6 v7 v8 v13 v14 v15 v16 v17 → TS vwCl D ([(ae143, .inl (Z 4, v6.toInt.toNat, .inl e143)), (ae137, .inl (Z 0, v4.toInt.toNat, .inl e137)), (ae129, .inl (Z 3, v5.toInt.toNat, .inr (.inr (.inr (.inr (fun j => if j < v5.toInt.toNat then some (rae129 j) else none)))))), (ae119, .inl (Z 3, v6.toInt.toNat, .inr (.inr (.inr (.inr (fun j => if j < v6.toInt.toNat then some (rae119 j) else none))))))] ++ ((CA Z a b q ca tp rd sp P ap F G C) ++ ((SM Z sa o ro nn V S O N U L B) ++ (pool Z rae129 e129 7 (v5.toInt.toNat) ++ (pool Z rae119 e119 7 (v6.toInt.toNat) ++ []))))) A s.heap H locs → lv_has ls 35 [(0, .ref scr), (2, .ref (sa)), (3, .ref (ca)), (4, .int v4), (5, .int v5), (6, .int v6), (7, .int v7), (8, .int v8), (9, .ref ae119), (10, .ref ae129), (11, .ref ae137), (12, .ref ae143), (13, .int v13), (14, .int v14), (15, .int v15), (16, .int v16), (17, .ref (rae129 v17.toInt.toNat))] → cc + (0 + n60 * 140 + 14 + n454 * 0 + 3) ≤ 600086 ∧ cs + (0 + n60 * 1300 + 150 + n454 * 0 + 100) ≤ 7301442 → W p l e (rk 2048 600086 7301442) s m args below meth c H locs cc cs Q (F0 m 634 ls []) := tl_634 hC hN hfl hR hK hLn n60 n454 ih454
    have L597 : ∀ (ap : Nat) (F : M2) (G : M2) (C : M2) (N : M2) (U : M2) (L : M2) (B : M2) (e143 : (Nat → Int32)) (e137 : (Nat → Int32)) (e129 : M2) (e119 : M2) (v4 : Int32) (v5 : Int32) (v6 : Int32) (v7 : Int32) (v8 : Int32) (v13 : Int32) (v14 : Int32) (v15 : Int32) (v16 : Int32) (v17 : Int32) (ae143 : Nat) (ae137 : Nat) (ae129 : Nat) (rae129 : Nat → Nat) (ae119 : Nat) (rae119 : Nat → Nat) (H : Heap) (locs : List Loc) (ls : Array Slot) (cc cs : Nat), wj_L_law_597 q P nn V S O xs Ln (wl_L_law_60 q P nn V S O xs Ln K n60) (wl_L_law_454 q P nn V S O xs Ln (wl_L_law_60 q P nn V S O xs Ln K n60) K n454) K ap F G C N U L B e143 e137 e129 e119 v4 v5 v6 v7 v8 v13 v14 v15 v16 v17 → TS vwCl D ([(ae143, .inl (Z 4, v6.toInt.toNat, .inl e143)), (ae137, .inl (Z 0, v4.toInt.toNat, .inl e137)), (ae129, .inl (Z 3, v5.toInt.toNat, .inr (.inr (.inr (.inr (fun j => if j < v5.toInt.toNat then some (rae129 j) else none)))))), (ae119, .inl (Z 3, v6.toInt.toNat, .inr (.inr (.inr (.inr (fun j => if j < v6.toInt.toNat then some (rae119 j) else none))))))] ++ ((CA Z a b q ca tp rd sp P ap F G C) ++ ((SM Z sa o ro nn V S O N U L B) ++ (pool Z rae129 e129 7 (v5.toInt.toNat) ++ (pool Z rae119 e119 7 (v6.toInt.toNat) ++ []))))) A s.heap H locs → lv_has ls 35 [(0, .ref scr), (2, .ref (sa)), (3, .ref (ca)), (4, .int v4), (5, .int v5), (6, .int v6), (7, .int v7), (8, .int v8), (9, .ref ae119), (10, .ref ae129), (11, .ref ae137), (12, .ref ae143), (13, .int v13), (14, .int v14), (15, .int v15), (16, .int v16), (17, .ref (rae129 v17.toInt.toNat))] → cc + (0 + n60 * 140 + 14 + n454 * 0 + 3) ≤ 600086 ∧ cs + (0 + n60 * 1300 + 150 + n454 * 0 + 100) ≤ 7301442 → W p l e (rk 2048 600086 7301442) s m args below meth c H locs cc cs Q (F0 m 597 ls []) := tl_597 hC hN hfl hR hK hLn n60 n454 L634
    have L564 : ∀ (ap : Nat) (F : M2) (G : M2) (C : M2) (N : M2) (U : M2) (L : M2) (B : M2) (e143 : (Nat → Int32)) (e137 : (Nat → Int32)) (e129 : M2) (e119 : M2) (v4 : Int32) (v5 : Int32) (v6 : Int32) (v7 : Int32) (v8 : Int32) (v13 : Int32) (v14 : Int32) (v15 : Int32) (v16 : Int32) (v17 : Int32) (q0 : Int32) (q1 : Int32) (ae143 : Nat) (ae137 : Nat) (ae129 : Nat) (rae129 : Nat → Nat) (ae119 : Nat) (rae119 : Nat → Nat) (H : Heap) (locs : List Loc) (ls : Array Slot) (cc cs : Nat), wj_L_law_564 q P nn V S O xs Ln (wl_L_law_60 q P nn V S O xs Ln K n60) (wl_L_law_454 q P nn V S O xs Ln (wl_L_law_60 q P nn V S O xs Ln K n60) K n454) K ap F G C N U L B e143 e137 e129 e119 v4 v5 v6 v7 v8 v13 v14 v15 v16 v17 q0 q1 → TS vwCl D ([(ae143, .inl (Z 4, v6.toInt.toNat, .inl e143)), (ae137, .inl (Z 0, v4.toInt.toNat, .inl e137)), (ae129, .inl (Z 3, v5.toInt.toNat, .inr (.inr (.inr (.inr (fun j => if j < v5.toInt.toNat then some (rae129 j) else none)))))), (ae119, .inl (Z 3, v6.toInt.toNat, .inr (.inr (.inr (.inr (fun j => if j < v6.toInt.toNat then some (rae119 j) else none))))))] ++ ((CA Z a b q ca tp rd sp P ap F G C) ++ ((SM Z sa o ro nn V S O N U L B) ++ (pool Z rae129 e129 7 (v5.toInt.toNat) ++ (pool Z rae119 e119 7 (v6.toInt.toNat) ++ []))))) A s.heap H locs → lv_has ls 35 [(0, .ref scr), (2, .ref (sa)), (3, .ref (ca)), (4, .int v4), (5, .int v5), (6, .int v6), (7, .int v7), (8, .int v8), (9, .ref ae119), (10, .ref ae129), (11, .ref ae137), (12, .ref ae143), (13, .int v13), (14, .int v14), (15, .int v15), (16, .int v16), (17, .ref (rae129 v17.toInt.toNat))] → cc + (0 + n60 * 140 + 14 + n454 * 0 + 3) ≤ 600086 ∧ cs + (0 + n60 * 1300 + 150 + n454 * 0 + 100) ≤ 7301442 → W p l e (rk 2048 600086 7301442) s m args below meth c H locs cc cs Q (F0 m 564 ls [.int q0, .int q1]) := tl_564 hC hN hfl hR hK hLn n60 n454 L597
    have L514 : ∀ (ap : Nat) (F : M2) (G : M2) (C : M2) (N : M2) (U : M2) (L : M2) (B : M2) (e143 : (Nat → Int32)) (e137 : (Nat → Int32)) (e129 : M2) (e119 : M2) (v4 : Int32) (v5 : Int32) (v6 : Int32) (v7 : Int32) (v8 : Int32) (v13 : Int32) (v14 : Int32) (v16 : Int32) (v17 : Int32) (q0 : Int32) (q1 : Int32) (ae143 : Nat) (ae137 : Nat) (ae129 : Nat) (rae129 : Nat → Nat) (ae119 : Nat) (rae119 : Nat → Nat) (H : Heap) (locs : List Loc) (ls : Array Slot) (cc cs : Nat), wj_L_law_514 q P nn V S O xs Ln (wl_L_law_60 q P nn V S O xs Ln K n60) (wl_L_law_454 q P nn V S O xs Ln (wl_L_law_60 q P nn V S O xs Ln K n60) K n454) K ap F G C N U L B e143 e137 e129 e119 v4 v5 v6 v7 v8 v13 v14 v16 v17 q0 q1 → TS vwCl D ([(ae143, .inl (Z 4, v6.toInt.toNat, .inl e143)), (ae137, .inl (Z 0, v4.toInt.toNat, .inl e137)), (ae129, .inl (Z 3, v5.toInt.toNat, .inr (.inr (.inr (.inr (fun j => if j < v5.toInt.toNat then some (rae129 j) else none)))))), (ae119, .inl (Z 3, v6.toInt.toNat, .inr (.inr (.inr (.inr (fun j => if j < v6.toInt.toNat then some (rae119 j) else none))))))] ++ ((CA Z a b q ca tp rd sp P ap F G C) ++ ((SM Z sa o ro nn V S O N U L B) ++ (pool Z rae129 e129 7 (v5.toInt.toNat) ++ (pool Z rae119 e119 7 (v6.toInt.toNat) ++ []))))) A s.heap H locs → lv_has ls 35 [(0, .ref scr), (2, .ref (sa)), (3, .ref (ca)), (4, .int v4), (5, .int v5), (6, .int v6), (7, .int v7), (8, .int v8), (9, .ref ae119), (10, .ref ae129), (11, .ref ae137), (12, .ref ae143), (13, .int v13), (14, .int v14), (16, .int v16), (17, .ref (rae129 v17.toInt.toNat))] → cc + (0 + n60 * 140 + 14 + n454 * 0 + 3) ≤ 600086 ∧ cs + (0 + n60 * 1300 + 150 + n454 * 0 + 100) ≤ 7301442 → W p l e (rk 2048 600086 7301442) s m args below meth c H locs cc cs Q (F0 m 514 ls [.int q0, .int q1]) := tl_514 hC hN hfl hR hK hLn n60 n454 L564
    have L464 : ∀ (n464 : Nat), ∀ (ap : Nat) (F : M2) (G : M2) (C : M2) (N : M2) (U : M2) (L : M2) (B : M2) (e143 : (Nat → Int32)) (e137 : (Nat → Int32)) (e129 : M2) (e119 : M2) (v4 : Int32) (v5 : Int32) (v6 : Int32) (v7 : Int32) (v8 : Int32) (v13 : Int32) (v14 : Int32) (v15 : Int32) (v16 : Int32) (v17 : Int32) (ae143 : Nat) (ae137 : Nat) (ae129 : Nat) (rae129 : Nat → Nat) (ae119 : Nat) (rae119 : Nat → Nat) (H : Heap) (locs : List Loc) (ls : Array Slot) (cc cs : Nat), wl_L_law_464 q P nn V S O xs Ln (wl_L_law_60 q P nn V S O xs Ln K n60) (wl_L_law_454 q P nn V S O xs Ln (wl_L_law_60 q P nn V S O xs Ln K n60) K n454) K n464 ap F G C N U L B e143 e137 e129 e119 v4 v5 v6 v7 v8 v13 v14 v15 v16 v17 → TS vwCl D ([(ae143, .inl (Z 4, v6.toInt.toNat, .inl e143)), (ae137, .inl (Z 0, v4.toInt.toNat, .inl e137)), (ae129, .inl (Z 3, v5.toInt.toNat, .inr (.inr (.inr (.inr (fun j => if j < v5.toInt.toNat then some (rae129 j) else none)))))), (ae119, .inl (Z 3, v6.toInt.toNat, .inr (.inr (.inr (.inr (fun j => if j < v6.toInt.toNat then some (rae119 j) else none))))))] ++ ((CA Z a b q ca tp rd sp P ap F G C) ++ ((SM Z sa o ro nn V S O N U L B) ++ (pool Z rae129 e129 7 (v5.toInt.toNat) ++ (pool Z rae119 e119 7 (v6.toInt.toNat) ++ []))))) A s.heap H locs → lv_has ls 35 [(0, .ref scr), (2, .ref (sa)), (3, .ref (ca)), (4, .int v4), (5, .int v5), (6, .int v6), (7, .int v7), (8, .int v8), (9, .ref ae119), (10, .ref ae129), (11, .ref ae137), (12, .ref ae143), (13, .int v13), (14, .int v14), (15, .int v15), (16, .int v16), (17, .int v17)] → cc + (n464 * 0 + 0 + n60 * 140 + 14 + n454 * 0 + 3) ≤ 600086 ∧ cs + (n464 * 0 + 0 + n60 * 1300 + 150 + n454 * 0 + 100) ≤ 7301442 → W p l e (rk 2048 600086 7301442) s m args below meth c H locs cc cs Q (F0 m 464 ls []) := tl_464 hC hN hfl hR hK hLn n60 n454 L514
    intro ap F G C N U L B e143 e137 e129 e119 v4 v5 v6 v7 v8 v13 v14 v15 v16 ae143 ae137 ae129 rae129 ae119 rae119 H locs ls cc cs hm hT hl hcb
    refine lv_iload hx hb dL_law_454 (lv_at hl 15 rfl) ?_
    refine lv_iload hx hb dL_law_456 (lv_at hl 4 rfl) ?_
    refine lv_icmp_ge (tgt := 675) hx hb dL_law_458 (by decide) (fun c_458 => ?_) (fun c_458 => ?_)
    · have hm := hm.1 c_458
      refine lv_iconst (v := 0) hx hb dL_law_675 (by decide) ?_
      refine lv_istore (lv' := [(16, .int 0), (0, .ref scr), (2, .ref (sa)), (3, .ref (ca)), (4, .int v4), (5, .int v5), (6, .int v6), (7, .int v7), (8, .int v8), (9, .ref ae119), (10, .ref ae129), (11, .ref ae137), (12, .ref ae143), (13, .int v13), (14, .int v14), (15, .int v15)]) hx hb dL_law_676 hl (by decide) rfl (fun ls hl => ?_)
      refine lv_iconst (v := 0) hx hb dL_law_678 (by decide) ?_
      refine lv_istore (lv' := [(17, .int 0), (16, .int 0), (0, .ref scr), (2, .ref (sa)), (3, .ref (ca)), (4, .int v4), (5, .int v5), (6, .int v6), (7, .int v7), (8, .int v8), (9, .ref ae119), (10, .ref ae129), (11, .ref ae137), (12, .ref ae143), (13, .int v13), (14, .int v14), (15, .int v15)]) hx hb dL_law_679 hl (by decide) rfl (fun ls hl => ?_)
      refine lv_iconst (v := 0) hx hb dL_law_681 (by decide) ?_
      refine lv_istore (lv' := [(18, .int 0), (17, .int 0), (16, .int 0), (0, .ref scr), (2, .ref (sa)), (3, .ref (ca)), (4, .int v4), (5, .int v5), (6, .int v6), (7, .int v7), (8, .int v8), (9, .ref ae119), (10, .ref ae129), (11, .ref ae137), (12, .ref ae143), (13, .int v13), (14, .int v14), (15, .int v15)]) hx hb dL_law_682 hl (by decide) rfl (fun ls hl => ?_)
      refine lv_iconst (v := 0) hx hb dL_law_684 (by decide) ?_
      refine lv_istore (lv' := [(19, .int 0), (18, .int 0), (17, .int 0), (16, .int 0), (0, .ref scr), (2, .ref (sa)), (3, .ref (ca)), (4, .int v4), (5, .int v5), (6, .int v6), (7, .int v7), (8, .int v8), (9, .ref ae119), (10, .ref ae129), (11, .ref ae137), (12, .ref ae143), (13, .int v13), (14, .int v14), (15, .int v15)]) hx hb dL_law_685 hl (by decide) rfl (fun ls hl => ?_)
      exact L687 _ _ _ _ _ _ _ _ _ _ _ _ _ _ _ _ _ _ _ _ _ _ _ _ _ _ _ _ _ _ _ _ _ _ _ _ hm hT (lv_sub hl [4, 5, 6, 7, 8, 9, 10, 11, 12, 13, 14, 15, 16, 17, 18, 3, 2, 1, 0] rfl) ⟨by omega, by omega⟩
    · have hm := hm.2 c_458
      refine lv_iconst (v := 0) hx hb dL_law_461 (by decide) ?_
      refine lv_istore (lv' := [(17, .int 0), (0, .ref scr), (2, .ref (sa)), (3, .ref (ca)), (4, .int v4), (5, .int v5), (6, .int v6), (7, .int v7), (8, .int v8), (9, .ref ae119), (10, .ref ae129), (11, .ref ae137), (12, .ref ae143), (13, .int v13), (14, .int v14), (15, .int v15), (16, .int v16)]) hx hb dL_law_462 hl (by decide) rfl (fun ls hl => ?_)
      exact L464 _ _ _ _ _ _ _ _ _ _ _ _ _ _ _ _ _ _ _ _ _ _ _ _ _ _ _ _ _ _ _ _ _ _ hm hT (lv_sub hl [1, 2, 3, 4, 5, 6, 7, 8, 9, 10, 11, 12, 13, 14, 15, 16, 0] rfl) ⟨by omega, by omega⟩
