set_option maxRecDepth 100000 in
set_option maxHeartbeats 16000000 in
theorem tl_687 {p : Program} {l : Launch} {e : Env} {s : State} {m : MethodId} {args : Array Value} {below : List Frame} {meth : Method} {c : Code} {Q : State → Prop} {A : Nat → Prop} {D : va_G} {rx : Nat → Nat} {Z : Nat → ClassId} {a b q : Nat → Nat} {ca tp rd sp : Nat} {P : M2} {sa : Nat} {o : Nat → Nat} {ro : Nat → Nat → Nat} {nn : Nat → Nat} {V S O : M2} {scr Ln : Nat} {xs : Nat → Int32} {K : Int32 → Prop} (hC : CallFix p m c cL_law 35 s args lw_g RL) (hN : NW s) (hfl : l.stackTraces = false) (hR : RX rx scr Ln xs A s s.heap) (hK : va_K D vwCl (tysG Z) s) (hLn : Ln < 2 ^ 31) (n60 : Nat) (L905 : ∀ (n905 : Nat), ∀ (ap : Nat) (F : M2) (G : M2) (C : M2) (N : M2) (U : M2) (L : M2) (B : M2) (e897 : (Nat → Int32)) (e143 : (Nat → Int32)) (e137 : (Nat → Int32)) (e129 : M2) (e119 : M2) (v4 : Int32) (v5 : Int32) (v6 : Int32) (v7 : Int32) (v8 : Int32) (v19 : Int32) (v20 : Int32) (v21 : Int64) (v24 : Int32) (ae897 : Nat) (ae143 : Nat) (ae137 : Nat) (ae129 : Nat) (rae129 : Nat → Nat) (ae119 : Nat) (rae119 : Nat → Nat) (H : Heap) (locs : List Loc) (ls : Array Slot) (cc cs : Nat), wl_L_law_905 q P nn V S O xs Ln (wl_L_law_60 q P nn V S O xs Ln K n60) K n905 ap F G C N U L B e897 e143 e137 e129 e119 v4 v5 v6 v7 v8 v19 v20 v21 v24 → TS vwCl D ([(ae897, .inl (Z 0, 13, .inl e897)), (ae143, .inl (Z 4, v6.toInt.toNat, .inl e143)), (ae137, .inl (Z 0, v4.toInt.toNat, .inl e137)), (ae129, .inl (Z 3, v5.toInt.toNat, .inr (.inr (.inr (.inr (fun j => if j < v5.toInt.toNat then some (rae129 j) else none)))))), (ae119, .inl (Z 3, v6.toInt.toNat, .inr (.inr (.inr (.inr (fun j => if j < v6.toInt.toNat then some (rae119 j) else none))))))] ++ ((CA Z a b q ca tp rd sp P ap F G C) ++ ((SM Z sa o ro nn V S O N U L B) ++ (pool Z rae129 e129 7 (v5.toInt.toNat) ++ (pool Z rae119 e119 7 (v6.toInt.toNat) ++ []))))) A s.heap H locs → lv_has ls 35 [(0, .ref scr), (2, .ref (sa)), (3, .ref (ca)), (4, .int v4), (5, .int v5), (6, .int v6), (7, .int v7), (8, .int v8), (9, .ref ae119), (10, .ref ae129), (11, .ref ae137), (12, .ref ae143), (19, .int v19), (20, .int v20), (21, .long v21), (23, .ref ae897), (24, .int v24)] → cc + (n905 * 0 + 2 + n60 * 140 + 14) ≤ 600086 ∧ cs + (n905 * 0 + 80 + n60 * 1300 + 150) ≤ 7301442 → W p l e (rk 2048 600086 7301442) s m args below meth c H locs cc cs Q (F0 m 905 ls [])) : ∀ (n687 : Nat), ∀ (ap : Nat) (F : M2) (G : M2) (C : M2) (N : M2) (U : M2) (L : M2) (B : M2) (e143 : (Nat → Int32)) (e137 : (Nat → Int32)) (e129 : M2) (e119 : M2) (v4 : Int32) (v5 : Int32) (v6 : Int32) (v7 : Int32) (v8 : Int32) (v13 : Int32) (v14 : Int32) (v15 : Int32) (v16 : Int32) (v17 : Int32) (v18 : Int32) (v19 : Int32) (ae143 : Nat) (ae137 : Nat) (ae129 : Nat) (rae129 : Nat → Nat) (ae119 : Nat) (rae119 : Nat → Nat) (H : Heap) (locs : List Loc) (ls : Array Slot) (cc cs : Nat), wl_L_law_687 q P nn V S O xs Ln (wl_L_law_60 q P nn V S O xs Ln K n60) K n687 ap F G C N U L B e143 e137 e129 e119 v4 v5 v6 v7 v8 v13 v14 v15 v16 v17 v18 v19 → TS vwCl D ([(ae143, .inl (Z 4, v6.toInt.toNat, .inl e143)), (ae137, .inl (Z 0, v4.toInt.toNat, .inl e137)), (ae129, .inl (Z 3, v5.toInt.toNat, .inr (.inr (.inr (.inr (fun j => if j < v5.toInt.toNat then some (rae129 j) else none)))))), (ae119, .inl (Z 3, v6.toInt.toNat, .inr (.inr (.inr (.inr (fun j => if j < v6.toInt.toNat then some (rae119 j) else none))))))] ++ ((CA Z a b q ca tp rd sp P ap F G C) ++ ((SM Z sa o ro nn V S O N U L B) ++ (pool Z rae129 e129 7 (v5.toInt.toNat) ++ (pool Z rae119 e119 7 (v6.toInt.toNat) ++ []))))) A s.heap H locs → lv_has ls 35 [(0, .ref scr), (2, .ref (sa)), (3, .ref (ca)), (4, .int v4), (5, .int v5), (6, .int v6), (7, .int v7), (8, .int v8), (9, .ref ae119), (10, .ref ae129), (11, .ref ae137), (12, .ref ae143), (13, .int v13), (14, .int v14), (15, .int v15), (16, .int v16), (17, .int v17), (18, .int v18), (19, .int v19)] → cc + (n687 * 0 + 3 + n60 * 140 + 14) ≤ 600086 ∧ cs + (n687 * 0 + 100 + n60 * 1300 + 150) ≤ 7301442 → W p l e (rk 2048 600086 7301442) s m args below meth c H locs cc cs Q (F0 m 687 ls []) := by
  have hx := hC.1
  have hb := hC.2.1
  intro n687
  induction n687 with
  | zero =>
    intro ap F G C N U L B e143 e137 e129 e119 v4 v5 v6 v7 v8 v13 v14 v15 v16 v17 v18 v19 ae143 ae137 ae129 rae129 ae119 rae119 H locs ls cc cs hm hT hl hcb
    exact False.elim hm
  | succ n687 ih687 =>
    have L745 : ∀ (ap : Nat) (F : M2) (G : M2) (C : M2) (N : M2) (U : M2) (L : M2) (B : M2) (e143 : (Nat → Int32)) (e137 : (Nat → Int32)) (e129 : M2) (e119 : M2) (v4 : Int32) (v5 : Int32) (v6 : Int32) (v7 : Int32) (v8 : Int32) (v13 : Int32) (v14 : Int32) (v15 : Int32) (v16 : Int32) (v17 : Int32) (v19 : Int32) (q0 : Int32) (q1 : Int32) (ae143 : Nat) (ae137 : Nat) (ae129 : Nat) (rae129 : Nat → Nat) (ae119 : Nat) (rae119 : Nat → Nat) (H : Heap) (locs : List Loc) (ls : Array Slot) (cc cs : Nat), wj_L_law_745 q P nn V S O xs Ln (wl_L_law_60 q P nn V S O xs Ln K n60) (wl_L_law_687 q P nn V S O xs Ln (wl_L_law_60 q P nn V S O xs Ln K n60) K n687) K ap F G C N U L B e143 e137 e129 e119 v4 v5 v6 v7 v8 v13 v14 v15 v16 v17 v19 q0 q1 → TS vwCl D ([(ae143, .inl (Z 4, v6.toInt.toNat, .inl e143)), (ae137, .inl (Z 0, v4.toInt.toNat, .inl e137)), (ae129, .inl (Z 3, v5.toInt.toNat, .inr (.inr (.inr (.inr (fun j => if j < v5.toInt.toNat then some (rae129 j) else none)))))), (ae119, .inl (Z 3, v6.toInt.toNat, .inr (.inr (.inr (.inr (fun j => if j < v6.toInt.toNat then some (rae119 j) else none))))))] ++ ((CA Z a b q ca tp rd sp P ap F G C) ++ ((SM Z sa o ro nn V S O N U L B) ++ (pool Z rae129 e129 7 (v5.toInt.toNat) ++ (pool Z rae119 e119 7 (v6.toInt.toNat) ++ []))))) A s.heap H locs → lv_has ls 35 [(0, .ref scr), (2, .ref (sa)), (3, .ref (ca)), (4, .int v4), (5, .int v5), (6, .int v6), (7, .int v7), (8, .int v8), (9, .ref ae119), (10, .ref ae129), (11, .ref ae137), (12, .ref ae143), (13, .int v13), (14, .int v14), (15, .int v15), (16, .int v16), (17, .int v17), (19, .int v19)] → cc + (0 + n60 * 140 + 14 + n687 * 0 + 3) ≤ 600086 ∧ cs + (0 + n60 * 1300 + 150 + n687 * 0 + 100) ≤ 7301442 → W p l e (rk 2048 600086 7301442) s m args below meth c H locs cc cs Q (F0 m 745 ls [.int q0, .int q1]) := tl_745 hC hN hfl hR hK hLn n60 n687 ih687
    intro ap F G C N U L B e143 e137 e129 e119 v4 v5 v6 v7 v8 v13 v14 v15 v16 v17 v18 v19 ae143 ae137 ae129 rae129 ae119 rae119 H locs ls cc cs hm hT hl hcb
    refine lv_iload hx hb dL_law_687 (lv_at hl 18 rfl) ?_
    refine lv_iload hx hb dL_law_689 (lv_at hl 3 rfl) ?_
    refine lv_icmp_ge (tgt := 798) hx hb dL_law_691 (by decide) (fun c_691 => ?_) (fun c_691 => ?_)
    · have hm := hm.1 c_691
      refine lv_iload hx hb dL_law_798 (lv_at hl 13 rfl) ?_
      refine lv_iconst (v := 3) hx hb dL_law_800 (by decide) ?_
      refine lv_icmp_eq (tgt := 872) hx hb dL_law_801 (by decide) (fun c_801 => ?_) (fun c_801 => ?_)
      · have hm := hm.1 c_801
        refine lv_iconst (v := 0) hx hb dL_law_872 (by decide) ?_
        exact hm.elim
      · have hm := hm.2 c_801
        refine lv_iload hx hb dL_law_804 (lv_at hl 17 rfl) ?_
        refine lv_iload hx hb dL_law_806 (lv_at hl 12 rfl) ?_
        refine lv_icmp_ne (tgt := 872) hx hb dL_law_808 (by decide) (fun c_808 => ?_) (fun c_808 => ?_)
        · have hm := hm.1 c_808
          refine lv_iconst (v := 0) hx hb dL_law_872 (by decide) ?_
          exact hm.elim
        · have hm := hm.2 c_808
          refine lv_aload_n hx hb dL_law_811 rfl (lv_at hl 2 rfl) ?_
          refine lv_bipush (v := 9) hx hb dL_law_812 (by decide) ?_
          refine k_X5_count hC hN hK hT.dropL.dropR.1 hT.dropL.dropR.D' hm wq_507 (by decide) hl.1 (Nat.le_of_ble_eq_true rfl) ⟨by omega, by omega⟩ dL_law_814 (fun r_814 hm => ?_)
          refine lv_iload hx hb dL_law_817 (lv_at hl 12 rfl) ?_
          refine lv_icmp_ne (tgt := 872) hx hb dL_law_819 (by decide) (fun c_819 => ?_) (fun c_819 => ?_)
          · have hm := hm.1 c_819
            refine lv_iconst (v := 0) hx hb dL_law_872 (by decide) ?_
            exact hm.elim
          · have hm := hm.2 c_819
            refine lv_aload_n hx hb dL_law_822 rfl (lv_at hl 2 rfl) ?_
            refine lv_bipush (v := 8) hx hb dL_law_823 (by decide) ?_
            refine k_X5_count hC hN hK hT.dropL.dropR.1 hT.dropL.dropR.D' hm wq_507 (by decide) hl.1 (Nat.le_of_ble_eq_true rfl) ⟨by omega, by omega⟩ dL_law_825 (fun r_825 hm => ?_)
            refine lv_iload hx hb dL_law_828 (lv_at hl 12 rfl) ?_
            refine lv_iadd hx hb dL_law_830 ?_
            refine lv_aload_n hx hb dL_law_831 rfl (lv_at hl 2 rfl) ?_
            refine lv_bipush (v := 10) hx hb dL_law_832 (by decide) ?_
            refine k_X5_count hC hN hK hT.dropL.dropR.1 hT.dropL.dropR.D' hm wq_507 (by decide) hl.1 (Nat.le_of_ble_eq_true rfl) ⟨by omega, by omega⟩ dL_law_834 (fun r_834 hm => ?_)
            refine lv_iadd hx hb dL_law_837 ?_
            refine lv_iload hx hb dL_law_838 (lv_at hl 5 rfl) ?_
            refine lv_icmp_ne (tgt := 872) hx hb dL_law_840 (by decide) (fun c_840 => ?_) (fun c_840 => ?_)
            · have hm := hm.1 c_840
              refine lv_iconst (v := 0) hx hb dL_law_872 (by decide) ?_
              exact hm.elim
            · have hm := hm.2 c_840
              refine lv_aload_n hx hb dL_law_843 rfl (lv_at hl 2 rfl) ?_
              refine lv_bipush (v := 11) hx hb dL_law_844 (by decide) ?_
              refine k_X5_count hC hN hK hT.dropL.dropR.1 hT.dropL.dropR.D' hm wq_507 (by decide) hl.1 (Nat.le_of_ble_eq_true rfl) ⟨by omega, by omega⟩ dL_law_846 (fun r_846 hm => ?_)
              refine lv_iload hx hb dL_law_849 (lv_at hl 15 rfl) ?_
              refine lv_icmp_ne (tgt := 872) hx hb dL_law_851 (by decide) (fun c_851 => ?_) (fun c_851 => ?_)
              · have hm := hm.1 c_851
                refine lv_iconst (v := 0) hx hb dL_law_872 (by decide) ?_
                exact hm.elim
              · have hm := hm.2 c_851
                refine lv_aload_n hx hb dL_law_854 rfl (lv_at hl 2 rfl) ?_
                refine lv_bipush (v := 12) hx hb dL_law_855 (by decide) ?_
                refine k_X5_count hC hN hK hT.dropL.dropR.1 hT.dropL.dropR.D' hm wq_507 (by decide) hl.1 (Nat.le_of_ble_eq_true rfl) ⟨by omega, by omega⟩ dL_law_857 (fun r_857 hm => ?_)
                refine lv_iload hx hb dL_law_860 (lv_at hl 14 rfl) ?_
                refine lv_icmp_ne (tgt := 872) hx hb dL_law_862 (by decide) (fun c_862 => ?_) (fun c_862 => ?_)
                · have hm := hm.1 c_862
                  refine lv_iconst (v := 0) hx hb dL_law_872 (by decide) ?_
                  exact hm.elim
                · have hm := hm.2 c_862
                  refine lv_iload hx hb dL_law_865 (lv_at hl 16 rfl) ?_
                  refine lv_iload hx hb dL_law_867 (lv_at hl 14 rfl) ?_
                  refine lv_icmp_eq (tgt := 874) hx hb dL_law_869 (by decide) (fun c_869 => ?_) (fun c_869 => ?_)
                  · have hm := hm.1 c_869
                    refine lv_aload_n hx hb dL_law_874 rfl (lv_at hl 2 rfl) ?_
                    refine lv_iconst (v := 1) hx hb dL_law_875 (by decide) ?_
                    refine k_X5_count hC hN hK hT.dropL.dropR.1 hT.dropL.dropR.D' hm wq_507 (by decide) hl.1 (Nat.le_of_ble_eq_true rfl) ⟨by omega, by omega⟩ dL_law_876 (fun r_876 hm => ?_)
                    refine lv_istore (lv' := [(19, .int r_876), (0, .ref scr), (2, .ref (sa)), (3, .ref (ca)), (4, .int v4), (5, .int v5), (6, .int v6), (7, .int v7), (8, .int v8), (9, .ref ae119), (10, .ref ae129), (11, .ref ae137), (12, .ref ae143), (13, .int v13), (14, .int v14), (15, .int v15), (16, .int v16), (17, .int v17), (18, .int v18)]) hx hb dL_law_879 hl (by decide) rfl (fun ls hl => ?_)
                    refine lv_aload_n hx hb dL_law_881 rfl (lv_at hl 3 rfl) ?_
                    refine lv_bipush (v := 10) hx hb dL_law_882 (by decide) ?_
                    refine k_X5_count hC hN hK hT.dropL.dropR.1 hT.dropL.dropR.D' hm wq_507 (by decide) hl.1 (Nat.le_of_ble_eq_true rfl) ⟨by omega, by omega⟩ dL_law_884 (fun r_884 hm => ?_)
                    refine lv_istore (lv' := [(20, .int r_884), (19, .int r_876), (0, .ref scr), (2, .ref (sa)), (3, .ref (ca)), (4, .int v4), (5, .int v5), (6, .int v6), (7, .int v7), (8, .int v8), (9, .ref ae119), (10, .ref ae129), (11, .ref ae137), (12, .ref ae143), (13, .int v13), (14, .int v14), (15, .int v15), (16, .int v16), (17, .int v17), (18, .int v18)]) hx hb dL_law_887 hl (by decide) rfl (fun ls hl => ?_)
                    refine lv_aload_n hx hb dL_law_889 rfl (lv_at hl 4 rfl) ?_
                    refine k_X5_digest hC hN hK hT.dropL.dropR.1 hT.dropL.dropR.D' hm wq_816 (by decide) hl.1 (Nat.le_of_ble_eq_true rfl) ⟨by omega, by omega⟩ dL_law_890 (fun r_890 hm => ?_)
                    refine lv_lstore (lv' := [(21, .long r_890), (20, .int r_884), (19, .int r_876), (0, .ref scr), (2, .ref (sa)), (3, .ref (ca)), (4, .int v4), (5, .int v5), (6, .int v6), (7, .int v7), (8, .int v8), (9, .ref ae119), (10, .ref ae129), (11, .ref ae137), (12, .ref ae143), (13, .int v13), (14, .int v14), (15, .int v15), (16, .int v16), (17, .int v17), (18, .int v18)]) hx hb dL_law_893 hl (by decide) rfl (fun ls hl => ?_)
                    refine lv_bipush (v := 13) hx hb dL_law_895 (by decide) ?_
                    refine w_newI (N := 13) hC hK hT wq_240 (by decide) (by decide) (by decide) (by show _ ≤ 600086; omega) (by show _ ≤ 7301442; omega) dL_law_897 (fun ae897 H hT => ?_)
                    have hT : TS vwCl D ([(ae897, .inl (Z 0, 13, .inl ((fun _ => 0)))), (ae143, .inl (Z 4, v6.toInt.toNat, .inl e143)), (ae137, .inl (Z 0, v4.toInt.toNat, .inl e137)), (ae129, .inl (Z 3, v5.toInt.toNat, .inr (.inr (.inr (.inr (fun j => if j < v5.toInt.toNat then some (rae129 j) else none)))))), (ae119, .inl (Z 3, v6.toInt.toNat, .inr (.inr (.inr (.inr (fun j => if j < v6.toInt.toNat then some (rae119 j) else none))))))] ++ ((CA Z a b q ca tp rd sp P ap F G C) ++ ((SM Z sa o ro nn V S O N U L B) ++ (pool Z rae129 e129 7 (v5.toInt.toNat) ++ (pool Z rae119 e119 7 (v6.toInt.toNat) ++ []))))) A s.heap H _ := hT.cfront
                    refine lv_astore (lv' := [(23, .ref ae897), (21, .long r_890), (20, .int r_884), (19, .int r_876), (0, .ref scr), (2, .ref (sa)), (3, .ref (ca)), (4, .int v4), (5, .int v5), (6, .int v6), (7, .int v7), (8, .int v8), (9, .ref ae119), (10, .ref ae129), (11, .ref ae137), (12, .ref ae143), (13, .int v13), (14, .int v14), (15, .int v15), (16, .int v16), (17, .int v17), (18, .int v18)]) hx hb dL_law_899 hl (by decide) rfl (fun ls hl => ?_)
                    refine lv_bipush (v := 8) hx hb dL_law_901 (by decide) ?_
                    refine lv_istore (lv' := [(24, .int 8), (23, .ref ae897), (21, .long r_890), (20, .int r_884), (19, .int r_876), (0, .ref scr), (2, .ref (sa)), (3, .ref (ca)), (4, .int v4), (5, .int v5), (6, .int v6), (7, .int v7), (8, .int v8), (9, .ref ae119), (10, .ref ae129), (11, .ref ae137), (12, .ref ae143), (13, .int v13), (14, .int v14), (15, .int v15), (16, .int v16), (17, .int v17), (18, .int v18)]) hx hb dL_law_903 hl (by decide) rfl (fun ls hl => ?_)
                    exact L905 _ _ _ _ _ _ _ _ _ _ _ _ _ _ _ _ _ _ _ _ _ _ _ _ _ _ _ _ _ _ _ _ _ _ _ hm hT (lv_sub hl [5, 6, 7, 8, 9, 10, 11, 12, 13, 14, 15, 16, 4, 3, 2, 1, 0] rfl) ⟨by omega, by omega⟩
                  · have hm := hm.2 c_869
                    refine lv_iconst (v := 0) hx hb dL_law_872 (by decide) ?_
                    exact hm.elim
    · have hm := hm.2 c_691
      refine lv_aload hx hb dL_law_694 (lv_at hl 10 rfl) ?_
      refine lv_iload hx hb dL_law_696 (lv_at hl 18 rfl) ?_
      refine lv_aload_n hx hb dL_law_698 rfl (lv_at hl 2 rfl) ?_
      refine lv_iload hx hb dL_law_699 (lv_at hl 18 rfl) ?_
      refine lv_iconst (v := 1) hx hb dL_law_701 (by decide) ?_
      refine k_X5_place hC hN hK hT.dropL.dropR.1 hT.dropL.dropR.D' hm wq_597 (by decide) hl.1 (Nat.le_of_ble_eq_true rfl) ⟨by omega, by omega⟩ dL_law_702 (fun r_702 hm => ?_)
      have hj705 := hm.1
      obtain ⟨e137_705, ee137_705⟩ : ∃ y : Nat → Int32, y = upd e137 v19.toInt.toNat r_702 := ⟨_, rfl⟩
      have hm := hm.2 e137_705 ee137_705
      refine w_iast (q0 := 1) (ws' := ([(ae143, .inl (Z 4, v6.toInt.toNat, .inl e143)), (ae137, .inl (Z 0, v4.toInt.toNat, .inl e137_705)), (ae129, .inl (Z 3, v5.toInt.toNat, .inr (.inr (.inr (.inr (fun j => if j < v5.toInt.toNat then some (rae129 j) else none)))))), (ae119, .inl (Z 3, v6.toInt.toNat, .inr (.inr (.inr (.inr (fun j => if j < v6.toInt.toNat then some (rae119 j) else none))))))] ++ ((CA Z a b q ca tp rd sp P ap F G C) ++ ((SM Z sa o ro nn V S O N U L B) ++ (pool Z rae129 e129 7 (v5.toInt.toNat) ++ (pool Z rae119 e119 7 (v6.toInt.toNat) ++ [])))))) hC hK hT rfl hj705 (by rw [ee137_705]; rfl) dL_law_705 (fun H locs hT => ?_)
      refine lv_iload hx hb dL_law_706 (lv_at hl 15 rfl) ?_
      refine lv_aload hx hb dL_law_708 (lv_at hl 10 rfl) ?_
      refine lv_iload hx hb dL_law_710 (lv_at hl 18 rfl) ?_
      refine w_iald (q0 := 1) hC hK hT.1 rfl hm.1 dL_law_712 ?_
      have hm := hm.2
      refine lv_iadd hx hb dL_law_713 ?_
      refine lv_topi (fun v16_714 ev16_714 => ?_)
      have hm := hm v16_714 ev16_714
      refine lv_istore (lv' := [(16, .int v16_714), (0, .ref scr), (2, .ref (sa)), (3, .ref (ca)), (4, .int v4), (5, .int v5), (6, .int v6), (7, .int v7), (8, .int v8), (9, .ref ae119), (10, .ref ae129), (11, .ref ae137), (12, .ref ae143), (13, .int v13), (14, .int v14), (15, .int v15), (17, .int v17), (18, .int v18), (19, .int v19)]) hx hb dL_law_714 hl (by decide) rfl (fun ls hl => ?_)
      refine lv_iload hx hb dL_law_716 (lv_at hl 16 rfl) ?_
      refine lv_aload_n hx hb dL_law_718 rfl (lv_at hl 3 rfl) ?_
      refine lv_iload hx hb dL_law_719 (lv_at hl 18 rfl) ?_
      refine lv_iconst (v := 2) hx hb dL_law_721 (by decide) ?_
      refine k_X5_place hC hN hK hT.dropL.dropR.1 hT.dropL.dropR.D' hm wq_597 (by decide) hl.1 (Nat.le_of_ble_eq_true rfl) ⟨by omega, by omega⟩ dL_law_722 (fun r_722 hm => ?_)
      refine lv_iadd hx hb dL_law_725 ?_
      refine lv_topi (fun v17_726 ev17_726 => ?_)
      have hm := hm v17_726 ev17_726
      refine lv_istore (lv' := [(17, .int v17_726), (16, .int v16_714), (0, .ref scr), (2, .ref (sa)), (3, .ref (ca)), (4, .int v4), (5, .int v5), (6, .int v6), (7, .int v7), (8, .int v8), (9, .ref ae119), (10, .ref ae129), (11, .ref ae137), (12, .ref ae143), (13, .int v13), (14, .int v14), (15, .int v15), (18, .int v18), (19, .int v19)]) hx hb dL_law_726 hl (by decide) rfl (fun ls hl => ?_)
      refine lv_iload hx hb dL_law_728 (lv_at hl 17 rfl) ?_
      refine lv_aload_n hx hb dL_law_730 rfl (lv_at hl 4 rfl) ?_
      refine lv_iload hx hb dL_law_731 (lv_at hl 18 rfl) ?_
      refine lv_iconst (v := 3) hx hb dL_law_733 (by decide) ?_
      refine k_X5_place hC hN hK hT.dropL.dropR.1 hT.dropL.dropR.D' hm wq_597 (by decide) hl.1 (Nat.le_of_ble_eq_true rfl) ⟨by omega, by omega⟩ dL_law_734 (fun r_734 hm => ?_)
      refine lv_if_ge (tgt := 744) hx hb dL_law_737 (by decide) (fun c_737 => ?_) (fun c_737 => ?_)
      · have hm := hm.1 c_737
        refine lv_iconst (v := 1) hx hb dL_law_744 (by decide) ?_
        exact L745 _ _ _ _ _ _ _ _ _ _ _ _ _ _ _ _ _ _ _ _ _ _ _ _ _ _ _ _ _ _ _ _ _ _ _ _ hm hT (lv_sub hl [2, 3, 4, 5, 6, 7, 8, 9, 10, 11, 12, 13, 14, 15, 16, 1, 0, 18] rfl) ⟨by omega, by omega⟩
      · have hm := hm.2 c_737
        refine lv_iconst (v := 0) hx hb dL_law_740 (by decide) ?_
        refine lv_goto (tgt := 745) hx hb dL_law_741 (by decide) ?_
        exact L745 _ _ _ _ _ _ _ _ _ _ _ _ _ _ _ _ _ _ _ _ _ _ _ _ _ _ _ _ _ _ _ _ _ _ _ _ hm hT (lv_sub hl [2, 3, 4, 5, 6, 7, 8, 9, 10, 11, 12, 13, 14, 15, 16, 1, 0, 18] rfl) ⟨by omega, by omega⟩
