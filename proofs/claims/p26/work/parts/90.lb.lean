set_option maxRecDepth 100000 in
set_option maxHeartbeats 16000000 in
theorem tl_1656 {p : Program} {l : Launch} {e : Env} {s : State} {m : MethodId} {args : Array Value} {below : List Frame} {meth : Method} {c : Code} {Q : State → Prop} {A : Nat → Prop} {D : va_G} {rx : Nat → Nat} {Z : Nat → ClassId} {a b q : Nat → Nat} {ca tp rd sp : Nat} {P : M2} {sa : Nat} {o : Nat → Nat} {ro : Nat → Nat → Nat} {nn : Nat → Nat} {V S O : M2} {scr Ln : Nat} {xs : Nat → Int32} {K : Int32 → Prop} (hC : CallFix p m c cL_law 35 s args lw_g RL) (hN : NW s) (hfl : l.stackTraces = false) (hR : RX rx scr Ln xs A s s.heap) (hK : va_K D vwCl (tysG Z) s) (hLn : Ln < 2 ^ 31) (n60 : Nat) (ih60 : ∀ (ap : Nat) (F : M2) (G : M2) (C : M2) (N : M2) (U : M2) (L : M2) (B : M2) (v4 : Int32) (v5 : Int32) (v6 : Int32) (v7 : Int32) (H : Heap) (locs : List Loc) (ls : Array Slot) (cc cs : Nat), wl_L_law_60 q P nn V S O xs Ln K n60 ap F G C N U L B v4 v5 v6 v7 → TS vwCl D ([] ++ ((CA Z a b q ca tp rd sp P ap F G C) ++ ((SM Z sa o ro nn V S O N U L B) ++ []))) A s.heap H locs → lv_has ls 35 [(0, .ref scr), (2, .ref (sa)), (3, .ref (ca)), (4, .int v4), (5, .int v5), (6, .int v6), (7, .int v7)] → cc + (n60 * 140 + 14) ≤ 600086 ∧ cs + (n60 * 1300 + 150) ≤ 7301442 → W p l e (rk 2048 600086 7301442) s m args below meth c H locs cc cs Q (F0 m 60 ls [])) : ∀ (n1656 : Nat), ∀ (ap : Nat) (F : M2) (G : M2) (C : M2) (N : M2) (U : M2) (L : M2) (B : M2) (e137 : (Nat → Int32)) (v4 : Int32) (v5 : Int32) (v6 : Int32) (v7 : Int32) (v30 : Int32) (ae137 : Nat) (H : Heap) (locs : List Loc) (ls : Array Slot) (cc cs : Nat), wl_L_law_1656 q P nn V S O xs Ln (wl_L_law_60 q P nn V S O xs Ln K n60) K n1656 ap F G C N U L B e137 v4 v5 v6 v7 v30 → TS vwCl D ([(ae137, .inl (Z 0, v4.toInt.toNat, .inl e137))] ++ ((CA Z a b q ca tp rd sp P ap F G C) ++ ((SM Z sa o ro nn V S O N U L B) ++ []))) A s.heap H locs → lv_has ls 35 [(0, .ref scr), (2, .ref (sa)), (3, .ref (ca)), (4, .int v4), (5, .int v5), (6, .int v6), (7, .int v7), (11, .ref ae137), (30, .int v30)] → cc + (n1656 * 0 + 0 + n60 * 140 + 14) ≤ 600086 ∧ cs + (n1656 * 0 + 0 + n60 * 1300 + 150) ≤ 7301442 → W p l e (rk 2048 600086 7301442) s m args below meth c H locs cc cs Q (F0 m 1656 ls []) := by
  have hx := hC.1
  have hb := hC.2.1
  intro n1656
  induction n1656 with
  | zero =>
    intro ap F G C N U L B e137 v4 v5 v6 v7 v30 ae137 H locs ls cc cs hm hT hl hcb
    exact False.elim hm
  | succ n1656 ih1656 =>
    intro ap F G C N U L B e137 v4 v5 v6 v7 v30 ae137 H locs ls cc cs hm hT hl hcb
    refine lv_iload hx hb dL_law_1656 (lv_at hl 8 rfl) ?_
    refine lv_iload hx hb dL_law_1658 (lv_at hl 3 rfl) ?_
    refine lv_icmp_ge (tgt := 1714) hx hb dL_law_1660 (by decide) (fun c_1660 => ?_) (fun c_1660 => ?_)
    · have hm := hm.1 c_1660
      obtain ⟨v7_1714, ev7_1714⟩ : ∃ y : Int32, y = v7 + 1 := ⟨_, rfl⟩
      have hm := hm v7_1714 ev7_1714
      refine lv_iinc (v := v7_1714) (lv' := [(7, .int v7_1714), (0, .ref scr), (2, .ref (sa)), (3, .ref (ca)), (4, .int v4), (5, .int v5), (6, .int v6), (11, .ref ae137), (30, .int v30)]) hx hb dL_law_1714 hl (k := 6) rfl (by rw [ev7_1714]; rfl) (by decide) rfl (fun ls hl => ?_)
      refine lv_goto (tgt := 60) hx hb dL_law_1717 (by decide) ?_
      have hT : TS vwCl D ([] ++ ((CA Z a b q ca tp rd sp P ap F G C) ++ ((SM Z sa o ro nn V S O N U L B) ++ []))) A s.heap _ _ := hT.sub (List.Sublist.append (List.Sublist.cons _ (List.Sublist.refl _)) (List.Sublist.refl _))
      exact ih60 _ _ _ _ _ _ _ _ _ _ _ _ _ _ _ _ _ hm hT (lv_sub hl [1, 2, 3, 4, 5, 6, 0] rfl) ⟨by omega, by omega⟩
    · have hm := hm.2 c_1660
      refine lv_aload_n hx hb dL_law_1663 rfl (lv_at hl 2 rfl) ?_
      refine lv_iload hx hb dL_law_1664 (lv_at hl 8 rfl) ?_
      refine lv_iconst (v := 1) hx hb dL_law_1666 (by decide) ?_
      refine k_X5_place hC hN hK hT.dropL.dropR.1 hT.dropL.dropR.D' hm wq_597 (by decide) hl.1 (Nat.le_of_ble_eq_true rfl) ⟨by omega, by omega⟩ dL_law_1667 (fun r_1667 hm => ?_)
      refine lv_aload hx hb dL_law_1670 (lv_at hl 7 rfl) ?_
      refine lv_iload hx hb dL_law_1672 (lv_at hl 8 rfl) ?_
      refine w_iald (q0 := 0) hC hK hT.1 rfl hm.1 dL_law_1674 ?_
      have hm := hm.2
      refine lv_bipush (v := 6) hx hb dL_law_1675 (by decide) ?_
      refine lv_isub hx hb dL_law_1677 ?_
      refine lv_icmp_lt (tgt := 1706) hx hb dL_law_1678 (by decide) (fun c_1678 => ?_) (fun c_1678 => ?_)
      · have hm := hm.1 c_1678
        refine lv_iconst (v := 0) hx hb dL_law_1706 (by decide) ?_
        exact hm.elim
      · have hm := hm.2 c_1678
        refine lv_aload_n hx hb dL_law_1681 rfl (lv_at hl 2 rfl) ?_
        refine lv_iload hx hb dL_law_1682 (lv_at hl 8 rfl) ?_
        refine lv_iconst (v := 1) hx hb dL_law_1684 (by decide) ?_
        refine k_X5_place hC hN hK hT.dropL.dropR.1 hT.dropL.dropR.D' hm wq_597 (by decide) hl.1 (Nat.le_of_ble_eq_true rfl) ⟨by omega, by omega⟩ dL_law_1685 (fun r_1685 hm => ?_)
        refine lv_aload hx hb dL_law_1688 (lv_at hl 7 rfl) ?_
        refine lv_iload hx hb dL_law_1690 (lv_at hl 8 rfl) ?_
        refine w_iald (q0 := 0) hC hK hT.1 rfl hm.1 dL_law_1692 ?_
        have hm := hm.2
        refine lv_icmp_ge (tgt := 1708) hx hb dL_law_1693 (by decide) (fun c_1693 => ?_) (fun c_1693 => ?_)
        · have hm := hm.1 c_1693
          obtain ⟨v30_1708, ev30_1708⟩ : ∃ y : Int32, y = v30 + 1 := ⟨_, rfl⟩
          have hm := hm v30_1708 ev30_1708
          refine lv_iinc (v := v30_1708) (lv' := [(30, .int v30_1708), (0, .ref scr), (2, .ref (sa)), (3, .ref (ca)), (4, .int v4), (5, .int v5), (6, .int v6), (7, .int v7), (11, .ref ae137)]) hx hb dL_law_1708 hl (k := 8) rfl (by rw [ev30_1708]; rfl) (by decide) rfl (fun ls hl => ?_)
          refine lv_goto (tgt := 1656) hx hb dL_law_1711 (by decide) ?_
          exact ih1656 _ _ _ _ _ _ _ _ _ _ _ _ _ _ _ _ _ _ _ _ hm hT (lv_sub hl [1, 2, 3, 4, 5, 6, 7, 8, 0] rfl) ⟨by omega, by omega⟩
        · have hm := hm.2 c_1693
          refine lv_aload_n hx hb dL_law_1696 rfl (lv_at hl 2 rfl) ?_
          refine lv_iload hx hb dL_law_1697 (lv_at hl 8 rfl) ?_
          refine lv_iconst (v := 3) hx hb dL_law_1699 (by decide) ?_
          refine k_X5_place hC hN hK hT.dropL.dropR.1 hT.dropL.dropR.D' hm wq_597 (by decide) hl.1 (Nat.le_of_ble_eq_true rfl) ⟨by omega, by omega⟩ dL_law_1700 (fun r_1700 hm => ?_)
          refine lv_if_ge (tgt := 1708) hx hb dL_law_1703 (by decide) (fun c_1703 => ?_) (fun c_1703 => ?_)
          · have hm := hm.1 c_1703
            obtain ⟨v30_1708, ev30_1708⟩ : ∃ y : Int32, y = v30 + 1 := ⟨_, rfl⟩
            have hm := hm v30_1708 ev30_1708
            refine lv_iinc (v := v30_1708) (lv' := [(30, .int v30_1708), (0, .ref scr), (2, .ref (sa)), (3, .ref (ca)), (4, .int v4), (5, .int v5), (6, .int v6), (7, .int v7), (11, .ref ae137)]) hx hb dL_law_1708 hl (k := 8) rfl (by rw [ev30_1708]; rfl) (by decide) rfl (fun ls hl => ?_)
            refine lv_goto (tgt := 1656) hx hb dL_law_1711 (by decide) ?_
            exact ih1656 _ _ _ _ _ _ _ _ _ _ _ _ _ _ _ _ _ _ _ _ hm hT (lv_sub hl [1, 2, 3, 4, 5, 6, 7, 8, 0] rfl) ⟨by omega, by omega⟩
          · have hm := hm.2 c_1703
            refine lv_iconst (v := 0) hx hb dL_law_1706 (by decide) ?_
            exact hm.elim
set_option maxRecDepth 100000 in
set_option maxHeartbeats 16000000 in
theorem tl_1599 {p : Program} {l : Launch} {e : Env} {s : State} {m : MethodId} {args : Array Value} {below : List Frame} {meth : Method} {c : Code} {Q : State → Prop} {A : Nat → Prop} {D : va_G} {rx : Nat → Nat} {Z : Nat → ClassId} {a b q : Nat → Nat} {ca tp rd sp : Nat} {P : M2} {sa : Nat} {o : Nat → Nat} {ro : Nat → Nat → Nat} {nn : Nat → Nat} {V S O : M2} {scr Ln : Nat} {xs : Nat → Int32} {K : Int32 → Prop} (hC : CallFix p m c cL_law 35 s args lw_g RL) (hN : NW s) (hfl : l.stackTraces = false) (hR : RX rx scr Ln xs A s s.heap) (hK : va_K D vwCl (tysG Z) s) (hLn : Ln < 2 ^ 31) (n60 : Nat) (n1542 : Nat) (ih1542 : ∀ (ap : Nat) (F : M2) (G : M2) (C : M2) (N : M2) (U : M2) (L : M2) (B : M2) (e137 : (Nat → Int32)) (e129 : M2) (v4 : Int32) (v5 : Int32) (v6 : Int32) (v7 : Int32) (v30 : Int32) (ae137 : Nat) (ae129 : Nat) (rae129 : Nat → Nat) (H : Heap) (locs : List Loc) (ls : Array Slot) (cc cs : Nat), wl_L_law_1542 q P nn V S O xs Ln (wl_L_law_60 q P nn V S O xs Ln K n60) K n1542 ap F G C N U L B e137 e129 v4 v5 v6 v7 v30 → TS vwCl D ([(ae137, .inl (Z 0, v4.toInt.toNat, .inl e137)), (ae129, .inl (Z 3, v5.toInt.toNat, .inr (.inr (.inr (.inr (fun j => if j < v5.toInt.toNat then some (rae129 j) else none))))))] ++ ((CA Z a b q ca tp rd sp P ap F G C) ++ ((SM Z sa o ro nn V S O N U L B) ++ (pool Z rae129 e129 7 (v5.toInt.toNat) ++ [])))) A s.heap H locs → lv_has ls 35 [(0, .ref scr), (2, .ref (sa)), (3, .ref (ca)), (4, .int v4), (5, .int v5), (6, .int v6), (7, .int v7), (10, .ref ae129), (11, .ref ae137), (30, .int v30)] → cc + (n1542 * 0 + 0 + n60 * 140 + 14) ≤ 600086 ∧ cs + (n1542 * 0 + 0 + n60 * 1300 + 150) ≤ 7301442 → W p l e (rk 2048 600086 7301442) s m args below meth c H locs cc cs Q (F0 m 1542 ls [])) : ∀ (ap : Nat) (F : M2) (G : M2) (C : M2) (N : M2) (U : M2) (L : M2) (B : M2) (e137 : (Nat → Int32)) (e129 : M2) (v4 : Int32) (v5 : Int32) (v6 : Int32) (v7 : Int32) (v30 : Int32) (v31 : Int32) (ae137 : Nat) (ae129 : Nat) (rae129 : Nat → Nat) (H : Heap) (locs : List Loc) (ls : Array Slot) (cc cs : Nat), wj_L_law_1599 q P nn V S O xs Ln (wl_L_law_60 q P nn V S O xs Ln K n60) (wl_L_law_1542 q P nn V S O xs Ln (wl_L_law_60 q P nn V S O xs Ln K n60) K n1542) K ap F G C N U L B e137 e129 v4 v5 v6 v7 v30 v31 → TS vwCl D ([(ae137, .inl (Z 0, v4.toInt.toNat, .inl e137)), (ae129, .inl (Z 3, v5.toInt.toNat, .inr (.inr (.inr (.inr (fun j => if j < v5.toInt.toNat then some (rae129 j) else none))))))] ++ ((CA Z a b q ca tp rd sp P ap F G C) ++ ((SM Z sa o ro nn V S O N U L B) ++ (pool Z rae129 e129 7 (v5.toInt.toNat) ++ [])))) A s.heap H locs → lv_has ls 35 [(0, .ref scr), (2, .ref (sa)), (3, .ref (ca)), (4, .int v4), (5, .int v5), (6, .int v6), (7, .int v7), (10, .ref ae129), (11, .ref ae137), (30, .int v30), (31, .ref (rae129 v31.toInt.toNat))] → cc + (0 + n60 * 140 + 14 + n1542 * 0 + 0) ≤ 600086 ∧ cs + (0 + n60 * 1300 + 150 + n1542 * 0 + 0) ≤ 7301442 → W p l e (rk 2048 600086 7301442) s m args below meth c H locs cc cs Q (F0 m 1599 ls []) := by
  have hx := hC.1
  have hb := hC.2.1
  intro ap F G C N U L B e137 e129 v4 v5 v6 v7 v30 v31 ae137 ae129 rae129 H locs ls cc cs hm hT hl hcb
  refine lv_aload_n hx hb dL_law_1599 rfl (lv_at hl 2 rfl) ?_
  refine lv_iload hx hb dL_law_1600 (lv_at hl 9 rfl) ?_
  refine lv_iconst (v := 0) hx hb dL_law_1602 (by decide) ?_
  refine k_X5_legger hC hN hK hT.dropL.dropR.1 hT.dropL.dropR.D' hm wq_624 (by decide) hl.1 (Nat.le_of_ble_eq_true rfl) ⟨by omega, by omega⟩ dL_law_1603 (fun r_1603 hm => ?_)
  refine lv_aload hx hb dL_law_1606 (lv_at hl 10 rfl) ?_
  refine lv_iconst (v := 0) hx hb dL_law_1608 (by decide) ?_
  refine wr_ld (jn := 0) (f := (fun X => [(ae137, .inl (Z 0, v4.toInt.toNat, .inl e137)), (ae129, .inl (Z 3, v5.toInt.toNat, .inr (.inr (.inr (.inr (fun j => if j < v5.toInt.toNat then some (rae129 j) else none))))))] ++ ((CA Z a b q ca tp rd sp P ap F G C) ++ ((SM Z sa o ro nn V S O N U L B) ++ (pool Z rae129 X 7 (v5.toInt.toNat) ++ []))))) (sm_pre (sm_pre (sm_pre pool_hf _) _) _) hC hK hT.1 hm.1 (by decide) rfl dL_law_1609 ?_
  have hm := hm.2
  refine lv_icmp_ne (tgt := 1645) hx hb dL_law_1610 (by decide) (fun c_1610 => ?_) (fun c_1610 => ?_)
  · have hm := hm.1 c_1610
    refine lv_iconst (v := 0) hx hb dL_law_1645 (by decide) ?_
    exact hm.elim
  · have hm := hm.2 c_1610
    refine lv_aload_n hx hb dL_law_1613 rfl (lv_at hl 2 rfl) ?_
    refine lv_iload hx hb dL_law_1614 (lv_at hl 9 rfl) ?_
    refine lv_iconst (v := 5) hx hb dL_law_1616 (by decide) ?_
    refine k_X5_legger hC hN hK hT.dropL.dropR.1 hT.dropL.dropR.D' hm wq_624 (by decide) hl.1 (Nat.le_of_ble_eq_true rfl) ⟨by omega, by omega⟩ dL_law_1617 (fun r_1617 hm => ?_)
    refine lv_bipush (v := 9) hx hb dL_law_1620 (by decide) ?_
    refine lv_icmp_eq (tgt := 1647) hx hb dL_law_1622 (by decide) (fun c_1622 => ?_) (fun c_1622 => ?_)
    · have hm := hm.1 c_1622
      obtain ⟨v30_1647, ev30_1647⟩ : ∃ y : Int32, y = v30 + 1 := ⟨_, rfl⟩
      have hm := hm v30_1647 ev30_1647
      refine lv_iinc (v := v30_1647) (lv' := [(30, .int v30_1647), (0, .ref scr), (2, .ref (sa)), (3, .ref (ca)), (4, .int v4), (5, .int v5), (6, .int v6), (7, .int v7), (10, .ref ae129), (11, .ref ae137), (31, .ref (rae129 v31.toInt.toNat))]) hx hb dL_law_1647 hl (k := 9) rfl (by rw [ev30_1647]; rfl) (by decide) rfl (fun ls hl => ?_)
      refine lv_goto (tgt := 1542) hx hb dL_law_1650 (by decide) ?_
      exact ih1542 _ _ _ _ _ _ _ _ _ _ _ _ _ _ _ _ _ _ _ _ _ _ _ hm hT (lv_sub hl [1, 2, 3, 4, 5, 6, 7, 8, 9, 0] rfl) ⟨by omega, by omega⟩
    · have hm := hm.2 c_1622
      refine lv_aload_n hx hb dL_law_1625 rfl (lv_at hl 2 rfl) ?_
      refine lv_iload hx hb dL_law_1626 (lv_at hl 9 rfl) ?_
      refine lv_iconst (v := 5) hx hb dL_law_1628 (by decide) ?_
      refine k_X5_legger hC hN hK hT.dropL.dropR.1 hT.dropL.dropR.D' hm wq_624 (by decide) hl.1 (Nat.le_of_ble_eq_true rfl) ⟨by omega, by omega⟩ dL_law_1629 (fun r_1629 hm => ?_)
      refine lv_iconst (v := 0) hx hb dL_law_1632 (by decide) ?_
      refine lv_aload hx hb dL_law_1633 (lv_at hl 10 rfl) ?_
      refine lv_iconst (v := 5) hx hb dL_law_1635 (by decide) ?_
      refine wr_ld (jn := 5) (f := (fun X => [(ae137, .inl (Z 0, v4.toInt.toNat, .inl e137)), (ae129, .inl (Z 3, v5.toInt.toNat, .inr (.inr (.inr (.inr (fun j => if j < v5.toInt.toNat then some (rae129 j) else none))))))] ++ ((CA Z a b q ca tp rd sp P ap F G C) ++ ((SM Z sa o ro nn V S O N U L B) ++ (pool Z rae129 X 7 (v5.toInt.toNat) ++ []))))) (sm_pre (sm_pre (sm_pre pool_hf _) _) _) hC hK hT.1 hm.1 (by decide) rfl dL_law_1636 ?_
      have hm := hm.2
      refine lv_iconst (v := 1) hx hb dL_law_1637 (by decide) ?_
      refine lv_isub hx hb dL_law_1638 ?_
      refine w_max hC wq_1485 (by decide) (Nat.le_of_ble_eq_true rfl) hl.1 ⟨by omega, by omega⟩ dL_law_1639 ?_
      refine lv_icmp_eq (tgt := 1647) hx hb dL_law_1642 (by decide) (fun c_1642 => ?_) (fun c_1642 => ?_)
      · have hm := hm.1 c_1642
        obtain ⟨v30_1647, ev30_1647⟩ : ∃ y : Int32, y = v30 + 1 := ⟨_, rfl⟩
        have hm := hm v30_1647 ev30_1647
        refine lv_iinc (v := v30_1647) (lv' := [(30, .int v30_1647), (0, .ref scr), (2, .ref (sa)), (3, .ref (ca)), (4, .int v4), (5, .int v5), (6, .int v6), (7, .int v7), (10, .ref ae129), (11, .ref ae137), (31, .ref (rae129 v31.toInt.toNat))]) hx hb dL_law_1647 hl (k := 9) rfl (by rw [ev30_1647]; rfl) (by decide) rfl (fun ls hl => ?_)
        refine lv_goto (tgt := 1542) hx hb dL_law_1650 (by decide) ?_
        exact ih1542 _ _ _ _ _ _ _ _ _ _ _ _ _ _ _ _ _ _ _ _ _ _ _ hm hT (lv_sub hl [1, 2, 3, 4, 5, 6, 7, 8, 9, 0] rfl) ⟨by omega, by omega⟩
      · have hm := hm.2 c_1642
        refine lv_iconst (v := 0) hx hb dL_law_1645 (by decide) ?_
        exact hm.elim
set_option maxRecDepth 100000 in
set_option maxHeartbeats 16000000 in
theorem tl_1542 {p : Program} {l : Launch} {e : Env} {s : State} {m : MethodId} {args : Array Value} {below : List Frame} {meth : Method} {c : Code} {Q : State → Prop} {A : Nat → Prop} {D : va_G} {rx : Nat → Nat} {Z : Nat → ClassId} {a b q : Nat → Nat} {ca tp rd sp : Nat} {P : M2} {sa : Nat} {o : Nat → Nat} {ro : Nat → Nat → Nat} {nn : Nat → Nat} {V S O : M2} {scr Ln : Nat} {xs : Nat → Int32} {K : Int32 → Prop} (hC : CallFix p m c cL_law 35 s args lw_g RL) (hN : NW s) (hfl : l.stackTraces = false) (hR : RX rx scr Ln xs A s s.heap) (hK : va_K D vwCl (tysG Z) s) (hLn : Ln < 2 ^ 31) (n60 : Nat) (L1656 : ∀ (n1656 : Nat), ∀ (ap : Nat) (F : M2) (G : M2) (C : M2) (N : M2) (U : M2) (L : M2) (B : M2) (e137 : (Nat → Int32)) (v4 : Int32) (v5 : Int32) (v6 : Int32) (v7 : Int32) (v30 : Int32) (ae137 : Nat) (H : Heap) (locs : List Loc) (ls : Array Slot) (cc cs : Nat), wl_L_law_1656 q P nn V S O xs Ln (wl_L_law_60 q P nn V S O xs Ln K n60) K n1656 ap F G C N U L B e137 v4 v5 v6 v7 v30 → TS vwCl D ([(ae137, .inl (Z 0, v4.toInt.toNat, .inl e137))] ++ ((CA Z a b q ca tp rd sp P ap F G C) ++ ((SM Z sa o ro nn V S O N U L B) ++ []))) A s.heap H locs → lv_has ls 35 [(0, .ref scr), (2, .ref (sa)), (3, .ref (ca)), (4, .int v4), (5, .int v5), (6, .int v6), (7, .int v7), (11, .ref ae137), (30, .int v30)] → cc + (n1656 * 0 + 0 + n60 * 140 + 14) ≤ 600086 ∧ cs + (n1656 * 0 + 0 + n60 * 1300 + 150) ≤ 7301442 → W p l e (rk 2048 600086 7301442) s m args below meth c H locs cc cs Q (F0 m 1656 ls [])) : ∀ (n1542 : Nat), ∀ (ap : Nat) (F : M2) (G : M2) (C : M2) (N : M2) (U : M2) (L : M2) (B : M2) (e137 : (Nat → Int32)) (e129 : M2) (v4 : Int32) (v5 : Int32) (v6 : Int32) (v7 : Int32) (v30 : Int32) (ae137 : Nat) (ae129 : Nat) (rae129 : Nat → Nat) (H : Heap) (locs : List Loc) (ls : Array Slot) (cc cs : Nat), wl_L_law_1542 q P nn V S O xs Ln (wl_L_law_60 q P nn V S O xs Ln K n60) K n1542 ap F G C N U L B e137 e129 v4 v5 v6 v7 v30 → TS vwCl D ([(ae137, .inl (Z 0, v4.toInt.toNat, .inl e137)), (ae129, .inl (Z 3, v5.toInt.toNat, .inr (.inr (.inr (.inr (fun j => if j < v5.toInt.toNat then some (rae129 j) else none))))))] ++ ((CA Z a b q ca tp rd sp P ap F G C) ++ ((SM Z sa o ro nn V S O N U L B) ++ (pool Z rae129 e129 7 (v5.toInt.toNat) ++ [])))) A s.heap H locs → lv_has ls 35 [(0, .ref scr), (2, .ref (sa)), (3, .ref (ca)), (4, .int v4), (5, .int v5), (6, .int v6), (7, .int v7), (10, .ref ae129), (11, .ref ae137), (30, .int v30)] → cc + (n1542 * 0 + 0 + n60 * 140 + 14) ≤ 600086 ∧ cs + (n1542 * 0 + 0 + n60 * 1300 + 150) ≤ 7301442 → W p l e (rk 2048 600086 7301442) s m args below meth c H locs cc cs Q (F0 m 1542 ls []) := by
  have hx := hC.1
  have hb := hC.2.1
  intro n1542
  induction n1542 with
  | zero =>
    intro ap F G C N U L B e137 e129 v4 v5 v6 v7 v30 ae137 ae129 rae129 H locs ls cc cs hm hT hl hcb
    exact False.elim hm
  | succ n1542 ih1542 =>
    have L1599 : ∀ (ap : Nat) (F : M2) (G : M2) (C : M2) (N : M2) (U : M2) (L : M2) (B : M2) (e137 : (Nat → Int32)) (e129 : M2) (v4 : Int32) (v5 : Int32) (v6 : Int32) (v7 : Int32) (v30 : Int32) (v31 : Int32) (ae137 : Nat) (ae129 : Nat) (rae129 : Nat → Nat) (H : Heap) (locs : List Loc) (ls : Array Slot) (cc cs : Nat), wj_L_law_1599 q P nn V S O xs Ln (wl_L_law_60 q P nn V S O xs Ln K n60) (wl_L_law_1542 q P nn V S O xs Ln (wl_L_law_60 q P nn V S O xs Ln K n60) K n1542) K ap F G C N U L B e137 e129 v4 v5 v6 v7 v30 v31 → TS vwCl D ([(ae137, .inl (Z 0, v4.toInt.toNat, .inl e137)), (ae129, .inl (Z 3, v5.toInt.toNat, .inr (.inr (.inr (.inr (fun j => if j < v5.toInt.toNat then some (rae129 j) else none))))))] ++ ((CA Z a b q ca tp rd sp P ap F G C) ++ ((SM Z sa o ro nn V S O N U L B) ++ (pool Z rae129 e129 7 (v5.toInt.toNat) ++ [])))) A s.heap H locs → lv_has ls 35 [(0, .ref scr), (2, .ref (sa)), (3, .ref (ca)), (4, .int v4), (5, .int v5), (6, .int v6), (7, .int v7), (10, .ref ae129), (11, .ref ae137), (30, .int v30), (31, .ref (rae129 v31.toInt.toNat))] → cc + (0 + n60 * 140 + 14 + n1542 * 0 + 0) ≤ 600086 ∧ cs + (0 + n60 * 1300 + 150 + n1542 * 0 + 0) ≤ 7301442 → W p l e (rk 2048 600086 7301442) s m args below meth c H locs cc cs Q (F0 m 1599 ls []) := tl_1599 hC hN hfl hR hK hLn n60 n1542 ih1542
    intro ap F G C N U L B e137 e129 v4 v5 v6 v7 v30 ae137 ae129 rae129 H locs ls cc cs hm hT hl hcb
    refine lv_iload hx hb dL_law_1542 (lv_at hl 9 rfl) ?_
    refine lv_iload hx hb dL_law_1544 (lv_at hl 4 rfl) ?_
    refine lv_icmp_ge (tgt := 1653) hx hb dL_law_1546 (by decide) (fun c_1546 => ?_) (fun c_1546 => ?_)
    · have hm := hm.1 c_1546
      refine lv_iconst (v := 0) hx hb dL_law_1653 (by decide) ?_
      refine lv_istore (lv' := [(30, .int 0), (0, .ref scr), (2, .ref (sa)), (3, .ref (ca)), (4, .int v4), (5, .int v5), (6, .int v6), (7, .int v7), (10, .ref ae129), (11, .ref ae137)]) hx hb dL_law_1654 hl (by decide) rfl (fun ls hl => ?_)
      have hT : TS vwCl D ([(ae137, .inl (Z 0, v4.toInt.toNat, .inl e137))] ++ ((CA Z a b q ca tp rd sp P ap F G C) ++ ((SM Z sa o ro nn V S O N U L B) ++ []))) A s.heap _ _ := hT.sub (List.Sublist.append (List.Sublist.cons₂ _ (List.Sublist.cons _ (List.Sublist.refl _))) (List.Sublist.append (List.Sublist.refl _) (List.Sublist.append (List.Sublist.refl _) (List.Sublist.trans (List.Sublist.refl _) (List.sublist_append_right _ _)))))
      exact L1656 _ _ _ _ _ _ _ _ _ _ _ _ _ _ _ _ _ _ _ _ _ hm hT (lv_sub hl [1, 2, 3, 4, 5, 6, 7, 9, 0] rfl) ⟨by omega, by omega⟩
    · have hm := hm.2 c_1546
      refine lv_aload hx hb dL_law_1549 (lv_at hl 7 rfl) ?_
      refine lv_iload hx hb dL_law_1551 (lv_at hl 9 rfl) ?_
      refine w_aaldR (q0 := 1) hC hK hT.1 rfl hm.1 dL_law_1553 ?_
      have hm := hm.2
      refine lv_astore (lv' := [(31, .ref (rae129 v30.toInt.toNat)), (0, .ref scr), (2, .ref (sa)), (3, .ref (ca)), (4, .int v4), (5, .int v5), (6, .int v6), (7, .int v7), (10, .ref ae129), (11, .ref ae137), (30, .int v30)]) hx hb dL_law_1554 hl (by decide) rfl (fun ls hl => ?_)
      refine lv_aload_n hx hb dL_law_1556 rfl (lv_at hl 3 rfl) ?_
      refine lv_iload hx hb dL_law_1557 (lv_at hl 10 rfl) ?_
      refine lv_iconst (v := 2) hx hb dL_law_1559 (by decide) ?_
      refine k_X5_legger hC hN hK hT.dropL.dropR.1 hT.dropL.dropR.D' hm wq_624 (by decide) hl.1 (Nat.le_of_ble_eq_true rfl) ⟨by omega, by omega⟩ dL_law_1560 (fun r_1560 hm => ?_)
      refine lv_aload hx hb dL_law_1563 (lv_at hl 0 rfl) ?_
      refine lv_iconst (v := 2) hx hb dL_law_1565 (by decide) ?_
      refine wr_ld (jn := 2) (f := (fun X => [(ae137, .inl (Z 0, v4.toInt.toNat, .inl e137)), (ae129, .inl (Z 3, v5.toInt.toNat, .inr (.inr (.inr (.inr (fun j => if j < v5.toInt.toNat then some (rae129 j) else none))))))] ++ ((CA Z a b q ca tp rd sp P ap F G C) ++ ((SM Z sa o ro nn V S O N U L B) ++ (pool Z rae129 X 7 (v5.toInt.toNat) ++ []))))) (sm_pre (sm_pre (sm_pre pool_hf _) _) _) hC hK hT.1 hm.1 (by decide) rfl dL_law_1566 ?_
      have hm := hm.2
      refine lv_isub hx hb dL_law_1567 ?_
      refine lv_topi (fun v32_1568 ev32_1568 => ?_)
      have hm := hm v32_1568 ev32_1568
      refine lv_istore (lv' := [(32, .int v32_1568), (31, .ref (rae129 v30.toInt.toNat)), (0, .ref scr), (2, .ref (sa)), (3, .ref (ca)), (4, .int v4), (5, .int v5), (6, .int v6), (7, .int v7), (10, .ref ae129), (11, .ref ae137), (30, .int v30)]) hx hb dL_law_1568 hl (by decide) rfl (fun ls hl => ?_)
      refine lv_iload hx hb dL_law_1570 (lv_at hl 0 rfl) ?_
      refine lv_iconst (v := 2) hx hb dL_law_1572 (by decide) ?_
      refine lv_icmp_gt (tgt := 1645) hx hb dL_law_1573 (by decide) (fun c_1573 => ?_) (fun c_1573 => ?_)
      · have hm := hm.1 c_1573
        refine lv_iconst (v := 0) hx hb dL_law_1645 (by decide) ?_
        exact hm.elim
      · have hm := hm.2 c_1573
        refine lv_iload hx hb dL_law_1576 (lv_at hl 0 rfl) ?_
        refine lv_bipush (v := (-5)) hx hb dL_law_1578 (by decide) ?_
        refine lv_icmp_lt (tgt := 1645) hx hb dL_law_1580 (by decide) (fun c_1580 => ?_) (fun c_1580 => ?_)
        · have hm := hm.1 c_1580
          refine lv_iconst (v := 0) hx hb dL_law_1645 (by decide) ?_
          exact hm.elim
        · have hm := hm.2 c_1580
          refine lv_aload_n hx hb dL_law_1583 rfl (lv_at hl 4 rfl) ?_
          refine lv_iload hx hb dL_law_1584 (lv_at hl 11 rfl) ?_
          refine lv_iconst (v := 4) hx hb dL_law_1586 (by decide) ?_
          refine k_X5_legger hC hN hK hT.dropL.dropR.1 hT.dropL.dropR.D' hm wq_624 (by decide) hl.1 (Nat.le_of_ble_eq_true rfl) ⟨by omega, by omega⟩ dL_law_1587 (fun r_1587 hm => ?_)
          refine lv_if_lt (tgt := 1599) hx hb dL_law_1590 (by decide) (fun c_1590 => ?_) (fun c_1590 => ?_)
          · have hm := hm.1 c_1590
            exact L1599 _ _ _ _ _ _ _ _ _ _ _ _ _ _ _ _ _ _ _ _ _ _ _ _ hm hT (lv_sub hl [2, 3, 4, 5, 6, 7, 8, 9, 10, 11, 1] rfl) ⟨by omega, by omega⟩
          · have hm := hm.2 c_1590
            refine lv_iload hx hb dL_law_1593 (lv_at hl 0 rfl) ?_
            refine lv_iconst (v := 1) hx hb dL_law_1595 (by decide) ?_
            refine lv_icmp_gt (tgt := 1645) hx hb dL_law_1596 (by decide) (fun c_1596 => ?_) (fun c_1596 => ?_)
            · have hm := hm.1 c_1596
              refine lv_iconst (v := 0) hx hb dL_law_1645 (by decide) ?_
              exact hm.elim
            · have hm := hm.2 c_1596
              exact L1599 _ _ _ _ _ _ _ _ _ _ _ _ _ _ _ _ _ _ _ _ _ _ _ _ hm hT (lv_sub hl [2, 3, 4, 5, 6, 7, 8, 9, 10, 11, 1] rfl) ⟨by omega, by omega⟩
set_option maxRecDepth 100000 in
set_option maxHeartbeats 16000000 in
theorem tl_1492 {p : Program} {l : Launch} {e : Env} {s : State} {m : MethodId} {args : Array Value} {below : List Frame} {meth : Method} {c : Code} {Q : State → Prop} {A : Nat → Prop} {D : va_G} {rx : Nat → Nat} {Z : Nat → ClassId} {a b q : Nat → Nat} {ca tp rd sp : Nat} {P : M2} {sa : Nat} {o : Nat → Nat} {ro : Nat → Nat → Nat} {nn : Nat → Nat} {V S O : M2} {scr Ln : Nat} {xs : Nat → Int32} {K : Int32 → Prop} (hC : CallFix p m c cL_law 35 s args lw_g RL) (hN : NW s) (hfl : l.stackTraces = false) (hR : RX rx scr Ln xs A s s.heap) (hK : va_K D vwCl (tysG Z) s) (hLn : Ln < 2 ^ 31) (n60 : Nat) (L1542 : ∀ (n1542 : Nat), ∀ (ap : Nat) (F : M2) (G : M2) (C : M2) (N : M2) (U : M2) (L : M2) (B : M2) (e137 : (Nat → Int32)) (e129 : M2) (v4 : Int32) (v5 : Int32) (v6 : Int32) (v7 : Int32) (v30 : Int32) (ae137 : Nat) (ae129 : Nat) (rae129 : Nat → Nat) (H : Heap) (locs : List Loc) (ls : Array Slot) (cc cs : Nat), wl_L_law_1542 q P nn V S O xs Ln (wl_L_law_60 q P nn V S O xs Ln K n60) K n1542 ap F G C N U L B e137 e129 v4 v5 v6 v7 v30 → TS vwCl D ([(ae137, .inl (Z 0, v4.toInt.toNat, .inl e137)), (ae129, .inl (Z 3, v5.toInt.toNat, .inr (.inr (.inr (.inr (fun j => if j < v5.toInt.toNat then some (rae129 j) else none))))))] ++ ((CA Z a b q ca tp rd sp P ap F G C) ++ ((SM Z sa o ro nn V S O N U L B) ++ (pool Z rae129 e129 7 (v5.toInt.toNat) ++ [])))) A s.heap H locs → lv_has ls 35 [(0, .ref scr), (2, .ref (sa)), (3, .ref (ca)), (4, .int v4), (5, .int v5), (6, .int v6), (7, .int v7), (10, .ref ae129), (11, .ref ae137), (30, .int v30)] → cc + (n1542 * 0 + 0 + n60 * 140 + 14) ≤ 600086 ∧ cs + (n1542 * 0 + 0 + n60 * 1300 + 150) ≤ 7301442 → W p l e (rk 2048 600086 7301442) s m args below meth c H locs cc cs Q (F0 m 1542 ls [])) : ∀ (n1492 : Nat), ∀ (ap : Nat) (F : M2) (G : M2) (C : M2) (N : M2) (U : M2) (L : M2) (B : M2) (e143 : (Nat → Int32)) (e137 : (Nat → Int32)) (e129 : M2) (v4 : Int32) (v5 : Int32) (v6 : Int32) (v7 : Int32) (v19 : Int32) (v29 : Int32) (v30 : Int32) (ae143 : Nat) (ae137 : Nat) (ae129 : Nat) (rae129 : Nat → Nat) (H : Heap) (locs : List Loc) (ls : Array Slot) (cc cs : Nat), wl_L_law_1492 q P nn V S O xs Ln (wl_L_law_60 q P nn V S O xs Ln K n60) K n1492 ap F G C N U L B e143 e137 e129 v4 v5 v6 v7 v19 v29 v30 → TS vwCl D ([(ae143, .inl (Z 4, v6.toInt.toNat, .inl e143)), (ae137, .inl (Z 0, v4.toInt.toNat, .inl e137)), (ae129, .inl (Z 3, v5.toInt.toNat, .inr (.inr (.inr (.inr (fun j => if j < v5.toInt.toNat then some (rae129 j) else none))))))] ++ ((CA Z a b q ca tp rd sp P ap F G C) ++ ((SM Z sa o ro nn V S O N U L B) ++ (pool Z rae129 e129 7 (v5.toInt.toNat) ++ [])))) A s.heap H locs → lv_has ls 35 [(0, .ref scr), (2, .ref (sa)), (3, .ref (ca)), (4, .int v4), (5, .int v5), (6, .int v6), (7, .int v7), (10, .ref ae129), (11, .ref ae137), (12, .ref ae143), (19, .int v19), (29, .int v29), (30, .int v30)] → cc + (n1492 * 0 + 0 + n60 * 140 + 14) ≤ 600086 ∧ cs + (n1492 * 0 + 0 + n60 * 1300 + 150) ≤ 7301442 → W p l e (rk 2048 600086 7301442) s m args below meth c H locs cc cs Q (F0 m 1492 ls []) := by
  have hx := hC.1
  have hb := hC.2.1
  intro n1492
  induction n1492 with
  | zero =>
    intro ap F G C N U L B e143 e137 e129 v4 v5 v6 v7 v19 v29 v30 ae143 ae137 ae129 rae129 H locs ls cc cs hm hT hl hcb
    exact False.elim hm
  | succ n1492 ih1492 =>
    intro ap F G C N U L B e143 e137 e129 v4 v5 v6 v7 v19 v29 v30 ae143 ae137 ae129 rae129 H locs ls cc cs hm hT hl hcb
    refine lv_iload hx hb dL_law_1492 (lv_at hl 12 rfl) ?_
    refine lv_iload hx hb dL_law_1494 (lv_at hl 5 rfl) ?_
    refine lv_icmp_ge (tgt := 1539) hx hb dL_law_1496 (by decide) (fun c_1496 => ?_) (fun c_1496 => ?_)
    · have hm := hm.1 c_1496
      refine lv_iconst (v := 0) hx hb dL_law_1539 (by decide) ?_
      refine lv_istore (lv' := [(30, .int 0), (0, .ref scr), (2, .ref (sa)), (3, .ref (ca)), (4, .int v4), (5, .int v5), (6, .int v6), (7, .int v7), (10, .ref ae129), (11, .ref ae137), (12, .ref ae143), (19, .int v19), (29, .int v29)]) hx hb dL_law_1540 hl (by decide) rfl (fun ls hl => ?_)
      have hT : TS vwCl D ([(ae137, .inl (Z 0, v4.toInt.toNat, .inl e137)), (ae129, .inl (Z 3, v5.toInt.toNat, .inr (.inr (.inr (.inr (fun j => if j < v5.toInt.toNat then some (rae129 j) else none))))))] ++ ((CA Z a b q ca tp rd sp P ap F G C) ++ ((SM Z sa o ro nn V S O N U L B) ++ (pool Z rae129 e129 7 (v5.toInt.toNat) ++ [])))) A s.heap _ _ := hT.sub (List.Sublist.append (List.Sublist.cons _ (List.Sublist.cons₂ _ (List.Sublist.cons₂ _ (List.Sublist.refl _)))) (List.Sublist.refl _))
      exact L1542 _ _ _ _ _ _ _ _ _ _ _ _ _ _ _ _ _ _ _ _ _ _ _ _ hm hT (lv_sub hl [1, 2, 3, 4, 5, 6, 7, 8, 9, 0] rfl) ⟨by omega, by omega⟩
    · have hm := hm.2 c_1496
      refine lv_aload hx hb dL_law_1499 (lv_at hl 9 rfl) ?_
      refine lv_iload hx hb dL_law_1501 (lv_at hl 12 rfl) ?_
      refine w_zald (q0 := 0) hC hK hT.1 rfl hm.1 dL_law_1503 ?_
      have hm := hm.2
      refine lv_if_eq (tgt := 1533) hx hb dL_law_1504 (by decide) (fun c_1504 => ?_) (fun c_1504 => ?_)
      · have hm := hm.1 c_1504
        obtain ⟨v30_1533, ev30_1533⟩ : ∃ y : Int32, y = v30 + 1 := ⟨_, rfl⟩
        have hm := hm v30_1533 ev30_1533
        refine lv_iinc (v := v30_1533) (lv' := [(30, .int v30_1533), (0, .ref scr), (2, .ref (sa)), (3, .ref (ca)), (4, .int v4), (5, .int v5), (6, .int v6), (7, .int v7), (10, .ref ae129), (11, .ref ae137), (12, .ref ae143), (19, .int v19), (29, .int v29)]) hx hb dL_law_1533 hl (k := 12) rfl (by rw [ev30_1533]; rfl) (by decide) rfl (fun ls hl => ?_)
        refine lv_goto (tgt := 1492) hx hb dL_law_1536 (by decide) ?_
        exact ih1492 _ _ _ _ _ _ _ _ _ _ _ _ _ _ _ _ _ _ _ _ _ _ _ _ _ _ _ hm hT (lv_sub hl [1, 2, 3, 4, 5, 6, 7, 8, 9, 10, 11, 12, 0] rfl) ⟨by omega, by omega⟩
      · have hm := hm.2 c_1504
        refine lv_iload hx hb dL_law_1507 (lv_at hl 10 rfl) ?_
        refine lv_aload_n hx hb dL_law_1509 rfl (lv_at hl 2 rfl) ?_
        refine lv_iconst (v := 1) hx hb dL_law_1510 (by decide) ?_
        refine k_X5_count hC hN hK hT.dropL.dropR.1 hT.dropL.dropR.D' hm wq_507 (by decide) hl.1 (Nat.le_of_ble_eq_true rfl) ⟨by omega, by omega⟩ dL_law_1511 (fun r_1511 hm => ?_)
        refine lv_icmp_ne (tgt := 1533) hx hb dL_law_1514 (by decide) (fun c_1514 => ?_) (fun c_1514 => ?_)
        · have hm := hm.1 c_1514
          obtain ⟨v30_1533, ev30_1533⟩ : ∃ y : Int32, y = v30 + 1 := ⟨_, rfl⟩
          have hm := hm v30_1533 ev30_1533
          refine lv_iinc (v := v30_1533) (lv' := [(30, .int v30_1533), (0, .ref scr), (2, .ref (sa)), (3, .ref (ca)), (4, .int v4), (5, .int v5), (6, .int v6), (7, .int v7), (10, .ref ae129), (11, .ref ae137), (12, .ref ae143), (19, .int v19), (29, .int v29)]) hx hb dL_law_1533 hl (k := 12) rfl (by rw [ev30_1533]; rfl) (by decide) rfl (fun ls hl => ?_)
          refine lv_goto (tgt := 1492) hx hb dL_law_1536 (by decide) ?_
          exact ih1492 _ _ _ _ _ _ _ _ _ _ _ _ _ _ _ _ _ _ _ _ _ _ _ _ _ _ _ hm hT (lv_sub hl [1, 2, 3, 4, 5, 6, 7, 8, 9, 10, 11, 12, 0] rfl) ⟨by omega, by omega⟩
        · have hm := hm.2 c_1514
          refine lv_iload hx hb dL_law_1517 (lv_at hl 11 rfl) ?_
          refine lv_if_ne (tgt := 1533) hx hb dL_law_1519 (by decide) (fun c_1519 => ?_) (fun c_1519 => ?_)
          · have hm := hm.1 c_1519
            obtain ⟨v30_1533, ev30_1533⟩ : ∃ y : Int32, y = v30 + 1 := ⟨_, rfl⟩
            have hm := hm v30_1533 ev30_1533
            refine lv_iinc (v := v30_1533) (lv' := [(30, .int v30_1533), (0, .ref scr), (2, .ref (sa)), (3, .ref (ca)), (4, .int v4), (5, .int v5), (6, .int v6), (7, .int v7), (10, .ref ae129), (11, .ref ae137), (12, .ref ae143), (19, .int v19), (29, .int v29)]) hx hb dL_law_1533 hl (k := 12) rfl (by rw [ev30_1533]; rfl) (by decide) rfl (fun ls hl => ?_)
            refine lv_goto (tgt := 1492) hx hb dL_law_1536 (by decide) ?_
            exact ih1492 _ _ _ _ _ _ _ _ _ _ _ _ _ _ _ _ _ _ _ _ _ _ _ _ _ _ _ hm hT (lv_sub hl [1, 2, 3, 4, 5, 6, 7, 8, 9, 10, 11, 12, 0] rfl) ⟨by omega, by omega⟩
          · have hm := hm.2 c_1519
            refine lv_aload_n hx hb dL_law_1522 rfl (lv_at hl 2 rfl) ?_
            refine lv_bipush (v := 7) hx hb dL_law_1523 (by decide) ?_
            refine k_X5_count hC hN hK hT.dropL.dropR.1 hT.dropL.dropR.D' hm wq_507 (by decide) hl.1 (Nat.le_of_ble_eq_true rfl) ⟨by omega, by omega⟩ dL_law_1525 (fun r_1525 hm => ?_)
            refine lv_if_ne (tgt := 1533) hx hb dL_law_1528 (by decide) (fun c_1528 => ?_) (fun c_1528 => ?_)
            · have hm := hm.1 c_1528
              obtain ⟨v30_1533, ev30_1533⟩ : ∃ y : Int32, y = v30 + 1 := ⟨_, rfl⟩
              have hm := hm v30_1533 ev30_1533
              refine lv_iinc (v := v30_1533) (lv' := [(30, .int v30_1533), (0, .ref scr), (2, .ref (sa)), (3, .ref (ca)), (4, .int v4), (5, .int v5), (6, .int v6), (7, .int v7), (10, .ref ae129), (11, .ref ae137), (12, .ref ae143), (19, .int v19), (29, .int v29)]) hx hb dL_law_1533 hl (k := 12) rfl (by rw [ev30_1533]; rfl) (by decide) rfl (fun ls hl => ?_)
              refine lv_goto (tgt := 1492) hx hb dL_law_1536 (by decide) ?_
              exact ih1492 _ _ _ _ _ _ _ _ _ _ _ _ _ _ _ _ _ _ _ _ _ _ _ _ _ _ _ hm hT (lv_sub hl [1, 2, 3, 4, 5, 6, 7, 8, 9, 10, 11, 12, 0] rfl) ⟨by omega, by omega⟩
            · have hm := hm.2 c_1528
              refine lv_iconst (v := 0) hx hb dL_law_1531 (by decide) ?_
              exact hm.elim
set_option maxRecDepth 100000 in
set_option maxHeartbeats 16000000 in
theorem tl_1407 {p : Program} {l : Launch} {e : Env} {s : State} {m : MethodId} {args : Array Value} {below : List Frame} {meth : Method} {c : Code} {Q : State → Prop} {A : Nat → Prop} {D : va_G} {rx : Nat → Nat} {Z : Nat → ClassId} {a b q : Nat → Nat} {ca tp rd sp : Nat} {P : M2} {sa : Nat} {o : Nat → Nat} {ro : Nat → Nat → Nat} {nn : Nat → Nat} {V S O : M2} {scr Ln : Nat} {xs : Nat → Int32} {K : Int32 → Prop} (hC : CallFix p m c cL_law 35 s args lw_g RL) (hN : NW s) (hfl : l.stackTraces = false) (hR : RX rx scr Ln xs A s s.heap) (hK : va_K D vwCl (tysG Z) s) (hLn : Ln < 2 ^ 31) (n60 : Nat) (n1168 : Nat) (ih1168 : ∀ (ap : Nat) (F : M2) (G : M2) (C : M2) (N : M2) (U : M2) (L : M2) (B : M2) (e143 : (Nat → Int32)) (e137 : (Nat → Int32)) (e129 : M2) (e119 : M2) (v4 : Int32) (v5 : Int32) (v6 : Int32) (v7 : Int32) (v19 : Int32) (v29 : Int32) (v30 : Int32) (ae143 : Nat) (ae137 : Nat) (ae129 : Nat) (rae129 : Nat → Nat) (ae119 : Nat) (rae119 : Nat → Nat) (H : Heap) (locs : List Loc) (ls : Array Slot) (cc cs : Nat), wl_L_law_1168 q P nn V S O xs Ln (wl_L_law_60 q P nn V S O xs Ln K n60) K n1168 ap F G C N U L B e143 e137 e129 e119 v4 v5 v6 v7 v19 v29 v30 → TS vwCl D ([(ae143, .inl (Z 4, v6.toInt.toNat, .inl e143)), (ae137, .inl (Z 0, v4.toInt.toNat, .inl e137)), (ae129, .inl (Z 3, v5.toInt.toNat, .inr (.inr (.inr (.inr (fun j => if j < v5.toInt.toNat then some (rae129 j) else none)))))), (ae119, .inl (Z 3, v6.toInt.toNat, .inr (.inr (.inr (.inr (fun j => if j < v6.toInt.toNat then some (rae119 j) else none))))))] ++ ((CA Z a b q ca tp rd sp P ap F G C) ++ ((SM Z sa o ro nn V S O N U L B) ++ (pool Z rae129 e129 7 (v5.toInt.toNat) ++ (pool Z rae119 e119 7 (v6.toInt.toNat) ++ []))))) A s.heap H locs → lv_has ls 35 [(0, .ref scr), (2, .ref (sa)), (3, .ref (ca)), (4, .int v4), (5, .int v5), (6, .int v6), (7, .int v7), (9, .ref ae119), (10, .ref ae129), (11, .ref ae137), (12, .ref ae143), (19, .int v19), (29, .int v29), (30, .int v30)] → cc + (n1168 * 0 + 0 + n60 * 140 + 14) ≤ 600086 ∧ cs + (n1168 * 0 + 0 + n60 * 1300 + 150) ≤ 7301442 → W p l e (rk 2048 600086 7301442) s m args below meth c H locs cc cs Q (F0 m 1168 ls [])) : ∀ (ap : Nat) (F : M2) (G : M2) (C : M2) (N : M2) (U : M2) (L : M2) (B : M2) (e143 : (Nat → Int32)) (e137 : (Nat → Int32)) (e129 : M2) (e119 : M2) (v4 : Int32) (v5 : Int32) (v6 : Int32) (v7 : Int32) (v19 : Int32) (v29 : Int32) (v30 : Int32) (v31 : Int32) (v32 : Int32) (ae143 : Nat) (ae137 : Nat) (ae129 : Nat) (rae129 : Nat → Nat) (ae119 : Nat) (rae119 : Nat → Nat) (H : Heap) (locs : List Loc) (ls : Array Slot) (cc cs : Nat), wj_L_law_1407 q P nn V S O xs Ln (wl_L_law_60 q P nn V S O xs Ln K n60) (wl_L_law_1168 q P nn V S O xs Ln (wl_L_law_60 q P nn V S O xs Ln K n60) K n1168) K ap F G C N U L B e143 e137 e129 e119 v4 v5 v6 v7 v19 v29 v30 v31 v32 → TS vwCl D ([(ae143, .inl (Z 4, v6.toInt.toNat, .inl e143)), (ae137, .inl (Z 0, v4.toInt.toNat, .inl e137)), (ae129, .inl (Z 3, v5.toInt.toNat, .inr (.inr (.inr (.inr (fun j => if j < v5.toInt.toNat then some (rae129 j) else none)))))), (ae119, .inl (Z 3, v6.toInt.toNat, .inr (.inr (.inr (.inr (fun j => if j < v6.toInt.toNat then some (rae119 j) else none))))))] ++ ((CA Z a b q ca tp rd sp P ap F G C) ++ ((SM Z sa o ro nn V S O N U L B) ++ (pool Z rae129 e129 7 (v5.toInt.toNat) ++ (pool Z rae119 e119 7 (v6.toInt.toNat) ++ []))))) A s.heap H locs → lv_has ls 35 [(0, .ref scr), (2, .ref (sa)), (3, .ref (ca)), (4, .int v4), (5, .int v5), (6, .int v6), (7, .int v7), (9, .ref ae119), (10, .ref ae129), (11, .ref ae137), (12, .ref ae143), (19, .int v19), (29, .int v29), (30, .int v30), (31, .ref (rae119 v31.toInt.toNat)), (32, .int v32)] → cc + (0 + n60 * 140 + 14 + n1168 * 0 + 0) ≤ 600086 ∧ cs + (0 + n60 * 1300 + 150 + n1168 * 0 + 0) ≤ 7301442 → W p l e (rk 2048 600086 7301442) s m args below meth c H locs cc cs Q (F0 m 1407 ls []) := by
  have hx := hC.1
  have hb := hC.2.1
  intro ap F G C N U L B e143 e137 e129 e119 v4 v5 v6 v7 v19 v29 v30 v31 v32 ae143 ae137 ae129 rae129 ae119 rae119 H locs ls cc cs hm hT hl hcb
  refine lv_iload hx hb dL_law_1407 (lv_at hl 15 rfl) ?_
  refine lv_iconst (v := 2) hx hb dL_law_1409 (by decide) ?_
  refine lv_icmp_ne (tgt := 1475) hx hb dL_law_1410 (by decide) (fun c_1410 => ?_) (fun c_1410 => ?_)
  · have hm := hm.1 c_1410
    obtain ⟨v30_1475, ev30_1475⟩ : ∃ y : Int32, y = v30 + 1 := ⟨_, rfl⟩
    have hm := hm v30_1475 ev30_1475
    refine lv_iinc (v := v30_1475) (lv' := [(30, .int v30_1475), (0, .ref scr), (2, .ref (sa)), (3, .ref (ca)), (4, .int v4), (5, .int v5), (6, .int v6), (7, .int v7), (9, .ref ae119), (10, .ref ae129), (11, .ref ae137), (12, .ref ae143), (19, .int v19), (29, .int v29), (31, .ref (rae119 v31.toInt.toNat)), (32, .int v32)]) hx hb dL_law_1475 hl (k := 13) rfl (by rw [ev30_1475]; rfl) (by decide) rfl (fun ls hl => ?_)
    refine lv_goto (tgt := 1168) hx hb dL_law_1478 (by decide) ?_
    exact ih1168 _ _ _ _ _ _ _ _ _ _ _ _ _ _ _ _ _ _ _ _ _ _ _ _ _ _ _ _ _ _ hm hT (lv_sub hl [1, 2, 3, 4, 5, 6, 7, 8, 9, 10, 11, 12, 13, 0] rfl) ⟨by omega, by omega⟩
  · have hm := hm.2 c_1410
    refine lv_aload hx hb dL_law_1413 (lv_at hl 14 rfl) ?_
    refine lv_iconst (v := 3) hx hb dL_law_1415 (by decide) ?_
    refine wr_ld (jn := 3) (f := (fun X => [(ae143, .inl (Z 4, v6.toInt.toNat, .inl e143)), (ae137, .inl (Z 0, v4.toInt.toNat, .inl e137)), (ae129, .inl (Z 3, v5.toInt.toNat, .inr (.inr (.inr (.inr (fun j => if j < v5.toInt.toNat then some (rae129 j) else none)))))), (ae119, .inl (Z 3, v6.toInt.toNat, .inr (.inr (.inr (.inr (fun j => if j < v6.toInt.toNat then some (rae119 j) else none))))))] ++ ((CA Z a b q ca tp rd sp P ap F G C) ++ ((SM Z sa o ro nn V S O N U L B) ++ (pool Z rae129 e129 7 (v5.toInt.toNat) ++ (pool Z rae119 X 7 (v6.toInt.toNat) ++ [])))))) (sm_pre (sm_pre (sm_pre (sm_pre pool_hf _) _) _) _) hC hK hT.1 hm.1 (by decide) rfl dL_law_1416 ?_
    have hm := hm.2
    refine lv_iconst (v := 2) hx hb dL_law_1417 (by decide) ?_
    refine lv_icmp_ge (tgt := 1475) hx hb dL_law_1418 (by decide) (fun c_1418 => ?_) (fun c_1418 => ?_)
    · have hm := hm.1 c_1418
      obtain ⟨v30_1475, ev30_1475⟩ : ∃ y : Int32, y = v30 + 1 := ⟨_, rfl⟩
      have hm := hm v30_1475 ev30_1475
      refine lv_iinc (v := v30_1475) (lv' := [(30, .int v30_1475), (0, .ref scr), (2, .ref (sa)), (3, .ref (ca)), (4, .int v4), (5, .int v5), (6, .int v6), (7, .int v7), (9, .ref ae119), (10, .ref ae129), (11, .ref ae137), (12, .ref ae143), (19, .int v19), (29, .int v29), (31, .ref (rae119 v31.toInt.toNat)), (32, .int v32)]) hx hb dL_law_1475 hl (k := 13) rfl (by rw [ev30_1475]; rfl) (by decide) rfl (fun ls hl => ?_)
      refine lv_goto (tgt := 1168) hx hb dL_law_1478 (by decide) ?_
      exact ih1168 _ _ _ _ _ _ _ _ _ _ _ _ _ _ _ _ _ _ _ _ _ _ _ _ _ _ _ _ _ _ hm hT (lv_sub hl [1, 2, 3, 4, 5, 6, 7, 8, 9, 10, 11, 12, 13, 0] rfl) ⟨by omega, by omega⟩
    · have hm := hm.2 c_1418
      refine lv_aload_n hx hb dL_law_1421 rfl (lv_at hl 2 rfl) ?_
      refine lv_iload hx hb dL_law_1422 (lv_at hl 13 rfl) ?_
      refine lv_bipush (v := 6) hx hb dL_law_1424 (by decide) ?_
      refine k_X5_boat hC hN hK hT.dropL.dropR.1 hT.dropL.dropR.D' hm wq_638 (by decide) hl.1 (Nat.le_of_ble_eq_true rfl) ⟨by omega, by omega⟩ dL_law_1426 (fun r_1426 hm => ?_)
      refine lv_aload_n hx hb dL_law_1429 rfl (lv_at hl 2 rfl) ?_
      refine lv_iconst (v := 0) hx hb dL_law_1430 (by decide) ?_
      refine k_X5_count hC hN hK hT.dropL.dropR.1 hT.dropL.dropR.D' hm wq_507 (by decide) hl.1 (Nat.le_of_ble_eq_true rfl) ⟨by omega, by omega⟩ dL_law_1431 (fun r_1431 hm => ?_)
      refine lv_iconst (v := 1) hx hb dL_law_1434 (by decide) ?_
      refine lv_isub hx hb dL_law_1435 ?_
      refine lv_icmp_ne (tgt := 1473) hx hb dL_law_1436 (by decide) (fun c_1436 => ?_) (fun c_1436 => ?_)
      · have hm := hm.1 c_1436
        refine lv_iconst (v := 0) hx hb dL_law_1473 (by decide) ?_
        exact hm.elim
      · have hm := hm.2 c_1436
        refine lv_aload_n hx hb dL_law_1439 rfl (lv_at hl 2 rfl) ?_
        refine lv_aload_n hx hb dL_law_1440 rfl (lv_at hl 2 rfl) ?_
        refine lv_iload hx hb dL_law_1441 (lv_at hl 13 rfl) ?_
        refine lv_iconst (v := 0) hx hb dL_law_1443 (by decide) ?_
        refine k_X5_crew hC hN hK hT.dropL.dropR.1 hT.dropL.dropR.D' hm wq_643 (by decide) hl.1 (Nat.le_of_ble_eq_true rfl) ⟨by omega, by omega⟩ dL_law_1444 (fun r_1444 hm => ?_)
        refine lv_iconst (v := 5) hx hb dL_law_1447 (by decide) ?_
        refine k_X5_legger hC hN hK hT.dropL.dropR.1 hT.dropL.dropR.D' hm wq_624 (by decide) hl.1 (Nat.le_of_ble_eq_true rfl) ⟨by omega, by omega⟩ dL_law_1448 (fun r_1448 hm => ?_)
        refine lv_bipush (v := 9) hx hb dL_law_1451 (by decide) ?_
        refine lv_icmp_ne (tgt := 1473) hx hb dL_law_1453 (by decide) (fun c_1453 => ?_) (fun c_1453 => ?_)
        · have hm := hm.1 c_1453
          refine lv_iconst (v := 0) hx hb dL_law_1473 (by decide) ?_
          exact hm.elim
        · have hm := hm.2 c_1453
          refine lv_aload_n hx hb dL_law_1456 rfl (lv_at hl 2 rfl) ?_
          refine lv_aload_n hx hb dL_law_1457 rfl (lv_at hl 2 rfl) ?_
          refine lv_iload hx hb dL_law_1458 (lv_at hl 13 rfl) ?_
          refine lv_iconst (v := 1) hx hb dL_law_1460 (by decide) ?_
          refine k_X5_crew hC hN hK hT.dropL.dropR.1 hT.dropL.dropR.D' hm wq_643 (by decide) hl.1 (Nat.le_of_ble_eq_true rfl) ⟨by omega, by omega⟩ dL_law_1461 (fun r_1461 hm => ?_)
          refine lv_iconst (v := 5) hx hb dL_law_1464 (by decide) ?_
          refine k_X5_legger hC hN hK hT.dropL.dropR.1 hT.dropL.dropR.D' hm wq_624 (by decide) hl.1 (Nat.le_of_ble_eq_true rfl) ⟨by omega, by omega⟩ dL_law_1465 (fun r_1465 hm => ?_)
          refine lv_bipush (v := 9) hx hb dL_law_1468 (by decide) ?_
          refine lv_icmp_eq (tgt := 1475) hx hb dL_law_1470 (by decide) (fun c_1470 => ?_) (fun c_1470 => ?_)
          · have hm := hm.1 c_1470
            obtain ⟨v30_1475, ev30_1475⟩ : ∃ y : Int32, y = v30 + 1 := ⟨_, rfl⟩
            have hm := hm v30_1475 ev30_1475
            refine lv_iinc (v := v30_1475) (lv' := [(30, .int v30_1475), (0, .ref scr), (2, .ref (sa)), (3, .ref (ca)), (4, .int v4), (5, .int v5), (6, .int v6), (7, .int v7), (9, .ref ae119), (10, .ref ae129), (11, .ref ae137), (12, .ref ae143), (19, .int v19), (29, .int v29), (31, .ref (rae119 v31.toInt.toNat)), (32, .int v32)]) hx hb dL_law_1475 hl (k := 13) rfl (by rw [ev30_1475]; rfl) (by decide) rfl (fun ls hl => ?_)
            refine lv_goto (tgt := 1168) hx hb dL_law_1478 (by decide) ?_
            exact ih1168 _ _ _ _ _ _ _ _ _ _ _ _ _ _ _ _ _ _ _ _ _ _ _ _ _ _ _ _ _ _ hm hT (lv_sub hl [1, 2, 3, 4, 5, 6, 7, 8, 9, 10, 11, 12, 13, 0] rfl) ⟨by omega, by omega⟩
          · have hm := hm.2 c_1470
            refine lv_iconst (v := 0) hx hb dL_law_1473 (by decide) ?_
            exact hm.elim
set_option maxRecDepth 100000 in
set_option maxHeartbeats 16000000 in
theorem tl_1363 {p : Program} {l : Launch} {e : Env} {s : State} {m : MethodId} {args : Array Value} {below : List Frame} {meth : Method} {c : Code} {Q : State → Prop} {A : Nat → Prop} {D : va_G} {rx : Nat → Nat} {Z : Nat → ClassId} {a b q : Nat → Nat} {ca tp rd sp : Nat} {P : M2} {sa : Nat} {o : Nat → Nat} {ro : Nat → Nat → Nat} {nn : Nat → Nat} {V S O : M2} {scr Ln : Nat} {xs : Nat → Int32} {K : Int32 → Prop} (hC : CallFix p m c cL_law 35 s args lw_g RL) (hN : NW s) (hfl : l.stackTraces = false) (hR : RX rx scr Ln xs A s s.heap) (hK : va_K D vwCl (tysG Z) s) (hLn : Ln < 2 ^ 31) (n60 : Nat) (n1168 : Nat) (L1407 : ∀ (ap : Nat) (F : M2) (G : M2) (C : M2) (N : M2) (U : M2) (L : M2) (B : M2) (e143 : (Nat → Int32)) (e137 : (Nat → Int32)) (e129 : M2) (e119 : M2) (v4 : Int32) (v5 : Int32) (v6 : Int32) (v7 : Int32) (v19 : Int32) (v29 : Int32) (v30 : Int32) (v31 : Int32) (v32 : Int32) (ae143 : Nat) (ae137 : Nat) (ae129 : Nat) (rae129 : Nat → Nat) (ae119 : Nat) (rae119 : Nat → Nat) (H : Heap) (locs : List Loc) (ls : Array Slot) (cc cs : Nat), wj_L_law_1407 q P nn V S O xs Ln (wl_L_law_60 q P nn V S O xs Ln K n60) (wl_L_law_1168 q P nn V S O xs Ln (wl_L_law_60 q P nn V S O xs Ln K n60) K n1168) K ap F G C N U L B e143 e137 e129 e119 v4 v5 v6 v7 v19 v29 v30 v31 v32 → TS vwCl D ([(ae143, .inl (Z 4, v6.toInt.toNat, .inl e143)), (ae137, .inl (Z 0, v4.toInt.toNat, .inl e137)), (ae129, .inl (Z 3, v5.toInt.toNat, .inr (.inr (.inr (.inr (fun j => if j < v5.toInt.toNat then some (rae129 j) else none)))))), (ae119, .inl (Z 3, v6.toInt.toNat, .inr (.inr (.inr (.inr (fun j => if j < v6.toInt.toNat then some (rae119 j) else none))))))] ++ ((CA Z a b q ca tp rd sp P ap F G C) ++ ((SM Z sa o ro nn V S O N U L B) ++ (pool Z rae129 e129 7 (v5.toInt.toNat) ++ (pool Z rae119 e119 7 (v6.toInt.toNat) ++ []))))) A s.heap H locs → lv_has ls 35 [(0, .ref scr), (2, .ref (sa)), (3, .ref (ca)), (4, .int v4), (5, .int v5), (6, .int v6), (7, .int v7), (9, .ref ae119), (10, .ref ae129), (11, .ref ae137), (12, .ref ae143), (19, .int v19), (29, .int v29), (30, .int v30), (31, .ref (rae119 v31.toInt.toNat)), (32, .int v32)] → cc + (0 + n60 * 140 + 14 + n1168 * 0 + 0) ≤ 600086 ∧ cs + (0 + n60 * 1300 + 150 + n1168 * 0 + 0) ≤ 7301442 → W p l e (rk 2048 600086 7301442) s m args below meth c H locs cc cs Q (F0 m 1407 ls [])) : ∀ (ap : Nat) (F : M2) (G : M2) (C : M2) (N : M2) (U : M2) (L : M2) (B : M2) (e143 : (Nat → Int32)) (e137 : (Nat → Int32)) (e129 : M2) (e119 : M2) (v4 : Int32) (v5 : Int32) (v6 : Int32) (v7 : Int32) (v19 : Int32) (v29 : Int32) (v30 : Int32) (v31 : Int32) (v32 : Int32) (q0 : Int32) (ae143 : Nat) (ae137 : Nat) (ae129 : Nat) (rae129 : Nat → Nat) (ae119 : Nat) (rae119 : Nat → Nat) (H : Heap) (locs : List Loc) (ls : Array Slot) (cc cs : Nat), wj_L_law_1363 q P nn V S O xs Ln (wl_L_law_60 q P nn V S O xs Ln K n60) (wl_L_law_1168 q P nn V S O xs Ln (wl_L_law_60 q P nn V S O xs Ln K n60) K n1168) K ap F G C N U L B e143 e137 e129 e119 v4 v5 v6 v7 v19 v29 v30 v31 v32 q0 → TS vwCl D ([(ae143, .inl (Z 4, v6.toInt.toNat, .inl e143)), (ae137, .inl (Z 0, v4.toInt.toNat, .inl e137)), (ae129, .inl (Z 3, v5.toInt.toNat, .inr (.inr (.inr (.inr (fun j => if j < v5.toInt.toNat then some (rae129 j) else none)))))), (ae119, .inl (Z 3, v6.toInt.toNat, .inr (.inr (.inr (.inr (fun j => if j < v6.toInt.toNat then some (rae119 j) else none))))))] ++ ((CA Z a b q ca tp rd sp P ap F G C) ++ ((SM Z sa o ro nn V S O N U L B) ++ (pool Z rae129 e129 7 (v5.toInt.toNat) ++ (pool Z rae119 e119 7 (v6.toInt.toNat) ++ []))))) A s.heap H locs → lv_has ls 35 [(0, .ref scr), (2, .ref (sa)), (3, .ref (ca)), (4, .int v4), (5, .int v5), (6, .int v6), (7, .int v7), (9, .ref ae119), (10, .ref ae129), (11, .ref ae137), (12, .ref ae143), (19, .int v19), (29, .int v29), (30, .int v30), (31, .ref (rae119 v31.toInt.toNat)), (32, .int v32)] → cc + (0 + n60 * 140 + 14 + n1168 * 0 + 0) ≤ 600086 ∧ cs + (0 + n60 * 1300 + 150 + n1168 * 0 + 0) ≤ 7301442 → W p l e (rk 2048 600086 7301442) s m args below meth c H locs cc cs Q (F0 m 1363 ls [.int q0]) := by
  have hx := hC.1
  have hb := hC.2.1
  intro ap F G C N U L B e143 e137 e129 e119 v4 v5 v6 v7 v19 v29 v30 v31 v32 q0 ae143 ae137 ae129 rae129 ae119 rae119 H locs ls cc cs hm hT hl hcb
  refine lv_istore (lv' := [(34, .int q0), (0, .ref scr), (2, .ref (sa)), (3, .ref (ca)), (4, .int v4), (5, .int v5), (6, .int v6), (7, .int v7), (9, .ref ae119), (10, .ref ae129), (11, .ref ae137), (12, .ref ae143), (19, .int v19), (29, .int v29), (30, .int v30), (31, .ref (rae119 v31.toInt.toNat)), (32, .int v32)]) hx hb dL_law_1363 hl (by decide) rfl (fun ls hl => ?_)
  refine lv_iload hx hb dL_law_1365 (lv_at hl 16 rfl) ?_
  refine lv_iconst (v := 1) hx hb dL_law_1367 (by decide) ?_
  refine lv_icmp_ne (tgt := 1407) hx hb dL_law_1368 (by decide) (fun c_1368 => ?_) (fun c_1368 => ?_)
  · have hm := hm.1 c_1368
    exact L1407 _ _ _ _ _ _ _ _ _ _ _ _ _ _ _ _ _ _ _ _ _ _ _ _ _ _ _ _ _ _ _ _ hm hT (lv_sub hl [1, 2, 3, 4, 5, 6, 7, 8, 9, 10, 11, 12, 13, 14, 15, 16] rfl) ⟨by omega, by omega⟩
  · have hm := hm.2 c_1368
    refine lv_aload hx hb dL_law_1371 (lv_at hl 15 rfl) ?_
    refine lv_iconst (v := 1) hx hb dL_law_1373 (by decide) ?_
    refine wr_ld (jn := 1) (f := (fun X => [(ae143, .inl (Z 4, v6.toInt.toNat, .inl e143)), (ae137, .inl (Z 0, v4.toInt.toNat, .inl e137)), (ae129, .inl (Z 3, v5.toInt.toNat, .inr (.inr (.inr (.inr (fun j => if j < v5.toInt.toNat then some (rae129 j) else none)))))), (ae119, .inl (Z 3, v6.toInt.toNat, .inr (.inr (.inr (.inr (fun j => if j < v6.toInt.toNat then some (rae119 j) else none))))))] ++ ((CA Z a b q ca tp rd sp P ap F G C) ++ ((SM Z sa o ro nn V S O N U L B) ++ (pool Z rae129 e129 7 (v5.toInt.toNat) ++ (pool Z rae119 X 7 (v6.toInt.toNat) ++ [])))))) (sm_pre (sm_pre (sm_pre (sm_pre pool_hf _) _) _) _) hC hK hT.1 hm.1 (by decide) rfl dL_law_1374 ?_
    have hm := hm.2
    refine lv_if_ne (tgt := 1393) hx hb dL_law_1375 (by decide) (fun c_1375 => ?_) (fun c_1375 => ?_)
    · have hm := hm.1 c_1375
      refine lv_aload_n hx hb dL_law_1393 rfl (lv_at hl 3 rfl) ?_
      refine lv_iload hx hb dL_law_1394 (lv_at hl 14 rfl) ?_
      refine lv_iconst (v := 4) hx hb dL_law_1396 (by decide) ?_
      refine k_X5_boat hC hN hK hT.dropL.dropR.1 hT.dropL.dropR.D' hm wq_638 (by decide) hl.1 (Nat.le_of_ble_eq_true rfl) ⟨by omega, by omega⟩ dL_law_1397 (fun r_1397 hm => ?_)
      refine lv_iload hx hb dL_law_1400 (lv_at hl 0 rfl) ?_
      refine lv_icmp_le (tgt := 1407) hx hb dL_law_1402 (by decide) (fun c_1402 => ?_) (fun c_1402 => ?_)
      · have hm := hm.1 c_1402
        exact L1407 _ _ _ _ _ _ _ _ _ _ _ _ _ _ _ _ _ _ _ _ _ _ _ _ _ _ _ _ _ _ _ _ hm hT (lv_sub hl [1, 2, 3, 4, 5, 6, 7, 8, 9, 10, 11, 12, 13, 14, 15, 16] rfl) ⟨by omega, by omega⟩
      · have hm := hm.2 c_1402
        refine lv_iconst (v := 0) hx hb dL_law_1405 (by decide) ?_
        exact hm.elim
    · have hm := hm.2 c_1375
      refine lv_aload_n hx hb dL_law_1378 rfl (lv_at hl 3 rfl) ?_
      refine lv_iload hx hb dL_law_1379 (lv_at hl 14 rfl) ?_
      refine lv_iconst (v := 4) hx hb dL_law_1381 (by decide) ?_
      refine k_X5_boat hC hN hK hT.dropL.dropR.1 hT.dropL.dropR.D' hm wq_638 (by decide) hl.1 (Nat.le_of_ble_eq_true rfl) ⟨by omega, by omega⟩ dL_law_1382 (fun r_1382 hm => ?_)
      refine lv_iload hx hb dL_law_1385 (lv_at hl 0 rfl) ?_
      refine lv_icmp_ge (tgt := 1407) hx hb dL_law_1387 (by decide) (fun c_1387 => ?_) (fun c_1387 => ?_)
      · have hm := hm.1 c_1387
        exact L1407 _ _ _ _ _ _ _ _ _ _ _ _ _ _ _ _ _ _ _ _ _ _ _ _ _ _ _ _ _ _ _ _ hm hT (lv_sub hl [1, 2, 3, 4, 5, 6, 7, 8, 9, 10, 11, 12, 13, 14, 15, 16] rfl) ⟨by omega, by omega⟩
      · have hm := hm.2 c_1387
        refine lv_goto (tgt := 1405) hx hb dL_law_1390 (by decide) ?_
        refine lv_iconst (v := 0) hx hb dL_law_1405 (by decide) ?_
        exact hm.elim
set_option maxRecDepth 100000 in
set_option maxHeartbeats 16000000 in
theorem tl_1333 {p : Program} {l : Launch} {e : Env} {s : State} {m : MethodId} {args : Array Value} {below : List Frame} {meth : Method} {c : Code} {Q : State → Prop} {A : Nat → Prop} {D : va_G} {rx : Nat → Nat} {Z : Nat → ClassId} {a b q : Nat → Nat} {ca tp rd sp : Nat} {P : M2} {sa : Nat} {o : Nat → Nat} {ro : Nat → Nat → Nat} {nn : Nat → Nat} {V S O : M2} {scr Ln : Nat} {xs : Nat → Int32} {K : Int32 → Prop} (hC : CallFix p m c cL_law 35 s args lw_g RL) (hN : NW s) (hfl : l.stackTraces = false) (hR : RX rx scr Ln xs A s s.heap) (hK : va_K D vwCl (tysG Z) s) (hLn : Ln < 2 ^ 31) (n60 : Nat) (n1168 : Nat) (L1363 : ∀ (ap : Nat) (F : M2) (G : M2) (C : M2) (N : M2) (U : M2) (L : M2) (B : M2) (e143 : (Nat → Int32)) (e137 : (Nat → Int32)) (e129 : M2) (e119 : M2) (v4 : Int32) (v5 : Int32) (v6 : Int32) (v7 : Int32) (v19 : Int32) (v29 : Int32) (v30 : Int32) (v31 : Int32) (v32 : Int32) (q0 : Int32) (ae143 : Nat) (ae137 : Nat) (ae129 : Nat) (rae129 : Nat → Nat) (ae119 : Nat) (rae119 : Nat → Nat) (H : Heap) (locs : List Loc) (ls : Array Slot) (cc cs : Nat), wj_L_law_1363 q P nn V S O xs Ln (wl_L_law_60 q P nn V S O xs Ln K n60) (wl_L_law_1168 q P nn V S O xs Ln (wl_L_law_60 q P nn V S O xs Ln K n60) K n1168) K ap F G C N U L B e143 e137 e129 e119 v4 v5 v6 v7 v19 v29 v30 v31 v32 q0 → TS vwCl D ([(ae143, .inl (Z 4, v6.toInt.toNat, .inl e143)), (ae137, .inl (Z 0, v4.toInt.toNat, .inl e137)), (ae129, .inl (Z 3, v5.toInt.toNat, .inr (.inr (.inr (.inr (fun j => if j < v5.toInt.toNat then some (rae129 j) else none)))))), (ae119, .inl (Z 3, v6.toInt.toNat, .inr (.inr (.inr (.inr (fun j => if j < v6.toInt.toNat then some (rae119 j) else none))))))] ++ ((CA Z a b q ca tp rd sp P ap F G C) ++ ((SM Z sa o ro nn V S O N U L B) ++ (pool Z rae129 e129 7 (v5.toInt.toNat) ++ (pool Z rae119 e119 7 (v6.toInt.toNat) ++ []))))) A s.heap H locs → lv_has ls 35 [(0, .ref scr), (2, .ref (sa)), (3, .ref (ca)), (4, .int v4), (5, .int v5), (6, .int v6), (7, .int v7), (9, .ref ae119), (10, .ref ae129), (11, .ref ae137), (12, .ref ae143), (19, .int v19), (29, .int v29), (30, .int v30), (31, .ref (rae119 v31.toInt.toNat)), (32, .int v32)] → cc + (0 + n60 * 140 + 14 + n1168 * 0 + 0) ≤ 600086 ∧ cs + (0 + n60 * 1300 + 150 + n1168 * 0 + 0) ≤ 7301442 → W p l e (rk 2048 600086 7301442) s m args below meth c H locs cc cs Q (F0 m 1363 ls [.int q0])) : ∀ (ap : Nat) (F : M2) (G : M2) (C : M2) (N : M2) (U : M2) (L : M2) (B : M2) (e143 : (Nat → Int32)) (e137 : (Nat → Int32)) (e129 : M2) (e119 : M2) (v4 : Int32) (v5 : Int32) (v6 : Int32) (v7 : Int32) (v19 : Int32) (v29 : Int32) (v30 : Int32) (v31 : Int32) (v32 : Int32) (ae143 : Nat) (ae137 : Nat) (ae129 : Nat) (rae129 : Nat → Nat) (ae119 : Nat) (rae119 : Nat → Nat) (H : Heap) (locs : List Loc) (ls : Array Slot) (cc cs : Nat), wj_L_law_1333 q P nn V S O xs Ln (wl_L_law_60 q P nn V S O xs Ln K n60) (wl_L_law_1168 q P nn V S O xs Ln (wl_L_law_60 q P nn V S O xs Ln K n60) K n1168) K ap F G C N U L B e143 e137 e129 e119 v4 v5 v6 v7 v19 v29 v30 v31 v32 → TS vwCl D ([(ae143, .inl (Z 4, v6.toInt.toNat, .inl e143)), (ae137, .inl (Z 0, v4.toInt.toNat, .inl e137)), (ae129, .inl (Z 3, v5.toInt.toNat, .inr (.inr (.inr (.inr (fun j => if j < v5.toInt.toNat then some (rae129 j) else none)))))), (ae119, .inl (Z 3, v6.toInt.toNat, .inr (.inr (.inr (.inr (fun j => if j < v6.toInt.toNat then some (rae119 j) else none))))))] ++ ((CA Z a b q ca tp rd sp P ap F G C) ++ ((SM Z sa o ro nn V S O N U L B) ++ (pool Z rae129 e129 7 (v5.toInt.toNat) ++ (pool Z rae119 e119 7 (v6.toInt.toNat) ++ []))))) A s.heap H locs → lv_has ls 35 [(0, .ref scr), (2, .ref (sa)), (3, .ref (ca)), (4, .int v4), (5, .int v5), (6, .int v6), (7, .int v7), (9, .ref ae119), (10, .ref ae129), (11, .ref ae137), (12, .ref ae143), (19, .int v19), (29, .int v29), (30, .int v30), (31, .ref (rae119 v31.toInt.toNat)), (32, .int v32)] → cc + (0 + n60 * 140 + 14 + n1168 * 0 + 0) ≤ 600086 ∧ cs + (0 + n60 * 1300 + 150 + n1168 * 0 + 0) ≤ 7301442 → W p l e (rk 2048 600086 7301442) s m args below meth c H locs cc cs Q (F0 m 1333 ls []) := by
  have hx := hC.1
  have hb := hC.2.1
  intro ap F G C N U L B e143 e137 e129 e119 v4 v5 v6 v7 v19 v29 v30 v31 v32 ae143 ae137 ae129 rae129 ae119 rae119 H locs ls cc cs hm hT hl hcb
  refine lv_aload hx hb dL_law_1333 (lv_at hl 14 rfl) ?_
  refine lv_iconst (v := 3) hx hb dL_law_1335 (by decide) ?_
  refine wr_ld (jn := 3) (f := (fun X => [(ae143, .inl (Z 4, v6.toInt.toNat, .inl e143)), (ae137, .inl (Z 0, v4.toInt.toNat, .inl e137)), (ae129, .inl (Z 3, v5.toInt.toNat, .inr (.inr (.inr (.inr (fun j => if j < v5.toInt.toNat then some (rae129 j) else none)))))), (ae119, .inl (Z 3, v6.toInt.toNat, .inr (.inr (.inr (.inr (fun j => if j < v6.toInt.toNat then some (rae119 j) else none))))))] ++ ((CA Z a b q ca tp rd sp P ap F G C) ++ ((SM Z sa o ro nn V S O N U L B) ++ (pool Z rae129 e129 7 (v5.toInt.toNat) ++ (pool Z rae119 X 7 (v6.toInt.toNat) ++ [])))))) (sm_pre (sm_pre (sm_pre (sm_pre pool_hf _) _) _) _) hC hK hT.1 hm.1 (by decide) rfl dL_law_1336 ?_
  have hm := hm.2
  refine lv_iconst (v := 1) hx hb dL_law_1337 (by decide) ?_
  refine lv_icmp_ne (tgt := 1348) hx hb dL_law_1338 (by decide) (fun c_1338 => ?_) (fun c_1338 => ?_)
  · have hm := hm.1 c_1338
    refine lv_aload hx hb dL_law_1348 (lv_at hl 14 rfl) ?_
    refine lv_iconst (v := 1) hx hb dL_law_1350 (by decide) ?_
    refine wr_ld (jn := 1) (f := (fun X => [(ae143, .inl (Z 4, v6.toInt.toNat, .inl e143)), (ae137, .inl (Z 0, v4.toInt.toNat, .inl e137)), (ae129, .inl (Z 3, v5.toInt.toNat, .inr (.inr (.inr (.inr (fun j => if j < v5.toInt.toNat then some (rae129 j) else none)))))), (ae119, .inl (Z 3, v6.toInt.toNat, .inr (.inr (.inr (.inr (fun j => if j < v6.toInt.toNat then some (rae119 j) else none))))))] ++ ((CA Z a b q ca tp rd sp P ap F G C) ++ ((SM Z sa o ro nn V S O N U L B) ++ (pool Z rae129 e129 7 (v5.toInt.toNat) ++ (pool Z rae119 X 7 (v6.toInt.toNat) ++ [])))))) (sm_pre (sm_pre (sm_pre (sm_pre pool_hf _) _) _) _) hC hK hT.1 hm.1 (by decide) rfl dL_law_1351 ?_
    have hm := hm.2
    refine lv_if_ne (tgt := 1359) hx hb dL_law_1352 (by decide) (fun c_1352 => ?_) (fun c_1352 => ?_)
    · have hm := hm.1 c_1352
      refine lv_iload hx hb dL_law_1359 (lv_at hl 3 rfl) ?_
      refine lv_iconst (v := 1) hx hb dL_law_1361 (by decide) ?_
      refine lv_isub hx hb dL_law_1362 ?_
      exact L1363 _ _ _ _ _ _ _ _ _ _ _ _ _ _ _ _ _ _ _ _ _ _ _ _ _ _ _ _ _ _ _ _ _ hm hT (lv_sub hl [0, 1, 2, 3, 4, 5, 6, 7, 8, 9, 10, 11, 12, 13, 14, 15] rfl) ⟨by omega, by omega⟩
    · have hm := hm.2 c_1352
      refine lv_iconst (v := 0) hx hb dL_law_1355 (by decide) ?_
      refine lv_goto (tgt := 1363) hx hb dL_law_1356 (by decide) ?_
      exact L1363 _ _ _ _ _ _ _ _ _ _ _ _ _ _ _ _ _ _ _ _ _ _ _ _ _ _ _ _ _ _ _ _ _ hm hT (lv_sub hl [0, 1, 2, 3, 4, 5, 6, 7, 8, 9, 10, 11, 12, 13, 14, 15] rfl) ⟨by omega, by omega⟩
  · have hm := hm.2 c_1338
    refine lv_aload hx hb dL_law_1341 (lv_at hl 14 rfl) ?_
    refine lv_iconst (v := 4) hx hb dL_law_1343 (by decide) ?_
    refine wr_ld (jn := 4) (f := (fun X => [(ae143, .inl (Z 4, v6.toInt.toNat, .inl e143)), (ae137, .inl (Z 0, v4.toInt.toNat, .inl e137)), (ae129, .inl (Z 3, v5.toInt.toNat, .inr (.inr (.inr (.inr (fun j => if j < v5.toInt.toNat then some (rae129 j) else none)))))), (ae119, .inl (Z 3, v6.toInt.toNat, .inr (.inr (.inr (.inr (fun j => if j < v6.toInt.toNat then some (rae119 j) else none))))))] ++ ((CA Z a b q ca tp rd sp P ap F G C) ++ ((SM Z sa o ro nn V S O N U L B) ++ (pool Z rae129 e129 7 (v5.toInt.toNat) ++ (pool Z rae119 X 7 (v6.toInt.toNat) ++ [])))))) (sm_pre (sm_pre (sm_pre (sm_pre pool_hf _) _) _) _) hC hK hT.1 hm.1 (by decide) rfl dL_law_1344 ?_
    have hm := hm.2
    refine lv_goto (tgt := 1363) hx hb dL_law_1345 (by decide) ?_
    exact L1363 _ _ _ _ _ _ _ _ _ _ _ _ _ _ _ _ _ _ _ _ _ _ _ _ _ _ _ _ _ _ _ _ _ hm hT (lv_sub hl [0, 1, 2, 3, 4, 5, 6, 7, 8, 9, 10, 11, 12, 13, 14, 15] rfl) ⟨by omega, by omega⟩
set_option maxRecDepth 100000 in
set_option maxHeartbeats 16000000 in
theorem tl_1299 {p : Program} {l : Launch} {e : Env} {s : State} {m : MethodId} {args : Array Value} {below : List Frame} {meth : Method} {c : Code} {Q : State → Prop} {A : Nat → Prop} {D : va_G} {rx : Nat → Nat} {Z : Nat → ClassId} {a b q : Nat → Nat} {ca tp rd sp : Nat} {P : M2} {sa : Nat} {o : Nat → Nat} {ro : Nat → Nat → Nat} {nn : Nat → Nat} {V S O : M2} {scr Ln : Nat} {xs : Nat → Int32} {K : Int32 → Prop} (hC : CallFix p m c cL_law 35 s args lw_g RL) (hN : NW s) (hfl : l.stackTraces = false) (hR : RX rx scr Ln xs A s s.heap) (hK : va_K D vwCl (tysG Z) s) (hLn : Ln < 2 ^ 31) (n60 : Nat) (n1168 : Nat) (L1333 : ∀ (ap : Nat) (F : M2) (G : M2) (C : M2) (N : M2) (U : M2) (L : M2) (B : M2) (e143 : (Nat → Int32)) (e137 : (Nat → Int32)) (e129 : M2) (e119 : M2) (v4 : Int32) (v5 : Int32) (v6 : Int32) (v7 : Int32) (v19 : Int32) (v29 : Int32) (v30 : Int32) (v31 : Int32) (v32 : Int32) (ae143 : Nat) (ae137 : Nat) (ae129 : Nat) (rae129 : Nat → Nat) (ae119 : Nat) (rae119 : Nat → Nat) (H : Heap) (locs : List Loc) (ls : Array Slot) (cc cs : Nat), wj_L_law_1333 q P nn V S O xs Ln (wl_L_law_60 q P nn V S O xs Ln K n60) (wl_L_law_1168 q P nn V S O xs Ln (wl_L_law_60 q P nn V S O xs Ln K n60) K n1168) K ap F G C N U L B e143 e137 e129 e119 v4 v5 v6 v7 v19 v29 v30 v31 v32 → TS vwCl D ([(ae143, .inl (Z 4, v6.toInt.toNat, .inl e143)), (ae137, .inl (Z 0, v4.toInt.toNat, .inl e137)), (ae129, .inl (Z 3, v5.toInt.toNat, .inr (.inr (.inr (.inr (fun j => if j < v5.toInt.toNat then some (rae129 j) else none)))))), (ae119, .inl (Z 3, v6.toInt.toNat, .inr (.inr (.inr (.inr (fun j => if j < v6.toInt.toNat then some (rae119 j) else none))))))] ++ ((CA Z a b q ca tp rd sp P ap F G C) ++ ((SM Z sa o ro nn V S O N U L B) ++ (pool Z rae129 e129 7 (v5.toInt.toNat) ++ (pool Z rae119 e119 7 (v6.toInt.toNat) ++ []))))) A s.heap H locs → lv_has ls 35 [(0, .ref scr), (2, .ref (sa)), (3, .ref (ca)), (4, .int v4), (5, .int v5), (6, .int v6), (7, .int v7), (9, .ref ae119), (10, .ref ae129), (11, .ref ae137), (12, .ref ae143), (19, .int v19), (29, .int v29), (30, .int v30), (31, .ref (rae119 v31.toInt.toNat)), (32, .int v32)] → cc + (0 + n60 * 140 + 14 + n1168 * 0 + 0) ≤ 600086 ∧ cs + (0 + n60 * 1300 + 150 + n1168 * 0 + 0) ≤ 7301442 → W p l e (rk 2048 600086 7301442) s m args below meth c H locs cc cs Q (F0 m 1333 ls [])) : ∀ (ap : Nat) (F : M2) (G : M2) (C : M2) (N : M2) (U : M2) (L : M2) (B : M2) (e143 : (Nat → Int32)) (e137 : (Nat → Int32)) (e129 : M2) (e119 : M2) (v4 : Int32) (v5 : Int32) (v6 : Int32) (v7 : Int32) (v19 : Int32) (v30 : Int32) (v31 : Int32) (v32 : Int32) (v33 : Int32) (q0 : Int32) (q1 : Int32) (ae143 : Nat) (ae137 : Nat) (ae129 : Nat) (rae129 : Nat → Nat) (ae119 : Nat) (rae119 : Nat → Nat) (H : Heap) (locs : List Loc) (ls : Array Slot) (cc cs : Nat), wj_L_law_1299 q P nn V S O xs Ln (wl_L_law_60 q P nn V S O xs Ln K n60) (wl_L_law_1168 q P nn V S O xs Ln (wl_L_law_60 q P nn V S O xs Ln K n60) K n1168) K ap F G C N U L B e143 e137 e129 e119 v4 v5 v6 v7 v19 v30 v31 v32 v33 q0 q1 → TS vwCl D ([(ae143, .inl (Z 4, v6.toInt.toNat, .inl e143)), (ae137, .inl (Z 0, v4.toInt.toNat, .inl e137)), (ae129, .inl (Z 3, v5.toInt.toNat, .inr (.inr (.inr (.inr (fun j => if j < v5.toInt.toNat then some (rae129 j) else none)))))), (ae119, .inl (Z 3, v6.toInt.toNat, .inr (.inr (.inr (.inr (fun j => if j < v6.toInt.toNat then some (rae119 j) else none))))))] ++ ((CA Z a b q ca tp rd sp P ap F G C) ++ ((SM Z sa o ro nn V S O N U L B) ++ (pool Z rae129 e129 7 (v5.toInt.toNat) ++ (pool Z rae119 e119 7 (v6.toInt.toNat) ++ []))))) A s.heap H locs → lv_has ls 35 [(0, .ref scr), (2, .ref (sa)), (3, .ref (ca)), (4, .int v4), (5, .int v5), (6, .int v6), (7, .int v7), (9, .ref ae119), (10, .ref ae129), (11, .ref ae137), (12, .ref ae143), (19, .int v19), (30, .int v30), (31, .ref (rae119 v31.toInt.toNat)), (32, .int v32), (33, .int v33)] → cc + (0 + n60 * 140 + 14 + n1168 * 0 + 0) ≤ 600086 ∧ cs + (0 + n60 * 1300 + 150 + n1168 * 0 + 0) ≤ 7301442 → W p l e (rk 2048 600086 7301442) s m args below meth c H locs cc cs Q (F0 m 1299 ls [.int q0, .int q1]) := by
  have hx := hC.1
  have hb := hC.2.1
  intro ap F G C N U L B e143 e137 e129 e119 v4 v5 v6 v7 v19 v30 v31 v32 v33 q0 q1 ae143 ae137 ae129 rae129 ae119 rae119 H locs ls cc cs hm hT hl hcb
  refine lv_iadd hx hb dL_law_1299 ?_
  refine lv_topi (fun v29_1300 ev29_1300 => ?_)
  have hm := hm v29_1300 ev29_1300
  refine lv_istore (lv' := [(29, .int v29_1300), (0, .ref scr), (2, .ref (sa)), (3, .ref (ca)), (4, .int v4), (5, .int v5), (6, .int v6), (7, .int v7), (9, .ref ae119), (10, .ref ae129), (11, .ref ae137), (12, .ref ae143), (19, .int v19), (30, .int v30), (31, .ref (rae119 v31.toInt.toNat)), (32, .int v32), (33, .int v33)]) hx hb dL_law_1300 hl (by decide) rfl (fun ls hl => ?_)
  refine lv_iload hx hb dL_law_1302 (lv_at hl 16 rfl) ?_
  refine lv_if_eq (tgt := 1333) hx hb dL_law_1304 (by decide) (fun c_1304 => ?_) (fun c_1304 => ?_)
  · have hm := hm.1 c_1304
    exact L1333 _ _ _ _ _ _ _ _ _ _ _ _ _ _ _ _ _ _ _ _ _ _ _ _ _ _ _ _ _ _ _ _ hm hT (lv_sub hl [1, 2, 3, 4, 5, 6, 7, 8, 9, 10, 11, 12, 0, 13, 14, 15] rfl) ⟨by omega, by omega⟩
  · have hm := hm.2 c_1304
    refine lv_aload hx hb dL_law_1307 (lv_at hl 14 rfl) ?_
    refine lv_iconst (v := 2) hx hb dL_law_1309 (by decide) ?_
    refine wr_ld (jn := 2) (f := (fun X => [(ae143, .inl (Z 4, v6.toInt.toNat, .inl e143)), (ae137, .inl (Z 0, v4.toInt.toNat, .inl e137)), (ae129, .inl (Z 3, v5.toInt.toNat, .inr (.inr (.inr (.inr (fun j => if j < v5.toInt.toNat then some (rae129 j) else none)))))), (ae119, .inl (Z 3, v6.toInt.toNat, .inr (.inr (.inr (.inr (fun j => if j < v6.toInt.toNat then some (rae119 j) else none))))))] ++ ((CA Z a b q ca tp rd sp P ap F G C) ++ ((SM Z sa o ro nn V S O N U L B) ++ (pool Z rae129 e129 7 (v5.toInt.toNat) ++ (pool Z rae119 X 7 (v6.toInt.toNat) ++ [])))))) (sm_pre (sm_pre (sm_pre (sm_pre pool_hf _) _) _) _) hC hK hT.1 hm.1 (by decide) rfl dL_law_1310 ?_
    have hm := hm.2
    refine lv_aload_n hx hb dL_law_1311 rfl (lv_at hl 3 rfl) ?_
    refine lv_iconst (v := 0) hx hb dL_law_1312 (by decide) ?_
    refine k_X5_count hC hN hK hT.dropL.dropR.1 hT.dropL.dropR.D' hm wq_507 (by decide) hl.1 (Nat.le_of_ble_eq_true rfl) ⟨by omega, by omega⟩ dL_law_1313 (fun r_1313 hm => ?_)
    refine lv_icmp_ge (tgt := 1331) hx hb dL_law_1316 (by decide) (fun c_1316 => ?_) (fun c_1316 => ?_)
    · have hm := hm.1 c_1316
      refine lv_iconst (v := 0) hx hb dL_law_1331 (by decide) ?_
      exact hm.elim
    · have hm := hm.2 c_1316
      refine lv_aload hx hb dL_law_1319 (lv_at hl 14 rfl) ?_
      refine lv_iconst (v := 1) hx hb dL_law_1321 (by decide) ?_
      refine wr_ld (jn := 1) (f := (fun X => [(ae143, .inl (Z 4, v6.toInt.toNat, .inl e143)), (ae137, .inl (Z 0, v4.toInt.toNat, .inl e137)), (ae129, .inl (Z 3, v5.toInt.toNat, .inr (.inr (.inr (.inr (fun j => if j < v5.toInt.toNat then some (rae129 j) else none)))))), (ae119, .inl (Z 3, v6.toInt.toNat, .inr (.inr (.inr (.inr (fun j => if j < v6.toInt.toNat then some (rae119 j) else none))))))] ++ ((CA Z a b q ca tp rd sp P ap F G C) ++ ((SM Z sa o ro nn V S O N U L B) ++ (pool Z rae129 e129 7 (v5.toInt.toNat) ++ (pool Z rae119 X 7 (v6.toInt.toNat) ++ [])))))) (sm_pre (sm_pre (sm_pre (sm_pre pool_hf _) _) _) _) hC hK hT.1 hm.1 (by decide) rfl dL_law_1322 ?_
      have hm := hm.2
      refine lv_aload_n hx hb dL_law_1323 rfl (lv_at hl 3 rfl) ?_
      refine lv_iconst (v := 1) hx hb dL_law_1324 (by decide) ?_
      refine k_X5_count hC hN hK hT.dropL.dropR.1 hT.dropL.dropR.D' hm wq_507 (by decide) hl.1 (Nat.le_of_ble_eq_true rfl) ⟨by omega, by omega⟩ dL_law_1325 (fun r_1325 hm => ?_)
      refine lv_icmp_eq (tgt := 1333) hx hb dL_law_1328 (by decide) (fun c_1328 => ?_) (fun c_1328 => ?_)
      · have hm := hm.1 c_1328
        exact L1333 _ _ _ _ _ _ _ _ _ _ _ _ _ _ _ _ _ _ _ _ _ _ _ _ _ _ _ _ _ _ _ _ hm hT (lv_sub hl [1, 2, 3, 4, 5, 6, 7, 8, 9, 10, 11, 12, 0, 13, 14, 15] rfl) ⟨by omega, by omega⟩
      · have hm := hm.2 c_1328
        refine lv_iconst (v := 0) hx hb dL_law_1331 (by decide) ?_
        exact hm.elim
set_option maxRecDepth 100000 in
set_option maxHeartbeats 16000000 in
theorem tl_1284 {p : Program} {l : Launch} {e : Env} {s : State} {m : MethodId} {args : Array Value} {below : List Frame} {meth : Method} {c : Code} {Q : State → Prop} {A : Nat → Prop} {D : va_G} {rx : Nat → Nat} {Z : Nat → ClassId} {a b q : Nat → Nat} {ca tp rd sp : Nat} {P : M2} {sa : Nat} {o : Nat → Nat} {ro : Nat → Nat → Nat} {nn : Nat → Nat} {V S O : M2} {scr Ln : Nat} {xs : Nat → Int32} {K : Int32 → Prop} (hC : CallFix p m c cL_law 35 s args lw_g RL) (hN : NW s) (hfl : l.stackTraces = false) (hR : RX rx scr Ln xs A s s.heap) (hK : va_K D vwCl (tysG Z) s) (hLn : Ln < 2 ^ 31) (n60 : Nat) (n1168 : Nat) (L1299 : ∀ (ap : Nat) (F : M2) (G : M2) (C : M2) (N : M2) (U : M2) (L : M2) (B : M2) (e143 : (Nat → Int32)) (e137 : (Nat → Int32)) (e129 : M2) (e119 : M2) (v4 : Int32) (v5 : Int32) (v6 : Int32) (v7 : Int32) (v19 : Int32) (v30 : Int32) (v31 : Int32) (v32 : Int32) (v33 : Int32) (q0 : Int32) (q1 : Int32) (ae143 : Nat) (ae137 : Nat) (ae129 : Nat) (rae129 : Nat → Nat) (ae119 : Nat) (rae119 : Nat → Nat) (H : Heap) (locs : List Loc) (ls : Array Slot) (cc cs : Nat), wj_L_law_1299 q P nn V S O xs Ln (wl_L_law_60 q P nn V S O xs Ln K n60) (wl_L_law_1168 q P nn V S O xs Ln (wl_L_law_60 q P nn V S O xs Ln K n60) K n1168) K ap F G C N U L B e143 e137 e129 e119 v4 v5 v6 v7 v19 v30 v31 v32 v33 q0 q1 → TS vwCl D ([(ae143, .inl (Z 4, v6.toInt.toNat, .inl e143)), (ae137, .inl (Z 0, v4.toInt.toNat, .inl e137)), (ae129, .inl (Z 3, v5.toInt.toNat, .inr (.inr (.inr (.inr (fun j => if j < v5.toInt.toNat then some (rae129 j) else none)))))), (ae119, .inl (Z 3, v6.toInt.toNat, .inr (.inr (.inr (.inr (fun j => if j < v6.toInt.toNat then some (rae119 j) else none))))))] ++ ((CA Z a b q ca tp rd sp P ap F G C) ++ ((SM Z sa o ro nn V S O N U L B) ++ (pool Z rae129 e129 7 (v5.toInt.toNat) ++ (pool Z rae119 e119 7 (v6.toInt.toNat) ++ []))))) A s.heap H locs → lv_has ls 35 [(0, .ref scr), (2, .ref (sa)), (3, .ref (ca)), (4, .int v4), (5, .int v5), (6, .int v6), (7, .int v7), (9, .ref ae119), (10, .ref ae129), (11, .ref ae137), (12, .ref ae143), (19, .int v19), (30, .int v30), (31, .ref (rae119 v31.toInt.toNat)), (32, .int v32), (33, .int v33)] → cc + (0 + n60 * 140 + 14 + n1168 * 0 + 0) ≤ 600086 ∧ cs + (0 + n60 * 1300 + 150 + n1168 * 0 + 0) ≤ 7301442 → W p l e (rk 2048 600086 7301442) s m args below meth c H locs cc cs Q (F0 m 1299 ls [.int q0, .int q1])) : ∀ (ap : Nat) (F : M2) (G : M2) (C : M2) (N : M2) (U : M2) (L : M2) (B : M2) (e143 : (Nat → Int32)) (e137 : (Nat → Int32)) (e129 : M2) (e119 : M2) (v4 : Int32) (v5 : Int32) (v6 : Int32) (v7 : Int32) (v19 : Int32) (v29 : Int32) (v30 : Int32) (v31 : Int32) (v32 : Int32) (ae143 : Nat) (ae137 : Nat) (ae129 : Nat) (rae129 : Nat → Nat) (ae119 : Nat) (rae119 : Nat → Nat) (H : Heap) (locs : List Loc) (ls : Array Slot) (cc cs : Nat), wj_L_law_1284 q P nn V S O xs Ln (wl_L_law_60 q P nn V S O xs Ln K n60) (wl_L_law_1168 q P nn V S O xs Ln (wl_L_law_60 q P nn V S O xs Ln K n60) K n1168) K ap F G C N U L B e143 e137 e129 e119 v4 v5 v6 v7 v19 v29 v30 v31 v32 → TS vwCl D ([(ae143, .inl (Z 4, v6.toInt.toNat, .inl e143)), (ae137, .inl (Z 0, v4.toInt.toNat, .inl e137)), (ae129, .inl (Z 3, v5.toInt.toNat, .inr (.inr (.inr (.inr (fun j => if j < v5.toInt.toNat then some (rae129 j) else none)))))), (ae119, .inl (Z 3, v6.toInt.toNat, .inr (.inr (.inr (.inr (fun j => if j < v6.toInt.toNat then some (rae119 j) else none))))))] ++ ((CA Z a b q ca tp rd sp P ap F G C) ++ ((SM Z sa o ro nn V S O N U L B) ++ (pool Z rae129 e129 7 (v5.toInt.toNat) ++ (pool Z rae119 e119 7 (v6.toInt.toNat) ++ []))))) A s.heap H locs → lv_has ls 35 [(0, .ref scr), (2, .ref (sa)), (3, .ref (ca)), (4, .int v4), (5, .int v5), (6, .int v6), (7, .int v7), (9, .ref ae119), (10, .ref ae129), (11, .ref ae137), (12, .ref ae143), (19, .int v19), (29, .int v29), (30, .int v30), (31, .ref (rae119 v31.toInt.toNat)), (32, .int v32)] → cc + (0 + n60 * 140 + 14 + n1168 * 0 + 0) ≤ 600086 ∧ cs + (0 + n60 * 1300 + 150 + n1168 * 0 + 0) ≤ 7301442 → W p l e (rk 2048 600086 7301442) s m args below meth c H locs cc cs Q (F0 m 1284 ls []) := by
  have hx := hC.1
  have hb := hC.2.1
  intro ap F G C N U L B e143 e137 e129 e119 v4 v5 v6 v7 v19 v29 v30 v31 v32 ae143 ae137 ae129 rae129 ae119 rae119 H locs ls cc cs hm hT hl hcb
  refine lv_iconst (v := 0) hx hb dL_law_1284 (by decide) ?_
  refine lv_istore (lv' := [(33, .int 0), (0, .ref scr), (2, .ref (sa)), (3, .ref (ca)), (4, .int v4), (5, .int v5), (6, .int v6), (7, .int v7), (9, .ref ae119), (10, .ref ae129), (11, .ref ae137), (12, .ref ae143), (19, .int v19), (29, .int v29), (30, .int v30), (31, .ref (rae119 v31.toInt.toNat)), (32, .int v32)]) hx hb dL_law_1285 hl (by decide) rfl (fun ls hl => ?_)
  refine lv_iload hx hb dL_law_1287 (lv_at hl 13 rfl) ?_
  refine lv_iload hx hb dL_law_1289 (lv_at hl 0 rfl) ?_
  refine lv_if_eq (tgt := 1298) hx hb dL_law_1291 (by decide) (fun c_1291 => ?_) (fun c_1291 => ?_)
  · have hm := hm.1 c_1291
    refine lv_iconst (v := 0) hx hb dL_law_1298 (by decide) ?_
    exact L1299 _ _ _ _ _ _ _ _ _ _ _ _ _ _ _ _ _ _ _ _ _ _ _ _ _ _ _ _ _ _ _ _ _ _ hm hT (lv_sub hl [1, 2, 3, 4, 5, 6, 7, 8, 9, 10, 11, 12, 14, 15, 16, 0] rfl) ⟨by omega, by omega⟩
  · have hm := hm.2 c_1291
    refine lv_iconst (v := 1) hx hb dL_law_1294 (by decide) ?_
    refine lv_goto (tgt := 1299) hx hb dL_law_1295 (by decide) ?_
    exact L1299 _ _ _ _ _ _ _ _ _ _ _ _ _ _ _ _ _ _ _ _ _ _ _ _ _ _ _ _ _ _ _ _ _ _ hm hT (lv_sub hl [1, 2, 3, 4, 5, 6, 7, 8, 9, 10, 11, 12, 14, 15, 16, 0] rfl) ⟨by omega, by omega⟩
set_option maxRecDepth 100000 in
set_option maxHeartbeats 16000000 in
theorem tl_1268 {p : Program} {l : Launch} {e : Env} {s : State} {m : MethodId} {args : Array Value} {below : List Frame} {meth : Method} {c : Code} {Q : State → Prop} {A : Nat → Prop} {D : va_G} {rx : Nat → Nat} {Z : Nat → ClassId} {a b q : Nat → Nat} {ca tp rd sp : Nat} {P : M2} {sa : Nat} {o : Nat → Nat} {ro : Nat → Nat → Nat} {nn : Nat → Nat} {V S O : M2} {scr Ln : Nat} {xs : Nat → Int32} {K : Int32 → Prop} (hC : CallFix p m c cL_law 35 s args lw_g RL) (hN : NW s) (hfl : l.stackTraces = false) (hR : RX rx scr Ln xs A s s.heap) (hK : va_K D vwCl (tysG Z) s) (hLn : Ln < 2 ^ 31) (n60 : Nat) (n1168 : Nat) (L1284 : ∀ (ap : Nat) (F : M2) (G : M2) (C : M2) (N : M2) (U : M2) (L : M2) (B : M2) (e143 : (Nat → Int32)) (e137 : (Nat → Int32)) (e129 : M2) (e119 : M2) (v4 : Int32) (v5 : Int32) (v6 : Int32) (v7 : Int32) (v19 : Int32) (v29 : Int32) (v30 : Int32) (v31 : Int32) (v32 : Int32) (ae143 : Nat) (ae137 : Nat) (ae129 : Nat) (rae129 : Nat → Nat) (ae119 : Nat) (rae119 : Nat → Nat) (H : Heap) (locs : List Loc) (ls : Array Slot) (cc cs : Nat), wj_L_law_1284 q P nn V S O xs Ln (wl_L_law_60 q P nn V S O xs Ln K n60) (wl_L_law_1168 q P nn V S O xs Ln (wl_L_law_60 q P nn V S O xs Ln K n60) K n1168) K ap F G C N U L B e143 e137 e129 e119 v4 v5 v6 v7 v19 v29 v30 v31 v32 → TS vwCl D ([(ae143, .inl (Z 4, v6.toInt.toNat, .inl e143)), (ae137, .inl (Z 0, v4.toInt.toNat, .inl e137)), (ae129, .inl (Z 3, v5.toInt.toNat, .inr (.inr (.inr (.inr (fun j => if j < v5.toInt.toNat then some (rae129 j) else none)))))), (ae119, .inl (Z 3, v6.toInt.toNat, .inr (.inr (.inr (.inr (fun j => if j < v6.toInt.toNat then some (rae119 j) else none))))))] ++ ((CA Z a b q ca tp rd sp P ap F G C) ++ ((SM Z sa o ro nn V S O N U L B) ++ (pool Z rae129 e129 7 (v5.toInt.toNat) ++ (pool Z rae119 e119 7 (v6.toInt.toNat) ++ []))))) A s.heap H locs → lv_has ls 35 [(0, .ref scr), (2, .ref (sa)), (3, .ref (ca)), (4, .int v4), (5, .int v5), (6, .int v6), (7, .int v7), (9, .ref ae119), (10, .ref ae129), (11, .ref ae137), (12, .ref ae143), (19, .int v19), (29, .int v29), (30, .int v30), (31, .ref (rae119 v31.toInt.toNat)), (32, .int v32)] → cc + (0 + n60 * 140 + 14 + n1168 * 0 + 0) ≤ 600086 ∧ cs + (0 + n60 * 1300 + 150 + n1168 * 0 + 0) ≤ 7301442 → W p l e (rk 2048 600086 7301442) s m args below meth c H locs cc cs Q (F0 m 1284 ls [])) (L1299 : ∀ (ap : Nat) (F : M2) (G : M2) (C : M2) (N : M2) (U : M2) (L : M2) (B : M2) (e143 : (Nat → Int32)) (e137 : (Nat → Int32)) (e129 : M2) (e119 : M2) (v4 : Int32) (v5 : Int32) (v6 : Int32) (v7 : Int32) (v19 : Int32) (v30 : Int32) (v31 : Int32) (v32 : Int32) (v33 : Int32) (q0 : Int32) (q1 : Int32) (ae143 : Nat) (ae137 : Nat) (ae129 : Nat) (rae129 : Nat → Nat) (ae119 : Nat) (rae119 : Nat → Nat) (H : Heap) (locs : List Loc) (ls : Array Slot) (cc cs : Nat), wj_L_law_1299 q P nn V S O xs Ln (wl_L_law_60 q P nn V S O xs Ln K n60) (wl_L_law_1168 q P nn V S O xs Ln (wl_L_law_60 q P nn V S O xs Ln K n60) K n1168) K ap F G C N U L B e143 e137 e129 e119 v4 v5 v6 v7 v19 v30 v31 v32 v33 q0 q1 → TS vwCl D ([(ae143, .inl (Z 4, v6.toInt.toNat, .inl e143)), (ae137, .inl (Z 0, v4.toInt.toNat, .inl e137)), (ae129, .inl (Z 3, v5.toInt.toNat, .inr (.inr (.inr (.inr (fun j => if j < v5.toInt.toNat then some (rae129 j) else none)))))), (ae119, .inl (Z 3, v6.toInt.toNat, .inr (.inr (.inr (.inr (fun j => if j < v6.toInt.toNat then some (rae119 j) else none))))))] ++ ((CA Z a b q ca tp rd sp P ap F G C) ++ ((SM Z sa o ro nn V S O N U L B) ++ (pool Z rae129 e129 7 (v5.toInt.toNat) ++ (pool Z rae119 e119 7 (v6.toInt.toNat) ++ []))))) A s.heap H locs → lv_has ls 35 [(0, .ref scr), (2, .ref (sa)), (3, .ref (ca)), (4, .int v4), (5, .int v5), (6, .int v6), (7, .int v7), (9, .ref ae119), (10, .ref ae129), (11, .ref ae137), (12, .ref ae143), (19, .int v19), (30, .int v30), (31, .ref (rae119 v31.toInt.toNat)), (32, .int v32), (33, .int v33)] → cc + (0 + n60 * 140 + 14 + n1168 * 0 + 0) ≤ 600086 ∧ cs + (0 + n60 * 1300 + 150 + n1168 * 0 + 0) ≤ 7301442 → W p l e (rk 2048 600086 7301442) s m args below meth c H locs cc cs Q (F0 m 1299 ls [.int q0, .int q1])) : ∀ (ap : Nat) (F : M2) (G : M2) (C : M2) (N : M2) (U : M2) (L : M2) (B : M2) (e143 : (Nat → Int32)) (e137 : (Nat → Int32)) (e129 : M2) (e119 : M2) (v4 : Int32) (v5 : Int32) (v6 : Int32) (v7 : Int32) (v19 : Int32) (v29 : Int32) (v30 : Int32) (v31 : Int32) (v32 : Int32) (ae143 : Nat) (ae137 : Nat) (ae129 : Nat) (rae129 : Nat → Nat) (ae119 : Nat) (rae119 : Nat → Nat) (H : Heap) (locs : List Loc) (ls : Array Slot) (cc cs : Nat), wj_L_law_1268 q P nn V S O xs Ln (wl_L_law_60 q P nn V S O xs Ln K n60) (wl_L_law_1168 q P nn V S O xs Ln (wl_L_law_60 q P nn V S O xs Ln K n60) K n1168) K ap F G C N U L B e143 e137 e129 e119 v4 v5 v6 v7 v19 v29 v30 v31 v32 → TS vwCl D ([(ae143, .inl (Z 4, v6.toInt.toNat, .inl e143)), (ae137, .inl (Z 0, v4.toInt.toNat, .inl e137)), (ae129, .inl (Z 3, v5.toInt.toNat, .inr (.inr (.inr (.inr (fun j => if j < v5.toInt.toNat then some (rae129 j) else none)))))), (ae119, .inl (Z 3, v6.toInt.toNat, .inr (.inr (.inr (.inr (fun j => if j < v6.toInt.toNat then some (rae119 j) else none))))))] ++ ((CA Z a b q ca tp rd sp P ap F G C) ++ ((SM Z sa o ro nn V S O N U L B) ++ (pool Z rae129 e129 7 (v5.toInt.toNat) ++ (pool Z rae119 e119 7 (v6.toInt.toNat) ++ []))))) A s.heap H locs → lv_has ls 35 [(0, .ref scr), (2, .ref (sa)), (3, .ref (ca)), (4, .int v4), (5, .int v5), (6, .int v6), (7, .int v7), (9, .ref ae119), (10, .ref ae129), (11, .ref ae137), (12, .ref ae143), (19, .int v19), (29, .int v29), (30, .int v30), (31, .ref (rae119 v31.toInt.toNat)), (32, .int v32)] → cc + (0 + n60 * 140 + 14 + n1168 * 0 + 0) ≤ 600086 ∧ cs + (0 + n60 * 1300 + 150 + n1168 * 0 + 0) ≤ 7301442 → W p l e (rk 2048 600086 7301442) s m args below meth c H locs cc cs Q (F0 m 1268 ls []) := by
  have hx := hC.1
  have hb := hC.2.1
  intro ap F G C N U L B e143 e137 e129 e119 v4 v5 v6 v7 v19 v29 v30 v31 v32 ae143 ae137 ae129 rae129 ae119 rae119 H locs ls cc cs hm hT hl hcb
  refine lv_aload hx hb dL_law_1268 (lv_at hl 14 rfl) ?_
  refine lv_iconst (v := 3) hx hb dL_law_1270 (by decide) ?_
  refine wr_ld (jn := 3) (f := (fun X => [(ae143, .inl (Z 4, v6.toInt.toNat, .inl e143)), (ae137, .inl (Z 0, v4.toInt.toNat, .inl e137)), (ae129, .inl (Z 3, v5.toInt.toNat, .inr (.inr (.inr (.inr (fun j => if j < v5.toInt.toNat then some (rae129 j) else none)))))), (ae119, .inl (Z 3, v6.toInt.toNat, .inr (.inr (.inr (.inr (fun j => if j < v6.toInt.toNat then some (rae119 j) else none))))))] ++ ((CA Z a b q ca tp rd sp P ap F G C) ++ ((SM Z sa o ro nn V S O N U L B) ++ (pool Z rae129 e129 7 (v5.toInt.toNat) ++ (pool Z rae119 X 7 (v6.toInt.toNat) ++ [])))))) (sm_pre (sm_pre (sm_pre (sm_pre pool_hf _) _) _) _) hC hK hT.1 hm.1 (by decide) rfl dL_law_1271 ?_
  have hm := hm.2
  refine lv_if_ne (tgt := 1284) hx hb dL_law_1272 (by decide) (fun c_1272 => ?_) (fun c_1272 => ?_)
  · have hm := hm.1 c_1272
    exact L1284 _ _ _ _ _ _ _ _ _ _ _ _ _ _ _ _ _ _ _ _ _ _ _ _ _ _ _ _ _ _ _ _ hm hT (lv_sub hl [0, 1, 2, 3, 4, 5, 6, 7, 8, 9, 10, 11, 12, 13, 14, 15] rfl) ⟨by omega, by omega⟩
  · have hm := hm.2 c_1272
    refine lv_iload hx hb dL_law_1275 (lv_at hl 15 rfl) ?_
    refine lv_if_le (tgt := 1284) hx hb dL_law_1277 (by decide) (fun c_1277 => ?_) (fun c_1277 => ?_)
    · have hm := hm.1 c_1277
      exact L1284 _ _ _ _ _ _ _ _ _ _ _ _ _ _ _ _ _ _ _ _ _ _ _ _ _ _ _ _ _ _ _ _ hm hT (lv_sub hl [0, 1, 2, 3, 4, 5, 6, 7, 8, 9, 10, 11, 12, 13, 14, 15] rfl) ⟨by omega, by omega⟩
    · have hm := hm.2 c_1277
      refine lv_iconst (v := 1) hx hb dL_law_1280 (by decide) ?_
      refine lv_goto (tgt := 1285) hx hb dL_law_1281 (by decide) ?_
      refine lv_istore (lv' := [(33, .int 1), (0, .ref scr), (2, .ref (sa)), (3, .ref (ca)), (4, .int v4), (5, .int v5), (6, .int v6), (7, .int v7), (9, .ref ae119), (10, .ref ae129), (11, .ref ae137), (12, .ref ae143), (19, .int v19), (29, .int v29), (30, .int v30), (31, .ref (rae119 v31.toInt.toNat)), (32, .int v32)]) hx hb dL_law_1285 hl (by decide) rfl (fun ls hl => ?_)
      refine lv_iload hx hb dL_law_1287 (lv_at hl 13 rfl) ?_
      refine lv_iload hx hb dL_law_1289 (lv_at hl 0 rfl) ?_
      refine lv_if_eq (tgt := 1298) hx hb dL_law_1291 (by decide) (fun c_1291 => ?_) (fun c_1291 => ?_)
      · have hm := hm.1 c_1291
        refine lv_iconst (v := 0) hx hb dL_law_1298 (by decide) ?_
        exact L1299 _ _ _ _ _ _ _ _ _ _ _ _ _ _ _ _ _ _ _ _ _ _ _ _ _ _ _ _ _ _ _ _ _ _ hm hT (lv_sub hl [1, 2, 3, 4, 5, 6, 7, 8, 9, 10, 11, 12, 14, 15, 16, 0] rfl) ⟨by omega, by omega⟩
      · have hm := hm.2 c_1291
        refine lv_iconst (v := 1) hx hb dL_law_1294 (by decide) ?_
        refine lv_goto (tgt := 1299) hx hb dL_law_1295 (by decide) ?_
        exact L1299 _ _ _ _ _ _ _ _ _ _ _ _ _ _ _ _ _ _ _ _ _ _ _ _ _ _ _ _ _ _ _ _ _ _ hm hT (lv_sub hl [1, 2, 3, 4, 5, 6, 7, 8, 9, 10, 11, 12, 14, 15, 16, 0] rfl) ⟨by omega, by omega⟩
