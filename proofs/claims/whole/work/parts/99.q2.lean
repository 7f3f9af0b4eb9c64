theorem lp_gt {Ln i : Nat} (h1 : Ln ≤ 3072) (h2 : i ≤ 4000) (h : Ln < i + 6) : (Int32.ofNat Ln - 6) < nI i := by
  have e6 : (6 : Int32).toInt = 6 := by decide
  have eL : (Int32.ofNat Ln).toInt = Ln := nI_toInt (by omega)
  rw [Int32.lt_iff_toInt_lt, nI_toInt (by omega), Int32.toInt_sub, eL, e6, Int.bmod_def]
  split <;> omega
theorem PRX0 : PRX zM zM 0 0 0 0 0 0 := ⟨⟨⟨⟨rfl, rfl, by decide⟩, ⟨rfl, rfl, by decide⟩, ⟨rfl, rfl, by decide⟩, ⟨rfl, rfl, by decide⟩, ⟨rfl, rfl, by decide⟩⟩, fun _ h => absurd h (Nat.not_lt_zero _), fun _ h => absurd h (Nat.not_lt_zero _), fun _ h => absurd h (Nat.not_lt_zero _), fun _ h => absurd h (Nat.not_lt_zero _)⟩, ⟨rfl, rfl, by decide⟩, fun _ h => absurd h (Nat.not_lt_zero _), fun _ h => absurd h (Nat.not_lt_zero _), fun _ h => absurd h (Nat.not_lt_zero _), ⟨fun _ => [], fun _ h => absurd h (Nat.not_lt_zero _)⟩⟩
theorem IVL0 {F' : M2} {L' : L2} {S : M2} (hW : KWT F' L') (hS : BEGS zM 0 sS0 S) : IVL c5C tT0 zM (r5F F') (rdL L') c5C S n8N n8N zM := by
  have s212 : S 212 0 = -1 := by rw [hS.1 212 (Or.inr (by decide))]; rfl
  refine ⟨0, 0, 0, 0, 0, 0, 0, PRX0, ?_, ⟨fun _ h => absurd h (Nat.not_lt_zero _), fun _ h => absurd h (Nat.not_lt_zero _), fun _ h => absurd h (Nat.not_lt_zero _), fun _ _ h => absurd h (Nat.not_lt_zero _), fun _ _ h => absurd h (Nat.not_lt_zero _), fun _ h => absurd h (Nat.not_lt_zero _)⟩, hW, tap0 rfl rfl, rfl, s212⟩
  intro k k1 k2 i hi
  by_cases h4 : 4 ≤ k
  · have key : ∀ a : Fin 14, 4 ≤ a.val → sz 0 0 0 a.val = 0 := by decide
    have := key ⟨k, by omega⟩ h4
    dsimp only at this
    omega
  · have hc : k = 1 ∨ k = 2 ∨ k = 3 := by omega
    rcases hc with rfl | rfl | rfl
    · show tT0 1 i = S 200 i
      rw [hS.1 200 (Or.inl (by decide))]
      rfl
    · show tT0 2 i = S 201 i
      rw [hS.2.1]
      rfl
    · show tT0 3 i = S 212 i
      rw [hS.1 212 (Or.inr (by decide))]
      rfl
set_option maxRecDepth 100000 in
set_option maxHeartbeats 8000000 in
theorem law_loop {p : Program} {l : Launch} {e : Env} {s : State} {m : MethodId} {args : Array Value} {below : List Frame} {meth : Method} {c : Code} {Q : State → Prop} {A : Nat → Prop} {D : va_G} {rx : Nat → Nat} {Z : Nat → ClassId} {a t b : Nat → Nat} {ow : Nat} {ma mb mg : Nat → Nat} {scr Ln : Nat} {xs : Nat → Int32} (hC : CallFix p m c code 9 s args lw_g RL) (hN : NW s) (hfl : l.stackTraces = false) (hR : RXD rx A s s.heap) (hK : va_K D vwCl (tysG Z) s) (hX : va_X scr Ln xs s s.heap) (hbl : scr < s.heap.size) (hbA : ¬ A scr) (hLn : Ln ≤ 3072) (hend : ∀ (H : Heap) (locs : List Loc) (ls : Array Slot) (cc cs : Nat), va_S A s.heap H locs → cc ≤ 601024 → cs ≤ 7293034 → W p l e (rk 2048 601024 7293034) s m args below meth c H locs cc cs Q (F0 m 1353 ls [.int 1])) : ∀ (d i k : Nat) (q q2 mq : Nat → Nat) (mr : Nat) (ap : Nat) (bp : Nat) (rp : Nat) (C : M2) (T : M2) (G : M2) (P : M2) (Y : M2) (L : L2) (B : M2) (X : L2) (S : M2) (O : M2) (N : M2) (V : M2) (J : M2) (U : M2) (H : Heap) (locs : List Loc) (ls : Array Slot) (cc cs : Nat), Ln < i + 6 * d → i = 6 * k → i ≤ Ln + 6 → cc ≤ 1000 + 400 * k → cs ≤ 20000 + 4000 * k → IVL C T P Y L B S N V U → TS vwCl D (LW Z a t b q q2 ow ma mb mq mg mr ap bp rp C T G P Y L B X S O N V J U) A s.heap H locs → lv_has ls 9 [(0, .ref scr), (1, .ref (a 90)), (2, .ref (mg 220)), (3, .ref ow), (4, .int (nI i))] → W p l e (rk 2048 601024 7293034) s m args below meth c H locs cc cs Q (F0 m 23 ls []) := by
  have hx := hC.1
  have hb := hC.2.1
  intro d
  induction d with
  | zero =>
    intro i k q q2 mq mr ap bp rp C T G P Y L B X S O N V J U H locs ls cc cs hd hi hi2 hcc hcs hI hT hl
    refine lv_iload hx hb dL_law_23 (lv_at hl 4 rfl) ?_
    refine lv_aload_n hx hb dL_law_25 rfl (lv_at hl 0 rfl) ?_
    refine va_slen hx hb hX hbl hbA hT.2.2.1 dL_law_26 ?_
    refine lv_bipush (v := 6) hx hb dL_law_27 (by decide) ?_
    refine lv_isub hx hb dL_law_29 ?_
    refine lv_icmp_gt (tgt := 1352) hx hb dL_law_30 (by decide) (fun cz => ?_) (fun cz => absurd (lp_gt (by omega) (by omega) (by omega)) cz)
    refine lv_iconst (v := 1) hx hb dL_law_1352 (by decide) ?_
    exact hend _ _ _ _ _ hT.2.2.1 (by omega) (by omega)
  | succ d ih =>
    intro i k q q2 mq mr ap bp rp C T G P Y L B X S O N V J U H locs ls cc cs hd hi hi2 hcc hcs hI hT hl
    refine lv_iload hx hb dL_law_23 (lv_at hl 4 rfl) ?_
    refine lv_aload_n hx hb dL_law_25 rfl (lv_at hl 0 rfl) ?_
    refine va_slen hx hb hX hbl hbA hT.2.2.1 dL_law_26 ?_
    refine lv_bipush (v := 6) hx hb dL_law_27 (by decide) ?_
    refine lv_isub hx hb dL_law_29 ?_
    refine lv_icmp_gt (tgt := 1352) hx hb dL_law_30 (by decide) (fun cz => ?_) (fun cz => ?_)
    · refine lv_iconst (v := 1) hx hb dL_law_1352 (by decide) ?_
      exact hend _ _ _ _ _ hT.2.2.1 (by omega) (by omega)
    have hil : i + 6 ≤ Ln := by
      rcases Nat.lt_or_ge Ln (i + 6) with z | z
      · exact absurd (lp_gt (by omega) (by omega) z) cz
      · exact z
    have hh : ∀ j : Nat, j < 6 → vp_in (nI i + nI j) Ln := fun j hj => by
      rw [nI_add]
      exact inb_in.mpr (inb_nI (by omega) (by omega))
    have hh0 : vp_in (nI i) Ln := inb_in.mpr (inb_nI (by omega) (by omega))
    have next : ∀ (H : Heap) (locs : List Loc) (ls : Array Slot) (cc1 cs1 : Nat) (q q2 mq : Nat → Nat) (mr : Nat) (ap : Nat) (bp : Nat) (rp : Nat) (C : M2) (T : M2) (G : M2) (P : M2) (Y : M2) (L : L2) (B : M2) (X : L2) (S : M2) (O : M2) (N : M2) (V : M2) (J : M2) (U : M2), IVL C T P Y L B S N V U → TS vwCl D (LW Z a t b q q2 ow ma mb mq mg mr ap bp rp C T G P Y L B X S O N V J U) A s.heap H locs → lv_has ls 9 [(0, .ref scr), (1, .ref (a 90)), (2, .ref (mg 220)), (3, .ref ow), (4, .int (nI i))] → cc1 ≤ cc + 400 → cs1 ≤ cs + 4000 → W p l e (rk 2048 601024 7293034) s m args below meth c H locs cc1 cs1 Q (F0 m 1346 ls []) := by
      intro H locs ls cc1 cs1 q q2 mq mr ap bp rp C T G P Y L B X S O N V J U hI hT hl h1 h2
      refine lv_iinc (v := nI (i + 6)) (lv' := [(4, .int (nI (i + 6))), (0, .ref scr), (1, .ref (a 90)), (2, .ref (mg 220)), (3, .ref ow)]) hx hb dL_law_1346 hl (k := 4) rfl (by rw [show Int32.ofInt 6 = nI 6 from rfl, nI_add]) (by decide) rfl (fun ls hl => ?_)
      refine lv_goto (tgt := 23) hx hb dL_law_1349 (by decide) ?_
      exact ih (i + 6) (k + 1) q q2 mq mr ap bp rp C T G P Y L B X S O N V J U H locs ls cc1 cs1 (by omega) (by omega) (by omega) (by omega) (by omega) hI hT (lv_sub hl [1, 2, 3, 4, 0] rfl)
    refine lv_aload_n hx hb dL_law_33 rfl (lv_at hl 0 rfl) ?_
    refine lv_iload hx hb dL_law_34 (lv_at hl 4 rfl) ?_
    refine va_sld hx hb hX hbl hbA hT.2.2.1 hh0 dL_law_36 ?_
    refine lv_bipush (v := 31) hx hb dL_law_37 (by decide) ?_
    refine lv_iand hx hb dL_law_39 ?_
    have hcb : cc + 400 ≤ 601024 ∧ cs + 4000 ≤ 7293034 := by omega
    obtain ⟨z, ez⟩ : ∃ z, z = xs (nI i).toNatClampNeg &&& 31 := ⟨_, rfl⟩
    rw [← ez]
    by_cases s_0 : z = 0
    · refine w_swi (off := 108) (tgt := 148) 0 hx hb dL_law_40 s_0 (by decide) (by decide) (by decide) (by decide) ?_
      exact t_op_feed hC hN hfl hR hK hX hbl hbA (hh 1 (by decide)) (hh 2 (by decide)) (hh 3 (by decide)) (hh 4 (by decide)) (hh 5 (by decide)) rfl rfl rfl rfl rfl hT hcb (po_feed hI) (fun H locs ls cc1 cs1 => next H locs ls cc1 cs1 q q2 mq mr) hl
    by_cases s_1 : z = 1
    · refine w_swi (off := 212) (tgt := 252) 1 hx hb dL_law_40 s_1 (by decide) (by decide) (by decide) (by decide) ?_
      exact t_op_trim hC hN hfl hR hK hX hbl hbA (hh 1 (by decide)) rfl hT hcb (po_trim hI) (fun H locs ls cc1 cs1 => next H locs ls cc1 cs1 q q2 mq mr) hl
    by_cases s_2 : z = 2
    · refine w_swi (off := 268) (tgt := 308) 2 hx hb dL_law_40 s_2 (by decide) (by decide) (by decide) (by decide) ?_
      exact t_op_teach hC hN hR hK hT hcb (po_teach hI) next hl
    by_cases s_3 : z = 3
    · refine w_swi (off := 281) (tgt := 321) 3 hx hb dL_law_40 s_3 (by decide) (by decide) (by decide) (by decide) ?_
      exact t_op_errorAt hC hN hfl hR hK hX hbl hbA hT hcb (po_errorAt hI) (fun H locs ls cc1 cs1 => next H locs ls cc1 cs1 q q2 mq mr) hl
    by_cases s_4 : z = 4
    · refine w_swi (off := 294) (tgt := 334) 4 hx hb dL_law_40 s_4 (by decide) (by decide) (by decide) (by decide) ?_
      exact t_op_count hC hN hfl hR hK hX hbl hbA (hh 1 (by decide)) rfl hT hcb (po_count hI) (fun H locs ls cc1 cs1 => next H locs ls cc1 cs1 q q2 mq mr) hl
    by_cases s_5 : z = 5
    · refine w_swi (off := 350) (tgt := 390) 5 hx hb dL_law_40 s_5 (by decide) (by decide) (by decide) (by decide) ?_
      exact t_op_place hC hN hfl hR hK hX hbl hbA (hh 1 (by decide)) (hh 2 (by decide)) rfl rfl hT hcb (po_place hI) (fun H locs ls cc1 cs1 => next H locs ls cc1 cs1 q q2 mq mr) hl
    by_cases s_6 : z = 6
    · refine w_swi (off := 418) (tgt := 458) 6 hx hb dL_law_40 s_6 (by decide) (by decide) (by decide) (by decide) ?_
      exact t_op_bore hC hN hfl hR hK hX hbl hbA (hh 1 (by decide)) (hh 2 (by decide)) rfl rfl hT hcb (po_bore hI) (fun H locs ls cc1 cs1 => next H locs ls cc1 cs1 q q2 mq mr) hl
    by_cases s_7 : z = 7
    · refine w_swi (off := 486) (tgt := 526) 7 hx hb dL_law_40 s_7 (by decide) (by decide) (by decide) (by decide) ?_
      exact t_op_legger hC hN hfl hR hK hX hbl hbA (hh 1 (by decide)) (hh 2 (by decide)) rfl rfl hT hcb (po_legger hI) (fun H locs ls cc1 cs1 => next H locs ls cc1 cs1 q q2 mq mr) hl
    by_cases s_8 : z = 8
    · refine w_swi (off := 554) (tgt := 594) 8 hx hb dL_law_40 s_8 (by decide) (by decide) (by decide) (by decide) ?_
      exact t_op_boat hC hN hfl hR hK hX hbl hbA (hh 1 (by decide)) (hh 2 (by decide)) rfl rfl hT hcb (po_boat hI) (fun H locs ls cc1 cs1 => next H locs ls cc1 cs1 q q2 mq mr) hl
    by_cases s_9 : z = 9
    · refine w_swi (off := 622) (tgt := 662) 9 hx hb dL_law_40 s_9 (by decide) (by decide) (by decide) (by decide) ?_
      exact t_op_crew hC hN hfl hR hK hX hbl hbA (hh 1 (by decide)) (hh 2 (by decide)) rfl rfl hT hcb (po_crew hI) (fun H locs ls cc1 cs1 => next H locs ls cc1 cs1 q q2 mq mr) hl
    by_cases s_10 : z = 10
    · refine w_swi (off := 690) (tgt := 730) 10 hx hb dL_law_40 s_10 (by decide) (by decide) (by decide) (by decide) ?_
      exact t_op_canEnter hC hN hfl hR hK hX hbl hbA (hh 1 (by decide)) rfl hT hcb (po_canEnter hI) (fun H locs ls cc1 cs1 => next H locs ls cc1 cs1 q q2 mq mr) hl
    by_cases s_11 : z = 11
    · refine w_swi (off := 753) (tgt := 793) 11 hx hb dL_law_40 s_11 (by decide) (by decide) (by decide) (by decide) ?_
      exact t_op_worst hC hN hfl hR hK hX hbl hbA hT hcb (po_worst hI) (fun H locs ls cc1 cs1 => next H locs ls cc1 cs1 q q2 mq mr) hl
    by_cases s_12 : z = 12
    · refine w_swi (off := 766) (tgt := 806) 12 hx hb dL_law_40 s_12 (by decide) (by decide) (by decide) (by decide) ?_
      exact t_op_whistle hC hN hfl hR hK hX hbl hbA (hh 1 (by decide)) rfl hT hcb (po_whistle hI) (fun H locs ls cc1 cs1 => next H locs ls cc1 cs1 q q2 mq mr) hl
    by_cases s_13 : z = 13
    · refine w_swi (off := 822) (tgt := 862) 13 hx hb dL_law_40 s_13 (by decide) (by decide) (by decide) (by decide) ?_
      exact t_op_air hC hN hfl hR hK hX hbl hbA hT hcb (po_air hI) (fun H locs ls cc1 cs1 => next H locs ls cc1 cs1 q q2 mq mr) hl
    by_cases s_14 : z = 14
    · refine w_swi (off := 835) (tgt := 875) 14 hx hb dL_law_40 s_14 (by decide) (by decide) (by decide) (by decide) ?_
      exact t_op_cap hC hN hfl hR hK hX hbl hbA (hh 1 (by decide)) rfl hT hcb (po_cap hI) (fun H locs ls cc1 cs1 => next H locs ls cc1 cs1 q q2 mq mr) hl
    by_cases s_15 : z = 15
    · refine w_swi (off := 891) (tgt := 931) 15 hx hb dL_law_40 s_15 (by decide) (by decide) (by decide) (by decide) ?_
      exact t_op_again hC hN hfl hR hK hX hbl hbA (hh 1 (by decide)) (hh 2 (by decide)) rfl rfl hT hcb (po_again hI) (fun H locs ls cc1 cs1 => next H locs ls cc1 cs1 q q2 mq mr) hl
    by_cases s_16 : z = 16
    · refine w_swi (off := 959) (tgt := 999) 16 hx hb dL_law_40 s_16 (by decide) (by decide) (by decide) (by decide) ?_
      exact t_op_pass hC hN hfl hR hK hX hbl hbA (hh 1 (by decide)) rfl hT hcb (po_pass hI) (fun H locs ls cc1 cs1 => next H locs ls cc1 cs1 q q2 mq mr) hl
    by_cases s_17 : z = 17
    · refine w_swi (off := 1015) (tgt := 1055) 17 hx hb dL_law_40 s_17 (by decide) (by decide) (by decide) (by decide) ?_
      exact t_op_until hC hN hfl hR hK hX hbl hbA (hh 1 (by decide)) rfl hT hcb (po_until hI) (fun H locs ls cc1 cs1 => next H locs ls cc1 cs1 q q2 mq mr) hl
    by_cases s_18 : z = 18
    · refine w_swi (off := 1071) (tgt := 1111) 18 hx hb dL_law_40 s_18 (by decide) (by decide) (by decide) (by decide) ?_
      exact t_op_foresee hC hN hfl hR hK hX hbl hbA (hh 1 (by decide)) (hh 2 (by decide)) rfl rfl hT hcb (po_foresee hI) (fun H locs ls cc1 cs1 => next H locs ls cc1 cs1 q q2 mq mr) hl
    by_cases s_19 : z = 19
    · refine w_swi (off := 1139) (tgt := 1179) 19 hx hb dL_law_40 s_19 (by decide) (by decide) (by decide) (by decide) ?_
      exact t_op_advise hC hN hfl hR hK hX hbl hbA (hh 1 (by decide)) rfl hT hcb (po_advise hI) (fun H locs ls cc1 cs1 => next H locs ls cc1 cs1 q q2 mq mr) hl
    by_cases s_20 : z = 20
    · refine w_swi (off := 1195) (tgt := 1235) 20 hx hb dL_law_40 s_20 (by decide) (by decide) (by decide) (by decide) ?_
      exact t_op_missed hC hN hfl hR hK hX hbl hbA (hh 1 (by decide)) rfl hT hcb (po_missed hI) (fun H locs ls cc1 cs1 => next H locs ls cc1 cs1 q q2 mq mr) hl
    by_cases s_21 : z = 21
    · refine w_swi (off := 1251) (tgt := 1291) 21 hx hb dL_law_40 s_21 (by decide) (by decide) (by decide) (by decide) ?_
      exact t_op_mean hC hN hfl hR hK hX hbl hbA hT hcb (po_mean hI) (fun H locs ls cc1 cs1 => next H locs ls cc1 cs1 q q2 mq mr) hl
    by_cases s_22 : z = 22
    · refine w_swi (off := 1292) (tgt := 1332) 22 hx hb dL_law_40 s_22 (by decide) (by decide) (by decide) (by decide) ?_
      exact t_op_digest hC hN hfl hR hK hX hbl hbA hT hcb (po_digest hI) (fun H locs ls cc1 cs1 => next H locs ls cc1 cs1 q q2 mq mr) hl
    refine w_swd (tgt := 1346) [0, 1, 2, 3, 4, 5, 6, 7, 8, 9, 10, 11, 12, 13, 14, 15, 16, 17, 18, 19, 20, 21, 22] hx hb dL_law_40 (by decide) (by decide) (fun k hk => ?_) (by decide) ?_
    · simp only [List.mem_cons, List.not_mem_nil, or_false] at hk
      rcases hk with rfl | rfl | rfl | rfl | rfl | rfl | rfl | rfl | rfl | rfl | rfl | rfl | rfl | rfl | rfl | rfl | rfl | rfl | rfl | rfl | rfl | rfl | rfl
      · exact eq_toInt s_0
      · exact eq_toInt s_1
      · exact eq_toInt s_2
      · exact eq_toInt s_3
      · exact eq_toInt s_4
      · exact eq_toInt s_5
      · exact eq_toInt s_6
      · exact eq_toInt s_7
      · exact eq_toInt s_8
      · exact eq_toInt s_9
      · exact eq_toInt s_10
      · exact eq_toInt s_11
      · exact eq_toInt s_12
      · exact eq_toInt s_13
      · exact eq_toInt s_14
      · exact eq_toInt s_15
      · exact eq_toInt s_16
      · exact eq_toInt s_17
      · exact eq_toInt s_18
      · exact eq_toInt s_19
      · exact eq_toInt s_20
      · exact eq_toInt s_21
      · exact eq_toInt s_22
    · exact next _ _ _ _ _ q q2 mq mr ap bp rp C T G P Y L B X S O N V J U hI hT hl (by omega) (by omega)
set_option maxRecDepth 100000 in
set_option maxHeartbeats 8000000 in
theorem law_walk {p : Program} {l : Launch} {e : Env} {s : State} {m : MethodId} {args : Array Value} {below : List Frame} {meth : Method} {c : Code} {Q : State → Prop} {A : Nat → Prop} {D : va_G} {rx : Nat → Nat} {Z : Nat → ClassId} {scr Ln : Nat} {xs : Nat → Int32} {ls : Array Slot} (hC : CallFix p m c code 9 s args lw_g RL) (hN : NW s) (hfl : l.stackTraces = false) (hR : RXD rx A s s.heap) (hK : va_K D vwCl (tysG Z) s) (hA : ∀ q, s.heap.size ≤ q → A q) (hX : va_X scr Ln xs s s.heap) (hbl : scr < s.heap.size) (hbA : ¬ A scr) (hLn : Ln ≤ 3072) (hend : ∀ (H : Heap) (locs : List Loc) (ls : Array Slot) (cc cs : Nat), va_S A s.heap H locs → cc ≤ 601024 → cs ≤ 7293034 → W p l e (rk 2048 601024 7293034) s m args below meth c H locs cc cs Q (F0 m 1353 ls [.int 1])) (hl : lv_has ls 9 [(0, .ref scr)]) : W p l e (rk 2048 601024 7293034) s m args below meth c s.heap [] 0 0 Q (F0 m 0 ls []) := by
  have hx := hC.1
  have hb := hC.2.1
  have hT : TS vwCl D [] A s.heap s.heap [] := ⟨fun k q hq => (by cases hq), ⟨fun i j x y hx hy => (by cases hx), fun k q hq => (by cases hq)⟩, va_S.rf, hA⟩
  refine w_newO (C := RX5) (T := TX5) (N := 7) (ci := 5) (ty0 := tyX5) (fs := [.null, .int 0, .int 0, .null, .null, .null, .null]) hC hK hT fi_X5 tyX5_ok wq_147 wq_148 wq_125 rfl (by decide) (Nat.le_of_ble_eq_true rfl) (Nat.le_of_ble_eq_true rfl) dL_law_0 (fun q0 H hT => ?_)
  refine W.widen (k := 1) (n := 7) (Nat.le_of_ble_eq_true rfl) (Nat.le_of_ble_eq_true rfl) ?_
  have hT : TS vwCl D [(q0, .inr (5, [.null, .int 0, .int 0, .null, .null, .null, .null]))] A s.heap H [] := hT
  refine lv_dup hx hb dL_law_3 rfl ?_
  refine rwi_go (wsF := iw_X5_init Z rx q0) (u0 := none) (wr := []) (isC := [0]) (isR := []) (runIR (As := []) hC hN ((hT.rd hR.1).sub (is := [0]) rfl) (c_X5_init l D Z rx H.size q0 (fun F L => KWT F L) (c_words rfl (fun _ _ hw _ => hw))) mi_X5_init wq_149 wq_150 rfl (by decide) (hT.1.sub [0] rfl) (hT.D'.sub [0] rfl rfl) hK rfl hl.1 rfl (Nat.le_of_ble_eq_true rfl) dL_law_4 ⟨(Nat.le_of_ble_eq_true rfl), (Nat.le_of_ble_eq_true rfl)⟩) hT rfl rfl (by decide +kernel) (by decide +kernel) (fun u H locs hk hT => ?_)
  refine W.widen (k := 122) (n := 8517) (Nat.le_of_ble_eq_true rfl) (Nat.le_of_ble_eq_true rfl) ?_
  obtain ⟨a, t, b, q, q2, ap, bp, rp, F, L, rfl, ea, hW⟩ := hk
  have hT : TS vwCl D (CLW Z a t b q q2 ap bp rp c5C tT0 tT0 zM (r5F F) (rdL L)) A s.heap H locs := hT
  rw [← ea]
  refine lv_astore_n (lv' := [(1, .ref (a 90)), (0, .ref scr)]) hx hb dL_law_7 rfl hl (by decide) rfl (fun ls hl => ?_)
  refine w_newO (C := RX8) (T := TX8) (N := 15) (ci := 8) (ty0 := tyX8) (fs := [.int 0, .null, .int 0, .int 0, .null, .null, .null, .null, .null, .int 0, .int 0, .null, .null, .null, .null]) hC hK hT fi_X8 tyX8_ok wq_1216 wq_1217 wq_135 rfl (by decide) (Nat.le_of_ble_eq_true rfl) (Nat.le_of_ble_eq_true rfl) dL_law_8 (fun q8 H hT => ?_)
  refine W.widen (k := 123) (n := 8532) (Nat.le_of_ble_eq_true rfl) (Nat.le_of_ble_eq_true rfl) ?_
  have hT : TS vwCl D (CLW Z a t b q q2 ap bp rp c5C tT0 tT0 zM (r5F F) (rdL L) ++ [(q8, .inr (8, [.int 0, .null, .int 0, .int 0, .null, .null, .null, .null, .null, .int 0, .int 0, .null, .null, .null, .null]))]) A s.heap H locs := hT
  refine lv_dup hx hb dL_law_11 rfl ?_
  refine rwi_go (wsF := iw_X8_init Z q8) (u0 := none) (wr := CLW Z a t b q q2 ap bp rp c5C tT0 tT0 zM (r5F F) (rdL L)) (isC := [79]) (isR := [0, 1, 2, 3, 4, 5, 6, 7, 8, 9, 10, 11, 12, 13, 14, 15, 16, 17, 18, 19, 20, 21, 22, 23, 24, 25, 26, 27, 28, 29, 30, 31, 32, 33, 34, 35, 36, 37, 38, 39, 40, 41, 42, 43, 44, 45, 46, 47, 48, 49, 50, 51, 52, 53, 54, 55, 56, 57, 58, 59, 60, 61, 62, 63, 64, 65, 66, 67, 68, 69, 70, 71, 72, 73, 74, 75, 76, 77, 78]) (runI (As := []) hC hN (c_X8_init l D Z H.size q8 (fun S O N P => BEGS zM 0 sS0 S ∧ O = sS0 ∧ N = n8N ∧ P = zM) (r_begin (np := 0) (by decide) rfl (fun S1 hS1 => ⟨hS1, rfl, rfl, rfl⟩))) mi_X8_init wq_1218 wq_1219 rfl (by decide) (hT.1.sub [79] rfl) (hT.D'.sub [79] rfl rfl) hK rfl hl.1 rfl (Nat.le_of_ble_eq_true rfl) dL_law_12 ⟨(Nat.le_of_ble_eq_true rfl), (Nat.le_of_ble_eq_true rfl)⟩) hT rfl rfl (by decide +kernel) (by decide +kernel) (fun u H locs hk hT => ?_)
  refine W.widen (k := 180) (n := 15055) (Nat.le_of_ble_eq_true rfl) (Nat.le_of_ble_eq_true rfl) ?_
  obtain ⟨ma, mb, mq, mg, S, O, N, P, rfl, eg, hS, eO, eN, eP⟩ := hk
  subst eO eN eP
  have hT : TS vwCl D (CLW Z a t b q q2 ap bp rp c5C tT0 tT0 zM (r5F F) (rdL L) ++ LM Z ma mb mq mg (mq 240) S sS0 n8N zM) A s.heap H locs := hT
  rw [← eg]
  refine lv_astore_n (lv' := [(2, .ref (mg 220)), (1, .ref (a 90)), (0, .ref scr)]) hx hb dL_law_15 rfl hl (by decide) rfl (fun ls hl => ?_)
  refine lv_iconst (v := 1) hx hb dL_law_16 (by decide) ?_
  refine w_newJ (N := 1) hC hK hT wq_296 (by decide) (by decide) (by decide) (Nat.le_of_ble_eq_true rfl) (Nat.le_of_ble_eq_true rfl) dL_law_17 (fun ow H hT => ?_)
  refine W.widen (k := 181) (n := 15056) (Nat.le_of_ble_eq_true rfl) (Nat.le_of_ble_eq_true rfl) ?_
  have hT := hT.pick (ws' := LW Z a t b q q2 ow ma mb mq mg (mq 240) ap bp rp c5C tT0 tT0 zM (r5F F) (rdL L) c5C zL S sS0 n8N n8N n8N zM) [0, 1, 2, 3, 4, 5, 6, 7, 8, 9, 10, 11, 12, 13, 14, 15, 16, 17, 18, 19, 20, 21, 22, 23, 24, 25, 26, 27, 28, 29, 30, 31, 32, 33, 34, 35, 36, 37, 38, 39, 40, 41, 42, 43, 44, 45, 46, 47, 48, 49, 50, 51, 52, 53, 54, 55, 56, 57, 58, 59, 60, 61, 62, 63, 64, 65, 66, 67, 68, 69, 70, 71, 72, 73, 74, 75, 76, 77, 78, 137, 79, 80, 81, 82, 83, 84, 85, 86, 87, 88, 89, 90, 91, 92, 93, 94, 95, 96, 97, 98, 99, 100, 101, 102, 103, 104, 105, 106, 107, 108, 109, 110, 111, 112, 113, 114, 115, 116, 117, 118, 119, 120, 121, 122, 123, 124, 125, 126, 127, 128, 129, 130, 131, 132, 133, 134, 135, 136] (by decide +kernel) rfl
  refine lv_astore_n (lv' := [(3, .ref ow), (2, .ref (mg 220)), (1, .ref (a 90)), (0, .ref scr)]) hx hb dL_law_19 rfl hl (by decide) rfl (fun ls hl => ?_)
  refine lv_iconst (v := 0) hx hb dL_law_20 (by decide) ?_
  refine lv_istore (lv' := [(4, .int (nI 0)), (3, .ref ow), (2, .ref (mg 220)), (1, .ref (a 90)), (0, .ref scr)]) hx hb dL_law_21 hl (by decide) rfl (fun ls hl => ?_)
  exact law_loop hC hN hfl hR hK hX hbl hbA hLn hend 600 0 0 q q2 mq (mq 240) ap bp rp c5C tT0 tT0 zM (r5F F) (rdL L) c5C zL S sS0 n8N n8N n8N zM H locs ls _ _ (by omega) (by omega) (by omega) (by decide) (by decide) (IVL0 hW hS) hT (lv_sub hl [4, 3, 2, 1, 0] rfl)
