/-! ===== what holds between the class and the model, call by call ===== -/
section CALLS1
def TAP (n : Nat) (C B N V : M2) : Prop := n ≤ 2000 ∧ C 91 0 = nI n ∧ N 222 0 = nI n ∧ ∀ i, i < n → V 221 i = B 80 i &&& 255
def IVL (C T P Y : M2) (L : L2) (B S N V U : M2) : Prop := ∃ kb np nl nb ns no n, PRX P U kb np nl nb ns no ∧ RE np nl nb T S ∧ INV U S np nl nb nb ∧ KWT Y L ∧ TAP n C B N V ∧ C 92 0 = N 223 0 ∧ S 212 0 = -1
abbrev KIV : Nat → Nat → Nat → M2 → M2 → M2 → M2 → M2 → L2 → M2 → L2 → M2 → M2 → M2 → M2 → M2 → M2 → Prop := fun _ _ _ C T _ P Y L B _ S _ N V _ U => IVL C T P Y L B S N V U
theorem IVL.nz {C T P Y : M2} {L : L2} {B S N N' V U : M2} (h : IVL C T P Y L B S N V U) (e1 : N' 222 = N 222) (e2 : N' 223 = N 223) : IVL C T P Y L B S N' V U := by
  obtain ⟨kb, np, nl, nb, ns, no, n, hX, hR, hI, hW, hT, h92, h212⟩ := h
  exact ⟨kb, np, nl, nb, ns, no, n, hX, hR, hI, hW, ⟨hT.1, hT.2.1, by rw [e1]; exact hT.2.2.1, hT.2.2.2⟩, by rw [e2]; exact h92, h212⟩
theorem IVL.toN {C T P Y : M2} {L : L2} {B S N V U : M2} (h : IVL C T P Y L B S N V U) : IVL C T P Y L B S (zN N) V U := h.nz (up2_n _ _ (by decide)) (up2_n _ _ (by decide))
theorem IVL.toT {k : Int32} {C T P Y : M2} {L : L2} {B S N V U : M2} (h : IVL C T P Y L B S N V U) : IVL C T P Y L B S (zT k N) V U := h.nz (by unfold zT; rw [up2_n _ _ (by decide), up2_n _ _ (by decide)]) (by unfold zT; rw [up2_n _ _ (by decide), up2_n _ _ (by decide)])
theorem zN_0 {N : M2} : zN N 220 0 = 0 := by unfold zN; rw [up2_s]
theorem zT_0 {k : Int32} {N : M2} : zT k N 220 0 = k := by unfold zT; rw [up2_s]
theorem zN_n {N : M2} {k : Nat} (h : k ≠ 220) : zN N k = N k := up2_n _ _ h
def cmpP (K1 : Prop) (k r3 : Int32) (x : Int64) (r : Int32) : Prop := ((r3 = k → ((¬ k = 0 → K1) ∧ (k = 0 → (inb 0 1 ∧ ((lg_cmp x r.toInt64 = 0 → K1) ∧ (¬ lg_cmp x r.toInt64 = 0 → False)))))) ∧ (¬ r3 = k → False))
theorem cmp_x {K1 : Prop} {k r3 : Int32} {x : Int64} {r : Int32} (hk : ¬ k = 0) (h3 : r3 = k) (h : K1) : cmpP K1 k r3 x r := ⟨fun _ => ⟨fun _ => h, fun z => absurd z hk⟩, fun z => absurd h3 z⟩
theorem cmp_v {K1 : Prop} {r3 : Int32} {X : L2} {v r : Int32} (h3 : r3 = 0) (hx : v = r) (h : K1) : cmpP K1 0 r3 (ul2 X 500 (vp_updL (X 500) (0 : Int32).toInt.toNat v.toInt64) 500 (0 : Int32).toInt.toNat) r := by
  refine ⟨fun _ => ⟨fun z => absurd rfl z, fun _ => ⟨by decide, fun _ => h, fun z => absurd (lg_cmp0.mpr ?_) z⟩⟩, fun z => absurd h3 z⟩
  rw [hx]
  simp [ul2, vp_updL]
variable {q : Nat → Nat} {ap bp rp : Nat} {C T G P Y : M2} {L : L2} {B : M2} {X : L2} {S O N V J U : M2} {y1 y2 y3 y4 y5 : Int32}
theorem no_go {k : Int32} {K : Int32 → M2 → M2 → Prop} (h : K 0 S (zT k N)) : wp_X8_no U S (zN N) k K := fun N2 e2 => by subst e2; exact h
theorem po_count (h : IVL C T P Y L B S N V U) : wp_op_count q ap bp rp C T G P Y L B X S O N V J U y1 KIV := by
  obtain ⟨kb, np, nl, nb, ns, no, n, hX, hR, hI, hW, hT, h92, h212⟩ := id h
  have hn := hX.1
  have h60 := hn.np3
  have h6 := hn.nl3
  have h8 := hn.nb3
  have h5 := hX.2.1.2.2
  unfold wp_op_count wp_L_count
  rcases wh_cases 13 (by decide) y1 with ⟨w, hw, rfl⟩ | ⟨h1, h2⟩
  · refine c_count hX hR (z := N 222 0) (by rw [hT.2.1, hT.2.2.1]) hw ⟨by decide, fun X1 e1 => ?_⟩
    subst e1
    intro N1 e1
    have e1 : N1 = zN N := e1
    subst e1
    refine isin1 (nI_pos (by omega)) (by rw [show (13 : Int32) = nI 13 from rfl, lt_nI (by omega) (by omega)]; omega) ⟨fun z => absurd z (by decide), fun _ => r_counted hX hw ?_⟩
    rw [zN_n (by decide)]
    exact cmp_v zN_0 rfl h.toN
  · refine c_count_x h1 ⟨rfl, ?_⟩
    intro N1 e1
    have e1 : N1 = zN N := e1
    subst e1
    exact isin0 h2 ⟨fun _ => no_go (cmp_x (by decide) zT_0 h.toT), fun z => absurd rfl z⟩
theorem po_place (h : IVL C T P Y L B S N V U) : wp_op_place q ap bp rp C T G P Y L B X S O N V J U y1 y2 KIV := by
  obtain ⟨kb, np, nl, nb, ns, no, n, hX, hR, hI, hW, hT, h92, h212⟩ := id h
  have hn := hX.1
  have h60 := hn.np3
  have h6 := hn.nl3
  have h8 := hn.nb3
  have h5 := hX.2.1.2.2
  unfold wp_op_place wp_L_place
  rcases ix_cases np (by omega) y1 with ⟨i, hi, rfl⟩ | h1
  · rcases wh_cases 3 (by decide) y2 with ⟨w, hw, rfl⟩ | ⟨h2, h3⟩
    · refine c_place hX hR hi hw ⟨by decide, fun X1 e1 => ?_⟩
      subst e1
      intro N1 e1
      have e1 : N1 = zN N := e1
      subst e1
      unfold wp_X8_isPlace
      rw [hn.np2]
      refine isx1 (by omega) hi ⟨by decide, fun z => absurd z (by decide), fun _ => isin1 (nI_pos (by omega)) (by rw [show (3 : Int32) = nI 3 from rfl, lt_nI (by omega) (by omega)]; omega) ⟨fun z => absurd z (by decide), fun _ => r_placeTold hX hi hw ?_⟩⟩
      exact cmp_v zN_0 rfl h.toN
    · refine c_place_x hX (Or.inr h2) ⟨rfl, ?_⟩
      intro N1 e1
      have e1 : N1 = zN N := e1
      subst e1
      unfold wp_X8_isPlace
      rw [hn.np2]
      exact isx1 (by omega) hi ⟨by decide, fun z => absurd z (by decide), fun _ => isin0 h3 ⟨fun _ => no_go (cmp_x (by decide) zT_0 h.toT), fun z => absurd rfl z⟩⟩
  · refine c_place_x hX (Or.inl h1) ⟨rfl, ?_⟩
    intro N1 e1
    have e1 : N1 = zN N := e1
    subst e1
    unfold wp_X8_isPlace
    rw [hn.np2]
    exact isx0 (by omega) h1 ⟨by decide, fun _ => no_go (cmp_x (by decide) zT_0 h.toT), fun z => absurd rfl z⟩
theorem po_bore (h : IVL C T P Y L B S N V U) : wp_op_bore q ap bp rp C T G P Y L B X S O N V J U y1 y2 KIV := by
  obtain ⟨kb, np, nl, nb, ns, no, n, hX, hR, hI, hW, hT, h92, h212⟩ := id h
  have hn := hX.1
  have h60 := hn.np3
  have h6 := hn.nl3
  have h8 := hn.nb3
  have h5 := hX.2.1.2.2
  unfold wp_op_bore wp_L_bore
  rcases ix_cases kb (by omega) y1 with ⟨i, hi, rfl⟩ | h1
  · rcases wh_cases 3 (by decide) y2 with ⟨w, hw, rfl⟩ | ⟨h2, h3⟩
    · refine c_bore hX hR hi hw ⟨by decide, fun X1 e1 => ?_⟩
      subst e1
      intro N1 e1
      have e1 : N1 = zN N := e1
      subst e1
      unfold wp_X8_isBore
      rw [hX.2.1.2.1]
      refine isx1 (by omega) hi ⟨by decide, fun z => absurd z (by decide), fun _ => isin1 (nI_pos (by omega)) (by rw [show (3 : Int32) = nI 3 from rfl, lt_nI (by omega) (by omega)]; omega) ⟨fun z => absurd z (by decide), fun _ => r_boreTold hX hi hw ?_⟩⟩
      exact cmp_v zN_0 rfl h.toN
    · refine c_bore_x hX (Or.inr h2) ⟨rfl, ?_⟩
      intro N1 e1
      have e1 : N1 = zN N := e1
      subst e1
      unfold wp_X8_isBore
      rw [hX.2.1.2.1]
      exact isx1 (by omega) hi ⟨by decide, fun z => absurd z (by decide), fun _ => isin0 h3 ⟨fun _ => no_go (cmp_x (by decide) zT_0 h.toT), fun z => absurd rfl z⟩⟩
  · refine c_bore_x hX (Or.inl h1) ⟨rfl, ?_⟩
    intro N1 e1
    have e1 : N1 = zN N := e1
    subst e1
    unfold wp_X8_isBore
    rw [hX.2.1.2.1]
    exact isx0 (by omega) h1 ⟨by decide, fun _ => no_go (cmp_x (by decide) zT_0 h.toT), fun z => absurd rfl z⟩
theorem po_legger (h : IVL C T P Y L B S N V U) : wp_op_legger q ap bp rp C T G P Y L B X S O N V J U y1 y2 KIV := by
  obtain ⟨kb, np, nl, nb, ns, no, n, hX, hR, hI, hW, hT, h92, h212⟩ := id h
  have hn := hX.1
  have h60 := hn.np3
  have h6 := hn.nl3
  have h8 := hn.nb3
  have h5 := hX.2.1.2.2
  unfold wp_op_legger wp_L_legger
  rcases ix_cases nl (by omega) y1 with ⟨i, hi, rfl⟩ | h1
  · rcases wh_cases 6 (by decide) y2 with ⟨w, hw, rfl⟩ | ⟨h2, h3⟩
    · refine c_legger hX hR hi hw ⟨by decide, fun X1 e1 => ?_⟩
      subst e1
      intro N1 e1
      have e1 : N1 = zN N := e1
      subst e1
      unfold wp_X8_isLegger
      rw [hn.nl2]
      refine isx1 (by omega) hi ⟨by decide, fun z => absurd z (by decide), fun _ => isin1 (nI_pos (by omega)) (by rw [show (6 : Int32) = nI 6 from rfl, lt_nI (by omega) (by omega)]; omega) ⟨fun z => absurd z (by decide), fun _ => r_leggerTold hX hi hw ?_⟩⟩
      exact cmp_v zN_0 rfl h.toN
    · refine c_legger_x hX (Or.inr h2) ⟨rfl, ?_⟩
      intro N1 e1
      have e1 : N1 = zN N := e1
      subst e1
      unfold wp_X8_isLegger
      rw [hn.nl2]
      exact isx1 (by omega) hi ⟨by decide, fun z => absurd z (by decide), fun _ => isin0 h3 ⟨fun _ => no_go (cmp_x (by decide) zT_0 h.toT), fun z => absurd rfl z⟩⟩
  · refine c_legger_x hX (Or.inl h1) ⟨rfl, ?_⟩
    intro N1 e1
    have e1 : N1 = zN N := e1
    subst e1
    unfold wp_X8_isLegger
    rw [hn.nl2]
    exact isx0 (by omega) h1 ⟨by decide, fun _ => no_go (cmp_x (by decide) zT_0 h.toT), fun z => absurd rfl z⟩
theorem po_boat (h : IVL C T P Y L B S N V U) : wp_op_boat q ap bp rp C T G P Y L B X S O N V J U y1 y2 KIV := by
  obtain ⟨kb, np, nl, nb, ns, no, n, hX, hR, hI, hW, hT, h92, h212⟩ := id h
  have hn := hX.1
  have h60 := hn.np3
  have h6 := hn.nl3
  have h8 := hn.nb3
  have h5 := hX.2.1.2.2
  unfold wp_op_boat wp_L_boat
  rcases ix_cases nb (by omega) y1 with ⟨i, hi, rfl⟩ | h1
  · rcases wh_cases 6 (by decide) y2 with ⟨w, hw, rfl⟩ | ⟨h2, h3⟩
    · refine c_boat hX hR hi hw ⟨by decide, fun X1 e1 => ?_⟩
      subst e1
      intro N1 e1
      have e1 : N1 = zN N := e1
      subst e1
      unfold wp_X8_isBoat
      rw [hn.nb2]
      refine isx1 (by omega) hi ⟨by decide, fun z => absurd z (by decide), fun _ => isin1 (nI_pos (by omega)) (by rw [show (6 : Int32) = nI 6 from rfl, lt_nI (by omega) (by omega)]; omega) ⟨fun z => absurd z (by decide), fun _ => r_boatTold hX hi hw ?_⟩⟩
      exact cmp_v zN_0 rfl h.toN
    · refine c_boat_x hX (Or.inr h2) ⟨rfl, ?_⟩
      intro N1 e1
      have e1 : N1 = zN N := e1
      subst e1
      unfold wp_X8_isBoat
      rw [hn.nb2]
      exact isx1 (by omega) hi ⟨by decide, fun z => absurd z (by decide), fun _ => isin0 h3 ⟨fun _ => no_go (cmp_x (by decide) zT_0 h.toT), fun z => absurd rfl z⟩⟩
  · refine c_boat_x hX (Or.inl h1) ⟨rfl, ?_⟩
    intro N1 e1
    have e1 : N1 = zN N := e1
    subst e1
    unfold wp_X8_isBoat
    rw [hn.nb2]
    exact isx0 (by omega) h1 ⟨by decide, fun _ => no_go (cmp_x (by decide) zT_0 h.toT), fun z => absurd rfl z⟩
theorem po_crew (h : IVL C T P Y L B S N V U) : wp_op_crew q ap bp rp C T G P Y L B X S O N V J U y1 y2 KIV := by
  obtain ⟨kb, np, nl, nb, ns, no, n, hX, hR, hI, hW, hT, h92, h212⟩ := id h
  have hn := hX.1
  have h60 := hn.np3
  have h6 := hn.nl3
  have h8 := hn.nb3
  have h5 := hX.2.1.2.2
  unfold wp_op_crew wp_L_crew
  rcases ix_cases nb (by omega) y1 with ⟨i, hi, rfl⟩ | h1
  · rcases wh_cases 1 (by decide) y2 with ⟨w, hw, rfl⟩ | ⟨h2, h3⟩
    · refine c_crew hX hi hw ⟨by decide, fun X1 e1 => ?_⟩
      subst e1
      intro N1 e1
      have e1 : N1 = zN N := e1
      subst e1
      unfold wp_X8_isBoat
      rw [hn.nb2]
      have inB : inb (nI i) 8 := inb_nI (by omega) (by decide)
      refine isx1 (by omega) hi ⟨by decide, fun z => absurd z (by decide), fun _ => isin1 (nI_pos (by omega)) (by rw [show (1 : Int32) = nI 1 from rfl, lt_nI (by omega) (by omega)]; omega) ⟨fun z => absurd z (by decide), fun _ => ⟨inB, inB, inb_nI (by omega) (by decide), ?_⟩⟩⟩
      rw [tn_nI (by omega), tn_nI (by omega)]
      exact cmp_v zN_0 rfl h.toN
    · refine c_crew_x hX (Or.inr ?_) ⟨rfl, ?_⟩
      · rcases h3 with h3 | h3
        · exact Or.inl h3
        · refine Or.inr ?_
          rw [show (2 : Int32) = nI 2 from rfl]
          rw [Int32.lt_iff_toInt_lt, nI_toInt (by omega)] at h3 ⊢
          omega
      · intro N1 e1
        have e1 : N1 = zN N := e1
        subst e1
        unfold wp_X8_isBoat
        rw [hn.nb2]
        exact isx1 (by omega) hi ⟨by decide, fun z => absurd z (by decide), fun _ => isin0 h3 ⟨fun _ => no_go (cmp_x (by decide) zT_0 h.toT), fun z => absurd rfl z⟩⟩
  · refine c_crew_x hX (Or.inl h1) ⟨rfl, ?_⟩
    intro N1 e1
    have e1 : N1 = zN N := e1
    subst e1
    unfold wp_X8_isBoat
    rw [hn.nb2]
    exact isx0 (by omega) h1 ⟨by decide, fun _ => no_go (cmp_x (by decide) zT_0 h.toT), fun z => absurd rfl z⟩
theorem po_errorAt (h : IVL C T P Y L B S N V U) : wp_op_errorAt q ap bp rp C T G P Y L B X S O N V J U KIV := by
  obtain ⟨kb, np, nl, nb, ns, no, n, hX, hR, hI, hW, hT, h92, h212⟩ := id h
  have hn := hX.1
  have h60 := hn.np3
  have h6 := hn.nl3
  have h8 := hn.nb3
  have h5 := hX.2.1.2.2
  unfold wp_op_errorAt
  intro N1 e1
  have e1 : N1 = zN N := e1
  subst e1
  refine ⟨fun _ => h.toN, fun z => absurd ?_ z⟩
  rw [zN_n (by decide)]
  exact h92
theorem po_worst (h : IVL C T P Y L B S N V U) : wp_op_worst q ap bp rp C T G P Y L B X S O N V J U KIV := by
  obtain ⟨kb, np, nl, nb, ns, no, n, hX, hR, hI, hW, hT, h92, h212⟩ := id h
  have hn := hX.1
  have h60 := hn.np3
  have h6 := hn.nl3
  have h8 := hn.nb3
  have h5 := hX.2.1.2.2
  unfold wp_op_worst
  refine c_worst h60 hn.np1 hR ?_
  refine r_worst h60 hn.np2 (qS S) ?_
  exact ⟨fun _ => h.toN, fun z => absurd rfl z⟩
theorem IVL.act {C' T' P' Y' : M2} {L' : L2} {B' S' N' V' U' : M2} {kb np nl nb ns no n : Nat} (hX : PRX P' U' kb np nl nb ns no) (hR : RE np nl nb T' S') (hI : INV U' S' np nl nb nb) (hW : KWT Y' L') (hT : TAP n C' B' N' V') (h92 : C' 92 0 = N' 223 0) (h212 : S' 212 0 = -1) : IVL C' T' P' Y' L' B' S' N' V' U' := ⟨kb, np, nl, nb, ns, no, n, hX, hR, hI, hW, hT, h92, h212⟩
theorem RE.qe {np nl nb : Nat} {F M S : M2} (h : RE np nl nb F M) (hq : QE S M) : RE np nl nb F S := by
  intro k k1 k2 i hi
  rw [h k k1 k2 i hi]
  have key : ∀ a : Fin 14, 1 ≤ a.val → 200 ≤ km a.val ∧ km a.val ≤ 212 := by decide
  obtain ⟨a, b⟩ := key ⟨k, by omega⟩ k1
  rw [hq _ a b]
theorem INV.qe {Q M S : M2} {np nl nb b : Nat} (h : INV Q M np nl nb b) (hq : QE S M) : INV Q S np nl nb b := by
  unfold INV IA IW IB ID IC IS isIn isOff at *
  rw [hq 202 (by decide) (by decide), hq 205 (by decide) (by decide), hq 206 (by decide) (by decide), hq 207 (by decide) (by decide), hq 209 (by decide) (by decide), hq 210 (by decide) (by decide)]
  exact h
theorem TAP.toN {n : Nat} (h : TAP n C B N V) : TAP n C B (zN N) V := ⟨h.1, h.2.1, by rw [zN_n (by decide)]; exact h.2.2.1, h.2.2.2⟩
theorem zb_if {c : Prop} [Decidable c] : zb (if c then 1 else 0) := by by_cases h : c <;> simp only [h, if_true, if_false] <;> decide
theorem QE.s212 {S M : M2} (h : QE S M) : S 212 = M 212 := h 212 (by decide) (by decide)
theorem po_canEnter (h : IVL C T P Y L B S N V U) : wp_op_canEnter q ap bp rp C T G P Y L B X S O N V J U y1 KIV := by
  obtain ⟨kb, np, nl, nb, ns, no, n, hX, hR, hI, hW, hT, h92, h212⟩ := id h
  have hn := hX.1
  have h60 := hn.np3
  have h6 := hn.nl3
  have h8 := hn.nb3
  have h5 := hX.2.1.2.2
  unfold wp_op_canEnter wp_L_canEnter
  obtain ⟨Tt, hPT⟩ := hX.2.2.2.2.2
  rcases ix_cases nb (by omega) y1 with ⟨i, hi, rfl⟩ | h1
  · have hb : ¬ nI i < 0 ∧ nI i < P 24 0 := by rw [hn.nb1]; exact ix_in (by omega) hi
    refine ⟨fun _ _ => m_goesIn hn hPT hR hi (fun T1 hR1 => ⟨zb_if, ?_⟩), fun z => absurd z (fun z => z.elim hb.1 (fun y => y hb.2))⟩
    have go : ∀ (v : Int32) (x : Int64), v = (if canP Tt U S np nb no i then 1 else 0) → (v = 0 ∧ x = 0 ∨ v = 1 ∧ x = 1) → ∀ X1 : L2, X1 = ul2 X 500 (vp_updL (X 500) (0 : Int32).toInt.toNat x) → wp_X8_canEnter U S N (nI i) (fun r_750 S_750 N_750 => wp_X8_thrown U S_750 N_750 (fun r_756 => ((r_756 = 0 → ((¬ (0 : Int32) = 0 → KIV ap bp rp C T1 G P Y L B X1 S_750 O N_750 V J U) ∧ ((0 : Int32) = 0 → (inb 0 1 ∧ ((r_750 = 0 → (((lg_cmp (X1 500 (0 : Int32).toInt.toNat) 0) = 0 → KIV ap bp rp C T1 G P Y L B X1 S_750 O N_750 V J U) ∧ (¬ (lg_cmp (X1 500 (0 : Int32).toInt.toNat) 0) = 0 → False))) ∧ (¬ r_750 = 0 → (((lg_cmp (X1 500 (0 : Int32).toInt.toNat) 1) = 0 → KIV ap bp rp C T1 G P Y L B X1 S_750 O N_750 V J U) ∧ (¬ (lg_cmp (X1 500 (0 : Int32).toInt.toNat) 1) = 0 → False)))))))) ∧ (¬ r_756 = 0 → False)))) := by
      intro v x hv hvx X1 e1
      have ex : X1 500 (0 : Int32).toInt.toNat = x := by rw [e1]; simp [ul2, vp_updL]
      unfold wp_X8_canEnter wp_X8_isBoat
      rw [hn.nb2]
      refine isx1 (by omega) hi ⟨by decide, fun z => absurd z (by decide), fun _ => ?_⟩
      intro N1 e2
      have e2 : N1 = zN N := e2
      subst e2
      refine ⟨fun z => absurd zN_0 z, fun _ => n_canEnter hn hPT (qS S) hI.2.1 hi (fun S1 hS1 => ?_)⟩
      have hk : IVL C T1 P Y L B S1 (zN N) V U := IVL.act hX (hR1.qe hS1) (hI.qe hS1) hW hT.toN (by rw [zN_n (by decide)]; exact h92) (by rw [hS1.s212]; exact h212)
      rw [← hv]
      refine ⟨fun c => ⟨fun _ => ⟨fun z => absurd rfl z, fun _ => ⟨by decide, fun _ => ⟨fun _ => hk, fun z => absurd (lg_cmp0.mpr ?_) z⟩, fun z => absurd rfl z⟩⟩, fun z => absurd zN_0 z⟩, fun c => ⟨fun _ => ⟨fun z => absurd rfl z, fun _ => ⟨by decide, fun z => absurd z (by decide), fun _ => ⟨fun _ => hk, fun z => absurd (lg_cmp0.mpr ?_) z⟩⟩⟩, fun z => absurd zN_0 z⟩⟩
      · rw [ex]
        exact hvx.elim (fun z => z.2) (fun z => absurd (z.1.symm.trans c) (by decide))
      · rw [ex]
        exact hvx.elim (fun z => absurd z.1 c) (fun z => z.2)
    refine ⟨fun c => ⟨by decide, fun X1 e1 => ?_⟩, fun c => ⟨by decide, fun X1 e1 => ?_⟩⟩
    · exact go 0 0 c.symm (Or.inl ⟨rfl, rfl⟩) X1 e1
    · refine go 1 1 ?_ (Or.inr ⟨rfl, rfl⟩) X1 e1
      by_cases hc : canP Tt U S np nb no i
      · rw [if_pos hc]
      · rw [if_neg hc] at c
        exact absurd rfl c
  · refine ⟨fun a1 a2 => absurd h1 (fun z => z.elim a1 (fun y => y (by rw [← hn.nb1]; exact a2))), fun _ => ⟨rfl, ?_⟩⟩
    unfold wp_X8_canEnter wp_X8_isBoat
    rw [hn.nb2]
    refine isx0 (by omega) h1 ⟨by decide, fun _ => ?_, fun z => absurd rfl z⟩
    intro N1 e1
    have g0 : N1 220 0 = 1 := by rw [e1, up2_s]
    refine ⟨fun _ => ?_, fun z => absurd (g0.symm.trans z) (by decide)⟩
    have hk : IVL C T P Y L B S N1 V U := h.nz (by rw [e1, up2_n _ _ (by decide)]) (by rw [e1, up2_n _ _ (by decide)])
    exact ⟨fun _ => ⟨fun _ => hk, fun z => absurd z (by decide)⟩, fun z => absurd g0 z⟩
theorem po_whistle (h : IVL C T P Y L B S N V U) : wp_op_whistle q ap bp rp C T G P Y L B X S O N V J U y1 KIV := by
  obtain ⟨kb, np, nl, nb, ns, no, n, hX, hR, hI, hW, hT, h92, h212⟩ := id h
  have hn := hX.1
  have h60 := hn.np3
  have h6 := hn.nl3
  have h8 := hn.nb3
  have h5 := hX.2.1.2.2
  unfold wp_op_whistle wp_L_whistle
  rcases wh_cases 1 (by decide) y1 with ⟨w, hw, rfl⟩ | ⟨h1, h2⟩
  · have go : wj_X5_whistle_19 P (fun k_ => (k_ = 1 ∧ (fun r_814 ap_814 bp_814 rp_814 C_814 T_814 G_814 P_814 Y_814 L_814 B_814 X_814 => wp_X8_whistle U S N (nI w) (fun r_826 S_826 N_826 => wp_X8_thrown U S_826 N_826 (fun r_832 => cmpP (KIV ap_814 bp_814 rp_814 C_814 T_814 G_814 P_814 Y_814 L_814 B_814 X_814 S_826 O N_826 V J U) r_814 r_832 (X_814 500 (0 : Int32).toInt.toNat) r_826))) 1 ap bp rp C T G P Y L B X)) (fun r_4 T_4 C_4 => (inb 0 1 ∧ ∀ X_8 : L2, X_8 = ul2 X 500 (vp_updL (X 500) (0 : Int32).toInt.toNat r_4.toInt64) → (fun r_814 ap_814 bp_814 rp_814 C_814 T_814 G_814 P_814 Y_814 L_814 B_814 X_814 => wp_X8_whistle U S N (nI w) (fun r_826 S_826 N_826 => wp_X8_thrown U S_826 N_826 (fun r_832 => cmpP (KIV ap_814 bp_814 rp_814 C_814 T_814 G_814 P_814 Y_814 L_814 B_814 X_814 S_826 O N_826 V J U) r_814 r_832 (X_814 500 (0 : Int32).toInt.toNat) r_826))) 0 ap bp rp C_4 T_4 G P Y L B X_8)) T C (nI w) := by
      intro v ev T1 e1
      refine ⟨by decide, fun X1 e2 => ?_⟩
      subst e2
      intro N1 e3
      have e3 : N1 = zN N := e3
      subst e3
      refine isin1 (nI_pos (by omega)) (by rw [show (1 : Int32) = nI 1 from rfl, lt_nI (by omega) (by omega)]; omega) ⟨fun _ v2 ev2 S1 e4 => ?_, fun z => absurd z (by decide)⟩
      refine cmp_v zN_0 (by rw [ev, ev2, hR.turn]) ?_
      refine IVL.act hX ?_ (by rw [e4]; exact hI.off (by decide) (by decide) (by decide) (by decide) (by decide) (by decide)) hW hT.toN (by rw [zN_n (by decide)]; exact h92) (by rw [e4, up2_n _ _ (by decide)]; exact h212)
      rw [e1, e4]
      exact hR.num (k := 2) (by decide) (by decide) rfl
    match w, hw, go with
    | 0, _, go => exact ⟨fun _ => go, fun z => absurd rfl z⟩
    | 1, _, go => exact ⟨fun z => absurd z (by decide), fun _ => ⟨fun _ => go, fun z => absurd rfl z⟩⟩
  · refine ⟨fun z => absurd z (h1 0 (by decide)), fun _ => ⟨fun z => absurd z (h1 1 (by decide)), fun _ => ⟨rfl, ?_⟩⟩⟩
    intro N1 e1
    have e1 : N1 = zN N := e1
    subst e1
    exact isin0 h2 ⟨fun z => absurd rfl z, fun _ => no_go (cmp_x (by decide) zT_0 h.toT)⟩
theorem po_air (h : IVL C T P Y L B S N V U) : wp_op_air q ap bp rp C T G P Y L B X S O N V J U KIV := by
  obtain ⟨kb, np, nl, nb, ns, no, n, hX, hR, hI, hW, hT, h92, h212⟩ := id h
  have hn := hX.1
  have h60 := hn.np3
  have h6 := hn.nl3
  have h8 := hn.nb3
  have h5 := hX.2.1.2.2
  unfold wp_op_air
  refine c_air h60 hn.np1 (fun T1 f1 f2 => ?_)
  refine r_air h60 hn.np2 (fun S1 s1 s2 => ?_)
  obtain ⟨hR1, _, hI1⟩ := air_rel hR (qS S) hI f1 f2 s1 s2
  exact ⟨fun _ => IVL.act hX hR1 hI1 hW hT.toN (by show C 92 0 = zN N 223 0; rw [zN_n (by decide)]; exact h92) (by rw [s1 212 (by decide)]; exact h212), fun z => absurd (air_one hR (qS S)) z⟩
theorem po_cap (h : IVL C T P Y L B S N V U) : wp_op_cap q ap bp rp C T G P Y L B X S O N V J U y1 KIV := by
  obtain ⟨kb, np, nl, nb, ns, no, n, hX, hR, hI, hW, hT, h92, h212⟩ := id h
  have hn := hX.1
  have h60 := hn.np3
  have h6 := hn.nl3
  have h8 := hn.nb3
  have h5 := hX.2.1.2.2
  unfold wp_op_cap wp_L_cap
  rcases ix_cases nl (by omega) y1 with ⟨i, hi, rfl⟩ | h1
  · have hb : ¬ nI i < 0 ∧ nI i < P 23 0 := by rw [hn.nl1]; exact ix_in (by omega) hi
    have inB : inb (nI i) 6 := inb_nI (by omega) (by decide)
    refine ⟨fun _ _ v ev T1 e1 => ⟨by decide, fun X1 e2 => ?_⟩, fun z => absurd z (fun z => z.elim hb.1 (fun y => y hb.2))⟩
    subst e2
    intro N1 e3
    have e3 : N1 = zN N := e3
    subst e3
    unfold wp_X8_isLegger
    rw [hn.nl2]
    refine isx1 (by omega) hi ⟨by decide, fun _ => ⟨inB, fun v2 ev2 => ⟨inB, fun S1 e4 => ?_⟩⟩, fun z => absurd z (by decide)⟩
    rw [tn_nI (by omega)] at ev2 e4
    rw [atv_nI (by omega) (by decide), hR.cap hi] at ev
    rw [put6 (by omega)] at e1
    refine cmp_v zN_0 (by rw [ev, ev2]) ?_
    refine IVL.act hX ?_ (by rw [e4]; exact hI.off (by decide) (by decide) (by decide) (by decide) (by decide) (by decide)) hW hT.toN (by rw [zN_n (by decide)]; exact h92) (by rw [e4, up2_n _ _ (by decide)]; exact h212)
    rw [e1, e4]
    exact hR.put (k := 7) (by decide) (by decide) i rfl
  · refine ⟨fun a1 a2 => absurd h1 (fun z => z.elim a1 (fun y => y (by rw [← hn.nl1]; exact a2))), fun _ => ⟨rfl, ?_⟩⟩
    intro N1 e1
    have e1 : N1 = zN N := e1
    subst e1
    unfold wp_X8_isLegger
    rw [hn.nl2]
    exact isx0 (by omega) h1 ⟨by decide, fun z => absurd rfl z, fun _ => no_go (cmp_x (by decide) zT_0 h.toT)⟩
theorem po_trim (h : IVL C T P Y L B S N V U) : wp_op_trim q ap bp rp C T G P Y L B X S O N V J U y1 KIV := by
  obtain ⟨kb, np, nl, nb, ns, no, n, hX, hR, hI, hW, hT, h92, h212⟩ := id h
  have hn := hX.1
  have h60 := hn.np3
  have h6 := hn.nl3
  have h8 := hn.nb3
  have h5 := hX.2.1.2.2
  unfold wp_op_trim wp_L_trim
  have h2000 := hT.1
  rcases ix_cases (n + 1) (by omega) y1 with ⟨j, hj, rfl⟩ | h1
  · refine ⟨fun z => absurd z (nI_pos (by omega)), fun _ => ⟨fun _ C1 e1 => ⟨by decide, fun X1 e2 => ?_⟩, fun z => absurd (by rw [hT.2.1, le_nI (by omega) (by omega)]; omega) z⟩⟩
    subst e2
    intro N1 e3
    have e3 : N1 = zN N := e3
    subst e3
    rw [zN_n (by decide), hT.2.2.1]
    refine isin1 (nI_pos (by omega)) (by rw [lt_nI (by omega) (by omega)]; omega) ⟨fun _ N2 e4 => ?_, fun z => absurd z (by decide)⟩
    refine cmp_v (by rw [e4, up2_n _ _ (by decide)]; exact zN_0) rfl ?_
    refine IVL.act (n := j) hX hR hI hW ⟨by omega, by rw [e1, up2_s], by rw [e4, up2_s], fun i hi => hT.2.2.2 i (by omega)⟩ (by rw [e1, e4, up2_n _ _ (by decide), up2_n _ _ (by decide), zN_n (by decide)]; exact h92) h212
  · have hx : y1 < 0 ∨ nI n < y1 := by
      rcases h1 with h1 | h1
      · exact Or.inl h1
      · by_cases h0 : y1 < 0
        · exact Or.inl h0
        · refine Or.inr ?_
          rw [Int32.lt_iff_toInt_lt, nI_toInt (by omega)] at h1
          rw [Int32.lt_iff_toInt_lt, nI_toInt (by omega)]
          omega
    have thr : wp_X8_trim U S N y1 (fun r_272 S_272 N_272 => wp_X8_thrown U S_272 N_272 (fun r_278 => cmpP (KIV ap bp rp C T G P Y L B X S_272 O N_272 V J U) 1 r_278 (X 500 (0 : Int32).toInt.toNat) r_272)) := by
      intro N1 e1
      have e1 : N1 = zN N := e1
      subst e1
      rw [zN_n (by decide), hT.2.2.1]
      exact isin0 hx ⟨fun z => absurd rfl z, fun _ => no_go (cmp_x (by decide) zT_0 h.toT)⟩
    refine ⟨fun _ => ⟨rfl, thr⟩, fun c => ⟨fun z => absurd z ?_, fun _ => ⟨rfl, thr⟩⟩⟩
    rw [hT.2.1]
    exact fun z => absurd (hx.resolve_left c) (Int32.not_lt.mpr z)
end CALLS1
