/-! ===== the lines of orders: what they tell ===== -/
section ORDERS
variable {κ : Nat → Int32} {m : Nat} {val : Nat → Int64} {N0 : M2} {V0 : M2}
theorem CER.cT {F : M2} {e : Int32} {k q : Nat} (h : CER F e k) : CER (cT q F) e k := by
  unfold CER
  have e1 : ∀ j, j ≠ 66 → (up2 F 66 (fun _ => nI q)) j = F j := fun j hj => up2_n _ _ hj
  show (up2 F 66 (fun _ => nI q)) 67 0 = e ∧ ¬ e = 0 ∧ (up2 F 66 (fun _ => nI q)) 68 0 = nI k
  rw [e1 67 (by decide), e1 68 (by decide)]
  exact h
theorem ln_ord_WHISTLE (hK : KIN κ m) (hNum : NUM κ m val N0) (hSid : SID κ m val) {F : M2} {L : L2} {N P : M2} {p nr : Nat} {its : List IT} (hB : BND κ m val N0 V0 F L N P p its nr) (h0 : ck (κ p) = 48) : OUTG κ m val N0 V0 (fun F L K => wp_X2_orderLine_WHISTLE_HEAD F L 48 K) (fun N P K => wp_X8_isOrderLine N P K) p F L N P := by
  have hm := hK.1
  obtain ⟨h1, h2, h3, h4, h5, h6, h7, h9, h8⟩ := hB
  have hpm := h1.2.1
  rcases sy_ord_WHISTLE hK hNum hSid h1 h2 h7.1 (by omega) h0 with ⟨p1, b, N3, hp1, c1, hG, z3, kc, kr⟩ | hf
  rotate_left
  · exact Or.inr hf
  obtain ⟨G1, G2, G3, G4, G5⟩ := hG
  have hGI : GI κ m (p + 3) p1 [] [true] b := ⟨G1, G2, G3, G4, G5⟩
  have e227 : N3 227 = upd (upd (N 227) p 5) (p + 1) 18 := z3.2.1
  obtain ⟨N', hN'⟩ : ∃ N', N' = rT p1 (rR b N3) := ⟨_, rfl⟩
  have n227 : N' 227 = rR b N3 227 := by rw [hN']; exact up2_n _ _ (by decide)
  have nb : ∀ i, i < p + 3 → ¬ i ∈ nms b := fun i hi z => by have := (G4.mem z).1; omega
  have r0 : N' 227 p = 5 := by rw [n227, rR_o _ _ (nb p (by omega)), e227, upd_n _ _ (by omega), upd_s]
  have r1 : N' 227 (p + 1) = 18 := by rw [n227, rR_o _ _ (nb (p + 1) (by omega)), e227, upd_s]
  have rz : ∀ i, p + 2 ≤ i → i ≤ m → ¬ i ∈ nms b → N' 227 i = 0 := fun i hi hi2 hn => by
    rw [n227, rR_o _ _ hn, e227, upd_n _ _ (by omega), upd_n _ _ (by omega)]
    exact h3 i (by omega) hi2
  have rq : ∀ q ∈ b, isNm q.1 → N' 227 q.2 = roleN q.1 := fun q hq hn => by
    rw [n227]
    exact rR_m b N3 G4 q hq hn
  have hr : ∀ k, k < p → N 227 k = N' 227 k := fun k hk => by
    rw [n227, rR_o _ _ (nb k (by omega)), e227, upd_n _ _ (by omega), upd_n _ _ (by omega)]
  have hno : ∀ as : Int32, (as = 1 ∨ as = 2 ∨ as = 3 ∨ as = 4) → ∀ i, p ≤ i → i < p1 → ¬ N' 227 i = as := fun as ha i hi1 hi2 z => by
    have key : ∀ x : Int32, (x = 5 ∨ x = 18 ∨ x = 0 ∨ x = 20 ∨ x = 21) → ¬ x = as := fun x hx y => by
      rcases ha with a | a | a | a <;> rcases hx with c | c | c | c | c <;> rw [c, a] at y <;> exact absurd y (by decide)
    refine key (N' 227 i) ?_ z
    by_cases e0 : i = p
    · rw [e0]; exact Or.inl r0
    by_cases e1 : i = p + 1
    · rw [e1]; exact Or.inr (Or.inl r1)
    by_cases e2 : i ∈ nms b
    · obtain ⟨q, hq, eq⟩ := List.mem_map.mp e2
      have hq := List.mem_filter.mp hq
      have hqn : isNm q.1 := of_decide_eq_true hq.2
      have := rq q hq.1 hqn
      rw [eq] at this
      rw [this]
      unfold roleN
      split
      · exact Or.inr (Or.inr (Or.inr (Or.inl rfl)))
      · exact Or.inr (Or.inr (Or.inr (Or.inr rfl)))
    · exact Or.inr (Or.inr (Or.inl (rz i (by omega) (by omega) e2)))
  have hW : WFR κ (N' 227) p1 := fun t ht => by
    by_cases e : t < p
    · exact (h9 t e).cong (fun k hk => hr k (by omega))
    by_cases e0 : t = p
    · rw [e0]
      unfold LOC
      rw [r0]
      exact ⟨Or.inl (by decide), by show 0 ≤ p; omega, by show N' 227 (p - 0) = _; rw [Nat.sub_zero, r0]; decide, by decide⟩
    by_cases e1 : t = p + 1
    · rw [e1]
      unfold LOC
      rw [r1]
      exact ⟨Or.inl (by decide), by show 1 ≤ p + 1; omega, by show N' 227 (p + 1 - 1) = _; rw [show p + 1 - 1 = p by omega, r0]; decide, by decide⟩
    by_cases e2 : t ∈ nms b
    · obtain ⟨q, hq, eq⟩ := List.mem_map.mp e2
      have hq := List.mem_filter.mp hq
      have hqn : isNm q.1 := of_decide_eq_true hq.2
      have h27 := rq q hq.1 hqn
      have hk := (G5 q hq.1).1 hqn
      rw [eq] at h27 hk
      unfold roleN at h27
      unfold LOC
      split at h27
      · rw [h27]
        exact ⟨Or.inr hk, by show 0 ≤ t; omega, by show N' 227 (t - 0) = _; rw [Nat.sub_zero, h27]; decide, by decide⟩
      · rw [h27]
        exact ⟨Or.inr hk, by show 0 ≤ t; omega, by show N' 227 (t - 0) = _; rw [Nat.sub_zero, h27]; decide, by decide⟩
    · exact LOC.zero (rz t (by omega) (by omega) e2)
  -- the plan
  obtain ⟨P', hP'⟩ : ∃ P', P' = PZ nr (rE val b (PA nr P)) := ⟨_, rfl⟩
  have hl1 := lenR_le its
  have hl2 := lenR_le b
  have pa : ∀ k, k ≠ 258 → k ≠ 261 → PA nr P k = P k := fun k a1 a2 => by
    unfold PA
    rw [up2_n _ _ a2, up2_n _ _ a1]
  have hPA : COD val (PA nr P) its := by
    unfold COD
    rw [pa 264 (by decide) (by decide), pa 263 (by decide) (by decide), pa 266 (by decide) (by decide), pa 265 (by decide) (by decide)]
    exact h5
  have hPE := hPA.app (b := b) (by omega)
  have pz : ∀ k, k ≠ 262 → P' k = rE val b (PA nr P) k := fun k a1 => by
    rw [hP']
    exact up2_n _ _ a1
  have hCOD : COD val P' (its ++ b) := by
    unfold COD
    rw [pz 264 (by decide), pz 263 (by decide), pz 266 (by decide), pz 265 (by decide)]
    exact hPE
  have p258 : P' 258 0 = nI (nr + 1) := by
    rw [pz 258 (by decide), rE_n (Or.inl (by decide))]
    unfold PA
    rw [up2_n _ _ (by decide), up2_s]
  have p261 : P' 261 = upd (P 261) (min nr 16) (nI (lenR its)) := by
    rw [pz 261 (by decide), rE_n (Or.inl (by decide))]
    unfold PA
    rw [up2_s, h5.1]
  have p262 : P' 262 = upd (P 262) (min nr 16) (nI (lenR its + lenR b)) := by
    rw [hP']
    unfold PZ
    rw [up2_s, hPE.1, rE_n (Or.inl (by decide)), pa 262 (by decide) (by decide), lenR_append]
  have hPf : ∀ k, (k < 258 ∨ k = 259 ∨ k = 260 ∨ 266 < k) → P' k = P k := fun k hk => by
    rw [pz k (by omega), rE_n (by omega), pa k (by omega) (by omega)]
  have hNf : ∀ k, (k ≤ 226 ∨ 230 < k) → N' k = N k := fun k hk => by
    rw [hN']
    unfold rT
    rw [up2_n _ _ (by omega), rR_n (by omega)]
    exact z3.2.2 k hk
  have hSN : SN κ m N0 N' P' p1 0 := by
    rw [hN']
    exact (z3.1.to hGI).rows (pz 264 (by decide)) (pz 266 (by decide))
  have hROK : ROK m N' p1 := fun k hk hk2 => rz k (by omega) hk2 (fun z => by have := (G4.mem z).2; omega)
  have hITS : ITS κ (N' 227) p1 (its ++ b) := by
    obtain ⟨i1, i2, i3⟩ := h6.cong (p' := p1) hr (by omega)
    refine ⟨?_, fun q hq => ?_, fun q hq hn => ?_⟩
    · rw [nms_append]
      exact h6.1.app (G4.low (by omega))
    · rcases List.mem_append.mp hq with y | y
      · exact i2 q y
      · exact G5 q y
    · rcases List.mem_append.mp hq with y | y
      · exact i3 q y hn
      · exact ⟨rq q y hn, (G4.mem (mem_nms y hn)).2⟩
  -- the class's state behind the test
  obtain ⟨E, hE⟩ : ∃ E, E = cT p1 (cE val L b (cT (p + 3) (odC p F))) := ⟨_, rfl⟩
  have f2 : ∀ k, k ≠ 66 → k ≠ 67 → k ≠ 68 → (cT (p + 3) (odC p F)) k = F k := fun k a1 a2 a3 => by
    unfold cT; rw [up2_n _ _ a1, odC_n a2 a3]
  have eE : ∀ k, (k ≤ 44 ∨ 68 < k) → E k = F k := fun k hk => by
    rw [hE]
    unfold cT
    rw [up2_n _ _ (by omega), cE_n val L (by omega)]
    exact f2 k (by omega) (by omega) (by omega)
  have c46 := cE_46 (val := val) (L := L) b (cT (p + 3) (odC p F)) its.length (by rw [f2 45 (by decide) (by decide) (by decide)]; exact h4.1) (by omega)
  have hx : ∀ k, k ≠ 66 → E k = cE val L b (cT (p + 3) (odC p F)) k := fun k hk => by
    rw [hE]
    exact up2_n _ _ hk
  have e45 : E 45 0 = nI (its ++ b).length := by
    rw [hx 45 (by decide), c46.1, List.length_append]
  have e66 : E 66 = cT p1 F 66 := by
    rw [hE]
    unfold cT
    rw [up2_s, up2_s]
  rw [← hE] at kc
  rw [← hN', ← hP'] at kr
  have hlen : (its ++ b).length ≤ p1 := by rw [List.length_append]; omega
  have mk : ∀ (F' : M2), F' 66 = E 66 → F' 74 = E 74 → F' 45 = E 45 → ((∃ e k, k < p1 ∧ SER κ val V0 (N' 227) p1 e k ∧ CER F' e k) ∨ (∃ V np, SOK κ val V0 (N' 227) p1 V ∧ F' 67 0 = 0 ∧ PXN val (N' 227) p1 np F' L V ∧ ORX val (N' 227) F' V P' (its ++ b) (nr + 1))) → BND κ m val N0 V0 F' L N' P' p1 (its ++ b) (nr + 1) := fun F' g66 g74 g45 g =>
    ⟨(h1.adv G2).rows (by rw [g66]; exact e66) (by rw [g74, eE 74 (Or.inr (by decide))]; exact (up2_n _ _ (by decide)).symm) rfl, hSN, hROK, ⟨by rw [g45]; exact e45, hlen⟩, hCOD, hITS, ⟨p258, by omega⟩, hW, g⟩
  -- an error anywhere
  have bad : ∀ e k, k < p1 → SER κ val V0 (N' 227) p1 e k → CER E e k → OUTG κ m val N0 V0 (fun F L K => wp_X2_orderLine_WHISTLE_HEAD F L 48 K) (fun N P K => wp_X8_isOrderLine N P K) p F L N P := fun e k hk hS hC =>
    Or.inl ⟨p1, E, L, N', P', its ++ b, nr + 1, by omega, mk E rfl rfl rfl (Or.inl ⟨e, k, hk, hS, hC⟩), fun k hk => eE k (Or.inr hk), fun _ _ => rfl, hNf, hPf, fun K hk => kc K (fun _ => hk) (fun z => absurd (hC.1.symm.trans z) hC.2.1), kr⟩
  have toE : ∀ {e : Int32} {k : Nat}, CER (cT (p + 3) (odC p F)) e k → CER E e k := fun h => by
    rw [hE]
    exact (h.its b).cT
  rcases h8 with ⟨e, k, hk, hS, hC⟩ | ⟨V, np, hS, hF67, hP, hO⟩
  · refine bad e k (by omega) ?_ (toE ?_)
    · have := (hS.cong hr).add (p1 - p)
      rw [show p + (p1 - p) = p1 by omega] at this
      exact this
    · rw [odC_off hC]
      exact hC.cT
  have hP := hP.cong hr
  have hO' : ORX val (N' 227) F V P its nr := hO.keep (fun q hq hn => (h6.2.2 q hq hn).2) hr (fun _ _ => rfl) ⟨rfl, rfl, rfl⟩ ⟨rfl, rfl⟩
  obtain ⟨o1, o2, o3, o4, o5, o6, o7⟩ := hO
  have S0 : SOK κ val V0 (N' 227) p V := hS.cong hr
  have E5 := erF_5 (κ := κ) (val := val) (V := V) r0
  by_cases hfull : nr = 16
  · have e16 : V 257 0 = 16 := by rw [o2, hfull]; rfl
    rw [if_pos e16] at E5
    have hC : CER (odC p F) 4 p := by
      unfold odC
      rw [if_neg (by rw [o1, hfull]; decide)]
      exact tf_on hF67 (by decide)
    refine bad 4 p (by omega) ?_ (toE ?_)
    · have := (S0.err E5 (by decide)).add (p1 - (p + 1))
      rw [show p + 1 + (p1 - (p + 1)) = p1 by omega] at this
      exact this
    · exact hC.cT
  have hlt : nr < 16 := by omega
  have ne16 : ¬ V 257 0 = 16 := by rw [o2]; exact nI_ne (b := 16) (by omega) (by omega) hfull
  rw [if_neg ne16] at E5
  have eod : odC p F = F := if_pos (by rw [o1]; exact (lt_nI (b := 16) (by omega) (by omega)).mpr hlt)
  have S1 := S0.step E5
  have eV1 : ordF V 17 = up2 (st2 V 259 nr 17) 257 (fun _ => nI (nr + 1)) := by
    unfold ordF
    rw [o2, tn_nI (by omega), nI_1]
  rw [eV1] at S1
  obtain ⟨V1, hV1⟩ : ∃ V1, V1 = up2 (st2 V 259 nr 17) 257 (fun _ => nI (nr + 1)) := ⟨_, rfl⟩
  rw [← hV1] at S1
  have v257 : V1 257 0 = nI (nr + 1) := by rw [hV1, up2_s]
  have hli : lastI V1 257 = nr := lastI_nI v257 (by omega)
  have hF0 : cT (p + 3) F 67 0 = 0 := hF67
  have hq3 := hP.2.2.1
  have hq4 := hP.2.2.2.1
  have tl3 : ∀ t, p ≤ t → t < p1 → idx (L 63) (F 23 0) 6 (val t) = tld val (N' 227) 3 t t := fun t ht1 ht2 => by
    rw [hq3.1, idx_tld hq3.2.2.2 hq3.2.2.1 (by decide)]
    have := tld_at (val := val) (ρ := N' 227) (as := 3) (p := p) (d := t - p) (fun i h1 h2 => hno 3 (by decide) i h1 (by omega)) t
    rw [show p + (t - p) = t by omega] at this
    exact this.symm
  have tl4 : ∀ t, p ≤ t → t < p1 → idx (L 64) (F 24 0) 8 (val t) = tld val (N' 227) 4 t t := fun t ht1 ht2 => by
    rw [hq4.1, idx_tld hq4.2.2.2 hq4.2.2.1 (by decide)]
    have := tld_at (val := val) (ρ := N' 227) (as := 4) (p := p) (d := t - p) (fun i h1 h2 => hno 4 (by decide) i h1 (by omega)) t
    rw [show p + (t - p) = t by omega] at this
    exact this.symm
  have S2 := S1.step (erF_18 r1)
  have hen : endV (κ (p + 1)) = (val (p + 1)).toInt32 := by
    have hs := hSid (p + 1) (by omega)
    unfold endV
    rcases (ck_3 (hK.2.1 _ (by omega))).mp c1 with q | q
    · rw [if_pos q, hs.1 q]
    · rw [if_neg (by rw [q]; decide), hs.2 q]
  rw [hli, hen] at S2
  have eF2 : (cT (p + 3) (odC p F)) = cT (p + 3) F := by rw [eod]
  have S3 := S2.step0 (rz (p + 2) (by omega) (by omega) (nb _ (by omega)))
  rcases it_sem (V0 := V0) (κ := κ) (L := L) (nl := F 23 0) (nb := F 24 0) (a0 := p) (p1 := p1) tl3 tl4 b (p + 2 + 1) (cT (p + 3) F) (st2 V1 260 nr (val (p + 1)).toInt32) (by omega) G4 (fun i a1 a2 a3 => rz i (by omega) (by omega) a3) rq rfl rfl hF0 S3 with ⟨e, k, hk, hS, hC⟩ | ⟨S4, g67, gnm, gop⟩
  · exact bad e k hk hS (by rw [hE, eF2]; exact hC.cT)
  rw [← eF2] at g67
  have E67 : E 67 0 = 0 := by rw [hx 67 (by decide)]; exact g67
  -- the order is laid
  have hadd : ∀ K : Int32 → M2 → L2 → Prop, K 1 (up2 (st2 (st2 (st2 (st2 E 41 nr 48) 42 nr (val (p + 1)).toInt32) 43 nr (F 45 0)) 44 nr (nI (its ++ b).length)) 40 (fun _ => nI (nr + 1))) L → wp_X0_add E L 48 (val (p + 1)).toInt32 (F 45 0) (fun F L => K 1 F L) := fun K hk => c_addOrder hlt (by rw [eE 40 (by decide)]; exact o1) e45 hk
  rw [h4.1] at hadd
  obtain ⟨G, hG⟩ : ∃ G, G = up2 (st2 (st2 (st2 (st2 E 41 nr 48) 42 nr (val (p + 1)).toInt32) 43 nr (nI its.length)) 44 nr (nI (its ++ b).length)) 40 (fun _ => nI (nr + 1)) := ⟨_, rfl⟩
  rw [← hG] at hadd
  rw [h4.1] at kc
  have gE : ∀ k, k ≠ 40 → k ≠ 41 → k ≠ 42 → k ≠ 43 → k ≠ 44 → G k = E k := fun k a0 a1 a2 a3 a4 => by
    rw [hG, up2_n _ _ a0, st2_n _ _ _ a4, st2_n _ _ _ a3, st2_n _ _ _ a2, st2_n _ _ _ a1]
  have s2u : ∀ (M : M2) (k i : Nat) (x : Int32), st2 M k i x k = upd (M k) i x := fun M k i x => up2_s _ _ _
  have g40 : G 40 0 = nI (nr + 1) := by rw [hG, up2_s]
  have g41 : G 41 = upd (F 41) nr 48 := by rw [hG, up2_n _ _ (by decide), st2_n _ _ _ (by decide), st2_n _ _ _ (by decide), st2_n _ _ _ (by decide), s2u, eE 41 (by decide)]
  have g42 : G 42 = upd (F 42) nr (val (p + 1)).toInt32 := by rw [hG, up2_n _ _ (by decide), st2_n _ _ _ (by decide), st2_n _ _ _ (by decide), s2u, st2_n _ _ _ (by decide), eE 42 (by decide)]
  have g43 : G 43 = upd (F 43) nr (nI its.length) := by rw [hG, up2_n _ _ (by decide), st2_n _ _ _ (by decide), s2u, st2_n _ _ _ (by decide), st2_n _ _ _ (by decide), eE 43 (by decide)]
  have g44 : G 44 = upd (F 44) nr (nI (its.length + b.length)) := by rw [hG, up2_n _ _ (by decide), s2u, st2_n _ _ _ (by decide), st2_n _ _ _ (by decide), st2_n _ _ _ (by decide), eE 44 (by decide), List.length_append]
  have w : ∀ k, k ≠ 257 → k ≠ 259 → k ≠ 260 → st2 V1 260 nr (val (p + 1)).toInt32 k = V k := fun k a1 a2 a3 => by
    rw [st2_n _ _ _ a3, hV1, up2_n _ _ a1, st2_n _ _ _ a2]
  have w257 : st2 V1 260 nr (val (p + 1)).toInt32 257 0 = nI (nr + 1) := by rw [st2_n _ _ _ (by decide)]; exact v257
  have w259 : st2 V1 260 nr (val (p + 1)).toInt32 259 = upd (V 259) nr 17 := by rw [st2_n _ _ _ (by decide), hV1, up2_n _ _ (by decide), s2u]
  have w260 : st2 V1 260 nr (val (p + 1)).toInt32 260 = upd (V 260) nr (val (p + 1)).toInt32 := by rw [s2u, hV1, up2_n _ _ (by decide), st2_n _ _ _ (by decide)]
  obtain ⟨d, hd⟩ : ∃ d, p1 = p + d := ⟨p1 - p, by omega⟩
  have hPX : PXN val (N' 227) p1 np G L (st2 V1 260 nr (val (p + 1)).toInt32) := by
    rw [hd]
    refine hP.keep (by rw [← hd]; exact hno) (fun k a1 a2 => ?_) (fun k a1 => w k (by omega) (by omega) (by omega))
    rw [gE k (by omega) (by omega) (by omega) (by omega) (by omega)]
    exact eE k (by omega)
  have emin : min nr 16 = nr := Nat.min_eq_left (by omega)
  rw [emin] at p261 p262
  have hOX : ORX val (N' 227) G (st2 V1 260 nr (val (p + 1)).toInt32) P' (its ++ b) (nr + 1) := by
    refine hO'.add hlt g40 w257 (by rw [← List.length_append]; omega) (fun j hj => ?_) (fun j hj => ?_) gnm (by decide : ((48 : Int32) = 48 ∧ (17 : Int32) = 17) ∨ ((48 : Int32) = 49 ∧ (17 : Int32) = 18)) g41 w259 g42 w260 g43 g44 p261 p262 ?_
    · rw [gE 46 (by decide) (by decide) (by decide) (by decide) (by decide), gE 47 (by decide) (by decide) (by decide) (by decide) (by decide), hx 46 (by decide), hx 47 (by decide)]
      obtain ⟨y1, y2⟩ := c46.2.2 j hj
      rw [y1, y2, f2 46 (by decide) (by decide) (by decide), f2 47 (by decide) (by decide) (by decide)]
      exact ⟨rfl, rfl⟩
    · rw [gE 46 (by decide) (by decide) (by decide) (by decide) (by decide), gE 47 (by decide) (by decide) (by decide) (by decide) (by decide), hx 46 (by decide), hx 47 (by decide)]
      obtain ⟨y1, y2⟩ := c46.2.1 j hj
      rw [y1, y2, eF2, gop _ (List.getElem_mem hj)]
      exact ⟨rfl, rfl⟩
    · have := G3 []
      exact this
  refine Or.inl ⟨p1, G, L, N', P', its ++ b, nr + 1, by omega, mk G (gE 66 (by decide) (by decide) (by decide) (by decide) (by decide)) (gE 74 (by decide) (by decide) (by decide) (by decide) (by decide)) (gE 45 (by decide) (by decide) (by decide) (by decide) (by decide)) (Or.inr ⟨_, np, S4, ?_, hPX, hOX⟩), fun k hk => ?_, fun _ _ => rfl, hNf, hPf, fun K hk => kc K (fun z => absurd E67 z) (fun _ => hadd K hk), kr⟩
  · rw [gE 67 (by decide) (by decide) (by decide) (by decide) (by decide)]
    exact E67
  · rw [gE k (by omega) (by omega) (by omega) (by omega) (by omega)]
    exact eE k (Or.inr hk)
theorem ln_ord_REST (hK : KIN κ m) (hNum : NUM κ m val N0) (hSid : SID κ m val) {F : M2} {L : L2} {N P : M2} {p nr : Nat} {its : List IT} (hB : BND κ m val N0 V0 F L N P p its nr) (h0 : ck (κ p) = 49) : OUTG κ m val N0 V0 (fun F L K => wp_X2_orderLine_REST_HEAD F L 49 K) (fun N P K => wp_X8_isOrderLine N P K) p F L N P := by
  have hm := hK.1
  obtain ⟨h1, h2, h3, h4, h5, h6, h7, h9, h8⟩ := hB
  have hpm := h1.2.1
  rcases sy_ord_REST hK hNum hSid h1 h2 h7.1 (by omega) h0 with ⟨p1, b, N3, hp1, c1, hG, z3, kc, kr⟩ | hf
  rotate_left
  · exact Or.inr hf
  obtain ⟨G1, G2, G3, G4, G5⟩ := hG
  have hGI : GI κ m (p + 3) p1 [] [true] b := ⟨G1, G2, G3, G4, G5⟩
  have e227 : N3 227 = upd (upd (N 227) p 6) (p + 1) 19 := z3.2.1
  obtain ⟨N', hN'⟩ : ∃ N', N' = rT p1 (rR b N3) := ⟨_, rfl⟩
  have n227 : N' 227 = rR b N3 227 := by rw [hN']; exact up2_n _ _ (by decide)
  have nb : ∀ i, i < p + 3 → ¬ i ∈ nms b := fun i hi z => by have := (G4.mem z).1; omega
  have r0 : N' 227 p = 6 := by rw [n227, rR_o _ _ (nb p (by omega)), e227, upd_n _ _ (by omega), upd_s]
  have r1 : N' 227 (p + 1) = 19 := by rw [n227, rR_o _ _ (nb (p + 1) (by omega)), e227, upd_s]
  have rz : ∀ i, p + 2 ≤ i → i ≤ m → ¬ i ∈ nms b → N' 227 i = 0 := fun i hi hi2 hn => by
    rw [n227, rR_o _ _ hn, e227, upd_n _ _ (by omega), upd_n _ _ (by omega)]
    exact h3 i (by omega) hi2
  have rq : ∀ q ∈ b, isNm q.1 → N' 227 q.2 = roleN q.1 := fun q hq hn => by
    rw [n227]
    exact rR_m b N3 G4 q hq hn
  have hr : ∀ k, k < p → N 227 k = N' 227 k := fun k hk => by
    rw [n227, rR_o _ _ (nb k (by omega)), e227, upd_n _ _ (by omega), upd_n _ _ (by omega)]
  have hno : ∀ as : Int32, (as = 1 ∨ as = 2 ∨ as = 3 ∨ as = 4) → ∀ i, p ≤ i → i < p1 → ¬ N' 227 i = as := fun as ha i hi1 hi2 z => by
    have key : ∀ x : Int32, (x = 6 ∨ x = 19 ∨ x = 0 ∨ x = 20 ∨ x = 21) → ¬ x = as := fun x hx y => by
      rcases ha with a | a | a | a <;> rcases hx with c | c | c | c | c <;> rw [c, a] at y <;> exact absurd y (by decide)
    refine key (N' 227 i) ?_ z
    by_cases e0 : i = p
    · rw [e0]; exact Or.inl r0
    by_cases e1 : i = p + 1
    · rw [e1]; exact Or.inr (Or.inl r1)
    by_cases e2 : i ∈ nms b
    · obtain ⟨q, hq, eq⟩ := List.mem_map.mp e2
      have hq := List.mem_filter.mp hq
      have hqn : isNm q.1 := of_decide_eq_true hq.2
      have := rq q hq.1 hqn
      rw [eq] at this
      rw [this]
      unfold roleN
      split
      · exact Or.inr (Or.inr (Or.inr (Or.inl rfl)))
      · exact Or.inr (Or.inr (Or.inr (Or.inr rfl)))
    · exact Or.inr (Or.inr (Or.inl (rz i (by omega) (by omega) e2)))
  have hW : WFR κ (N' 227) p1 := fun t ht => by
    by_cases e : t < p
    · exact (h9 t e).cong (fun k hk => hr k (by omega))
    by_cases e0 : t = p
    · rw [e0]
      unfold LOC
      rw [r0]
      exact ⟨Or.inl (by decide), by show 0 ≤ p; omega, by show N' 227 (p - 0) = _; rw [Nat.sub_zero, r0]; decide, by decide⟩
    by_cases e1 : t = p + 1
    · rw [e1]
      unfold LOC
      rw [r1]
      exact ⟨Or.inr ((ck_2 (hK.2.1 _ (by omega))).mp c1), by show 1 ≤ p + 1; omega, by show N' 227 (p + 1 - 1) = _; rw [show p + 1 - 1 = p by omega, r0]; decide, by decide⟩
    by_cases e2 : t ∈ nms b
    · obtain ⟨q, hq, eq⟩ := List.mem_map.mp e2
      have hq := List.mem_filter.mp hq
      have hqn : isNm q.1 := of_decide_eq_true hq.2
      have h27 := rq q hq.1 hqn
      have hk := (G5 q hq.1).1 hqn
      rw [eq] at h27 hk
      unfold roleN at h27
      unfold LOC
      split at h27
      · rw [h27]
        exact ⟨Or.inr hk, by show 0 ≤ t; omega, by show N' 227 (t - 0) = _; rw [Nat.sub_zero, h27]; decide, by decide⟩
      · rw [h27]
        exact ⟨Or.inr hk, by show 0 ≤ t; omega, by show N' 227 (t - 0) = _; rw [Nat.sub_zero, h27]; decide, by decide⟩
    · exact LOC.zero (rz t (by omega) (by omega) e2)
  -- the plan
  obtain ⟨P', hP'⟩ : ∃ P', P' = PZ nr (rE val b (PA nr P)) := ⟨_, rfl⟩
  have hl1 := lenR_le its
  have hl2 := lenR_le b
  have pa : ∀ k, k ≠ 258 → k ≠ 261 → PA nr P k = P k := fun k a1 a2 => by
    unfold PA
    rw [up2_n _ _ a2, up2_n _ _ a1]
  have hPA : COD val (PA nr P) its := by
    unfold COD
    rw [pa 264 (by decide) (by decide), pa 263 (by decide) (by decide), pa 266 (by decide) (by decide), pa 265 (by decide) (by decide)]
    exact h5
  have hPE := hPA.app (b := b) (by omega)
  have pz : ∀ k, k ≠ 262 → P' k = rE val b (PA nr P) k := fun k a1 => by
    rw [hP']
    exact up2_n _ _ a1
  have hCOD : COD val P' (its ++ b) := by
    unfold COD
    rw [pz 264 (by decide), pz 263 (by decide), pz 266 (by decide), pz 265 (by decide)]
    exact hPE
  have p258 : P' 258 0 = nI (nr + 1) := by
    rw [pz 258 (by decide), rE_n (Or.inl (by decide))]
    unfold PA
    rw [up2_n _ _ (by decide), up2_s]
  have p261 : P' 261 = upd (P 261) (min nr 16) (nI (lenR its)) := by
    rw [pz 261 (by decide), rE_n (Or.inl (by decide))]
    unfold PA
    rw [up2_s, h5.1]
  have p262 : P' 262 = upd (P 262) (min nr 16) (nI (lenR its + lenR b)) := by
    rw [hP']
    unfold PZ
    rw [up2_s, hPE.1, rE_n (Or.inl (by decide)), pa 262 (by decide) (by decide), lenR_append]
  have hPf : ∀ k, (k < 258 ∨ k = 259 ∨ k = 260 ∨ 266 < k) → P' k = P k := fun k hk => by
    rw [pz k (by omega), rE_n (by omega), pa k (by omega) (by omega)]
  have hNf : ∀ k, (k ≤ 226 ∨ 230 < k) → N' k = N k := fun k hk => by
    rw [hN']
    unfold rT
    rw [up2_n _ _ (by omega), rR_n (by omega)]
    exact z3.2.2 k hk
  have hSN : SN κ m N0 N' P' p1 0 := by
    rw [hN']
    exact (z3.1.to hGI).rows (pz 264 (by decide)) (pz 266 (by decide))
  have hROK : ROK m N' p1 := fun k hk hk2 => rz k (by omega) hk2 (fun z => by have := (G4.mem z).2; omega)
  have hITS : ITS κ (N' 227) p1 (its ++ b) := by
    obtain ⟨i1, i2, i3⟩ := h6.cong (p' := p1) hr (by omega)
    refine ⟨?_, fun q hq => ?_, fun q hq hn => ?_⟩
    · rw [nms_append]
      exact h6.1.app (G4.low (by omega))
    · rcases List.mem_append.mp hq with y | y
      · exact i2 q y
      · exact G5 q y
    · rcases List.mem_append.mp hq with y | y
      · exact i3 q y hn
      · exact ⟨rq q y hn, (G4.mem (mem_nms y hn)).2⟩
  -- the class's state behind the test
  obtain ⟨E, hE⟩ : ∃ E, E = cT p1 (cE val L b (knC (idx (L 63) (F 23 0) 6 (val (p + 1))) (p + 1) (cT (p + 3) (odC p F)))) := ⟨_, rfl⟩
  have f2 : ∀ k, k ≠ 66 → k ≠ 67 → k ≠ 68 → (knC (idx (L 63) (F 23 0) 6 (val (p + 1))) (p + 1) (cT (p + 3) (odC p F))) k = F k := fun k a1 a2 a3 => by
    rw [knC_n a2 a3]; unfold cT; rw [up2_n _ _ a1, odC_n a2 a3]
  have eE : ∀ k, (k ≤ 44 ∨ 68 < k) → E k = F k := fun k hk => by
    rw [hE]
    unfold cT
    rw [up2_n _ _ (by omega), cE_n val L (by omega)]
    exact f2 k (by omega) (by omega) (by omega)
  have c46 := cE_46 (val := val) (L := L) b (knC (idx (L 63) (F 23 0) 6 (val (p + 1))) (p + 1) (cT (p + 3) (odC p F))) its.length (by rw [f2 45 (by decide) (by decide) (by decide)]; exact h4.1) (by omega)
  have hx : ∀ k, k ≠ 66 → E k = cE val L b (knC (idx (L 63) (F 23 0) 6 (val (p + 1))) (p + 1) (cT (p + 3) (odC p F))) k := fun k hk => by
    rw [hE]
    exact up2_n _ _ hk
  have e45 : E 45 0 = nI (its ++ b).length := by
    rw [hx 45 (by decide), c46.1, List.length_append]
  have e66 : E 66 = cT p1 F 66 := by
    rw [hE]
    unfold cT
    rw [up2_s, up2_s]
  rw [← hE] at kc
  rw [← hN', ← hP'] at kr
  have hlen : (its ++ b).length ≤ p1 := by rw [List.length_append]; omega
  have mk : ∀ (F' : M2), F' 66 = E 66 → F' 74 = E 74 → F' 45 = E 45 → ((∃ e k, k < p1 ∧ SER κ val V0 (N' 227) p1 e k ∧ CER F' e k) ∨ (∃ V np, SOK κ val V0 (N' 227) p1 V ∧ F' 67 0 = 0 ∧ PXN val (N' 227) p1 np F' L V ∧ ORX val (N' 227) F' V P' (its ++ b) (nr + 1))) → BND κ m val N0 V0 F' L N' P' p1 (its ++ b) (nr + 1) := fun F' g66 g74 g45 g =>
    ⟨(h1.adv G2).rows (by rw [g66]; exact e66) (by rw [g74, eE 74 (Or.inr (by decide))]; exact (up2_n _ _ (by decide)).symm) rfl, hSN, hROK, ⟨by rw [g45]; exact e45, hlen⟩, hCOD, hITS, ⟨p258, by omega⟩, hW, g⟩
  -- an error anywhere
  have bad : ∀ e k, k < p1 → SER κ val V0 (N' 227) p1 e k → CER E e k → OUTG κ m val N0 V0 (fun F L K => wp_X2_orderLine_REST_HEAD F L 49 K) (fun N P K => wp_X8_isOrderLine N P K) p F L N P := fun e k hk hS hC =>
    Or.inl ⟨p1, E, L, N', P', its ++ b, nr + 1, by omega, mk E rfl rfl rfl (Or.inl ⟨e, k, hk, hS, hC⟩), fun k hk => eE k (Or.inr hk), fun _ _ => rfl, hNf, hPf, fun K hk => kc K (fun _ => hk) (fun z => absurd (hC.1.symm.trans z) hC.2.1), kr⟩
  have toE : ∀ {e : Int32} {k : Nat}, CER (knC (idx (L 63) (F 23 0) 6 (val (p + 1))) (p + 1) (cT (p + 3) (odC p F))) e k → CER E e k := fun h => by
    rw [hE]
    exact (h.its b).cT
  rcases h8 with ⟨e, k, hk, hS, hC⟩ | ⟨V, np, hS, hF67, hP, hO⟩
  · refine bad e k (by omega) ?_ (toE ?_)
    · have := (hS.cong hr).add (p1 - p)
      rw [show p + (p1 - p) = p1 by omega] at this
      exact this
    · rw [odC_off hC, knC_off hC.cT]
      exact hC.cT
  have hP := hP.cong hr
  have hO' : ORX val (N' 227) F V P its nr := hO.keep (fun q hq hn => (h6.2.2 q hq hn).2) hr (fun _ _ => rfl) ⟨rfl, rfl, rfl⟩ ⟨rfl, rfl⟩
  obtain ⟨o1, o2, o3, o4, o5, o6, o7⟩ := hO
  have S0 : SOK κ val V0 (N' 227) p V := hS.cong hr
  have E5 := erF_6 (κ := κ) (val := val) (V := V) r0
  by_cases hfull : nr = 16
  · have e16 : V 257 0 = 16 := by rw [o2, hfull]; rfl
    rw [if_pos e16] at E5
    have hC : CER (odC p F) 4 p := by
      unfold odC
      rw [if_neg (by rw [o1, hfull]; decide)]
      exact tf_on hF67 (by decide)
    refine bad 4 p (by omega) ?_ (toE ?_)
    · have := (S0.err E5 (by decide)).add (p1 - (p + 1))
      rw [show p + 1 + (p1 - (p + 1)) = p1 by omega] at this
      exact this
    · rw [knC_off hC.cT]; exact hC.cT
  have hlt : nr < 16 := by omega
  have ne16 : ¬ V 257 0 = 16 := by rw [o2]; exact nI_ne (b := 16) (by omega) (by omega) hfull
  rw [if_neg ne16] at E5
  have eod : odC p F = F := if_pos (by rw [o1]; exact (lt_nI (b := 16) (by omega) (by omega)).mpr hlt)
  have S1 := S0.step E5
  have eV1 : ordF V 18 = up2 (st2 V 259 nr 18) 257 (fun _ => nI (nr + 1)) := by
    unfold ordF
    rw [o2, tn_nI (by omega), nI_1]
  rw [eV1] at S1
  obtain ⟨V1, hV1⟩ : ∃ V1, V1 = up2 (st2 V 259 nr 18) 257 (fun _ => nI (nr + 1)) := ⟨_, rfl⟩
  rw [← hV1] at S1
  have v257 : V1 257 0 = nI (nr + 1) := by rw [hV1, up2_s]
  have hli : lastI V1 257 = nr := lastI_nI v257 (by omega)
  have hF0 : cT (p + 3) F 67 0 = 0 := hF67
  have hq3 := hP.2.2.1
  have hq4 := hP.2.2.2.1
  have tl3 : ∀ t, p ≤ t → t < p1 → idx (L 63) (F 23 0) 6 (val t) = tld val (N' 227) 3 t t := fun t ht1 ht2 => by
    rw [hq3.1, idx_tld hq3.2.2.2 hq3.2.2.1 (by decide)]
    have := tld_at (val := val) (ρ := N' 227) (as := 3) (p := p) (d := t - p) (fun i h1 h2 => hno 3 (by decide) i h1 (by omega)) t
    rw [show p + (t - p) = t by omega] at this
    exact this.symm
  have tl4 : ∀ t, p ≤ t → t < p1 → idx (L 64) (F 24 0) 8 (val t) = tld val (N' 227) 4 t t := fun t ht1 ht2 => by
    rw [hq4.1, idx_tld hq4.2.2.2 hq4.2.2.1 (by decide)]
    have := tld_at (val := val) (ρ := N' 227) (as := 4) (p := p) (d := t - p) (fun i h1 h2 => hno 4 (by decide) i h1 (by omega)) t
    rw [show p + (t - p) = t by omega] at this
    exact this.symm
  have E19 := erF_19 (κ := κ) (val := val) (V := V1) r1
  rw [hli] at E19
  have eT : idx (L 63) (F 23 0) 6 (val (p + 1)) = tld val (N' 227) 3 (p + 1) (p + 1) := tl3 (p + 1) (by omega) (by omega)
  rcases chk_kn (F := cT (p + 3) F) S1 E19 hF0 with ⟨e, hS, hC⟩ | ⟨hne, S2, hkn⟩
  · refine bad e (p + 1) (by omega) ?_ (toE ?_)
    · have := hS.add (p1 - (p + 1 + 1))
      rw [show p + 1 + 1 + (p1 - (p + 1 + 1)) = p1 by omega] at this
      exact this
    · rw [eod, eT]
      exact hC
  have eF2 : (knC (idx (L 63) (F 23 0) 6 (val (p + 1))) (p + 1) (cT (p + 3) (odC p F))) = cT (p + 3) F := by rw [eod, eT]; exact hkn
  have S3 := S2.step0 (rz (p + 2) (by omega) (by omega) (nb _ (by omega)))
  rcases it_sem (V0 := V0) (κ := κ) (L := L) (nl := F 23 0) (nb := F 24 0) (a0 := p) (p1 := p1) tl3 tl4 b (p + 2 + 1) (cT (p + 3) F) (st2 V1 260 nr (tld val (N' 227) 3 (p + 1) (p + 1))) (by omega) G4 (fun i a1 a2 a3 => rz i (by omega) (by omega) a3) rq rfl rfl hF0 S3 with ⟨e, k, hk, hS, hC⟩ | ⟨S4, g67, gnm, gop⟩
  · exact bad e k hk hS (by rw [hE, eF2]; exact hC.cT)
  rw [← eF2] at g67
  have E67 : E 67 0 = 0 := by rw [hx 67 (by decide)]; exact g67
  -- the order is laid
  have hadd : ∀ K : Int32 → M2 → L2 → Prop, K 1 (up2 (st2 (st2 (st2 (st2 E 41 nr 49) 42 nr (idx (L 63) (F 23 0) 6 (val (p + 1)))) 43 nr (F 45 0)) 44 nr (nI (its ++ b).length)) 40 (fun _ => nI (nr + 1))) L → wp_X0_add E L 49 (idx (L 63) (F 23 0) 6 (val (p + 1))) (F 45 0) (fun F L => K 1 F L) := fun K hk => c_addOrder hlt (by rw [eE 40 (by decide)]; exact o1) e45 hk
  rw [h4.1, tl3 (p + 1) (by omega) (by omega)] at hadd
  obtain ⟨G, hG⟩ : ∃ G, G = up2 (st2 (st2 (st2 (st2 E 41 nr 49) 42 nr (tld val (N' 227) 3 (p + 1) (p + 1))) 43 nr (nI its.length)) 44 nr (nI (its ++ b).length)) 40 (fun _ => nI (nr + 1)) := ⟨_, rfl⟩
  rw [← hG] at hadd
  rw [h4.1, tl3 (p + 1) (by omega) (by omega)] at kc
  have gE : ∀ k, k ≠ 40 → k ≠ 41 → k ≠ 42 → k ≠ 43 → k ≠ 44 → G k = E k := fun k a0 a1 a2 a3 a4 => by
    rw [hG, up2_n _ _ a0, st2_n _ _ _ a4, st2_n _ _ _ a3, st2_n _ _ _ a2, st2_n _ _ _ a1]
  have s2u : ∀ (M : M2) (k i : Nat) (x : Int32), st2 M k i x k = upd (M k) i x := fun M k i x => up2_s _ _ _
  have g40 : G 40 0 = nI (nr + 1) := by rw [hG, up2_s]
  have g41 : G 41 = upd (F 41) nr 49 := by rw [hG, up2_n _ _ (by decide), st2_n _ _ _ (by decide), st2_n _ _ _ (by decide), st2_n _ _ _ (by decide), s2u, eE 41 (by decide)]
  have g42 : G 42 = upd (F 42) nr (tld val (N' 227) 3 (p + 1) (p + 1)) := by rw [hG, up2_n _ _ (by decide), st2_n _ _ _ (by decide), st2_n _ _ _ (by decide), s2u, st2_n _ _ _ (by decide), eE 42 (by decide)]
  have g43 : G 43 = upd (F 43) nr (nI its.length) := by rw [hG, up2_n _ _ (by decide), st2_n _ _ _ (by decide), s2u, st2_n _ _ _ (by decide), st2_n _ _ _ (by decide), eE 43 (by decide)]
  have g44 : G 44 = upd (F 44) nr (nI (its.length + b.length)) := by rw [hG, up2_n _ _ (by decide), s2u, st2_n _ _ _ (by decide), st2_n _ _ _ (by decide), st2_n _ _ _ (by decide), eE 44 (by decide), List.length_append]
  have w : ∀ k, k ≠ 257 → k ≠ 259 → k ≠ 260 → st2 V1 260 nr (tld val (N' 227) 3 (p + 1) (p + 1)) k = V k := fun k a1 a2 a3 => by
    rw [st2_n _ _ _ a3, hV1, up2_n _ _ a1, st2_n _ _ _ a2]
  have w257 : st2 V1 260 nr (tld val (N' 227) 3 (p + 1) (p + 1)) 257 0 = nI (nr + 1) := by rw [st2_n _ _ _ (by decide)]; exact v257
  have w259 : st2 V1 260 nr (tld val (N' 227) 3 (p + 1) (p + 1)) 259 = upd (V 259) nr 18 := by rw [st2_n _ _ _ (by decide), hV1, up2_n _ _ (by decide), s2u]
  have w260 : st2 V1 260 nr (tld val (N' 227) 3 (p + 1) (p + 1)) 260 = upd (V 260) nr (tld val (N' 227) 3 (p + 1) (p + 1)) := by rw [s2u, hV1, up2_n _ _ (by decide), st2_n _ _ _ (by decide)]
  obtain ⟨d, hd⟩ : ∃ d, p1 = p + d := ⟨p1 - p, by omega⟩
  have hPX : PXN val (N' 227) p1 np G L (st2 V1 260 nr (tld val (N' 227) 3 (p + 1) (p + 1))) := by
    rw [hd]
    refine hP.keep (by rw [← hd]; exact hno) (fun k a1 a2 => ?_) (fun k a1 => w k (by omega) (by omega) (by omega))
    rw [gE k (by omega) (by omega) (by omega) (by omega) (by omega)]
    exact eE k (by omega)
  have emin : min nr 16 = nr := Nat.min_eq_left (by omega)
  rw [emin] at p261 p262
  have hOX : ORX val (N' 227) G (st2 V1 260 nr (tld val (N' 227) 3 (p + 1) (p + 1))) P' (its ++ b) (nr + 1) := by
    refine hO'.add hlt g40 w257 (by rw [← List.length_append]; omega) (fun j hj => ?_) (fun j hj => ?_) gnm (by decide : ((49 : Int32) = 48 ∧ (18 : Int32) = 17) ∨ ((49 : Int32) = 49 ∧ (18 : Int32) = 18)) g41 w259 g42 w260 g43 g44 p261 p262 ?_
    · rw [gE 46 (by decide) (by decide) (by decide) (by decide) (by decide), gE 47 (by decide) (by decide) (by decide) (by decide) (by decide), hx 46 (by decide), hx 47 (by decide)]
      obtain ⟨y1, y2⟩ := c46.2.2 j hj
      rw [y1, y2, f2 46 (by decide) (by decide) (by decide), f2 47 (by decide) (by decide) (by decide)]
      exact ⟨rfl, rfl⟩
    · rw [gE 46 (by decide) (by decide) (by decide) (by decide) (by decide), gE 47 (by decide) (by decide) (by decide) (by decide) (by decide), hx 46 (by decide), hx 47 (by decide)]
      obtain ⟨y1, y2⟩ := c46.2.1 j hj
      rw [y1, y2, eF2, gop _ (List.getElem_mem hj)]
      exact ⟨rfl, rfl⟩
    · have := G3 []
      exact this
  refine Or.inl ⟨p1, G, L, N', P', its ++ b, nr + 1, by omega, mk G (gE 66 (by decide) (by decide) (by decide) (by decide) (by decide)) (gE 74 (by decide) (by decide) (by decide) (by decide) (by decide)) (gE 45 (by decide) (by decide) (by decide) (by decide) (by decide)) (Or.inr ⟨_, np, S4, ?_, hPX, hOX⟩), fun k hk => ?_, fun _ _ => rfl, hNf, hPf, fun K hk => kc K (fun z => absurd E67 z) (fun _ => hadd K hk), kr⟩
  · rw [gE 67 (by decide) (by decide) (by decide) (by decide) (by decide)]
    exact E67
  · rw [gE k (by omega) (by omega) (by omega) (by omega) (by omega)]
    exact eE k (Or.inr hk)
end ORDERS
