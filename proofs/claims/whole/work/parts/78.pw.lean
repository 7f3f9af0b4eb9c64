/-! ===== single tests, values ===== -/
section GRAM3
variable {κ : Nat → Int32} {m : Nat} {val : Nat → Int64} {N0 : M2}
def cmpV (k : Int32) : Int32 := if k = 110 then 38 else if k = 112 then 39 else if k = 111 then 42 else if k = 300 then 43 else if k = 301 then 44 else -1
theorem r_cmp (hK : KIN κ m) {G : Nat → M2 → M2 → Int32 → Int32 → (Int32 → M2 → M2 → Prop) → Prop} {K : Int32 → M2 → M2 → Prop} {N P : M2} {p dp : Nat} (hs : SN κ m N0 N P p dp) (h : wj_X8_isSingle_206 G K N P (cmpV (κ p))) :
    wp_X8_isSign N P 60 (fun r_136 => ((r_136 = 0 → wp_X8_isSign N P 62 (fun r_150 => ((r_150 = 0 → wp_X8_isSign N P 61 (fun r_164 => ((r_164 = 0 → wp_X8_is N P 300 (fun r_179 => ((r_179 = 0 → wp_X8_is N P 301 (fun r_194 => ((r_194 = 0 → wj_X8_isSingle_206 G K N P ((-1))) ∧ (¬ r_194 = 0 → wj_X8_isSingle_206 G K N P 44)))) ∧ (¬ r_179 = 0 → wj_X8_isSingle_206 G K N P 43)))) ∧ (¬ r_164 = 0 → wj_X8_isSingle_206 G K N P 42)))) ∧ (¬ r_150 = 0 → wj_X8_isSingle_206 G K N P 39)))) ∧ (¬ r_136 = 0 → wj_X8_isSingle_206 G K N P 38))) := by
  unfold cmpV at h
  refine r_sign hs hK (y := 110) (by decide) (fun c => And.intro (fun z => absurd z (by decide)) (fun _ => ?_)) (fun c => And.intro (fun _ => ?_) (fun z => absurd rfl z))
  · rw [if_pos c] at h; exact h
  rw [if_neg c] at h
  refine r_sign hs hK (y := 112) (by decide) (fun c => And.intro (fun z => absurd z (by decide)) (fun _ => ?_)) (fun c => And.intro (fun _ => ?_) (fun z => absurd rfl z))
  · rw [if_pos c] at h; exact h
  rw [if_neg c] at h
  refine r_sign hs hK (y := 111) (by decide) (fun c => And.intro (fun z => absurd z (by decide)) (fun _ => ?_)) (fun c => And.intro (fun _ => ?_) (fun z => absurd rfl z))
  · rw [if_pos c] at h; exact h
  rw [if_neg c] at h
  refine r_is hs hK (fun c => And.intro (fun z => absurd z (by decide)) (fun _ => ?_)) (fun c => And.intro (fun _ => ?_) (fun z => absurd rfl z))
  · rw [if_pos c] at h; exact h
  rw [if_neg c] at h
  refine r_is hs hK (fun c => And.intro (fun z => absurd z (by decide)) (fun _ => ?_)) (fun c => And.intro (fun _ => ?_) (fun z => absurd rfl z))
  · rw [if_pos c] at h; exact h
  rw [if_neg c] at h
  exact h
/-- a comparison -/
theorem pz_cmp (hK : KIN κ m) {n : Nat} (hS : CLM κ m val N0 n 4 3 false 5) {dp d2 d8 : Nat} (hdp : dp ≤ 8) (hn : 5 + 9 * (8 - dp) ≤ n) (h2 : 5 + 9 * (8 - dp) ≤ d2) (h8 : 5 + 9 * (8 - dp) ≤ d8) {F : M2} {L : L2} {N P : M2} {p : Nat} (hc : SC κ m val F L p) (hs : SN κ m N0 N P p dp) :
    RES κ m val (fun F L K => wp_X2_comparison (gX2 d2) F L (nI dp) (fun r F L => (zb r ∧ K r F L))) (fun N P K => gX8 d8 3 N P 0 0 (fun r_125 N_125 P_125 => ((¬ r_125 = 0 → wp_X8_isSign N_125 P_125 60 (fun r_136 => ((r_136 = 0 → wp_X8_isSign N_125 P_125 62 (fun r_150 => ((r_150 = 0 → wp_X8_isSign N_125 P_125 61 (fun r_164 => ((r_164 = 0 → wp_X8_is N_125 P_125 300 (fun r_179 => ((r_179 = 0 → wp_X8_is N_125 P_125 301 (fun r_194 => ((r_194 = 0 → wj_X8_isSingle_206 (gX8 d8) K N_125 P_125 ((-1))) ∧ (¬ r_194 = 0 → wj_X8_isSingle_206 (gX8 d8) K N_125 P_125 44)))) ∧ (¬ r_179 = 0 → wj_X8_isSingle_206 (gX8 d8) K N_125 P_125 43)))) ∧ (¬ r_164 = 0 → wj_X8_isSingle_206 (gX8 d8) K N_125 P_125 42)))) ∧ (¬ r_150 = 0 → wj_X8_isSingle_206 (gX8 d8) K N_125 P_125 39)))) ∧ (¬ r_136 = 0 → wj_X8_isSingle_206 (gX8 d8) K N_125 P_125 38)))) ∧ (r_125 = 0 → K 0 N_125 P_125)))) [] [true] p F L N P := by
  have hm := hK.1
  rcases hS dp p d2 d8 hdp hn h2 h8 F L N P hc hs with ⟨p1, i1, hlt, hG, k2, k8⟩ | ⟨p', F', N', P', hp', fc, fn, k2, k8⟩
  rotate_left
  · exact Or.inr ⟨p', F', N', P', hp', fc, fn, fun K hk => k2 _ (And.intro (fun z => absurd rfl z) (fun _ => ⟨by decide, hk⟩)), fun K hk => k8 _ (And.intro (fun z => absurd rfl z) (fun _ => hk))⟩
  have hc1 := hc.to (q := p1) hG.2.1 i1
  have hs1 := hs.to (val := val) hG
  have hv := hK.2.1 p1 hG.2.1
  by_cases hcm : κ p1 = 110 ∨ κ p1 = 112 ∨ κ p1 = 111 ∨ κ p1 = 300 ∨ κ p1 = 301
  rotate_left
  · -- no sign of a comparison
    have hno : ¬ (¬ ck (κ p1) < 19 ∧ ck (κ p1) ≤ 23) := fun z => hcm ((ck_cmp hv).mp z)
    have ecm : cmpV (κ p1) = -1 := by
      unfold cmpV
      rw [if_neg (fun z => hcm (Or.inl z)), if_neg (fun z => hcm (Or.inr (Or.inl z))), if_neg (fun z => hcm (Or.inr (Or.inr (Or.inl z)))), if_neg (fun z => hcm (Or.inr (Or.inr (Or.inr (Or.inl z))))), if_neg (fun z => hcm (Or.inr (Or.inr (Or.inr (Or.inr z)))))]
    refine Or.inr ⟨p1, cT p1 (cE val L i1 F), rT p1 (rR i1 N), rE val i1 P, hG.2.1, FC.to, FN.to, fun K hk => k2 _ (And.intro (fun _ => c_peek hc1 hK (And.intro (fun _ => ⟨by decide, hk⟩) (fun c => And.intro (fun c2 => absurd ⟨c, c2⟩ hno) (fun _ => ⟨by decide, hk⟩)))) (fun z => absurd z (by decide))), fun K hk => k8 _ (And.intro (fun _ => r_cmp hK hs1 ?_) (fun z => absurd z (by decide)))⟩
    rw [ecm]
    exact And.intro (fun z => absurd rfl z) (fun _ => hk)
  have hp1 : p1 < m := by
    rcases hcm with z | z | z | z | z <;> exact hK.lt hG.2.1 z (by decide)
  have hyes := (ck_cmp hv).mpr hcm
  have hop : encV (ck (κ p1)) = cmpV (κ p1) ∧ ¬ cmpV (κ p1) = -1 ∧ ¬ isNm (ck (κ p1)) ∧ ck (κ p1) ≠ 4 ∧ ck (κ p1) ≠ 7 ∧ ∀ ts, tcO1 (ck (κ p1)) (false :: false :: ts) = some (true :: ts) := by
    rcases hcm with z | z | z | z | z <;> rw [z] <;> exact ⟨by decide, by decide, by decide, by decide, by decide, fun _ => rfl⟩
  obtain ⟨hx, hne, hnm, h4, h7, htc⟩ := hop
  have hc2 := hc1.adv (q := p1 + 1) (by omega)
  have hs2 := hs1.adv (q := p1 + 1) (by omega) (by omega)
  rcases hS dp (p1 + 1) d2 d8 hdp hn h2 h8 _ L _ _ hc2 hs2 with ⟨p3, i3, hlt3, hG3, l2, l8⟩ | ⟨p', F', N', P', hp', fc, fn, l2, l8⟩
  · have hGa : GI κ m p p3 [] [true] ((i1 ++ i3) ++ [(ck (κ p1), 0)]) := by
      have hb : GI κ m p (p1 + 1) [] [false] i1 := hG.behind hp1
      have hb2 : GI κ m p p3 [] [false, false] (i1 ++ i3) := hb.app (hG3.under [false])
      obtain ⟨x1, x2, x3, x4, x5⟩ := hb2
      have hb1 := hG.1
      have hb3 := hG3.1
      refine ⟨by simp only [List.length_append, List.length_cons, List.length_nil]; omega, x2, fun ts => ?_, ?_, fun q hq => ?_⟩
      · rw [tcO_append, x3]
        show (tcO1 (ck (κ p1)) (false :: false :: ts)).bind (tcO []) = _
        rw [htc]
        rfl
      · rw [nms_append]
        have : nms [(ck (κ p1), 0)] = [] := by simp only [nms, List.filter_cons, decide_eq_false hnm]; rfl
        rw [this, List.append_nil]
        exact x4
      · rcases List.mem_append.mp hq with h | h
        · exact x5 q h
        · rw [List.mem_singleton.mp h]
          exact ⟨fun z => absurd z hnm, fun z => absurd z h4, fun z => absurd z h7⟩
    refine Or.inl ⟨p3, (i1 ++ i3) ++ [(ck (κ p1), 0)], by omega, hGa, fun K hk => k2 _ (And.intro (fun _ => c_peek hc1 hK (And.intro (fun c => absurd c hyes.1) (fun _ => And.intro (fun _ F1 e1 => ?_) (fun c => absurd hyes.2 c)))) (fun z => absurd z (by decide))), fun K hk => k8 _ (And.intro (fun _ => r_cmp hK hs1 (And.intro (fun _ N1 e1 => ?_) (fun z => absurd z hne))) (fun z => absurd z (by decide)))⟩
    · rw [hc1.inc] at e1
      subst e1
      refine l2 _ (And.intro (fun z => absurd z (by decide)) (fun _ => c_op (val := val) hnm h4 h7 (And.intro (fun z => absurd z (by decide)) (fun _ => ⟨by decide, ?_⟩))))
      rw [c_chain1, c_chain, c_one]
      exact hk
    · rw [hs1.inc] at e1
      subst e1
      refine l8 _ (And.intro (fun _ => ?_) (fun z => absurd z (by decide)))
      obtain ⟨cc, g6, g7⟩ := room800 (val := val) (dp' := 0) hs (hG.app (hG3.skip.under [false])) hK.1 (by have := hG.1; have := hG3.1; simp only [List.length_append]; omega)
      rw [rE_app] at g6
      refine r_put g6 (by omega) ?_
      rw [r_chain1, r_chain]
      have e3 : pt (rE val i3 (rE val i1 P)) (cmpV (κ p1)) = rE val ((i1 ++ i3) ++ [(ck (κ p1), 0)]) P := by
        rw [← rE_app, ← r_one]
        unfold rE1
        dsimp only
        rw [if_neg (fun z => z.elim h4 h7), if_neg hnm, hx]
      rw [e3, ← rR_op (op := ck (κ p1)) hnm]
      exact hk
  · refine Or.inr ⟨p', F', N', P', hp', (FC.to.trans FC.adv).trans fc, (FN.to.trans FN.adv).trans fn, fun K hk => k2 _ (And.intro (fun _ => c_peek hc1 hK (And.intro (fun c => absurd c hyes.1) (fun _ => And.intro (fun _ F1 e1 => ?_) (fun c => absurd hyes.2 c)))) (fun z => absurd z (by decide))), fun K hk => k8 _ (And.intro (fun _ => r_cmp hK hs1 (And.intro (fun _ N1 e1 => ?_) (fun z => absurd z hne))) (fun z => absurd z (by decide)))⟩
    · rw [hc1.inc] at e1
      subst e1
      exact l2 _ (And.intro (fun _ => ⟨by decide, hk⟩) (fun z => absurd rfl z))
    · rw [hs1.inc] at e1
      subst e1
      exact l8 _ (And.intro (fun z => absurd rfl z) (fun _ => hk))
theorem pz_single (hK : KIN κ m) {n : Nat} (IH : ALLn κ m val N0 n) : CLM κ m val N0 (n + 1) 2 2 true 7 := by
  intro dp p d2 d8 hdp hn h2 h8 F L N P hc hs
  have hm := hK.1
  have hpm := hc.2.1
  have hv := hK.2.1 p hpm
  obtain ⟨d2, rfl⟩ := ge1 (show 0 + 1 ≤ d2 by omega)
  obtain ⟨d8, rfl⟩ := ge1 (show 0 + 1 ≤ d8 by omega)
  have A2 : ∀ K, wp_X2_single (gX2 d2) F L (nI dp) K → gX2 (d2 + 1) 2 F L (nI dp) K := fun K h => by
    rw [gX2_2]
    exact h
  have A8 : ∀ K, wp_X8_isSingle (gX8 d8) N P K → gX8 (d8 + 1) 2 N P 0 0 K := fun K h => by
    rw [gX8_2]
    exact h
  by_cases h28 : κ p = 28
  · have hck : ck (κ p) = 13 := (ck_13 hv).mpr h28
    have hp1 := hK.lt hpm h28 (by decide)
    have B2 : ∀ K, (dp < 8 → gX2 d2 2 (cT (p + 1) F) L (nI (dp + 1)) (fun r_62 F_62 L_62 => ((r_62 = 0 → K 0 F_62 L_62) ∧ (¬ r_62 = 0 → wp_X2_emit F_62 L_62 13 0 (fun r_72 F_72 L_72 => ((r_72 = 0 → K 0 F_72 L_72) ∧ (¬ r_72 = 0 → K 1 F_72 L_72))))))) → (dp = 8 → K 0 F L) → gX2 (d2 + 1) 2 F L (nI dp) K := fun K h1 h0 => A2 K (c_peek hc hK (by
      rw [hck]
      exact ⟨fun z => absurd z (by decide), fun z => absurd z (by decide), fun _ => c_deeper hc hK hdp hck (fun hd => And.intro (fun z => absurd z (by decide)) (fun _ => by rw [nI_1]; exact h1 hd)) (fun hd => And.intro (fun _ => h0 hd) (fun z => absurd rfl z)), fun z => absurd z (by decide), fun z10 z11 z13 z30 => absurd rfl z13⟩))
    have B8 : ∀ K, (dp < 8 → gX8 d8 2 (rT (p + 1) (up2 N 230 (fun _ => nI (dp + 1)))) P 0 0 (fun r_17 N_17 P_17 => ((¬ r_17 = 0 → (∀ N_32 : M2, N_32 = up2 N_17 230 (fun _ => (N_17 230 0) - 1) → wp_X8_put N_32 P_17 28 (fun N_38 P_38 => K 1 N_38 P_38))) ∧ (r_17 = 0 → K 0 N_17 P_17)))) → (dp = 8 → K 0 N P) → gX8 (d8 + 1) 2 N P 0 0 K := fun K h1 h0 => A8 K (r_is hs hK (fun _ => And.intro (fun z => absurd z (by decide)) (fun _ => r_deeper hs hdp (fun hd => And.intro (fun z => absurd z (by decide)) (fun _ => h1 hd)) (fun hd => And.intro (fun _ => h0 hd) (fun z => absurd rfl z)))) (fun z => absurd h28 z))
    by_cases hd : dp = 8
    · exact Or.inr ⟨p, F, N, P, hpm, FC.self hc, FN.self hs, fun K hk => B2 K (fun z => absurd z (by omega)) (fun _ => hk), fun K hk => B8 K (fun z => absurd z (by omega)) (fun _ => hk)⟩
    have hc1 := hc.adv (q := p + 1) (by omega)
    have hs1 := hs.deep (by omega : p + 1 ≤ m) (d' := dp + 1)
    rcases IH.2.2.1 (dp + 1) (p + 1) d2 d8 (by omega) (by omega) (by omega) (by omega) _ L _ P hc1 hs1 with ⟨p1, i1, hlt, hG, k2, k8⟩ | ⟨p', F', N', P', hp', fc, fn, k2, k8⟩
    · refine Or.inl ⟨p1, i1 ++ [(13, 0)], by omega, hG.op (by decide) (by decide) (by decide) (fun _ => rfl), fun K hk => B2 K (fun _ => k2 _ (And.intro (fun z => absurd z (by decide)) (fun _ => c_op (val := val) (by decide) (by decide) (by decide) (And.intro (fun z => absurd z (by decide)) (fun _ => ?_))))) (fun z => absurd z hd), fun K hk => B8 K (fun _ => k8 _ (And.intro (fun _ N1 e1 => ?_) (fun z => absurd z (by decide)))) (fun z => absurd z hd)⟩
      · rw [c_chain1, c_one]
        exact hk
      · rw [up_back hs (d' := 0)] at e1
        subst e1
        obtain ⟨cc, g6, g7⟩ := room800 (val := val) (dp' := 0) hs hG.skip hK.1 (by have := hG.1; omega)
        refine r_put g6 (by omega) ?_
        have e3 : pt (rE val i1 P) 28 = rE val (i1 ++ [(13, 0)]) P := by
          rw [← r_one]
          rfl
        rw [e3, ← rR_op (op := 13) (by decide)]
        exact hk
    · exact Or.inr ⟨p', F', N', P', hp', FC.adv.trans fc, FN.deep.trans fn, fun K hk => B2 K (fun _ => k2 _ (And.intro (fun _ => hk) (fun z => absurd rfl z))) (fun z => absurd z hd), fun K hk => B8 K (fun _ => k8 _ (And.intro (fun z => absurd rfl z) (fun _ => hk))) (fun z => absurd z hd)⟩
  have n28 : ¬ κ p = 28 := h28
  by_cases h141 : κ p = 141
  · have hck : ck (κ p) = 30 := (ck_30 hv).mpr h141
    have hp1 := hK.lt hpm h141 (by decide)
    have B2 : ∀ K, (dp < 8 → gX2 d2 0 (cT (p + 1) F) L (nI (dp + 1)) (fun r_98 F_98 L_98 => ((r_98 = 0 → K 0 F_98 L_98) ∧ (¬ r_98 = 0 → wp_X2_take F_98 L_98 31 (fun r_107 F_107 L_107 => ((r_107 = 0 → K 0 F_107 L_107) ∧ (¬ r_107 = 0 → K 1 F_107 L_107))))))) → (dp = 8 → K 0 F L) → gX2 (d2 + 1) 2 F L (nI dp) K := fun K h1 h0 => A2 K (c_peek hc hK (by
      rw [hck]
      exact ⟨fun z => absurd z (by decide), fun z => absurd z (by decide), fun z => absurd z (by decide), fun _ => c_deeper hc hK hdp hck (fun hd => And.intro (fun z => absurd z (by decide)) (fun _ => by rw [nI_1]; exact h1 hd)) (fun hd => And.intro (fun _ => h0 hd) (fun z => absurd rfl z)), fun z10 z11 z13 z30 => absurd rfl z30⟩))
    have B8 : ∀ K, (dp < 8 → gX8 d8 0 (rT (p + 1) (up2 N 230 (fun _ => nI (dp + 1)))) P 0 0 (fun r_60 N_60 P_60 => ((¬ r_60 = 0 → (∀ N_75 : M2, N_75 = up2 N_60 230 (fun _ => (N_60 230 0) - 1) → wp_X8_eatSign N_75 P_60 93 (fun r_81 N_81 P_81 => (zb r_81 ∧ K r_81 N_81 P_81)))) ∧ (r_60 = 0 → K 0 N_60 P_60)))) → (dp = 8 → K 0 N P) → gX8 (d8 + 1) 2 N P 0 0 K := fun K h1 h0 => A8 K (r_is hs hK (fun z => absurd z n28) (fun _ => And.intro (fun _ => r_sign hs hK (y := 141) (by decide) (fun _ => And.intro (fun z => absurd z (by decide)) (fun _ => r_deeper hs hdp (fun hd => And.intro (fun z => absurd z (by decide)) (fun _ => h1 hd)) (fun hd => And.intro (fun _ => h0 hd) (fun z => absurd rfl z)))) (fun z => absurd h141 z)) (fun z => absurd rfl z)))
    by_cases hd : dp = 8
    · exact Or.inr ⟨p, F, N, P, hpm, FC.self hc, FN.self hs, fun K hk => B2 K (fun z => absurd z (by omega)) (fun _ => hk), fun K hk => B8 K (fun z => absurd z (by omega)) (fun _ => hk)⟩
    have hc1 := hc.adv (q := p + 1) (by omega)
    have hs1 := hs.deep (by omega : p + 1 ≤ m) (d' := dp + 1)
    rcases IH.1 (dp + 1) (p + 1) d2 d8 (by omega) (by omega) (by omega) (by omega) _ L _ P hc1 hs1 with ⟨p1, i1, hlt, hG, k2, k8⟩ | ⟨p', F', N', P', hp', fc, fn, k2, k8⟩
    · have hc2 := hc1.to (q := p1) hG.2.1 i1
      have hs2 := hs.to (val := val) hG.skip
      have hv1 := hK.2.1 p1 hG.2.1
      by_cases h143 : κ p1 = 143
      · have hp2 := hK.lt hG.2.1 h143 (by decide)
        refine Or.inl ⟨p1 + 1, i1, by omega, hG.skip.behind hp2, fun K hk => B2 K (fun _ => k2 _ (And.intro (fun z => absurd z (by decide)) (fun _ => c_take hc2 hK (fun _ => And.intro (fun z => absurd z (by decide)) (fun _ => ?_)) (fun z => absurd ((ck_31 hv1).mpr h143) z)))) (fun z => absurd z hd), fun K hk => B8 K (fun _ => k8 _ (And.intro (fun _ N1 e1 => ?_) (fun z => absurd z (by decide)))) (fun z => absurd z hd)⟩
        · rw [c_chain1, cT_cT]
          exact hk
        · rw [up_back hs (d' := 0)] at e1
          subst e1
          refine r_eatSign hs2 hK (y := 143) (by decide) (fun _ => ⟨by decide, ?_⟩) (fun z => absurd h143 z)
          rw [rT_rT]
          exact hk
      · refine Or.inr ⟨p1, cT p1 (cE val L i1 F), rT p1 (rR i1 N), rE val i1 P, hG.2.1, FC.to, FN.to, fun K hk => B2 K (fun _ => k2 _ (And.intro (fun z => absurd z (by decide)) (fun _ => c_take hc2 hK (fun z => absurd ((ck_31 hv1).mp z) h143) (fun _ => And.intro (fun _ => ?_) (fun z => absurd rfl z))))) (fun z => absurd z hd), fun K hk => B8 K (fun _ => k8 _ (And.intro (fun _ N1 e1 => ?_) (fun z => absurd z (by decide)))) (fun z => absurd z hd)⟩
        · rw [c_chain1]
          exact hk
        · rw [up_back hs (d' := 0)] at e1
          subst e1
          exact r_eatSign hs2 hK (y := 143) (by decide) (fun z => absurd z h143) (fun _ => ⟨by decide, hk⟩)
    · exact Or.inr ⟨p', F', N', P', hp', FC.adv.trans fc, FN.deep.trans fn, fun K hk => B2 K (fun _ => k2 _ (And.intro (fun _ => hk) (fun z => absurd rfl z))) (fun z => absurd z hd), fun K hk => B8 K (fun _ => k8 _ (And.intro (fun z => absurd rfl z) (fun _ => hk))) (fun z => absurd z hd)⟩
  have n141 : ¬ κ p = 141 := h141
  by_cases h26 : κ p = 26
  · have hck : ck (κ p) = 10 := (ck_10 hv).mpr h26
    have B2 : ∀ K, wp_X2_ofOne_nO F L 10 (F 24 0) (fun r F L => (zb r ∧ K r F L)) → gX2 (d2 + 1) 2 F L (nI dp) K := fun K hk => A2 K (c_peek hc hK (by
      rw [hck]
      exact ⟨fun _ => hk, fun z => absurd z (by decide), fun z => absurd z (by decide), fun z => absurd z (by decide), fun z10 z11 z13 z30 => absurd rfl z10⟩))
    have B8 : ∀ K, wp_X8_isNamed N P 21 (fun r N P => (zb r ∧ K r N P)) → gX8 (d8 + 1) 2 N P 0 0 K := fun K hk => A8 K (r_is hs hK (fun z => absurd z n28) (fun _ => And.intro (fun _ => r_sign hs hK (y := 141) (by decide) (fun z => absurd z n141) (fun _ => And.intro (fun _ => r_is hs hK (fun _ => And.intro (fun _ => r_is hs hK (fun _ => And.intro (fun z => absurd z (by decide)) (fun _ => hk)) (fun z => absurd h26 z)) (fun z => absurd z (by decide))) (fun z => absurd h26 z)) (fun z => absurd rfl z))) (fun z => absurd rfl z)))
    rcases pz_named_nO (val := val) (b := true) hK (op := 10) (as := 21) (by decide) (by decide) (fun _ => rfl) hc hs h26 with ⟨p1, i1, hlt, hG, k2, k8⟩ | ⟨p', F', N', P', hp', fc, fn, k2, k8⟩
    · exact Or.inl ⟨p1, i1, hlt, hG, fun K hk => B2 K (k2 K hk), fun K hk => B8 K (k8 K hk)⟩
    · exact Or.inr ⟨p', F', N', P', hp', fc, fn, fun K hk => B2 K (k2 K hk), fun K hk => B8 K (k8 K hk)⟩
  have n26 : ¬ κ p = 26 := h26
  by_cases h27 : κ p = 27
  · have hck : ck (κ p) = 11 := (ck_11 hv).mpr h27
    have B2 : ∀ K, wp_X2_ofOne_nL F L 11 (F 23 0) (fun r F L => (zb r ∧ K r F L)) → gX2 (d2 + 1) 2 F L (nI dp) K := fun K hk => A2 K (c_peek hc hK (by
      rw [hck]
      exact ⟨fun z => absurd z (by decide), fun _ => hk, fun z => absurd z (by decide), fun z => absurd z (by decide), fun z10 z11 z13 z30 => absurd rfl z11⟩))
    have B8 : ∀ K, wp_X8_isNamed N P 20 (fun r N P => (zb r ∧ K r N P)) → gX8 (d8 + 1) 2 N P 0 0 K := fun K hk => A8 K (r_is hs hK (fun z => absurd z n28) (fun _ => And.intro (fun _ => r_sign hs hK (y := 141) (by decide) (fun z => absurd z n141) (fun _ => And.intro (fun _ => r_is hs hK (fun z => absurd z n26) (fun _ => And.intro (fun z => absurd rfl z) (fun _ => r_is hs hK (fun _ => And.intro (fun z => absurd z (by decide)) (fun _ => r_is hs hK (fun z => absurd z n26) (fun _ => And.intro (fun _ => hk) (fun z => absurd rfl z)))) (fun z => absurd h27 z)))) (fun z => absurd rfl z))) (fun z => absurd rfl z)))
    rcases pz_named_nL (val := val) (b := true) hK (op := 11) (as := 20) (by decide) (by decide) (fun _ => rfl) hc hs h27 with ⟨p1, i1, hlt, hG, k2, k8⟩ | ⟨p', F', N', P', hp', fc, fn, k2, k8⟩
    · exact Or.inl ⟨p1, i1, hlt, hG, fun K hk => B2 K (k2 K hk), fun K hk => B8 K (k8 K hk)⟩
    · exact Or.inr ⟨p', F', N', P', hp', fc, fn, fun K hk => B2 K (k2 K hk), fun K hk => B8 K (k8 K hk)⟩
  have n27 : ¬ κ p = 27 := h27
  obtain ⟨d2, rfl⟩ := ge1 (show 0 + 1 ≤ d2 by omega)
  have e10 : ¬ ck (κ p) = 10 := fun z => n26 ((ck_10 hv).mp z)
  have e11 : ¬ ck (κ p) = 11 := fun z => n27 ((ck_11 hv).mp z)
  have e13 : ¬ ck (κ p) = 13 := fun z => n28 ((ck_13 hv).mp z)
  have e30 : ¬ ck (κ p) = 30 := fun z => n141 ((ck_30 hv).mp z)
  have B2 : ∀ K, wp_X2_comparison (gX2 d2) F L (nI dp) (fun r F L => (zb r ∧ K r F L)) → gX2 (d2 + 1 + 1) 2 F L (nI dp) K := fun K hk => A2 K (c_peek hc hK ⟨fun z => absurd z e10, fun z => absurd z e11, fun z => absurd z e13, fun z => absurd z e30, fun _ _ _ _ => by
    rw [gX2_3]
    exact hk⟩)
  rcases pz_cmp (d2 := d2) hK IH.2.2.2.1 hdp (by omega) (by omega) (by omega : 5 + 9 * (8 - dp) ≤ d8) hc hs with ⟨p1, i1, hlt, hG, k2, k8⟩ | ⟨p', F', N', P', hp', fc, fn, k2, k8⟩
  · exact Or.inl ⟨p1, i1, hlt, hG, fun K hk => B2 K (k2 K hk), fun K hk => A8 K (r_is hs hK (fun z => absurd z n28) (fun _ => And.intro (fun _ => r_sign hs hK (y := 141) (by decide) (fun z => absurd z n141) (fun _ => And.intro (fun _ => r_is hs hK (fun z => absurd z n26) (fun _ => And.intro (fun z => absurd rfl z) (fun _ => r_is hs hK (fun z => absurd z n27) (fun _ => And.intro (fun _ => k8 K hk) (fun z => absurd rfl z))))) (fun z => absurd rfl z))) (fun z => absurd rfl z)))⟩
  · exact Or.inr ⟨p', F', N', P', hp', fc, fn, fun K hk => B2 K (k2 K hk), fun K hk => A8 K (r_is hs hK (fun z => absurd z n28) (fun _ => And.intro (fun _ => r_sign hs hK (y := 141) (by decide) (fun z => absurd z n141) (fun _ => And.intro (fun _ => r_is hs hK (fun z => absurd z n26) (fun _ => And.intro (fun z => absurd rfl z) (fun _ => r_is hs hK (fun z => absurd z n27) (fun _ => And.intro (fun _ => k8 K hk) (fun z => absurd rfl z))))) (fun z => absurd rfl z))) (fun z => absurd rfl z)))⟩
end GRAM3
