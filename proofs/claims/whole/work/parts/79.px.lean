/-! ===== values; the whole grammar ===== -/
section GRAM4
variable {κ : Nat → Int32} {m : Nat} {val : Nat → Int64} {N0 : M2}
theorem GI.one {p q : Nat} {b : Bool} {x : IT} (hq : p + 1 ≤ q) (hm : q ≤ m) (ht : ∀ ts, tcO1 x.1 ts = some (b :: ts)) (hn : ¬ isNm x.1) (hx : OKI κ x) : GI κ m p q [] [b] [x] := by
  refine ⟨by simp; omega, hm, fun ts => ?_, ?_, fun y hy => by rw [List.mem_singleton.mp hy]; exact hx⟩
  · show (tcO1 x.1 ts).bind (tcO []) = _
    rw [ht]
    rfl
  · have : nms [x] = [] := by simp only [nms, List.filter_cons, decide_eq_false hn]; rfl
    rw [this]
    show p ≤ q
    omega
theorem pz_value (hK : KIN κ m) (hNum : NUM κ m val N0) (hSid : SID κ m val) {n : Nat} (IH : ALLn κ m val N0 n) : CLM κ m val N0 (n + 1) 6 5 false 3 := by
  intro dp p d2 d8 hdp hn h2 h8 F L N P hc hs
  have hm := hK.1
  have hpm := hc.2.1
  have hv := hK.2.1 p hpm
  obtain ⟨d2, rfl⟩ := ge1 (show 0 + 1 ≤ d2 by omega)
  obtain ⟨d8, rfl⟩ := ge1 (show 0 + 1 ≤ d8 by omega)
  obtain ⟨g1, g2⟩ := hs.get hK
  obtain ⟨c0, o0, k6, k7, k8', k9⟩ := hs.2.2.2.2.2
  have A2 : ∀ K, wp_X2_value (gX2 d2) F L (nI dp) K → gX2 (d2 + 1) 6 F L (nI dp) K := fun K h => by
    rw [gX2_6]
    exact h
  have A8 : ∀ K, wp_X8_isValue (gX8 d8) N P K → gX8 (d8 + 1) 5 N P 0 0 K := fun K h => by
    rw [gX8_5]
    exact h
  have v229 : N 229 0 = nI p := by rw [hs.1]
  by_cases h41 : κ p = 41
  · have hck : ck (κ p) = 4 := (ck_4 hv).mpr h41
    have hp1 := hK.lt hpm h41 (by decide)
    have hc1 := hc.adv (q := p + 1) (by omega)
    refine Or.inl ⟨p + 1, [(4, p)], by omega, GI.one (by omega) (by omega) (fun _ => rfl) (by show ¬ isNm (4 : Int32); decide) ⟨fun z => absurd (show isNm (4 : Int32) from z) (by decide), fun _ => h41, fun z => absurd (show (4 : Int32) = 7 from z) (by decide)⟩, fun K hk => A2 K (c_peek hc hK (by
      rw [hck]
      exact ⟨fun _ => (fun F1 e1 => by
      rw [hc.inc] at e1
      subst e1
      have e66 : cT (p + 1) F 66 0 - 1 = nI p := by
        rw [hc1.1]
        exact nI_pred p
      rw [e66]
      unfold wp_X2_number
      rw [hc1.vl hK (by omega)]
      refine c_emit ⟨by decide, ?_⟩
      rw [cT_em]
      exact hk), fun z => absurd z (by decide), fun z => absurd z (by decide), fun z => absurd z (by decide), fun z => absurd z (by decide), fun z => absurd z (by decide), fun z => absurd z (by decide), fun z => absurd z (by decide), fun z => absurd z (by decide), fun z => absurd z (by decide), fun z => absurd z (by decide), fun z4 z5 z6 z7 z8 z9 z12 z16 z26 z27 z28 => absurd rfl z4⟩)), fun K hk => A8 K ⟨g1, fun v1 e1 => by
      rw [g2] at e1
      subst e1
      exact r_is hs hK (fun _ => And.intro (fun z => absurd z (by decide)) (fun _ => r_put k6 (by omega) (by
        rw [v229]
        refine hNum p hpm h41 N _ _ hs.2.2.1.1 hs.2.2.1.2.2.1 hs.2.2.1.2.2.2 ?_
        refine r_put (c := c0 + 1) (by rw [pt_264, k6, nI_1]) (by omega) (fun N1 e1 => ?_)
        rw [hs.inc] at e1
        subst e1
        exact hk))) (fun z => absurd h41 z)⟩⟩
  have n41 : ¬ κ p = 41 := h41
  by_cases h20 : κ p = 20
  · have hck : ck (κ p) = 5 := (ck_5 hv).mpr h20
    have hp1 := hK.lt hpm h20 (by decide)
    refine Or.inl ⟨p + 1, [(5, 0)], by omega, GI.one (by omega) (by omega) (fun _ => rfl) (by show ¬ isNm (5 : Int32); decide) ⟨fun z => absurd (show isNm (5 : Int32) from z) (by decide), fun z => absurd (show (5 : Int32) = 4 from z) (by decide), fun z => absurd (show (5 : Int32) = 7 from z) (by decide)⟩, fun K hk => A2 K (c_peek hc hK (by
      rw [hck]
      exact ⟨fun z => absurd z (by decide), fun _ => (fun F1 e1 => by
      rw [hc.inc] at e1
      subst e1
      refine c_op (val := val) (by decide) (by decide) (by decide) ⟨by decide, ?_⟩
      rw [cT_cE1]
      exact hk), fun z => absurd z (by decide), fun z => absurd z (by decide), fun z => absurd z (by decide), fun z => absurd z (by decide), fun z => absurd z (by decide), fun z => absurd z (by decide), fun z => absurd z (by decide), fun z => absurd z (by decide), fun z => absurd z (by decide), fun z4 z5 z6 z7 z8 z9 z12 z16 z26 z27 z28 => absurd rfl z5⟩)), fun K hk => A8 K ⟨g1, fun v1 e1 => by
      rw [g2] at e1
      subst e1
      exact r_is hs hK (fun z => absurd z n41) (fun _ => And.intro (fun _ => r_is hs hK (fun _ => And.intro (fun _ => r_put k6 (by omega) (fun N1 e1 => by
        rw [hs.inc] at e1
        subst e1
        rw [h20]
        exact hk)) (fun z => absurd z (by decide))) (fun z => absurd h20 z)) (fun z => absurd rfl z))⟩⟩
  have n20 : ¬ κ p = 20 := h20
  by_cases h21 : κ p = 21
  · have hck : ck (κ p) = 6 := (ck_6 hv).mpr h21
    have hp1 := hK.lt hpm h21 (by decide)
    refine Or.inl ⟨p + 1, [(6, 0)], by omega, GI.one (by omega) (by omega) (fun _ => rfl) (by show ¬ isNm (6 : Int32); decide) ⟨fun z => absurd (show isNm (6 : Int32) from z) (by decide), fun z => absurd (show (6 : Int32) = 4 from z) (by decide), fun z => absurd (show (6 : Int32) = 7 from z) (by decide)⟩, fun K hk => A2 K (c_peek hc hK (by
      rw [hck]
      exact ⟨fun z => absurd z (by decide), fun z => absurd z (by decide), fun _ => (fun F1 e1 => by
      rw [hc.inc] at e1
      subst e1
      refine c_op (val := val) (by decide) (by decide) (by decide) ⟨by decide, ?_⟩
      rw [cT_cE1]
      exact hk), fun z => absurd z (by decide), fun z => absurd z (by decide), fun z => absurd z (by decide), fun z => absurd z (by decide), fun z => absurd z (by decide), fun z => absurd z (by decide), fun z => absurd z (by decide), fun z => absurd z (by decide), fun z4 z5 z6 z7 z8 z9 z12 z16 z26 z27 z28 => absurd rfl z6⟩)), fun K hk => A8 K ⟨g1, fun v1 e1 => by
      rw [g2] at e1
      subst e1
      exact r_is hs hK (fun z => absurd z n41) (fun _ => And.intro (fun _ => r_is hs hK (fun z => absurd z n20) (fun _ => And.intro (fun z => absurd rfl z) (fun _ => r_is hs hK (fun _ => And.intro (fun z => absurd z (by decide)) (fun _ => r_put k6 (by omega) (fun N1 e1 => by
        rw [hs.inc] at e1
        subst e1
        rw [h21]
        exact hk))) (fun z => absurd h21 z)))) (fun z => absurd rfl z))⟩⟩
  have n21 : ¬ κ p = 21 := h21
  by_cases h25 : κ p = 25
  · have hck : ck (κ p) = 7 := (ck_7 hv).mpr h25
    have hp1 := hK.lt hpm h25 (by decide)
    have hc1 := hc.adv (q := p + 1) (by omega)
    have hv1 := hK.2.1 (p + 1) (by omega)
    have hs1 := hs.adv (q := p + 1) (by omega) (by omega)
    have hs1' : ∀ x y, SN κ m N0 (rT (p + 1) N) (pt (pt P x) y) (p + 1) dp := fun x y => by
      obtain ⟨y1, y2, y3, y4, y5, _⟩ := hs1
      exact ⟨y1, y2, y3, y4, y5, c0 + 2, o0, by rw [pt_264, pt_264, k6, nI_1, nI_1], by omega, by rw [pt_n _ (by decide) (by decide), pt_n _ (by decide) (by decide), k8'], by omega⟩
    have hs1'' : ∀ x, SN κ m N0 (rT (p + 1) N) (pt P x) (p + 1) dp := fun x => by
      obtain ⟨y1, y2, y3, y4, y5, _⟩ := hs1
      exact ⟨y1, y2, y3, y4, y5, c0 + 1, o0, by rw [pt_264, k6, nI_1], by omega, by rw [pt_n _ (by decide) (by decide), k8'], by omega⟩
    have B2 : ∀ K, (ck (κ (p + 1)) = 3 → K 1 (cT (p + 2) (cE1 val L F (7, p + 1))) L) → (¬ ck (κ (p + 1)) = 3 → K 0 (cT (p + 1) F) L) → gX2 (d2 + 1) 6 F L (nI dp) K := fun K h1 h0 => A2 K (c_peek hc hK (by
      rw [hck]
      exact ⟨fun z => absurd z (by decide), fun z => absurd z (by decide), fun z => absurd z (by decide), fun _ => (fun F1 e1 => by
      rw [hc.inc] at e1
      subst e1
      refine c_take hc1 hK (fun c => And.intro (fun z => absurd z (by decide)) (fun _ => ?_)) (fun c => And.intro (fun _ => h0 c) (fun z => absurd rfl z))
      have hp2 : p + 1 < m := ((ck_3 hv1).mp c).elim (fun z => hK.lt (by omega) z (by decide)) (fun z => hK.lt (by omega) z (by decide))
      rw [cT_cT]
      have hc2 := hc.adv (q := p + 1 + 1) (by omega)
      have e66 : cT (p + 1 + 1) F 66 0 - 1 = nI (p + 1) := by
        rw [hc2.1]
        exact nI_pred (p + 1)
      rw [e66]
      unfold wp_X2_number
      rw [hc2.vl hK (by omega)]
      refine c_emit (And.intro (fun z => absurd z (by decide)) (fun _ => ?_))
      rw [cT_em]
      exact h1 c), fun z => absurd z (by decide), fun z => absurd z (by decide), fun z => absurd z (by decide), fun z => absurd z (by decide), fun z => absurd z (by decide), fun z => absurd z (by decide), fun z => absurd z (by decide), fun z4 z5 z6 z7 z8 z9 z12 z16 z26 z27 z28 => absurd rfl z7⟩))
    have B8 : ∀ K, wj_X8_isValue_113 (gX8 d8) K (rT (p + 1) N) (pt P 25) (if κ (p + 1) = 12 then 0 else 1) → gX8 (d8 + 1) 5 N P 0 0 K := fun K hk => A8 K ⟨g1, fun v1 e1 => by
      rw [g2] at e1
      subst e1
      exact r_is hs hK (fun z => absurd z n41) (fun _ => And.intro (fun _ => r_is hs hK (fun z => absurd z n20) (fun _ => And.intro (fun z => absurd rfl z) (fun _ => r_is hs hK (fun z => absurd z n21) (fun _ => And.intro (fun _ => r_eat hs hK (fun _ => And.intro (fun z => absurd z (by decide)) (fun _ => r_put k6 (by omega) (by
        rw [h25]
        exact r_is (hs1'' 25) hK (fun c => And.intro (fun z => absurd z (by decide)) (fun _ => by rw [if_pos c] at hk; exact hk)) (fun c => And.intro (fun _ => by rw [if_neg c] at hk; exact hk) (fun z => absurd rfl z))))) (fun z => absurd h25 z)) (fun z => absurd rfl z))))) (fun z => absurd rfl z))⟩
    by_cases h3 : κ (p + 1) = 12 ∨ κ (p + 1) = 13
    · have hp2 : p + 1 < m := h3.elim (fun z => hK.lt (by omega) z (by decide)) (fun z => hK.lt (by omega) z (by decide))
      refine Or.inl ⟨p + 2, [(7, p + 1)], by omega, GI.one (by omega) (by omega) (fun _ => rfl) (by show ¬ isNm (7 : Int32); decide) ⟨fun z => absurd (show isNm (7 : Int32) from z) (by decide), fun z => absurd (show (7 : Int32) = 4 from z) (by decide), fun _ => h3⟩, fun K hk => B2 K (fun _ => hk) (fun z => absurd ((ck_3 hv1).mpr h3) z), fun K hk => B8 K ?_⟩
      have hk : K 1 (rT (p + 2) N) (pt (pt P 25) (val (p + 1)).toInt32) := hk
      rcases h3 with z | z
      · rw [if_pos z]
        rw [(hSid (p + 1) (by omega)).1 z] at hk
        refine r_put (c := c0 + 1) (by rw [pt_264, k6, nI_1]) (by omega) (r_eat (hs1' 25 0) hK (fun _ => And.intro (fun _ => ?_) (fun z => absurd z (by decide))) (fun y => absurd z y))
        rw [rT_rT]
        exact hk
      · rw [if_neg (fun y => absurd (z.symm.trans y) (by decide))]
        rw [(hSid (p + 1) (by omega)).2 z] at hk
        refine r_put (c := c0 + 1) (by rw [pt_264, k6, nI_1]) (by omega) (r_eat (hs1' 25 1) hK (fun y => absurd (z.symm.trans y) (by decide)) (fun _ => And.intro (fun y => absurd rfl y) (fun _ => r_eat (hs1' 25 1) hK (fun _ => And.intro (fun y => absurd y (by decide)) (fun _ => ?_)) (fun y => absurd z y))))
        rw [rT_rT]
        exact hk
    · have h12 : ¬ κ (p + 1) = 12 := fun z => h3 (Or.inl z)
      have h13 : ¬ κ (p + 1) = 13 := fun z => h3 (Or.inr z)
      refine Or.inr ⟨p + 1, cT (p + 1) F, rT (p + 1) N, pt (pt P 25) 1, by omega, FC.adv, FN.adv, fun K hk => B2 K (fun z => absurd ((ck_3 hv1).mp z) h3) (fun _ => hk), fun K hk => B8 K ?_⟩
      rw [if_neg h12]
      exact r_put (c := c0 + 1) (by rw [pt_264, k6, nI_1]) (by omega) (r_eat (hs1' 25 1) hK (fun y => absurd y h12) (fun _ => And.intro (fun y => absurd rfl y) (fun _ => r_eat (hs1' 25 1) hK (fun y => absurd y h13) (fun _ => And.intro (fun _ => hk) (fun y => absurd rfl y)))))
  have n25 : ¬ κ p = 25 := h25
  by_cases h23 : κ p = 23
  · have hck : ck (κ p) = 8 := (ck_8 hv).mpr h23
    have B2 : ∀ K, wp_X2_ofOne_nL F L 8 (F 23 0) (fun r F L => (zb r ∧ K r F L)) → gX2 (d2 + 1) 6 F L (nI dp) K := fun K hk => A2 K (c_peek hc hK (by
      rw [hck]
      exact ⟨fun z => absurd z (by decide), fun z => absurd z (by decide), fun z => absurd z (by decide), fun z => absurd z (by decide), fun _ => hk, fun z => absurd z (by decide), fun z => absurd z (by decide), fun z => absurd z (by decide), fun z => absurd z (by decide), fun z => absurd z (by decide), fun z => absurd z (by decide), fun z4 z5 z6 z7 z8 z9 z12 z16 z26 z27 z28 => absurd rfl z8⟩))
    have B8 : ∀ K, wp_X8_isNamed N P 20 (fun r N P => (zb r ∧ K r N P)) → gX8 (d8 + 1) 5 N P 0 0 K := fun K hk => A8 K ⟨g1, fun v1 e1 => by
      rw [g2] at e1
      subst e1
      exact r_is hs hK (fun z => absurd z n41) (fun _ => And.intro (fun _ => r_is hs hK (fun z => absurd z n20) (fun _ => And.intro (fun z => absurd rfl z) (fun _ => r_is hs hK (fun z => absurd z n21) (fun _ => And.intro (fun _ => r_eat hs hK (fun z => absurd z n25) (fun _ => And.intro (fun _ => r_is hs hK (fun _ => And.intro (fun _ => r_is hs hK (fun z => absurd z (by rw [h23]; decide)) (fun _ => And.intro (fun _ => hk) (fun z => absurd rfl z))) (fun z => absurd z (by decide))) (fun z => absurd h23 z)) (fun z => absurd rfl z))) (fun z => absurd rfl z))))) (fun z => absurd rfl z))⟩
    rcases pz_named_nL (val := val) (b := false) hK (op := 8) (as := 20) (by decide) (by decide) (fun _ => rfl) hc hs h23 with ⟨p1, i1, hlt, hG, l2, l8⟩ | ⟨p', F', N', P', hp', fc, fn, l2, l8⟩
    · exact Or.inl ⟨p1, i1, hlt, hG, fun K hk => B2 K (l2 K hk), fun K hk => B8 K (l8 K hk)⟩
    · exact Or.inr ⟨p', F', N', P', hp', fc, fn, fun K hk => B2 K (l2 K hk), fun K hk => B8 K (l8 K hk)⟩
  have n23 : ¬ κ p = 23 := h23
  by_cases h24 : κ p = 24
  · have hck : ck (κ p) = 9 := (ck_9 hv).mpr h24
    have B2 : ∀ K, wp_X2_ofOne_nO F L 9 (F 24 0) (fun r F L => (zb r ∧ K r F L)) → gX2 (d2 + 1) 6 F L (nI dp) K := fun K hk => A2 K (c_peek hc hK (by
      rw [hck]
      exact ⟨fun z => absurd z (by decide), fun z => absurd z (by decide), fun z => absurd z (by decide), fun z => absurd z (by decide), fun z => absurd z (by decide), fun _ => hk, fun z => absurd z (by decide), fun z => absurd z (by decide), fun z => absurd z (by decide), fun z => absurd z (by decide), fun z => absurd z (by decide), fun z4 z5 z6 z7 z8 z9 z12 z16 z26 z27 z28 => absurd rfl z9⟩))
    have B8 : ∀ K, wp_X8_isNamed N P 21 (fun r N P => (zb r ∧ K r N P)) → gX8 (d8 + 1) 5 N P 0 0 K := fun K hk => A8 K ⟨g1, fun v1 e1 => by
      rw [g2] at e1
      subst e1
      exact r_is hs hK (fun z => absurd z n41) (fun _ => And.intro (fun _ => r_is hs hK (fun z => absurd z n20) (fun _ => And.intro (fun z => absurd rfl z) (fun _ => r_is hs hK (fun z => absurd z n21) (fun _ => And.intro (fun _ => r_eat hs hK (fun z => absurd z n25) (fun _ => And.intro (fun _ => r_is hs hK (fun z => absurd z n23) (fun _ => And.intro (fun z => absurd rfl z) (fun _ => r_is hs hK (fun _ => And.intro (fun z => absurd z (by decide)) (fun _ => r_is hs hK (fun _ => And.intro (fun z => absurd z (by decide)) (fun _ => hk)) (fun z => absurd h24 z))) (fun z => absurd h24 z)))) (fun z => absurd rfl z))) (fun z => absurd rfl z))))) (fun z => absurd rfl z))⟩
    rcases pz_named_nO (val := val) (b := false) hK (op := 9) (as := 21) (by decide) (by decide) (fun _ => rfl) hc hs h24 with ⟨p1, i1, hlt, hG, l2, l8⟩ | ⟨p', F', N', P', hp', fc, fn, l2, l8⟩
    · exact Or.inl ⟨p1, i1, hlt, hG, fun K hk => B2 K (l2 K hk), fun K hk => B8 K (l8 K hk)⟩
    · exact Or.inr ⟨p', F', N', P', hp', fc, fn, fun K hk => B2 K (l2 K hk), fun K hk => B8 K (l8 K hk)⟩
  have n24 : ¬ κ p = 24 := h24
  by_cases h95 : κ p = 95
  · have hck : ck (κ p) = 16 := (ck_16 hv).mpr h95
    have hp1 := hK.lt hpm h95 (by decide)
    have B2 : ∀ K, (dp < 8 → gX2 d2 6 (cT (p + 1) F) L (nI (dp + 1)) (fun r_290 F_290 L_290 => ((r_290 = 0 → K 0 F_290 L_290) ∧ (¬ r_290 = 0 → wp_X2_emit F_290 L_290 14 0 (fun r_300 F_300 L_300 => ((r_300 = 0 → K 0 F_300 L_300) ∧ (¬ r_300 = 0 → K 1 F_300 L_300))))))) → (dp = 8 → K 0 F L) → gX2 (d2 + 1) 6 F L (nI dp) K := fun K h1 h0 => A2 K (c_peek hc hK (by
      rw [hck]
      exact ⟨fun z => absurd z (by decide), fun z => absurd z (by decide), fun z => absurd z (by decide), fun z => absurd z (by decide), fun z => absurd z (by decide), fun z => absurd z (by decide), fun z => absurd z (by decide), fun _ => c_deeper hc hK hdp hck (fun hd => And.intro (fun z => absurd z (by decide)) (fun _ => by rw [nI_1]; exact h1 hd)) (fun hd => And.intro (fun _ => h0 hd) (fun z => absurd rfl z)), fun z => absurd z (by decide), fun z => absurd z (by decide), fun z => absurd z (by decide), fun z4 z5 z6 z7 z8 z9 z12 z16 z26 z27 z28 => absurd rfl z16⟩))
    have B8 : ∀ K, (dp < 8 → gX8 d8 5 (rT (p + 1) (up2 N 230 (fun _ => nI (dp + 1)))) P 0 0 (fun r_196 N_196 P_196 => ((¬ r_196 = 0 → (∀ N_211 : M2, N_211 = up2 N_196 230 (fun _ => (N_196 230 0) - 1) → wp_X8_put N_211 P_196 33 (fun N_217 P_217 => K 1 N_217 P_217))) ∧ (r_196 = 0 → K 0 N_196 P_196)))) → (dp = 8 → K 0 N P) → gX8 (d8 + 1) 5 N P 0 0 K := fun K h1 h0 => A8 K ⟨g1, fun v1 e1 => by
      rw [g2] at e1
      subst e1
      exact r_is hs hK (fun z => absurd z n41) (fun _ => And.intro (fun _ => r_is hs hK (fun z => absurd z n20) (fun _ => And.intro (fun z => absurd rfl z) (fun _ => r_is hs hK (fun z => absurd z n21) (fun _ => And.intro (fun _ => r_eat hs hK (fun z => absurd z n25) (fun _ => And.intro (fun _ => r_is hs hK (fun z => absurd z n23) (fun _ => And.intro (fun z => absurd rfl z) (fun _ => r_is hs hK (fun z => absurd z n24) (fun _ => And.intro (fun _ => r_sign hs hK (y := 95) (by decide) (fun _ => And.intro (fun z => absurd z (by decide)) (fun _ => r_deeper hs hdp (fun hd => And.intro (fun z => absurd z (by decide)) (fun _ => h1 hd)) (fun hd => And.intro (fun _ => h0 hd) (fun z => absurd rfl z)))) (fun z => absurd h95 z)) (fun z => absurd rfl z))))) (fun z => absurd rfl z))) (fun z => absurd rfl z))))) (fun z => absurd rfl z))⟩
    by_cases hd : dp = 8
    · exact Or.inr ⟨p, F, N, P, hpm, FC.self hc, FN.self hs, fun K hk => B2 K (fun z => absurd z (by omega)) (fun _ => hk), fun K hk => B8 K (fun z => absurd z (by omega)) (fun _ => hk)⟩
    have hc1 := hc.adv (q := p + 1) (by omega)
    have hs1 := hs.deep (by omega : p + 1 ≤ m) (d' := dp + 1)
    rcases IH.2.2.2.2.2 (dp + 1) (p + 1) d2 d8 (by omega) (by omega) (by omega) (by omega) _ L _ P hc1 hs1 with ⟨p1, i1, hlt, hG, l2, l8⟩ | ⟨p', F', N', P', hp', fc, fn, l2, l8⟩
    · refine Or.inl ⟨p1, i1 ++ [(14, 0)], by omega, hG.op (by decide) (by decide) (by decide) (fun _ => rfl), fun K hk => B2 K (fun _ => l2 _ (And.intro (fun z => absurd z (by decide)) (fun _ => c_op (val := val) (by decide) (by decide) (by decide) (And.intro (fun z => absurd z (by decide)) (fun _ => ?_))))) (fun z => absurd z hd), fun K hk => B8 K (fun _ => l8 _ (And.intro (fun _ N1 e1 => ?_) (fun z => absurd z (by decide)))) (fun z => absurd z hd)⟩
      · rw [c_chain1, c_one]
        exact hk
      · rw [up_back hs (d' := 0)] at e1
        subst e1
        obtain ⟨cc, g6, g7⟩ := room800 (val := val) (dp' := 0) hs hG.skip hK.1 (by have := hG.1; omega)
        refine r_put g6 (by omega) ?_
        have e3 : pt (rE val i1 P) 33 = rE val (i1 ++ [(14, 0)]) P := by
          rw [← r_one]
          rfl
        rw [e3, ← rR_op (op := 14) (by decide)]
        exact hk
    · exact Or.inr ⟨p', F', N', P', hp', FC.adv.trans fc, FN.deep.trans fn, fun K hk => B2 K (fun _ => l2 _ (And.intro (fun _ => hk) (fun z => absurd rfl z))) (fun z => absurd z hd), fun K hk => B8 K (fun _ => l8 _ (And.intro (fun z => absurd rfl z) (fun _ => hk))) (fun z => absurd z hd)⟩
  have n95 : ¬ κ p = 95 := h95
  obtain ⟨d2, rfl⟩ := ge1 (show 0 + 1 ≤ d2 by omega)
  obtain ⟨d8, rfl⟩ := ge1 (show 0 + 1 ≤ d8 by omega)
  by_cases h22 : κ p = 22
  · have hck : ck (κ p) = 12 := (ck_12 hv).mpr h22
    have hp1 := hK.lt hpm h22 (by decide)
    have hc1 := hc.adv (q := p + 1) (by omega)
    have hs1 := hs.adv (q := p + 1) (by omega) (by omega)
    have B2 : ∀ K, wp_X2_inBrackets (gX2 d2) (cT (p + 1) F) L (nI dp) (fun r_254 F_254 L_254 => ((r_254 = 0 → K 0 F_254 L_254) ∧ (¬ r_254 = 0 → wp_X2_emit F_254 L_254 12 0 (fun r_264 F_264 L_264 => ((r_264 = 0 → K 0 F_264 L_264) ∧ (¬ r_264 = 0 → K 1 F_264 L_264)))))) → gX2 (d2 + 1 + 1) 6 F L (nI dp) K := fun K hk => A2 K (c_peek hc hK (by
      rw [hck]
      exact ⟨fun z => absurd z (by decide), fun z => absurd z (by decide), fun z => absurd z (by decide), fun z => absurd z (by decide), fun z => absurd z (by decide), fun z => absurd z (by decide), fun _ => (fun F1 e1 => by
      rw [hc.inc] at e1
      subst e1
      rw [gX2_7]
      exact hk), fun z => absurd z (by decide), fun z => absurd z (by decide), fun z => absurd z (by decide), fun z => absurd z (by decide), fun z4 z5 z6 z7 z8 z9 z12 z16 z26 z27 z28 => absurd rfl z12⟩))
    have B8 : ∀ K, wp_X8_isInside (gX8 d8) (rT (p + 1) N) P 22 0 (fun r N P => (zb r ∧ K r N P)) → gX8 (d8 + 1 + 1) 5 N P 0 0 K := fun K hk => A8 K ⟨g1, fun v1 e1 => by
      rw [g2] at e1
      subst e1
      exact r_is hs hK (fun z => absurd z n41) (fun _ => And.intro (fun _ => r_is hs hK (fun z => absurd z n20) (fun _ => And.intro (fun z => absurd rfl z) (fun _ => r_is hs hK (fun z => absurd z n21) (fun _ => And.intro (fun _ => r_eat hs hK (fun z => absurd z n25) (fun _ => And.intro (fun _ => r_is hs hK (fun z => absurd z n23) (fun _ => And.intro (fun z => absurd rfl z) (fun _ => r_is hs hK (fun z => absurd z n24) (fun _ => And.intro (fun _ => r_sign hs hK (y := 95) (by decide) (fun z => absurd z n95) (fun _ => And.intro (fun _ => r_eat hs hK (fun _ => And.intro (fun z => absurd z (by decide)) (fun _ => (by
        rw [gX8_6]
        exact hk))) (fun z => absurd h22 z)) (fun z => absurd rfl z))) (fun z => absurd rfl z))))) (fun z => absurd rfl z))) (fun z => absurd rfl z))))) (fun z => absurd rfl z))⟩
    rcases pz_in1 (d2 := d2) (d8 := d8) hK IH.2.2.2.1 hdp (by omega) (by omega) (by omega) (op := 12) (how := 22) (Or.inr (by decide)) (Or.inr (fun _ => rfl)) hc1 hs1 (w2 := fun K r_254 F_254 L_254 => ((r_254 = 0 → K 0 F_254 L_254) ∧ (¬ r_254 = 0 → wp_X2_emit F_254 L_254 12 0 (fun r_264 F_264 L_264 => ((r_264 = 0 → K 0 F_264 L_264) ∧ (¬ r_264 = 0 → K 1 F_264 L_264)))))) (fun K F' h => And.intro (fun z => absurd z (by decide)) (fun _ => c_op (val := val) (by decide) (by decide) (by decide) (And.intro (fun z => absurd z (by decide)) (fun _ => by rw [if_neg (by decide)] at h; exact h)))) (fun K F' h => And.intro (fun _ => h) (fun z => absurd rfl z)) with ⟨p1, i1, hlt, hG, l2, l8⟩ | ⟨p', F', N', P', hp', fc, fn, l2, l8⟩
    · refine Or.inl ⟨p1, i1, by omega, hG.skip, fun K hk => B2 K (l2 K ?_), fun K hk => B8 K (l8 _ ⟨by decide, ?_⟩)⟩
      · rw [c_chain1]
        exact hk
      · rw [r_chain1]
        exact hk
    · exact Or.inr ⟨p', F', N', P', hp', FC.adv.trans fc, FN.adv.trans fn, fun K hk => B2 K (l2 K hk), fun K hk => B8 K (l8 _ ⟨by decide, hk⟩)⟩
  have n22 : ¬ κ p = 22 := h22
  by_cases h30 : κ p = 30
  · have hck : ck (κ p) = 26 := (ck_26 hv).mpr h30
    have hp1 := hK.lt hpm h30 (by decide)
    have hc1 := hc.adv (q := p + 1) (by omega)
    have hs1 := hs.adv (q := p + 1) (by omega) (by omega)
    have B2 : ∀ K, wp_X2_ofTwo (gX2 d2) (cT (p + 1) F) L (nI dp) (fun r_330 F_330 L_330 => ((r_330 = 0 → K 0 F_330 L_330) ∧ (¬ r_330 = 0 → wp_X2_emit F_330 L_330 26 0 (fun r_339 F_339 L_339 => ((r_339 = 0 → K 0 F_339 L_339) ∧ (¬ r_339 = 0 → K 1 F_339 L_339)))))) → gX2 (d2 + 1 + 1) 6 F L (nI dp) K := fun K hk => A2 K (c_peek hc hK (by
      rw [hck]
      exact ⟨fun z => absurd z (by decide), fun z => absurd z (by decide), fun z => absurd z (by decide), fun z => absurd z (by decide), fun z => absurd z (by decide), fun z => absurd z (by decide), fun z => absurd z (by decide), fun z => absurd z (by decide), fun _ => (fun F1 e1 => by
      rw [hc.inc] at e1
      subst e1
      rw [gX2_8]
      exact hk), fun z => absurd z (by decide), fun z => absurd z (by decide), fun z4 z5 z6 z7 z8 z9 z12 z16 z26 z27 z28 => absurd rfl z26⟩))
    have B8 : ∀ K, wp_X8_isInside (gX8 d8) (rT (p + 1) N) P 30 1 (fun r N P => (zb r ∧ K r N P)) → gX8 (d8 + 1 + 1) 5 N P 0 0 K := fun K hk => A8 K ⟨g1, fun v1 e1 => by
      rw [g2] at e1
      subst e1
      exact r_is hs hK (fun z => absurd z n41) (fun _ => And.intro (fun _ => r_is hs hK (fun z => absurd z n20) (fun _ => And.intro (fun z => absurd rfl z) (fun _ => r_is hs hK (fun z => absurd z n21) (fun _ => And.intro (fun _ => r_eat hs hK (fun z => absurd z n25) (fun _ => And.intro (fun _ => r_is hs hK (fun z => absurd z n23) (fun _ => And.intro (fun z => absurd rfl z) (fun _ => r_is hs hK (fun z => absurd z n24) (fun _ => And.intro (fun _ => r_sign hs hK (y := 95) (by decide) (fun z => absurd z n95) (fun _ => And.intro (fun _ => r_eat hs hK (fun z => absurd z n22) (fun _ => And.intro (fun _ => r_eat hs hK (fun _ => And.intro (fun _ => And.intro (fun z => absurd z (by decide)) (fun _ => by
        rw [gX8_6, h30]
        exact hk)) (fun z => absurd z (by decide))) (fun z => absurd h30 z)) (fun z => absurd rfl z))) (fun z => absurd rfl z))) (fun z => absurd rfl z))))) (fun z => absurd rfl z))) (fun z => absurd rfl z))))) (fun z => absurd rfl z))⟩
    rcases pz_in2 (d2 := d2) (d8 := d8) hK IH.2.2.2.1 hdp (by omega) (by omega) (by omega) (op := 26) (how := 30) (by decide) (fun _ => rfl) hc1 hs1 with ⟨p1, i1, hlt, hG, l2, l8⟩ | ⟨p', F', N', P', hp', fc, fn, l2, l8⟩
    · refine Or.inl ⟨p1, i1, by omega, hG.skip, fun K hk => B2 K (l2 K ?_), fun K hk => B8 K (l8 _ ⟨by decide, ?_⟩)⟩
      · rw [c_chain1]
        exact hk
      · rw [r_chain1]
        exact hk
    · exact Or.inr ⟨p', F', N', P', hp', FC.adv.trans fc, FN.adv.trans fn, fun K hk => B2 K (l2 K hk), fun K hk => B8 K (l8 _ ⟨by decide, hk⟩)⟩
  have n30 : ¬ κ p = 30 := h30
  by_cases h31 : κ p = 31
  · have hck : ck (κ p) = 27 := (ck_27 hv).mpr h31
    have hp1 := hK.lt hpm h31 (by decide)
    have hc1 := hc.adv (q := p + 1) (by omega)
    have hs1 := hs.adv (q := p + 1) (by omega) (by omega)
    have B2 : ∀ K, wp_X2_ofTwo (gX2 d2) (cT (p + 1) F) L (nI dp) (fun r_330 F_330 L_330 => ((r_330 = 0 → K 0 F_330 L_330) ∧ (¬ r_330 = 0 → wp_X2_emit F_330 L_330 27 0 (fun r_339 F_339 L_339 => ((r_339 = 0 → K 0 F_339 L_339) ∧ (¬ r_339 = 0 → K 1 F_339 L_339)))))) → gX2 (d2 + 1 + 1) 6 F L (nI dp) K := fun K hk => A2 K (c_peek hc hK (by
      rw [hck]
      exact ⟨fun z => absurd z (by decide), fun z => absurd z (by decide), fun z => absurd z (by decide), fun z => absurd z (by decide), fun z => absurd z (by decide), fun z => absurd z (by decide), fun z => absurd z (by decide), fun z => absurd z (by decide), fun z => absurd z (by decide), fun _ => (fun F1 e1 => by
      rw [hc.inc] at e1
      subst e1
      rw [gX2_8]
      exact hk), fun z => absurd z (by decide), fun z4 z5 z6 z7 z8 z9 z12 z16 z26 z27 z28 => absurd rfl z27⟩))
    have B8 : ∀ K, wp_X8_isInside (gX8 d8) (rT (p + 1) N) P 31 1 (fun r N P => (zb r ∧ K r N P)) → gX8 (d8 + 1 + 1) 5 N P 0 0 K := fun K hk => A8 K ⟨g1, fun v1 e1 => by
      rw [g2] at e1
      subst e1
      exact r_is hs hK (fun z => absurd z n41) (fun _ => And.intro (fun _ => r_is hs hK (fun z => absurd z n20) (fun _ => And.intro (fun z => absurd rfl z) (fun _ => r_is hs hK (fun z => absurd z n21) (fun _ => And.intro (fun _ => r_eat hs hK (fun z => absurd z n25) (fun _ => And.intro (fun _ => r_is hs hK (fun z => absurd z n23) (fun _ => And.intro (fun z => absurd rfl z) (fun _ => r_is hs hK (fun z => absurd z n24) (fun _ => And.intro (fun _ => r_sign hs hK (y := 95) (by decide) (fun z => absurd z n95) (fun _ => And.intro (fun _ => r_eat hs hK (fun z => absurd z n22) (fun _ => And.intro (fun _ => r_eat hs hK (fun z => absurd z n30) (fun _ => And.intro (fun z => absurd rfl z) (fun _ => r_eat hs hK (fun _ => And.intro (fun z => absurd z (by decide)) (fun _ => And.intro (fun z => absurd z (by decide)) (fun _ => by
        rw [gX8_6, h31]
        exact hk))) (fun z => absurd h31 z)))) (fun z => absurd rfl z))) (fun z => absurd rfl z))) (fun z => absurd rfl z))))) (fun z => absurd rfl z))) (fun z => absurd rfl z))))) (fun z => absurd rfl z))⟩
    rcases pz_in2 (d2 := d2) (d8 := d8) hK IH.2.2.2.1 hdp (by omega) (by omega) (by omega) (op := 27) (how := 31) (by decide) (fun _ => rfl) hc1 hs1 with ⟨p1, i1, hlt, hG, l2, l8⟩ | ⟨p', F', N', P', hp', fc, fn, l2, l8⟩
    · refine Or.inl ⟨p1, i1, by omega, hG.skip, fun K hk => B2 K (l2 K ?_), fun K hk => B8 K (l8 _ ⟨by decide, ?_⟩)⟩
      · rw [c_chain1]
        exact hk
      · rw [r_chain1]
        exact hk
    · exact Or.inr ⟨p', F', N', P', hp', FC.adv.trans fc, FN.adv.trans fn, fun K hk => B2 K (l2 K hk), fun K hk => B8 K (l8 _ ⟨by decide, hk⟩)⟩
  have n31 : ¬ κ p = 31 := h31
  have B8 : ∀ K, wp_X8_isInside (gX8 d8) N P (-1) 0 (fun r N P => (zb r ∧ K r N P)) → gX8 (d8 + 1 + 1) 5 N P 0 0 K := fun K hk => A8 K ⟨g1, fun v1 e1 => by
      rw [g2] at e1
      subst e1
      exact r_is hs hK (fun z => absurd z n41) (fun _ => And.intro (fun _ => r_is hs hK (fun z => absurd z n20) (fun _ => And.intro (fun z => absurd rfl z) (fun _ => r_is hs hK (fun z => absurd z n21) (fun _ => And.intro (fun _ => r_eat hs hK (fun z => absurd z n25) (fun _ => And.intro (fun _ => r_is hs hK (fun z => absurd z n23) (fun _ => And.intro (fun z => absurd rfl z) (fun _ => r_is hs hK (fun z => absurd z n24) (fun _ => And.intro (fun _ => r_sign hs hK (y := 95) (by decide) (fun z => absurd z n95) (fun _ => And.intro (fun _ => r_eat hs hK (fun z => absurd z n22) (fun _ => And.intro (fun _ => r_eat hs hK (fun z => absurd z n30) (fun _ => And.intro (fun z => absurd rfl z) (fun _ => r_eat hs hK (fun z => absurd z n31) (fun _ => And.intro (fun _ => And.intro (fun _ => by
        rw [gX8_6]
        exact hk) (fun z => absurd rfl z)) (fun z => absurd rfl z))))) (fun z => absurd rfl z))) (fun z => absurd rfl z))) (fun z => absurd rfl z))))) (fun z => absurd rfl z))) (fun z => absurd rfl z))))) (fun z => absurd rfl z))⟩
  by_cases h90 : κ p = 90
  · have hck : ck (κ p) = 28 := (ck_28 hv).mpr h90
    have B2 : ∀ K, wp_X2_inBrackets (gX2 d2) F L (nI dp) (fun r F L => (zb r ∧ K r F L)) → gX2 (d2 + 1 + 1) 6 F L (nI dp) K := fun K hk => A2 K (c_peek hc hK (by
      rw [hck]
      exact ⟨fun z => absurd z (by decide), fun z => absurd z (by decide), fun z => absurd z (by decide), fun z => absurd z (by decide), fun z => absurd z (by decide), fun z => absurd z (by decide), fun z => absurd z (by decide), fun z => absurd z (by decide), fun z => absurd z (by decide), fun z => absurd z (by decide), fun _ => (by
        rw [gX2_7]
        exact hk), fun z4 z5 z6 z7 z8 z9 z12 z16 z26 z27 z28 => absurd rfl z28⟩))
    rcases pz_in1 (d2 := d2) (d8 := d8) hK IH.2.2.2.1 hdp (by omega) (by omega) (by omega) (op := 0) (how := -1) (Or.inl (by decide)) (Or.inl rfl) hc hs (w2 := fun K r F L => (zb r ∧ K r F L)) (fun K F' h => ⟨by decide, by rw [if_pos rfl] at h; exact h⟩) (fun K F' h => ⟨by decide, h⟩) with ⟨p1, i1, hlt, hG, l2, l8⟩ | ⟨p', F', N', P', hp', fc, fn, l2, l8⟩
    · exact Or.inl ⟨p1, i1, hlt, hG, fun K hk => B2 K (l2 K hk), fun K hk => B8 K (l8 _ ⟨by decide, hk⟩)⟩
    · exact Or.inr ⟨p', F', N', P', hp', fc, fn, fun K hk => B2 K (l2 K hk), fun K hk => B8 K (l8 _ ⟨by decide, hk⟩)⟩
  · refine Or.inr ⟨p, F, N, P, hpm, FC.self hc, FN.self hs, fun K hk => A2 K (c_peek hc hK ⟨fun z => absurd ((ck_4 hv).mp z) n41, fun z => absurd ((ck_5 hv).mp z) n20, fun z => absurd ((ck_6 hv).mp z) n21, fun z => absurd ((ck_7 hv).mp z) n25, fun z => absurd ((ck_8 hv).mp z) n23, fun z => absurd ((ck_9 hv).mp z) n24, fun z => absurd ((ck_12 hv).mp z) n22, fun z => absurd ((ck_16 hv).mp z) n95, fun z => absurd ((ck_26 hv).mp z) n30, fun z => absurd ((ck_27 hv).mp z) n31, fun z => absurd ((ck_28 hv).mp z) h90, fun _ _ _ _ _ _ _ _ _ _ _ => hk⟩), fun K hk => B8 K (r_sign hs hK (y := 90) (by decide) (fun z => absurd z h90) (fun _ => And.intro (fun _ => ⟨by decide, hk⟩) (fun z => absurd rfl z)))⟩
theorem pz_all (hK : KIN κ m) (hNum : NUM κ m val N0) (hSid : SID κ m val) : ∀ n, ALLn κ m val N0 n := by
  intro n
  induction n with
  | zero => exact ⟨fun dp p d2 d8 _ h => by omega, fun dp p d2 d8 _ h => by omega, fun dp p d2 d8 _ h => by omega, fun dp p d2 d8 _ h => by omega, fun dp p d2 d8 _ h => by omega, fun dp p d2 d8 _ h => by omega⟩
  | succ n ih => exact ⟨pz_test hK ih.2.1, pz_both hK ih.2.2.1, pz_single hK ih, pz_sum hK ih.2.2.2.2.1, pz_product hK ih.2.2.2.2.2, pz_value hK hNum hSid ih⟩
/-- a test, as the lines read it -/
theorem pz_line (hK : KIN κ m) (hNum : NUM κ m val N0) (hSid : SID κ m val) {F : M2} {L : L2} {N P : M2} {p : Nat} (hc : SC κ m val F L p) (hs : SN κ m N0 N P p 0) : RES κ m val (fun F L K => wp_X2_test (gX2 120) F L 0 K) (fun N P K => wp_X8_isTest (gX8 120) N P K) [] [true] p F L N P := by
  rcases (pz_all hK hNum hSid 121).1 0 p 121 121 (by omega) (by omega) (by omega) (by omega) F L N P hc hs with ⟨p1, i1, hlt, hG, k2, k8⟩ | ⟨p', F', N', P', hp', fc, fn, k2, k8⟩
  · refine Or.inl ⟨p1, i1, hlt, hG, fun K hk => ?_, fun K hk => ?_⟩
    · have := k2 K hk
      rw [show (121 : Nat) = 120 + 1 from rfl, gX2_0] at this
      exact this
    · have := k8 K hk
      rw [show (121 : Nat) = 120 + 1 from rfl, gX8_0] at this
      exact this
  · refine Or.inr ⟨p', F', N', P', hp', fc, fn, fun K hk => ?_, fun K hk => ?_⟩
    · have := k2 K hk
      rw [show (121 : Nat) = 120 + 1 from rfl, gX2_0] at this
      exact this
    · have := k8 K hk
      rw [show (121 : Nat) = 120 + 1 from rfl, gX8_0] at this
      exact this
end GRAM4
