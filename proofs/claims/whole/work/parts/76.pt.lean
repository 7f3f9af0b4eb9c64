/-! ===== the grammar of tests, on both sides at once ===== -/
section GRAM
variable {κ : Nat → Int32} {m : Nat} {val : Nat → Int64} {N0 : M2}
def RES (κ : Nat → Int32) (m : Nat) (val : Nat → Int64) (w2 : W2) (w8 : W8) (a b : List Bool) (p : Nat) (F : M2) (L : L2) (N P : M2) : Prop := (∃ p' its, p < p' ∧ GI κ m p p' a b its ∧ (∀ K, K 1 (cT p' (cE val L its F)) L → w2 F L K) ∧ (∀ K, K 1 (rT p' (rR its N)) (rE val its P) → w8 N P K)) ∨ FAIL m w2 w8 F L N P
def RESL (κ : Nat → Int32) (m : Nat) (val : Nat → Int64) (w2 : W2) (w8 : W8) (a b : List Bool) (p : Nat) (F : M2) (L : L2) (N P : M2) : Prop := (∃ p' its, GI κ m p p' a b its ∧ (∀ K, K 1 (cT p' (cE val L its F)) L → w2 F L K) ∧ (∀ K, K 1 (rT p' (rR its N)) (rE val its P) → w8 N P K)) ∨ FAIL m w2 w8 F L N P
def CLM (κ : Nat → Int32) (m : Nat) (val : Nat → Int64) (N0 : M2) (n i2 i8 : Nat) (b : Bool) (need : Nat) : Prop := ∀ dp p d2 d8, dp ≤ 8 → need + 9 * (8 - dp) ≤ n → need + 9 * (8 - dp) ≤ d2 → need + 9 * (8 - dp) ≤ d8 → ∀ F L N P, SC κ m val F L p → SN κ m N0 N P p dp → RES κ m val (fun F L K => gX2 d2 i2 F L (nI dp) K) (fun N P K => gX8 d8 i8 N P 0 0 K) [] [b] p F L N P
def ALLn (κ : Nat → Int32) (m : Nat) (val : Nat → Int64) (N0 : M2) (n : Nat) : Prop := CLM κ m val N0 n 0 0 true 9 ∧ CLM κ m val N0 n 1 1 true 8 ∧ CLM κ m val N0 n 2 2 true 7 ∧ CLM κ m val N0 n 4 3 false 5 ∧ CLM κ m val N0 n 5 4 false 4 ∧ CLM κ m val N0 n 6 5 false 3
theorem SC.self {F : M2} {L : L2} {p : Nat} (h : SC κ m val F L p) : cT p F = F := by
  unfold cT
  rw [← h.1, up2_id]
theorem SN.self {N P : M2} {p dp : Nat} (h : SN κ m N0 N P p dp) : rT p N = N := by
  unfold rT
  rw [← h.1, up2_id]
theorem FC.to {F : M2} {L : L2} {q : Nat} {its : List IT} : FC F (cT q (cE val L its F)) q := by
  refine ⟨by unfold cT; rw [up2_s], fun k hk => ?_⟩
  unfold cT
  rw [up2_n _ _ (by omega), cE_n val L (by omega)]
theorem FN.to {N : M2} {q : Nat} {its : List IT} : FN N (rT q (rR its N)) q := by
  refine ⟨by unfold rT; rw [up2_s], fun k hk => ?_⟩
  unfold rT
  rw [up2_n _ _ (by omega), rR_n (by omega)]
theorem FC.adv {F : M2} {q : Nat} : FC F (cT q F) q := ⟨by unfold cT; rw [up2_s], fun k hk => by unfold cT; rw [up2_n _ _ (by omega)]⟩
theorem FN.adv {N : M2} {q : Nat} : FN N (rT q N) q := ⟨by unfold rT; rw [up2_s], fun k hk => by unfold rT; rw [up2_n _ _ (by omega)]⟩
theorem FC.self {F : M2} {L : L2} {p : Nat} (h : SC κ m val F L p) : FC F F p := ⟨by rw [h.1], fun _ _ => rfl⟩
theorem FN.self {N P : M2} {p dp : Nat} (h : SN κ m N0 N P p dp) : FN N N p := ⟨by rw [h.1], fun _ _ => rfl⟩
theorem FN.deep {N : M2} {q : Nat} {g : Nat → Int32} : FN N (rT q (up2 N 230 g)) q := ⟨by unfold rT; rw [up2_s], fun k hk => by unfold rT; rw [up2_n _ _ (by omega), up2_n _ _ (by omega)]⟩
theorem c_chain {F : M2} {L : L2} {q p1 : Nat} {i1 i2 : List IT} : cT q (cE val L i2 (cT p1 (cE val L i1 F))) = cT q (cE val L (i1 ++ i2) F) := by rw [cT_cE, cT_cT, cE_app]
theorem r_chain {N : M2} {q p1 : Nat} {i1 i2 : List IT} : rT q (rR i2 (rT p1 (rR i1 N))) = rT q (rR (i1 ++ i2) N) := by rw [rT_rR, rT_rT, rR_app]
theorem c_chain1 {F : M2} {L : L2} {q p1 : Nat} {i2 : List IT} : cT q (cE val L i2 (cT p1 F)) = cT q (cE val L i2 F) := by rw [cT_cE, cT_cT]
theorem r_chain1 {N : M2} {q p1 : Nat} {i2 : List IT} : rT q (rR i2 (rT p1 N)) = rT q (rR i2 N) := by rw [rT_rR, rT_rT]
theorem c_one {F : M2} {L : L2} {q : Nat} {i1 : List IT} {x : IT} : cE1 val L (cT q (cE val L i1 F)) x = cT q (cE val L (i1 ++ [x]) F) := by
  rw [cT_cE1, cE_app]
  rfl
theorem r_one {P : M2} {i1 : List IT} {x : IT} : rE1 val (rE val i1 P) x = rE val (i1 ++ [x]) P := by
  rw [rE_app]
  rfl
theorem rR_op {i1 : List IT} {op : Int32} (hn : ¬ isNm op) (N : M2) : rR (i1 ++ [(op, 0)]) N = rR i1 N := by
  rw [rR_app]
  show rR1 (rR i1 N) (op, 0) = _
  unfold rR1
  exact if_neg hn
theorem GI.nil {p : Nat} {a : List Bool} (h : p ≤ m) : GI κ m p p a a [] := ⟨by simp, h, fun _ => rfl, Nat.le_refl p, fun _ h => nomatch h⟩
theorem ge1 {d n : Nat} (h : n + 1 ≤ d) : ∃ g, d = g + 1 := ⟨d - 1, by omega⟩

theorem gX2_0 (d : Nat) (F : M2) (L : L2) (x : Int32) (K : Int32 → M2 → L2 → Prop) : gX2 (d + 1) 0 F L x K = wp_X2_test (gX2 d) F L x K := by simp [gX2]
theorem gX2_1 (d : Nat) (F : M2) (L : L2) (x : Int32) (K : Int32 → M2 → L2 → Prop) : gX2 (d + 1) 1 F L x K = wp_X2_both (gX2 d) F L x K := by simp [gX2]
theorem gX2_2 (d : Nat) (F : M2) (L : L2) (x : Int32) (K : Int32 → M2 → L2 → Prop) : gX2 (d + 1) 2 F L x K = wp_X2_single (gX2 d) F L x K := by simp [gX2]
theorem gX2_3 (d : Nat) (F : M2) (L : L2) (x : Int32) (K : Int32 → M2 → L2 → Prop) : gX2 (d + 1) 3 F L x K = wp_X2_comparison (gX2 d) F L x K := by simp [gX2]
theorem gX2_4 (d : Nat) (F : M2) (L : L2) (x : Int32) (K : Int32 → M2 → L2 → Prop) : gX2 (d + 1) 4 F L x K = wp_X2_sum (gX2 d) F L x K := by simp [gX2]
theorem gX2_5 (d : Nat) (F : M2) (L : L2) (x : Int32) (K : Int32 → M2 → L2 → Prop) : gX2 (d + 1) 5 F L x K = wp_X2_product (gX2 d) F L x K := by simp [gX2]
theorem gX2_6 (d : Nat) (F : M2) (L : L2) (x : Int32) (K : Int32 → M2 → L2 → Prop) : gX2 (d + 1) 6 F L x K = wp_X2_value (gX2 d) F L x K := by simp [gX2]
theorem gX2_7 (d : Nat) (F : M2) (L : L2) (x : Int32) (K : Int32 → M2 → L2 → Prop) : gX2 (d + 1) 7 F L x K = wp_X2_inBrackets (gX2 d) F L x K := by simp [gX2]
theorem gX2_8 (d : Nat) (F : M2) (L : L2) (x : Int32) (K : Int32 → M2 → L2 → Prop) : gX2 (d + 1) 8 F L x K = wp_X2_ofTwo (gX2 d) F L x K := by simp [gX2]
theorem gX8_0 (d : Nat) (N P : M2) (x y : Int32) (K : Int32 → M2 → M2 → Prop) : gX8 (d + 1) 0 N P x y K = wp_X8_isTest (gX8 d) N P K := by simp [gX8]
theorem gX8_1 (d : Nat) (N P : M2) (x y : Int32) (K : Int32 → M2 → M2 → Prop) : gX8 (d + 1) 1 N P x y K = wp_X8_isBoth (gX8 d) N P K := by simp [gX8]
theorem gX8_2 (d : Nat) (N P : M2) (x y : Int32) (K : Int32 → M2 → M2 → Prop) : gX8 (d + 1) 2 N P x y K = wp_X8_isSingle (gX8 d) N P K := by simp [gX8]
theorem gX8_3 (d : Nat) (N P : M2) (x y : Int32) (K : Int32 → M2 → M2 → Prop) : gX8 (d + 1) 3 N P x y K = wp_X8_isSum (gX8 d) N P K := by simp [gX8]
theorem gX8_4 (d : Nat) (N P : M2) (x y : Int32) (K : Int32 → M2 → M2 → Prop) : gX8 (d + 1) 4 N P x y K = wp_X8_isProduct (gX8 d) N P K := by simp [gX8]
theorem gX8_5 (d : Nat) (N P : M2) (x y : Int32) (K : Int32 → M2 → M2 → Prop) : gX8 (d + 1) 5 N P x y K = wp_X8_isValue (gX8 d) N P K := by simp [gX8]
theorem gX8_6 (d : Nat) (N P : M2) (x y : Int32) (K : Int32 → M2 → M2 → Prop) : gX8 (d + 1) 6 N P x y K = wp_X8_isInside (gX8 d) N P x y K := by simp [gX8]
theorem stop_test {G : Nat → M2 → L2 → Int32 → (Int32 → M2 → L2 → Prop) → Prop} {K : Int32 → M2 → L2 → Prop} {f : Nat} {F : M2} {L : L2} {x v : Int32} (h : K 0 F L) : wl_X2_test_8 G K (f + 1) F L x 0 v := And.intro (fun _ => ⟨by decide, h⟩) (fun _ => And.intro (fun _ => ⟨by decide, h⟩) (fun z => absurd rfl z))
theorem pz_testL (hK : KIN κ m) {n : Nat} (hS : CLM κ m val N0 n 1 1 true 8) {dp d2 d8 : Nat} (hdp : dp ≤ 8) (hn : 8 + 9 * (8 - dp) ≤ n) (h2 : 8 + 9 * (8 - dp) ≤ d2) (h8 : 8 + 9 * (8 - dp) ≤ d8) : ∀ (t p i f2 f8 : Nat) (F : M2) (L : L2) (N P : M2), m - p ≤ t → i ≤ p → t < f2 → t < f8 → SC κ m val F L p → SN κ m N0 N P p dp → RESL κ m val (fun F L K => wl_X2_test_8 (gX2 d2) K f2 F L (nI dp) 1 (nI i)) (fun N P K => wl_X8_isTest_9 (gX8 d8) K f8 N P) [true] [true] p F L N P := by
  intro t
  have hm := hK.1
  induction t with
  | zero =>
    intro p i f2 f8 F L N P ht hi hf2 hf8 hc hs
    obtain ⟨f2, rfl, _⟩ := fuel hf2
    obtain ⟨f8, rfl, _⟩ := fuel hf8
    have hpm := hc.2.1
    have e : p = m := by omega
    have hno : ¬ κ p = 29 := fun z => by
      have := hK.lt hpm z (by decide)
      omega
    refine Or.inl ⟨p, [], GI.nil hpm, fun K hk => ?_, fun K hk => ?_⟩
    · have hk : K 1 (cT p F) L := hk
      rw [hc.self] at hk
      exact And.intro (fun _ => ⟨by decide, hk⟩) (fun _ => And.intro (fun z => absurd z (by decide)) (fun _ => c_take hc hK (fun c => absurd ((ck_25 (hK.2.1 p hpm)).mp c) hno) (fun _ => And.intro (fun _ => ⟨by decide, hk⟩) (fun z => absurd rfl z))))
    · have hk : K 1 (rT p N) P := hk
      rw [hs.self] at hk
      exact r_eat hs hK (fun c => absurd c hno) (fun _ => And.intro (fun _ => hk) (fun z => absurd rfl z))
  | succ t ih =>
    intro p i f2 f8 F L N P ht hi hf2 hf8 hc hs
    obtain ⟨f2, rfl, _⟩ := fuel hf2
    obtain ⟨f8, rfl, _⟩ := fuel hf8
    have hpm := hc.2.1
    by_cases hk0 : κ p = 29
    · have hp1 := hK.lt hpm hk0 (by decide)
      have hck : ck (κ p) = 25 := (ck_25 (hK.2.1 p hpm)).mpr hk0
      have ni : ¬ (400 : Int32) ≤ nI i := by
        have : (400 : Int32) = nI 400 := rfl
        rw [this, le_nI (by omega) (by omega)]
        omega
      have hc1 := hc.adv (q := p + 1) (by omega)
      have hs1 := hs.adv (q := p + 1) (by omega) (by omega)
      rcases hS dp (p + 1) d2 d8 hdp hn h2 h8 _ L _ P hc1 hs1 with ⟨p1, i1, hlt, hG, k2, k8⟩ | ⟨p', F', N', P', hp', fc, fn, k2, k8⟩
      · have hG1 : GI κ m p p1 [true] [true] (i1 ++ [(25, 0)]) := (hG.under [true]).op (by decide) (by decide) (by decide) (fun _ => rfl)
        have hc2 := hc.to (q := p1) hG.2.1 (i1 ++ [(25, 0)])
        have hs2 := hs.to (val := val) hG1
        have hsm := hs1.to (val := val) hG
        have step2 : ∀ K, wl_X2_test_8 (gX2 d2) K f2 (cT p1 (cE val L (i1 ++ [(25, 0)]) F)) L (nI dp) 1 (nI (i + 1)) → wl_X2_test_8 (gX2 d2) K (f2 + 1) F L (nI dp) 1 (nI i) := fun K hk =>
          And.intro (fun c => absurd c ni) (fun _ => And.intro (fun z => absurd z (by decide)) (fun _ => c_take hc hK (fun _ => And.intro (fun z => absurd z (by decide)) (fun _ => k2 _ (And.intro (fun z => absurd z (by decide)) (fun _ => c_op (val := val) (by decide) (by decide) (by decide) (And.intro (fun z => absurd z (by decide)) (fun _ v ev => by
            subst ev
            rw [nI_1, c_chain1, c_one]
            exact hk)))))) (fun c => absurd hck c)))
        have step8 : ∀ K, wl_X8_isTest_9 (gX8 d8) K f8 (rT p1 (rR (i1 ++ [(25, 0)]) N)) (rE val (i1 ++ [(25, 0)]) P) → wl_X8_isTest_9 (gX8 d8) K (f8 + 1) N P := fun K hk =>
          r_eat hs hK (fun _ => And.intro (fun z => absurd z (by decide)) (fun _ => k8 _ (And.intro (fun _ => by
            have hp0 : p1 < m ∨ p1 = m := by have := hG.2.1; omega
            obtain ⟨c, o', g6, g7, _⟩ := hsm.2.2.2.2.2
            have hcl : c < 800 := by
              have e := rE_264 (val := val) i1 (hs.2.2.2.2.2.choose_spec.choose_spec.1)
              have l := lenR_le i1
              have b := hs.2.2.2.2.2.choose_spec.choose_spec.2.1
              have g := hG.1
              have e2 := nI_inj (by have := hG.2.1; omega) (by have := hG.2.1; omega) (g6.symm.trans e)
              have := hG.2.1
              omega
            refine r_put g6 hcl ?_
            rw [r_chain1]
            have e3 : pt (rE val i1 P) 29 = rE val (i1 ++ [(25, 0)]) P := by
              rw [← r_one]
              rfl
            rw [e3, ← rR_op (op := 25) (by decide)]
            exact hk) (fun z => absurd z (by decide))))) (fun c => absurd hk0 c)
        rcases ih p1 (i + 1) f2 f8 _ L _ _ (by omega) (by omega) (by omega) (by omega) hc2 hs2 with ⟨p2, i2, hG2, l2, l8⟩ | ⟨p', F', N', P', hp', fc, fn, l2, l8⟩
        · refine Or.inl ⟨p2, (i1 ++ [(25, 0)]) ++ i2, hG1.app hG2, fun K hk => step2 K (l2 K ?_), fun K hk => step8 K (l8 K ?_)⟩
          · rw [c_chain]
            exact hk
          · rw [r_chain, ← rE_app]
            exact hk
        · exact Or.inr ⟨p', F', N', P', hp', FC.to.trans fc, FN.to.trans fn, fun K hk => step2 K (l2 K hk), fun K hk => step8 K (l8 K hk)⟩
      · obtain ⟨f2, rfl, _⟩ := fuel (show 0 < f2 by omega)
        refine Or.inr ⟨p', F', N', P', hp', FC.adv.trans fc, FN.adv.trans fn, fun K hk => ?_, fun K hk => ?_⟩
        · exact And.intro (fun c => absurd c ni) (fun _ => And.intro (fun z => absurd z (by decide)) (fun _ => c_take hc hK (fun _ => And.intro (fun z => absurd z (by decide)) (fun _ => k2 _ (And.intro (fun _ v ev => stop_test hk) (fun z => absurd rfl z)))) (fun c => absurd hck c)))
        · exact r_eat hs hK (fun _ => And.intro (fun z => absurd z (by decide)) (fun _ => k8 _ (And.intro (fun z => absurd rfl z) (fun _ => hk)))) (fun c => absurd hk0 c)
    · refine Or.inl ⟨p, [], GI.nil hpm, fun K hk => ?_, fun K hk => ?_⟩
      · have hk : K 1 (cT p F) L := hk
        rw [hc.self] at hk
        exact And.intro (fun _ => ⟨by decide, hk⟩) (fun _ => And.intro (fun z => absurd z (by decide)) (fun _ => c_take hc hK (fun c => absurd ((ck_25 (hK.2.1 p hpm)).mp c) hk0) (fun _ => And.intro (fun _ => ⟨by decide, hk⟩) (fun z => absurd rfl z))))
      · have hk : K 1 (rT p N) P := hk
        rw [hs.self] at hk
        exact r_eat hs hK (fun c => absurd c hk0) (fun _ => And.intro (fun _ => hk) (fun z => absurd rfl z))
theorem pz_test (hK : KIN κ m) {n : Nat} (hS : CLM κ m val N0 n 1 1 true 8) : CLM κ m val N0 (n + 1) 0 0 true 9 := by
  intro dp p d2 d8 hdp hn h2 h8 F L N P hc hs
  have hm := hK.1
  obtain ⟨d2, rfl⟩ := ge1 (show 0 + 1 ≤ d2 by omega)
  obtain ⟨d8, rfl⟩ := ge1 (show 0 + 1 ≤ d8 by omega)
  rcases hS dp p d2 d8 hdp (by omega) (by omega) (by omega) F L N P hc hs with ⟨p1, i1, hlt, hG, k2, k8⟩ | ⟨p', F', N', P', hp', fc, fn, k2, k8⟩
  · have hc1 := hc.to (q := p1) hG.2.1 i1
    have hs1 := hs.to (val := val) hG
    have s2 : ∀ K, wl_X2_test_8 (gX2 d2) K fK (cT p1 (cE val L i1 F)) L (nI dp) 1 (nI 0) → gX2 (d2 + 1) 0 F L (nI dp) K := fun K hk => by
      rw [gX2_0]
      exact k2 _ hk
    have s8 : ∀ K, wl_X8_isTest_9 (gX8 d8) K fK (rT p1 (rR i1 N)) (rE val i1 P) → gX8 (d8 + 1) 0 N P 0 0 K := fun K hk => by
      rw [gX8_0]
      exact k8 _ (And.intro (fun _ => hk) (fun z => absurd z (by decide)))
    rcases pz_testL (d2 := d2) (d8 := d8) hK hS hdp (by omega) (by omega) (by omega) m p1 0 fK fK _ L _ _ (by omega) (by omega) (by rw [fK_eq]; omega) (by rw [fK_eq]; omega) hc1 hs1 with ⟨p2, i2, hG2, l2, l8⟩ | ⟨p', F', N', P', hp', fc, fn, l2, l8⟩
    · have hle := hG2.1
      refine Or.inl ⟨p2, i1 ++ i2, by omega, hG.app hG2, fun K hk => s2 K (l2 K ?_), fun K hk => s8 K (l8 K ?_)⟩
      · rw [c_chain]
        exact hk
      · rw [r_chain, ← rE_app]
        exact hk
    · exact Or.inr ⟨p', F', N', P', hp', FC.to.trans fc, FN.to.trans fn, fun K hk => s2 K (l2 K hk), fun K hk => s8 K (l8 K hk)⟩
  · refine Or.inr ⟨p', F', N', P', hp', fc, fn, fun K hk => ?_, fun K hk => ?_⟩
    · show gX2 (d2 + 1) 0 F L (nI dp) K
      rw [gX2_0]
      exact k2 _ (stop_test hk)
    · show gX8 (d8 + 1) 0 N P 0 0 K
      rw [gX8_0]
      exact k8 _ (And.intro (fun z => absurd rfl z) (fun _ => hk))
theorem stop_both {G : Nat → M2 → L2 → Int32 → (Int32 → M2 → L2 → Prop) → Prop} {K : Int32 → M2 → L2 → Prop} {f : Nat} {F : M2} {L : L2} {x v : Int32} (h : K 0 F L) : wl_X2_both_8 G K (f + 1) F L x 0 v := And.intro (fun _ => ⟨by decide, h⟩) (fun _ => And.intro (fun _ => ⟨by decide, h⟩) (fun z => absurd rfl z))
theorem pz_bothL (hK : KIN κ m) {n : Nat} (hS : CLM κ m val N0 n 2 2 true 7) {dp d2 d8 : Nat} (hdp : dp ≤ 8) (hn : 7 + 9 * (8 - dp) ≤ n) (h2 : 7 + 9 * (8 - dp) ≤ d2) (h8 : 7 + 9 * (8 - dp) ≤ d8) : ∀ (t p i f2 f8 : Nat) (F : M2) (L : L2) (N P : M2), m - p ≤ t → i ≤ p → t < f2 → t < f8 → SC κ m val F L p → SN κ m N0 N P p dp → RESL κ m val (fun F L K => wl_X2_both_8 (gX2 d2) K f2 F L (nI dp) 1 (nI i)) (fun N P K => wl_X8_isBoth_9 (gX8 d8) K f8 N P) [true] [true] p F L N P := by
  intro t
  have hm := hK.1
  induction t with
  | zero =>
    intro p i f2 f8 F L N P ht hi hf2 hf8 hc hs
    obtain ⟨f2, rfl, _⟩ := fuel hf2
    obtain ⟨f8, rfl, _⟩ := fuel hf8
    have hpm := hc.2.1
    have e : p = m := by omega
    have hno : ¬ κ p = 16 := fun z => by
      have := hK.lt hpm z (by decide)
      omega
    refine Or.inl ⟨p, [], GI.nil hpm, fun K hk => ?_, fun K hk => ?_⟩
    · have hk : K 1 (cT p F) L := hk
      rw [hc.self] at hk
      exact And.intro (fun _ => ⟨by decide, hk⟩) (fun _ => And.intro (fun z => absurd z (by decide)) (fun _ => c_take hc hK (fun c => absurd ((ck_24 (hK.2.1 p hpm)).mp c) hno) (fun _ => And.intro (fun _ => ⟨by decide, hk⟩) (fun z => absurd rfl z))))
    · have hk : K 1 (rT p N) P := hk
      rw [hs.self] at hk
      exact r_eat hs hK (fun c => absurd c hno) (fun _ => And.intro (fun _ => hk) (fun z => absurd rfl z))
  | succ t ih =>
    intro p i f2 f8 F L N P ht hi hf2 hf8 hc hs
    obtain ⟨f2, rfl, _⟩ := fuel hf2
    obtain ⟨f8, rfl, _⟩ := fuel hf8
    have hpm := hc.2.1
    by_cases hk0 : κ p = 16
    · have hp1 := hK.lt hpm hk0 (by decide)
      have hck : ck (κ p) = 24 := (ck_24 (hK.2.1 p hpm)).mpr hk0
      have ni : ¬ (400 : Int32) ≤ nI i := by
        have : (400 : Int32) = nI 400 := rfl
        rw [this, le_nI (by omega) (by omega)]
        omega
      have hc1 := hc.adv (q := p + 1) (by omega)
      have hs1 := hs.adv (q := p + 1) (by omega) (by omega)
      rcases hS dp (p + 1) d2 d8 hdp hn h2 h8 _ L _ P hc1 hs1 with ⟨p1, i1, hlt, hG, k2, k8⟩ | ⟨p', F', N', P', hp', fc, fn, k2, k8⟩
      · have hG1 : GI κ m p p1 [true] [true] (i1 ++ [(24, 0)]) := (hG.under [true]).op (by decide) (by decide) (by decide) (fun _ => rfl)
        have hc2 := hc.to (q := p1) hG.2.1 (i1 ++ [(24, 0)])
        have hs2 := hs.to (val := val) hG1
        have hsm := hs1.to (val := val) hG
        have step2 : ∀ K, wl_X2_both_8 (gX2 d2) K f2 (cT p1 (cE val L (i1 ++ [(24, 0)]) F)) L (nI dp) 1 (nI (i + 1)) → wl_X2_both_8 (gX2 d2) K (f2 + 1) F L (nI dp) 1 (nI i) := fun K hk =>
          And.intro (fun c => absurd c ni) (fun _ => And.intro (fun z => absurd z (by decide)) (fun _ => c_take hc hK (fun _ => And.intro (fun z => absurd z (by decide)) (fun _ => k2 _ (And.intro (fun z => absurd z (by decide)) (fun _ => c_op (val := val) (by decide) (by decide) (by decide) (And.intro (fun z => absurd z (by decide)) (fun _ v ev => by
            subst ev
            rw [nI_1, c_chain1, c_one]
            exact hk)))))) (fun c => absurd hck c)))
        have step8 : ∀ K, wl_X8_isBoth_9 (gX8 d8) K f8 (rT p1 (rR (i1 ++ [(24, 0)]) N)) (rE val (i1 ++ [(24, 0)]) P) → wl_X8_isBoth_9 (gX8 d8) K (f8 + 1) N P := fun K hk =>
          r_eat hs hK (fun _ => And.intro (fun z => absurd z (by decide)) (fun _ => k8 _ (And.intro (fun _ => by
            have hp0 : p1 < m ∨ p1 = m := by have := hG.2.1; omega
            obtain ⟨c, o', g6, g7, _⟩ := hsm.2.2.2.2.2
            have hcl : c < 800 := by
              have e := rE_264 (val := val) i1 (hs.2.2.2.2.2.choose_spec.choose_spec.1)
              have l := lenR_le i1
              have b := hs.2.2.2.2.2.choose_spec.choose_spec.2.1
              have g := hG.1
              have e2 := nI_inj (by have := hG.2.1; omega) (by have := hG.2.1; omega) (g6.symm.trans e)
              have := hG.2.1
              omega
            refine r_put g6 hcl ?_
            rw [r_chain1]
            have e3 : pt (rE val i1 P) 16 = rE val (i1 ++ [(24, 0)]) P := by
              rw [← r_one]
              rfl
            rw [e3, ← rR_op (op := 24) (by decide)]
            exact hk) (fun z => absurd z (by decide))))) (fun c => absurd hk0 c)
        rcases ih p1 (i + 1) f2 f8 _ L _ _ (by omega) (by omega) (by omega) (by omega) hc2 hs2 with ⟨p2, i2, hG2, l2, l8⟩ | ⟨p', F', N', P', hp', fc, fn, l2, l8⟩
        · refine Or.inl ⟨p2, (i1 ++ [(24, 0)]) ++ i2, hG1.app hG2, fun K hk => step2 K (l2 K ?_), fun K hk => step8 K (l8 K ?_)⟩
          · rw [c_chain]
            exact hk
          · rw [r_chain, ← rE_app]
            exact hk
        · exact Or.inr ⟨p', F', N', P', hp', FC.to.trans fc, FN.to.trans fn, fun K hk => step2 K (l2 K hk), fun K hk => step8 K (l8 K hk)⟩
      · obtain ⟨f2, rfl, _⟩ := fuel (show 0 < f2 by omega)
        refine Or.inr ⟨p', F', N', P', hp', FC.adv.trans fc, FN.adv.trans fn, fun K hk => ?_, fun K hk => ?_⟩
        · exact And.intro (fun c => absurd c ni) (fun _ => And.intro (fun z => absurd z (by decide)) (fun _ => c_take hc hK (fun _ => And.intro (fun z => absurd z (by decide)) (fun _ => k2 _ (And.intro (fun _ v ev => stop_both hk) (fun z => absurd rfl z)))) (fun c => absurd hck c)))
        · exact r_eat hs hK (fun _ => And.intro (fun z => absurd z (by decide)) (fun _ => k8 _ (And.intro (fun z => absurd rfl z) (fun _ => hk)))) (fun c => absurd hk0 c)
    · refine Or.inl ⟨p, [], GI.nil hpm, fun K hk => ?_, fun K hk => ?_⟩
      · have hk : K 1 (cT p F) L := hk
        rw [hc.self] at hk
        exact And.intro (fun _ => ⟨by decide, hk⟩) (fun _ => And.intro (fun z => absurd z (by decide)) (fun _ => c_take hc hK (fun c => absurd ((ck_24 (hK.2.1 p hpm)).mp c) hk0) (fun _ => And.intro (fun _ => ⟨by decide, hk⟩) (fun z => absurd rfl z))))
      · have hk : K 1 (rT p N) P := hk
        rw [hs.self] at hk
        exact r_eat hs hK (fun c => absurd c hk0) (fun _ => And.intro (fun _ => hk) (fun z => absurd rfl z))
theorem pz_both (hK : KIN κ m) {n : Nat} (hS : CLM κ m val N0 n 2 2 true 7) : CLM κ m val N0 (n + 1) 1 1 true 8 := by
  intro dp p d2 d8 hdp hn h2 h8 F L N P hc hs
  have hm := hK.1
  obtain ⟨d2, rfl⟩ := ge1 (show 0 + 1 ≤ d2 by omega)
  obtain ⟨d8, rfl⟩ := ge1 (show 0 + 1 ≤ d8 by omega)
  rcases hS dp p d2 d8 hdp (by omega) (by omega) (by omega) F L N P hc hs with ⟨p1, i1, hlt, hG, k2, k8⟩ | ⟨p', F', N', P', hp', fc, fn, k2, k8⟩
  · have hc1 := hc.to (q := p1) hG.2.1 i1
    have hs1 := hs.to (val := val) hG
    have s2 : ∀ K, wl_X2_both_8 (gX2 d2) K fK (cT p1 (cE val L i1 F)) L (nI dp) 1 (nI 0) → gX2 (d2 + 1) 1 F L (nI dp) K := fun K hk => by
      rw [gX2_1]
      exact k2 _ hk
    have s8 : ∀ K, wl_X8_isBoth_9 (gX8 d8) K fK (rT p1 (rR i1 N)) (rE val i1 P) → gX8 (d8 + 1) 1 N P 0 0 K := fun K hk => by
      rw [gX8_1]
      exact k8 _ (And.intro (fun _ => hk) (fun z => absurd z (by decide)))
    rcases pz_bothL (d2 := d2) (d8 := d8) hK hS hdp (by omega) (by omega) (by omega) m p1 0 fK fK _ L _ _ (by omega) (by omega) (by rw [fK_eq]; omega) (by rw [fK_eq]; omega) hc1 hs1 with ⟨p2, i2, hG2, l2, l8⟩ | ⟨p', F', N', P', hp', fc, fn, l2, l8⟩
    · have hle := hG2.1
      refine Or.inl ⟨p2, i1 ++ i2, by omega, hG.app hG2, fun K hk => s2 K (l2 K ?_), fun K hk => s8 K (l8 K ?_)⟩
      · rw [c_chain]
        exact hk
      · rw [r_chain, ← rE_app]
        exact hk
    · exact Or.inr ⟨p', F', N', P', hp', FC.to.trans fc, FN.to.trans fn, fun K hk => s2 K (l2 K hk), fun K hk => s8 K (l8 K hk)⟩
  · refine Or.inr ⟨p', F', N', P', hp', fc, fn, fun K hk => ?_, fun K hk => ?_⟩
    · show gX2 (d2 + 1) 1 F L (nI dp) K
      rw [gX2_1]
      exact k2 _ (stop_both hk)
    · show gX8 (d8 + 1) 1 N P 0 0 K
      rw [gX8_1]
      exact k8 _ (And.intro (fun z => absurd rfl z) (fun _ => hk))
theorem stop_sum {G : Nat → M2 → L2 → Int32 → (Int32 → M2 → L2 → Prop) → Prop} {K : Int32 → M2 → L2 → Prop} {f : Nat} {F : M2} {L : L2} {x v : Int32} (h : K 0 F L) : wl_X2_sum_8 G K (f + 1) F L x 0 v := And.intro (fun _ => ⟨by decide, h⟩) (fun _ => And.intro (fun _ => ⟨by decide, h⟩) (fun z => absurd rfl z))
theorem pz_sumL (hK : KIN κ m) {n : Nat} (hS : CLM κ m val N0 n 5 4 false 4) {dp d2 d8 : Nat} (hdp : dp ≤ 8) (hn : 4 + 9 * (8 - dp) ≤ n) (h2 : 4 + 9 * (8 - dp) ≤ d2) (h8 : 4 + 9 * (8 - dp) ≤ d8) : ∀ (t p i f2 f8 : Nat) (F : M2) (L : L2) (N P : M2), m - p < t → i ≤ p → t < f2 → t < f8 → SC κ m val F L p → SN κ m N0 N P p dp → RESL κ m val (fun F L K => wl_X2_sum_8 (gX2 d2) K f2 F L (nI dp) 1 (nI i)) (fun N P K => wl_X8_isSum_9 (gX8 d8) K f8 N P) [false] [false] p F L N P := by
  intro t
  have hm := hK.1
  induction t with
  | zero =>
    intro p i f2 f8 F L N P ht
    omega
  | succ t ih =>
    intro p i f2 f8 F L N P ht hi hf2 hf8 hc hs
    obtain ⟨f2, rfl, _⟩ := fuel hf2
    obtain ⟨f8, rfl, _⟩ := fuel hf8
    have hpm := hc.2.1
    -- one round with the operation op
    have go : ∀ (op x : Int32), p < m → encV op = x → ¬ isNm op → op ≠ 4 → op ≠ 7 → (∀ ts, tcO1 op (false :: false :: ts) = some (false :: ts)) → ck (κ p) = op →
        RESL κ m val (fun F L K => wj_X2_sum_37 (gX2 d2) (wl_X2_sum_8 (gX2 d2) K f2) K F L (nI dp) (nI i)) (fun N P K => wj_X8_isSum_43 (gX8 d8) (wl_X8_isSum_9 (gX8 d8) K f8) K N P x) [false] [false] p F L N P := fun op x hp1 hx hnm h4 h7 htc hck => by
      have hc1 := hc.adv (q := p + 1) (by omega)
      have hs1 := hs.adv (q := p + 1) (by omega) (by omega)
      rcases hS dp (p + 1) d2 d8 hdp hn h2 h8 _ L _ P hc1 hs1 with ⟨p1, i1, hlt, hG, k2, k8⟩ | ⟨p', F', N', P', hp', fc, fn, k2, k8⟩
      · have hG1 : GI κ m p p1 [false] [false] (i1 ++ [(op, 0)]) := (hG.under [false]).op hnm h4 h7 htc
        have hc2 := hc.to (q := p1) hG.2.1 (i1 ++ [(op, 0)])
        have hs2 := hs.to (val := val) hG1
        have hsm := hs1.to (val := val) hG
        have step2 : ∀ K, wl_X2_sum_8 (gX2 d2) K f2 (cT p1 (cE val L (i1 ++ [(op, 0)]) F)) L (nI dp) 1 (nI (i + 1)) → wj_X2_sum_37 (gX2 d2) (wl_X2_sum_8 (gX2 d2) K f2) K F L (nI dp) (nI i) := fun K hk => by
          refine c_peek hc hK (fun F1 e1 => ?_)
          rw [hc.inc] at e1
          subst e1
          rw [hck]
          refine k2 _ (And.intro (fun z => absurd z (by decide)) (fun _ => c_op (val := val) hnm h4 h7 (And.intro (fun z => absurd z (by decide)) (fun _ v ev => ?_))))
          subst ev
          rw [nI_1, c_chain1, c_one]
          exact hk
        have step8 : ∀ K, wl_X8_isSum_9 (gX8 d8) K f8 (rT p1 (rR (i1 ++ [(op, 0)]) N)) (rE val (i1 ++ [(op, 0)]) P) → wj_X8_isSum_43 (gX8 d8) (wl_X8_isSum_9 (gX8 d8) K f8) K N P x := fun K hk N1 e1 => by
          rw [hs.inc] at e1
          subst e1
          refine k8 _ (And.intro (fun _ => ?_) (fun z => absurd z (by decide)))
          obtain ⟨c, o', g6, g7, _⟩ := hsm.2.2.2.2.2
          have hcl : c < 800 := by
            have e := rE_264 (val := val) i1 (hs.2.2.2.2.2.choose_spec.choose_spec.1)
            have l := lenR_le i1
            have b := hs.2.2.2.2.2.choose_spec.choose_spec.2.1
            have g := hG.1
            have e2 := nI_inj (by have := hG.2.1; omega) (by have := hG.2.1; omega) (g6.symm.trans e)
            have := hG.2.1
            omega
          refine r_put g6 hcl ?_
          rw [r_chain1]
          have e3 : pt (rE val i1 P) x = rE val (i1 ++ [(op, 0)]) P := by
            rw [← r_one]
            unfold rE1
            dsimp only
            rw [if_neg (fun z => z.elim h4 h7), if_neg hnm, hx]
          rw [e3, ← rR_op (op := op) hnm]
          exact hk
        rcases ih p1 (i + 1) f2 f8 _ L _ _ (by omega) (by omega) (by omega) (by omega) hc2 hs2 with ⟨p2, i2, hG2, l2, l8⟩ | ⟨p', F', N', P', hp', fc, fn, l2, l8⟩
        · refine Or.inl ⟨p2, (i1 ++ [(op, 0)]) ++ i2, hG1.app hG2, fun K hk => step2 K (l2 K ?_), fun K hk => step8 K (l8 K ?_)⟩
          · rw [c_chain]
            exact hk
          · rw [r_chain, ← rE_app]
            exact hk
        · exact Or.inr ⟨p', F', N', P', hp', FC.to.trans fc, FN.to.trans fn, fun K hk => step2 K (l2 K hk), fun K hk => step8 K (l8 K hk)⟩
      · obtain ⟨f2, rfl, _⟩ := fuel (show 0 < f2 by omega)
        refine Or.inr ⟨p', F', N', P', hp', FC.adv.trans fc, FN.adv.trans fn, fun K hk => ?_, fun K hk N1 e1 => ?_⟩
        · refine c_peek hc hK (fun F1 e1 => ?_)
          rw [hc.inc] at e1
          subst e1
          exact k2 _ (And.intro (fun _ v ev => stop_sum hk) (fun z => absurd rfl z))
        · rw [hs.inc] at e1
          subst e1
          exact k8 _ (And.intro (fun z => absurd rfl z) (fun _ => hk))
    have ni : p < m → ¬ (400 : Int32) ≤ nI i := fun hp1 => by
      have : (400 : Int32) = nI 400 := rfl
      rw [this, le_nI (by omega) (by omega)]
      omega
    by_cases ha : κ p = 93
    · have hp1 := hK.lt hpm ha (by decide)
      have hck : ck (κ p) = 15 := (ck_15 (hK.2.1 p hpm)).mpr ha
      have s2 : ∀ K, wj_X2_sum_37 (gX2 d2) (wl_X2_sum_8 (gX2 d2) K f2) K F L (nI dp) (nI i) → wl_X2_sum_8 (gX2 d2) K (f2 + 1) F L (nI dp) 1 (nI i) := fun K hk => And.intro (fun c => absurd c (ni hp1)) (fun _ => And.intro (fun z => absurd z (by decide)) (fun _ => c_peek hc hK (And.intro (fun _ => hk) (fun c => absurd hck c))))
      have s8 : ∀ K, wj_X8_isSum_43 (gX8 d8) (wl_X8_isSum_9 (gX8 d8) K f8) K N P 34 → wl_X8_isSum_9 (gX8 d8) K (f8 + 1) N P := fun K hk => r_sign hs hK (y := 93) (by decide) (fun _ => And.intro (fun _ => r_sign hs hK (y := 93) (by decide) (fun _ => And.intro (fun z => absurd z (by decide)) (fun _ => hk)) (fun c => absurd ha c)) (fun z => absurd z (by decide))) (fun c => absurd ha c)
      rcases go 15 34 hp1 (by decide) (by decide) (by decide) (by decide) (fun _ => rfl) hck with ⟨p2, i2, hG2, l2, l8⟩ | ⟨p', F', N', P', hp', fc, fn, l2, l8⟩
      · exact Or.inl ⟨p2, i2, hG2, fun K hk => s2 K (l2 K hk), fun K hk => s8 K (l8 K hk)⟩
      · exact Or.inr ⟨p', F', N', P', hp', fc, fn, fun K hk => s2 K (l2 K hk), fun K hk => s8 K (l8 K hk)⟩
    have na : ¬ ck (κ p) = 15 := fun z => ha ((ck_15 (hK.2.1 p hpm)).mp z)
    by_cases hb : κ p = 95
    · have hp1 := hK.lt hpm hb (by decide)
      have hck : ck (κ p) = 16 := (ck_16 (hK.2.1 p hpm)).mpr hb
      have s2 : ∀ K, wj_X2_sum_37 (gX2 d2) (wl_X2_sum_8 (gX2 d2) K f2) K F L (nI dp) (nI i) → wl_X2_sum_8 (gX2 d2) K (f2 + 1) F L (nI dp) 1 (nI i) := fun K hk => And.intro (fun c => absurd c (ni hp1)) (fun _ => And.intro (fun z => absurd z (by decide)) (fun _ => c_peek hc hK (And.intro (fun c => absurd c na) (fun _ => c_peek hc hK (And.intro (fun c => absurd hck c) (fun _ => hk))))))
      have s8 : ∀ K, wj_X8_isSum_43 (gX8 d8) (wl_X8_isSum_9 (gX8 d8) K f8) K N P 35 → wl_X8_isSum_9 (gX8 d8) K (f8 + 1) N P := fun K hk => r_sign hs hK (y := 93) (by decide) (fun c => absurd c ha) (fun _ => And.intro (fun z => absurd rfl z) (fun _ => r_sign hs hK (y := 95) (by decide) (fun _ => And.intro (fun z => absurd z (by decide)) (fun _ => r_sign hs hK (y := 93) (by decide) (fun c => absurd c ha) (fun _ => And.intro (fun _ => hk) (fun z => absurd rfl z)))) (fun c => absurd hb c)))
      rcases go 16 35 hp1 (by decide) (by decide) (by decide) (by decide) (fun _ => rfl) hck with ⟨p2, i2, hG2, l2, l8⟩ | ⟨p', F', N', P', hp', fc, fn, l2, l8⟩
      · exact Or.inl ⟨p2, i2, hG2, fun K hk => s2 K (l2 K hk), fun K hk => s8 K (l8 K hk)⟩
      · exact Or.inr ⟨p', F', N', P', hp', fc, fn, fun K hk => s2 K (l2 K hk), fun K hk => s8 K (l8 K hk)⟩
    have nb : ¬ ck (κ p) = 16 := fun z => hb ((ck_16 (hK.2.1 p hpm)).mp z)
    refine Or.inl ⟨p, [], GI.nil hpm, fun K hk => ?_, fun K hk => ?_⟩
    · have hk : K 1 (cT p F) L := hk
      rw [hc.self] at hk
      exact And.intro (fun _ => ⟨by decide, hk⟩) (fun _ => And.intro (fun z => absurd z (by decide)) (fun _ => c_peek hc hK (And.intro (fun c => absurd c na) (fun _ => c_peek hc hK (And.intro (fun _ => ⟨by decide, hk⟩) (fun c => absurd c nb))))))
    · have hk : K 1 (rT p N) P := hk
      rw [hs.self] at hk
      exact r_sign hs hK (y := 93) (by decide) (fun c => absurd c ha) (fun _ => And.intro (fun z => absurd rfl z) (fun _ => r_sign hs hK (y := 95) (by decide) (fun c => absurd c hb) (fun _ => And.intro (fun _ => hk) (fun z => absurd rfl z))))
theorem pz_sum (hK : KIN κ m) {n : Nat} (hS : CLM κ m val N0 n 5 4 false 4) : CLM κ m val N0 (n + 1) 4 3 false 5 := by
  intro dp p d2 d8 hdp hn h2 h8 F L N P hc hs
  have hm := hK.1
  obtain ⟨d2, rfl⟩ := ge1 (show 0 + 1 ≤ d2 by omega)
  obtain ⟨d8, rfl⟩ := ge1 (show 0 + 1 ≤ d8 by omega)
  rcases hS dp p d2 d8 hdp (by omega) (by omega) (by omega) F L N P hc hs with ⟨p1, i1, hlt, hG, k2, k8⟩ | ⟨p', F', N', P', hp', fc, fn, k2, k8⟩
  · have hc1 := hc.to (q := p1) hG.2.1 i1
    have hs1 := hs.to (val := val) hG
    have s2 : ∀ K, wl_X2_sum_8 (gX2 d2) K fK (cT p1 (cE val L i1 F)) L (nI dp) 1 (nI 0) → gX2 (d2 + 1) 4 F L (nI dp) K := fun K hk => by
      rw [gX2_4]
      exact k2 _ hk
    have s8 : ∀ K, wl_X8_isSum_9 (gX8 d8) K fK (rT p1 (rR i1 N)) (rE val i1 P) → gX8 (d8 + 1) 3 N P 0 0 K := fun K hk => by
      rw [gX8_3]
      exact k8 _ (And.intro (fun _ => hk) (fun z => absurd z (by decide)))
    rcases pz_sumL (d2 := d2) (d8 := d8) hK hS hdp (by omega) (by omega) (by omega) (m + 1) p1 0 fK fK _ L _ _ (by omega) (by omega) (by rw [fK_eq]; omega) (by rw [fK_eq]; omega) hc1 hs1 with ⟨p2, i2, hG2, l2, l8⟩ | ⟨p', F', N', P', hp', fc, fn, l2, l8⟩
    · have hle := hG2.1
      refine Or.inl ⟨p2, i1 ++ i2, by omega, hG.app hG2, fun K hk => s2 K (l2 K ?_), fun K hk => s8 K (l8 K ?_)⟩
      · rw [c_chain]
        exact hk
      · rw [r_chain, ← rE_app]
        exact hk
    · exact Or.inr ⟨p', F', N', P', hp', FC.to.trans fc, FN.to.trans fn, fun K hk => s2 K (l2 K hk), fun K hk => s8 K (l8 K hk)⟩
  · refine Or.inr ⟨p', F', N', P', hp', fc, fn, fun K hk => ?_, fun K hk => ?_⟩
    · show gX2 (d2 + 1) 4 F L (nI dp) K
      rw [gX2_4]
      exact k2 _ (stop_sum hk)
    · show gX8 (d8 + 1) 3 N P 0 0 K
      rw [gX8_3]
      exact k8 _ (And.intro (fun z => absurd rfl z) (fun _ => hk))
theorem stop_product {G : Nat → M2 → L2 → Int32 → (Int32 → M2 → L2 → Prop) → Prop} {K : Int32 → M2 → L2 → Prop} {f : Nat} {F : M2} {L : L2} {x v : Int32} (h : K 0 F L) : wl_X2_product_8 G K (f + 1) F L x 0 v := And.intro (fun _ => ⟨by decide, h⟩) (fun _ => And.intro (fun _ => ⟨by decide, h⟩) (fun z => absurd rfl z))
theorem pz_productL (hK : KIN κ m) {n : Nat} (hS : CLM κ m val N0 n 6 5 false 3) {dp d2 d8 : Nat} (hdp : dp ≤ 8) (hn : 3 + 9 * (8 - dp) ≤ n) (h2 : 3 + 9 * (8 - dp) ≤ d2) (h8 : 3 + 9 * (8 - dp) ≤ d8) : ∀ (t p i f2 f8 : Nat) (F : M2) (L : L2) (N P : M2), m - p < t → i ≤ p → t < f2 → t < f8 → SC κ m val F L p → SN κ m N0 N P p dp → RESL κ m val (fun F L K => wl_X2_product_8 (gX2 d2) K f2 F L (nI dp) 1 (nI i)) (fun N P K => wl_X8_isProduct_9 (gX8 d8) K f8 N P) [false] [false] p F L N P := by
  intro t
  have hm := hK.1
  induction t with
  | zero =>
    intro p i f2 f8 F L N P ht
    omega
  | succ t ih =>
    intro p i f2 f8 F L N P ht hi hf2 hf8 hc hs
    obtain ⟨f2, rfl, _⟩ := fuel hf2
    obtain ⟨f8, rfl, _⟩ := fuel hf8
    have hpm := hc.2.1
    -- one round with the operation op
    have go : ∀ (op x : Int32), p < m → encV op = x → ¬ isNm op → op ≠ 4 → op ≠ 7 → (∀ ts, tcO1 op (false :: false :: ts) = some (false :: ts)) → ck (κ p) = op →
        RESL κ m val (fun F L K => wj_X2_product_37 (gX2 d2) (wl_X2_product_8 (gX2 d2) K f2) K F L (nI dp) (nI i)) (fun N P K => wj_X8_isProduct_43 (gX8 d8) (wl_X8_isProduct_9 (gX8 d8) K f8) K N P x) [false] [false] p F L N P := fun op x hp1 hx hnm h4 h7 htc hck => by
      have hc1 := hc.adv (q := p + 1) (by omega)
      have hs1 := hs.adv (q := p + 1) (by omega) (by omega)
      rcases hS dp (p + 1) d2 d8 hdp hn h2 h8 _ L _ P hc1 hs1 with ⟨p1, i1, hlt, hG, k2, k8⟩ | ⟨p', F', N', P', hp', fc, fn, k2, k8⟩
      · have hG1 : GI κ m p p1 [false] [false] (i1 ++ [(op, 0)]) := (hG.under [false]).op hnm h4 h7 htc
        have hc2 := hc.to (q := p1) hG.2.1 (i1 ++ [(op, 0)])
        have hs2 := hs.to (val := val) hG1
        have hsm := hs1.to (val := val) hG
        have step2 : ∀ K, wl_X2_product_8 (gX2 d2) K f2 (cT p1 (cE val L (i1 ++ [(op, 0)]) F)) L (nI dp) 1 (nI (i + 1)) → wj_X2_product_37 (gX2 d2) (wl_X2_product_8 (gX2 d2) K f2) K F L (nI dp) (nI i) := fun K hk => by
          refine c_peek hc hK (fun F1 e1 => ?_)
          rw [hc.inc] at e1
          subst e1
          rw [hck]
          refine k2 _ (And.intro (fun z => absurd z (by decide)) (fun _ => c_op (val := val) hnm h4 h7 (And.intro (fun z => absurd z (by decide)) (fun _ v ev => ?_))))
          subst ev
          rw [nI_1, c_chain1, c_one]
          exact hk
        have step8 : ∀ K, wl_X8_isProduct_9 (gX8 d8) K f8 (rT p1 (rR (i1 ++ [(op, 0)]) N)) (rE val (i1 ++ [(op, 0)]) P) → wj_X8_isProduct_43 (gX8 d8) (wl_X8_isProduct_9 (gX8 d8) K f8) K N P x := fun K hk N1 e1 => by
          rw [hs.inc] at e1
          subst e1
          refine k8 _ (And.intro (fun _ => ?_) (fun z => absurd z (by decide)))
          obtain ⟨c, o', g6, g7, _⟩ := hsm.2.2.2.2.2
          have hcl : c < 800 := by
            have e := rE_264 (val := val) i1 (hs.2.2.2.2.2.choose_spec.choose_spec.1)
            have l := lenR_le i1
            have b := hs.2.2.2.2.2.choose_spec.choose_spec.2.1
            have g := hG.1
            have e2 := nI_inj (by have := hG.2.1; omega) (by have := hG.2.1; omega) (g6.symm.trans e)
            have := hG.2.1
            omega
          refine r_put g6 hcl ?_
          rw [r_chain1]
          have e3 : pt (rE val i1 P) x = rE val (i1 ++ [(op, 0)]) P := by
            rw [← r_one]
            unfold rE1
            dsimp only
            rw [if_neg (fun z => z.elim h4 h7), if_neg hnm, hx]
          rw [e3, ← rR_op (op := op) hnm]
          exact hk
        rcases ih p1 (i + 1) f2 f8 _ L _ _ (by omega) (by omega) (by omega) (by omega) hc2 hs2 with ⟨p2, i2, hG2, l2, l8⟩ | ⟨p', F', N', P', hp', fc, fn, l2, l8⟩
        · refine Or.inl ⟨p2, (i1 ++ [(op, 0)]) ++ i2, hG1.app hG2, fun K hk => step2 K (l2 K ?_), fun K hk => step8 K (l8 K ?_)⟩
          · rw [c_chain]
            exact hk
          · rw [r_chain, ← rE_app]
            exact hk
        · exact Or.inr ⟨p', F', N', P', hp', FC.to.trans fc, FN.to.trans fn, fun K hk => step2 K (l2 K hk), fun K hk => step8 K (l8 K hk)⟩
      · obtain ⟨f2, rfl, _⟩ := fuel (show 0 < f2 by omega)
        refine Or.inr ⟨p', F', N', P', hp', FC.adv.trans fc, FN.adv.trans fn, fun K hk => ?_, fun K hk N1 e1 => ?_⟩
        · refine c_peek hc hK (fun F1 e1 => ?_)
          rw [hc.inc] at e1
          subst e1
          exact k2 _ (And.intro (fun _ v ev => stop_product hk) (fun z => absurd rfl z))
        · rw [hs.inc] at e1
          subst e1
          exact k8 _ (And.intro (fun z => absurd rfl z) (fun _ => hk))
    have ni : p < m → ¬ (400 : Int32) ≤ nI i := fun hp1 => by
      have : (400 : Int32) = nI 400 := rfl
      rw [this, le_nI (by omega) (by omega)]
      omega
    by_cases ha : κ p = 92
    · have hp1 := hK.lt hpm ha (by decide)
      have hck : ck (κ p) = 17 := (ck_17 (hK.2.1 p hpm)).mpr ha
      have s2 : ∀ K, wj_X2_product_37 (gX2 d2) (wl_X2_product_8 (gX2 d2) K f2) K F L (nI dp) (nI i) → wl_X2_product_8 (gX2 d2) K (f2 + 1) F L (nI dp) 1 (nI i) := fun K hk => And.intro (fun c => absurd c (ni hp1)) (fun _ => And.intro (fun z => absurd z (by decide)) (fun _ => c_peek hc hK (And.intro (fun _ => hk) (fun c => absurd hck c))))
      have s8 : ∀ K, wj_X8_isProduct_43 (gX8 d8) (wl_X8_isProduct_9 (gX8 d8) K f8) K N P 36 → wl_X8_isProduct_9 (gX8 d8) K (f8 + 1) N P := fun K hk => r_sign hs hK (y := 92) (by decide) (fun _ => And.intro (fun _ => r_sign hs hK (y := 92) (by decide) (fun _ => And.intro (fun z => absurd z (by decide)) (fun _ => hk)) (fun c => absurd ha c)) (fun z => absurd z (by decide))) (fun c => absurd ha c)
      rcases go 17 36 hp1 (by decide) (by decide) (by decide) (by decide) (fun _ => rfl) hck with ⟨p2, i2, hG2, l2, l8⟩ | ⟨p', F', N', P', hp', fc, fn, l2, l8⟩
      · exact Or.inl ⟨p2, i2, hG2, fun K hk => s2 K (l2 K hk), fun K hk => s8 K (l8 K hk)⟩
      · exact Or.inr ⟨p', F', N', P', hp', fc, fn, fun K hk => s2 K (l2 K hk), fun K hk => s8 K (l8 K hk)⟩
    have na : ¬ ck (κ p) = 17 := fun z => ha ((ck_17 (hK.2.1 p hpm)).mp z)
    by_cases hb : κ p = 97
    · have hp1 := hK.lt hpm hb (by decide)
      have hck : ck (κ p) = 18 := (ck_18 (hK.2.1 p hpm)).mpr hb
      have s2 : ∀ K, wj_X2_product_37 (gX2 d2) (wl_X2_product_8 (gX2 d2) K f2) K F L (nI dp) (nI i) → wl_X2_product_8 (gX2 d2) K (f2 + 1) F L (nI dp) 1 (nI i) := fun K hk => And.intro (fun c => absurd c (ni hp1)) (fun _ => And.intro (fun z => absurd z (by decide)) (fun _ => c_peek hc hK (And.intro (fun c => absurd c na) (fun _ => c_peek hc hK (And.intro (fun c => absurd hck c) (fun _ => hk))))))
      have s8 : ∀ K, wj_X8_isProduct_43 (gX8 d8) (wl_X8_isProduct_9 (gX8 d8) K f8) K N P 37 → wl_X8_isProduct_9 (gX8 d8) K (f8 + 1) N P := fun K hk => r_sign hs hK (y := 92) (by decide) (fun c => absurd c ha) (fun _ => And.intro (fun z => absurd rfl z) (fun _ => r_sign hs hK (y := 97) (by decide) (fun _ => And.intro (fun z => absurd z (by decide)) (fun _ => r_sign hs hK (y := 92) (by decide) (fun c => absurd c ha) (fun _ => And.intro (fun _ => hk) (fun z => absurd rfl z)))) (fun c => absurd hb c)))
      rcases go 18 37 hp1 (by decide) (by decide) (by decide) (by decide) (fun _ => rfl) hck with ⟨p2, i2, hG2, l2, l8⟩ | ⟨p', F', N', P', hp', fc, fn, l2, l8⟩
      · exact Or.inl ⟨p2, i2, hG2, fun K hk => s2 K (l2 K hk), fun K hk => s8 K (l8 K hk)⟩
      · exact Or.inr ⟨p', F', N', P', hp', fc, fn, fun K hk => s2 K (l2 K hk), fun K hk => s8 K (l8 K hk)⟩
    have nb : ¬ ck (κ p) = 18 := fun z => hb ((ck_18 (hK.2.1 p hpm)).mp z)
    refine Or.inl ⟨p, [], GI.nil hpm, fun K hk => ?_, fun K hk => ?_⟩
    · have hk : K 1 (cT p F) L := hk
      rw [hc.self] at hk
      exact And.intro (fun _ => ⟨by decide, hk⟩) (fun _ => And.intro (fun z => absurd z (by decide)) (fun _ => c_peek hc hK (And.intro (fun c => absurd c na) (fun _ => c_peek hc hK (And.intro (fun _ => ⟨by decide, hk⟩) (fun c => absurd c nb))))))
    · have hk : K 1 (rT p N) P := hk
      rw [hs.self] at hk
      exact r_sign hs hK (y := 92) (by decide) (fun c => absurd c ha) (fun _ => And.intro (fun z => absurd rfl z) (fun _ => r_sign hs hK (y := 97) (by decide) (fun c => absurd c hb) (fun _ => And.intro (fun _ => hk) (fun z => absurd rfl z))))
theorem pz_product (hK : KIN κ m) {n : Nat} (hS : CLM κ m val N0 n 6 5 false 3) : CLM κ m val N0 (n + 1) 5 4 false 4 := by
  intro dp p d2 d8 hdp hn h2 h8 F L N P hc hs
  have hm := hK.1
  obtain ⟨d2, rfl⟩ := ge1 (show 0 + 1 ≤ d2 by omega)
  obtain ⟨d8, rfl⟩ := ge1 (show 0 + 1 ≤ d8 by omega)
  rcases hS dp p d2 d8 hdp (by omega) (by omega) (by omega) F L N P hc hs with ⟨p1, i1, hlt, hG, k2, k8⟩ | ⟨p', F', N', P', hp', fc, fn, k2, k8⟩
  · have hc1 := hc.to (q := p1) hG.2.1 i1
    have hs1 := hs.to (val := val) hG
    have s2 : ∀ K, wl_X2_product_8 (gX2 d2) K fK (cT p1 (cE val L i1 F)) L (nI dp) 1 (nI 0) → gX2 (d2 + 1) 5 F L (nI dp) K := fun K hk => by
      rw [gX2_5]
      exact k2 _ hk
    have s8 : ∀ K, wl_X8_isProduct_9 (gX8 d8) K fK (rT p1 (rR i1 N)) (rE val i1 P) → gX8 (d8 + 1) 4 N P 0 0 K := fun K hk => by
      rw [gX8_4]
      exact k8 _ (And.intro (fun _ => hk) (fun z => absurd z (by decide)))
    rcases pz_productL (d2 := d2) (d8 := d8) hK hS hdp (by omega) (by omega) (by omega) (m + 1) p1 0 fK fK _ L _ _ (by omega) (by omega) (by rw [fK_eq]; omega) (by rw [fK_eq]; omega) hc1 hs1 with ⟨p2, i2, hG2, l2, l8⟩ | ⟨p', F', N', P', hp', fc, fn, l2, l8⟩
    · have hle := hG2.1
      refine Or.inl ⟨p2, i1 ++ i2, by omega, hG.app hG2, fun K hk => s2 K (l2 K ?_), fun K hk => s8 K (l8 K ?_)⟩
      · rw [c_chain]
        exact hk
      · rw [r_chain, ← rE_app]
        exact hk
    · exact Or.inr ⟨p', F', N', P', hp', FC.to.trans fc, FN.to.trans fn, fun K hk => s2 K (l2 K hk), fun K hk => s8 K (l8 K hk)⟩
  · refine Or.inr ⟨p', F', N', P', hp', fc, fn, fun K hk => ?_, fun K hk => ?_⟩
    · show gX2 (d2 + 1) 5 F L (nI dp) K
      rw [gX2_5]
      exact k2 _ (stop_product hk)
    · show gX8 (d8 + 1) 4 N P 0 0 K
      rw [gX8_4]
      exact k8 _ (And.intro (fun z => absurd rfl z) (fun _ => hk))
end GRAM
