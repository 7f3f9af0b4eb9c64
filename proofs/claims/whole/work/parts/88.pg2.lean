/-! ===== the list: line after line ===== -/
section LIST
variable {κ : Nat → Int32} {m : Nat} {val : Nat → Int64} {N0 : M2} {V0 : M2}
theorem OUT.g {w2 : W2} {w8 : W8} {p q nr : Nat} {its : List IT} {F : M2} {L : L2} {N P : M2} (h : OUT κ m val N0 V0 w2 w8 q its nr F L N P) (hpq : p < q) : OUTG κ m val N0 V0 w2 w8 p F L N P := by
  rcases h with ⟨F', L', N', hB, f1, f2, f3, k2, k8⟩ | hf
  · exact Or.inl ⟨q, F', L', N', P, its, nr, hpq, hB, f1, f2, f3, fun _ _ => rfl, k2, k8⟩
  · exact Or.inr hf
theorem OUTG.to {w2 w2' : W2} {w8 w8' : W8} {p : Nat} {F : M2} {L : L2} {N P : M2} (h : OUTG κ m val N0 V0 w2 w8 p F L N P) (t2 : ∀ (r : Int32) (F' : M2) (L' : L2), (r = 0 ∨ r = 1) → (∀ K, K r F' L' → w2 F L K) → ∀ K, K r F' L' → w2' F L K) (t8 : ∀ (r : Int32) (N' P' : M2), (∀ K, K r N' P' → w8 N P K) → ∀ K, K r N' P' → w8' N P K) : OUTG κ m val N0 V0 w2' w8' p F L N P := by
  rcases h with ⟨q, F', L', N', P', its, nr, hpq, hB, f1, f2, f3, f4, k2, k8⟩ | ⟨p', F', N', P', hp', fc, fn, k2, k8⟩
  · exact Or.inl ⟨q, F', L', N', P', its, nr, hpq, hB, f1, f2, f3, f4, t2 1 F' L' (Or.inr rfl) k2, t8 1 N' P' k8⟩
  · exact Or.inr ⟨p', F', N', P', hp', fc, fn, t2 0 F' L (Or.inl rfl) k2, t8 0 N' P' k8⟩
def rLine (N P : M2) (K : Int32 → M2 → M2 → Prop) : Prop := wp_X8_is N P 0 (fun r_12 => ((r_12 = 0 → wp_X8_is N P 3 (fun r_27 => ((r_27 = 0 → wp_X8_is N P 6 (fun r_43 => ((r_43 = 0 → wp_X8_is N P 9 (fun r_59 => ((r_59 = 0 → wp_X8_isOrderLine N P K) ∧ (¬ r_59 = 0 → wp_X8_isBoatLine N P K)))) ∧ (¬ r_43 = 0 → wp_X8_isLeggerLine N P K)))) ∧ (¬ r_27 = 0 → wp_X8_isShaftLine N P K)))) ∧ (¬ r_12 = 0 → wp_X8_isBoreLine N P K)))
theorem isPlan_step (K : Int32 → M2 → M2 → Prop) (n : Nat) (N P : M2) : wl_X8_isPlan_0 K (n + 1) N P = wp_X8_is N P 900 (fun r_4 => ((¬ r_4 = 0 → K 1 N P) ∧ (r_4 = 0 → rLine N P (fun r N P => wj_X8_isPlan_76 (wl_X8_isPlan_0 K n) K N P r)))) := rfl
/-- which line it is, on the side of the reference -/
theorem r_line (hK : KIN κ m) {K : Int32 → M2 → M2 → Prop} {N P : M2} {p : Nat} (hs : SN κ m N0 N P p 0) (hB : κ p = 0 → wp_X8_isBoreLine N P K) (hS : κ p = 3 → wp_X8_isShaftLine N P K) (hL : κ p = 6 → wp_X8_isLeggerLine N P K) (hO : κ p = 9 → wp_X8_isBoatLine N P K) (hR : ¬ κ p = 0 → ¬ κ p = 3 → ¬ κ p = 6 → ¬ κ p = 9 → wp_X8_isOrderLine N P K) : rLine N P K :=
  r_is hs hK (fun c => And.intro (fun z => absurd z (by decide)) (fun _ => hB c)) (fun c0 => And.intro (fun _ => r_is hs hK (fun c => And.intro (fun z => absurd z (by decide)) (fun _ => hS c)) (fun c3 => And.intro (fun _ => r_is hs hK (fun c => And.intro (fun z => absurd z (by decide)) (fun _ => hL c)) (fun c6 => And.intro (fun _ => r_is hs hK (fun c => And.intro (fun z => absurd z (by decide)) (fun _ => hO c)) (fun c9 => And.intro (fun _ => hR c0 c3 c6 c9) (fun z => absurd rfl z))) (fun z => absurd rfl z))) (fun z => absurd rfl z))) (fun z => absurd rfl z))
theorem zb01 {r : Int32} (h : r = 0 ∨ r = 1) : zb r := by
  rcases h with h | h <;> rw [h] <;> decide
theorem ln_line (hK : KIN κ m) (hNum : NUM κ m val N0) (hNV : NUMV κ m val) (hSid : SID κ m val) {F : M2} {L : L2} {N P : M2} {p nr : Nat} {its : List IT} (hB : BND κ m val N0 V0 F L N P p its nr) : OUTG κ m val N0 V0 (fun F L K => wp_X2_line F L K) (fun N P K => rLine N P K) p F L N P := by
  have hc := hB.1
  have hs := hB.2.1
  have hv := hK.2.1 p hc.2.1
  have e66 : F 66 0 = nI p := by rw [hc.1]
  by_cases c34 : ck (κ p) = 34
  · have k0 := (ck_34 hv).mp c34
    refine ((ln_bore hK hNV hSid hB c34).g (p := p) (by omega)).to (fun r F' L' hr h K hk => c_peek hc hK ?_) (fun r N' P' h K hk => r_line hK hs (fun _ => h K hk) (fun z => absurd (k0.symm.trans z) (by decide)) (fun z => absurd (k0.symm.trans z) (by decide)) (fun z => absurd (k0.symm.trans z) (by decide)) (fun z => absurd k0 z))
    rw [c34, e66]
    exact ⟨fun _ => h _ ⟨zb01 hr, hk⟩, fun z => absurd z (by decide), fun z => absurd z (by decide), fun z => absurd z (by decide), fun z => absurd z (by decide), fun z => absurd z (by decide), fun z => absurd rfl z⟩
  by_cases c37 : ck (κ p) = 37
  · have k0 := (ck_37 hv).mp c37
    refine ((ln_shaft hK hNV hSid hB c37).g (p := p) (by omega)).to (fun r F' L' hr h K hk => c_peek hc hK ?_) (fun r N' P' h K hk => r_line hK hs (fun z => absurd (k0.symm.trans z) (by decide)) (fun _ => h K hk) (fun z => absurd (k0.symm.trans z) (by decide)) (fun z => absurd (k0.symm.trans z) (by decide)) (fun _ z => absurd k0 z))
    rw [c37, e66]
    exact ⟨fun z => absurd z (by decide), fun _ => h _ ⟨zb01 hr, hk⟩, fun z => absurd z (by decide), fun z => absurd z (by decide), fun z => absurd z (by decide), fun z => absurd z (by decide), fun _ z => absurd rfl z⟩
  by_cases c40 : ck (κ p) = 40
  · have k0 := (ck_40 hv).mp c40
    refine ((ln_legger hK hNV hSid hB c40).g (p := p) (by omega)).to (fun r F' L' hr h K hk => c_peek hc hK ?_) (fun r N' P' h K hk => r_line hK hs (fun z => absurd (k0.symm.trans z) (by decide)) (fun z => absurd (k0.symm.trans z) (by decide)) (fun _ => h K hk) (fun z => absurd (k0.symm.trans z) (by decide)) (fun _ _ z => absurd k0 z))
    rw [c40, e66]
    exact ⟨fun z => absurd z (by decide), fun z => absurd z (by decide), fun _ => h _ ⟨zb01 hr, hk⟩, fun z => absurd z (by decide), fun z => absurd z (by decide), fun z => absurd z (by decide), fun _ _ z => absurd rfl z⟩
  by_cases c43 : ck (κ p) = 43
  · have k0 := (ck_43 hv).mp c43
    refine ((ln_boat hK hNV hSid hB c43).g (p := p) (by omega)).to (fun r F' L' hr h K hk => c_peek hc hK ?_) (fun r N' P' h K hk => r_line hK hs (fun z => absurd (k0.symm.trans z) (by decide)) (fun z => absurd (k0.symm.trans z) (by decide)) (fun z => absurd (k0.symm.trans z) (by decide)) (fun _ => h K hk) (fun _ _ _ z => absurd k0 z))
    rw [c43, e66]
    exact ⟨fun z => absurd z (by decide), fun z => absurd z (by decide), fun z => absurd z (by decide), fun _ => h _ ⟨zb01 hr, hk⟩, fun z => absurd z (by decide), fun z => absurd z (by decide), fun _ _ _ z => absurd rfl z⟩
  have n0 : ¬ κ p = 0 := fun z => c34 ((ck_34 hv).mpr z)
  have n3 : ¬ κ p = 3 := fun z => c37 ((ck_37 hv).mpr z)
  have n6 : ¬ κ p = 6 := fun z => c40 ((ck_40 hv).mpr z)
  have n9 : ¬ κ p = 9 := fun z => c43 ((ck_43 hv).mpr z)
  have rl : ∀ {K : Int32 → M2 → M2 → Prop}, wp_X8_isOrderLine N P K → rLine N P K := fun h => r_line hK hs (fun z => absurd z n0) (fun z => absurd z n3) (fun z => absurd z n6) (fun z => absurd z n9) (fun _ _ _ _ => h)
  by_cases c48 : ck (κ p) = 48
  · refine (ln_ord_WHISTLE hK hNum hSid hB c48).to (fun r F' L' hr h K hk => c_peek hc hK ?_) (fun r N' P' h K hk => rl (h K hk))
    rw [c48]
    exact ⟨fun z => absurd z (by decide), fun z => absurd z (by decide), fun z => absurd z (by decide), fun z => absurd z (by decide), fun _ => h _ ⟨zb01 hr, hk⟩, fun z => absurd z (by decide), fun _ _ _ _ z => absurd rfl z⟩
  by_cases c49 : ck (κ p) = 49
  · refine (ln_ord_REST hK hNum hSid hB c49).to (fun r F' L' hr h K hk => c_peek hc hK ?_) (fun r N' P' h K hk => rl (h K hk))
    rw [c49]
    exact ⟨fun z => absurd z (by decide), fun z => absurd z (by decide), fun z => absurd z (by decide), fun z => absurd z (by decide), fun z => absurd z (by decide), fun _ => h _ ⟨zb01 hr, hk⟩, fun _ _ _ _ _ z => absurd rfl z⟩
  have n17 : ¬ κ p = 17 := fun z => c48 ((ck_48 hv).mpr z)
  have n18 : ¬ κ p = 18 := fun z => c49 ((ck_49 hv).mpr z)
  obtain ⟨g1, g2⟩ := hs.get hK
  refine Or.inr ⟨p, F, N, P, hc.2.1, FC.self hc, FN.self hs, fun K hk => c_peek hc hK ⟨fun z => absurd z c34, fun z => absurd z c37, fun z => absurd z c40, fun z => absurd z c43, fun z => absurd z c48, fun z => absurd z c49, fun _ _ _ _ _ _ => hk⟩, fun K hk => rl ⟨g1, fun v1 e1 => ?_⟩⟩
  rw [g2] at e1
  subst e1
  exact And.intro (fun z => absurd z n17) (fun _ => And.intro (fun z => absurd z n18) (fun _ => hk))
/-- what neither side touches -/
def FRM (F F' : M2) (L L' : L2) (N N' : M2) : Prop := (∀ k, 68 < k → F' k = F k) ∧ (∀ k, (k < 61 ∨ 64 < k) → L' k = L k) ∧ ∀ k, (k ≤ 226 ∨ 230 < k) → N' k = N k
theorem FRM.trans {F F1 F2 : M2} {L L1 L3 : L2} {N N1 N2 : M2} (h : FRM F F1 L L1 N N1) (g : FRM F1 F2 L1 L3 N1 N2) : FRM F F2 L L3 N N2 := ⟨fun k hk => (g.1 k hk).trans (h.1 k hk), fun k hk => (g.2.1 k hk).trans (h.2.1 k hk), fun k hk => (g.2.2 k hk).trans (h.2.2 k hk)⟩
def PFR (P P' : M2) : Prop := ∀ k, (k < 258 ∨ k = 259 ∨ k = 260 ∨ 266 < k) → P' k = P k
theorem list_all {aa qq : Nat → Nat} (hK : KIN κ m) (hNum : NUM κ m val N0) (hNV : NUMV κ m val) (hSid : SID κ m val) : ∀ (d p : Nat) (F : M2) (L : L2) (N P : M2) (its : List IT) (nr j : Nat), m - p ≤ d → j ≤ p → BND κ m val N0 V0 F L N P p its nr →
    (∃ (q : Nat) (F' : M2) (L' : L2) (N' P' : M2) (its' : List IT) (nr' : Nat), BND κ m val N0 V0 F' L' N' P' q its' nr' ∧ κ q = 900 ∧ FRM F F' L L' N N' ∧ PFR P P' ∧ (∀ K f, d + 1 < f → wj_X2_read_86 aa qq K F' L' 1 → wl_X2_read_37 aa qq K f F L 1 (nI j)) ∧ (∀ K g, d < g → K 1 N' P' → wl_X8_isPlan_0 K g N P))
    ∨ (∃ (p' : Nat) (F' : M2) (L' : L2) (N' P' : M2), p' ≤ m ∧ F' 66 0 = nI p' ∧ N' 229 0 = nI p' ∧ FRM F F' L L' N N' ∧ (∀ K f, d + 1 < f → wj_X2_read_86 aa qq K F' L' 0 → wl_X2_read_37 aa qq K f F L 1 (nI j)) ∧ (∀ K g, d < g → K 0 N' P' → wl_X8_isPlan_0 K g N P)) := by
  intro d
  have hm := hK.1
  induction d with
  | zero =>
    intro p F L N P its nr j hd hj hB
    have hc := hB.1
    have hs := hB.2.1
    have hv := hK.2.1 p hc.2.1
    have e : p = m := by have := hc.2.1; omega
    by_cases h9 : κ p = 900
    · have c0 : ck (κ p) = 0 := (ck_0 hv).mpr h9
      refine Or.inl ⟨p, F, L, N, P, its, nr, hB, h9, ⟨fun _ _ => rfl, fun _ _ => rfl, fun _ _ => rfl⟩, fun _ _ => rfl, fun K f hf hk => ?_, fun K g hg hk => ?_⟩
      · obtain ⟨f, rfl, _⟩ := fuel hf
        refine And.intro (fun _ => hk) (fun _ => And.intro (fun z => absurd z (by decide)) (fun _ => c_peek hc hK ?_))
        exact And.intro (fun _ => hk) (fun z => absurd c0 z)
      · obtain ⟨g, rfl, _⟩ := fuel hg
        rw [isPlan_step]
        exact r_is hs hK (fun _ => And.intro (fun _ => hk) (fun z => absurd z (by decide))) (fun z => absurd h9 z)
    · have key : ∀ k ∈ vk, ¬ k < 900 → ¬ k = 900 → (ck k = 1 ∧ k = 901) := by decide +kernel
      obtain ⟨c1, k9⟩ := key (κ p) hv (by rw [e]; exact hK.2.2.2) h9
      have w2 : ∀ K : Int32 → M2 → L2 → Prop, K 0 F L → wp_X2_line F L K := fun K hk => c_peek hc hK (by
        rw [c1]
        exact ⟨fun z => absurd z (by decide), fun z => absurd z (by decide), fun z => absurd z (by decide), fun z => absurd z (by decide), fun z => absurd z (by decide), fun z => absurd z (by decide), fun _ _ _ _ _ _ => hk⟩)
      have w8 : ∀ K : Int32 → M2 → M2 → Prop, K 0 N P → rLine N P K := fun K hk => by
        refine r_line hK hs (fun z => absurd (k9.symm.trans z) (by decide)) (fun z => absurd (k9.symm.trans z) (by decide)) (fun z => absurd (k9.symm.trans z) (by decide)) (fun z => absurd (k9.symm.trans z) (by decide)) (fun _ _ _ _ => ?_)
        obtain ⟨g1, g2⟩ := hs.get hK
        refine ⟨g1, fun v1 e1 => ?_⟩
        rw [g2, k9] at e1
        subst e1
        exact And.intro (fun z => absurd z (by decide)) (fun _ => And.intro (fun z => absurd z (by decide)) (fun _ => hk))
      refine Or.inr ⟨p, F, L, N, P, hc.2.1, by rw [hc.1], by rw [hs.1], ⟨fun _ _ => rfl, fun _ _ => rfl, fun _ _ => rfl⟩, fun K f hf hk => ?_, fun K g hg hk => ?_⟩
      · obtain ⟨f, rfl, _⟩ := fuel (show 0 < f by omega)
        obtain ⟨f, rfl, _⟩ := fuel (show 0 < f by omega)
        refine And.intro (fun z => absurd z (Int32.not_lt.mpr ((le_nI (b := 400) (by omega) (by omega)).mpr (by omega)))) (fun _ => And.intro (fun z => absurd z (by decide)) (fun _ => c_peek hc hK ?_))
        refine And.intro (fun z => absurd (c1.symm.trans z) (by decide)) (fun _ => w2 _ (And.intro (fun _ v5 e5 => ?_) (fun z => absurd rfl z)))
        exact And.intro (fun _ => hk) (fun _ => And.intro (fun _ => hk) (fun z => absurd rfl z))
      · obtain ⟨g, rfl, _⟩ := fuel hg
        rw [isPlan_step]
        exact r_is hs hK (fun z => absurd z h9) (fun _ => And.intro (fun z => absurd rfl z) (fun _ => w8 _ (And.intro (fun _ => hk) (fun z => absurd rfl z))))
  | succ d ih =>
    intro p F L N P its nr j hd hj hB
    have hc := hB.1
    have hs := hB.2.1
    have hv := hK.2.1 p hc.2.1
    have hpm := hc.2.1
    have nle : ∀ K0 : Prop, (400 : Int32) < nI j → K0 := fun K0 z => absurd z (Int32.not_lt.mpr ((le_nI (b := 400) (by omega) (by omega)).mpr (by omega)))
    by_cases h9 : κ p = 900
    · have c0 : ck (κ p) = 0 := (ck_0 hv).mpr h9
      refine Or.inl ⟨p, F, L, N, P, its, nr, hB, h9, ⟨fun _ _ => rfl, fun _ _ => rfl, fun _ _ => rfl⟩, fun _ _ => rfl, fun K f hf hk => ?_, fun K g hg hk => ?_⟩
      · obtain ⟨f, rfl, _⟩ := fuel hf
        refine And.intro (fun _ => hk) (fun _ => And.intro (fun z => absurd z (by decide)) (fun _ => c_peek hc hK ?_))
        exact And.intro (fun _ => hk) (fun z => absurd c0 z)
      · obtain ⟨g, rfl, _⟩ := fuel hg
        rw [isPlan_step]
        exact r_is hs hK (fun _ => And.intro (fun _ => hk) (fun z => absurd z (by decide))) (fun z => absurd h9 z)
    have c0 : ¬ ck (κ p) = 0 := fun z => h9 ((ck_0 hv).mp z)
    -- the class's and the reference's step, given the line
    have st2c : ∀ (K : Int32 → Nat → Nat → M2 → L2 → Prop) f, wp_X2_line F L (fun r_58 F_58 L_58 => ((r_58 = 0 → (∀ v5_80 : Int32, v5_80 = nI j + 1 → wl_X2_read_37 aa qq K f F_58 L_58 0 v5_80)) ∧ (¬ r_58 = 0 → wp_X2_take F_58 L_58 32 (fun r_67 F_67 L_67 => ((r_67 = 0 → (∀ v5_80 : Int32, v5_80 = nI j + 1 → wl_X2_read_37 aa qq K f F_67 L_67 0 v5_80)) ∧ (¬ r_67 = 0 → (∀ v5_80 : Int32, v5_80 = nI j + 1 → wl_X2_read_37 aa qq K f F_67 L_67 1 v5_80))))))) → wl_X2_read_37 aa qq K (f + 1) F L 1 (nI j) := fun K f h =>
      And.intro (nle _) (fun _ => And.intro (fun z => absurd z (by decide)) (fun _ => c_peek hc hK (And.intro (fun z => absurd z c0) (fun _ => h))))
    have st8 : ∀ (K : Int32 → M2 → M2 → Prop) g, rLine N P (fun r N P => wj_X8_isPlan_76 (wl_X8_isPlan_0 K g) K N P r) → wl_X8_isPlan_0 K (g + 1) N P := fun K g h => by
      rw [isPlan_step]
      exact r_is hs hK (fun z => absurd z h9) (fun _ => And.intro (fun z => absurd rfl z) (fun _ => h))
    have stop : ∀ (K : Int32 → Nat → Nat → M2 → L2 → Prop) f F' L' v5, 0 < f → wj_X2_read_86 aa qq K F' L' 0 → wl_X2_read_37 aa qq K f F' L' 0 v5 := fun K f F' L' v5 hf hk => by
      obtain ⟨f, rfl, _⟩ := fuel hf
      exact And.intro (fun _ => hk) (fun _ => And.intro (fun _ => hk) (fun z => absurd rfl z))
    rcases ln_line hK hNum hNV hSid hB with ⟨q, F', L', N', P', its', nr', hpq, hB', f1, f2, f3, f4, k2, k8⟩ | ⟨p', F', N', P', hp', fc, fn, k2, k8⟩
    · have hc' := hB'.1
      have hs' := hB'.2.1
      have hqm := hc'.2.1
      have hv' := hK.2.1 q hqm
      have hfr : FRM F F' L L' N N' := ⟨f1, f2, f3⟩
      by_cases h109 : κ q = 109
      · have c32 : ck (κ q) = 32 := (ck_32 hv').mpr h109
        have hq1 := hK.lt hqm h109 (by decide)
        have hB2 := hB'.semi hq1
        have fr2 : FRM F (cT (q + 1) F') L L' N (rT (q + 1) N') := hfr.trans ⟨fun k hk => up2_n _ _ (by omega), fun _ _ => rfl, fun k hk => up2_n _ _ (by omega)⟩
        have go2 : ∀ (K : Int32 → Nat → Nat → M2 → L2 → Prop) f, wl_X2_read_37 aa qq K f (cT (q + 1) F') L' 1 (nI (j + 1)) → wl_X2_read_37 aa qq K (f + 1) F L 1 (nI j) := fun K f h => st2c K f (k2 _ (And.intro (fun z => absurd z (by decide)) (fun _ => c_take hc' hK (fun _ => And.intro (fun z => absurd z (by decide)) (fun _ v5 e5 => by
          rw [nI_1] at e5
          subst e5
          exact h)) (fun z => absurd c32 z))))
        have go8 : ∀ (K : Int32 → M2 → M2 → Prop) g, wl_X8_isPlan_0 K g (rT (q + 1) N') P' → wl_X8_isPlan_0 K (g + 1) N P := fun K g h => st8 K g (k8 _ (And.intro (fun z => absurd z (by decide)) (fun _ => r_eatSign hs' hK (y := 109) (by decide) (fun _ => And.intro (fun _ => h) (fun z => absurd z (by decide))) (fun z => absurd h109 z))))
        rcases ih (q + 1) (cT (q + 1) F') L' (rT (q + 1) N') P' its' nr' (j + 1) (by omega) (by omega) hB2 with ⟨q2, F2, L3, N2, P2, i2, n2, b1, b2, b3, b4, b5, b6⟩ | ⟨p2, F2, L3, N2, P2, b1, b2, b3, b4, b5, b6⟩
        · refine Or.inl ⟨q2, F2, L3, N2, P2, i2, n2, b1, b2, fr2.trans b3, fun k hk => (b4 k hk).trans (f4 k hk), fun K f hf hk => ?_, fun K g hg hk => ?_⟩
          · obtain ⟨f, rfl, _⟩ := fuel hf
            exact go2 K f (b5 K f (by omega) hk)
          · obtain ⟨g, rfl, _⟩ := fuel hg
            exact go8 K g (b6 K g (by omega) hk)
        · refine Or.inr ⟨p2, F2, L3, N2, P2, b1, b2, b3, fr2.trans b4, fun K f hf hk => ?_, fun K g hg hk => ?_⟩
          · obtain ⟨f, rfl, _⟩ := fuel hf
            exact go2 K f (b5 K f (by omega) hk)
          · obtain ⟨g, rfl, _⟩ := fuel hg
            exact go8 K g (b6 K g (by omega) hk)
      · have c32 : ¬ ck (κ q) = 32 := fun z => h109 ((ck_32 hv').mp z)
        refine Or.inr ⟨q, F', L', N', P', hqm, by rw [hc'.1], by rw [hs'.1], hfr, fun K f hf hk => ?_, fun K g hg hk => ?_⟩
        · obtain ⟨f, rfl, _⟩ := fuel hf
          exact st2c K f (k2 _ (And.intro (fun z => absurd z (by decide)) (fun _ => c_take hc' hK (fun z => absurd z c32) (fun _ => And.intro (fun _ v5 _ => stop K f F' L' v5 (by omega) hk) (fun z => absurd rfl z)))))
        · obtain ⟨g, rfl, _⟩ := fuel hg
          exact st8 K g (k8 _ (And.intro (fun z => absurd z (by decide)) (fun _ => r_eatSign hs' hK (y := 109) (by decide) (fun z => absurd z h109) (fun _ => And.intro (fun z => absurd rfl z) (fun _ => hk)))))
    · refine Or.inr ⟨p', F', L, N', P', hp', fc.1, fn.1, ⟨fun k hk => fc.2 k (Or.inr hk), fun _ _ => rfl, fn.2⟩, fun K f hf hk => ?_, fun K g hg hk => ?_⟩
      · obtain ⟨f, rfl, _⟩ := fuel hf
        exact st2c K f (k2 _ (And.intro (fun _ v5 _ => stop K f F' L v5 (by omega) hk) (fun z => absurd rfl z)))
      · obtain ⟨g, rfl, _⟩ := fuel hg
        exact st8 K g (k8 _ (And.intro (fun _ => hk) (fun z => absurd rfl z)))
end LIST
