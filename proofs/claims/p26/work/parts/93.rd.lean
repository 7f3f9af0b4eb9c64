/-! ===== lines: what they are made of ===== -/
section LINES
variable {κ : Nat → Int32} {m : Nat} {val : Nat → Int64} {N0 : M2}
theorem l_all_BORE_LINE (hK : KIN κ m) {K : Int32 → M2 → L2 → Prop} {F : M2} {L : L2} {p n : Nat} (hn : n ≤ 6) (hM : ∀ j, j < n → ck (κ (p + j)) = kBORE_LINE j) (hF : n < 6 → ¬ ck (κ (p + n)) = kBORE_LINE n) (hpn : p + n ≤ m) (h : K (if n = 6 then 1 else 0) (cT (p + n) F) L) : ∀ (d j f : Nat), j + d = n → d + 1 < f → SC κ m val (cT (p + j) F) L (p + j) → wl_X2_takeAll_BORE_LINE_2 K f (cT (p + j) F) L (nI j) := by
  intro d
  have hm := hK.1
  induction d with
  | zero =>
    intro j f hj hf hc
    obtain ⟨f, rfl, _⟩ := fuel (show 0 < f by omega)
    have e : j = n := by omega
    subst e
    have e6 : Int32.ofNat 6 = nI 6 := rfl
    rw [wl_X2_takeAll_BORE_LINE_2, e6]
    refine And.intro (fun c => ?_) (fun c => ?_)
    · rw [le_nI (by omega) (by omega)] at c
      rw [if_pos (show j = 6 by omega)] at h
      exact h
    · rw [le_nI (by omega) (by omega)] at c
      rw [if_neg (show ¬ j = 6 by omega)] at h
      refine ⟨inb_nJ (by omega) (by decide), ?_⟩
      rw [tn_nI (by omega)]
      exact c_take hc hK (fun z => absurd z (hF (by omega))) (fun _ => And.intro (fun z => absurd rfl z) (fun _ => h))
  | succ d ih =>
    intro j f hj hf hc
    obtain ⟨f, rfl, _⟩ := fuel (show 0 < f by omega)
    have e6 : Int32.ofNat 6 = nI 6 := rfl
    rw [wl_X2_takeAll_BORE_LINE_2, e6]
    refine And.intro (fun c => absurd c (nI_ge (by omega) (by omega))) (fun _ => ⟨inb_nJ (by omega) (by decide), ?_⟩)
    rw [tn_nI (by omega)]
    refine c_take hc hK (fun _ => And.intro (fun _ v ev => ?_) (fun z => absurd z (by decide))) (fun z => absurd (hM j (by omega)) z)
    subst ev
    rw [nI_1, cT_cT]
    have hc1 := hc.adv (q := p + (j + 1)) (by omega)
    rw [cT_cT] at hc1
    exact ih (j + 1) f (by omega) (by omega) hc1
theorem c_all_BORE_LINE (hK : KIN κ m) {K : Int32 → M2 → L2 → Prop} {F : M2} {L : L2} {p n : Nat} (hc : SC κ m val F L p) (hn : n ≤ 6) (hM : ∀ j, j < n → ck (κ (p + j)) = kBORE_LINE j) (hF : n < 6 → ¬ ck (κ (p + n)) = kBORE_LINE n) (hpn : p + n ≤ m) (h : K (if n = 6 then 1 else 0) (cT (p + n) F) L) : wp_X2_takeAll_BORE_LINE F L K := by
  have hc0 := hc.adv (q := p + 0) (by omega)
  have := l_all_BORE_LINE hK hn hM hF hpn h n 0 fK (by omega) (by rw [fK_eq]; omega) hc0
  rw [Nat.add_zero, hc.self] at this
  exact this
theorem l_all_SHAFT_LINE (hK : KIN κ m) {K : Int32 → M2 → L2 → Prop} {F : M2} {L : L2} {p n : Nat} (hn : n ≤ 6) (hM : ∀ j, j < n → ck (κ (p + j)) = kSHAFT_LINE j) (hF : n < 6 → ¬ ck (κ (p + n)) = kSHAFT_LINE n) (hpn : p + n ≤ m) (h : K (if n = 6 then 1 else 0) (cT (p + n) F) L) : ∀ (d j f : Nat), j + d = n → d + 1 < f → SC κ m val (cT (p + j) F) L (p + j) → wl_X2_takeAll_SHAFT_LINE_2 K f (cT (p + j) F) L (nI j) := by
  intro d
  have hm := hK.1
  induction d with
  | zero =>
    intro j f hj hf hc
    obtain ⟨f, rfl, _⟩ := fuel (show 0 < f by omega)
    have e : j = n := by omega
    subst e
    have e6 : Int32.ofNat 6 = nI 6 := rfl
    rw [wl_X2_takeAll_SHAFT_LINE_2, e6]
    refine And.intro (fun c => ?_) (fun c => ?_)
    · rw [le_nI (by omega) (by omega)] at c
      rw [if_pos (show j = 6 by omega)] at h
      exact h
    · rw [le_nI (by omega) (by omega)] at c
      rw [if_neg (show ¬ j = 6 by omega)] at h
      refine ⟨inb_nJ (by omega) (by decide), ?_⟩
      rw [tn_nI (by omega)]
      exact c_take hc hK (fun z => absurd z (hF (by omega))) (fun _ => And.intro (fun z => absurd rfl z) (fun _ => h))
  | succ d ih =>
    intro j f hj hf hc
    obtain ⟨f, rfl, _⟩ := fuel (show 0 < f by omega)
    have e6 : Int32.ofNat 6 = nI 6 := rfl
    rw [wl_X2_takeAll_SHAFT_LINE_2, e6]
    refine And.intro (fun c => absurd c (nI_ge (by omega) (by omega))) (fun _ => ⟨inb_nJ (by omega) (by decide), ?_⟩)
    rw [tn_nI (by omega)]
    refine c_take hc hK (fun _ => And.intro (fun _ v ev => ?_) (fun z => absurd z (by decide))) (fun z => absurd (hM j (by omega)) z)
    subst ev
    rw [nI_1, cT_cT]
    have hc1 := hc.adv (q := p + (j + 1)) (by omega)
    rw [cT_cT] at hc1
    exact ih (j + 1) f (by omega) (by omega) hc1
theorem c_all_SHAFT_LINE (hK : KIN κ m) {K : Int32 → M2 → L2 → Prop} {F : M2} {L : L2} {p n : Nat} (hc : SC κ m val F L p) (hn : n ≤ 6) (hM : ∀ j, j < n → ck (κ (p + j)) = kSHAFT_LINE j) (hF : n < 6 → ¬ ck (κ (p + n)) = kSHAFT_LINE n) (hpn : p + n ≤ m) (h : K (if n = 6 then 1 else 0) (cT (p + n) F) L) : wp_X2_takeAll_SHAFT_LINE F L K := by
  have hc0 := hc.adv (q := p + 0) (by omega)
  have := l_all_SHAFT_LINE hK hn hM hF hpn h n 0 fK (by omega) (by rw [fK_eq]; omega) hc0
  rw [Nat.add_zero, hc.self] at this
  exact this
theorem l_all_LEGGER_LINE (hK : KIN κ m) {K : Int32 → M2 → L2 → Prop} {F : M2} {L : L2} {p n : Nat} (hn : n ≤ 6) (hM : ∀ j, j < n → ck (κ (p + j)) = kLEGGER_LINE j) (hF : n < 6 → ¬ ck (κ (p + n)) = kLEGGER_LINE n) (hpn : p + n ≤ m) (h : K (if n = 6 then 1 else 0) (cT (p + n) F) L) : ∀ (d j f : Nat), j + d = n → d + 1 < f → SC κ m val (cT (p + j) F) L (p + j) → wl_X2_takeAll_LEGGER_LINE_2 K f (cT (p + j) F) L (nI j) := by
  intro d
  have hm := hK.1
  induction d with
  | zero =>
    intro j f hj hf hc
    obtain ⟨f, rfl, _⟩ := fuel (show 0 < f by omega)
    have e : j = n := by omega
    subst e
    have e6 : Int32.ofNat 6 = nI 6 := rfl
    rw [wl_X2_takeAll_LEGGER_LINE_2, e6]
    refine And.intro (fun c => ?_) (fun c => ?_)
    · rw [le_nI (by omega) (by omega)] at c
      rw [if_pos (show j = 6 by omega)] at h
      exact h
    · rw [le_nI (by omega) (by omega)] at c
      rw [if_neg (show ¬ j = 6 by omega)] at h
      refine ⟨inb_nJ (by omega) (by decide), ?_⟩
      rw [tn_nI (by omega)]
      exact c_take hc hK (fun z => absurd z (hF (by omega))) (fun _ => And.intro (fun z => absurd rfl z) (fun _ => h))
  | succ d ih =>
    intro j f hj hf hc
    obtain ⟨f, rfl, _⟩ := fuel (show 0 < f by omega)
    have e6 : Int32.ofNat 6 = nI 6 := rfl
    rw [wl_X2_takeAll_LEGGER_LINE_2, e6]
    refine And.intro (fun c => absurd c (nI_ge (by omega) (by omega))) (fun _ => ⟨inb_nJ (by omega) (by decide), ?_⟩)
    rw [tn_nI (by omega)]
    refine c_take hc hK (fun _ => And.intro (fun _ v ev => ?_) (fun z => absurd z (by decide))) (fun z => absurd (hM j (by omega)) z)
    subst ev
    rw [nI_1, cT_cT]
    have hc1 := hc.adv (q := p + (j + 1)) (by omega)
    rw [cT_cT] at hc1
    exact ih (j + 1) f (by omega) (by omega) hc1
theorem c_all_LEGGER_LINE (hK : KIN κ m) {K : Int32 → M2 → L2 → Prop} {F : M2} {L : L2} {p n : Nat} (hc : SC κ m val F L p) (hn : n ≤ 6) (hM : ∀ j, j < n → ck (κ (p + j)) = kLEGGER_LINE j) (hF : n < 6 → ¬ ck (κ (p + n)) = kLEGGER_LINE n) (hpn : p + n ≤ m) (h : K (if n = 6 then 1 else 0) (cT (p + n) F) L) : wp_X2_takeAll_LEGGER_LINE F L K := by
  have hc0 := hc.adv (q := p + 0) (by omega)
  have := l_all_LEGGER_LINE hK hn hM hF hpn h n 0 fK (by omega) (by rw [fK_eq]; omega) hc0
  rw [Nat.add_zero, hc.self] at this
  exact this
theorem l_all_BOAT_LINE (hK : KIN κ m) {K : Int32 → M2 → L2 → Prop} {F : M2} {L : L2} {p n : Nat} (hn : n ≤ 12) (hM : ∀ j, j < n → ck (κ (p + j)) = kBOAT_LINE j) (hF : n < 12 → ¬ ck (κ (p + n)) = kBOAT_LINE n) (hpn : p + n ≤ m) (h : K (if n = 12 then 1 else 0) (cT (p + n) F) L) : ∀ (d j f : Nat), j + d = n → d + 1 < f → SC κ m val (cT (p + j) F) L (p + j) → wl_X2_takeAll_BOAT_LINE_2 K f (cT (p + j) F) L (nI j) := by
  intro d
  have hm := hK.1
  induction d with
  | zero =>
    intro j f hj hf hc
    obtain ⟨f, rfl, _⟩ := fuel (show 0 < f by omega)
    have e : j = n := by omega
    subst e
    have e6 : Int32.ofNat 12 = nI 12 := rfl
    rw [wl_X2_takeAll_BOAT_LINE_2, e6]
    refine And.intro (fun c => ?_) (fun c => ?_)
    · rw [le_nI (by omega) (by omega)] at c
      rw [if_pos (show j = 12 by omega)] at h
      exact h
    · rw [le_nI (by omega) (by omega)] at c
      rw [if_neg (show ¬ j = 12 by omega)] at h
      refine ⟨inb_nJ (by omega) (by decide), ?_⟩
      rw [tn_nI (by omega)]
      exact c_take hc hK (fun z => absurd z (hF (by omega))) (fun _ => And.intro (fun z => absurd rfl z) (fun _ => h))
  | succ d ih =>
    intro j f hj hf hc
    obtain ⟨f, rfl, _⟩ := fuel (show 0 < f by omega)
    have e6 : Int32.ofNat 12 = nI 12 := rfl
    rw [wl_X2_takeAll_BOAT_LINE_2, e6]
    refine And.intro (fun c => absurd c (nI_ge (by omega) (by omega))) (fun _ => ⟨inb_nJ (by omega) (by decide), ?_⟩)
    rw [tn_nI (by omega)]
    refine c_take hc hK (fun _ => And.intro (fun _ v ev => ?_) (fun z => absurd z (by decide))) (fun z => absurd (hM j (by omega)) z)
    subst ev
    rw [nI_1, cT_cT]
    have hc1 := hc.adv (q := p + (j + 1)) (by omega)
    rw [cT_cT] at hc1
    exact ih (j + 1) f (by omega) (by omega) hc1
theorem c_all_BOAT_LINE (hK : KIN κ m) {K : Int32 → M2 → L2 → Prop} {F : M2} {L : L2} {p n : Nat} (hc : SC κ m val F L p) (hn : n ≤ 12) (hM : ∀ j, j < n → ck (κ (p + j)) = kBOAT_LINE j) (hF : n < 12 → ¬ ck (κ (p + n)) = kBOAT_LINE n) (hpn : p + n ≤ m) (h : K (if n = 12 then 1 else 0) (cT (p + n) F) L) : wp_X2_takeAll_BOAT_LINE F L K := by
  have hc0 := hc.adv (q := p + 0) (by omega)
  have := l_all_BOAT_LINE hK hn hM hF hpn h n 0 fK (by omega) (by rw [fK_eq]; omega) hc0
  rw [Nat.add_zero, hc.self] at this
  exact this
theorem l_all_WHISTLE_HEAD (hK : KIN κ m) {K : Int32 → M2 → L2 → Prop} {F : M2} {L : L2} {p n : Nat} (hn : n ≤ 3) (hM : ∀ j, j < n → ck (κ (p + j)) = kWHISTLE_HEAD j) (hF : n < 3 → ¬ ck (κ (p + n)) = kWHISTLE_HEAD n) (hpn : p + n ≤ m) (h : K (if n = 3 then 1 else 0) (cT (p + n) F) L) : ∀ (d j f : Nat), j + d = n → d + 1 < f → SC κ m val (cT (p + j) F) L (p + j) → wl_X2_takeAll_WHISTLE_HEAD_2 K f (cT (p + j) F) L (nI j) := by
  intro d
  have hm := hK.1
  induction d with
  | zero =>
    intro j f hj hf hc
    obtain ⟨f, rfl, _⟩ := fuel (show 0 < f by omega)
    have e : j = n := by omega
    subst e
    have e6 : Int32.ofNat 3 = nI 3 := rfl
    rw [wl_X2_takeAll_WHISTLE_HEAD_2, e6]
    refine And.intro (fun c => ?_) (fun c => ?_)
    · rw [le_nI (by omega) (by omega)] at c
      rw [if_pos (show j = 3 by omega)] at h
      exact h
    · rw [le_nI (by omega) (by omega)] at c
      rw [if_neg (show ¬ j = 3 by omega)] at h
      refine ⟨inb_nJ (by omega) (by decide), ?_⟩
      rw [tn_nI (by omega)]
      exact c_take hc hK (fun z => absurd z (hF (by omega))) (fun _ => And.intro (fun z => absurd rfl z) (fun _ => h))
  | succ d ih =>
    intro j f hj hf hc
    obtain ⟨f, rfl, _⟩ := fuel (show 0 < f by omega)
    have e6 : Int32.ofNat 3 = nI 3 := rfl
    rw [wl_X2_takeAll_WHISTLE_HEAD_2, e6]
    refine And.intro (fun c => absurd c (nI_ge (by omega) (by omega))) (fun _ => ⟨inb_nJ (by omega) (by decide), ?_⟩)
    rw [tn_nI (by omega)]
    refine c_take hc hK (fun _ => And.intro (fun _ v ev => ?_) (fun z => absurd z (by decide))) (fun z => absurd (hM j (by omega)) z)
    subst ev
    rw [nI_1, cT_cT]
    have hc1 := hc.adv (q := p + (j + 1)) (by omega)
    rw [cT_cT] at hc1
    exact ih (j + 1) f (by omega) (by omega) hc1
theorem c_all_WHISTLE_HEAD (hK : KIN κ m) {K : Int32 → M2 → L2 → Prop} {F : M2} {L : L2} {p n : Nat} (hc : SC κ m val F L p) (hn : n ≤ 3) (hM : ∀ j, j < n → ck (κ (p + j)) = kWHISTLE_HEAD j) (hF : n < 3 → ¬ ck (κ (p + n)) = kWHISTLE_HEAD n) (hpn : p + n ≤ m) (h : K (if n = 3 then 1 else 0) (cT (p + n) F) L) : wp_X2_takeAll_WHISTLE_HEAD F L K := by
  have hc0 := hc.adv (q := p + 0) (by omega)
  have := l_all_WHISTLE_HEAD hK hn hM hF hpn h n 0 fK (by omega) (by rw [fK_eq]; omega) hc0
  rw [Nat.add_zero, hc.self] at this
  exact this
theorem l_all_REST_HEAD (hK : KIN κ m) {K : Int32 → M2 → L2 → Prop} {F : M2} {L : L2} {p n : Nat} (hn : n ≤ 3) (hM : ∀ j, j < n → ck (κ (p + j)) = kREST_HEAD j) (hF : n < 3 → ¬ ck (κ (p + n)) = kREST_HEAD n) (hpn : p + n ≤ m) (h : K (if n = 3 then 1 else 0) (cT (p + n) F) L) : ∀ (d j f : Nat), j + d = n → d + 1 < f → SC κ m val (cT (p + j) F) L (p + j) → wl_X2_takeAll_REST_HEAD_2 K f (cT (p + j) F) L (nI j) := by
  intro d
  have hm := hK.1
  induction d with
  | zero =>
    intro j f hj hf hc
    obtain ⟨f, rfl, _⟩ := fuel (show 0 < f by omega)
    have e : j = n := by omega
    subst e
    have e6 : Int32.ofNat 3 = nI 3 := rfl
    rw [wl_X2_takeAll_REST_HEAD_2, e6]
    refine And.intro (fun c => ?_) (fun c => ?_)
    · rw [le_nI (by omega) (by omega)] at c
      rw [if_pos (show j = 3 by omega)] at h
      exact h
    · rw [le_nI (by omega) (by omega)] at c
      rw [if_neg (show ¬ j = 3 by omega)] at h
      refine ⟨inb_nJ (by omega) (by decide), ?_⟩
      rw [tn_nI (by omega)]
      exact c_take hc hK (fun z => absurd z (hF (by omega))) (fun _ => And.intro (fun z => absurd rfl z) (fun _ => h))
  | succ d ih =>
    intro j f hj hf hc
    obtain ⟨f, rfl, _⟩ := fuel (show 0 < f by omega)
    have e6 : Int32.ofNat 3 = nI 3 := rfl
    rw [wl_X2_takeAll_REST_HEAD_2, e6]
    refine And.intro (fun c => absurd c (nI_ge (by omega) (by omega))) (fun _ => ⟨inb_nJ (by omega) (by decide), ?_⟩)
    rw [tn_nI (by omega)]
    refine c_take hc hK (fun _ => And.intro (fun _ v ev => ?_) (fun z => absurd z (by decide))) (fun z => absurd (hM j (by omega)) z)
    subst ev
    rw [nI_1, cT_cT]
    have hc1 := hc.adv (q := p + (j + 1)) (by omega)
    rw [cT_cT] at hc1
    exact ih (j + 1) f (by omega) (by omega) hc1
theorem c_all_REST_HEAD (hK : KIN κ m) {K : Int32 → M2 → L2 → Prop} {F : M2} {L : L2} {p n : Nat} (hc : SC κ m val F L p) (hn : n ≤ 3) (hM : ∀ j, j < n → ck (κ (p + j)) = kREST_HEAD j) (hF : n < 3 → ¬ ck (κ (p + n)) = kREST_HEAD n) (hpn : p + n ≤ m) (h : K (if n = 3 then 1 else 0) (cT (p + n) F) L) : wp_X2_takeAll_REST_HEAD F L K := by
  have hc0 := hc.adv (q := p + 0) (by omega)
  have := l_all_REST_HEAD hK hn hM hF hpn h n 0 fK (by omega) (by rw [fK_eq]; omega) hc0
  rw [Nat.add_zero, hc.self] at this
  exact this
end LINES
