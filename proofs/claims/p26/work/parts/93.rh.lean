/-! ===== one token on both sides ===== -/
section ONE
variable {τ : Nat → Nat} {sz : Nat}
theorem nI_sub' {a b : Nat} (h : b ≤ a) : nI a - nI b = nI (a - b) := by
  have : nI (a - b) + nI b = nI a := by rw [nI_add]; congr 1; omega
  rw [← this, Int32.add_sub_cancel]
abbrev lgT (τ : Nat → Nat) (sz p : Nat) : Prop := (τ p = 60 ∨ τ p = 62) ∧ p + 1 < sz ∧ τ (p + 1) = 61
def wln (τ : Nat → Nat) (sz p : Nat) : Nat := wen τ (sz - p) p - p
def nln (τ : Nat → Nat) (sz p : Nat) : Nat := nen τ (sz - p) p - p
def wkd (τ : Nat → Nat) (sz p : Nat) : Int32 := wkF (cdI τ p (wln τ sz p)) 32 0
/-- the kind of the token at place p, its length, its value -/
def tkd (τ : Nat → Nat) (sz p : Nat) : Int32 := if sz ≤ p then 900 else if isL (τ p) then (if wln τ sz p ≤ 10 then wkd τ sz p else 901) else if isD (τ p) then (if nln τ sz p ≤ 6 then 41 else 901) else if lgT τ sz p then (if τ p = 60 then 300 else 301) else symR (τ p)
def tln (τ : Nat → Nat) (sz p : Nat) : Nat := if isL (τ p) then wln τ sz p else if isD (τ p) then nln τ sz p else if lgT τ sz p then 2 else 1
def tvl (τ : Nat → Nat) (sz p : Nat) : Int64 := if sz ≤ p then 0 else if isL (τ p) then (if wln τ sz p ≤ 10 then (if wkd τ sz p = 12 then 0 else if wkd τ sz p = 13 then 1 else cdI τ p (wln τ sz p)) else 0) else if isD (τ p) then (if nln τ sz p ≤ 6 then nbI τ p (nln τ sz p) else 0) else 0
theorem wkF_cases {c : Int64} : ∀ (d k : Nat), wkF c d k = 40 ∨ ∃ j, k ≤ j ∧ j < k + d ∧ wkF c d k = nI j ∧ kwI j = c
  | 0, k => Or.inl rfl
  | d + 1, k => by
    unfold wkF
    by_cases e : kwI k = c
    · rw [if_pos e]
      exact Or.inr ⟨k, by omega, by omega, rfl, e⟩
    · rw [if_neg e]
      rcases wkF_cases (c := c) d (k + 1) with h | ⟨j, h1, h2, h3, h4⟩
      · exact Or.inl h
      · exact Or.inr ⟨j, by omega, by omega, h3, h4⟩
theorem wkd_vk {p : Nat} : wkd τ sz p ∈ vk ∧ wkd τ sz p < 900 ∧ ¬ wkd τ sz p = 41 := by
  unfold wkd
  rcases wkF_cases (c := cdI τ p (wln τ sz p)) 32 0 with h | ⟨j, h1, h2, h3, h4⟩
  · rw [h]
    decide
  · rw [h3]
    have key : ∀ j, j < 32 → nI j ∈ vk ∧ nI j < 900 ∧ ¬ nI j = 41 := by decide +kernel
    exact key j (by omega)
theorem wen_first {p : Nat} (hp : p < sz) (hl : isL (τ p)) : wen τ (sz - p) p = wen τ (sz - (p + 1)) (p + 1) ∧ p + 1 ≤ wen τ (sz - p) p ∧ wen τ (sz - p) p ≤ sz := by
  have e : sz - p = (sz - (p + 1)) + 1 := by omega
  have h1 : wen τ (sz - p) p = wen τ (sz - (p + 1)) (p + 1) := by
    rw [e]
    show (if 0 < sg (τ p) then wen τ (sz - (p + 1)) (p + 1) else p) = _
    rw [if_pos (sg_pos.mpr (Or.inl hl))]
  have h2 := wen_le (τ := τ) (sz - (p + 1)) (p + 1)
  rw [h1]
  exact ⟨rfl, by omega, by omega⟩
theorem nen_first {p : Nat} (hp : p < sz) (hl : isD (τ p)) : nen τ (sz - p) p = nen τ (sz - (p + 1)) (p + 1) ∧ p + 1 ≤ nen τ (sz - p) p ∧ nen τ (sz - p) p ≤ sz := by
  have e : sz - p = (sz - (p + 1)) + 1 := by omega
  have h1 : nen τ (sz - p) p = nen τ (sz - (p + 1)) (p + 1) := by
    rw [e]
    show (if isD (τ p) then nen τ (sz - (p + 1)) (p + 1) else p) = _
    rw [if_pos hl]
  have h2 := nen_le (τ := τ) (sz - (p + 1)) (p + 1)
  rw [h1]
  exact ⟨rfl, by omega, by omega⟩
theorem tln_le {p : Nat} (hp : p < sz) : 1 ≤ tln τ sz p ∧ p + tln τ sz p ≤ sz := by
  unfold tln wln nln
  by_cases h1 : isL (τ p)
  · rw [if_pos h1]
    have := wen_first hp h1
    omega
  rw [if_neg h1]
  by_cases h2 : isD (τ p)
  · rw [if_pos h2]
    have := nen_first hp h2
    omega
  rw [if_neg h2]
  by_cases h3 : lgT τ sz p
  · rw [if_pos h3]
    have := h3.2.1
    omega
  · rw [if_neg h3]
    omega
/-! the class -/
theorem c_found {F : M2} {L : L2} {i : Nat} (hi : i ≤ 400) {k : Int32} {v : Int64} {b : Int32} {K : Int32 → M2 → L2 → Prop} (h : K b (up2 F 74 (upd (F 74) i k)) (ul2 L 76 (vp_updL (L 76) i v))) : wp_X3_found F L (nI i) k v b K := by
  intro F1 e1 L1 e2
  rw [putv_nI (by omega) (by decide)] at e1
  rw [putl_nI (by omega) (by decide)] at e2
  subst e1 e2
  exact h
theorem kt12 : kt 12 0 = 119 ∧ kt 13 0 = 101 ∧ 0 < sn 12 ∧ 0 < sn 13 := by decide +kernel
theorem side_first {p : Nat} (hp : p < sz) (hl : isL (τ p)) (hn : wln τ sz p ≤ 10) : (wkd τ sz p = 12 → τ p = 119) ∧ (wkd τ sz p = 13 → τ p = 101) := by
  have hs : ∀ i, i < wln τ sz p → 0 < sg (τ (p + i)) := fun i hi => wen_sg (sz - p) p (p + i) (by omega) (by unfold wln at hi; omega)
  have hw := (wen_first hp hl).2.1
  have key : ∀ k, k < 32 → wkd τ sz p = nI k → kt k 0 = τ p := fun k hk e => by
    unfold wkd at e
    rcases wkF_cases (c := cdI τ p (wln τ sz p)) 32 0 with h | ⟨j, h1, h2, h3, h4⟩
    · rw [h] at e
      have : (40 : Int32) = nI 40 := rfl
      rw [this] at e
      have := nI_inj (by omega) (by omega) e
      omega
    · rw [h3] at e
      have := nI_inj (by omega) (by omega) e
      subst this
      obtain ⟨⟨t1, t2⟩, t3⟩ := kw_tab j hk
      obtain ⟨g1, g2⟩ := cdI_inj (τ := kt j) (σ := τ) (p := 0) (q := p) t1 hn (fun i hi => by rw [Nat.zero_add]; exact (t3 i hi).2.1) hs h4
      exact g2 0 t2
  refine ⟨fun e => ?_, fun e => ?_⟩
  · rw [← key 12 (by decide) e]
    exact kt12.1
  · rw [← key 13 (by decide) e]
    exact kt12.2.1
theorem c_readOne {F : M2} {L : L2} (hT : TPC τ sz F) (hW : KWT F L) {i p : Nat} (hi : i ≤ 400) (hp : p ≤ sz) {K : Int32 → M2 → L2 → Prop} (hk : ∀ b, (tkd τ sz p < 900 → b = nI (p + tln τ sz p)) → K b (up2 F 74 (upd (F 74) i (ck (if i = 400 ∧ ¬ sz ≤ p then 901 else tkd τ sz p)))) (ul2 L 76 (vp_updL (L 76) i (if i = 400 then 0 else tvl τ sz p)))) (hq : ∀ b, i = 400 → K b (up2 F 74 (upd (F 74) i (ck (if i = 400 ∧ ¬ sz ≤ p then 901 else tkd τ sz p)))) (ul2 L 76 (vp_updL (L 76) i (if i = 400 then 0 else tvl τ sz p)))) : wp_X3_readOne F L (nI i) (nI p) K := by
  have hs := hT.1
  have e400 : (400 : Int32) = nI 400 := rfl
  refine c_byteAt hT (by omega) (fun h1 => ?_) (fun h0 => ?_)
  · have hb := (hT.2.1 p h1).1
    have np : ¬ sz ≤ p := by omega
    refine And.intro (fun _ => And.intro (fun c4 => ?_) (fun c4 => ?_)) (fun z => absurd z (nI_nm1 (by omega)))
    · rw [e400, lt_nI (by omega) (by omega)] at c4
      have ek : (if i = 400 ∧ ¬ sz ≤ p then (901 : Int32) else tkd τ sz p) = tkd τ sz p := if_neg (fun z => by omega)
      have ev : (if i = 400 then (0 : Int64) else tvl τ sz p) = tvl τ sz p := if_neg (by omega)
      rw [ek, ev] at hk
      unfold tkd tln tvl at hk
      rw [if_neg np, if_neg np] at hk
      refine c_isLetter hb (fun hl => And.intro (fun z => absurd z (by decide)) (fun _ => ?_)) (fun hl => And.intro (fun _ => ?_) (fun z => absurd rfl z))
      · rw [if_pos hl, if_pos hl, if_pos hl] at hk
        obtain ⟨w1, w2, w3⟩ := wen_first h1 hl
        have := c_wordL (L := L) hT (K := fun r F L => K r F L) (x1 := i) (p := p) (sz - p) 0 fK (by omega) (by rw [fK_eq]; omega)
        refine this ?_
        rw [Nat.add_zero]
        have eln : wen τ (sz - p) p - p = wln τ sz p := rfl
        unfold wj_X3_readWord_49
        rw [nI_sub' (by omega), eln]
        have e10 : (10 : Int32) = nI 10 := rfl
        rw [e10, le_nI (by unfold wln; omega) (by omega)]
        refine And.intro (fun g => ?_) (fun g => ?_)
        · rw [if_pos g, if_pos g] at hk
          have hk := hk (nI (wen τ (sz - p) p)) (fun _ => by congr 1; unfold wln; omega)
          refine c_kindL hW 32 0 fK (by omega) (by rw [fK_eq]; omega) ?_
          have ewk : wkF (cdI τ p (wln τ sz p)) 32 0 = wkd τ sz p := rfl
          rw [ewk]
          have hc3 := ck_3 (wkd_vk (τ := τ) (sz := sz) (p := p)).1
          obtain ⟨s1, s2⟩ := side_first h1 hl g
          have e119 : (119 : Int32) = nI 119 := rfl
          refine And.intro (fun n3 => c_found hi ?_) (fun n3 => c_byteAt hT (by omega) (fun _ => ?_) (fun z => absurd z (by omega)))
          · rw [if_neg (fun z => n3 (hc3.mpr (Or.inl z))), if_neg (fun z => n3 (hc3.mpr (Or.inr z)))] at hk
            exact hk
          · rw [e119, nI_eqN hb (by decide)]
            refine And.intro (fun m => c_found hi ?_) (fun m => c_found hi ?_)
            · rcases hc3.mp n3 with z | z
              · exact absurd (s1 z) m
              · rw [if_neg (by rw [z]; decide), if_pos z] at hk
                exact hk
            · rcases hc3.mp n3 with z | z
              · rw [if_pos z] at hk
                exact hk
              · have := s2 z
                omega
        · rw [if_neg g, if_neg g] at hk
          exact c_found hi (hk _ (fun z => absurd z (by decide)))
      · rw [if_neg hl, if_neg hl, if_neg hl] at hk
        refine c_isDigit hb (fun hd => And.intro (fun z => absurd z (by decide)) (fun _ => ?_)) (fun hd => And.intro (fun _ => ?_) (fun z => absurd rfl z))
        · rw [if_pos hd, if_pos hd, if_pos hd] at hk
          obtain ⟨w1, w2, w3⟩ := nen_first h1 hd
          have := c_numberL (L := L) hT (K := fun r F L => K r F L) (x1 := i) (p := p) (sz - p) 0 fK (by omega) (by rw [fK_eq]; omega)
          refine this ?_
          rw [Nat.add_zero]
          have eln : nen τ (sz - p) p - p = nln τ sz p := rfl
          unfold wj_X3_readNumber_49
          rw [nI_sub' (by omega), eln]
          have e10 : (6 : Int32) = nI 6 := rfl
          rw [e10, le_nI (by unfold nln; omega) (by omega)]
          refine And.intro (fun g => c_found hi ?_) (fun g => c_found hi ?_)
          · rw [if_pos g, if_pos g] at hk
            exact hk (nI (nen τ (sz - p) p)) (fun _ => by congr 1; unfold nln; omega)
          · rw [if_neg g, if_neg g] at hk
            exact hk _ (fun z => absurd z (by decide))
        · rw [if_neg hd, if_neg hd, if_neg hd] at hk
          have e60 : (60 : Int32) = nI 60 := rfl
          have e61 : (61 : Int32) = nI 61 := rfl
          have e62 : (62 : Int32) = nI 62 := rfl
          have sym : ¬ lgT τ sz p → wj_X3_readSymbol_53 (fun r F L => K r F L) F L (nI i) (nI p) (nI (τ p)) := fun g => c_symbol hb (c_found hi (by
            rw [if_neg g, if_neg g] at hk
            exact hk (nI p + 1) (fun _ => nI_1 p)))
          have lng : lgT τ sz p → wj_X3_readSymbol_30 (fun r F L => K r F L) F L (nI i) (nI p) (nI (τ p)) := fun g => by
            rw [if_pos g, if_pos g] at hk
            unfold wj_X3_readSymbol_30
            rw [e60, nI_eqN hb (by decide)]
            refine And.intro (fun c => c_found hi ?_) (fun c => c_found hi ?_)
            · rw [if_neg c] at hk
              exact hk (nI p + 2) (fun _ => nI_add p 2)
            · rw [if_pos c] at hk
              exact hk (nI p + 2) (fun _ => nI_add p 2)
          unfold wp_X3_readSymbol
          rw [nI_1]
          refine c_byteAt hT (by omega) (fun _ => c_byteAt hT (by omega) (fun h2 => ?_) (fun h2 => ?_)) (fun z => absurd z (by omega))
          · have hb2 := (hT.2.1 (p + 1) h2).1
            rw [e61, nI_eqN hb2 (by decide), e60, e62, nI_eqN hb (by decide), nI_eqN hb (by decide)]
            exact And.intro (fun c => sym (fun z => c z.2.2)) (fun c => And.intro (fun c2 => lng ⟨Or.inl c2, h2, c⟩) (fun c2 => And.intro (fun c3 => sym (fun z => z.1.elim c2 c3)) (fun c3 => lng ⟨Or.inr c3, h2, c⟩)))
          · exact And.intro (fun _ => sym (fun z => absurd z.2.1 (by omega))) (fun z => absurd z (by decide))
    · rw [e400, lt_nI (by omega) (by omega)] at c4
      have e : i = 400 := by omega
      have hq := hq (nI p) e
      rw [if_pos ⟨e, np⟩, if_pos e] at hq
      exact c_found hi hq
  · refine And.intro (fun z => absurd rfl z) (fun _ => c_found hi ?_)
    have ek : (if i = 400 ∧ ¬ sz ≤ p then (901 : Int32) else tkd τ sz p) = 900 := by
      rw [if_neg (fun z => z.2 h0)]
      unfold tkd
      rw [if_pos h0]
    have ev : (if i = 400 then (0 : Int64) else tvl τ sz p) = 0 := by
      unfold tvl
      rw [if_pos h0, ite_self]
    rw [ek, ev] at hk
    refine hk (nI p) (fun z => ?_)
    unfold tkd at z
    rw [if_pos h0] at z
    exact absurd z (by decide)
def lnS (τ : Nat → Nat) (sz i p : Nat) (N : M2) : M2 := up2 N 226 (upd (N 226) i (nI (tln τ sz p)))
end ONE
