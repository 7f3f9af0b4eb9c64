/-! ===== good air by hand, on both sides ===== -/
section AIRS
theorem sfr_sub {c g : Nat → Int32} : ∀ (d j : Nat), sfr (fun i => c i - g i) d j 0 = sfr c d j 0 - sfr g d j 0
  | 0, j => by simp [sfr]
  | d + 1, j => by
    have e1 : sfr (fun i => c i - g i) (d + 1) j 0 = sfr (fun i => c i - g i) d (j + 1) (0 + (c j - g j)) := rfl
    have e2 : sfr c (d + 1) j 0 = sfr c d (j + 1) (0 + c j) := rfl
    have e3 : sfr g (d + 1) j 0 = sfr g d (j + 1) (0 + g j) := rfl
    rw [e1, e2, e3, sfr_add d (j + 1) (0 + (c j - g j)), sfr_add d (j + 1) (0 + c j), sfr_add d (j + 1) (0 + g j), sfr_sub d (j + 1)]
    simp only [Int32.zero_add, Int32.sub_eq_add_neg, Int32.neg_add]
    simp only [Int32.add_assoc]
    rw [← Int32.add_assoc (-g j) _ _, Int32.add_comm (-g j) _, Int32.add_assoc]
theorem c_air {P F C : M2} {np : Nat} (hnp : np ≤ 60) (h21 : P 21 0 = nI np) {K : Int32 → M2 → M2 → Prop} (hK : ∀ F', (∀ k, k ≠ 4 → F' k = F k) → (∀ i, i < np → F' 4 i = 100) → K (sfr (fun i => 100 - F 4 i) np 0 0) F' C) : wp_X5_air P F C K := by
  have loop : ∀ (d p f : Nat) (a : Int32) (G : M2), p + d = np → d < f → (∀ k, k ≠ 4 → G k = F k) → (∀ i, G 4 i = if i < p then 100 else F 4 i) → sfr (fun i => 100 - F 4 i) d p a = sfr (fun i => 100 - F 4 i) np 0 0 → wl_X5_air_4 P K f G C a (nI p) := by
    intro d
    induction d with
    | zero =>
      intro p f a G hp hf h1 h2 h
      obtain ⟨f, rfl, _⟩ := fuel hf
      have h : a = _ := h
      subst h
      exact And.intro (fun _ => hK G h1 (fun i hi => by rw [h2, if_pos (by omega)])) (fun z => absurd (by rw [h21]; exact nI_le (by omega) (by omega)) z)
    | succ d ih =>
      intro p f a G hp hf h1 h2 h
      obtain ⟨f, rfl, _⟩ := fuel (show 0 < f by omega)
      refine And.intro (fun z => absurd z (by rw [h21]; exact nI_ge (by omega) (by omega))) (fun _ v1 e1 F1 e2 v2 e3 => ?_)
      rw [atv_nI (by omega) (by decide), h2, if_neg (by omega)] at e1
      rw [putv_nI (by omega) (by decide)] at e2
      rw [nI_1] at e3
      subst e1 e3
      refine ih (p + 1) f _ F1 (by omega) (by omega) (fun k hk => by rw [e2, up2_n _ _ hk]; exact h1 k hk) (fun i => ?_) h
      rw [e2, up2_s]
      by_cases e : i = p
      · subst e
        rw [upd_s, if_pos (by omega)]
      · rw [upd_n _ _ e, h2]
        by_cases g : i < p
        · rw [if_pos g, if_pos (by omega)]
        · rw [if_neg g, if_neg (by omega)]
  exact loop np 0 fK 0 F (by omega) (by rw [fK_eq]; omega) (fun _ _ => rfl) (fun i => by rw [if_neg (Nat.not_lt_zero _)]) rfl
theorem r_air {P S N : M2} {np : Nat} (hnp : np ≤ 60) (h241 : P 241 0 = nI np) {K : Int32 → M2 → M2 → Prop} (hK : ∀ S', (∀ k, k ≠ 202 → S' k = S k) → (∀ i, S' 202 i = if i < np then 100 else S 202 i) → K (sfr (fun i => 100 - S 202 i) np 0 0) S' (up2 N 220 (fun _ => 0))) : wp_X8_air P S N K := by
  intro N1 e1
  subst e1
  refine v_X7_allAir h241 hnp ?_
  have loop : ∀ (d p f : Nat) (G : M2), p + d = np → d < f → (∀ k, k ≠ 202 → G k = S k) → (∀ i, G 202 i = if i < p then 100 else S 202 i) → wl_X8_air_15 P K f G (up2 N 220 (fun _ => 0)) (sfr (S 202) np 0 0) (nI p) := by
    intro d
    induction d with
    | zero =>
      intro p f G hp hf h1 h2
      obtain ⟨f, rfl, _⟩ := fuel hf
      have e : p = np := by omega
      subst e
      refine And.intro (fun _ => v_X7_allAir h241 hnp ?_) (fun z => absurd (by rw [h241]; exact nI_le (by omega) (by omega)) z)
      have e1 : sfr (G 202) p 0 0 = sfr (fun _ => 100) p 0 0 := sfr_cong (fun i _ hi => by rw [h2, if_pos (by omega)])
      rw [e1, ← sfr_sub]
      exact hK G h1 h2
    | succ d ih =>
      intro p f G hp hf h1 h2
      obtain ⟨f, rfl, _⟩ := fuel (show 0 < f by omega)
      refine And.intro (fun z => absurd z (by rw [h241]; exact nI_ge (by omega) (by omega))) (fun _ => ⟨inb_nI (by omega) (by decide), fun S1 e1 v ev => ?_⟩)
      rw [tn_nI (by omega)] at e1
      rw [nI_1] at ev
      subst ev
      refine ih (p + 1) f S1 (by omega) (by omega) (fun k hk => by rw [e1, up2_n _ _ hk]; exact h1 k hk) (fun i => ?_)
      rw [e1, up2_s]
      by_cases e : i = p
      · subst e
        rw [upd_s, if_pos (by omega)]
      · rw [upd_n _ _ e, h2]
        by_cases g : i < p
        · rw [if_pos g, if_pos (by omega)]
        · rw [if_neg g, if_neg (by omega)]
  exact loop np 0 fK S (by omega) (by rw [fK_eq]; omega) (fun _ _ => rfl) (fun i => by rw [if_neg (Nat.not_lt_zero _)])
/-- and the answers are one -/
theorem air_one {F M S : M2} {np nl nb : Nat} (hR : RE np nl nb F M) (hQ : QE S M) : sfr (fun i => 100 - F 4 i) np 0 0 = sfr (fun i => 100 - S 202 i) np 0 0 := by
  refine sfr_cong (fun i _ hi => ?_)
  have e1 : F 4 i = M 202 i := hR 4 (by decide) (by decide) i (by show i < np; omega)
  rw [e1, hQ 202 (by decide) (by decide)]
theorem air_rel {Q F F' M S S' : M2} {np nl nb : Nat} (hR : RE np nl nb F M) (hQ : QE S M) (hI : INV Q M np nl nb nb) (f1 : ∀ k, k ≠ 4 → F' k = F k) (f2 : ∀ i, i < np → F' 4 i = 100) (s1 : ∀ k, k ≠ 202 → S' k = S k) (s2 : ∀ i, S' 202 i = if i < np then 100 else S 202 i) : RE np nl nb F' S' ∧ QE S' S' ∧ INV Q S' np nl nb nb := by
  have e : ∀ k, 200 ≤ k → k ≤ 212 → k ≠ 202 → S' k = M k := fun k a b c => (s1 k c).trans (hQ k a b)
  obtain ⟨i1, i2, i3, i4, i5, i6⟩ := hI
  refine ⟨fun k k1 k2 i hi => ?_, fun _ _ _ => rfl, fun p hp => ⟨100, by omega, by rw [s2, if_pos hp]; rfl⟩, ?_, ?_, ?_, ?_, ?_⟩
  · by_cases h4 : k = 4
    · subst h4
      have hi : i < np := hi
      show F' 4 i = S' 202 i
      rw [f2 i hi, s2, if_pos hi]
    · have hk : km k ≠ 202 := fun z => h4 (km_inj k1 k2 (by decide) (by decide) z)
      have hb : 200 ≤ km k ∧ km k ≤ 212 := by
        have key : ∀ a : Fin 14, 1 ≤ a.val → 200 ≤ km a.val ∧ km a.val ≤ 212 := by decide
        exact key ⟨k, by omega⟩ k1
      rw [f1 k h4, e _ hb.1 hb.2 hk]
      exact hR k k1 k2 i hi
  · unfold IW
    rw [e 205 (by decide) (by decide) (by decide)]
    exact i2
  · unfold IB isIn isOff
    rw [e 206 (by decide) (by decide) (by decide), e 209 (by decide) (by decide) (by decide), e 210 (by decide) (by decide) (by decide)]
    exact i3
  · unfold ID
    rw [e 206 (by decide) (by decide) (by decide), e 209 (by decide) (by decide) (by decide)]
    exact i4
  · unfold IC
    rw [e 206 (by decide) (by decide) (by decide)]
    exact i5
  · unfold IS
    rw [e 207 (by decide) (by decide) (by decide)]
    exact i6
end AIRS
