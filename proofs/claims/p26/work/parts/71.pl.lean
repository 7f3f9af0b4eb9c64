/-! ===== air is spoilt, leggers breathe ===== -/
section AIR
variable {P Q N F S M : M2} {np nl nb ns no : Nat} {b : Nat}
theorem up2_up2 {M : M2} {k : Nat} {g h : Nat → Int32} : up2 (up2 M k g) k h = up2 M k h := by
  funext j
  by_cases e : j = k
  · subst e
    rw [up2_s, up2_s]
  · rw [up2_n _ _ e, up2_n _ _ e, up2_n _ _ e]
theorem up2_id {M : M2} {k : Nat} : up2 M k (M k) = M := by
  funext j
  by_cases e : j = k
  · subst e
    rw [up2_s]
  · rw [up2_n _ _ e]
theorem up2_swap {M : M2} {k k' : Nat} {g h : Nat → Int32} (hk : k ≠ k') : up2 (up2 M k g) k' h = up2 (up2 M k' h) k g := by
  funext j
  by_cases e : j = k
  · subst e
    rw [up2_n _ _ hk, up2_s, up2_s]
  · by_cases e2 : j = k'
    · subst e2
      rw [up2_s, up2_n _ _ e, up2_s]
    · rw [up2_n _ _ e2, up2_n _ _ e, up2_n _ _ e, up2_n _ _ e2]
theorem st2_up2 {M : M2} {k : Nat} {g : Nat → Int32} {i : Nat} {x : Int32} : st2 (up2 M k g) k i x = up2 M k (upd g i x) := by
  unfold st2
  rw [up2_up2, up2_s]
def gSpoil (M : M2) (b : Nat) (A : Nat → Int32) : Nat → Int32 := if M 206 b = 1 then upd A (M 209 b).toInt.toNat (mxv 0 (A (M 209 b).toInt.toNat - 6)) else A
theorem gSpoil_eq (M : M2) (b : Nat) (A : Nat → Int32) : gSpoil M b A = if M 206 b = 1 then upd A (M 209 b).toInt.toNat (mxv 0 (A (M 209 b).toInt.toNat - 6)) else A := rfl
def spoilA (M : M2) (nb : Nat) : Nat → Int32 := lfo (gSpoil M) nb 0 (M 202)
def mSpoil (M : M2) (nb : Nat) : M2 := up2 M 202 (spoilA M nb)
theorem m_spoilL {K : M2 → Prop} (hp : PR P Q np nl nb ns no) (hI : INV Q M np nl nb nb) : ∀ (d j f : Nat) (F : M2) (A : Nat → Int32), j + d = nb → d < f → RE np nl nb F (up2 M 202 A) → (∀ F', RE np nl nb F' (up2 M 202 (lfo (gSpoil M) d j A)) → K F') → wl_X4_spoilAir_2 P K f F (nI j) := by
  intro d
  have h8 := hp.nb3
  have h60 := hp.np3
  induction d with
  | zero =>
    intro j f F A hj hf hr h
    obtain ⟨f, rfl, _⟩ := fuel hf
    exact And.intro (fun _ => h F hr) (fun c => absurd (by rw [hp.nb1]; exact nI_le (by omega) (by omega)) c)
  | succ d ih =>
    intro j f F A hj hf hr h
    obtain ⟨f, rfl, _⟩ := fuel hf
    have hjn : j < nb := by omega
    have a8 : ∀ g : Nat → Int32, atv g 8 (nI j) = g j := fun g => atv_nI (by omega) (by decide)
    unfold lfo at h
    have e6 : F 10 j = M 206 j := by rw [hr.how hjn, up2_n _ _ (by decide)]
    have e9 : F 11 j = M 209 j := by rw [hr.spot hjn, up2_n _ _ (by decide)]
    refine And.intro (fun c => absurd c (by rw [hp.nb1]; exact nI_ge (by omega) (by omega))) (fun _ => ?_)
    rw [a8, a8, e6, e9]
    refine And.intro (fun c v ev => ?_) (fun c F1 e1 v ev => ?_)
    · subst ev
      rw [nI_1]
      have e : gSpoil M j A = A := if_neg c
      rw [e] at h
      exact ih (j + 1) f F A (by omega) (by omega) hr h
    · subst ev
      rw [nI_1]
      rcases hI.2.2.1 j hjn with ⟨_, p, x, w, hpn, hat, _⟩ | ⟨z, _⟩
      · rw [hat, put60 (by omega), atv_nI (by omega) (by decide), hr.air hpn, up2_s] at e1
        subst e1
        have e : gSpoil M j A = upd A p (mxv 0 (A p - 6)) := by
          unfold gSpoil
          rw [if_pos c, hat, tn_nI (by omega)]
        rw [e] at h
        refine ih (j + 1) f _ _ (by omega) (by omega) ?_ h
        rw [← st2_up2]
        exact hr.put (k := 4) (by decide) (by decide) p rfl
      · exact absurd c z
theorem m_spoil {K : M2 → Prop} (hp : PR P Q np nl nb ns no) (hI : INV Q M np nl nb nb) (hr : RE np nl nb F M) (h : ∀ F', RE np nl nb F' (mSpoil M nb) → K F') : wp_X4_spoilAir P F K := by
  have h8 := hp.nb3
  exact m_spoilL hp hI nb 0 fK F (M 202) (by omega) (by rw [fK_eq]; omega) (by rw [up2_id]; exact hr) h
/-- what a legger's breath gains where the air is a -/
def inV (a : Int32) : Int32 := if 40 ≤ a then 1 else -(1 + (40 - a) / 10)
def moreV (Q M : M2) (nb l : Nat) : Int32 := if mBoatOf Q M nb (nI l) = -1 then 2 else inV (M 202 (M 209 (mBoatOf Q M nb (nI l)).toInt.toNat).toInt.toNat)
def gBreath (Q M : M2) (nb : Nat) (l : Nat) (B : Nat → Int32) : Nat → Int32 := upd B l (mxv 0 (mnv (10 * Q 251 l) (B l + moreV Q M nb l)))
theorem gBreath_eq (Q M : M2) (nb : Nat) (l : Nat) (B : Nat → Int32) : gBreath Q M nb l B = upd B l (mxv 0 (mnv (10 * Q 251 l) (B l + moreV Q M nb l))) := rfl
def mBreathe (Q M : M2) (nl nb : Nat) : M2 := up2 M 203 (lfo (gBreath Q M nb) nl 0 (M 203))
theorem boatOf_cases (hp : PR P Q np nl nb ns no) {l : Nat} : mBoatOf Q M nb (nI l) = -1 ∨ ∃ b, b < nb ∧ mBoatOf Q M nb (nI l) = nI b ∧ M 206 b = 1 ∧ (l = kr0 Q b ∨ l = kr1 Q b ∨ ¬ l < 2147483648) := by
  have h8 := hp.nb3
  have h6 := hp.nl3
  rcases ffr_spec (p := pBoatOf (M 206) (fun i => Q (310 + i) 0) (fun i => Q (310 + i) 1) (nI l)) nb 0 with ⟨h1, _⟩ | ⟨b, _, h2, h3, h4, _⟩
  · exact Or.inl h1
  · refine Or.inr ⟨b, by omega, h4, h3.1, ?_⟩
    obtain ⟨k0, k1, _, _, e0, _, e1, _⟩ := hp.boat b (by omega)
    by_cases hl : l < 2147483648
    · rcases h3.2 with z | z
      · have z : Q (310 + b) 0 = nI l := z
        rw [e0] at z
        exact Or.inl (nI_inj (by omega) hl z).symm
      · have z : Q (310 + b) 1 = nI l := z
        rw [e1] at z
        exact Or.inr (Or.inl (nI_inj (by omega) hl z).symm)
    · exact Or.inr (Or.inr hl)
theorem boatOf_up (k : Nat) (g : Nat → Int32) (x : Int32) (hk : k ≠ 206) : mBoatOf Q (up2 M k g) nb x = mBoatOf Q M nb x := by
  unfold mBoatOf
  rw [up2_n _ _ (fun z => hk z.symm)]
theorem m_breatheL {K : M2 → Prop} (hp : PR P Q np nl nb ns no) (hI : INV Q M np nl nb nb) : ∀ (d j f : Nat) (F : M2) (B : Nat → Int32), j + d = nl → d < f → RE np nl nb F (up2 M 203 B) → (∀ F', RE np nl nb F' (up2 M 203 (lfo (gBreath Q M nb) d j B)) → K F') → wl_X4_breathe_2 P K f F (nI j) := by
  intro d
  have h8 := hp.nb3
  have h6 := hp.nl3
  have h60 := hp.np3
  induction d with
  | zero =>
    intro j f F B hj hf hr h
    obtain ⟨f, rfl, _⟩ := fuel hf
    exact And.intro (fun _ => h F hr) (fun c => absurd (by rw [hp.nl1]; exact nI_le (by omega) (by omega)) c)
  | succ d ih =>
    intro j f F B hj hf hr h
    obtain ⟨f, rfl, _⟩ := fuel hf
    have hjn : j < nl := by omega
    have a6 : ∀ g : Nat → Int32, atv g 6 (nI j) = g j := fun g => atv_nI (by omega) (by decide)
    obtain ⟨x, y, _, _, _, _, _, _, ey1, ey2⟩ := hp.leg j hjn
    unfold lfo at h
    have fin : ∀ q0 : Int32, q0 = moreV Q M nb j → wj_X4_breathe_46 P (wl_X4_breathe_2 P K f) K F (nI j) q0 := fun q0 eq => by
      subst eq
      intro F1 e1 v ev
      subst ev
      rw [nI_1]
      rw [put6 (by omega), a6, a6, ey1, hr.breath hjn, up2_s] at e1
      subst e1
      have e : gBreath Q M nb j B = upd B j (mxv 0 (mnv (10 * nI y) (B j + moreV Q M nb j))) := by
        unfold gBreath
        rw [ey2]
      rw [e] at h
      refine ih (j + 1) f _ _ (by omega) (by omega) ?_ h
      rw [← st2_up2]
      exact hr.put (k := 5) (by decide) (by decide) j rfl
    refine And.intro (fun c => absurd c (by rw [hp.nl1]; exact nI_ge (by omega) (by omega))) (fun _ => m_boatOf hp hr ?_)
    rw [boatOf_up 203 B _ (by decide)]
    refine And.intro (fun c => ?_) (fun c => fin 2 (if_pos c).symm)
    rcases boatOf_cases (M := M) hp (l := j) with z | ⟨b, hb, eb, h1, _⟩
    · exact absurd z c
    · have em : moreV Q M nb j = inV (M 202 (M 209 b).toInt.toNat) := by
        unfold moreV
        rw [if_neg c, eb, tn_nI (by omega)]
      rcases hI.2.2.1 b hb with ⟨_, p, x, w, hpn, hat, _⟩ | ⟨z, _⟩
      · rw [eb, atv_nI (by omega) (by decide), hr.spot hb, up2_n _ _ (by decide), hat, atv_nI (by omega) (by decide), hr.air hpn, up2_n _ _ (by decide)]
        rw [hat, tn_nI (by omega)] at em
        unfold inV at em
        exact And.intro (fun c => fin 1 (by rw [em, if_pos c])) (fun c => fin _ (by rw [em, if_neg c]))
      · exact absurd h1 z
theorem m_breathe {K : M2 → Prop} (hp : PR P Q np nl nb ns no) (hI : INV Q M np nl nb nb) (hr : RE np nl nb F M) (h : ∀ F', RE np nl nb F' (mBreathe Q M nl nb) → K F') : wp_X4_breathe P F K := by
  have h6 := hp.nl3
  exact m_breatheL hp hI nl 0 fK F (M 203) (by omega) (by rw [fK_eq]; omega) (by rw [up2_id]; exact hr) h
/-! the reference: boat by boat -/
def gRef (Q : M2) (b : Nat) (M : M2) : M2 := if M 206 b = 1 then (st2 (st2 (st2 M 202 (M 209 b).toInt.toNat (mxv 0 (M 202 (M 209 b).toInt.toNat - 6))) 203 (kr0 Q b) (M 203 (kr0 Q b) + inV (mxv 0 (M 202 (M 209 b).toInt.toNat - 6)))) 203 (kr1 Q b) (M 203 (kr1 Q b) + inV (mxv 0 (M 202 (M 209 b).toInt.toNat - 6)))) else M
theorem gRef_eq (Q : M2) (b : Nat) (M : M2) : gRef Q b M = if M 206 b = 1 then (st2 (st2 (st2 M 202 (M 209 b).toInt.toNat (mxv 0 (M 202 (M 209 b).toInt.toNat - 6))) 203 (kr0 Q b) (M 203 (kr0 Q b) + inV (mxv 0 (M 202 (M 209 b).toInt.toNat - 6)))) 203 (kr1 Q b) (M 203 (kr1 Q b) + inV (mxv 0 (M 202 (M 209 b).toInt.toNat - 6)))) else M := rfl
def gRef2 (Q : M2) (nb : Nat) (l : Nat) (M : M2) : M2 := st2 M 203 l (mxv 0 (mnv (10 * Q 251 l) (M 203 l + (if mBoatOf Q M nb (nI l) = -1 then 2 else 0))))
theorem gRef2_eq (Q : M2) (nb : Nat) (l : Nat) (M : M2) : gRef2 Q nb l M = st2 M 203 l (mxv 0 (mnv (10 * Q 251 l) (M 203 l + (if mBoatOf Q M nb (nI l) = -1 then 2 else 0)))) := rfl
theorem inV_alt {a : Int32} (c : ¬ 40 ≤ a) : (-1 : Int32) - (40 - a) / 10 = inV a := by
  unfold inV
  rw [if_neg c, Int32.neg_add]
theorem gRef_n {k : Nat} (h1 : k ≠ 202) (h2 : k ≠ 203) : gRef Q b M k = M k := by
  unfold gRef
  by_cases c : M 206 b = 1
  · rw [if_pos c, st2_n _ _ _ h2, st2_n _ _ _ h2, st2_n _ _ _ h1]
  · rw [if_neg c]
/-- the spots stay where they are -/
def SPOT (Q M : M2) (np nb : Nat) : Prop := ∀ b, b < nb → M 206 b = 1 → ∃ p, p < np ∧ M 209 b = nI p
theorem SPOT.ref (h : SPOT Q M np nb) : SPOT Q (gRef Q b M) np nb := fun c hc h1 => by
  rw [gRef_n (by decide) (by decide)] at h1 ⊢
  exact h c hc h1
/-! both are the same -/
theorem spoil_at (hI : INV Q M np nl nb nb) (hn : np ≤ 60) : ∀ n, n ≤ nb → ∀ b, b < nb → M 206 b = 1 → lfo (gSpoil M) n 0 (M 202) (M 209 b).toInt.toNat = if b < n then mxv 0 (M 202 (M 209 b).toInt.toNat - 6) else M 202 (M 209 b).toInt.toNat := by
  intro n
  induction n with
  | zero => intro _ b _ _; rfl
  | succ n ih =>
    intro hn' b hb h1
    have e0 := ih (by omega) b hb h1
    rw [lfo_succ, Nat.zero_add]
    rw [gSpoil_eq]
    by_cases c : M 206 n = 1
    · rw [if_pos c]
      by_cases e : b = n
      · subst e
        rw [upd_s, e0, if_neg (by omega), if_pos (by omega)]
      · have hd := hI.2.2.2.1 b n hb (by omega) e h1 c
        have hne : (M 209 b).toInt.toNat ≠ (M 209 n).toInt.toNat := fun z => by
          rcases hI.2.2.1 b hb with ⟨_, p, _, _, hpn, hat, _⟩ | ⟨z2, _⟩
          · rcases hI.2.2.1 n (by omega) with ⟨_, q, _, _, hqn, hat2, _⟩ | ⟨z2, _⟩
            · rw [hat, hat2, tn_nI (by omega), tn_nI (by omega)] at z
              exact hd (by rw [hat, hat2, z])
            · exact z2 c
          · exact z2 h1
        rw [upd_n _ _ hne, e0]
        by_cases c2 : b < n
        · rw [if_pos c2, if_pos (by omega)]
        · rw [if_neg c2, if_neg (by omega)]
    · rw [if_neg c, e0]
      by_cases c2 : b < n
      · rw [if_pos c2, if_pos (by omega)]
      · rw [if_neg c2]
        by_cases e : b = n
        · subst e
          exact absurd h1 c
        · rw [if_neg (by omega)]
theorem ref_spec (hp : PR P Q np nl nb ns no) (hI : INV Q M np nl nb nb) : ∀ n, n ≤ nb → (∀ k, k ≠ 202 → k ≠ 203 → lfo (gRef Q) n 0 M k = M k) ∧ lfo (gRef Q) n 0 M 202 = lfo (gSpoil M) n 0 (M 202) ∧ (∀ l, (∀ b, b < n → M 206 b = 1 → l ≠ kr0 Q b ∧ l ≠ kr1 Q b) → lfo (gRef Q) n 0 M 203 l = M 203 l) ∧ (∀ b, b < n → M 206 b = 1 → ∀ l, (l = kr0 Q b ∨ l = kr1 Q b) → lfo (gRef Q) n 0 M 203 l = M 203 l + inV (mxv 0 (M 202 (M 209 b).toInt.toNat - 6))) := by
  intro n
  induction n with
  | zero => exact fun _ => ⟨fun _ _ _ => rfl, rfl, fun _ _ => rfl, fun b hb => absurd hb (Nat.not_lt_zero _)⟩
  | succ n ih =>
    intro hn
    obtain ⟨i1, i2, i3, i4⟩ := ih (by omega)
    obtain ⟨k0, k1, hk, _⟩ := hp.boat n (by omega)
    rw [lfo_succ, Nat.zero_add, lfo_succ, Nat.zero_add]
    have e6 : lfo (gRef Q) n 0 M 206 n = M 206 n := by rw [i1 206 (by decide) (by decide)]
    have e9 : lfo (gRef Q) n 0 M 209 n = M 209 n := by rw [i1 209 (by decide) (by decide)]
    refine ⟨fun k h1 h2 => by rw [gRef_n h1 h2, i1 k h1 h2], ?_, ?_, ?_⟩
    · rw [gRef_eq, gSpoil_eq]
      rw [e6, e9]
      by_cases c : M 206 n = 1
      · rw [if_pos c, if_pos c, st2_n _ _ _ (by decide), st2_n _ _ _ (by decide), i2]
        unfold st2
        rw [up2_s, i2]
      · rw [if_neg c, if_neg c, i2]
    · intro l hl
      have e3 := i3 l (fun b hb h1 => hl b (by omega) h1)
      rw [gRef_eq]
      rw [e6]
      by_cases c : M 206 n = 1
      · obtain ⟨x1, x2⟩ := hl n (by omega) c
        rw [if_pos c, st2_o _ _ (Or.inr x2), st2_o _ _ (Or.inr x1), st2_n _ _ _ (by decide), e3]
      · rw [if_neg c, e3]
    · intro b hb h1 l hl
      by_cases e : b = n
      · subst e
        have e3 : ∀ l, (l = kr0 Q b ∨ l = kr1 Q b) → lfo (gRef Q) b 0 M 203 l = M 203 l := fun l hl => i3 l (fun c hc h2 => by
          obtain ⟨x1, x2, x3, x4⟩ := hI.2.2.2.2.1 b c (by omega) (by omega) (by omega) h1 h2
          rcases hl with rfl | rfl
          · exact ⟨x1, x2⟩
          · exact ⟨x3, x4⟩)
        have ea : lfo (gRef Q) b 0 M 202 (M 209 b).toInt.toNat = M 202 (M 209 b).toInt.toNat := by
          rw [i2, spoil_at hI hp.np3 b (by omega) b (by omega) h1, if_neg (by omega)]
        rw [gRef_eq]
        rw [e6, if_pos h1, e9, ea]
        rcases hl with rfl | rfl
        · rw [st2_o _ _ (Or.inr hk), st2_s, e3 _ (Or.inl rfl)]
        · rw [st2_s, e3 _ (Or.inr rfl)]
      · have e3 := i4 b (by omega) h1 l hl
        rw [gRef_eq]
        rw [e6]
        by_cases c : M 206 n = 1
        · obtain ⟨x1, x2, x3, x4⟩ := hI.2.2.2.2.1 b n (by omega) (by omega) e h1 c
          have y : l ≠ kr0 Q n ∧ l ≠ kr1 Q n := by
            rcases hl with rfl | rfl
            · exact ⟨x1, x2⟩
            · exact ⟨x3, x4⟩
          rw [if_pos c, st2_o _ _ (Or.inr y.2), st2_o _ _ (Or.inr y.1), st2_n _ _ _ (by decide), e3]
        · rw [if_neg c, e3]
theorem ref_eq (hp : PR P Q np nl nb ns no) (hI : INV Q M np nl nb nb) : lfo (gRef2 Q nb) nl 0 (lfo (gRef Q) nb 0 M) = mBreathe Q (mSpoil M nb) nl nb := by
  have h6 := hp.nl3
  have h8 := hp.nb3
  obtain ⟨i1, i2, i3, i4⟩ := ref_spec hp hI nb (Nat.le_refl _)
  -- step by step over the leggers
  have key : ∀ n, n ≤ nl → lfo (gRef2 Q nb) n 0 (lfo (gRef Q) nb 0 M) = up2 (lfo (gRef Q) nb 0 M) 203 (fun l => if l < n then lfo (gBreath Q (mSpoil M nb) nb) nl 0 (M 203) l else lfo (gRef Q) nb 0 M 203 l) := by
    intro n
    -- what the class's fold gives at l
    have cl : ∀ m, m ≤ nl → ∀ l, lfo (gBreath Q (mSpoil M nb) nb) m 0 (M 203) l = if l < m then mxv 0 (mnv (10 * Q 251 l) (M 203 l + moreV Q (mSpoil M nb) nb l)) else M 203 l := by
      intro m
      induction m with
      | zero => intro _ l; rfl
      | succ m ih =>
        intro hm l
        rw [lfo_succ, Nat.zero_add]
        rw [gBreath_eq]
        by_cases e : l = m
        · subst e
          rw [upd_s]
          have := ih (by omega) l
          rw [this, if_neg (by omega), if_pos (by omega)]
        · rw [upd_n _ _ e]
          have := ih (by omega) l
          rw [this]
          by_cases c : l < m
          · rw [if_pos c, if_pos (by omega)]
          · rw [if_neg c, if_neg (by omega)]
    induction n with
    | zero =>
      intro _
      have : (fun l => if l < 0 then lfo (gBreath Q (mSpoil M nb) nb) nl 0 (M 203) l else lfo (gRef Q) nb 0 M 203 l) = lfo (gRef Q) nb 0 M 203 := funext (fun l => if_neg (Nat.not_lt_zero l))
      rw [this, up2_id]
      rfl
    | succ n ih =>
      intro hn
      rw [lfo_succ, Nat.zero_add, ih (by omega)]
      rw [gRef2_eq]
      rw [boatOf_up 203 _ _ (by decide), up2_s, if_neg (Nat.lt_irrefl n), st2_up2]
      congr 1
      funext l
      by_cases e : l = n
      · subst e
        rw [upd_s, if_pos (Nat.lt_succ_self l), cl nl (Nat.le_refl _), if_pos (show l < nl by omega)]
        have eb : mBoatOf Q (lfo (gRef Q) nb 0 M) nb (nI l) = mBoatOf Q M nb (nI l) := by
          unfold mBoatOf
          rw [i1 206 (by decide) (by decide)]
        have eb2 : mBoatOf Q (mSpoil M nb) nb (nI l) = mBoatOf Q M nb (nI l) := boatOf_up 202 _ _ (by decide)
        unfold moreV
        rw [eb, eb2]
        rcases boatOf_cases (M := M) hp (l := l) with z | ⟨b, hb, z, h1, hl⟩
        · rw [if_pos z, if_pos z]
          have nn := boatOf_none h8 z
          rw [i3 l (fun b hb h1 => ?_)]
          obtain ⟨_, _, _, _, e0, _, e1, _⟩ := hp.boat b hb
          obtain ⟨y0, y1⟩ := nn b hb h1
          rw [e0] at y0
          rw [e1] at y1
          exact ⟨fun z => y0 (by rw [z]), fun z => y1 (by rw [z])⟩
        · have hne : ¬ mBoatOf Q M nb (nI l) = -1 := by
            rw [z]
            exact nI_nm1 (by omega)
          have hl : l = kr0 Q b ∨ l = kr1 Q b := by
            rcases hl with y | y | y
            · exact Or.inl y
            · exact Or.inr y
            · omega
          rw [if_neg hne, if_neg hne, i4 b hb h1 l hl, Int32.add_zero, z, tn_nI (by omega)]
          have e9 : mSpoil M nb 209 b = M 209 b := by
            unfold mSpoil
            rw [up2_n _ _ (by decide)]
          rw [e9]
          have ea : mSpoil M nb 202 (M 209 b).toInt.toNat = mxv 0 (M 202 (M 209 b).toInt.toNat - 6) := by
            unfold mSpoil spoilA
            rw [up2_s, spoil_at hI hp.np3 nb (Nat.le_refl _) b hb h1, if_pos hb]
          rw [ea]
      · rw [upd_n _ _ e]
        by_cases c : l < n
        · rw [if_pos c, if_pos (by omega)]
        · rw [if_neg c, if_neg (by omega)]
  rw [key nl (Nat.le_refl _)]
  unfold mBreathe
  funext k
  by_cases c3 : k = 203
  · subst c3
    rw [up2_s, up2_s]
    have e : mSpoil M nb 203 = M 203 := by
      unfold mSpoil
      rw [up2_n _ _ (by decide)]
    rw [e]
    funext l
    by_cases c : l < nl
    · rw [if_pos c]
    · rw [if_neg c, i3 l (fun b hb h1 => by
        obtain ⟨k0, k1, _⟩ := hp.boat b hb
        exact ⟨by omega, by omega⟩)]
      have key2 : ∀ m, m ≤ nl → lfo (gBreath Q (mSpoil M nb) nb) m 0 (M 203) l = M 203 l := by
        intro m
        induction m with
        | zero => intro _; rfl
        | succ m ih =>
          intro hm
          rw [lfo_succ, Nat.zero_add]
          have := ih (by omega)
          rw [gBreath_eq, upd_n _ _ (by omega), this]
      rw [key2 nl (Nat.le_refl _)]
  · rw [up2_n _ _ c3, up2_n _ _ c3]
    unfold mSpoil
    by_cases c2 : k = 202
    · subst c2
      rw [up2_s, i2]
      rfl
    · rw [up2_n _ _ c2, i1 k c2 c3]
end AIR
