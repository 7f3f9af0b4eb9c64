/-! ===== boats go in, are pushed: the loops over the boats ===== -/
section GO
variable {P Q N F S M : M2} {np nl nb ns no : Nat} {b : Nat} {T : Nat → List (Int32 × Int32)}
theorem mEnter_is {j : Nat} : mEnter Q M b 206 j = if j = b then 1 else M 206 j := by
  unfold mEnter
  rw [mCome_n (by decide) (by decide), st2_n _ _ _ (by decide), st2_k]
theorem mEnter_at {j : Nat} : mEnter Q M b 209 j = if j = b then (if M 207 b = 0 then 0 else Q 241 0 - 1) else M 209 j := by
  unfold mEnter
  rw [mCome_at, st2_n _ _ _ (by decide), st2_n _ _ _ (by decide)]
theorem mEnter_pu {j : Nat} : mEnter Q M b 210 j = if j = b then 0 else M 210 j := by
  unfold mEnter
  rw [mCome_n (by decide) (by decide), st2_k, st2_n _ _ _ (by decide)]
theorem mEnter_n {k : Nat} (h1 : k ≠ 204) (h2 : k ≠ 206) (h3 : k ≠ 209) (h4 : k ≠ 210) : mEnter Q M b k = M k := by
  unfold mEnter
  rw [mCome_n h1 h3, st2_n _ _ _ h4, st2_n _ _ _ h2]
theorem clear_spec {k : Int32} (h : mClear Q M nb k = 1) : ∀ c, c < nb → M 206 c = 1 → M 207 c = k ∧ 4 ≤ (if k = 0 then M 209 c else Q 241 0 - 1 - M 209 c) := fun c hc h1 => by
  have := nor_one.mp h c hc
  exact Decidable.byContradiction (fun z => this ⟨h1, z⟩)
theorem boatOf_none (hn : nb ≤ 8) {l : Nat} (h : mBoatOf Q M nb (nI l) = -1) : ∀ c, c < nb → M 206 c = 1 → ¬ Q (310 + c) 0 = nI l ∧ ¬ Q (310 + c) 1 = nI l := fun c hc h1 => by
  have := (ffr_none (by omega)).mp h c hc
  exact ⟨fun z => this ⟨h1, Or.inl z⟩, fun z => this ⟨h1, Or.inr z⟩⟩
theorem INV.enter (hp : PR P Q np nl nb ns no) (hI : INV Q M np nl nb nb) (hb : b < nb) (hc : canP T Q M np nb no b) : INV Q (mEnter Q M b) np nl nb nb := by
  have h8 := hp.nb3
  have h60 := hp.np3
  obtain ⟨ha, hw', hB, hD, hC, hS⟩ := hI
  obtain ⟨c1, c2, c3, c4, c5, ⟨⟨r0, _⟩, _⟩, ⟨⟨r1, _⟩, _⟩⟩ := hc
  obtain ⟨k0, k1, hk, _, ec0, _, ec1, w, w1, w60, _, ew⟩ := hp.boat b hb
  have hcl := clear_spec c5
  have n0 := boatOf_none h8 r0
  have n1 := boatOf_none h8 r1
  have enp : nI np - 1 = nI (np - 1) := by
    have := nI_pred (np - 1)
    rw [show np - 1 + 1 = np by omega] at this
    exact this
  -- the place at its end
  obtain ⟨e, he, ee⟩ : ∃ e, e < np ∧ (if M 207 b = 0 then 0 else Q 241 0 - 1) = nI e := by
    by_cases h0 : M 207 b = 0
    · exact ⟨0, c4, by rw [if_pos h0, nI_0]⟩
    · exact ⟨np - 1, by omega, by rw [if_neg h0, hp.np2, enp]⟩
  -- no boat in the tunnel is there
  have free : ∀ c, c < nb → M 206 c = 1 → ¬ M 209 c = nI e := fun c hc h1 z => by
    have h4 := (hcl c hc h1).2
    rw [← c3, z] at h4
    by_cases h0 : M 207 b = 0
    · rw [if_pos h0] at h4 ee
      rw [← ee] at h4
      exact absurd h4 (by decide)
    · rw [if_neg h0] at h4 ee
      rw [ee, Int32.sub_self] at h4
      exact absurd h4 (by decide)
  have is1 : ∀ c, mEnter Q M b 206 c = 1 → c = b ∨ (c ≠ b ∧ M 206 c = 1) := fun c hc => by
    rw [mEnter_is] at hc
    by_cases e : c = b
    · exact Or.inl e
    · rw [if_neg e] at hc
      exact Or.inr ⟨e, hc⟩
  have crew : ∀ c, c < nb → M 206 c = 1 → kr0 Q b ≠ kr0 Q c ∧ kr0 Q b ≠ kr1 Q c ∧ kr1 Q b ≠ kr0 Q c ∧ kr1 Q b ≠ kr1 Q c := fun c hc h1 => by
    obtain ⟨_, _, _, _, d0, _, d1, _⟩ := hp.boat c hc
    refine ⟨fun z => (n0 c hc h1).1 ?_, fun z => (n0 c hc h1).2 ?_, fun z => (n1 c hc h1).1 ?_, fun z => (n1 c hc h1).2 ?_⟩
    · rw [d0, z]
    · rw [d1, z]
    · rw [d0, z]
    · rw [d1, z]
  refine ⟨fun q hq => ?_, fun l hl => ?_, fun c hc => ?_, fun c d hc hd hcd h2 h3 => ?_, fun c d hc hd hcd h2 h3 => ?_, fun c hc => ?_⟩
  · rw [mEnter_n (by decide) (by decide) (by decide) (by decide)]
    exact ha q hq
  · rw [mEnter_n (by decide) (by decide) (by decide) (by decide)]
    exact hw' l hl
  · have e9 : decide (c = nb) = false := decide_eq_false (by omega)
    by_cases e1 : c = b
    · subst e1
      refine Or.inl ⟨by rw [mEnter_is, if_pos rfl], e, 0, w, he, by rw [mEnter_at, if_pos rfl]; exact ee, by rw [mEnter_pu, if_pos rfl, nI_0], ew, w1, w60, fun _ => by omega, by omega⟩
    · rcases hB c hc with ⟨h4, q, y, v, h5, h6, h7, h8⟩ | ⟨h4, h5, h6⟩
      · refine Or.inl ⟨by rw [mEnter_is, if_neg e1]; exact h4, q, y, v, h5, by rw [mEnter_at, if_neg e1]; exact h6, by rw [mEnter_pu, if_neg e1]; exact h7, h8⟩
      · refine Or.inr ⟨by rw [mEnter_is, if_neg e1]; exact h4, by rw [mEnter_at, if_neg e1]; exact h5, by rw [mEnter_pu, if_neg e1]; exact h6⟩
  · rw [mEnter_at, mEnter_at]
    rcases is1 c h2 with e1 | ⟨e1, h2⟩
    · rcases is1 d h3 with e2 | ⟨e2, h3⟩
      · exact absurd (e1.trans e2.symm) hcd
      · rw [if_pos e1, if_neg e2, ee]
        exact fun z => free d hd h3 z.symm
    · rcases is1 d h3 with e2 | ⟨e2, h3⟩
      · rw [if_neg e1, if_pos e2, ee]
        exact free c hc h2
      · rw [if_neg e1, if_neg e2]
        exact hD c d hc hd hcd h2 h3
  · rcases is1 c h2 with e1 | ⟨e1, h2'⟩
    · rcases is1 d h3 with e2 | ⟨e2, h3'⟩
      · exact absurd (e1.trans e2.symm) hcd
      · subst e1
        exact crew d hd h3'
    · rcases is1 d h3 with e2 | ⟨e2, h3'⟩
      · subst e2
        obtain ⟨x1, x2, x3, x4⟩ := crew c hc h2'
        exact ⟨x1.symm, x3.symm, x2.symm, x4.symm⟩
      · exact hC c d hc hd hcd h2' h3'
  · rw [mEnter_n (by decide) (by decide) (by decide) (by decide)]
    exact hS c hc
/-- a boat that goes in, if it may; a boat that is pushed, if it is in -/
def gEnter (T : Nat → List (Int32 × Int32)) (Q : M2) (np nb no : Nat) (b : Nat) (M : M2) : M2 := if canP T Q M np nb no b then mEnter Q M b else M
def gPush (Q : M2) (nb : Nat) (b : Nat) (M : M2) : M2 := if M 206 b = 1 then mPush Q M nb b else M
theorem INV.gEn (hp : PR P Q np nl nb ns no) (hI : INV Q M np nl nb nb) (hb : b < nb) : INV Q (gEnter T Q np nb no b M) np nl nb nb := by
  unfold gEnter
  by_cases c : canP T Q M np nb no b
  · rw [if_pos c]
    exact hI.enter hp hb c
  · rw [if_neg c]
    exact hI
theorem INV.gPu (hp : PR P Q np nl nb ns no) (hI : INV Q M np nl nb nb) (hb : b < nb) : INV Q (gPush Q nb b M) np nl nb nb := by
  unfold gPush
  by_cases c : M 206 b = 1
  · rw [if_pos c]
    exact hI.mpush hp hb c
  · rw [if_neg c]
    exact hI
theorem INV.fold (g : Nat → M2 → M2) (hg : ∀ b M, b < nb → INV Q M np nl nb nb → INV Q (g b M) np nl nb nb) : ∀ (d j : Nat) (M : M2), j + d ≤ nb → INV Q M np nl nb nb → INV Q (lfo g d j M) np nl nb nb
  | 0, _, _, _, h => h
  | d + 1, j, M, hj, h => INV.fold g hg d (j + 1) (g j M) (by omega) (hg j M (by omega) h)
theorem m_enterL {K : M2 → Prop} {C2 : M2 → Int32 → Int32 → Prop} {v1 v2 : Int32} (hp : PR P Q np nl nb ns no) (hT : PT P Q T nl nb no) : ∀ (d j f : Nat) (F M : M2), j + d = nb → d < f → RE np nl nb F M → INV Q M np nl nb nb → (∀ F', RE np nl nb F' (lfo (gEnter T Q np nb no) d j M) → wl_X4_run_45 P C2 K fK F' v1 v2 0) → wl_X4_run_13 P C2 K f F v1 v2 (nI j) := by
  intro d
  have h8 := hp.nb3
  induction d with
  | zero =>
    intro j f F M hj hf hr hI h
    obtain ⟨f, rfl, _⟩ := fuel hf
    exact And.intro (fun _ => h F hr) (fun c => absurd (by rw [hp.nb1]; exact nI_le (by omega) (by omega)) c)
  | succ d ih =>
    intro j f F M hj hf hr hI h
    obtain ⟨f, rfl, _⟩ := fuel hf
    have hjn : j < nb := by omega
    unfold lfo at h
    refine And.intro (fun c => absurd c (by rw [hp.nb1]; exact nI_ge (by omega) (by omega))) (fun _ => m_goesIn hp hT hr hjn (fun F1 hr1 => ?_))
    by_cases c : canP T Q M np nb no j
    · rw [if_pos c]
      have e : gEnter T Q np nb no j M = mEnter Q M j := if_pos c
      rw [e] at h
      refine And.intro (fun z => absurd z (by decide)) (fun _ => m_enter hp hr1 hjn c.2.2.2.1 (fun F2 hr2 v ev => ?_))
      subst ev
      rw [nI_1]
      exact ih (j + 1) f F2 _ (by omega) (by omega) hr2 (hI.enter hp hjn c) h
    · rw [if_neg c]
      have e : gEnter T Q np nb no j M = M := if_neg c
      rw [e] at h
      refine And.intro (fun _ v ev => ?_) (fun z => absurd rfl z)
      subst ev
      rw [nI_1]
      exact ih (j + 1) f F1 M (by omega) (by omega) hr1 hI h
theorem m_pushAll {K : M2 → Prop} {C2 : M2 → Int32 → Int32 → Prop} {v1 v2 : Int32} (hp : PR P Q np nl nb ns no) : ∀ (d j f : Nat) (F M : M2), j + d = nb → d < f → RE np nl nb F M → INV Q M np nl nb nb → (∀ F', RE np nl nb F' (lfo (gPush Q nb) d j M) → wp_X4_spoilAir P F' (fun F_80 => wp_X4_breathe P F_80 (fun F_84 => wp_X4_bringAir P F_84 (fun F_88 => wp_X4_walkBack P F_88 (fun F_92 => (∀ F_102 : M2, F_102 = up2 F_92 1 (fun _ => (F_92 1 0) + 1) → (∀ v2_105 : Int32, v2_105 = v2 + 1 → C2 F_102 v1 v2_105))))))) → wl_X4_run_45 P C2 K f F v1 v2 (nI j) := by
  intro d
  have h8 := hp.nb3
  induction d with
  | zero =>
    intro j f F M hj hf hr hI h
    obtain ⟨f, rfl, _⟩ := fuel hf
    exact And.intro (fun _ => h F hr) (fun c => absurd (by rw [hp.nb1]; exact nI_le (by omega) (by omega)) c)
  | succ d ih =>
    intro j f F M hj hf hr hI h
    obtain ⟨f, rfl, _⟩ := fuel hf
    have hjn : j < nb := by omega
    have a8 : ∀ g : Nat → Int32, atv g 8 (nI j) = g j := fun g => atv_nI (by omega) (by decide)
    unfold lfo at h
    refine And.intro (fun c => absurd c (by rw [hp.nb1]; exact nI_ge (by omega) (by omega))) (fun _ => ?_)
    rw [a8, hr.how hjn]
    refine And.intro (fun c v ev => ?_) (fun c => m_push hp hr hI hjn c (fun F1 hr1 v ev => ?_))
    · subst ev
      rw [nI_1]
      have e : gPush Q nb j M = M := if_neg c
      rw [e] at h
      exact ih (j + 1) f F M (by omega) (by omega) hr hI h
    · subst ev
      rw [nI_1]
      have e : gPush Q nb j M = mPush Q M nb j := if_pos c
      rw [e] at h
      exact ih (j + 1) f F1 _ (by omega) (by omega) hr1 (hI.mpush hp hjn c) h
end GO
