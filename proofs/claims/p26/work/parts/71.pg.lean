/-! ===== pushing ===== -/
section PUSH
variable {P Q N F S M : M2} {np nl nb ns no : Nat} {K : M2 → Prop} {b : Nat}
/-- how many places are left ahead of a boat at p -/
def ahd (M : M2) (np b p : Nat) : Nat := if M 207 b = 0 then np - 1 - p else p
theorem stepV_come {x pl : Int32} : stepV (mCome Q (st2 M 210 b x) b pl) b = stepV M b := by
  unfold stepV
  rw [mCome_n (by decide) (by decide), st2_n _ _ _ (by decide)]
theorem next_cases (hp : PR P Q np nl nb ns no) {p : Nat} (h : p < np) : (ahd M np b p = 0 ∧ (nI p + stepV M b < 0 ∨ nI p + stepV M b = Q 241 0)) ∨ (∃ q, q < np ∧ nI p + stepV M b = nI q ∧ ¬ (nI q < 0 ∨ nI q = Q 241 0) ∧ ∀ x pl, ahd (mCome Q (st2 M 210 b x) b pl) np b q + 1 = ahd M np b p) := by
  have h60 := hp.np3
  have hk : ∀ (x pl : Int32) (q : Nat), ahd (mCome Q (st2 M 210 b x) b pl) np b q = ahd M np b q := fun x pl q => by
    unfold ahd
    rw [mCome_n (by decide) (by decide), st2_n _ _ _ (by decide)]
  have hno : ∀ q, q < np → ¬ (nI q < 0 ∨ nI q = Q 241 0) := fun q hq c => c.elim (fun z => nI_pos (by omega) z) (fun z => by
    rw [hp.np2] at z
    have := nI_inj (by omega) (by omega) z
    omega)
  by_cases e : M 207 b = 0
  · have es : stepV M b = 1 := if_pos e
    have ea : ∀ q, ahd M np b q = np - 1 - q := fun q => if_pos e
    rw [es, nI_1]
    by_cases hl : p + 1 = np
    · exact Or.inl ⟨by rw [ea]; omega, Or.inr (by rw [hp.np2, hl])⟩
    · exact Or.inr ⟨p + 1, by omega, rfl, hno _ (by omega), fun x pl => by rw [hk, ea, ea]; omega⟩
  · have es : stepV M b = -1 := if_neg e
    have ea : ∀ q, ahd M np b q = q := fun q => if_neg e
    rw [es]
    rcases Nat.eq_zero_or_pos p with h0 | h0
    · subst h0
      exact Or.inl ⟨by rw [ea], Or.inl (by rw [nI_0]; decide)⟩
    · have e1 : nI p + -1 = nI (p - 1) := by
        have := pk_m1 (p - 1)
        rw [show p - 1 + 1 = p by omega] at this
        exact this
      exact Or.inr ⟨p - 1, by omega, e1, hno _ (by omega), fun x pl => by rw [hk, ea, ea]; omega⟩
/-- the class's loop -/
theorem m_pushL (hp : PR P Q np nl nb ns no) (hb : b < nb) {last step : Int32} : ∀ (d i f : Nat) (F M : M2), i + d = 61 → d < f → RE np nl nb F M → INV Q M np nl nb b → M 206 b = 1 → (∀ p, M 209 b = nI p → p < np → ahd M np b p < d) → (last = if M 207 b = 0 then nI np - 1 else 0) → step = stepV M b → (∀ F', RE np nl nb F' (mPushL Q nb b d M) → K F') → wl_X4_push_128 P K f F (nI b) (Q 253 b) last step (nI i) := by
  intro d
  have h8 := hp.nb3
  have h60 := hp.np3
  induction d with
  | zero =>
    intro i f F M hi hf hr hI h1 ha hl hs h
    obtain ⟨f, rfl, _⟩ := fuel hf
    refine And.intro (fun _ => h F hr) (fun c => absurd ?_ c)
    have : i = 61 := by omega
    subst this
    decide
  | succ d ih =>
    intro i f F M hi hf hr hI h1 ha hl hs h
    obtain ⟨f, rfl, _⟩ := fuel hf
    have b8 : b < 8 := by omega
    have a8 : ∀ g : Nat → Int32, atv g 8 (nI b) = g b := fun g => atv_nI b8 (by decide)
    rcases hI.2.2.1 b hb with ⟨_, p, x, w, hpn, hat, hpu, hwe, w1, w60, _, hx⟩ | ⟨z, _⟩
    rotate_left
    · exact absurd h1 z
    have hd := ha p hat hpn
    refine And.intro (fun c => absurd c ?_) (fun _ => ?_)
    · have : (60 : Int32) = nI 60 := rfl
      rw [this, lt_nI (by omega) (by omega)]
      omega
    rw [a8, a8, hr.pushed hb, hr.spot hb, hpu, hwe, hat]
    unfold mPushL at h
    rw [hpu, hwe, hat] at h
    refine And.intro (fun c => ?_) (fun c v7 e7 => ?_)
    · rw [if_pos c] at h
      exact h F hr
    · rw [if_neg c] at h
      subst e7
      have hwx : w ≤ x := by
        rw [lt_nI (by omega) (by omega)] at c
        omega
      have hlast : nI p = last ↔ ahd M np b p = 0 := by
        rw [hl]
        unfold ahd
        by_cases e : M 207 b = 0
        · rw [if_pos e, if_pos e]
          have e2 : nI np - 1 = nI (np - 1) := by
            have := nI_pred (np - 1)
            rw [show np - 1 + 1 = np by omega] at this
            exact this
          rw [e2]
          constructor
          · intro z
            have := nI_inj (by omega) (by omega) z
            omega
          · intro z
            rw [show p = np - 1 by omega]
        · rw [if_neg e, if_neg e, ← nI_0]
          exact ⟨fun z => nI_inj (by omega) (by omega) z, fun z => by rw [z]⟩
      refine And.intro (fun c2 => ?_) (fun c2 => ?_)
      · rcases next_cases (M := M) (b := b) hp hpn with ⟨z, _⟩ | ⟨q, hq, e1, e2, e3⟩
        · exact absurd (hlast.mpr z) c2
        rw [e1, if_neg e2] at h
        have hse : nI p + step = nI q := by rw [hs, e1]
        rw [hse]
        refine m_boatAt hp hr ?_
        refine And.intro (fun c3 => ?_) (fun c3 => ?_)
        · rw [if_pos c3] at h
          intro F1 e
          rw [put8 b8] at e
          subst e
          have hr1 : RE np nl nb (st2 F 12 b (nI x - nI w)) (st2 M 210 b (M 210 b - Q 253 b)) := hr.put (k := 12) (by decide) (by decide) b (show nI x - nI w = M 210 b - Q 253 b by rw [hpu, hwe])
          refine m_comeTo hp hr1 hb hq (fun F2 h2 v ev => ?_)
          subst ev
          rw [nI_1]
          have hI2 := hI.come hb h8 hq h1 hpu hwe hwx hx w1 w60 c3
          have hw' : nI w = Q 253 b := hwe.symm
          rw [hw']
          refine ih (i + 1) f F2 _ (by omega) (by omega) h2 hI2 ?_ ?_ ?_ (hs.trans stepV_come.symm) ?_
          · rw [mCome_n (by decide) (by decide), st2_n _ _ _ (by decide)]
            exact h1
          · intro p' hp' hpn'
            rw [mCome_at, if_pos rfl] at hp'
            have e4 := nI_inj (by omega) (by omega) hp'
            subst e4
            have := e3 (M 210 b - Q 253 b) (nI q)
            omega
          · rw [mCome_n (by decide) (by decide), st2_n _ _ _ (by decide)]
            exact hl
          · rw [hpu, hwe]
            exact h
        · rw [if_neg c3] at h
          intro F1 e v ev
          rw [put8 b8] at e
          subst e
          subst ev
          have hr1 := hr.put (k := 12) (by decide) (by decide) b (rfl : (0 : Int32) = 0)
          obtain ⟨f, rfl, _⟩ := fuel (show 0 < f by omega)
          refine And.intro (fun _ => h _ hr1) (fun _ => And.intro (fun _ => h _ hr1) (fun c5 => absurd ?_ c5))
          rw [a8, st2_s, ← nI_0, lt_nI (by omega) (by omega)]
          omega
      · rcases next_cases (M := M) (b := b) hp hpn with ⟨z, z2⟩ | ⟨q, hq, e1, e2, e3⟩
        · rw [if_pos z2] at h
          exact m_leave hp hr hb h
        · have := e3 0 0
          have := hlast.mp c2
          omega
/-- what stays so -/
theorem INV.pushL (hp : PR P Q np nl nb ns no) (hb : b < nb) : ∀ (d : Nat) (M : M2), INV Q M np nl nb b → M 206 b = 1 → (∀ p, M 209 b = nI p → p < np → ahd M np b p < d) → INV Q (mPushL Q nb b d M) np nl nb nb := by
  intro d
  have h8 := hp.nb3
  have h60 := hp.np3
  induction d with
  | zero =>
    intro M hI h1 ha
    rcases hI.2.2.1 b hb with ⟨_, p, x, w, hpn, hat, _⟩ | ⟨z, _⟩
    · exact absurd (ha p hat hpn) (Nat.not_lt_zero _)
    · exact absurd h1 z
  | succ d ih =>
    intro M hI h1 ha
    rcases hI.2.2.1 b hb with ⟨_, p, x, w, hpn, hat, hpu, hwe, w1, w60, _, hx⟩ | ⟨z, _⟩
    rotate_left
    · exact absurd h1 z
    have hd := ha p hat hpn
    unfold mPushL
    have e0 : st2 M 210 b (M 210 b) = M := st2_same M 210 b
    by_cases c : M 210 b < Q 253 b
    · rw [if_pos c]
      rw [← e0, hpu]
      refine hI.push (Or.inl rfl) h1 hwe w60 hx nb (Or.inr ⟨rfl, ?_⟩) hb
      rw [hpu, hwe, lt_nI (by omega) (by omega)] at c
      exact c
    rw [if_neg c]
    have hwx : w ≤ x := by
      rw [hpu, hwe, lt_nI (by omega) (by omega)] at c
      omega
    rw [hat]
    rcases next_cases (M := M) (b := b) hp hpn with ⟨_, z2⟩ | ⟨q, hq', e1, e2, e4⟩
    · rw [if_pos z2]
      exact hI.leave hb
    rw [e1, if_neg e2]
    by_cases c3 : mBoatAt M nb (nI q) = -1
    · rw [if_pos c3]
      refine ih _ (hI.come hb h8 hq' h1 hpu hwe hwx hx w1 w60 c3) ?_ ?_
      · rw [mCome_n (by decide) (by decide), st2_n _ _ _ (by decide)]
        exact h1
      · intro p' hp' hpn'
        rw [mCome_at, if_pos rfl] at hp'
        have e6 := nI_inj (by omega) (by omega) hp'
        subst e6
        have := e4 (M 210 b - Q 253 b) (nI q)
        omega
    · rw [if_neg c3, ← nI_0]
      exact hI.push (Or.inl rfl) h1 hwe w60 (by omega) nb (Or.inr ⟨rfl, by omega⟩) hb
end PUSH
