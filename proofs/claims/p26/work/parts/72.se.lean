/-! ===== the law's tunnel: a minute ===== -/
section ZE
variable {P Q : M2} {nn : Nat → Nat} {V S O N U L B M : M2} {np nl nb ns no : Nat} {T : Nat → List (Int32 × Int32)} {b : Nat} {K : M2 → M2 → M2 → M2 → Prop}
theorem ICP.cong (h : ICP M np nl) {M' : M2} (e : M' 204 = M 204) : ICP M' np nl := fun l hl => by
  rw [e]
  exact h l hl
theorem ICP.enter (hp : PR P Q np nl nb ns no) (h : ICP M np nl) (hn : 0 < np) : ICP (mEnter Q M b) np nl := by
  have h60 := hp.np3
  have h1 : ICP (st2 (st2 M 206 b 1) 210 b 0) np nl := (h.st (by decide)).st (by decide)
  unfold mEnter
  by_cases e : M 207 b = 0
  · rw [if_pos e, ← nI_0]
    exact h1.come hn
  · have e2 : Q 241 0 - 1 = nI (np - 1) := by
      rw [hp.np2]
      have := nI_pred (np - 1)
      rw [show np - 1 + 1 = np by omega] at this
      exact this
    rw [if_neg e, e2]
    exact h1.come (by omega)
theorem ICP.gEn (hp : PR P Q np nl nb ns no) (h : ICP M np nl) : ICP (gEnter T Q np nb no b M) np nl := by
  unfold gEnter
  by_cases c : canP T Q M np nb no b
  · rw [if_pos c]
    exact h.enter hp c.2.2.2.1
  · rw [if_neg c]
    exact h
theorem mLeave_204 : mLeave Q M b 204 = M 204 := mLeave_n (by decide) (by decide) (by decide) (by decide) (by decide)
theorem ICP.pushL (hp : PR P Q np nl nb ns no) (hb : b < nb) : ∀ (d : Nat) (M : M2), INV Q M np nl nb b → ICP M np nl → M 206 b = 1 → (∀ p, M 209 b = nI p → p < np → ahd M np b p < d) → ICP (mPushL Q nb b d M) np nl := by
  intro d
  have h8 := hp.nb3
  have h60 := hp.np3
  induction d with
  | zero => exact fun M _ h _ _ => h
  | succ d ih =>
    intro M hI h h1 ha
    rcases hI.2.2.1 b hb with ⟨_, p, x, w, hpn, hat, hpu, hwe, w1, w60, _, hx⟩ | ⟨z, _⟩
    rotate_left
    · exact absurd h1 z
    have hd := ha p hat hpn
    unfold mPushL
    by_cases c : M 210 b < Q 253 b
    · rw [if_pos c]
      exact h
    rw [if_neg c]
    have hwx : w ≤ x := by
      rw [hpu, hwe, lt_nI (by omega) (by omega)] at c
      omega
    rw [hat]
    rcases next_cases (M := M) (b := b) hp hpn with ⟨_, z2⟩ | ⟨q, hq', e1, e2, e4⟩
    · rw [if_pos z2]
      exact h.cong mLeave_204
    rw [e1, if_neg e2]
    by_cases c3 : mBoatAt M nb (nI q) = -1
    · rw [if_pos c3]
      refine ih _ (hI.come hb h8 hq' h1 hpu hwe hwx hx w1 w60 c3) ((h.st (by decide)).come hq') ?_ ?_
      · rw [mCome_n (by decide) (by decide), st2_n _ _ _ (by decide)]
        exact h1
      · intro p' hp' hpn'
        rw [mCome_at, if_pos rfl] at hp'
        have e6 := nI_inj (by omega) (by omega) hp'
        subst e6
        have := e4 (M 210 b - Q 253 b) (nI q)
        omega
    · rw [if_neg c3]
      exact h.st (by decide)
theorem ICP.mpush (hp : PR P Q np nl nb ns no) (hI : INV Q M np nl nb nb) (h : ICP M np nl) (hb : b < nb) (h1 : M 206 b = 1) : ICP (mPush Q M nb b) np nl := by
  obtain ⟨k0, k1, _, _, e2, _, e4, w, w1, w60, ew1, ew2⟩ := hp.boat b hb
  obtain ⟨p, x, w', hpn, hat, hwe, w60', hx, hmore⟩ := more_nI hp hI hb h1
  have hI2 : INV Q (st2 M 210 b (nI x)) np nl nb b := hI.push (Or.inr rfl) h1 ew2 w60 hx b (Or.inl rfl) hb
  unfold mPush
  rw [hmore]
  refine ICP.pushL hp hb 61 _ hI2 (h.st (by decide)) ?_ (fun p' _ hp' => ahd_lt hp' hp.np3)
  rw [st2_n _ _ _ (by decide)]
  exact h1
theorem ICP.gPu (hp : PR P Q np nl nb ns no) (hI : INV Q M np nl nb nb) (h : ICP M np nl) (hb : b < nb) : ICP (gPush Q nb b M) np nl := by
  unfold gPush
  by_cases c : M 206 b = 1
  · rw [if_pos c]
    exact h.mpush hp hI hb c
  · rw [if_neg c]
    exact h
/-- what no push changes -/
theorem mPushL_n {k : Nat} (h1 : k ≠ 204) (h2 : k ≠ 205) (h3 : k ≠ 206) (h4 : k ≠ 209) (h5 : k ≠ 210) (h6 : k ≠ 211) : ∀ (d : Nat) (M : M2), mPushL Q nb b d M k = M k
  | 0, _ => rfl
  | d + 1, M => by
    unfold mPushL
    split
    · rfl
    · split
      · exact mLeave_n h2 h3 h4 h5 h6
      · split
        · rw [mPushL_n h1 h2 h3 h4 h5 h6 d, mCome_n h1 h4, st2_n _ _ _ h5]
        · exact st2_n _ _ _ h5
theorem mPush_n {k : Nat} (h1 : k ≠ 204) (h2 : k ≠ 205) (h3 : k ≠ 206) (h4 : k ≠ 209) (h5 : k ≠ 210) (h6 : k ≠ 211) : mPush Q M nb b k = M k := by
  unfold mPush
  rw [mPushL_n h1 h2 h3 h4 h5 h6, st2_n _ _ _ h5]
theorem gPush_n {k : Nat} (h1 : k ≠ 204) (h2 : k ≠ 205) (h3 : k ≠ 206) (h4 : k ≠ 209) (h5 : k ≠ 210) (h6 : k ≠ 211) : gPush Q nb b M k = M k := by
  unfold gPush
  split
  · exact mPush_n h1 h2 h3 h4 h5 h6
  · rfl
theorem gEnter_n {k : Nat} (h1 : k ≠ 204) (h2 : k ≠ 206) (h3 : k ≠ 209) (h4 : k ≠ 210) : gEnter T Q np nb no b M k = M k := by
  unfold gEnter
  split
  · exact mEnter_n h1 h2 h3 h4
  · rfl
theorem lfo_n {g : Nat → M2 → M2} {k : Nat} (h : ∀ i M, g i M k = M k) : ∀ (d j : Nat) (M : M2), lfo g d j M k = M k
  | 0, _, _ => rfl
  | d + 1, j, M => by
    unfold lfo
    rw [lfo_n h d, h]
theorem mTurnL_n {k : Nat} (h : k ≠ 201) : ∀ (d j : Nat), mTurnL T Q np nb d j M k = M k
  | 0, _ => rfl
  | d + 1, j => by
    unfold mTurnL
    split
    · exact up2_n _ _ h
    · exact mTurnL_n h d (j + 1)
/-! the turn -/
theorem s_turnL {C : M2 → Prop} (hp : PR P Q np nl nb ns no) (hk : ZK nn V S O Q T np nl nb ns no) (hz : ZS Q M N U L B np nl nb) (hc : ICP M np nl) (hC : ∀ N', C N' → wl_X6_pass_58 nn V S O K fK N' U L B 0) : ∀ (d j f : Nat), j + d = no → d < f → (∀ N', ZS Q (mTurnL T Q np nb d j M) N' U L B np nl nb → C N') → wl_X6_pass_10 nn V S O K f N U L B (nI no) (nI j) := by
  intro d
  have h16 := hp.no3
  induction d with
  | zero =>
    intro j f hj hf h
    obtain ⟨f, rfl, _⟩ := fuel hf
    exact And.intro (fun _ => hC N (h N hz)) (fun c => absurd (nI_le (by omega) (by omega)) c)
  | succ d ih =>
    intro j f hj hf h
    obtain ⟨f, rfl, _⟩ := fuel hf
    have ho : j < no := by omega
    have tj : (nI j).toInt.toNat = j := tn_nI (by omega)
    have ij := hk.i5 ho h16
    obtain ⟨hw, hu, _⟩ := hk.2.2.2.2 j ho
    unfold mTurnL at h
    have go : ¬ (Q 259 j = 17 ∧ hvV T M np nb j = 1) → ∀ v : Int32, v = nI j + 1 → wl_X6_pass_10 nn V S O K f N U L B (nI no) v := fun hn v ev => by
      subst ev
      rw [nI_1]
      rw [if_neg hn] at h
      exact ih (j + 1) f (by omega) (by omega) h
    refine And.intro (fun c => absurd c (nI_ge (by omega) (by omega))) (fun _ => ⟨ij, ij, ?_⟩)
    rw [tj]
    rcases hw with ⟨k1, k2⟩ | ⟨k1, k2⟩
    · rw [k1]
      refine And.intro (fun c => absurd rfl c) (fun _ => s_holds hp hk hz hc ho (And.intro (fun c => ⟨ij, fun N' e => ?_⟩) (fun c => go (fun z => absurd (c.symm.trans z.2) (by decide)))))
      rw [if_pos ⟨k2, (hv01 hp hk ho).resolve_left c⟩] at h
      subst e
      rw [hu]
      exact hC _ (h _ (hz.pturn (Q 260 j)))
    · rw [k1]
      exact And.intro (fun _ => go (fun z => absurd (k2.symm.trans z.1) (by decide))) (fun c => absurd c (by decide))
/-! boats go in -/
theorem s_enterL {C : M2 → M2 → M2 → M2 → Prop} (hp : PR P Q np nl nb ns no) (hk : ZK nn V S O Q T np nl nb ns no) (hC : ∀ N U L B, C N U L B → wl_X6_pass_144 nn V S O K fK N U L B (nI nb) 0) : ∀ (d j f : Nat) (L B M : M2), j + d = nb → d < f → ZS Q M N U L B np nl nb → INV Q M np nl nb nb → ICP M np nl → (∀ L' B', ZS Q (lfo (gEnter T Q np nb no) d j M) N U L' B' np nl nb → C N U L' B') → wl_X6_pass_58 nn V S O K f N U L B (nI j) := by
  intro d
  have h5 := hk.nb5
  have h60 := hp.np3
  have np0 := hk.np0
  induction d with
  | zero =>
    intro j f L B M hj hf hz hI hc h
    obtain ⟨f, rfl, _⟩ := fuel hf
    refine And.intro (fun _ v ev => ?_) (fun c => absurd (by rw [hk.n4]; exact nI_le (by omega) (by omega)) c)
    subst ev
    rw [hk.n4]
    exact hC _ _ _ _ (h L B hz)
  | succ d ih =>
    intro j f L B M hj hf hz hI hc h
    obtain ⟨f, rfl, _⟩ := fuel hf
    have hjn : j < nb := by omega
    have tj : (nI j).toInt.toNat = j := tn_nI (by omega)
    have ij := hk.i4 hjn
    unfold lfo at h
    refine And.intro (fun c => absurd c (by rw [hk.n4]; exact nI_ge (by omega) (by omega))) (fun _ => s_canEnter hp hk hz hI hc hjn ?_)
    by_cases c : canP T Q M np nb no j
    · rw [if_pos c]
      have e : gEnter T Q np nb no j M = mEnter Q M j := if_pos c
      rw [e] at h
      refine And.intro (fun _ => ⟨ij, ij, fun B1 e1 => ⟨ij, ij, fun B2 e2 => ⟨ij, ij, ij, ?_⟩⟩⟩) (fun z => absurd z (by decide))
      rw [tj] at e1
      rw [tj] at e2
      have hz2 : ZS Q (st2 (st2 M 206 j 1) 210 j 0) N U L B2 np nl nb := by
        rw [e2, e1]
        exact (hz.pb3 j 1).pb5 j 0
      have hc2 : ICP (st2 (st2 M 206 j 1) 210 j 0) np nl := (hc.st (by decide)).st (by decide)
      have e3 : B2 (nI j).toInt.toNat 1 = M 207 j := by
        rw [tj, hz2.b1 hjn, st2_n _ _ _ (by decide), st2_n _ _ _ (by decide)]
      have nxt : ∀ pl : Nat, nI pl = (if M 207 j = 0 then 0 else Q 241 0 - 1) → ∀ L' B', ZS Q (mCome Q (st2 (st2 M 206 j 1) 210 j 0) j (nI pl)) N U L' B' np nl nb → ∀ v : Int32, v = nI j + 1 → wl_X6_pass_58 nn V S O K f N U L' B' v := fun pl epl L' B' hz' v ev => by
        subst ev
        rw [nI_1]
        rw [epl] at hz'
        exact ih (j + 1) f L' B' _ (by omega) (by omega) hz' (hI.enter hp hjn c) (hc.enter hp np0) h
      rw [e3, hk.n1]
      refine And.intro (fun c2 => ?_) (fun c2 => ?_)
      · have e4 : nI np - 1 = nI (np - 1) := by
          have := nI_pred (np - 1)
          rw [show np - 1 + 1 = np by omega] at this
          exact this
        rw [e4]
        exact s_come hp hk hz2 hc2 hjn (by omega) (nxt (np - 1) (by rw [if_neg c2, hp.np2, e4]))
      · rw [← nI_0]
        exact s_come hp hk hz2 hc2 hjn np0 (nxt 0 (by rw [if_pos c2, nI_0]))
    · rw [if_neg c]
      have e : gEnter T Q np nb no j M = M := if_neg c
      rw [e] at h
      refine And.intro (fun z => absurd rfl z) (fun _ v ev => ?_)
      subst ev
      rw [nI_1]
      exact ih (j + 1) f L B M (by omega) (by omega) hz hI hc h
/-! boats are pushed -/
theorem s_pushAll {C : M2 → M2 → M2 → M2 → Prop} (hp : PR P Q np nl nb ns no) (hk : ZK nn V S O Q T np nl nb ns no) (hC : ∀ N U L B, C N U L B → (nn 3 ≤ 64 ∧ (∀ e179_184 : Nat → Int32, (∀ j, j < nn 3 → e179_184 j = 2) → (∀ v3_194, v3_194 = Int32.ofNat (nn 4) → wl_X6_pass_198 nn V S O K fK N U L B e179_184 v3_194 0)))) : ∀ (d j f : Nat) (L B M : M2), j + d = nb → d < f → ZS Q M N U L B np nl nb → INV Q M np nl nb nb → ICP M np nl → IBR Q M nl → (∀ L' B', ZS Q (lfo (gPush Q nb) d j M) N U L' B' np nl nb → C N U L' B') → wl_X6_pass_144 nn V S O K f N U L B (nI nb) (nI j) := by
  intro d
  have h5 := hk.nb5
  induction d with
  | zero =>
    intro j f L B M hj hf hz hI hc hB h
    obtain ⟨f, rfl, _⟩ := fuel hf
    exact And.intro (fun _ => hC _ _ _ _ (h L B hz)) (fun c => absurd (nI_le (by omega) (by omega)) c)
  | succ d ih =>
    intro j f L B M hj hf hz hI hc hB h
    obtain ⟨f, rfl, _⟩ := fuel hf
    have hjn : j < nb := by omega
    have tj : (nI j).toInt.toNat = j := tn_nI (by omega)
    have ij := hk.i4 hjn
    unfold lfo at h
    refine And.intro (fun c => absurd c (nI_ge (by omega) (by omega))) (fun _ => ⟨ij, ij, ?_⟩)
    rw [tj, hz.b3 hjn]
    refine And.intro (fun c v ev => ?_) (fun c => ?_)
    · subst ev
      rw [nI_1]
      have e : gPush Q nb j M = M := if_neg c
      rw [e] at h
      exact ih (j + 1) f L B M (by omega) (by omega) hz hI hc hB h
    · have e : gPush Q nb j M = mPush Q M nb j := if_pos c
      rw [e] at h
      refine s_push hp hk hz hI hc hB hjn c (fun L' B' hz' v ev => ?_)
      subst ev
      rw [nI_1]
      exact ih (j + 1) f L' B' _ (by omega) (by omega) hz' (hI.mpush hp hjn c) (hc.mpush hp hI hjn c) (hB.cong (mPush_n (by decide) (by decide) (by decide) (by decide) (by decide) (by decide))) h
end ZE
