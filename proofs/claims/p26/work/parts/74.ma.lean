/-! ===== caps lie where it is low ===== -/
def ICL (Q M : M2) (np nl : Nat) : Prop := ∀ l, l < nl → M 204 l = -1 ∨ ∃ p, p < np ∧ M 204 l = nI p ∧ ¬ lowV Q (nI p) ≤ 12 - Q 250 l
section ICLS
variable {P Q M : M2} {np nl nb ns no : Nat} {T : Nat → List (Int32 × Int32)} {b : Nat}
theorem ICL.st (h : ICL Q M np nl) {k i : Nat} {x : Int32} (hk : k ≠ 204) : ICL Q (st2 M k i x) np nl := fun l hl => by
  rw [st2_n _ _ _ hk.symm]
  exact h l hl
theorem ICL.cap (h : ICL Q M np nl) {l p : Nat} (hpn : p < np) : ICL Q (mCap Q M l (nI p)) np nl := fun c hc => by
  unfold mCap
  rw [st2_k]
  by_cases e : c = l
  · rw [if_pos e]
    unfold capV
    by_cases e2 : M 204 l = -1 ∨ M 204 l = nI p
    · rw [if_pos e2]
      by_cases e3 : lowV Q (nI p) ≤ 12 - Q 250 l
      · rw [if_pos e3]
        exact Or.inl rfl
      · rw [if_neg e3]
        exact Or.inr ⟨p, hpn, rfl, by rw [e]; exact e3⟩
    · rw [if_neg e2, ← e]
      exact h c hc
  · rw [if_neg e]
    exact h c hc
theorem ICL.come (h : ICL Q M np nl) {p : Nat} (hpn : p < np) : ICL Q (mCome Q M b (nI p)) np nl := ((h.st (by decide)).cap hpn).cap hpn
theorem ICL.cong (h : ICL Q M np nl) {M' : M2} (e : M' 204 = M 204) : ICL Q M' np nl := fun l hl => by
  rw [e]
  exact h l hl
theorem ICL.enter (hp : PR P Q np nl nb ns no) (h : ICL Q M np nl) (hn : 0 < np) : ICL Q (mEnter Q M b) np nl := by
  have h60 := hp.np3
  have h1 : ICL Q (st2 (st2 M 206 b 1) 210 b 0) np nl := (h.st (by decide)).st (by decide)
  unfold mEnter
  by_cases e : M 207 b = 0
  · rw [if_pos e, ← nI_0]
    exact h1.come hn
  · have e2 : Q 241 0 - 1 = nI (np - 1) := by
      rw [hp.np2]
      have := nI_pred (np - 1)
      rw [show np - 1 + 1 = np by omega] at this
      exact this
    rw [if_neg e, e2]
    exact h1.come (by omega)
theorem ICL.gEn (hp : PR P Q np nl nb ns no) (h : ICL Q M np nl) : ICL Q (gEnter T Q np nb no b M) np nl := by
  unfold gEnter
  by_cases c : canP T Q M np nb no b
  · rw [if_pos c]
    exact h.enter hp c.2.2.2.1
  · rw [if_neg c]
    exact h
theorem ICL.pushL (hp : PR P Q np nl nb ns no) (hb : b < nb) : ∀ (d : Nat) (M : M2), INV Q M np nl nb b → ICL Q M np nl → M 206 b = 1 → (∀ p, M 209 b = nI p → p < np → ahd M np b p < d) → ICL Q (mPushL Q nb b d M) np nl := by
  intro d
  have h8 := hp.nb3
  have h60 := hp.np3
  induction d with
  | zero => exact fun M _ h _ _ => h
  | succ d ih =>
    intro M hI h h1 ha
    rcases hI.2.2.1 b hb with ⟨_, p, x, w, hpn, hat, hpu, hwe, w1, w60, _, hx⟩ | ⟨z, _⟩
    rotate_left
    · exact absurd h1 z
    have hd := ha p hat hpn
    unfold mPushL
    by_cases c : M 210 b < Q 253 b
    · rw [if_pos c]
      exact h
    rw [if_neg c]
    have hwx : w ≤ x := by
      rw [hpu, hwe, lt_nI (by omega) (by omega)] at c
      omega
    rw [hat]
    rcases next_cases (M := M) (b := b) hp hpn with ⟨_, z2⟩ | ⟨q, hq', e1, e2, e4⟩
    · rw [if_pos z2]
      exact h.cong mLeave_204
    rw [e1, if_neg e2]
    by_cases c3 : mBoatAt M nb (nI q) = -1
    · rw [if_pos c3]
      refine ih _ (hI.come hb h8 hq' h1 hpu hwe hwx hx w1 w60 c3) ((h.st (by decide)).come hq') ?_ ?_
      · rw [mCome_n (by decide) (by decide), st2_n _ _ _ (by decide)]
        exact h1
      · intro p' hp' hpn'
        rw [mCome_at, if_pos rfl] at hp'
        have e6 := nI_inj (by omega) (by omega) hp'
        subst e6
        have := e4 (M 210 b - Q 253 b) (nI q)
        omega
    · rw [if_neg c3]
      exact h.st (by decide)
theorem ICL.mpush (hp : PR P Q np nl nb ns no) (hI : INV Q M np nl nb nb) (h : ICL Q M np nl) (hb : b < nb) (h1 : M 206 b = 1) : ICL Q (mPush Q M nb b) np nl := by
  obtain ⟨k0, k1, _, _, e2, _, e4, w, w1, w60, ew1, ew2⟩ := hp.boat b hb
  obtain ⟨p, x, w', hpn, hat, hwe, w60', hx, hmore⟩ := more_nI hp hI hb h1
  have hI2 : INV Q (st2 M 210 b (nI x)) np nl nb b := hI.push (Or.inr rfl) h1 ew2 w60 hx b (Or.inl rfl) hb
  unfold mPush
  rw [hmore]
  refine ICL.pushL hp hb 61 _ hI2 (h.st (by decide)) ?_ (fun p' _ hp' => ahd_lt hp' hp.np3)
  rw [st2_n _ _ _ (by decide)]
  exact h1
theorem ICL.gPu (hp : PR P Q np nl nb ns no) (hI : INV Q M np nl nb nb) (h : ICL Q M np nl) (hb : b < nb) : ICL Q (gPush Q nb b M) np nl := by
  unfold gPush
  by_cases c : M 206 b = 1
  · rw [if_pos c]
    exact h.mpush hp hI hb c
  · rw [if_neg c]
    exact h
theorem ICL.icp (h : ICL Q M np nl) : ICP M np nl := fun l hl => (h l hl).elim Or.inl (fun ⟨p, hp, e, _⟩ => Or.inr ⟨p, hp, e⟩)
end ICLS
/-! ===== a minute, seen from M ===== -/
def stE (T : Nat → List (Int32 × Int32)) (Q M : M2) (np nb no : Nat) : M2 := lfo (gEnter T Q np nb no) nb 0 (mTurn T Q M np nb no)
def stP (T : Nat → List (Int32 × Int32)) (Q M : M2) (np nb no : Nat) : M2 := lfo (gPush Q nb) nb 0 (stE T Q M np nb no)
def stD (T : Nat → List (Int32 × Int32)) (Q M : M2) (np nl nb ns no : Nat) : M2 := lfo (mDraw Q np) ns 0 (mBreathe Q (mSpoil (stP T Q M np nb no) nb) nl nb)
section STEP
variable {P Q M : M2} {np nl nb ns no : Nat} {T : Nat → List (Int32 × Int32)} {b : Nat}
theorem min_def : mMin T Q M np nl nb ns no = up2 (lfo gWalk nl 0 (stD T Q M np nl nb ns no)) 200 (fun _ => lfo gWalk nl 0 (stD T Q M np nl nb ns no) 200 0 + 1) := rfl
theorem walk_n {k : Nat} (h : k ≠ 205) (d j : Nat) (M : M2) : lfo gWalk d j M k = M k := lfo_n (fun i M => st2_n _ _ _ h) d j M
theorem draw_n {k : Nat} (h : k ≠ 202) (d j : Nat) (M : M2) : lfo (mDraw Q np) d j M k = M k := lfo_n (g := mDraw Q np) (fun i M => up2_n _ _ h) d j M
theorem stD_n {k : Nat} (h2 : k ≠ 202) (h3 : k ≠ 203) : stD T Q M np nl nb ns no k = stP T Q M np nb no k := by
  unfold stD
  rw [draw_n h2]
  unfold mBreathe mSpoil
  rw [up2_n _ _ h3, up2_n _ _ h2]
theorem min_n {k : Nat} (h0 : k ≠ 200) (h2 : k ≠ 202) (h3 : k ≠ 203) (h5 : k ≠ 205) : mMin T Q M np nl nb ns no k = stP T Q M np nb no k := by
  rw [min_def, up2_n _ _ h0, walk_n h5, stD_n h2 h3]
theorem stP_n {k : Nat} (h1 : k ≠ 201) (h4 : k ≠ 204) (h5 : k ≠ 205) (h6 : k ≠ 206) (h9 : k ≠ 209) (h10 : k ≠ 210) (h11 : k ≠ 211) : stP T Q M np nb no k = M k := by
  unfold stP stE
  rw [lfo_n (fun i M => gPush_n h4 h5 h6 h9 h10 h11), lfo_n (fun i M => gEnter_n h4 h6 h9 h10)]
  exact mTurnL_n h1 no 0
theorem stE_n {k : Nat} (h1 : k ≠ 201) (h4 : k ≠ 204) (h6 : k ≠ 206) (h9 : k ≠ 209) (h10 : k ≠ 210) : stE T Q M np nb no k = M k := by
  unfold stE
  rw [lfo_n (fun i M => gEnter_n h4 h6 h9 h10)]
  exact mTurnL_n h1 no 0
theorem min_201 : mMin T Q M np nl nb ns no 201 = mTurn T Q M np nb no 201 := by
  rw [min_n (by decide) (by decide) (by decide) (by decide)]
  unfold stP stE
  rw [lfo_n (fun i M => gPush_n (by decide) (by decide) (by decide) (by decide) (by decide) (by decide)), lfo_n (fun i M => gEnter_n (by decide) (by decide) (by decide) (by decide))]
theorem min_200 : mMin T Q M np nl nb ns no 200 0 = M 200 0 + 1 := by
  rw [min_def, up2_s, walk_n (by decide), stD_n (by decide) (by decide), stP_n (by decide) (by decide) (by decide) (by decide) (by decide) (by decide) (by decide)]
theorem walk_at (D : M2) : ∀ n l, lfo gWalk n 0 D 205 l = if l < n then mxv 0 (D 205 l - 1) else D 205 l := by
  intro n
  induction n with
  | zero => intro l; rfl
  | succ n ih =>
    intro l
    rw [lfo_succ, Nat.zero_add]
    unfold gWalk at ih ⊢
    rw [st2_k]
    by_cases e : l = n
    · subst e
      rw [if_pos rfl, ih, if_neg (Nat.lt_irrefl l), if_pos (Nat.lt_succ_self l)]
    · rw [if_neg e, ih]
      by_cases c : l < n
      · rw [if_pos c, if_pos (by omega)]
      · rw [if_neg c, if_neg (by omega)]
theorem min_205 {l : Nat} (hl : l < nl) : mMin T Q M np nl nb ns no 205 l = mxv 0 (stP T Q M np nb no 205 l - 1) := by
  rw [min_def, up2_n _ _ (by decide), walk_at, if_pos hl, stD_n (by decide) (by decide)]
theorem breath_at (S : M2) (B : Nat → Int32) : ∀ n l, lfo (gBreath Q S nb) n 0 B l = if l < n then mxv 0 (mnv (10 * Q 251 l) (B l + moreV Q S nb l)) else B l := by
  intro m
  induction m with
  | zero => intro l; rfl
  | succ m ih =>
    intro l
    rw [lfo_succ, Nat.zero_add, gBreath_eq]
    by_cases e : l = m
    · subst e
      rw [upd_s, ih, if_neg (Nat.lt_irrefl l), if_pos (Nat.lt_succ_self l)]
    · rw [upd_n _ _ e, ih]
      by_cases c : l < m
      · rw [if_pos c, if_pos (by omega)]
      · rw [if_neg c, if_neg (by omega)]
theorem min_203 {l : Nat} (hl : l < nl) : mMin T Q M np nl nb ns no 203 l = mxv 0 (mnv (10 * Q 251 l) (M 203 l + moreV Q (mSpoil (stP T Q M np nb no) nb) nb l)) := by
  have e : mSpoil (stP T Q M np nb no) nb 203 = M 203 := by
    unfold mSpoil
    rw [up2_n _ _ (by decide), stP_n (by decide) (by decide) (by decide) (by decide) (by decide) (by decide) (by decide)]
  rw [min_def, up2_n _ _ (by decide), walk_n (by decide)]
  unfold stD
  rw [draw_n (by decide)]
  unfold mBreathe
  rw [up2_s, breath_at, if_pos hl, e]
/-! going in -/
theorem ent_after (hb : b < nb) (hc : canP T Q M np nb no b) (c : Nat) : ¬ canP T Q (mEnter Q M b) np nb no c := fun z => by
  have h1 := (clear_spec z.2.2.2.2.1 b hb (by rw [mEnter_is, if_pos rfl])).2
  rw [mEnter_at, if_pos rfl, mEnter_n (by decide) (by decide) (by decide) (by decide), hc.2.2.1] at h1
  by_cases e : M 201 0 = 0
  · rw [if_pos e, if_pos e] at h1
    exact absurd h1 (by decide)
  · rw [if_neg e, if_neg e, Int32.sub_self] at h1
    exact absurd h1 (by decide)
theorem ent_stop (h : ∀ c, ¬ canP T Q M np nb no c) : ∀ (d j : Nat), lfo (gEnter T Q np nb no) d j M = M
  | 0, _ => rfl
  | d + 1, j => by
    unfold lfo
    have e : gEnter T Q np nb no j M = M := if_neg (h j)
    rw [e]
    exact ent_stop h d (j + 1)
theorem ent_cases : ∀ (d j : Nat), j + d = nb → (lfo (gEnter T Q np nb no) d j M = M ∧ ∀ c, j ≤ c → c < nb → ¬ canP T Q M np nb no c) ∨ ∃ c, j ≤ c ∧ c < nb ∧ canP T Q M np nb no c ∧ lfo (gEnter T Q np nb no) d j M = mEnter Q M c
  | 0, _, _ => Or.inl ⟨rfl, fun c h1 h2 => by omega⟩
  | d + 1, j, hj => by
    unfold lfo
    by_cases c : canP T Q M np nb no j
    · have e : gEnter T Q np nb no j M = mEnter Q M j := if_pos c
      rw [e]
      exact Or.inr ⟨j, Nat.le_refl _, by omega, c, ent_stop (ent_after (by omega) c) d (j + 1)⟩
    · have e : gEnter T Q np nb no j M = M := if_neg c
      rw [e]
      rcases ent_cases d (j + 1) (by omega) with ⟨h1, h2⟩ | ⟨x, h1, h2, h3, h4⟩
      · refine Or.inl ⟨h1, fun x g1 g2 => ?_⟩
        by_cases ex : x = j
        · rw [ex]; exact c
        · exact h2 x (by omega) g2
      · exact Or.inr ⟨x, by omega, h2, h3, h4⟩
/-! pushing -/
def adv (s p p' : Int32) : Prop := (s = 0 → p ≤ p') ∧ (¬ s = 0 → p' ≤ p)
theorem adv.refl (s p : Int32) : adv s p p := ⟨fun _ => Int32.le_refl _, fun _ => Int32.le_refl _⟩
theorem adv.trans {s p p' p'' : Int32} (h1 : adv s p p') (h2 : adv s p' p'') : adv s p p'' := ⟨fun z => Int32.le_trans (h1.1 z) (h2.1 z), fun z => Int32.le_trans (h2.2 z) (h1.2 z)⟩
/-- what the pushing of b makes of M -/
def PSH (Q M M' : M2) (b : Nat) : Prop := (∀ k c, (k = 206 ∨ k = 209 ∨ k = 210 ∨ k = 211) → c ≠ b → M' k c = M k c) ∧ ((M' 206 b = 1 ∧ M' 211 b = M 211 b ∧ M' 205 = M 205 ∧ adv (M 207 b) (M 209 b) (M' 209 b)) ∨ (M' 206 b = 2 ∧ M' 211 b = M 200 0 ∧ ∀ l, M' 205 l = if l = kr1 Q b then 10 else if l = kr0 Q b then 10 else M 205 l))
theorem mCome_o {pl : Int32} {x : Int32} {k c : Nat} (hk : k = 206 ∨ k = 209 ∨ k = 210 ∨ k = 211) (hc : c ≠ b) : mCome Q (st2 M 210 b x) b pl k c = M k c := by
  rcases hk with rfl | rfl | rfl | rfl
  · rw [mCome_n (by decide) (by decide), st2_n _ _ _ (by decide)]
  · rw [mCome_at, if_neg hc, st2_n _ _ _ (by decide)]
  · rw [mCome_n (by decide) (by decide), st2_o _ _ (Or.inr hc)]
  · rw [mCome_n (by decide) (by decide), st2_n _ _ _ (by decide)]
theorem mLeave_o {k c : Nat} (hk : k = 206 ∨ k = 209 ∨ k = 210 ∨ k = 211) (hc : c ≠ b) : mLeave Q M b k c = M k c := by
  unfold mLeave
  rcases hk with rfl | rfl | rfl | rfl
  · rw [st2_n _ _ _ (by decide), st2_n _ _ _ (by decide), st2_n _ _ _ (by decide), st2_n _ _ _ (by decide), st2_n _ _ _ (by decide), st2_o _ _ (Or.inr hc)]
  · rw [st2_n _ _ _ (by decide), st2_n _ _ _ (by decide), st2_n _ _ _ (by decide), st2_n _ _ _ (by decide), st2_o _ _ (Or.inr hc), st2_n _ _ _ (by decide)]
  · rw [st2_n _ _ _ (by decide), st2_n _ _ _ (by decide), st2_n _ _ _ (by decide), st2_o _ _ (Or.inr hc), st2_n _ _ _ (by decide), st2_n _ _ _ (by decide)]
  · rw [st2_n _ _ _ (by decide), st2_n _ _ _ (by decide), st2_o _ _ (Or.inr hc), st2_n _ _ _ (by decide), st2_n _ _ _ (by decide), st2_n _ _ _ (by decide)]
theorem mLeave_211 : mLeave Q M b 211 b = M 200 0 := by
  unfold mLeave
  rw [st2_n _ _ _ (by decide), st2_n _ _ _ (by decide), st2_s]
theorem pushL_spec (hp : PR P Q np nl nb ns no) (hb : b < nb) : ∀ (d : Nat) (M : M2), INV Q M np nl nb b → M 206 b = 1 → (∀ p, M 209 b = nI p → p < np → ahd M np b p < d) → PSH Q M (mPushL Q nb b d M) b := by
  intro d
  have h8 := hp.nb3
  have h60 := hp.np3
  induction d with
  | zero =>
    intro M hI h1 ha
    rcases hI.2.2.1 b hb with ⟨_, p, x, w, hpn, hat, _⟩ | ⟨z, _⟩
    · exact absurd (ha p hat hpn) (Nat.not_lt_zero _)
    · exact absurd h1 z
  | succ d ih =>
    intro M hI h1 ha
    rcases hI.2.2.1 b hb with ⟨_, p, x, w, hpn, hat, hpu, hwe, w1, w60, _, hx⟩ | ⟨z, _⟩
    rotate_left
    · exact absurd h1 z
    have hd := ha p hat hpn
    unfold mPushL
    by_cases c : M 210 b < Q 253 b
    · rw [if_pos c]
      exact ⟨fun k c _ _ => rfl, Or.inl ⟨h1, rfl, rfl, adv.refl _ _⟩⟩
    rw [if_neg c]
    have hwx : w ≤ x := by
      rw [hpu, hwe, lt_nI (by omega) (by omega)] at c
      omega
    rw [hat]
    rcases next_cases (M := M) (b := b) hp hpn with ⟨_, z2⟩ | ⟨q, hq', e1, e2, e4⟩
    · rw [if_pos z2]
      exact ⟨fun k c hk hc => mLeave_o hk hc, Or.inr ⟨by rw [mLeave_is, if_pos rfl], mLeave_211, fun l => mLeave_wa⟩⟩
    rw [e1, if_neg e2]
    by_cases c3 : mBoatAt M nb (nI q) = -1
    · rw [if_pos c3]
      have r := ih _ (hI.come hb h8 hq' h1 hpu hwe hwx hx w1 w60 c3) (by rw [mCome_n (by decide) (by decide), st2_n _ _ _ (by decide)]; exact h1) (fun p' hp' hpn' => by
        rw [mCome_at, if_pos rfl] at hp'
        have e6 := nI_inj (by omega) (by omega) hp'
        subst e6
        have := e4 (M 210 b - Q 253 b) (nI q)
        omega)
      have e7 : mCome Q (st2 M 210 b (M 210 b - Q 253 b)) b (nI q) 207 = M 207 := by rw [mCome_n (by decide) (by decide), st2_n _ _ _ (by decide)]
      have e0 : mCome Q (st2 M 210 b (M 210 b - Q 253 b)) b (nI q) 200 = M 200 := by rw [mCome_n (by decide) (by decide), st2_n _ _ _ (by decide)]
      have e5 : mCome Q (st2 M 210 b (M 210 b - Q 253 b)) b (nI q) 205 = M 205 := by rw [mCome_n (by decide) (by decide), st2_n _ _ _ (by decide)]
      have e11 : mCome Q (st2 M 210 b (M 210 b - Q 253 b)) b (nI q) 211 = M 211 := by rw [mCome_n (by decide) (by decide), st2_n _ _ _ (by decide)]
      refine ⟨fun k c hk hc => (r.1 k c hk hc).trans (mCome_o hk hc), ?_⟩
      have r2 := r.2
      rw [e7, e0, e5, e11, mCome_at, if_pos rfl] at r2
      refine r2.imp (fun z => ⟨z.1, z.2.1, z.2.2.1, adv.trans ?_ z.2.2.2⟩) id
      rw [hat, ← e1]
      unfold stepV
      refine ⟨fun z => ?_, fun z => ?_⟩
      · rw [if_pos z, nI_1, le_nI (by omega) (by omega)]
        omega
      · rw [if_neg z]
        unfold stepV at e1
        rw [if_neg z] at e1
        rcases Nat.eq_zero_or_pos p with h0 | h0
        · subst h0
          rw [nI_0] at e1
          exact absurd e1.symm (nI_nm1 (by omega))
        · have := pk_m1 (p - 1)
          rw [show p - 1 + 1 = p by omega] at this
          rw [this, le_nI (by omega) (by omega)]
          omega
    · rw [if_neg c3]
      refine ⟨fun k c hk hc => st2_o _ _ (Or.inr hc), Or.inl ⟨?_, ?_, ?_, ?_⟩⟩
      · rw [st2_n _ _ _ (by decide)]; exact h1
      · rw [st2_n _ _ _ (by decide)]
      · rw [st2_n _ _ _ (by decide)]
      · rw [st2_n M _ _ (by decide : (209 : Nat) ≠ 210), hat]
        exact adv.refl _ _
theorem push_spec (hp : PR P Q np nl nb ns no) (hI : INV Q M np nl nb nb) (hb : b < nb) (h1 : M 206 b = 1) : PSH Q M (mPush Q M nb b) b := by
  obtain ⟨k0, k1, _, _, e2, _, e4, w, w1, w60, ew1, ew2⟩ := hp.boat b hb
  obtain ⟨p, x, w', hpn, hat, hwe, w60', hx, hmore⟩ := more_nI hp hI hb h1
  have hI2 : INV Q (st2 M 210 b (nI x)) np nl nb b := hI.push (Or.inr rfl) h1 ew2 w60 hx b (Or.inl rfl) hb
  have r := pushL_spec hp hb 61 _ hI2 (by rw [st2_n _ _ _ (by decide)]; exact h1) (fun p' _ hp' => ahd_lt hp' hp.np3)
  unfold mPush
  rw [hmore]
  refine ⟨fun k c hk hc => (r.1 k c hk hc).trans (st2_o _ _ (Or.inr hc)), ?_⟩
  have r2 := r.2
  rw [st2_n M _ _ (by decide : (211 : Nat) ≠ 210), st2_n M _ _ (by decide : (205 : Nat) ≠ 210), st2_n M _ _ (by decide : (207 : Nat) ≠ 210), st2_n M _ _ (by decide : (209 : Nat) ≠ 210), st2_n M _ _ (by decide : (200 : Nat) ≠ 210)] at r2
  exact r2
/-- what all pushing makes of a boat b -/
def PSA (Q M M' : M2) (nb b : Nat) : Prop := (¬ M 206 b = 1 → M' 206 b = M 206 b ∧ M' 211 b = M 211 b) ∧ (M 206 b = 1 → (M' 206 b = 1 ∧ M' 211 b = M 211 b ∧ adv (M 207 b) (M 209 b) (M' 209 b)) ∨ (M' 206 b = 2 ∧ M' 211 b = M 200 0 ∧ M' 205 (kr0 Q b) = 10 ∧ M' 205 (kr1 Q b) = 10))
theorem pushAll_spec (hp : PR P Q np nl nb ns no) (hI : INV Q M np nl nb nb) : ∀ n, n ≤ nb → INV Q (lfo (gPush Q nb) n 0 M) np nl nb nb ∧ (∀ c, n ≤ c → c < nb → ∀ k, (k = 206 ∨ k = 209 ∨ k = 210 ∨ k = 211) → lfo (gPush Q nb) n 0 M k c = M k c) ∧ (∀ c, c < n → PSA Q M (lfo (gPush Q nb) n 0 M) nb c) ∧ (∀ l, lfo (gPush Q nb) n 0 M 205 l = 10 ∨ lfo (gPush Q nb) n 0 M 205 l = M 205 l) ∧ (∀ c, c < nb → M 206 c = 1 → (n ≤ c ∨ lfo (gPush Q nb) n 0 M 206 c = 1) → lfo (gPush Q nb) n 0 M 205 (kr0 Q c) = M 205 (kr0 Q c) ∧ lfo (gPush Q nb) n 0 M 205 (kr1 Q c) = M 205 (kr1 Q c)) := by
  intro n
  induction n with
  | zero => exact fun _ => ⟨hI, fun c _ _ k _ => rfl, fun c hc => absurd hc (Nat.not_lt_zero _), fun l => Or.inr rfl, fun c _ _ _ => ⟨rfl, rfl⟩⟩
  | succ n ih =>
    intro hn
    obtain ⟨i1, i2, i3, i4, i5⟩ := ih (by omega)
    have e6 := i2 n (Nat.le_refl _) (by omega) 206 (Or.inl rfl)
    have e9 := i2 n (Nat.le_refl _) (by omega) 209 (Or.inr (Or.inl rfl))
    have e11 := i2 n (Nat.le_refl _) (by omega) 211 (Or.inr (Or.inr (Or.inr rfl)))
    have e7 : lfo (gPush Q nb) n 0 M 207 = M 207 := lfo_n (fun i M => gPush_n (by decide) (by decide) (by decide) (by decide) (by decide) (by decide)) n 0 M
    have e0 : lfo (gPush Q nb) n 0 M 200 = M 200 := lfo_n (fun i M => gPush_n (by decide) (by decide) (by decide) (by decide) (by decide) (by decide)) n 0 M
    rw [lfo_succ, Nat.zero_add]
    obtain ⟨M1, eM1⟩ : ∃ M1, M1 = lfo (gPush Q nb) n 0 M := ⟨_, rfl⟩
    rw [← eM1] at i1 i2 i3 i4 i5 e6 e9 e11 e7 e0 ⊢
    by_cases c : M 206 n = 1
    · have eg : gPush Q nb n M1 = mPush Q M1 nb n := if_pos (e6.trans c)
      rw [eg]
      have r := push_spec hp i1 (by omega) (e6.trans c)
      obtain ⟨M2, eM2⟩ : ∃ M2, M2 = mPush Q M1 nb n := ⟨_, rfl⟩
      have hI2 := i1.mpush hp (by omega) (e6.trans c)
      rw [← eM2] at r hI2 ⊢
      -- the crews of others
      have crew : ∀ x, x < nb → x ≠ n → M 206 x = 1 → (M1 206 x = 1 ∨ n ≤ x) → M2 205 (kr0 Q x) = M1 205 (kr0 Q x) ∧ M2 205 (kr1 Q x) = M1 205 (kr1 Q x) := fun x hx hxn h1 h2 => by
        have hx1 : M1 206 x = 1 := h2.elim id (fun z => (i2 x z hx 206 (Or.inl rfl)).trans h1)
        obtain ⟨y1, y2, y3, y4⟩ := i1.2.2.2.2.1 x n hx (by omega) hxn hx1 (e6.trans c)
        rcases r.2 with ⟨_, _, z, _⟩ | ⟨_, _, z⟩
        · rw [z]; exact ⟨rfl, rfl⟩
        · rw [z, z, if_neg y2, if_neg y1, if_neg y4, if_neg y3]; exact ⟨rfl, rfl⟩
      refine ⟨hI2, fun x h1 h2 k hk => ?_, fun x hx => ?_, fun l => ?_, fun x hx h1 h2 => ?_⟩
      · rw [r.1 k x hk (by omega)]
        exact i2 x (by omega) h2 k hk
      · by_cases ex : x = n
        · subst ex
          refine ⟨fun z => absurd c z, fun _ => ?_⟩
          rcases r.2 with ⟨z1, z2, z3, z4⟩ | ⟨z1, z2, z3⟩
          · refine Or.inl ⟨z1, z2.trans e11, ?_⟩
            rw [e7, e9] at z4
            exact z4
          · refine Or.inr ⟨z1, z2.trans (congrFun e0 0), ?_, ?_⟩
            · rw [z3]
              split
              · rfl
              · rw [if_pos rfl]
            · rw [z3, if_pos rfl]
        · have g := i3 x (by omega)
          have u6 := r.1 206 x (Or.inl rfl) ex
          have u9 := r.1 209 x (Or.inr (Or.inl rfl)) ex
          have u11 := r.1 211 x (Or.inr (Or.inr (Or.inr rfl))) ex
          refine ⟨fun z => ?_, fun z => ?_⟩
          · rw [u6, u11]; exact g.1 z
          · rcases g.2 z with ⟨z1, z2, z3⟩ | ⟨z1, z2, z3, z4⟩
            · rw [u6, u11, u9]; exact Or.inl ⟨z1, z2, z3⟩
            · rw [u6, u11]
              refine Or.inr ⟨z1, z2, ?_, ?_⟩
              · rcases r.2 with ⟨_, _, y, _⟩ | ⟨_, _, y⟩
                · rw [y]; exact z3
                · rw [y]
                  split
                  · rfl
                  · split
                    · rfl
                    · exact z3
              · rcases r.2 with ⟨_, _, y, _⟩ | ⟨_, _, y⟩
                · rw [y]; exact z4
                · rw [y]
                  split
                  · rfl
                  · split
                    · rfl
                    · exact z4
      · rcases r.2 with ⟨_, _, y, _⟩ | ⟨_, _, y⟩
        · rw [y]; exact i4 l
        · rw [y]
          split
          · exact Or.inl rfl
          · split
            · exact Or.inl rfl
            · exact i4 l
      · by_cases ex : x = n
        · subst ex
          rcases r.2 with ⟨_, _, y, _⟩ | ⟨y, _, _⟩
          · rw [y]; exact i5 x hx h1 (Or.inl (Nat.le_refl _))
          · exact absurd (h2.resolve_left (by omega)) (by rw [y]; decide)
        · have h3 : n ≤ x ∨ M1 206 x = 1 := h2.imp (fun z => by omega) (fun z => by rw [r.1 206 x (Or.inl rfl) ex] at z; exact z)
          obtain ⟨c1, c2⟩ := crew x hx ex h1 h3.symm
          rw [c1, c2]
          exact i5 x hx h1 h3
    · have eg : gPush Q nb n M1 = M1 := if_neg (fun z => c (e6.symm.trans z))
      rw [eg]
      refine ⟨i1, fun x h1 h2 k hk => i2 x (by omega) h2 k hk, fun x hx => ?_, i4, fun x hx h1 h2 => i5 x hx h1 ?_⟩
      · by_cases ex : x = n
        · subst ex
          exact ⟨fun _ => ⟨e6, e11⟩, fun z => absurd z c⟩
        · exact i3 x (by omega)
      · exact h2.imp (fun z => by omega) id
end STEP
