/-! ===== what stays so, and what a minute shows ===== -/
def IX (Q M : M2) (np nl nb t : Nat) : Prop :=
  INV Q M np nl nb nb ∧ ICL Q M np nl ∧ IBR Q M nl
  ∧ (∀ l, l < nl → ∃ w, w ≤ 9 ∧ M 205 l = nI w)
  ∧ (∀ b, b < nb → M 206 b = 1 → M 205 (kr0 Q b) = 0 ∧ M 205 (kr1 Q b) = 0)
  ∧ (∀ b, b < nb → M 206 b = 0 ∨ M 206 b = 1 ∨ M 206 b = 2)
  ∧ M 200 0 = nI t
  ∧ (∀ b, b < nb → (M 206 b = 2 → ∃ u, u < t ∧ M 211 b = nI u) ∧ (¬ M 206 b = 2 → M 211 b = -1))
  ∧ (∀ b c, b < nb → c < nb → M 206 b = 1 → M 206 c = 1 → M 207 b = M 207 c)
  ∧ (M 201 0 = 0 ∨ M 201 0 = 1)
section IXS
variable {P Q M : M2} {np nl nb ns no t : Nat} {T : Nat → List (Int32 × Int32)} {b : Nat}
theorem IX.inv (h : IX Q M np nl nb t) : INV Q M np nl nb nb := h.1
theorem IX.icl (h : IX Q M np nl nb t) : ICL Q M np nl := h.2.1
theorem IX.icp (h : IX Q M np nl nb t) : ICP M np nl := h.2.1.icp
theorem IX.ibr (h : IX Q M np nl nb t) : IBR Q M nl := h.2.2.1
theorem IX.walk (h : IX Q M np nl nb t) {l : Nat} (hl : l < nl) : ∃ w, w ≤ 9 ∧ M 205 l = nI w := h.2.2.2.1 l hl
theorem IX.rest (h : IX Q M np nl nb t) (hb : b < nb) (h1 : M 206 b = 1) : M 205 (kr0 Q b) = 0 ∧ M 205 (kr1 Q b) = 0 := h.2.2.2.2.1 b hb h1
theorem IX.how (h : IX Q M np nl nb t) (hb : b < nb) : M 206 b = 0 ∨ M 206 b = 1 ∨ M 206 b = 2 := h.2.2.2.2.2.1 b hb
theorem IX.min (h : IX Q M np nl nb t) : M 200 0 = nI t := h.2.2.2.2.2.2.1
theorem IX.out (h : IX Q M np nl nb t) (hb : b < nb) (h2 : M 206 b = 2) : ∃ u, u < t ∧ M 211 b = nI u := (h.2.2.2.2.2.2.2.1 b hb).1 h2
theorem IX.not_ (h : IX Q M np nl nb t) (hb : b < nb) (h2 : ¬ M 206 b = 2) : M 211 b = -1 := (h.2.2.2.2.2.2.2.1 b hb).2 h2
theorem IX.way (h : IX Q M np nl nb t) {c : Nat} (hb : b < nb) (hc : c < nb) (h1 : M 206 b = 1) (h2 : M 206 c = 1) : M 207 b = M 207 c := h.2.2.2.2.2.2.2.2.1 b c hb hc h1 h2
theorem IX.turn (h : IX Q M np nl nb t) : M 201 0 = 0 ∨ M 201 0 = 1 := h.2.2.2.2.2.2.2.2.2
/-- the end at which b goes in -/
def startV (Q M : M2) (b : Nat) : Int32 := if M 207 b = 0 then 0 else Q 241 0 - 1
theorem turn_n {k : Nat} (h : k ≠ 201) : mTurn T Q M np nb no k = M k := mTurnL_n h no 0
theorem stE_spec : (stE T Q M np nb no 206 = M 206 ∧ stE T Q M np nb no 209 = M 209 ∧ ∀ c, c < nb → ¬ canP T Q (mTurn T Q M np nb no) np nb no c) ∨ ∃ c, c < nb ∧ canP T Q (mTurn T Q M np nb no) np nb no c ∧ (∀ j, stE T Q M np nb no 206 j = if j = c then 1 else M 206 j) ∧ ∀ j, stE T Q M np nb no 209 j = if j = c then startV Q M c else M 209 j := by
  rcases ent_cases (T := T) (Q := Q) (np := np) (nb := nb) (no := no) (M := mTurn T Q M np nb no) nb 0 (by omega) with ⟨h1, h2⟩ | ⟨c, _, h2, h3, h4⟩
  · refine Or.inl ⟨?_, ?_, fun c hc => h2 c (Nat.zero_le _) hc⟩
    · unfold stE
      rw [h1, turn_n (by decide)]
    · unfold stE
      rw [h1, turn_n (by decide)]
  · refine Or.inr ⟨c, h2, h3, fun j => ?_, fun j => ?_⟩
    · unfold stE
      rw [h4, mEnter_is, turn_n (by decide)]
    · unfold stE startV
      rw [h4, mEnter_at, turn_n (by decide), turn_n (by decide)]
theorem inv_E (hp : PR P Q np nl nb ns no) (h : INV Q M np nl nb nb) : INV Q (stE T Q M np nb no) np nl nb nb := (INV.five (T := T) hp h).1
theorem inv_P (hp : PR P Q np nl nb ns no) (h : INV Q M np nl nb nb) : INV Q (stP T Q M np nb no) np nl nb nb := (INV.five (T := T) hp h).2
/-- out in this minute -/
def OUTN (Q M M' : M2) (b : Nat) : Prop := M' 206 b = 2 ∧ M' 211 b = M 200 0 ∧ M' 205 (kr0 Q b) = 9 ∧ M' 205 (kr1 Q b) = 9
/-- in the tunnel, no less far than at p -/
def INN (M M' : M2) (b : Nat) (p : Int32) : Prop := M' 206 b = 1 ∧ M' 211 b = M 211 b ∧ adv (M 207 b) p (M' 209 b)
theorem w10 : mxv 0 ((10 : Int32) - 1) = 9 := by decide
theorem push_b (hp : PR P Q np nl nb ns no) (hI : INV Q M np nl nb nb) (hb : b < nb) : (¬ stE T Q M np nb no 206 b = 1 → mMin T Q M np nl nb ns no 206 b = stE T Q M np nb no 206 b ∧ mMin T Q M np nl nb ns no 211 b = M 211 b) ∧ (stE T Q M np nb no 206 b = 1 → INN M (mMin T Q M np nl nb ns no) b (stE T Q M np nb no 209 b) ∨ OUTN Q M (mMin T Q M np nl nb ns no) b) := by
  obtain ⟨_, _, h3, _, _⟩ := pushAll_spec hp (inv_E (T := T) hp hI) nb (Nat.le_refl _)
  obtain ⟨g1, g2⟩ := h3 b hb
  have e6 : mMin T Q M np nl nb ns no 206 = stP T Q M np nb no 206 := min_n (by decide) (by decide) (by decide) (by decide)
  have e9 : mMin T Q M np nl nb ns no 209 = stP T Q M np nb no 209 := min_n (by decide) (by decide) (by decide) (by decide)
  have e11 : mMin T Q M np nl nb ns no 211 = stP T Q M np nb no 211 := min_n (by decide) (by decide) (by decide) (by decide)
  have x11 : stE T Q M np nb no 211 = M 211 := stE_n (by decide) (by decide) (by decide) (by decide) (by decide)
  have x7 : stE T Q M np nb no 207 = M 207 := stE_n (by decide) (by decide) (by decide) (by decide) (by decide)
  have x0 : stE T Q M np nb no 200 = M 200 := stE_n (by decide) (by decide) (by decide) (by decide) (by decide)
  obtain ⟨k0, k1, _⟩ := hp.boat b hb
  refine ⟨fun z => ?_, fun z => ?_⟩
  · rw [e6, e11]
    have := g1 z
    rw [x11] at this
    exact this
  · rcases g2 z with ⟨z1, z2, z3⟩ | ⟨z1, z2, z3, z4⟩
    · rw [x7] at z3
      rw [x11] at z2
      exact Or.inl ⟨(congrFun e6 b).trans z1, (congrFun e11 b).trans z2, by rw [e9]; exact z3⟩
    · rw [x0] at z2
      refine Or.inr ⟨(congrFun e6 b).trans z1, (congrFun e11 b).trans z2, ?_, ?_⟩
      · rw [min_205 k0]
        show mxv 0 (stP T Q M np nb no 205 (kr0 Q b) - 1) = 9
        have : stP T Q M np nb no 205 (kr0 Q b) = 10 := z3
        rw [this, w10]
      · rw [min_205 k1]
        have : stP T Q M np nb no 205 (kr1 Q b) = 10 := z4
        rw [this, w10]
/-- a boat, in a minute -/
theorem min_boat (hp : PR P Q np nl nb ns no) (hX : IX Q M np nl nb t) (hb : b < nb) : (M 206 b = 2 → mMin T Q M np nl nb ns no 206 b = 2 ∧ mMin T Q M np nl nb ns no 211 b = M 211 b) ∧ (M 206 b = 1 → INN M (mMin T Q M np nl nb ns no) b (M 209 b) ∨ OUTN Q M (mMin T Q M np nl nb ns no) b)
    ∧ (M 206 b = 0 → (mMin T Q M np nl nb ns no 206 b = 0 ∧ mMin T Q M np nl nb ns no 211 b = M 211 b) ∨ (canP T Q (mTurn T Q M np nb no) np nb no b ∧ (INN M (mMin T Q M np nl nb ns no) b (startV Q M b) ∨ OUTN Q M (mMin T Q M np nl nb ns no) b))) := by
  obtain ⟨p1, p2⟩ := push_b (T := T) hp hX.inv hb
  rcases stE_spec (T := T) (Q := Q) (M := M) (np := np) (nb := nb) (no := no) with ⟨h1, h2, h3⟩ | ⟨c, hc, hcan, h1, h2⟩
  · rw [h1] at p1
    rw [h1, h2] at p2
    refine ⟨fun z => ?_, p2, fun z => Or.inl ?_⟩
    · have := p1 (by rw [z]; decide)
      rw [z] at this
      exact this
    · have := p1 (by rw [z]; decide)
      rw [z] at this
      exact this
  · rw [h1] at p1
    rw [h1, h2] at p2
    have c0 : M 206 c = 0 := by
      have := hcan.1
      rw [turn_n (by decide)] at this
      exact this
    by_cases e : b = c
    · subst e
      rw [if_pos rfl] at p1 p2
      rw [if_pos rfl] at p2
      refine ⟨fun z => absurd (c0.symm.trans z) (by decide), fun z => absurd (c0.symm.trans z) (by decide), fun _ => Or.inr ⟨hcan, p2 rfl⟩⟩
    · rw [if_neg e] at p1 p2
      rw [if_neg e] at p2
      refine ⟨fun z => ?_, p2, fun z => Or.inl ?_⟩
      · have := p1 (by rw [z]; decide)
        rw [z] at this
        exact this
      · have := p1 (by rw [z]; decide)
        rw [z] at this
        exact this
/-- at most one goes in -/
theorem min_one (hp : PR P Q np nl nb ns no) (hX : IX Q M np nl nb t) {c : Nat} (hb : b < nb) (hc : c < nb) (b0 : M 206 b = 0) (c0 : M 206 c = 0) (b1 : ¬ mMin T Q M np nl nb ns no 206 b = 0) (c1 : ¬ mMin T Q M np nl nb ns no 206 c = 0) : b = c := by
  obtain ⟨p1, _⟩ := push_b (T := T) hp hX.inv hb
  obtain ⟨q1, _⟩ := push_b (T := T) hp hX.inv hc
  rcases stE_spec (T := T) (Q := Q) (M := M) (np := np) (nb := nb) (no := no) with ⟨h1, h2, h3⟩ | ⟨x, hx, hcan, h1, h2⟩
  · rw [h1] at p1
    have := (p1 (by rw [b0]; decide)).1
    exact absurd (this.trans b0) b1
  · rw [h1] at p1 q1
    have e1 : b = x := Decidable.byContradiction (fun e => by
      rw [if_neg e] at p1
      exact b1 ((p1 (by rw [b0]; decide)).1.trans b0))
    have e2 : c = x := Decidable.byContradiction (fun e => by
      rw [if_neg e] at q1
      exact c1 ((q1 (by rw [c0]; decide)).1.trans c0))
    rw [e1, e2]
/-- if one can go in and no order says otherwise, one goes in -/
theorem min_some (hp : PR P Q np nl nb ns no) (hX : IX Q M np nl nb t) (hno : no = 0) (hb : b < nb) (hcan : canP T Q M np nb no b) : ∃ c, c < nb ∧ M 206 c = 0 ∧ ¬ mMin T Q M np nl nb ns no 206 c = 0 := by
  have eT : mTurn T Q M np nb no = M := by
    subst hno
    rfl
  rcases stE_spec (T := T) (Q := Q) (M := M) (np := np) (nb := nb) (no := no) with ⟨h1, h2, h3⟩ | ⟨x, hx, hcx, h1, h2⟩
  · rw [eT] at h3
    exact absurd hcan (h3 b hb)
  · rw [eT] at hcx
    obtain ⟨_, q2⟩ := push_b (T := T) hp hX.inv hx
    rw [h1, if_pos rfl] at q2
    refine ⟨x, hx, hcx.1, ?_⟩
    rcases q2 rfl with z | z
    · rw [z.1]; decide
    · rw [z.1]; decide
theorem in_E {c : Nat} (hp : PR P Q np nl nb ns no) (hX : IX Q M np nl nb t) (hc : c < nb) (h : mMin T Q M np nl nb ns no 206 c = 1) : stE T Q M np nb no 206 c = 1 := by
  obtain ⟨p1, _⟩ := push_b (T := T) hp hX.inv hc
  exact Decidable.byContradiction (fun z => z ((p1 z).1.symm.trans h))
theorem rest_E (hX : IX Q M np nl nb t) (hb : b < nb) (h : stE T Q M np nb no 206 b = 1) : M 205 (kr0 Q b) = 0 ∧ M 205 (kr1 Q b) = 0 := by
  rcases stE_spec (T := T) (Q := Q) (M := M) (np := np) (nb := nb) (no := no) with ⟨h1, _⟩ | ⟨x, hx, hcan, h1, _⟩
  · rw [h1] at h
    exact hX.rest hb h
  · rw [h1] at h
    by_cases e : b = x
    · subst e
      have a0 := hcan.2.2.2.2.2.1.1.2.1
      have a1 := hcan.2.2.2.2.2.2.1.2.1
      rw [turn_n (by decide)] at a0 a1
      exact ⟨a0, a1⟩
    · rw [if_neg e] at h
      exact hX.rest hb h
theorem turn_01 (hs : ∀ o, o < no → Q 259 o = 17 → Q 260 o = 0 ∨ Q 260 o = 1) (h : M 201 0 = 0 ∨ M 201 0 = 1) : ∀ (d j : Nat), j + d ≤ no → mTurnL T Q np nb d j M 201 0 = 0 ∨ mTurnL T Q np nb d j M 201 0 = 1
  | 0, _, _ => h
  | d + 1, j, hj => by
    unfold mTurnL
    by_cases c : Q 259 j = 17 ∧ hvV T M np nb j = 1
    · rw [if_pos c, up2_s]
      exact hs j (by omega) c.1
    · rw [if_neg c]
      exact turn_01 hs h d (j + 1) (by omega)
theorem icl_min (hp : PR P Q np nl nb ns no) (hI : INV Q M np nl nb nb) (h : ICL Q M np nl) : ICL Q (mMin T Q M np nl nb ns no) np nl := by
  have h1 : ICL Q (mTurn T Q M np nb no) np nl := h.cong (mTurnL_n (by decide) no 0)
  have h2 : ∀ (d j : Nat) (M : M2), ICL Q M np nl → ICL Q (lfo (gEnter T Q np nb no) d j M) np nl := by
    intro d
    induction d with
    | zero => exact fun _ _ h => h
    | succ d ih => exact fun j M h => ih (j + 1) _ (h.gEn hp)
  have h3 : ∀ (d j : Nat) (M : M2), j + d ≤ nb → INV Q M np nl nb nb → ICL Q M np nl → ICL Q (lfo (gPush Q nb) d j M) np nl := by
    intro d
    induction d with
    | zero => exact fun _ _ _ _ h => h
    | succ d ih => exact fun j M hj hI h => ih (j + 1) _ (by omega) (hI.gPu hp (by omega)) (h.gPu hp hI (by omega))
  have h4 : ICL Q (stP T Q M np nb no) np nl := h3 nb 0 _ (by omega) (inv_E hp hI) (h2 nb 0 _ h1)
  exact h4.cong (min_n (by decide) (by decide) (by decide) (by decide))
/-! breath -/
theorem inV_range {a : Nat} (ha : a ≤ 1000) : inV (nI a) = 1 ∨ ∃ k, k ≤ 5 ∧ inV (nI a) = - nI k := by
  unfold inV
  by_cases c : 40 ≤ nI a
  · rw [if_pos c]
    exact Or.inl rfl
  · rw [if_neg c]
    rw [show (40 : Int32) = nI 40 from rfl, le_nI (by omega) (by omega)] at c
    rw [show (40 : Int32) = nI 40 from rfl, pk_sub (by omega), show (10 : Int32) = nI 10 from rfl, pk_div (by omega) (by omega) (by omega), show (1 : Int32) = nI 1 from rfl, nI_add]
    exact Or.inr ⟨1 + (40 - a) / 10, by omega, rfl⟩
theorem clamp_up {v y d : Nat} (hv : v ≤ 10 * y) (hy : y ≤ 9) (hd : d ≤ 10) : ∃ r, r ≤ 10 * y ∧ v ≤ r ∧ r ≤ v + d ∧ mxv 0 (mnv (10 * nI y) (nI v + nI d)) = nI r := by
  rw [show (10 : Int32) = nI 10 from rfl, pk_mul, nI_add]
  unfold mnv
  by_cases c : nI (v + d) < nI (10 * y)
  · rw [if_pos c]
    rw [lt_nI (by omega) (by omega)] at c
    refine ⟨v + d, by omega, by omega, Nat.le_refl _, ?_⟩
    unfold mxv
    by_cases c2 : 0 < nI (v + d)
    · rw [if_pos c2]
    · rw [if_neg c2]
      rw [← nI_0, lt_nI (by omega) (by omega)] at c2
      rw [show v + d = 0 by omega, nI_0]
  · rw [if_neg c]
    rw [lt_nI (by omega) (by omega)] at c
    refine ⟨10 * y, Nat.le_refl _, hv, by omega, ?_⟩
    unfold mxv
    by_cases c2 : 0 < nI (10 * y)
    · rw [if_pos c2]
    · rw [if_neg c2]
      rw [← nI_0, lt_nI (by omega) (by omega)] at c2
      rw [show 10 * y = 0 by omega, nI_0]
theorem clamp_dn {v y d : Nat} (hv : v ≤ 10 * y) (hy : y ≤ 9) (hd : d ≤ 10) : mxv 0 (mnv (10 * nI y) (nI v + - nI d)) = nI (v - d) := by
  rw [← Int32.sub_eq_add_neg, show (10 : Int32) = nI 10 from rfl, pk_mul]
  by_cases c : d ≤ v
  · rw [pk_sub c]
    unfold mnv mxv
    by_cases c1 : nI (v - d) < nI (10 * y)
    · rw [if_pos c1]
      by_cases c2 : 0 < nI (v - d)
      · rw [if_pos c2]
      · rw [if_neg c2]
        rw [← nI_0, lt_nI (by omega) (by omega)] at c2
        rw [show v - d = 0 by omega, nI_0]
    · rw [if_neg c1]
      rw [lt_nI (by omega) (by omega)] at c1
      rw [show v - d = 10 * y by omega]
      by_cases c2 : 0 < nI (10 * y)
      · rw [if_pos c2]
      · rw [if_neg c2]
        rw [← nI_0, lt_nI (by omega) (by omega)] at c2
        rw [show 10 * y = 0 by omega, nI_0]
  · have hneg : nI v - nI d < 0 := pk_sneg (by omega) (by omega)
    unfold mnv mxv
    rw [if_pos (Int32.lt_of_lt_of_le hneg (nI_pos' (by omega))), if_neg (fun z => Int32.lt_asymm z hneg), show v - d = 0 by omega, nI_0]
/-- a legger's breath, in a minute -/
theorem min_breath (hp : PR P Q np nl nb ns no) (hX : IX Q M np nl nb t) {l : Nat} (hl : l < nl) : ∃ v r y, M 203 l = nI v ∧ Q 251 l = nI y ∧ y ≤ 9 ∧ v ≤ 10 * y ∧ r ≤ 10 * y ∧ mMin T Q M np nl nb ns no 203 l = nI r ∧ v ≤ r + 5 ∧ r ≤ v + 2 ∧ (¬ mBoatOf Q (mMin T Q M np nl nb ns no) nb (nI l) = -1 → r ≤ v + 1) := by
  obtain ⟨v, y, ev, ey, hy, hv⟩ := hX.ibr l hl
  have hIP := inv_P (T := T) hp hX.inv
  have hIS := hIP.spoil hp.np3
  have e6 : mMin T Q M np nl nb ns no 206 = stP T Q M np nb no 206 := min_n (by decide) (by decide) (by decide) (by decide)
  have s6 : mSpoil (stP T Q M np nb no) nb 206 = stP T Q M np nb no 206 := by unfold mSpoil; rw [up2_n _ _ (by decide)]
  have eb : mBoatOf Q (mMin T Q M np nl nb ns no) nb (nI l) = mBoatOf Q (mSpoil (stP T Q M np nb no) nb) nb (nI l) := by
    unfold mBoatOf
    rw [e6, s6]
  rw [min_203 hl, ev, ey, eb]
  have h6 := hp.nl3
  unfold moreV
  rcases boatOf_cases (M := mSpoil (stP T Q M np nb no) nb) hp (l := l) with z | ⟨b, hb, z, h1, _⟩
  · rw [if_pos z]
    obtain ⟨r, r1, r2, r3, r4⟩ := clamp_up (d := 2) hv hy (by omega)
    exact ⟨v, r, y, rfl, rfl, hy, hv, r1, r4, by omega, r3, fun c => absurd z c⟩
  · rw [if_neg (by rw [z]; exact nI_nm1 (by have := hp.nb3; omega)), z, tn_nI (by have := hp.nb3; omega)]
    obtain ⟨p, hpn, hat⟩ := spot_of hIS hb h1
    obtain ⟨a, ha, ea⟩ := hIS.1 p hpn
    rw [hat, tn_nI (by have := hp.np3; omega), ea]
    rcases inV_range (a := a) (by omega) with w | ⟨k, hk, w⟩
    · rw [w]
      obtain ⟨r, r1, r2, r3, r4⟩ := clamp_up (d := 1) hv hy (by omega)
      exact ⟨v, r, y, rfl, rfl, hy, hv, r1, r4, by omega, by omega, fun _ => r3⟩
    · rw [w]
      exact ⟨v, v - k, y, rfl, rfl, hy, hv, by omega, clamp_dn hv hy (by omega), by omega, by omega, fun _ => by omega⟩
/-! walking -/
theorem min_walk (hp : PR P Q np nl nb ns no) (hX : IX Q M np nl nb t) {l : Nat} (hl : l < nl) : (mMin T Q M np nl nb ns no 205 l = 9 ∨ mMin T Q M np nl nb ns no 205 l = mxv 0 (M 205 l - 1)) ∧ ∃ w, w ≤ 9 ∧ mMin T Q M np nl nb ns no 205 l = nI w := by
  obtain ⟨_, _, _, h4, _⟩ := pushAll_spec hp (inv_E (T := T) hp hX.inv) nb (Nat.le_refl _)
  have x5 : stE T Q M np nb no 205 = M 205 := stE_n (by decide) (by decide) (by decide) (by decide) (by decide)
  obtain ⟨w, hw, ew⟩ := hX.walk hl
  have e := h4 l
  rw [x5] at e
  have e : stP T Q M np nb no 205 l = 10 ∨ stP T Q M np nb no 205 l = M 205 l := e
  rw [min_205 hl]
  rcases e with e | e
  · rw [e, w10]
    exact ⟨Or.inl rfl, 9, by omega, rfl⟩
  · rw [e]
    refine ⟨Or.inr rfl, w - 1, by omega, ?_⟩
    rw [ew]
    unfold mxv
    rcases Nat.eq_zero_or_pos w with h0 | h0
    · subst h0
      decide
    · rw [show (1 : Int32) = nI 1 from rfl, pk_sub (by omega)]
      by_cases c : 0 < nI (w - 1)
      · rw [if_pos c]
      · rw [if_neg c]
        rw [← nI_0, lt_nI (by omega) (by omega)] at c
        rw [show w - 1 = 0 by omega, nI_0]
/-! air -/
theorem spoil_free : ∀ (n p : Nat), (∀ b, b < n → M 206 b = 1 → (M 209 b).toInt.toNat ≠ p) → lfo (gSpoil M) n 0 (M 202) p = M 202 p := by
  intro n
  induction n with
  | zero => intro p _; rfl
  | succ n ih =>
    intro p h
    rw [lfo_succ, Nat.zero_add, gSpoil_eq]
    by_cases c : M 206 n = 1
    · rw [if_pos c, upd_n _ _ (fun z => h n (by omega) c z.symm)]
      exact ih p (fun b hb => h b (by omega))
    · rw [if_neg c]
      exact ih p (fun b hb => h b (by omega))
theorem draw_up (hp : PR P Q np nl nb ns no) {s : Nat} (hs : s < ns) (hI : INV Q M np nl nb b) {p a : Nat} (hpn : p < np) (ha : M 202 p = nI a) (ha2 : a ≤ 100) : ∃ c, c ≤ 100 ∧ a ≤ c ∧ mDraw Q np s M 202 p = nI c := by
  unfold mDraw drawA
  rw [up2_s, drawA_at, if_pos hpn]
  obtain ⟨a', d', _, _, h30, f1, f2, _, _, eb, hle, hgt⟩ := byV_nI hp hs hpn
  by_cases c : byV Q s p ≤ 0
  · rw [if_pos c]
    exact ⟨a, ha2, Nat.le_refl _, ha⟩
  · rw [if_neg c, hgt (fun z => c (hle.mpr z)), ha, nI_add, mnv_100 (by omega)]
    exact ⟨_, Nat.min_le_left _ _, by omega, rfl⟩
theorem drawAll_up (hp : PR P Q np nl nb ns no) {p : Nat} (hpn : p < np) : ∀ (d j : Nat) (M : M2) (a : Nat), j + d ≤ ns → INV Q M np nl nb nb → M 202 p = nI a → a ≤ 100 → ∃ c, c ≤ 100 ∧ a ≤ c ∧ lfo (mDraw Q np) d j M 202 p = nI c
  | 0, _, _, a, _, _, h, h2 => ⟨a, h2, Nat.le_refl _, h⟩
  | d + 1, j, M, a, hj, hI, h, h2 => by
    unfold lfo
    obtain ⟨c, hc, hac, ec⟩ := draw_up hp (by omega : j < ns) hI hpn h h2
    obtain ⟨c2, hc2, hac2, ec2⟩ := drawAll_up hp hpn d (j + 1) _ c (by omega) (hI.draw hp (by omega)) ec hc
    exact ⟨c2, hc2, by omega, ec2⟩
/-- the air of a place, in a minute -/
theorem min_air (hp : PR P Q np nl nb ns no) (hX : IX Q M np nl nb t) {p : Nat} (hpn : p < np) : ∃ a c, a ≤ 100 ∧ c ≤ 100 ∧ M 202 p = nI a ∧ mMin T Q M np nl nb ns no 202 p = nI c ∧ a ≤ c + 6 ∧ (c < a → ¬ mBoatAt (mMin T Q M np nl nb ns no) nb (nI p) = -1) := by
  have h60 := hp.np3
  have h8 := hp.nb3
  obtain ⟨a, ha, ea⟩ := hX.inv.1 p hpn
  have hIP := inv_P (T := T) hp hX.inv
  have hIS := hIP.spoil hp.np3
  have hIB : INV Q (mBreathe Q (mSpoil (stP T Q M np nb no) nb) nl nb) np nl nb nb := hIS.off (by decide) (by decide) (by decide) (by decide) (by decide) (by decide)
  have e2 : mMin T Q M np nl nb ns no 202 = lfo (mDraw Q np) ns 0 (mBreathe Q (mSpoil (stP T Q M np nb no) nb) nl nb) 202 := by
    rw [min_def, up2_n _ _ (by decide), walk_n (by decide)]
    rfl
  have e3 : mBreathe Q (mSpoil (stP T Q M np nb no) nb) nl nb 202 = lfo (gSpoil (stP T Q M np nb no)) nb 0 (stP T Q M np nb no 202) := by
    unfold mBreathe
    rw [up2_n _ _ (by decide)]
    unfold mSpoil
    rw [up2_s]
    rfl
  have x2 : stP T Q M np nb no 202 = M 202 := stP_n (by decide) (by decide) (by decide) (by decide) (by decide) (by decide) (by decide)
  have e6 : mMin T Q M np nl nb ns no 206 = stP T Q M np nb no 206 := min_n (by decide) (by decide) (by decide) (by decide)
  have e9 : mMin T Q M np nl nb ns no 209 = stP T Q M np nb no 209 := min_n (by decide) (by decide) (by decide) (by decide)
  by_cases hfree : ∃ b, b < nb ∧ stP T Q M np nb no 206 b = 1 ∧ stP T Q M np nb no 209 b = nI p
  · obtain ⟨b, hb, h1, hat⟩ := hfree
    have hs := spoil_at hIP h60 nb (Nat.le_refl _) b hb h1
    rw [hat, tn_nI (by omega), if_pos hb, x2, ea, mxv_0 (by omega)] at hs
    obtain ⟨c, hc, hac, ec⟩ := drawAll_up hp hpn ns 0 _ (a - 6) (by omega) hIB (by rw [e3, x2]; exact hs) (by omega)
    refine ⟨a, c, ha, hc, ea, by rw [e2]; exact ec, by omega, fun _ z => ?_⟩
    rw [mBoatAt_none h8] at z
    exact z b hb (by rw [e6]; exact h1) (by rw [e9]; exact hat)
  · have hs : lfo (gSpoil (stP T Q M np nb no)) nb 0 (stP T Q M np nb no 202) p = nI a := by
      rw [spoil_free nb p (fun b hb h1 z => ?_), x2, ea]
      obtain ⟨q, hq, hat⟩ := spot_of hIP hb h1
      rw [hat, tn_nI (by omega)] at z
      exact hfree ⟨b, hb, h1, by rw [hat, z]⟩
    obtain ⟨c, hc, hac, ec⟩ := drawAll_up hp hpn ns 0 _ a (by omega) hIB (by rw [e3]; exact hs) ha
    exact ⟨a, c, ha, hc, ea, by rw [e2]; exact ec, by omega, fun z => by omega⟩
/-- it stays so in a minute -/
theorem IX.step (hp : PR P Q np nl nb ns no) (hs : ∀ o, o < no → Q 259 o = 17 → Q 260 o = 0 ∨ Q 260 o = 1) (hX : IX Q M np nl nb t) : IX Q (mMin T Q M np nl nb ns no) np nl nb (t + 1) := by
  obtain ⟨_, _, _, _, h5⟩ := pushAll_spec hp (inv_E (T := T) hp hX.inv) nb (Nat.le_refl _)
  have x5 : stE T Q M np nb no 205 = M 205 := stE_n (by decide) (by decide) (by decide) (by decide) (by decide)
  have x7 : stE T Q M np nb no 207 = M 207 := stE_n (by decide) (by decide) (by decide) (by decide) (by decide)
  have e6 : mMin T Q M np nl nb ns no 206 = stP T Q M np nb no 206 := min_n (by decide) (by decide) (by decide) (by decide)
  have e7 : mMin T Q M np nl nb ns no 207 = M 207 := (min_n (by decide) (by decide) (by decide) (by decide)).trans (stP_n (by decide) (by decide) (by decide) (by decide) (by decide) (by decide) (by decide))
  refine ⟨hX.inv.minu hp, icl_min hp hX.inv hX.icl, fun l hl => ?_, fun l hl => (min_walk hp hX hl).2, fun b hb h1 => ?_, fun b hb => ?_, ?_, fun b hb => ?_, fun b c hb hc h1 h2 => ?_, ?_⟩
  · obtain ⟨v, r, y, _, ey, hy, _, hr, er, _⟩ := min_breath (T := T) hp hX hl
    exact ⟨r, y, er, ey, hy, hr⟩
  · have hE := in_E hp hX hb h1
    obtain ⟨k0, k1, _⟩ := hp.boat b hb
    obtain ⟨z0, z1⟩ := rest_E hX hb hE
    obtain ⟨y0, y1⟩ := h5 b hb hE (Or.inr (by rw [e6] at h1; exact h1))
    rw [x5, z0] at y0
    rw [x5, z1] at y1
    have y0 : stP T Q M np nb no 205 (kr0 Q b) = 0 := y0
    have y1 : stP T Q M np nb no 205 (kr1 Q b) = 0 := y1
    rw [min_205 k0, min_205 k1, y0, y1]
    exact ⟨by decide, by decide⟩
  · obtain ⟨b2, b1, b0⟩ := min_boat (T := T) hp hX hb
    rcases hX.how hb with z | z | z
    · rcases b0 z with w | ⟨_, w | w⟩
      · exact Or.inl w.1
      · exact Or.inr (Or.inl w.1)
      · exact Or.inr (Or.inr w.1)
    · rcases b1 z with w | w
      · exact Or.inr (Or.inl w.1)
      · exact Or.inr (Or.inr w.1)
    · exact Or.inr (Or.inr (b2 z).1)
  · rw [min_200, hX.min, nI_1]
  · obtain ⟨b2, b1, b0⟩ := min_boat (T := T) hp hX hb
    have fin : ∀ p, INN M (mMin T Q M np nl nb ns no) b p ∨ OUTN Q M (mMin T Q M np nl nb ns no) b → ¬ M 206 b = 2 → (mMin T Q M np nl nb ns no 206 b = 2 → ∃ u, u < t + 1 ∧ mMin T Q M np nl nb ns no 211 b = nI u) ∧ (¬ mMin T Q M np nl nb ns no 206 b = 2 → mMin T Q M np nl nb ns no 211 b = -1) := fun p z hn => by
      rcases z with z | z
      · exact ⟨fun w => absurd (z.1.symm.trans w) (by decide), fun _ => z.2.1.trans (hX.not_ hb hn)⟩
      · exact ⟨fun _ => ⟨t, by omega, z.2.1.trans hX.min⟩, fun w => absurd z.1 w⟩
    rcases hX.how hb with z | z | z
    · have hn : ¬ M 206 b = 2 := by rw [z]; decide
      rcases b0 z with w | ⟨_, w⟩
      · exact ⟨fun w2 => absurd (w.1.symm.trans w2) (by decide), fun _ => w.2.trans (hX.not_ hb hn)⟩
      · exact fin _ w hn
    · exact fin _ (b1 z) (by rw [z]; decide)
    · obtain ⟨w1, w2⟩ := b2 z
      obtain ⟨u, hu, eu⟩ := hX.out hb z
      exact ⟨fun _ => ⟨u, by omega, w2.trans eu⟩, fun w => absurd w1 w⟩
  · rw [e7]
    have g1 := in_E hp hX hb h1
    have g2 := in_E hp hX hc h2
    rcases stE_spec (T := T) (Q := Q) (M := M) (np := np) (nb := nb) (no := no) with ⟨w, _⟩ | ⟨x, hx, hcan, w, _⟩
    · rw [w] at g1 g2
      exact hX.way hb hc g1 g2
    · rw [w] at g1 g2
      have cl := clear_spec hcan.2.2.2.2.1
      rw [turn_n (by decide), turn_n (by decide)] at cl
      have sx := hcan.2.2.1
      rw [turn_n (by decide)] at sx
      have side : ∀ y, y < nb → (if y = x then (1 : Int32) else M 206 y) = 1 → M 207 y = mTurn T Q M np nb no 201 0 := fun y hy g => by
        by_cases e : y = x
        · rw [e]; exact sx
        · rw [if_neg e] at g
          exact (cl y hy g).1
      rw [side b hb g1, side c hc g2]
  · rw [min_201]
    exact turn_01 hs hX.turn no 0 (by omega)
end IXS
