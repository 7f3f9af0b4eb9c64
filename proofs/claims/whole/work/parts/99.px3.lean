/-! ===== minutes, and what would be ===== -/
section CALLS2
theorem k212L {Q : M2} {nb b : Nat} : ∀ (d : Nat) (M : M2), mPushL Q nb b d M 212 = M 212
  | 0, _ => rfl
  | d + 1, M => by
    unfold mPushL
    split
    · rfl
    · split
      · unfold mLeave
        simp only [st2_n _ _ _ (by decide : (212 : Nat) ≠ 205), st2_n _ _ _ (by decide : (212 : Nat) ≠ 211), st2_n _ _ _ (by decide : (212 : Nat) ≠ 210), st2_n _ _ _ (by decide : (212 : Nat) ≠ 209), st2_n _ _ _ (by decide : (212 : Nat) ≠ 206)]
      · split
        · rw [k212L d]
          unfold mCome mCap
          simp only [st2_n _ _ _ (by decide : (212 : Nat) ≠ 204), st2_n _ _ _ (by decide : (212 : Nat) ≠ 210), st2_n _ _ _ (by decide : (212 : Nat) ≠ 209)]
        · exact st2_n _ _ _ (by decide)
theorem k212T {T : Nat → List (Int32 × Int32)} {Q : M2} {np nb : Nat} : ∀ (d j : Nat) (M : M2), mTurnL T Q np nb d j M 212 = M 212
  | 0, _, _ => rfl
  | d + 1, j, M => by
    unfold mTurnL
    split
    · exact up2_n _ _ (by decide)
    · exact k212T d (j + 1) M
theorem k212f {g : Nat → M2 → M2} (h : ∀ i M, g i M 212 = M 212) : ∀ (d j : Nat) (M : M2), lfo g d j M 212 = M 212
  | 0, _, _ => rfl
  | d + 1, j, M => by
    unfold lfo
    rw [k212f h d (j + 1), h]
theorem k212M {T : Nat → List (Int32 × Int32)} {Q M : M2} {np nl nb ns no : Nat} : mMin T Q M np nl nb ns no 212 = M 212 := by
  unfold mMin
  have w1 : ∀ (d j : Nat) (M : M2), lfo gWalk d j M 212 = M 212 := k212f (g := gWalk) (fun i M => st2_n _ _ _ (by decide))
  have w2 : ∀ (d j : Nat) (M : M2), lfo (mDraw Q np) d j M 212 = M 212 := k212f (g := mDraw Q np) (fun i M => up2_n _ _ (by decide))
  have w3 : ∀ (d j : Nat) (M : M2), lfo (gPush Q nb) d j M 212 = M 212 := k212f (g := gPush Q nb) (fun i M => by
    unfold gPush
    split
    · unfold mPush
      rw [k212L]
      exact st2_n _ _ _ (by decide)
    · rfl)
  have w4 : ∀ (d j : Nat) (M : M2), lfo (gEnter T Q np nb no) d j M 212 = M 212 := k212f (g := gEnter T Q np nb no) (fun i M => by
    unfold gEnter
    split
    · unfold mEnter mCome mCap
      simp only [st2_n _ _ _ (by decide : (212 : Nat) ≠ 204), st2_n _ _ _ (by decide : (212 : Nat) ≠ 210), st2_n _ _ _ (by decide : (212 : Nat) ≠ 209), st2_n _ _ _ (by decide : (212 : Nat) ≠ 206)]
    · rfl)
  rw [up2_n _ _ (by decide), w1, w2]
  unfold mBreathe mSpoil
  rw [up2_n _ _ (by decide), up2_n _ _ (by decide), w3, w4]
  exact k212T no 0 M
theorem k212R {T : Nat → List (Int32 × Int32)} {Q : M2} {np nl nb ns no : Nat} : ∀ (d : Nat) (M : M2), mRun T Q np nl nb ns no d M 212 = M 212
  | 0, _ => rfl
  | d + 1, M => by
    unfold mRun
    rw [k212R d, k212M]
/-! the second tunnel begins as the first one is -/
def ahM (S : M2) : M2 := up2 (up2 (up2 S 200 (fun _ => S 200 0)) 201 (fun _ => S 201 0)) 212 (fun _ => -1)
theorem ahM_n {S : M2} {k : Nat} (h1 : k ≠ 200) (h2 : k ≠ 201) (h3 : k ≠ 212) : ahM S k = S k := by unfold ahM; rw [up2_n _ _ h3, up2_n _ _ h2, up2_n _ _ h1]
theorem ahM_0 {S : M2} : ahM S 200 = fun _ => S 200 0 := by unfold ahM; rw [up2_n _ _ (by decide), up2_n _ _ (by decide), up2_s]
theorem ahM_1 {S : M2} : ahM S 201 = fun _ => S 201 0 := by unfold ahM; rw [up2_n _ _ (by decide), up2_s]
theorem ahM_2 {S : M2} : ahM S 212 = fun _ => -1 := by unfold ahM; rw [up2_s]
theorem ahM_inv {Q S : M2} {np nl nb b : Nat} (h : INV Q S np nl nb b) : INV Q (ahM S) np nl nb b := ((h.off (by decide) (by decide) (by decide) (by decide) (by decide) (by decide)).off (by decide) (by decide) (by decide) (by decide) (by decide) (by decide)).off (by decide) (by decide) (by decide) (by decide) (by decide) (by decide)
theorem r_become {S O : M2} {K : M2 → Prop} (hK : ∀ O', QE O' (ahM S) → K O') : wp_X7_become S O K := by
  intro O1 e1 O2 e2 O3 e3 O4 e4 O5 e5 O6 e6 O7 e7 O8 e8 O9 e9 O10 e10 O11 e11 O12 e12 O13 e13
  refine hK O13 (fun k k1 k2 => ?_)
  have f : ∀ j, j ≠ 200 → j ≠ 201 → j ≠ 212 → 202 ≤ j → j ≤ 211 → O13 j = S j := by
    intro j _ _ _ h4 h5
    have hc : j = 202 ∨ j = 203 ∨ j = 204 ∨ j = 205 ∨ j = 206 ∨ j = 207 ∨ j = 208 ∨ j = 209 ∨ j = 210 ∨ j = 211 := by omega
    rw [e13, e12, e11, e10, e9, e8, e7, e6, e5, e4]
    rcases hc with rfl | rfl | rfl | rfl | rfl | rfl | rfl | rfl | rfl | rfl <;> simp [up2]
  by_cases h0 : k = 200
  · subst h0
    rw [ahM_0, e13, e12, e11, e10, e9, e8, e7, e6, e5, e4, e3, e2, e1]
    simp [up2]
  · by_cases h1 : k = 201
    · subst h1
      rw [ahM_1, e13, e12, e11, e10, e9, e8, e7, e6, e5, e4, e3, e2]
      simp [up2]
    · by_cases h2 : k = 212
      · subst h2
        rw [ahM_2, e13, e12, e11, e10, e9, e8, e7, e6, e5, e4, e3]
        simp [up2]
      · rw [ahM_n h0 h1 h2]
        exact f k h0 h1 h2 (by omega) (by omega)
theorem c_copy {q : Nat → Nat} {T G S : M2} {ap np nl nb : Nat} (hR : RE np nl nb T S) (h212 : S 212 0 = -1) {K : Nat → M2 → Prop} (hK : ∀ G', RE np nl nb G' (ahM S) → K (q 20) G') : wp_X4_copyFrom q T ap G K := by
  intro O1 e1 O2 e2 O3 e3 O4 e4 O5 e5 O6 e6 O7 e7 O8 e8 O9 e9 O10 e10 O11 e11 O12 e12 O13 e13
  refine hK O13 (fun k k1 k2 i hi => ?_)
  have f : ∀ j, 4 ≤ j → j ≤ 13 → O13 j = T j := by
    intro j h4 h5
    have hc : j = 4 ∨ j = 5 ∨ j = 6 ∨ j = 7 ∨ j = 8 ∨ j = 9 ∨ j = 10 ∨ j = 11 ∨ j = 12 ∨ j = 13 := by omega
    rw [e13, e12, e11, e10, e9, e8, e7, e6, e5, e4]
    rcases hc with rfl | rfl | rfl | rfl | rfl | rfl | rfl | rfl | rfl | rfl <;> simp [up2]
  by_cases h4 : 4 ≤ k
  · have hk : km k ≠ 200 ∧ km k ≠ 201 ∧ km k ≠ 212 := by
      have key : ∀ a : Fin 14, 4 ≤ a.val → km a.val ≠ 200 ∧ km a.val ≠ 201 ∧ km a.val ≠ 212 := by decide
      exact key ⟨k, by omega⟩ h4
    rw [f k h4 k2, ahM_n hk.1 hk.2.1 hk.2.2]
    exact hR k k1 k2 i hi
  · have hc : k = 1 ∨ k = 2 ∨ k = 3 := by omega
    rcases hc with rfl | rfl | rfl
    · have e : O13 1 = fun _ => T 1 0 := by
        rw [e13, e12, e11, e10, e9, e8, e7, e6, e5, e4, e3, e2, e1]
        simp [up2]
      rw [e]
      show T 1 0 = ahM S 200 i
      rw [ahM_0]
      exact hR.min
    · have e : O13 2 = fun _ => T 2 0 := by
        rw [e13, e12, e11, e10, e9, e8, e7, e6, e5, e4, e3, e2]
        simp [up2]
      rw [e]
      show T 2 0 = ahM S 201 i
      rw [ahM_1]
      exact hR.turn
    · have e : O13 3 = fun _ => T 3 0 := by
        rw [e13, e12, e11, e10, e9, e8, e7, e6, e5, e4, e3]
        simp [up2]
      rw [e]
      show T 3 0 = ahM S 212 i
      rw [ahM_2, hR.weak, h212]
/-! what is told of boats, air and caps -/
theorem m_tally {P U F M : M2} {kb np nl nb ns no : Nat} (hX : PRX P U kb np nl nb ns no) (hR : RE np nl nb F M) {z : Int32} {w : Nat} (h8 : 8 ≤ w) (hw : w ≤ 12) {K : Int32 → Prop} (h : K (coV U M np nl nb z w)) : wp_X4_tally P F (nI w) K := by
  have hn := hX.1
  have hc : w = 8 ∨ w = 9 ∨ w = 10 ∨ w = 11 ∨ w = 12 := by omega
  rcases hc with rfl | rfl | rfl | rfl | rfl
  · refine ⟨fun _ => ⟨fun _ => ?_, fun e => absurd e (by decide)⟩, fun e => absurd e (by decide)⟩
    rw [show (nI 8 - 8 : Int32) = 0 from by decide]
    exact m_those hn hR h
  · refine ⟨fun _ => ⟨fun _ => ?_, fun e => absurd e (by decide)⟩, fun e => absurd e (by decide)⟩
    rw [show (nI 9 - 8 : Int32) = 1 from by decide]
    exact m_those hn hR h
  · refine ⟨fun _ => ⟨fun _ => ?_, fun e => absurd e (by decide)⟩, fun e => absurd e (by decide)⟩
    rw [show (nI 10 - 8 : Int32) = 2 from by decide]
    exact m_those hn hR h
  · exact ⟨fun e => absurd rfl e, fun _ => m_allAir hn hR h⟩
  · exact ⟨fun _ => ⟨fun e => absurd rfl e, fun _ => m_capsLie hn hR h⟩, fun e => absurd e (by decide)⟩
theorem n_counted {P U N S M : M2} {kb np nl nb ns no : Nat} (hX : PRX P U kb np nl nb ns no) (hq : QE S M) {z : Int32} {w : Nat} (h8 : 8 ≤ w) (hw : w ≤ 12) {K : Int32 → Prop} (h : K (coV U M np nl nb z w)) : wp_X7_counted N U S (nI w) K := by
  have hn := hX.1
  have hc : w = 8 ∨ w = 9 ∨ w = 10 ∨ w = 11 ∨ w = 12 := by omega
  rcases hc with rfl | rfl | rfl | rfl | rfl
  · exact ⟨fun _ => n_those hn hq h, fun e => absurd e (by decide), fun e => absurd e (by decide), fun e => absurd e (by decide), fun z0 z1 z2 z3 => absurd rfl z0⟩
  · exact ⟨fun e => absurd e (by decide), fun _ => n_those hn hq h, fun e => absurd e (by decide), fun e => absurd e (by decide), fun z0 z1 z2 z3 => absurd rfl z1⟩
  · exact ⟨fun e => absurd e (by decide), fun e => absurd e (by decide), fun _ => n_those hn hq h, fun e => absurd e (by decide), fun z0 z1 z2 z3 => absurd rfl z2⟩
  · exact ⟨fun e => absurd e (by decide), fun e => absurd e (by decide), fun e => absurd e (by decide), fun _ => n_allAir hn hq h, fun z0 z1 z2 z3 => absurd rfl z3⟩
  · refine ⟨fun e => absurd e (by decide), fun e => absurd e (by decide), fun e => absurd e (by decide), fun e => absurd e (by decide), fun _ _ _ _ => n_capsAt hn hq ?_⟩
    rw [hn.nl2]
    exact h
theorem m_out {P U F M : M2} {kb np nl nb ns no : Nat} (hX : PRX P U kb np nl nb ns no) (hR : RE np nl nb F M) {K : Int32 → Prop} (h : K (mThose M nb 2)) : wp_X4_tally P F 10 K := m_tally (z := 0) (w := 10) hX hR (by decide) (by decide) h
theorem cfr_n {p : Nat → Prop} [DecidablePred p] : ∀ (d j a : Nat), ∃ c, c ≤ a + d ∧ cfr p d j (nI a) = nI c
  | 0, _, a => ⟨a, by omega, rfl⟩
  | d + 1, j, a => by
    unfold cfr
    by_cases h : p j
    · rw [if_pos h, nI_1]
      obtain ⟨c, h1, h2⟩ := cfr_n (p := p) d (j + 1) (a + 1)
      exact ⟨c, by omega, h2⟩
    · rw [if_neg h]
      obtain ⟨c, h1, h2⟩ := cfr_n (p := p) d (j + 1) a
      exact ⟨c, by omega, h2⟩
theorem those_n {M : M2} {nb : Nat} {k : Int32} : ∃ c, c ≤ nb ∧ mThose M nb k = nI c := by
  obtain ⟨c, h1, h2⟩ := cfr_n (p := pIs (M 206) k) nb 0 0
  exact ⟨c, by omega, h2⟩
theorem RE.ext {np nl nb : Nat} {F M M' : M2} (h : RE np nl nb F M) (e : ∀ k, 200 ≤ k → k ≤ 212 → ∀ i, M k i = M' k i) : RE np nl nb F M' := by
  intro k k1 k2 i hi
  rw [h k k1 k2 i hi]
  have key : ∀ a : Fin 14, 1 ≤ a.val → 200 ≤ km a.val ∧ km a.val ≤ 212 := by decide
  obtain ⟨a, b⟩ := key ⟨k, by omega⟩ k1
  exact e _ a b i
theorem mi_cases (y : Int32) : (∃ n, 1 ≤ n ∧ n ≤ 120 ∧ y = nI n) ∨ (y < 1 ∨ ¬ y ≤ 120) := by
  by_cases h1 : y < 1
  · exact Or.inr (Or.inl h1)
  · by_cases h2 : y ≤ 120
    · rw [show (1 : Int32) = nI 1 from rfl, Int32.lt_iff_toInt_lt, nI_toInt (by omega)] at h1
      rw [show (120 : Int32) = nI 120 from rfl, Int32.le_iff_toInt_le, nI_toInt (by omega)] at h2
      obtain ⟨b, hb, e⟩ := inb_of (x := y) (n := 121) ⟨by omega, by omega⟩ (by omega)
      subst e
      rw [nI_toInt (by omega)] at h1
      exact Or.inl ⟨b, by omega, by omega, rfl⟩
    · exact Or.inr (Or.inr h2)
theorem mi_in {n : Nat} (h1 : 1 ≤ n) (h2 : n ≤ 120) : ¬ nI n < 1 ∧ nI n ≤ 120 := by
  rw [show (1 : Int32) = nI 1 from rfl, show (120 : Int32) = nI 120 from rfl, lt_nI (by omega) (by omega), le_nI (by omega) (by omega)]
  omega
theorem mis1 {n : Nat} (h1 : 1 ≤ n) (h2 : n ≤ 120) {K : Int32 → Prop} (h : K 1) : wp_X8_isIn (nI n) 1 120 K := isin1 (mi_in h1 h2).1 (Int32.not_lt.mpr (mi_in h1 h2).2) h
theorem mis0 {y : Int32} (h1 : y < 1 ∨ ¬ y ≤ 120) {K : Int32 → Prop} (h : K 0) : wp_X8_isIn y 1 120 K := isin0 (h1.elim Or.inl (fun z => Or.inr (Int32.not_le.mp z))) h
variable {q : Nat → Nat} {ap bp rp : Nat} {C T G P Y : M2} {L : L2} {B : M2} {X : L2} {S O N V J U : M2} {y1 y2 y3 y4 y5 : Int32}
theorem po_pass (h : IVL C T P Y L B S N V U) : wp_op_pass q ap bp rp C T G P Y L B X S O N V J U y1 KIV := by
  obtain ⟨kb, np, nl, nb, ns, no, n, hX, hR, hI, hW, hT, h92, h212⟩ := id h
  have hn := hX.1
  have h60 := hn.np3
  have h6 := hn.nl3
  have h8 := hn.nb3
  obtain ⟨Tt, hPT⟩ := hX.2.2.2.2.2
  unfold wp_op_pass wp_L_pass
  rcases mi_cases y1 with ⟨d, hd1, hd2, rfl⟩ | h1
  · have hb := mi_in hd1 hd2
    refine ⟨fun _ _ => m_out hX hR (m_run (by omega) hn hPT hR hI (fun T1 hR1 => m_out hX hR1 ⟨by decide, fun X1 e2 => ?_⟩)), fun z => absurd z (fun z => z.elim hb.1 (fun y => y hb.2))⟩
    subst e2
    intro N1 e3
    have e3 : N1 = zN N := e3
    subst e3
    refine mis1 hd1 hd2 ⟨fun _ => n_those hn (qS S) (n_run (by omega) hn hPT (qS S) hI (fun S1 hS1 => n_those hn hS1 ?_)), fun z => absurd z (by decide)⟩
    refine cmp_v zN_0 rfl ?_
    exact IVL.act hX (hR1.qe hS1) ((INV.run hn d S hI).qe hS1) hW hT.toN (by rw [zN_n (by decide)]; exact h92) (by rw [hS1.s212, k212R]; exact h212)
  · refine ⟨fun a1 a2 => absurd h1 (fun z => z.elim a1 (fun y => y a2)), fun _ => ⟨rfl, ?_⟩⟩
    intro N1 e3
    have e3 : N1 = zN N := e3
    subst e3
    exact mis0 h1 ⟨fun z => absurd rfl z, fun _ => no_go (cmp_x (by decide) zT_0 h.toT)⟩
theorem again_rel {Q : M2} {kb np nl nb ns no i : Nat} {x : Int32} (hX : PRX P Q kb np nl nb ns no) (hR : RE np nl nb T S) (hI : INV Q S np nl nb nb) (hi : i < nb) (h2 : S 206 i = 2) (s : Int32) (hs : s = 0 ∨ s = 1) :
    RE np nl nb (st2 (st2 (st2 (st2 (st2 (st2 T 8 i s) 9 i x) 10 i 0) 11 i (-1)) 12 i 0) 13 i (-1)) (st2 (st2 (st2 (st2 S 206 i 0) 207 i s) 208 i x) 211 i (-1)) ∧ INV Q (st2 (st2 (st2 (st2 S 206 i 0) 207 i s) 208 i x) 211 i (-1)) np nl nb nb := by
  have hoff : isOff S i := (hI.2.2.1 i hi).resolve_left (fun z => absurd (z.1.symm.trans h2) (by decide))
  have g : ∀ k, k ≠ 206 → k ≠ 207 → k ≠ 208 → k ≠ 211 → (st2 (st2 (st2 (st2 S 206 i 0) 207 i s) 208 i x) 211 i (-1)) k = S k := fun k a b c d => by rw [st2_n _ _ _ d, st2_n _ _ _ c, st2_n _ _ _ b, st2_n _ _ _ a]
  have g206 : ∀ j, (st2 (st2 (st2 (st2 S 206 i 0) 207 i s) 208 i x) 211 i (-1)) 206 j = if j = i then 0 else S 206 j := fun j => by rw [st2_n _ _ _ (by decide), st2_n _ _ _ (by decide), st2_n _ _ _ (by decide), st2_k]
  have g207 : ∀ j, (st2 (st2 (st2 (st2 S 206 i 0) 207 i s) 208 i x) 211 i (-1)) 207 j = if j = i then s else S 207 j := fun j => by rw [st2_n _ _ _ (by decide), st2_n _ _ _ (by decide), st2_k, st2_n _ _ _ (by decide)]
  refine ⟨?_, ?_, ?_, ?_, ?_, ?_, ?_⟩
  · have r := ((((((hR.put (k := 8) (by decide) (by decide) i (rfl : s = s)).put (k := 9) (by decide) (by decide) i (rfl : x = x)).put (k := 10) (by decide) (by decide) i (rfl : (0 : Int32) = 0)).put (k := 11) (by decide) (by decide) i (rfl : (-1 : Int32) = -1)).put (k := 12) (by decide) (by decide) i (rfl : (0 : Int32) = 0)).put (k := 13) (by decide) (by decide) i (rfl : (-1 : Int32) = -1))
    refine r.ext (fun k _ _ j => ?_)
    show (st2 (st2 (st2 (st2 (st2 (st2 S 207 i s) 208 i x) 206 i 0) 209 i (-1)) 210 i 0) 211 i (-1)) k j = _
    obtain ⟨_, e1, e2⟩ := hoff
    by_cases a : k = 211
    · subst a
      rw [st2_k, st2_k, st2_n _ _ _ (by decide : (211 : Nat) ≠ 210), st2_n _ _ _ (by decide : (211 : Nat) ≠ 209), st2_n _ _ _ (by decide : (211 : Nat) ≠ 206), st2_n _ _ _ (by decide : (211 : Nat) ≠ 208), st2_n _ _ _ (by decide : (211 : Nat) ≠ 207), st2_n _ _ _ (by decide : (211 : Nat) ≠ 208), st2_n _ _ _ (by decide : (211 : Nat) ≠ 207), st2_n _ _ _ (by decide : (211 : Nat) ≠ 206)]
    · rw [st2_n _ _ _ a, st2_n _ _ _ a]
      by_cases b : k = 210
      · subst b
        rw [st2_k, st2_n _ _ _ (by decide : (210 : Nat) ≠ 209), st2_n _ _ _ (by decide : (210 : Nat) ≠ 206), st2_n _ _ _ (by decide : (210 : Nat) ≠ 208), st2_n _ _ _ (by decide : (210 : Nat) ≠ 207), st2_n _ _ _ (by decide : (210 : Nat) ≠ 208), st2_n _ _ _ (by decide : (210 : Nat) ≠ 207), st2_n _ _ _ (by decide : (210 : Nat) ≠ 206)]
        by_cases c : j = i
        · rw [if_pos c, c, e2]
        · rw [if_neg c]
      · rw [st2_n _ _ _ b]
        by_cases c : k = 209
        · subst c
          rw [st2_k, st2_n _ _ _ (by decide : (209 : Nat) ≠ 206), st2_n _ _ _ (by decide : (209 : Nat) ≠ 208), st2_n _ _ _ (by decide : (209 : Nat) ≠ 207), st2_n _ _ _ (by decide : (209 : Nat) ≠ 208), st2_n _ _ _ (by decide : (209 : Nat) ≠ 207), st2_n _ _ _ (by decide : (209 : Nat) ≠ 206)]
          by_cases c : j = i
          · rw [if_pos c, c, e1]
          · rw [if_neg c]
        · rw [st2_n _ _ _ c]
          by_cases d : k = 208
          · subst d
            rw [st2_n _ _ _ (by decide : (208 : Nat) ≠ 206), st2_k, st2_k, st2_n _ _ _ (by decide : (208 : Nat) ≠ 207), st2_n _ _ _ (by decide : (208 : Nat) ≠ 207), st2_n _ _ _ (by decide : (208 : Nat) ≠ 206)]
          · by_cases f : k = 207
            · subst f
              rw [st2_n _ _ _ (by decide : (207 : Nat) ≠ 206), st2_n _ _ _ (by decide : (207 : Nat) ≠ 208), st2_n _ _ _ (by decide : (207 : Nat) ≠ 208), st2_k, st2_k, st2_n _ _ _ (by decide : (207 : Nat) ≠ 206)]
            · by_cases f2 : k = 206
              · subst f2
                rw [st2_k, st2_n _ _ _ (by decide : (206 : Nat) ≠ 208), st2_n _ _ _ (by decide : (206 : Nat) ≠ 207), st2_n _ _ _ (by decide : (206 : Nat) ≠ 208), st2_n _ _ _ (by decide : (206 : Nat) ≠ 207), st2_k]
              · rw [st2_n _ _ _ f2, st2_n _ _ _ d, st2_n _ _ _ f, st2_n _ _ _ d, st2_n _ _ _ f, st2_n _ _ _ f2]
  · unfold IA
    rw [g 202 (by decide) (by decide) (by decide) (by decide)]
    exact hI.1
  · unfold IW
    rw [g 205 (by decide) (by decide) (by decide) (by decide)]
    exact hI.2.1
  · intro b hb
    have := hI.2.2.1 b hb
    unfold isIn isOff at *
    rw [g206, g 209 (by decide) (by decide) (by decide) (by decide), g 210 (by decide) (by decide) (by decide) (by decide)]
    by_cases c : b = i
    · subst c
      rw [if_pos rfl]
      exact Or.inr ⟨by decide, hoff.2⟩
    · rw [if_neg c]
      exact this
  · intro b c hb hc hbc h1 h3
    rw [g206] at h1 h3
    rw [g 209 (by decide) (by decide) (by decide) (by decide)]
    by_cases c1 : b = i
    · rw [if_pos c1] at h1; exact absurd h1 (by decide)
    · by_cases c2 : c = i
      · rw [if_pos c2] at h3; exact absurd h3 (by decide)
      · rw [if_neg c1] at h1
        rw [if_neg c2] at h3
        exact hI.2.2.2.1 b c hb hc hbc h1 h3
  · intro b c hb hc hbc h1 h3
    rw [g206] at h1 h3
    by_cases c1 : b = i
    · rw [if_pos c1] at h1; exact absurd h1 (by decide)
    · by_cases c2 : c = i
      · rw [if_pos c2] at h3; exact absurd h3 (by decide)
      · rw [if_neg c1] at h1
        rw [if_neg c2] at h3
        exact hI.2.2.2.2.1 b c hb hc hbc h1 h3
  · intro b hb
    rw [g207]
    by_cases c1 : b = i
    · rw [if_pos c1]; exact hs
    · rw [if_neg c1]; exact hI.2.2.2.2.2 b hb
theorem po_again (h : IVL C T P Y L B S N V U) : wp_op_again q ap bp rp C T G P Y L B X S O N V J U y1 y2 KIV := by
  obtain ⟨kb, np, nl, nb, ns, no, n, hX, hR, hI, hW, hT, h92, h212⟩ := id h
  have hn := hX.1
  have h60 := hn.np3
  have h6 := hn.nl3
  have h8 := hn.nb3
  obtain ⟨Tt, hPT⟩ := hX.2.2.2.2.2
  unfold wp_op_again wp_L_again
  rcases ix_cases nb (by omega) y1 with ⟨i, hi, rfl⟩ | h1
  · have hb : ¬ nI i < 0 ∧ nI i < P 24 0 := by rw [hn.nb1]; exact ix_in (by omega) hi
    have inB : inb (nI i) 8 := inb_nI (by omega) (by decide)
    have tn : (nI i).toInt.toNat = i := tn_nI (by omega)
    have bad1 : ∀ (c : y2 < 0 ∨ ¬ y2 ≤ 9999), wp_X8_again U S N (nI i) y2 (fun r_963 S_963 N_963 => wp_X8_thrown U S_963 N_963 (fun r_969 => cmpP (KIV ap bp rp C T G P Y L B X S_963 O N_963 V J U) 2 r_969 (X 500 (0 : Int32).toInt.toNat) r_963)) := by
      intro c
      intro N1 e3
      have e3 : N1 = zN N := e3
      subst e3
      unfold wp_X8_isBoat
      rw [hn.nb2]
      exact isx1 (by omega) hi ⟨by decide, fun _ => isin0 (c.elim Or.inl (fun z => Or.inr (Int32.not_le.mp z))) ⟨fun z => absurd rfl z, fun _ => no_go (cmp_x (by decide) zT_0 h.toT)⟩, fun z => absurd z (by decide)⟩
    refine ⟨fun _ _ => ⟨fun c => Or.inr (Or.inl ⟨rfl, bad1 (Or.inl c)⟩), fun c1 => ⟨fun c2 => ⟨fun c3 => ?_, fun c3 => Or.inr (Or.inr ⟨rfl, ?_⟩)⟩, fun c => Or.inr (Or.inl ⟨rfl, bad1 (Or.inr c)⟩)⟩⟩, fun z => absurd z (fun z => z.elim hb.1 (fun y => y hb.2))⟩
    · rw [atv_nI (by omega) (by decide), hR.how hi] at c3
      have key : ∀ s : Int32, (s = 0 ∨ s = 1) → 1 - S 207 i = s → ∀ F21 : M2, F21 = st2 T 8 i s → wp_X4_putToWait P F21 (nI i) y2 (fun F_27 => (fun F_66 => (fun r_5 T_5 C_5 => (inb 0 1 ∧ ∀ X_9 : L2, X_9 = ul2 X 500 (vp_updL (X 500) (0 : Int32).toInt.toNat r_5.toInt64) → (fun r_945 ap_945 bp_945 rp_945 C_945 T_945 G_945 P_945 Y_945 L_945 B_945 X_945 => wp_X8_again U S N (nI i) y2 (fun r_963 S_963 N_963 => wp_X8_thrown U S_963 N_963 (fun r_969 => cmpP (KIV ap_945 bp_945 rp_945 C_945 T_945 G_945 P_945 Y_945 L_945 B_945 X_945 S_963 O N_963 V J U) r_945 r_969 (X_945 500 (0 : Int32).toInt.toNat) r_963))) 0 ap bp rp C_5 T_5 G P Y L B X_9)) (atv (F_66 8) 8 (nI i)) F_66 C) F_27) := by
        intro s hs hs2 F21 e21 F1 e1 F2 e2 F3 e3 F4 e4 F5 e5
        rw [put8 (by omega)] at e1 e2 e3 e4 e5
        subst e21 e1 e2 e3 e4 e5
        refine ⟨by decide, fun X1 ex => ?_⟩
        subst ex
        intro N1 e3
        have e3 : N1 = zN N := e3
        subst e3
        unfold wp_X8_isBoat
        rw [hn.nb2]
        refine isx1 (by omega) hi ⟨by decide, fun _ => isin1 c1 (Int32.not_lt.mpr c2) ⟨fun _ => ⟨inB, fun _ => ⟨inB, fun S1 e1 => ⟨inB, inB, fun S2 e2 => ⟨inB, fun S3 e3 => ⟨inB, fun S4 e4 => ⟨inB, ?_⟩⟩⟩⟩⟩, fun z => absurd (by rw [tn]; exact c3) z⟩, fun z => absurd z (by decide)⟩, fun z => absurd z (by decide)⟩
        rw [tn] at e1 e2 e3 e4 ⊢
        have e1 : S1 = st2 S 206 i 0 := e1
        have f207 : S1 207 = S 207 := by rw [e1]; exact st2_n _ _ _ (by decide)
        have e2 : S2 = st2 S1 207 i s := by rw [e2, f207, hs2, ← f207]; rfl
        have e3 : S3 = st2 S2 208 i y2 := e3
        have e4 : S4 = st2 S3 211 i (-1) := e4
        subst e1 e2 e3 e4
        obtain ⟨hR1, hI1⟩ := again_rel (x := y2) hX hR hI hi c3 s hs
        refine cmp_v zN_0 ?_ ?_
        · rw [atv_nI (by omega) (by decide), st2_n _ _ _ (by decide), st2_n _ _ _ (by decide), st2_n _ _ _ (by decide), st2_n _ _ _ (by decide), st2_n _ _ _ (by decide), st2_s, st2_n _ _ _ (by decide), st2_n _ _ _ (by decide), st2_s]
        · exact IVL.act hX hR1 hI1 hW hT.toN (by rw [zN_n (by decide)]; exact h92) (by rw [st2_n _ _ _ (by decide), st2_n _ _ _ (by decide), st2_n _ _ _ (by decide), st2_n _ _ _ (by decide)]; exact h212)
      have hS := hI.2.2.2.2.2 i hi
      refine ⟨fun c F21 e21 => ?_, fun c F21 e21 => ?_⟩
      · rw [atv_nI (by omega) (by decide), hR.side hi] at c
        rw [put8 (by omega)] at e21
        have e := hS.resolve_left c
        exact key 0 (Or.inl rfl) (by rw [e]; decide) F21 e21
      · rw [atv_nI (by omega) (by decide), hR.side hi] at c
        rw [put8 (by omega)] at e21
        exact key 1 (Or.inr rfl) (by rw [c]; decide) F21 e21
    · rw [atv_nI (by omega) (by decide), hR.how hi] at c3
      intro N1 e3
      have e3 : N1 = zN N := e3
      subst e3
      unfold wp_X8_isBoat
      rw [hn.nb2]
      exact isx1 (by omega) hi ⟨by decide, fun _ => isin1 c1 (Int32.not_lt.mpr c2) ⟨fun _ => ⟨inB, fun z => absurd z (by rw [tn]; exact c3), fun _ => no_go (cmp_x (by decide) zT_0 h.toT)⟩, fun z => absurd z (by decide)⟩, fun z => absurd z (by decide)⟩
  · refine ⟨fun a1 a2 => absurd h1 (fun z => z.elim a1 (fun y => y (by rw [← hn.nb1]; exact a2))), fun _ => Or.inl ⟨rfl, ?_⟩⟩
    intro N1 e3
    have e3 : N1 = zN N := e3
    subst e3
    unfold wp_X8_isBoat
    rw [hn.nb2]
    exact isx0 (by omega) h1 ⟨by decide, fun z => absurd rfl z, fun _ => no_go (cmp_x (by decide) zT_0 h.toT)⟩
def untV (Tt : Nat → List (Int32 × Int32)) (U : M2) (np nl nb ns no b : Nat) : Nat → Nat → M2 → Int32
  | 0, _, _ => -1
  | d + 1, i, M => if M 206 b = 2 then nI i else untV Tt U np nl nb ns no b d (i + 1) (mMin Tt U M np nl nb ns no)
theorem c_until {Tt : Nat → List (Int32 × Int32)} {kb np nl nb ns no b : Nat} (hX : PRX P U kb np nl nb ns no) (hPT : PT P U Tt nl nb no) (hb : b < nb) {KX : Nat → Prop} {K : Int32 → Nat → M2 → M2 → M2 → Prop} : ∀ (d i f : Nat) (G M : M2), i + d = 301 → d < f → RE np nl nb G M → INV U M np nl nb nb → (∀ G', K (untV Tt U np nl nb ns no b d i M) (q 20) T G' C) → wl_X5_until_27 q P KX K f T G C (nI b) (nI i) := by
  have hn := hX.1
  have h8 := hn.nb3
  have e300 : (300 : Int32) = nI 300 := rfl
  intro d
  induction d with
  | zero =>
    intro i f G M hi hf hR hI hK
    obtain ⟨f, rfl, _⟩ := fuel hf
    exact ⟨fun _ => hK G, fun z => absurd (by rw [e300, lt_nI (by omega) (by omega)]; omega) z⟩
  | succ d ih =>
    intro i f G M hi hf hR hI hK
    obtain ⟨f, rfl, _⟩ := fuel (show 0 < f by omega)
    refine ⟨fun z => absurd z (by rw [e300, lt_nI (by omega) (by omega)]; omega), fun _ => ?_⟩
    rw [atv_nI (by omega) (by decide), hR.how hb]
    unfold untV at hK
    refine ⟨fun c => m_run (n := 1) (by decide) hn hPT hR hI (fun G1 hR1 v ev => ?_), fun c => ?_⟩
    · rw [nI_1] at ev
      subst ev
      rw [if_neg c] at hK
      exact ih (i + 1) f G1 _ (by omega) (by omega) hR1 (INV.run hn 1 M hI) hK
    · rw [if_pos c] at hK
      exact hK G
theorem r_until {Tt : Nat → List (Int32 × Int32)} {kb np nl nb ns no b : Nat} (hX : PRX P U kb np nl nb ns no) (hPT : PT P U Tt nl nb no) (hb : b < nb) {K : Int32 → M2 → M2 → M2 → Prop} : ∀ (d i f : Nat) (O M : M2), i + d = 301 → d < f → QE O M → INV U M np nl nb nb → (∀ O', K (untV Tt U np nl nb ns no b d i M) S O' N) → wl_X8_until_33 U K f S O N (nI b) (nI i) := by
  have hn := hX.1
  have h8 := hn.nb3
  have e300 : (300 : Int32) = nI 300 := rfl
  intro d
  induction d with
  | zero =>
    intro i f O M hi hf hq hI hK
    obtain ⟨f, rfl, _⟩ := fuel hf
    exact ⟨fun _ => ⟨fun z => absurd z (by rw [e300, le_nI (by omega) (by omega)]; omega), fun _ => hK O⟩, fun z => absurd (by rw [e300, lt_nI (by omega) (by omega)]; omega) z⟩
  | succ d ih =>
    intro i f O M hi hf hq hI hK
    obtain ⟨f, rfl, _⟩ := fuel (show 0 < f by omega)
    refine ⟨fun z => absurd z (by rw [e300, lt_nI (by omega) (by omega)]; omega), fun _ => ⟨inb_nI (by omega) (by decide), ?_⟩⟩
    rw [tn_nI (by omega), hq 206 (by decide) (by decide)]
    unfold untV at hK
    refine ⟨fun c => ⟨fun _ => ?_, fun z => absurd (by rw [e300, le_nI (by omega) (by omega)]; omega) z⟩, fun c => n_min hn hPT hq hI (fun O1 hq1 v ev => ?_)⟩
    · rw [if_pos c] at hK
      exact hK O
    · rw [nI_1] at ev
      subst ev
      rw [if_neg c] at hK
      exact ih (i + 1) f O1 _ (by omega) (by omega) hq1 (hI.minu hn) hK
theorem po_until (h : IVL C T P Y L B S N V U) : wp_op_until q ap bp rp C T G P Y L B X S O N V J U y1 KIV := by
  obtain ⟨kb, np, nl, nb, ns, no, n, hX, hR, hI, hW, hT, h92, h212⟩ := id h
  have hn := hX.1
  have h60 := hn.np3
  have h6 := hn.nl3
  have h8 := hn.nb3
  obtain ⟨Tt, hPT⟩ := hX.2.2.2.2.2
  unfold wp_op_until wp_L_until
  rcases ix_cases nb (by omega) y1 with ⟨i, hi, rfl⟩ | h1
  · have hb : ¬ nI i < 0 ∧ nI i < P 24 0 := by rw [hn.nb1]; exact ix_in (by omega) hi
    refine ⟨fun _ _ => c_copy hR h212 (fun G1 hG1 => ⟨rfl, c_until hX hPT hi 301 0 fK G1 (ahM S) (by decide) (by rw [fK_eq]; decide) hG1 (ahM_inv hI) (fun G2 => ⟨by decide, fun X1 e2 => ?_⟩)⟩), fun z => absurd z (fun z => z.elim hb.1 (fun y => y hb.2))⟩
    subst e2
    intro N1 e3
    have e3 : N1 = zN N := e3
    subst e3
    unfold wp_X8_isBoat
    rw [hn.nb2]
    refine isx1 (by omega) hi ⟨by decide, fun _ => r_become (fun O1 hq1 => r_until hX hPT hi 301 0 fK O1 (ahM S) (by decide) (by rw [fK_eq]; decide) hq1 (ahM_inv hI) (fun O2 => ?_)), fun z => absurd z (by decide)⟩
    exact cmp_v zN_0 rfl h.toN
  · refine ⟨fun a1 a2 => absurd h1 (fun z => z.elim a1 (fun y => y (by rw [← hn.nb1]; exact a2))), fun _ => ⟨rfl, ?_⟩⟩
    intro N1 e3
    have e3 : N1 = zN N := e3
    subst e3
    unfold wp_X8_isBoat
    rw [hn.nb2]
    exact isx0 (by omega) h1 ⟨by decide, fun z => absurd rfl z, fun _ => no_go (cmp_x (by decide) zT_0 h.toT)⟩
theorem po_foresee (h : IVL C T P Y L B S N V U) : wp_op_foresee q ap bp rp C T G P Y L B X S O N V J U y1 y2 KIV := by
  obtain ⟨kb, np, nl, nb, ns, no, n, hX, hR, hI, hW, hT, h92, h212⟩ := id h
  have hn := hX.1
  have h60 := hn.np3
  have h6 := hn.nl3
  have h8 := hn.nb3
  obtain ⟨Tt, hPT⟩ := hX.2.2.2.2.2
  unfold wp_op_foresee wp_L_foresee
  rcases mi_cases y1 with ⟨d, hd1, hd2, rfl⟩ | h1
  · have hb := mi_in hd1 hd2
    have bad : ∀ (c : y2 < 8 ∨ 12 < y2), wp_X8_foresee U S O N (nI d) y2 (fun r_1133 S_1133 O_1133 N_1133 => wp_X8_thrown U S_1133 N_1133 (fun r_969 => cmpP (KIV ap bp rp C T G P Y L B X S_1133 O_1133 N_1133 V J U) 2 r_969 (X 500 (0 : Int32).toInt.toNat) r_1133)) := by
      intro c
      intro N1 e3
      have e3 : N1 = zN N := e3
      subst e3
      exact mis1 hd1 hd2 ⟨fun _ => isin0 c ⟨fun _ => no_go (cmp_x (by decide) zT_0 h.toT), fun z => absurd rfl z⟩, fun z => absurd z (by decide)⟩
    refine ⟨fun _ _ => ⟨fun c => Or.inr ⟨rfl, bad (Or.inl c)⟩, fun c1 => ⟨fun c2 => ?_, fun c2 => Or.inr ⟨rfl, bad (Or.inr (Int32.not_le.mp c2))⟩⟩⟩, fun z => absurd z (fun z => z.elim hb.1 (fun y => y hb.2))⟩
    obtain ⟨w, hw1, hw2, ew⟩ : ∃ w, 8 ≤ w ∧ w ≤ 12 ∧ y2 = nI w := by
      rw [show (8 : Int32) = nI 8 from rfl, Int32.lt_iff_toInt_lt, nI_toInt (by omega)] at c1
      rw [show (12 : Int32) = nI 12 from rfl, Int32.le_iff_toInt_le, nI_toInt (by omega)] at c2
      obtain ⟨w, hw, e⟩ := inb_of (x := y2) (n := 13) ⟨by omega, by omega⟩ (by omega)
      subst e
      rw [nI_toInt (by omega)] at c1
      exact ⟨w, by omega, by omega, rfl⟩
    subst ew
    refine c_copy hR h212 (fun G1 hG1 => ⟨rfl, m_run (by omega) hn hPT hG1 (ahM_inv hI) (fun G2 hG2 => m_tally (z := 0) hX hG2 hw1 hw2 ⟨by decide, fun X1 e2 => ?_⟩)⟩)
    subst e2
    intro N1 e3
    have e3 : N1 = zN N := e3
    subst e3
    refine mis1 hd1 hd2 ⟨fun _ => isin1 c1 (Int32.not_lt.mpr c2) ⟨fun z => absurd z (by decide), fun _ => r_become (fun O1 hq1 => n_run (by omega) hn hPT hq1 (ahM_inv hI) (fun O2 hq2 => n_counted (z := 0) hX hq2 hw1 hw2 ?_))⟩, fun z => absurd z (by decide)⟩
    exact cmp_v zN_0 rfl h.toN
  · refine ⟨fun a1 a2 => absurd h1 (fun z => z.elim a1 (fun y => y a2)), fun _ => Or.inl ⟨rfl, ?_⟩⟩
    intro N1 e3
    have e3 : N1 = zN N := e3
    subst e3
    exact mis0 h1 ⟨fun z => absurd rfl z, fun _ => no_go (cmp_x (by decide) zT_0 h.toT)⟩
theorem po_advise (h : IVL C T P Y L B S N V U) : wp_op_advise q ap bp rp C T G P Y L B X S O N V J U y1 KIV := by
  obtain ⟨kb, np, nl, nb, ns, no, n, hX, hR, hI, hW, hT, h92, h212⟩ := id h
  have hn := hX.1
  have h60 := hn.np3
  have h6 := hn.nl3
  have h8 := hn.nb3
  obtain ⟨Tt, hPT⟩ := hX.2.2.2.2.2
  unfold wp_op_advise wp_L_advise
  rcases mi_cases y1 with ⟨d, hd1, hd2, rfl⟩ | h1
  · have hb := mi_in hd1 hd2
    have hI0 : ∀ x : Int32, INV U (up2 (ahM S) 201 (fun _ => x)) np nl nb nb := fun x => (ahM_inv hI).off (by decide) (by decide) (by decide) (by decide) (by decide) (by decide)
    obtain ⟨w0, ew0⟩ : ∃ w, w = mThose (mRun Tt U np nl nb ns no d (up2 (ahM S) 201 (fun _ => 0))) nb 2 := ⟨_, rfl⟩
    obtain ⟨w1, ew1⟩ : ∃ w, w = mThose (mRun Tt U np nl nb ns no d (up2 (ahM S) 201 (fun _ => 1))) nb 2 := ⟨_, rfl⟩
    obtain ⟨c0, hc0, ec0⟩ := those_n (M := mRun Tt U np nl nb ns no d (up2 (ahM S) 201 (fun _ => 0))) (nb := nb) (k := 2)
    rw [← ew0] at ec0
    have ref : ∀ (G2 : M2) (ap2 : Nat) (v : Int32), v = (if w1 ≤ w0 then 0 else 1) → (inb 0 1 ∧ ∀ X_8 : L2, X_8 = ul2 X 500 (vp_updL (X 500) (0 : Int32).toInt.toNat v.toInt64) → (fun r_4 ap_4 bp_4 rp_4 C_4 T_4 G_4 P_4 Y_4 L_4 B_4 X_4 => wp_X8_advise U S O N (nI d) (fun r_1 S_1 O_1 N_1 => wp_X8_thrown U S_1 N_1 (fun r_9 => cmpP (KIV ap_4 bp_4 rp_4 C_4 T_4 G_4 P_4 Y_4 L_4 B_4 X_4 S_1 O_1 N_1 V J U) r_4 r_9 (X_4 500 (0 : Int32).toInt.toNat) r_1))) 0 ap2 bp rp C T G2 P Y L B X_8) := by
      intro G2 ap2 v hv
      refine ⟨by decide, fun X1 e2 => ?_⟩
      subst e2
      intro N1 e3
      have e3 : N1 = zN N := e3
      subst e3
      refine mis1 hd1 hd2 ⟨fun _ => r_become (fun O1 hq1 O2 e2 => n_run (by omega) hn hPT (M := up2 (ahM S) 201 (fun _ => 0)) (by rw [e2]; exact hq1.num (by decide) (by decide) rfl) (hI0 0) (fun O3 hq3 => n_those hn hq3 (r_become (fun O4 hq4 O5 e5 => n_run (by omega) hn hPT (M := up2 (ahM S) 201 (fun _ => 1)) (by rw [e5]; exact hq4.num (by decide) (by decide) rfl) (hI0 1) (fun O6 hq6 => n_those hn hq6 ?_))))), fun z => absurd z (by decide)⟩
      rw [← ew0, ← ew1]
      refine ⟨fun c => ?_, fun c => ?_⟩
      · rw [if_pos c] at hv
        exact cmp_v zN_0 hv h.toN
      · rw [if_neg c] at hv
        exact cmp_v zN_0 hv h.toN
    refine ⟨fun _ _ => ?_, fun z => absurd z (fun z => z.elim hb.1 (fun y => y hb.2))⟩
    rw [fK_eq]
    refine ⟨fun z => absurd z (by decide), fun _ => c_copy hR h212 (fun G1 hG1 => ⟨rfl, fun G2 e2 => m_run (by omega) hn hPT (M := up2 (ahM S) 201 (fun _ => 0)) (by rw [e2]; exact hG1.num (k := 2) (by decide) (by decide) rfl) (hI0 0) (fun G3 hG3 => m_out hX hG3 ?_)⟩)⟩
    rw [← ew0]
    refine ⟨fun z => absurd z ?_, fun _ v4 e4 => ?_⟩
    · rw [ec0]
      intro z
      rw [Int32.le_iff_toInt_le, nI_toInt (by omega)] at z
      have e : (-1 : Int32).toInt = -1 := by decide
      omega
    have e4 : v4 = 1 := e4.trans (by decide)
    subst e4
    refine ⟨fun z => absurd z (by decide), fun _ => c_copy hR h212 (fun G4 hG4 => ⟨rfl, fun G5 e5 => m_run (by omega) hn hPT (M := up2 (ahM S) 201 (fun _ => 1)) (by rw [e5]; exact hG4.num (k := 2) (by decide) (by decide) rfl) (hI0 1) (fun G6 hG6 => m_out hX hG6 ?_)⟩)⟩
    rw [← ew1]
    refine ⟨fun c v4 e4 => ?_, fun c v4 e4 => ?_⟩
    · have e4 : v4 = 2 := e4.trans (by decide)
      subst e4
      exact ⟨fun _ => ref _ _ _ (by rw [if_pos c]), fun z => absurd (by decide) z⟩
    · have e4 : v4 = 2 := e4.trans (by decide)
      subst e4
      exact ⟨fun _ => ref _ _ _ (by rw [if_neg c]), fun z => absurd (by decide) z⟩
  · refine ⟨fun a1 a2 => absurd h1 (fun z => z.elim a1 (fun y => y a2)), fun _ => ⟨rfl, ?_⟩⟩
    intro N1 e3
    have e3 : N1 = zN N := e3
    subst e3
    exact mis0 h1 ⟨fun z => absurd rfl z, fun _ => no_go (cmp_x (by decide) zT_0 h.toT)⟩
def misV (W : Nat → Int32) : Nat → Nat → Int32 → Int32 → Int32
  | 0, _, b, _ => b
  | d + 1, l, b, f => if W l < f then misV W d (l + 1) (nI l) (W l) else misV W d (l + 1) b f
theorem c_missed {Tt : Nat → List (Int32 × Int32)} {kb np nl nb ns no n : Nat} (hX : PRX P U kb np nl nb ns no) (hPT : PT P U Tt nl nb no) (hR : RE np nl nb T S) (hI : INV U S np nl nb nb) (h212 : S 212 0 = -1) (hn2 : n ≤ 120) {W : Nat → Int32} (hW : ∀ l, W l = mThose (mRun Tt U np nl nb ns no n (up2 (ahM S) 212 (fun _ => nI l))) nb 2) {KX : Nat → Prop} {K : Int32 → Nat → M2 → M2 → M2 → Prop} : ∀ (d l f ap : Nat) (G : M2) (v x xc : Int32), l + d = nl → d < f → ((v = -1 ∧ x = 9) ∨ (¬ v = -1 ∧ xc = x)) → (∀ ap' G', K (misV W d l v x) ap' T G' C) → wl_X5_missed_11 q P KX K f ap T G C (nI n) v xc (nI l) := by
  have hn := hX.1
  have h8 := hn.nb3
  have h6 := hn.nl3
  intro d
  induction d with
  | zero =>
    intro l f ap G v x xc hl hf hv hK
    obtain ⟨f, rfl, _⟩ := fuel hf
    exact ⟨fun _ => hK ap G, fun z => absurd (by rw [hn.nl1, le_nI (by omega) (by omega)]; omega) z⟩
  | succ d ih =>
    intro l f ap G v x xc hl hf hv hK
    obtain ⟨f, rfl, _⟩ := fuel (show 0 < f by omega)
    refine ⟨fun z => absurd z (by rw [hn.nl1, le_nI (by omega) (by omega)]; omega), fun _ => c_copy hR h212 (fun G1 hG1 => ⟨rfl, fun G2 e2 => m_run (by omega) hn hPT (M := up2 (ahM S) 212 (fun _ => nI l)) (by rw [e2]; exact hG1.num (k := 3) (by decide) (by decide) rfl) ((ahM_inv hI).off (by decide) (by decide) (by decide) (by decide) (by decide) (by decide)) (fun G3 hG3 => m_out hX hG3 ?_)⟩)⟩
    rw [← hW l]
    unfold misV at hK
    obtain ⟨c, hc, ec⟩ := those_n (M := mRun Tt U np nl nb ns no n (up2 (ahM S) 212 (fun _ => nI l))) (nb := nb) (k := 2)
    rw [← hW l] at ec
    have hl1 : ¬ nI l = -1 := nI_nm1 (by omega)
    refine ⟨fun c1 v4 e4 => ?_, fun c1 => ⟨fun c2 v4 e4 => ?_, fun c2 v4 e4 => ?_⟩⟩
    · rw [nI_1] at e4
      subst e4
      have hx := (hv.resolve_right (fun z => z.1 c1)).2
      rw [if_pos (by rw [hx, ec, show (9 : Int32) = nI 9 from rfl, lt_nI (by omega) (by omega)]; omega)] at hK
      exact ih (l + 1) f _ G3 (nI l) (W l) (W l) (by omega) (by omega) (Or.inr ⟨hl1, rfl⟩) hK
    · rw [nI_1] at e4
      subst e4
      have hx := (hv.resolve_left (fun z => c1 z.1)).2
      rw [if_neg (by rw [← hx]; exact Int32.not_lt.mpr c2)] at hK
      exact ih (l + 1) f _ G3 v x xc (by omega) (by omega) hv hK
    · rw [nI_1] at e4
      subst e4
      have hx := (hv.resolve_left (fun z => c1 z.1)).2
      rw [if_pos (by rw [← hx]; exact Int32.not_le.mp c2)] at hK
      exact ih (l + 1) f _ G3 (nI l) (W l) (W l) (by omega) (by omega) (Or.inr ⟨hl1, rfl⟩) hK
theorem r_missed {Tt : Nat → List (Int32 × Int32)} {kb np nl nb ns no n : Nat} (hX : PRX P U kb np nl nb ns no) (hPT : PT P U Tt nl nb no) (hI : INV U S np nl nb nb) (hn2 : n ≤ 120) {W : Nat → Int32} (hW : ∀ l, W l = mThose (mRun Tt U np nl nb ns no n (up2 (ahM S) 212 (fun _ => nI l))) nb 2) {K : Int32 → M2 → M2 → M2 → Prop} : ∀ (d l f : Nat) (O : M2) (v x : Int32), l + d = nl → d < f → (∀ O', K (misV W d l v x) S O' N) → wl_X8_missed_29 U K f S O N (nI n) v x (nI l) := by
  have hn := hX.1
  have h6 := hn.nl3
  intro d
  induction d with
  | zero =>
    intro l f O v x hl hf hK
    obtain ⟨f, rfl, _⟩ := fuel hf
    exact ⟨fun _ => hK O, fun z => absurd (by rw [hn.nl2, le_nI (by omega) (by omega)]; omega) z⟩
  | succ d ih =>
    intro l f O v x hl hf hK
    obtain ⟨f, rfl, _⟩ := fuel (show 0 < f by omega)
    refine ⟨fun z => absurd z (by rw [hn.nl2, le_nI (by omega) (by omega)]; omega), fun _ => r_become (fun O1 hq1 O2 e2 => n_run (by omega) hn hPT (M := up2 (ahM S) 212 (fun _ => nI l)) (by rw [e2]; exact hq1.num (by decide) (by decide) rfl) ((ahM_inv hI).off (by decide) (by decide) (by decide) (by decide) (by decide) (by decide)) (fun O3 hq3 => n_those hn hq3 ?_))⟩
    rw [← hW l]
    unfold misV at hK
    refine ⟨fun c v4 e4 => ?_, fun c v4 e4 => ?_⟩
    · rw [nI_1] at e4
      subst e4
      rw [if_pos c] at hK
      exact ih (l + 1) f O3 (nI l) (W l) (by omega) (by omega) hK
    · rw [nI_1] at e4
      subst e4
      rw [if_neg c] at hK
      exact ih (l + 1) f O3 v x (by omega) (by omega) hK
theorem po_missed (h : IVL C T P Y L B S N V U) : wp_op_missed q ap bp rp C T G P Y L B X S O N V J U y1 KIV := by
  obtain ⟨kb, np, nl, nb, ns, no, n, hX, hR, hI, hW, hT, h92, h212⟩ := id h
  have hn := hX.1
  have h60 := hn.np3
  have h6 := hn.nl3
  have h8 := hn.nb3
  obtain ⟨Tt, hPT⟩ := hX.2.2.2.2.2
  unfold wp_op_missed wp_L_missed
  rcases mi_cases y1 with ⟨d, hd1, hd2, rfl⟩ | h1
  · have hb := mi_in hd1 hd2
    refine ⟨fun _ _ => c_missed hX hPT hR hI h212 hd2 (fun _ => rfl) nl 0 fK ap G (-1) 9 0 (by omega) (by rw [fK_eq]; omega) (Or.inl ⟨rfl, rfl⟩) (fun ap2 G2 => ⟨by decide, fun X1 e2 => ?_⟩), fun z => absurd z (fun z => z.elim hb.1 (fun y => y hb.2))⟩
    subst e2
    intro N1 e3
    have e3 : N1 = zN N := e3
    subst e3
    refine mis1 hd1 hd2 ⟨fun _ => r_missed hX hPT hI hd2 (fun _ => rfl) nl 0 fK O (-1) 9 (by omega) (by rw [fK_eq]; omega) (fun O2 => ?_), fun z => absurd z (by decide)⟩
    exact cmp_v zN_0 rfl h.toN
  · refine ⟨fun a1 a2 => absurd h1 (fun z => z.elim a1 (fun y => y a2)), fun _ => ⟨rfl, ?_⟩⟩
    intro N1 e3
    have e3 : N1 = zN N := e3
    subst e3
    exact mis0 h1 ⟨fun z => absurd rfl z, fun _ => no_go (cmp_x (by decide) zT_0 h.toT)⟩
end CALLS2
