/-! ===== the class's calls, by what M is ===== -/
section CLS
variable {q : Nat → Nat} {ap : Nat} {P U T S C G : M2} {kb np nl nb ns no : Nat} {Tt : Nat → List (Int32 × Int32)} {KX : Nat → Prop} {K : Int32 → Nat → M2 → M2 → M2 → Prop} {i : Nat}
theorem pa_in {n i : Nat} {x : Int32} (hx : x = nI n) (hn : n < 1000) (hi : i < n) : ¬ nI i < 0 ∧ nI i < x := by
  rw [hx]
  exact ix_in (by omega) hi
theorem cc_canEnter (hX : PRX P U kb np nl nb ns no) (hPT : PT P U Tt nl nb no) (hR : RE np nl nb T S) (hi : i < nb) (h : ∀ T', RE np nl nb T' S → K (if canP Tt U S np nb no i then 1 else 0) ap T' G C) : wp_X5_canEnter q P KX ap T G C (nI i) K := by
  have hb := pa_in hX.1.nb1 (by have := hX.1.nb3; omega) hi
  refine ⟨fun _ _ => m_goesIn hX.1 hPT hR hi (fun T' hr' => ⟨?_, h T' hr'⟩), fun z => absurd z (fun z => z.elim hb.1 (fun y => y hb.2))⟩
  by_cases c : canP Tt U S np nb no i
  · rw [if_pos c]; decide
  · rw [if_neg c]; decide
theorem cc_whistle (hR : RE np nl nb T S) {w : Nat} (hw : w ≤ 1) (h : ∀ T', RE np nl nb T' (up2 S 201 (fun _ => nI w)) → K (S 201 0) ap T' G C) : wp_X5_whistle q P KX ap T G C (nI w) K := by
  have go : wj_X5_whistle_19 q P KX K ap T G C (nI w) := by
    intro v ev T1 e1
    rw [ev, hR.turn, e1]
    exact h _ (hR.num (k := 2) (by decide) (by decide) rfl)
  match w, hw, go with
  | 0, _, go => exact ⟨fun _ => go, fun z => absurd rfl z⟩
  | 1, _, go => exact ⟨fun z => absurd z (by decide), fun _ => ⟨fun _ => go, fun z => absurd rfl z⟩⟩
theorem cc_cap (hX : PRX P U kb np nl nb ns no) (hR : RE np nl nb T S) (hi : i < nl) (h : ∀ T', RE np nl nb T' (st2 S 204 i (-1)) → K (S 204 i) ap T' G C) : wp_X5_cap q P KX ap T G C (nI i) K := by
  have h6 := hX.1.nl3
  have hb := pa_in hX.1.nl1 (by omega) hi
  refine ⟨fun _ _ v ev T1 e1 => ?_, fun z => absurd z (fun z => z.elim hb.1 (fun y => y hb.2))⟩
  rw [atv_nI (by omega) (by decide), hR.cap hi] at ev
  rw [put6 (by omega)] at e1
  rw [ev, e1]
  exact h _ (hR.put (k := 7) (by decide) (by decide) i rfl)
theorem cc_air (hX : PRX P U kb np nl nb ns no) (hR : RE np nl nb T S) (h : ∀ T', RE np nl nb T' (up2 S 202 (fun i => if i < np then 100 else S 202 i)) → K (sfr (fun i => 100 - S 202 i) np 0 0) ap T' G C) : wp_X5_air q P ap T G C K := by
  refine c_air hX.1.np3 hX.1.np1 (fun T' f1 f2 => ?_)
  have e : sfr (fun i => 100 - T 4 i) np 0 0 = sfr (fun i => 100 - S 202 i) np 0 0 := sfr_cong (fun j _ hj => by rw [hR.air (by omega)])
  rw [e]
  refine h T' (fun k k1 k2 i hi => ?_)
  by_cases c : k = 4
  · subst c
    show T' 4 i = up2 S 202 _ 202 i
    have hi : i < np := hi
    rw [up2_s, f2 i hi, if_pos hi]
  · have e2 : km k ≠ 202 := fun z => c (km_inj k1 k2 (by decide) (by decide) (show km k = km 4 from z))
    rw [up2_n _ _ e2, f1 k c]
    exact hR k k1 k2 i hi
/-- the boat i, sent back -/
def agM (S : M2) (i : Nat) (s x : Int32) : M2 := st2 (st2 (st2 (st2 S 206 i 0) 207 i s) 208 i x) 211 i (-1)
theorem cc_again (hX : PRX P U kb np nl nb ns no) (hR : RE np nl nb T S) (hI : INV U S np nl nb nb) (hi : i < nb) {d : Nat} (hd : d ≤ 9999) (h2 : S 206 i = 2) (h : ∀ T', RE np nl nb T' (agM S i (1 - S 207 i) (nI d)) → K (1 - S 207 i) ap T' G C) : wp_X5_again q P KX ap T G C (nI i) (nI d) K := by
  have h8 := hX.1.nb3
  have hb := pa_in hX.1.nb1 (by omega) hi
  have key : ∀ s : Int32, (s = 0 ∨ s = 1) → 1 - S 207 i = s → ∀ F21 : M2, F21 = st2 T 8 i s → wp_X4_putToWait P F21 (nI i) (nI d) (fun F_66 => K (atv (F_66 8) 8 (nI i)) ap F_66 G C) := by
    intro s hs hs2 F21 e21 F1 e1 F2 e2 F3 e3 F4 e4 F5 e5
    rw [put8 (by omega)] at e1 e2 e3 e4 e5
    subst e21 e1 e2 e3 e4 e5
    obtain ⟨hR1, hI1⟩ := again_rel (x := nI d) hX hR hI hi h2 s hs
    rw [hs2] at h
    have := h _ hR1
    rw [atv_nI (by omega) (by decide), st2_n _ _ _ (by decide), st2_n _ _ _ (by decide), st2_n _ _ _ (by decide), st2_n _ _ _ (by decide), st2_n _ _ _ (by decide), st2_s]
    exact this
  refine ⟨fun _ _ => ⟨fun c => absurd c (nI_pos (by omega)), fun _ => ⟨fun _ => ⟨fun _ => ?_, fun c => absurd ?_ c⟩, fun c => absurd ?_ c⟩⟩, fun z => absurd z (fun z => z.elim hb.1 (fun y => y hb.2))⟩
  · have hS := hI.2.2.2.2.2 i hi
    refine ⟨fun c F21 e21 => ?_, fun c F21 e21 => ?_⟩
    · rw [atv_nI (by omega) (by decide), hR.side hi] at c
      rw [put8 (by omega)] at e21
      have e := hS.resolve_left c
      exact key 0 (Or.inl rfl) (by rw [e]; decide) F21 e21
    · rw [atv_nI (by omega) (by decide), hR.side hi] at c
      rw [put8 (by omega)] at e21
      exact key 1 (Or.inr rfl) (by rw [c]; decide) F21 e21
  · rw [atv_nI (by omega) (by decide), hR.how hi]
    exact h2
  · rw [show (9999 : Int32) = nI 9999 from rfl]
    exact nI_le hd (by omega)
theorem cc_again_x (hX : PRX P U kb np nl nb ns no) (hR : RE np nl nb T S) (hi : i < nb) {d : Nat} (hd : d ≤ 9999) (h2 : ¬ S 206 i = 2) (h : KX 0) : wp_X5_again q P KX ap T G C (nI i) (nI d) K := by
  have h8 := hX.1.nb3
  have hb := pa_in hX.1.nb1 (by omega) hi
  refine ⟨fun _ _ => ⟨fun c => absurd c (nI_pos (by omega)), fun _ => ⟨fun _ => ⟨fun c => ?_, fun _ => h⟩, fun c => absurd ?_ c⟩⟩, fun z => absurd z (fun z => z.elim hb.1 (fun y => y hb.2))⟩
  · rw [atv_nI (by omega) (by decide), hR.how hi] at c
    exact absurd c h2
  · rw [show (9999 : Int32) = nI 9999 from rfl]
    exact nI_le hd (by omega)
theorem cc_pass (hX : PRX P U kb np nl nb ns no) (hPT : PT P U Tt nl nb no) (hR : RE np nl nb T S) (hI : INV U S np nl nb nb) (h : ∀ T', RE np nl nb T' (mMin Tt U S np nl nb ns no) → K (mThose (mMin Tt U S np nl nb ns no) nb 2 - mThose S nb 2) ap T' G C) : wp_X5_pass q P KX ap T G C 1 K := by
  refine ⟨fun _ _ => m_out hX hR (m_run (n := 1) (by decide) hX.1 hPT hR hI (fun T1 hR1 => m_out hX hR1 (h T1 hR1))), fun z => absurd z (by decide)⟩
theorem cc_until (hX : PRX P U kb np nl nb ns no) (hPT : PT P U Tt nl nb no) (hR : RE np nl nb T S) (hI : INV U S np nl nb nb) (h212 : S 212 0 = -1) (hi : i < nb) (h : ∀ G', K (untV Tt U np nl nb ns no i 301 0 (ahM S)) (q 20) T G' C) : wp_X5_until q P KX ap T G C (nI i) K := by
  have hb := pa_in hX.1.nb1 (by have := hX.1.nb3; omega) hi
  exact ⟨fun _ _ => c_copy hR h212 (fun G1 hG1 => ⟨rfl, c_until hX hPT hi 301 0 fK G1 (ahM S) (by decide) (by rw [fK_eq]; decide) hG1 (ahM_inv hI) h⟩), fun z => absurd z (fun z => z.elim hb.1 (fun y => y hb.2))⟩
theorem cc_foresee (hX : PRX P U kb np nl nb ns no) (hPT : PT P U Tt nl nb no) (hR : RE np nl nb T S) (hI : INV U S np nl nb nb) (h212 : S 212 0 = -1) {w : Nat} (h8 : 8 ≤ w) (hw : w ≤ 12) (z : Int32) (h : ∀ G', K (coV U (mMin Tt U (ahM S) np nl nb ns no) np nl nb z w) (q 20) T G' C) : wp_X5_foresee q P KX ap T G C 1 (nI w) K := by
  refine ⟨fun _ _ => ⟨fun c => absurd c ?_, fun _ => ⟨fun _ => c_copy hR h212 (fun G1 hG1 => ⟨rfl, m_run (n := 1) (by decide) hX.1 hPT hG1 (ahM_inv hI) (fun G2 hG2 => m_tally (z := z) hX hG2 h8 hw (h G2))⟩), fun c => absurd ?_ c⟩⟩, fun z => absurd z (by decide)⟩
  · rw [show (8 : Int32) = nI 8 from rfl, lt_nI (by omega) (by omega)]
    omega
  · rw [show (12 : Int32) = nI 12 from rfl]
    exact nI_le hw (by omega)
theorem cc_advise (hX : PRX P U kb np nl nb ns no) (hPT : PT P U Tt nl nb no) (hR : RE np nl nb T S) (hI : INV U S np nl nb nb) (h212 : S 212 0 = -1) {d : Nat} (hd1 : 1 ≤ d) (hd2 : d ≤ 120) (h : ∀ v G', (v = 0 ∨ v = 1) → K v (q 20) T G' C) : wp_X5_advise q P KX ap T G C (nI d) K := by
  have hn := hX.1
  have h8 := hn.nb3
  have hb := mi_in hd1 hd2
  have hI0 : ∀ x : Int32, INV U (up2 (ahM S) 201 (fun _ => x)) np nl nb nb := fun x => (ahM_inv hI).off (by decide) (by decide) (by decide) (by decide) (by decide) (by decide)
  obtain ⟨c0, hc0, ec0⟩ := those_n (M := mRun Tt U np nl nb ns no d (up2 (ahM S) 201 (fun _ => 0))) (nb := nb) (k := 2)
  refine ⟨fun _ _ => ?_, fun z => absurd z (fun z => z.elim hb.1 (fun y => y hb.2))⟩
  rw [fK_eq]
  refine ⟨fun z => absurd z (by decide), fun _ => c_copy hR h212 (fun G1 hG1 => ⟨rfl, fun G2 e2 => m_run (by omega) hn hPT (M := up2 (ahM S) 201 (fun _ => 0)) (by rw [e2]; exact hG1.num (k := 2) (by decide) (by decide) rfl) (hI0 0) (fun G3 hG3 => m_out hX hG3 ?_)⟩)⟩
  refine ⟨fun z => absurd z ?_, fun _ v4 e4 => ?_⟩
  · rw [ec0]
    intro z
    rw [Int32.le_iff_toInt_le, nI_toInt (by omega)] at z
    have e : (-1 : Int32).toInt = -1 := by decide
    omega
  have e4 : v4 = 1 := e4.trans (by decide)
  subst e4
  refine ⟨fun z => absurd z (by decide), fun _ => c_copy hR h212 (fun G4 hG4 => ⟨rfl, fun G5 e5 => m_run (by omega) hn hPT (M := up2 (ahM S) 201 (fun _ => 1)) (by rw [e5]; exact hG4.num (k := 2) (by decide) (by decide) rfl) (hI0 1) (fun G6 hG6 => m_out hX hG6 ?_)⟩)⟩
  refine ⟨fun c v4 e4 => ?_, fun c v4 e4 => ?_⟩
  · have e4 : v4 = 2 := e4.trans (by decide)
    subst e4
    exact ⟨fun _ => h 0 _ (Or.inl rfl), fun z => absurd (by decide) z⟩
  · have e4 : v4 = 2 := e4.trans (by decide)
    subst e4
    exact ⟨fun _ => h 1 _ (Or.inr rfl), fun z => absurd (by decide) z⟩
theorem misV_r {W : Nat → Int32} {nl : Nat} (hW : ∀ l, W l < 9) : ∀ (d l : Nat) (b f : Int32), l + d = nl → (∃ k, k < nl ∧ b = nI k) ∨ (f = 9 ∧ 0 < d) → ∃ k, k < nl ∧ misV W d l b f = nI k := by
  intro d
  induction d with
  | zero =>
    intro l b f hl h
    rcases h with h | h
    · exact h
    · exact absurd h.2 (Nat.lt_irrefl 0)
  | succ d ih =>
    intro l b f hl h
    unfold misV
    by_cases c : W l < f
    · rw [if_pos c]
      exact ih (l + 1) _ _ (by omega) (Or.inl ⟨l, by omega, rfl⟩)
    · rw [if_neg c]
      refine ih (l + 1) _ _ (by omega) (Or.inl (h.resolve_right (fun z => c (by rw [z.1]; exact hW l))))
theorem cc_missed (hX : PRX P U kb np nl nb ns no) (hPT : PT P U Tt nl nb no) (hR : RE np nl nb T S) (hI : INV U S np nl nb nb) (h212 : S 212 0 = -1) {d : Nat} (hd1 : 1 ≤ d) (hd2 : d ≤ 120) (hl : 0 < nl) (h : ∀ k ap' G', k < nl → K (nI k) ap' T G' C) : wp_X5_missed q P KX ap T G C (nI d) K := by
  have hb := mi_in hd1 hd2
  have h8 := hX.1.nb3
  have h6 := hX.1.nl3
  obtain ⟨W, eW⟩ : ∃ W : Nat → Int32, ∀ l, W l = mThose (mRun Tt U np nl nb ns no d (up2 (ahM S) 212 (fun _ => nI l))) nb 2 := ⟨_, fun _ => rfl⟩
  have hW : ∀ l, W l < 9 := fun l => by
    obtain ⟨c, hc, ec⟩ := those_n (M := mRun Tt U np nl nb ns no d (up2 (ahM S) 212 (fun _ => nI l))) (nb := nb) (k := 2)
    rw [eW l, ec, show (9 : Int32) = nI 9 from rfl, lt_nI (by omega) (by omega)]
    omega
  refine ⟨fun _ _ => c_missed hX hPT hR hI h212 hd2 eW nl 0 fK ap G (-1) 9 0 (by omega) (by rw [fK_eq]; omega) (Or.inl ⟨rfl, rfl⟩) (fun ap' G' => ?_), fun z => absurd z (fun z => z.elim hb.1 (fun y => y hb.2))⟩
  obtain ⟨k, hk, e⟩ := misV_r (nl := nl) hW nl 0 (-1) 9 (by omega) (Or.inr ⟨rfl, hl⟩)
  rw [e]
  exact h k ap' G' hk
end CLS
