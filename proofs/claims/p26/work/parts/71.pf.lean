/-! ===== what stays so in the tunnel ===== -/
def IA (M : M2) (np : Nat) : Prop := ∀ p, p < np → ∃ a, a ≤ 100 ∧ M 202 p = nI a
def IW (M : M2) (nl : Nat) : Prop := ∀ l, l < nl → ∃ w, w ≤ 10 ∧ M 205 l = nI w
def isIn (Q M : M2) (np b : Nat) (big : Bool) : Prop := M 206 b = 1 ∧ ∃ p x w, p < np ∧ M 209 b = nI p ∧ M 210 b = nI x ∧ Q 253 b = nI w ∧ 1 ≤ w ∧ w ≤ 60 ∧ (big = false → x < w) ∧ x ≤ 1000
def isOff (M : M2) (b : Nat) : Prop := ¬ M 206 b = 1 ∧ M 209 b = -1 ∧ M 210 b = 0
/-- each boat is in the tunnel or not; the boat b0 may have pushed more -/
def IB (Q M : M2) (np nb : Nat) (b0 : Nat) : Prop := ∀ b, b < nb → isIn Q M np b (decide (b = b0)) ∨ isOff M b
def ID (M : M2) (nb : Nat) : Prop := ∀ b c, b < nb → c < nb → b ≠ c → M 206 b = 1 → M 206 c = 1 → ¬ M 209 b = M 209 c
def IC (Q M : M2) (nb : Nat) : Prop := ∀ b c, b < nb → c < nb → b ≠ c → M 206 b = 1 → M 206 c = 1 → kr0 Q b ≠ kr0 Q c ∧ kr0 Q b ≠ kr1 Q c ∧ kr1 Q b ≠ kr0 Q c ∧ kr1 Q b ≠ kr1 Q c
def IS (M : M2) (nb : Nat) : Prop := ∀ b, b < nb → M 207 b = 0 ∨ M 207 b = 1
/-- all of it; b0 = nb : no boat may have pushed more -/
def INV (Q M : M2) (np nl nb b0 : Nat) : Prop := IA M np ∧ IW M nl ∧ IB Q M np nb b0 ∧ ID M nb ∧ IC Q M nb ∧ IS M nb
theorem mCap_n {Q M : M2} {l : Nat} {pl : Int32} {k : Nat} (h : k ≠ 204) : mCap Q M l pl k = M k := st2_n _ _ _ h
theorem mCome_n {Q M : M2} {b : Nat} {pl : Int32} {k : Nat} (h : k ≠ 204) (h2 : k ≠ 209) : mCome Q M b pl k = M k := by
  unfold mCome
  rw [mCap_n h, mCap_n h, st2_n _ _ _ h2]
theorem mCome_at {Q M : M2} {b : Nat} {pl : Int32} {j : Nat} : mCome Q M b pl 209 j = if j = b then pl else M 209 j := by
  unfold mCome
  rw [mCap_n (by decide), mCap_n (by decide), st2_k]
theorem mLeave_n {Q M : M2} {b k : Nat} (h : k ≠ 205) (h1 : k ≠ 206) (h2 : k ≠ 209) (h3 : k ≠ 210) (h4 : k ≠ 211) : mLeave Q M b k = M k := by
  unfold mLeave
  rw [st2_n _ _ _ h, st2_n _ _ _ h, st2_n _ _ _ h4, st2_n _ _ _ h3, st2_n _ _ _ h2, st2_n _ _ _ h1]
theorem mLeave_is {Q M : M2} {b j : Nat} : mLeave Q M b 206 j = if j = b then 2 else M 206 j := by
  unfold mLeave
  rw [st2_n _ _ _ (by decide), st2_n _ _ _ (by decide), st2_n _ _ _ (by decide), st2_n _ _ _ (by decide), st2_n _ _ _ (by decide), st2_k]
theorem mLeave_at {Q M : M2} {b j : Nat} : mLeave Q M b 209 j = if j = b then -1 else M 209 j := by
  unfold mLeave
  rw [st2_n _ _ _ (by decide), st2_n _ _ _ (by decide), st2_n _ _ _ (by decide), st2_n _ _ _ (by decide), st2_k, st2_n _ _ _ (by decide)]
theorem mLeave_pu {Q M : M2} {b j : Nat} : mLeave Q M b 210 j = if j = b then 0 else M 210 j := by
  unfold mLeave
  rw [st2_n _ _ _ (by decide), st2_n _ _ _ (by decide), st2_n _ _ _ (by decide), st2_k, st2_n _ _ _ (by decide), st2_n _ _ _ (by decide)]
theorem mLeave_wa {Q M : M2} {b j : Nat} : mLeave Q M b 205 j = if j = kr1 Q b then 10 else if j = kr0 Q b then 10 else M 205 j := by
  unfold mLeave
  rw [st2_k, st2_k, st2_n _ _ _ (by decide), st2_n _ _ _ (by decide), st2_n _ _ _ (by decide), st2_n _ _ _ (by decide)]
theorem mBoatAt_none {M : M2} {nb : Nat} {k : Int32} (hn : nb ≤ 8) : mBoatAt M nb k = -1 ↔ ∀ b, b < nb → M 206 b = 1 → ¬ M 209 b = k := by
  unfold mBoatAt
  rw [ffr_none (by omega)]
  exact ⟨fun h b hb h1 h2 => h b hb ⟨h1, h2⟩, fun h b hb h1 => h b hb h1.1 h1.2⟩
/-- the boat b comes on to a free place, having pushed less -/
theorem INV.come {Q M : M2} {np nl nb b p x w : Nat} (h : INV Q M np nl nb b) (hb : b < nb) (hn : nb ≤ 8) (hp : p < np) (h1 : M 206 b = 1) (hx : M 210 b = nI x) (hw : Q 253 b = nI w) (hle : w ≤ x) (hxx : x ≤ 1000) (w1 : 1 ≤ w) (w60 : w ≤ 60) (hfree : mBoatAt M nb (nI p) = -1) : INV Q (mCome Q (st2 M 210 b (M 210 b - Q 253 b)) b (nI p)) np nl nb b := by
  obtain ⟨ha, hw', hB, hD, hC, hS⟩ := h
  have hfree := (mBoatAt_none hn).mp hfree
  have k6 : mCome Q (st2 M 210 b (M 210 b - Q 253 b)) b (nI p) 206 = M 206 := by rw [mCome_n (by decide) (by decide), st2_n _ _ _ (by decide)]
  refine ⟨fun q hq => ?_, fun l hl => ?_, fun c hc => ?_, fun c d hc hd hcd h2 h3 => ?_, fun c d hc hd hcd h2 h3 => ?_, fun c hc => ?_⟩
  · rw [mCome_n (by decide) (by decide), st2_n _ _ _ (by decide)]
    exact ha q hq
  · rw [mCome_n (by decide) (by decide), st2_n _ _ _ (by decide)]
    exact hw' l hl
  · by_cases e : c = b
    · subst e
      refine Or.inl ⟨by rw [k6]; exact h1, p, x - w, w, hp, by rw [mCome_at, if_pos rfl], ?_, hw, w1, w60, fun z => ?_, by omega⟩
      · rw [mCome_n (by decide) (by decide), st2_s, hx, hw, pk_sub hle]
      · simp at z
    · have e2 : decide (c = b) = false := decide_eq_false e
      rcases hB c hc with ⟨h4, q, y, v, h5, h6, h7, h8, h9⟩ | ⟨h4, h5, h6⟩
      · refine Or.inl ⟨by rw [k6]; exact h4, q, y, v, h5, ?_, ?_, h8, h9⟩
        · rw [mCome_at, if_neg e, st2_n _ _ _ (by decide)]
          exact h6
        · rw [mCome_n (by decide) (by decide), st2_o _ _ (Or.inr e)]
          exact h7
      · refine Or.inr ⟨by rw [k6]; exact h4, ?_, ?_⟩
        · rw [mCome_at, if_neg e, st2_n _ _ _ (by decide)]
          exact h5
        · rw [mCome_n (by decide) (by decide), st2_o _ _ (Or.inr e)]
          exact h6
  · rw [k6] at h2 h3
    rw [mCome_at, mCome_at, st2_n _ _ _ (by decide)]
    by_cases e : c = b
    · rw [if_pos e, if_neg (fun z => hcd (e.trans z.symm))]
      exact fun z => hfree d hd h3 z.symm
    · rw [if_neg e]
      by_cases e2 : d = b
      · rw [if_pos e2]
        exact fun z => hfree c hc h2 z
      · rw [if_neg e2]
        exact hD c d hc hd hcd h2 h3
  · rw [k6] at h2 h3
    exact hC c d hc hd hcd h2 h3
  · rw [mCome_n (by decide) (by decide), st2_n _ _ _ (by decide)]
    exact hS c hc
/-- the boat b is out -/
theorem INV.leave {Q M : M2} {np nl nb b : Nat} (h : INV Q M np nl nb b) (hb : b < nb) : INV Q (mLeave Q M b) np nl nb nb := by
  obtain ⟨ha, hw', hB, hD, hC, hS⟩ := h
  have is1 : ∀ c, mLeave Q M b 206 c = 1 → c ≠ b ∧ M 206 c = 1 := fun c hc => by
    rw [mLeave_is] at hc
    by_cases e : c = b
    · rw [if_pos e] at hc
      exact absurd hc (by decide)
    · rw [if_neg e] at hc
      exact ⟨e, hc⟩
  refine ⟨fun q hq => ?_, fun l hl => ?_, fun c hc => ?_, fun c d hc hd hcd h2 h3 => ?_, fun c d hc hd hcd h2 h3 => ?_, fun c hc => ?_⟩
  · rw [mLeave_n (by decide) (by decide) (by decide) (by decide) (by decide)]
    exact ha q hq
  · rw [mLeave_wa]
    by_cases e : l = kr1 Q b
    · exact ⟨10, by omega, by rw [if_pos e]; rfl⟩
    · rw [if_neg e]
      by_cases e : l = kr0 Q b
      · exact ⟨10, by omega, by rw [if_pos e]; rfl⟩
      · rw [if_neg e]
        exact hw' l hl
  · have e9 : decide (c = nb) = false := decide_eq_false (by omega)
    by_cases e : c = b
    · refine Or.inr ⟨fun z => (is1 c z).1 e, ?_, ?_⟩
      · rw [mLeave_at, if_pos e]
      · rw [mLeave_pu, if_pos e]
    · have e2 : decide (c = b) = false := decide_eq_false e
      rcases hB c hc with ⟨h4, q, y, v, h5, h6, h7, h8, h9, h10, h11, h12⟩ | ⟨h4, h5, h6⟩
      · refine Or.inl ⟨by rw [mLeave_is, if_neg e]; exact h4, q, y, v, h5, ?_, ?_, h8, h9, h10, fun _ => h11 e2, h12⟩
        · rw [mLeave_at, if_neg e]
          exact h6
        · rw [mLeave_pu, if_neg e]
          exact h7
      · refine Or.inr ⟨fun z => h4 (is1 c z).2, ?_, ?_⟩
        · rw [mLeave_at, if_neg e]
          exact h5
        · rw [mLeave_pu, if_neg e]
          exact h6
  · obtain ⟨e1, h2⟩ := is1 c h2
    obtain ⟨e2, h3⟩ := is1 d h3
    rw [mLeave_at, mLeave_at, if_neg e1, if_neg e2]
    exact hD c d hc hd hcd h2 h3
  · exact hC c d hc hd hcd (is1 c h2).2 (is1 d h3).2
  · rw [mLeave_n (by decide) (by decide) (by decide) (by decide) (by decide)]
    exact hS c hc
/-- only what b has pushed is another -/
theorem INV.push {Q M : M2} {np nl nb b b0 x w : Nat} (h : INV Q M np nl nb b0) (hb0 : b0 = b ∨ b0 = nb) (h1 : M 206 b = 1) (hw : Q 253 b = nI w) (w60 : w ≤ 60) (hx : x ≤ 1000) (b1 : Nat) (hb1 : b1 = b ∨ (b1 = nb ∧ x < w)) (hbn : b < nb) : INV Q (st2 M 210 b (nI x)) np nl nb b1 := by
  obtain ⟨ha, hw', hB, hD, hC, hS⟩ := h
  have k6 : st2 M 210 b (nI x) 206 = M 206 := st2_n _ _ _ (by decide)
  refine ⟨fun q hq => ?_, fun l hl => ?_, fun c hc => ?_, fun c d hc hd hcd h2 h3 => ?_, fun c d hc hd hcd h2 h3 => ?_, fun c hc => ?_⟩
  · rw [st2_n _ _ _ (by decide)]
    exact ha q hq
  · rw [st2_n _ _ _ (by decide)]
    exact hw' l hl
  · by_cases e : c = b
    · subst e
      rcases hB c hc with ⟨h4, q, y, v, h5, h6, h7, h8, h9, h10, h11, h12⟩ | ⟨h4, h5, h6⟩
      · refine Or.inl ⟨by rw [k6]; exact h4, q, x, v, h5, by rw [st2_n _ _ _ (by decide)]; exact h6, st2_s _ _ _ _, h8, h9, h10, fun z => ?_, hx⟩
        rcases hb1 with rfl | ⟨_, hxw⟩
        · simp at z
        · have : v = w ∨ True := Or.inr trivial
          have e3 : nI v = nI w := h8.symm.trans hw
          have := nI_inj (by omega) (by omega) e3
          omega
      · exact absurd h1 h4
    · have e2 : decide (c = b0) = false := decide_eq_false (by omega)
      rcases hB c hc with ⟨h4, q, y, v, h5, h6, h7, h8, h9, h10, h11, h12⟩ | ⟨h4, h5, h6⟩
      · refine Or.inl ⟨by rw [k6]; exact h4, q, y, v, h5, by rw [st2_n _ _ _ (by decide)]; exact h6, ?_, h8, h9, h10, fun _ => h11 e2, h12⟩
        rw [st2_o _ _ (Or.inr e)]
        exact h7
      · refine Or.inr ⟨by rw [k6]; exact h4, by rw [st2_n _ _ _ (by decide)]; exact h5, ?_⟩
        rw [st2_o _ _ (Or.inr e)]
        exact h6
  · rw [k6] at h2 h3
    rw [st2_n _ _ _ (by decide)]
    exact hD c d hc hd hcd h2 h3
  · rw [k6] at h2 h3
    exact hC c d hc hd hcd h2 h3
  · rw [st2_n _ _ _ (by decide)]
    exact hS c hc
