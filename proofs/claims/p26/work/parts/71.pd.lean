/-! ===== a boat comes to a place, goes in, is out, is pushed ===== -/
/-- where the cap is, behind a coming to pl -/
def capV (c pl low st : Int32) : Int32 := if c = -1 ∨ c = pl then (if low ≤ 12 - st then -1 else pl) else c
def lowV (Q : M2) (pl : Int32) : Int32 := Q 243 (Q 245 pl.toInt.toNat).toInt.toNat
def mCap (Q M : M2) (l : Nat) (pl : Int32) : M2 := st2 M 204 l (capV (M 204 l) pl (lowV Q pl) (Q 250 l))
def mCome (Q M : M2) (b : Nat) (pl : Int32) : M2 := mCap Q (mCap Q (st2 M 209 b pl) (kr0 Q b) pl) (kr1 Q b) pl
def mEnter (Q M : M2) (b : Nat) : M2 := mCome Q (st2 (st2 M 206 b 1) 210 b 0) b (if M 207 b = 0 then 0 else Q 241 0 - 1)
def mLeave (Q M : M2) (b : Nat) : M2 := st2 (st2 (st2 (st2 (st2 (st2 M 206 b 2) 209 b (-1)) 210 b 0) 211 b (M 200 0)) 205 (kr0 Q b) 10) 205 (kr1 Q b) 10
def stepV (M : M2) (b : Nat) : Int32 := if M 207 b = 0 then 1 else -1
def mPushL (Q : M2) (nb b : Nat) : Nat → M2 → M2
  | 0, M => M
  | d + 1, M => if M 210 b < Q 253 b then M else if M 209 b + stepV M b < 0 ∨ M 209 b + stepV M b = Q 241 0 then mLeave Q M b else if mBoatAt M nb (M 209 b + stepV M b) = -1 then mPushL Q nb b d (mCome Q (st2 M 210 b (M 210 b - Q 253 b)) b (M 209 b + stepV M b)) else st2 M 210 b 0
def strV (Q M : M2) (k : Nat) : Int32 := if M 203 k ≤ 0 then 0 else if nI k = M 212 0 then 0 else Q 250 k
def mPush (Q M : M2) (nb b : Nat) : M2 := mPushL Q nb b 61 (st2 M 210 b (M 210 b + ((strV Q M (kr0 Q b) + strV Q M (kr1 Q b)) * M 202 (M 209 b).toInt.toNat) / 100))
section STEPS
variable {P Q N F S M : M2} {np nl nb ns no : Nat} {K : M2 → Prop} {b : Nat}
theorem put8 {F : M2} {k : Nat} {x : Int32} (hb : b < 8) : up2 F k (putv (F k) 8 (nI b) x) = st2 F k b x := by rw [putv_nI hb (by decide)]; rfl
theorem put6 {F : M2} {k : Nat} {x : Int32} (hb : b < 6) : up2 F k (putv (F k) 6 (nI b) x) = st2 F k b x := by rw [putv_nI hb (by decide)]; rfl
theorem put60 {F : M2} {k : Nat} {x : Int32} (hb : b < 60) : up2 F k (putv (F k) 60 (nI b) x) = st2 F k b x := by rw [putv_nI hb (by decide)]; rfl
theorem upd_st2 {F : M2} {k i : Nat} {x : Int32} : up2 F k (upd (F k) i x) = st2 F k i x := rfl
theorem lowV_nI (hp : PR P Q np nl nb ns no) {p : Nat} (h : p < np) : atv (P 26) 5 (atv (P 28) 60 (nI p)) = lowV Q (nI p) := by
  have h60 := hp.np3
  obtain ⟨k, hk, e1, e2, e3⟩ := hp.bore p h
  unfold lowV
  rw [tn_nI (by omega), atv_nI (by omega) (by decide), e1, e2, tn_nI (by omega), atv_nI hk (by decide), e3]
/-- the class: a legger of a boat that comes to a place -/
theorem m_passLow (hp : PR P Q np nl nb ns no) (hr : RE np nl nb F M) {l p : Nat} (hl : l < nl) {low : Int32} (hlow : low = lowV Q (nI p)) (h : ∀ F', RE np nl nb F' (mCap Q M l (nI p)) → K F') : wp_X4_passLow P F (nI l) (nI p) low K := by
  have h6 := hp.nl3
  have l6 : l < 6 := by omega
  obtain ⟨x, y, _, _, _, _, e1, e2, _, _⟩ := hp.leg l hl
  have ec := hr.cap hl
  subst hlow
  have a6 : ∀ g : Nat → Int32, atv g 6 (nI l) = g l := fun g => atv_nI l6 (by decide)
  have stay : ¬ (M 204 l = -1 ∨ M 204 l = nI p) → K F := fun c => h F (by
    unfold mCap capV
    rw [if_neg c, st2_same]
    exact hr)
  have go : (M 204 l = -1 ∨ M 204 l = nI p) → wj_X4_passLow_29 P K F (nI l) (nI p) (lowV Q (nI p)) 1 := fun c => by
    refine And.intro (fun z => absurd z (by decide)) (fun _ => ?_)
    rw [a6, e1]
    have hM : mCap Q M l (nI p) = st2 M 204 l (if lowV Q (nI p) ≤ 12 - nI x then -1 else nI p) := by
      unfold mCap capV
      rw [if_pos c, e2]
    rw [hM] at h
    refine And.intro (fun c2 F' e => ?_) (fun c2 F' e => ?_)
    · rw [put6 l6] at e
      subst e
      rw [if_pos c2] at h
      exact h _ (hr.put (k := 7) (by decide) (by decide) l rfl)
    · rw [put6 l6] at e
      subst e
      rw [if_neg c2] at h
      exact h _ (hr.put (k := 7) (by decide) (by decide) l rfl)
  unfold wp_X4_passLow
  rw [a6, ec]
  refine And.intro (fun c => go (Or.inl c)) (fun c => And.intro (fun c2 => ?_) (fun c2 => go (Or.inr c2)))
  exact And.intro (fun _ => stay (fun z => z.elim c c2)) (fun z => absurd rfl z)
theorem m_comeTo (hp : PR P Q np nl nb ns no) (hr : RE np nl nb F M) {p : Nat} (hb : b < nb) (hpn : p < np) (h : ∀ F', RE np nl nb F' (mCome Q M b (nI p)) → K F') : wp_X4_comeTo P F (nI b) (nI p) K := by
  have h8 := hp.nb3
  have b8 : b < 8 := by omega
  obtain ⟨k0, k1, _, e1, _, e3, _, _⟩ := hp.boat b hb
  intro F1 e
  rw [put8 b8] at e
  subst e
  intro v3 ev
  rw [atv_nI b8 (by decide), atv_nI b8 (by decide), e1, e3]
  refine m_passLow hp (hr.put (k := 11) (by decide) (by decide) b rfl) k0 (ev.trans (lowV_nI hp hpn)) (fun F2 h2 => ?_)
  exact m_passLow hp h2 k1 (ev.trans (lowV_nI hp hpn)) (fun F3 h3 => h F3 h3)
theorem m_enter (hp : PR P Q np nl nb ns no) (hr : RE np nl nb F M) (hb : b < nb) (hn : 0 < np) (h : ∀ F', RE np nl nb F' (mEnter Q M b) → K F') : wp_X4_enter P F (nI b) K := by
  have h8 := hp.nb3
  have b8 : b < 8 := by omega
  intro F1 e
  rw [put8 b8] at e
  subst e
  intro F2 e
  rw [put8 b8] at e
  subst e
  have h2 := (hr.put (k := 10) (by decide) (by decide) b (rfl : (1 : Int32) = 1)).put (k := 12) (by decide) (by decide) b (rfl : (0 : Int32) = 0)
  have es : atv (st2 (st2 F 10 b 1) 12 b 0 8) 8 (nI b) = M 207 b := by
    rw [atv_nI b8 (by decide), st2_n _ _ _ (by decide), st2_n _ _ _ (by decide), hr.side hb]
  rw [es, hp.np1]
  unfold mEnter at h
  refine And.intro (fun c => ?_) (fun c => ?_)
  · rw [if_neg c, hp.np2] at h
    have e : nI np - 1 = nI (np - 1) := by
      have := nI_pred (np - 1)
      rw [show np - 1 + 1 = np by omega] at this
      exact this
    rw [e] at h ⊢
    exact m_comeTo hp h2 hb (by omega) h
  · rw [if_pos c, ← nI_0] at h
    rw [← nI_0]
    exact m_comeTo hp h2 hb hn h
theorem m_leave (hp : PR P Q np nl nb ns no) (hr : RE np nl nb F M) (hb : b < nb) (h : ∀ F', RE np nl nb F' (mLeave Q M b) → K F') : wp_X4_leave P F (nI b) K := by
  have h8 := hp.nb3
  have h6 := hp.nl3
  have b8 : b < 8 := by omega
  obtain ⟨k0, k1, _, e1, _, e3, _, _⟩ := hp.boat b hb
  intro F1 e
  rw [put8 b8] at e
  subst e
  intro F2 e
  rw [put8 b8] at e
  subst e
  intro F3 e
  rw [put8 b8] at e
  subst e
  intro F4 e
  rw [put8 b8] at e
  subst e
  intro F5 e
  rw [atv_nI b8 (by decide), e1, put6 (by omega)] at e
  subst e
  intro F6 e
  rw [atv_nI b8 (by decide), e3, put6 (by omega)] at e
  subst e
  refine h _ ?_
  unfold mLeave
  have h4 := ((hr.put (k := 10) (by decide) (by decide) b (rfl : (2 : Int32) = 2)).put (k := 11) (by decide) (by decide) b (rfl : (-1 : Int32) = -1)).put (k := 12) (by decide) (by decide) b (rfl : (0 : Int32) = 0)
  have em : st2 (st2 (st2 F 10 b 2) 11 b (-1)) 12 b 0 1 0 = M 200 0 := by
    rw [st2_n _ _ _ (by decide), st2_n _ _ _ (by decide), st2_n _ _ _ (by decide), hr.min]
  exact ((h4.put (k := 13) (by decide) (by decide) b em).put (k := 6) (by decide) (by decide) (kr0 Q b) (rfl : (10 : Int32) = 10)).put (k := 6) (by decide) (by decide) (kr1 Q b) (rfl : (10 : Int32) = 10)
theorem m_strengthFor {K : Int32 → Prop} (hp : PR P Q np nl nb ns no) (hr : RE np nl nb F M) {l : Nat} (hl : l < nl) (h : K (strV Q M l)) : wp_X4_strengthFor P F (nI l) K := by
  have h6 := hp.nl3
  have a6 : ∀ g : Nat → Int32, atv g 6 (nI l) = g l := fun g => atv_nI (by omega) (by decide)
  obtain ⟨x, y, _, _, _, _, e1, e2, _, _⟩ := hp.leg l hl
  unfold wp_X4_strengthFor
  rw [a6, a6, hr.weak, hr.breath hl, e1]
  unfold strV at h
  rw [e2] at h
  have h1 : 1 ≤ M 203 l ↔ ¬ M 203 l ≤ 0 := by
    rw [Int32.le_iff_toInt_le, Int32.le_iff_toInt_le]
    have : (1 : Int32).toInt = 1 := by decide
    have : (0 : Int32).toInt = 0 := by decide
    omega
  by_cases c1 : M 203 l ≤ 0 <;> by_cases c2 : nI l = M 212 0 <;> simp [c1, c2, h1] at h ⊢ <;> exact h
end STEPS
