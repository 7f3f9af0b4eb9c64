/-! ===== the tunnel as numbers tell it: M by the reference's names (200 ..), Q the reference's plan ===== -/
def st2 (F : M2) (k i : Nat) (x : Int32) : M2 := up2 F k (upd (F k) i x)
theorem st2_k (F : M2) (k i : Nat) (x : Int32) (j : Nat) : st2 F k i x k j = if j = i then x else F k j := by simp [st2, up2, upd]
theorem st2_n (F : M2) {k k' : Nat} (i : Nat) (x : Int32) (h : k' ≠ k) : st2 F k i x k' = F k' := by simp [st2, up2, h]
theorem st2_s (F : M2) (k i : Nat) (x : Int32) : st2 F k i x k i = x := by simp [st2, up2, upd]
theorem st2_o (F : M2) {k k' i i' : Nat} (x : Int32) (h : k' ≠ k ∨ i' ≠ i) : st2 F k i x k' i' = F k' i' := by
  by_cases hk : k' = k
  · subst hk
    have hi : i' ≠ i := h.resolve_left (fun c => c rfl)
    simp [st2, up2, upd, hi]
  · simp [st2, up2, hk]
theorem st2_same (F : M2) (k i : Nat) : st2 F k i (F k i) = F := by
  funext k' i'
  by_cases h : k' = k ∧ i' = i
  · obtain ⟨rfl, rfl⟩ := h
    exact st2_s _ _ _ _
  · exact st2_o F _ (by omega)
theorem st2_st2 (F : M2) (k i : Nat) (x y : Int32) : st2 (st2 F k i x) k i y = st2 F k i y := by
  funext k' i'
  by_cases h : k' = k ∧ i' = i
  · obtain ⟨rfl, rfl⟩ := h
    rw [st2_s, st2_s]
  · rw [st2_o _ _ (by omega), st2_o _ _ (by omega), st2_o _ _ (by omega)]
/-- the number of the reference's row for the tunnel's row k -/
def km : Nat → Nat
  | 1 => 200 | 2 => 201 | 3 => 212 | 4 => 202 | 5 => 203 | 6 => 205 | 7 => 204 | 8 => 207 | 9 => 208 | 10 => 206 | 11 => 209 | 12 => 210 | 13 => 211 | _ => 0
theorem km_inj : ∀ {k k' : Nat}, 1 ≤ k → k ≤ 13 → 1 ≤ k' → k' ≤ 13 → km k = km k' → k = k' := by
  intro k k' h1 h2 h3 h4 h
  have key : ∀ a : Fin 14, ∀ b : Fin 14, 1 ≤ a.val → 1 ≤ b.val → km a.val = km b.val → a.val = b.val := by decide
  exact key ⟨k, by omega⟩ ⟨k', by omega⟩ h1 h3 h
/-- how much of a row counts: np places, nl leggers, nb boats -/
def sz (np nl nb : Nat) (k : Nat) : Nat := if k ≤ 3 then 1 else if k = 4 then np else if k ≤ 7 then nl else nb
/-- the class's tunnel F is the tunnel M -/
def RE (np nl nb : Nat) (F M : M2) : Prop := ∀ k, 1 ≤ k → k ≤ 13 → ∀ i, i < sz np nl nb k → F k i = M (km k) i
theorem RE.put {np nl nb : Nat} {F M : M2} (h : RE np nl nb F M) {k : Nat} (h1 : 1 ≤ k) (h2 : k ≤ 13) (i : Nat) {x y : Int32} (e : x = y) : RE np nl nb (st2 F k i x) (st2 M (km k) i y) := by
  intro k' h3 h4 j hj
  subst e
  by_cases hk : k' = k
  · subst hk
    rw [st2_k, st2_k, h k' h3 h4 j hj]
  · rw [st2_n F i x hk, st2_n M i x (fun c => hk (km_inj h3 h4 h1 h2 c)), h k' h3 h4 j hj]
theorem RE.off {np nl nb : Nat} {F M : M2} (h : RE np nl nb F M) {k : Nat} (hk : 13 < k) (g : Nat → Int32) : RE np nl nb (up2 F k g) M := by
  intro k' h3 h4 j hj
  rw [up2_n F g (by omega), h k' h3 h4 j hj]
theorem RE.num {np nl nb : Nat} {F M : M2} (h : RE np nl nb F M) {k : Nat} (h1 : 1 ≤ k) (h2 : k ≤ 3) {x y : Int32} (e : x = y) : RE np nl nb (up2 F k (fun _ => x)) (up2 M (km k) (fun _ => y)) := by
  intro k' h3 h4 j hj
  subst e
  by_cases hk : k' = k
  · subst hk
    rw [up2_s, up2_s]
  · rw [up2_n F _ hk, up2_n M _ (fun c => hk (km_inj h3 h4 h1 (by omega) c)), h k' h3 h4 j hj]
/-! ===== the plans of both sides ===== -/
/-- numbers of the plan: places, leggers, boats, shafts, orders -/
def PN (P Q : M2) (np nl nb ns no : Nat) : Prop := (P 21 0 = nI np ∧ Q 241 0 = nI np ∧ np ≤ 60) ∧ (P 23 0 = nI nl ∧ Q 249 0 = nI nl ∧ nl ≤ 6) ∧ (P 24 0 = nI nb ∧ Q 252 0 = nI nb ∧ nb ≤ 8) ∧ (P 22 0 = nI ns ∧ Q 246 0 = nI ns ∧ ns ≤ 4) ∧ (P 40 0 = nI no ∧ Q 257 0 = nI no ∧ no ≤ 16)
/-- a place's bore, and how low it is -/
def PB (P Q : M2) (np : Nat) : Prop := ∀ p, p < np → ∃ k, k < 5 ∧ P 28 p = nI k ∧ Q 245 p = nI k ∧ P 26 k = Q 243 k
def PS (P Q : M2) (np ns : Nat) : Prop := ∀ s, s < ns → ∃ a d, a < np ∧ 1 ≤ d ∧ d ≤ 30 ∧ P 29 s = nI a ∧ Q 247 s = nI a ∧ P 30 s = nI d ∧ Q 248 s = nI d
def PL (P Q : M2) (nl : Nat) : Prop := ∀ l, l < nl → ∃ x y, 1 ≤ x ∧ x ≤ 9 ∧ 1 ≤ y ∧ y ≤ 9 ∧ P 31 l = nI x ∧ Q 250 l = nI x ∧ P 32 l = nI y ∧ Q 251 l = nI y
/-- the crew of a boat, as numbers -/
def kr0 (Q : M2) (b : Nat) : Nat := (Q (310 + b) 0).toInt.toNat
def kr1 (Q : M2) (b : Nat) : Nat := (Q (310 + b) 1).toInt.toNat
def PO (P Q : M2) (nl nb : Nat) : Prop := ∀ b, b < nb → kr0 Q b < nl ∧ kr1 Q b < nl ∧ kr0 Q b ≠ kr1 Q b ∧ P 36 b = nI (kr0 Q b) ∧ Q (310 + b) 0 = nI (kr0 Q b) ∧ P 37 b = nI (kr1 Q b) ∧ Q (310 + b) 1 = nI (kr1 Q b) ∧ ∃ w, 1 ≤ w ∧ w ≤ 60 ∧ P 33 b = nI w ∧ Q 253 b = nI w
def PR (P Q : M2) (np nl nb ns no : Nat) : Prop := PN P Q np nl nb ns no ∧ PB P Q np ∧ PS P Q np ns ∧ PL P Q nl ∧ PO P Q nl nb
section PRS
variable {P Q : M2} {np nl nb ns no : Nat}
theorem PR.np1 (h : PR P Q np nl nb ns no) : P 21 0 = nI np := h.1.1.1
theorem PR.np2 (h : PR P Q np nl nb ns no) : Q 241 0 = nI np := h.1.1.2.1
theorem PR.np3 (h : PR P Q np nl nb ns no) : np ≤ 60 := h.1.1.2.2
theorem PR.nl1 (h : PR P Q np nl nb ns no) : P 23 0 = nI nl := h.1.2.1.1
theorem PR.nl2 (h : PR P Q np nl nb ns no) : Q 249 0 = nI nl := h.1.2.1.2.1
theorem PR.nl3 (h : PR P Q np nl nb ns no) : nl ≤ 6 := h.1.2.1.2.2
theorem PR.nb1 (h : PR P Q np nl nb ns no) : P 24 0 = nI nb := h.1.2.2.1.1
theorem PR.nb2 (h : PR P Q np nl nb ns no) : Q 252 0 = nI nb := h.1.2.2.1.2.1
theorem PR.nb3 (h : PR P Q np nl nb ns no) : nb ≤ 8 := h.1.2.2.1.2.2
theorem PR.ns1 (h : PR P Q np nl nb ns no) : P 22 0 = nI ns := h.1.2.2.2.1.1
theorem PR.ns2 (h : PR P Q np nl nb ns no) : Q 246 0 = nI ns := h.1.2.2.2.1.2.1
theorem PR.ns3 (h : PR P Q np nl nb ns no) : ns ≤ 4 := h.1.2.2.2.1.2.2
theorem PR.no1 (h : PR P Q np nl nb ns no) : P 40 0 = nI no := h.1.2.2.2.2.1
theorem PR.no2 (h : PR P Q np nl nb ns no) : Q 257 0 = nI no := h.1.2.2.2.2.2.1
theorem PR.no3 (h : PR P Q np nl nb ns no) : no ≤ 16 := h.1.2.2.2.2.2.2
theorem PR.bore (h : PR P Q np nl nb ns no) : PB P Q np := h.2.1
theorem PR.shaft (h : PR P Q np nl nb ns no) : PS P Q np ns := h.2.2.1
theorem PR.leg (h : PR P Q np nl nb ns no) : PL P Q nl := h.2.2.2.1
theorem PR.boat (h : PR P Q np nl nb ns no) : PO P Q nl nb := h.2.2.2.2
end PRS
/-! ===== the questions, of M ===== -/
def mBoatOf (Q M : M2) (nb : Nat) (k : Int32) : Int32 := ffr (pBoatOf (M 206) (fun i => Q (310 + i) 0) (fun i => Q (310 + i) 1) k) nb 0
def mBoatAt (M : M2) (nb : Nat) (k : Int32) : Int32 := ffr (pBoatAt (M 206) (M 209) k) nb 0
def mThose (M : M2) (nb : Nat) (k : Int32) : Int32 := cfr (pIs (M 206) k) nb 0 0
def mWaits (M : M2) (nb : Nat) (k : Int32) : Int32 := cfr (pWaits (M 206) (M 207) (M 208) k (M 200 0)) nb 0 0
def mAllAir (M : M2) (np : Nat) : Int32 := sfr (M 202) np 0 0
def mCapsAt (M : M2) (nl : Nat) (k : Int32) : Int32 := cfr (pIs (M 204) k) nl 0 0
def mClear (Q M : M2) (nb : Nat) (k : Int32) : Int32 := nor (pInWay (M 206) (M 207) (M 209) k (Q 241 0 - 1)) nb 0
section ASK
variable {P Q N F S M : M2} {np nl nb ns no : Nat} {K : Int32 → Prop} {k : Int32}
theorem RE.at_ (h : RE np nl nb F M) {k : Nat} (h1 : 1 ≤ k) (h2 : k ≤ 13) {i : Nat} (hi : i < sz np nl nb k) : F k i = M (km k) i := h k h1 h2 i hi
theorem RE.min (h : RE np nl nb F M) : F 1 0 = M 200 0 := h 1 (by decide) (by decide) 0 (by simp [sz])
theorem RE.turn (h : RE np nl nb F M) : F 2 0 = M 201 0 := h 2 (by decide) (by decide) 0 (by simp [sz])
theorem RE.weak (h : RE np nl nb F M) : F 3 0 = M 212 0 := h 3 (by decide) (by decide) 0 (by simp [sz])
theorem RE.air (h : RE np nl nb F M) {i : Nat} (hi : i < np) : F 4 i = M 202 i := h 4 (by decide) (by decide) i hi
theorem RE.breath (h : RE np nl nb F M) {i : Nat} (hi : i < nl) : F 5 i = M 203 i := h 5 (by decide) (by decide) i hi
theorem RE.walk (h : RE np nl nb F M) {i : Nat} (hi : i < nl) : F 6 i = M 205 i := h 6 (by decide) (by decide) i hi
theorem RE.cap (h : RE np nl nb F M) {i : Nat} (hi : i < nl) : F 7 i = M 204 i := h 7 (by decide) (by decide) i hi
theorem RE.side (h : RE np nl nb F M) {i : Nat} (hi : i < nb) : F 8 i = M 207 i := h 8 (by decide) (by decide) i hi
theorem RE.due (h : RE np nl nb F M) {i : Nat} (hi : i < nb) : F 9 i = M 208 i := h 9 (by decide) (by decide) i hi
theorem RE.how (h : RE np nl nb F M) {i : Nat} (hi : i < nb) : F 10 i = M 206 i := h 10 (by decide) (by decide) i hi
theorem RE.spot (h : RE np nl nb F M) {i : Nat} (hi : i < nb) : F 11 i = M 209 i := h 11 (by decide) (by decide) i hi
theorem RE.pushed (h : RE np nl nb F M) {i : Nat} (hi : i < nb) : F 12 i = M 210 i := h 12 (by decide) (by decide) i hi
theorem RE.out (h : RE np nl nb F M) {i : Nat} (hi : i < nb) : F 13 i = M 211 i := h 13 (by decide) (by decide) i hi
theorem m_boatOf (hp : PR P Q np nl nb ns no) (hr : RE np nl nb F M) (h : K (mBoatOf Q M nb k)) : wp_X4_boatOf P F k K := by
  refine v_X4_boatOf hp.nb1 hp.nb3 ?_
  rw [ffr_cong (q := pBoatOf (M 206) (fun i => Q (310 + i) 0) (fun i => Q (310 + i) 1) k)]
  · exact h
  · intro i _ hi
    have hi : i < nb := by omega
    obtain ⟨_, _, _, e1, e2, e3, e4, _⟩ := hp.boat i hi
    unfold pBoatOf
    dsimp only
    rw [hr.how hi, e1, e2, e3, e4]
theorem m_boatAt (hp : PR P Q np nl nb ns no) (hr : RE np nl nb F M) (h : K (mBoatAt M nb k)) : wp_X4_boatAt P F k K := by
  refine v_X4_boatAt hp.nb1 hp.nb3 ?_
  rw [ffr_cong (q := pBoatAt (M 206) (M 209) k)]
  · exact h
  · intro i _ hi
    have hi : i < nb := by omega
    unfold pBoatAt
    rw [hr.how hi, hr.spot hi]
theorem m_those (hp : PR P Q np nl nb ns no) (hr : RE np nl nb F M) (h : K (mThose M nb k)) : wp_X4_boatsThatAre P F k K := by
  refine v_X4_boatsThatAre hp.nb1 hp.nb3 ?_
  rw [cfr_cong (q := pIs (M 206) k)]
  · exact h
  · intro i _ hi
    unfold pIs
    rw [hr.how (by omega : i < nb)]
theorem m_waits (hp : PR P Q np nl nb ns no) (hr : RE np nl nb F M) (h : K (mWaits M nb k)) : wp_X4_waitingAt P F k K := by
  refine v_X4_waitingAt hp.nb1 hp.nb3 ?_
  rw [cfr_cong (q := pWaits (M 206) (M 207) (M 208) k (M 200 0))]
  · exact h
  · intro i _ hi
    have hi : i < nb := by omega
    unfold pWaits
    rw [hr.how hi, hr.side hi, hr.due hi, hr.min]
theorem m_capsAt (hp : PR P Q np nl nb ns no) (hr : RE np nl nb F M) (h : K (mCapsAt M nl k)) : wp_X4_capsAt P F k K := by
  refine v_X4_capsAt hp.nl1 hp.nl3 ?_
  rw [cfr_cong (q := pIs (M 204) k)]
  · exact h
  · intro i _ hi
    unfold pIs
    rw [hr.cap (by omega : i < nl)]
theorem m_capsLie (hp : PR P Q np nl nb ns no) (hr : RE np nl nb F M) (h : K (nI nl - mCapsAt M nl (-1))) : wp_X4_capsThatLie P F K := by
  refine v_X4_capsThatLie hp.nl1 hp.nl3 ?_
  rw [cfr_cong (q := fun i => ¬ pIs (M 204) (-1) i), cfr_not]
  · exact h
  · intro i _ hi
    unfold pIs
    rw [hr.cap (by omega : i < nl)]
theorem m_allAir (hp : PR P Q np nl nb ns no) (hr : RE np nl nb F M) (h : K (mAllAir M np)) : wp_X4_airOf P F 0 (P 21 0) K := by
  rw [hp.np1]
  have e := v_X4_airOf (P := P) (F := F) (K := K) (lo := 0) (d := np) (by have := hp.np3; omega) (by
    rw [sfr_cong (q := M 202)]
    · exact h
    · intro i _ hi
      exact hr.air (by omega))
  rw [Nat.zero_add] at e
  exact e
theorem m_clear (hp : PR P Q np nl nb ns no) (hr : RE np nl nb F M) (h : K (mClear Q M nb k)) : wp_X4_isClear P F k K := by
  refine v_X4_isClear hp.nb1 hp.nb3 ?_
  rw [nor_cong (q := pInWay (M 206) (M 207) (M 209) k (Q 241 0 - 1))]
  · exact h
  · intro i _ hi
    have hi : i < nb := by omega
    unfold pInWay
    rw [hr.how hi, hr.side hi, hr.spot hi, hp.np1, hp.np2]
end ASK
