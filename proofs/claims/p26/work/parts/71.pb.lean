/-! ===== values of the questions ===== -/
theorem z0 : (0 : Int32).toInt.toNat = 0 := by decide
theorem e10 : ((1 : Int32) = 0) = False := eq_false (by decide)
theorem z1 : (1 : Int32).toInt.toNat = 1 := by decide
theorem o2 : Int32.ofNat 2 = nI 2 := rfl
/-- 1 if none of d places from j on has it -/
def nor (p : Nat → Prop) [DecidablePred p] : Nat → Nat → Int32
  | 0, _ => 1
  | d + 1, j => if p j then 0 else nor p d (j + 1)
theorem nor_cong {p q : Nat → Prop} [DecidablePred p] [DecidablePred q] : ∀ {d j : Nat}, (∀ i, j ≤ i → i < j + d → (p i ↔ q i)) → nor p d j = nor q d j
  | 0, _, _ => rfl
  | d + 1, j, h => by
    unfold nor
    rw [nor_cong (d := d) (j := j + 1) (fun i h1 h2 => h i (by omega) (by omega))]
    exact ite_congr (propext (h j (Nat.le_refl _) (by omega))) (fun _ => rfl) (fun _ => rfl)
theorem nor_spec {p : Nat → Prop} [DecidablePred p] : ∀ (d j : Nat), (nor p d j = 1 ∧ ∀ i, j ≤ i → i < j + d → ¬ p i) ∨ (nor p d j = 0 ∧ ∃ i, j ≤ i ∧ i < j + d ∧ p i)
  | 0, j => Or.inl ⟨rfl, fun i h1 h2 => by omega⟩
  | d + 1, j => by
    unfold nor
    by_cases hp : p j
    · exact Or.inr ⟨if_pos hp, j, by omega, by omega, hp⟩
    · rw [if_neg hp]
      rcases nor_spec (p := p) d (j + 1) with ⟨h1, h2⟩ | ⟨h1, i, h2, h3, h4⟩
      · refine Or.inl ⟨h1, fun i h3 h4 => ?_⟩
        rcases Nat.lt_or_ge j i with h | h
        · exact h2 i (by omega) (by omega)
        · have : i = j := by omega
          exact this ▸ hp
      · exact Or.inr ⟨h1, i, by omega, by omega, h4⟩
abbrev pIs (is : Nat → Int32) (k : Int32) (i : Nat) : Prop := is i = k
abbrev pBoatAt (is at_ : Nat → Int32) (k : Int32) (i : Nat) : Prop := is i = 1 ∧ at_ i = k
abbrev pBoatOf (is c0 c1 : Nat → Int32) (k : Int32) (i : Nat) : Prop := is i = 1 ∧ (c0 i = k ∨ c1 i = k)
abbrev pWaits (is en du : Nat → Int32) (e t : Int32) (i : Nat) : Prop := is i = 0 ∧ en i = e ∧ ¬ t < du i
abbrev pInWay (is en at_ : Nat → Int32) (e m : Int32) (i : Nat) : Prop := is i = 1 ∧ ¬ (en i = e ∧ 4 ≤ (if e = 0 then at_ i else m - at_ i))

theorem l_X4_boatsThatAre {P F : M2} {K : Int32 → Prop} {n : Nat} {k : Int32} (hn : P 24 0 = nI n) (hb : n ≤ 8) : ∀ (d j f : Nat) (a : Int32), j + d = n → d < f → K (cfr (pIs (F 10) k) d j a) → wl_X4_boatsThatAre_4 P F K f k a (nI j) := by
  intro d
  induction d with
  | zero =>
    intro j f a hj hf h
    obtain ⟨f, rfl, _⟩ := fuel hf
    exact And.intro (fun _ => h) (fun c => absurd (by rw [hn]; exact nI_le (by omega) (by omega)) c)
  | succ d ih =>
    intro j f a hj hf h
    obtain ⟨f, rfl, _⟩ := fuel hf
    refine And.intro (fun c => absurd c (by rw [hn]; exact nI_ge (by omega) (by omega))) (fun _ => ?_)
    have ih := ih (j + 1) f
    have a8 : ∀ g : Nat → Int32, atv g 8 (nI j) = g j := fun g => atv_nI (by omega) (by decide)
    unfold cfr at h
    simp only [a8, forall_eq, nI_1, Int32.add_zero]
    rcases Classical.propComplete (F 10 j = k) with c0 | c0 <;> simp only [pIs, pBoatAt, pBoatOf, pWaits, pInWay, c0, e10, eq_self, not_true_eq_false, not_false_eq_true, if_true, if_false, true_and, and_true, false_and, and_false, true_or, false_or, or_true, or_false, true_implies, false_implies, implies_true] at h ⊢ <;> first | exact h | exact ih _ (by omega) (by omega) h
theorem v_X4_boatsThatAre {P F : M2} {n : Nat} {k : Int32} (hn : P 24 0 = nI n) (hb : n ≤ 8) {K : Int32 → Prop} (h : K (cfr (pIs (F 10) k) n 0 0)) : wp_X4_boatsThatAre P F k K := l_X4_boatsThatAre hn hb n 0 fK 0 (by omega) (by rw [fK_eq]; omega) h
theorem l_X4_capsThatLie {P F : M2} {K : Int32 → Prop} {n : Nat} (hn : P 23 0 = nI n) (hb : n ≤ 6) : ∀ (d j f : Nat) (a : Int32), j + d = n → d < f → K (cfr (fun i => ¬ F 7 i = -1) d j a) → wl_X4_capsThatLie_4 P F K f a (nI j) := by
  intro d
  induction d with
  | zero =>
    intro j f a hj hf h
    obtain ⟨f, rfl, _⟩ := fuel hf
    exact And.intro (fun _ => h) (fun c => absurd (by rw [hn]; exact nI_le (by omega) (by omega)) c)
  | succ d ih =>
    intro j f a hj hf h
    obtain ⟨f, rfl, _⟩ := fuel hf
    refine And.intro (fun c => absurd c (by rw [hn]; exact nI_ge (by omega) (by omega))) (fun _ => ?_)
    have ih := ih (j + 1) f
    have a6 : ∀ g : Nat → Int32, atv g 6 (nI j) = g j := fun g => atv_nI (by omega) (by decide)
    unfold cfr at h
    simp only [a6, forall_eq, nI_1, Int32.add_zero]
    rcases Classical.propComplete (F 7 j = -1) with c0 | c0 <;> simp only [pIs, pBoatAt, pBoatOf, pWaits, pInWay, c0, e10, eq_self, not_true_eq_false, not_false_eq_true, if_true, if_false, true_and, and_true, false_and, and_false, true_or, false_or, or_true, or_false, true_implies, false_implies, implies_true] at h ⊢ <;> first | exact h | exact ih _ (by omega) (by omega) h
theorem v_X4_capsThatLie {P F : M2} {n : Nat} (hn : P 23 0 = nI n) (hb : n ≤ 6) {K : Int32 → Prop} (h : K (cfr (fun i => ¬ F 7 i = -1) n 0 0)) : wp_X4_capsThatLie P F K := l_X4_capsThatLie hn hb n 0 fK 0 (by omega) (by rw [fK_eq]; omega) h
theorem l_X4_airOf {P F : M2} {K : Int32 → Prop} {n : Nat} (hb : n ≤ 60) : ∀ (d j f : Nat) (a : Int32), j + d = n → d < f → K (sfr (F 4) d j a) → wl_X4_airOf_5 P F K f (nI n) a (nI j) := by
  intro d
  induction d with
  | zero =>
    intro j f a hj hf h
    obtain ⟨f, rfl, _⟩ := fuel hf
    exact And.intro (fun _ => h) (fun c => absurd (by  exact nI_le (by omega) (by omega)) c)
  | succ d ih =>
    intro j f a hj hf h
    obtain ⟨f, rfl, _⟩ := fuel hf
    refine And.intro (fun c => absurd c (by  exact nI_ge (by omega) (by omega))) (fun _ => ?_)
    have ih := ih (j + 1) f
    have a60 : ∀ g : Nat → Int32, atv g 60 (nI j) = g j := fun g => atv_nI (by omega) (by decide)
    unfold sfr at h
    simp only [a60, forall_eq, nI_1, Int32.add_zero]
    exact ih _ (by omega) (by omega) h
theorem l_X4_capsAt {P F : M2} {K : Int32 → Prop} {n : Nat} {k : Int32} (hn : P 23 0 = nI n) (hb : n ≤ 6) : ∀ (d j f : Nat) (a : Int32), j + d = n → d < f → K (cfr (pIs (F 7) k) d j a) → wl_X4_capsAt_4 P F K f k a (nI j) := by
  intro d
  induction d with
  | zero =>
    intro j f a hj hf h
    obtain ⟨f, rfl, _⟩ := fuel hf
    exact And.intro (fun _ => h) (fun c => absurd (by rw [hn]; exact nI_le (by omega) (by omega)) c)
  | succ d ih =>
    intro j f a hj hf h
    obtain ⟨f, rfl, _⟩ := fuel hf
    refine And.intro (fun c => absurd c (by rw [hn]; exact nI_ge (by omega) (by omega))) (fun _ => ?_)
    have ih := ih (j + 1) f
    have a6 : ∀ g : Nat → Int32, atv g 6 (nI j) = g j := fun g => atv_nI (by omega) (by decide)
    unfold cfr at h
    simp only [a6, forall_eq, nI_1, Int32.add_zero]
    rcases Classical.propComplete (F 7 j = k) with c0 | c0 <;> simp only [pIs, pBoatAt, pBoatOf, pWaits, pInWay, c0, e10, eq_self, not_true_eq_false, not_false_eq_true, if_true, if_false, true_and, and_true, false_and, and_false, true_or, false_or, or_true, or_false, true_implies, false_implies, implies_true] at h ⊢ <;> first | exact h | exact ih _ (by omega) (by omega) h
theorem v_X4_capsAt {P F : M2} {n : Nat} {k : Int32} (hn : P 23 0 = nI n) (hb : n ≤ 6) {K : Int32 → Prop} (h : K (cfr (pIs (F 7) k) n 0 0)) : wp_X4_capsAt P F k K := l_X4_capsAt hn hb n 0 fK 0 (by omega) (by rw [fK_eq]; omega) h
theorem l_X4_boatAt {P F : M2} {K : Int32 → Prop} {n : Nat} {k : Int32} (hn : P 24 0 = nI n) (hb : n ≤ 8) : ∀ (d j f : Nat), j + d = n → d < f → K (ffr (pBoatAt (F 10) (F 11) k) d j) → wl_X4_boatAt_2 P F K f k (nI j) := by
  intro d
  induction d with
  | zero =>
    intro j f hj hf h
    obtain ⟨f, rfl, _⟩ := fuel hf
    exact And.intro (fun _ => h) (fun c => absurd (by rw [hn]; exact nI_le (by omega) (by omega)) c)
  | succ d ih =>
    intro j f hj hf h
    obtain ⟨f, rfl, _⟩ := fuel hf
    refine And.intro (fun c => absurd c (by rw [hn]; exact nI_ge (by omega) (by omega))) (fun _ => ?_)
    have ih := ih (j + 1) f
    have a8 : ∀ g : Nat → Int32, atv g 8 (nI j) = g j := fun g => atv_nI (by omega) (by decide)
    unfold ffr at h
    simp only [a8, forall_eq, nI_1, Int32.add_zero]
    rcases Classical.propComplete (F 10 j = 1) with c0 | c0 <;> rcases Classical.propComplete (F 11 j = k) with c1 | c1 <;> simp only [pIs, pBoatAt, pBoatOf, pWaits, pInWay, c0, c1, e10, eq_self, not_true_eq_false, not_false_eq_true, if_true, if_false, true_and, and_true, false_and, and_false, true_or, false_or, or_true, or_false, true_implies, false_implies, implies_true] at h ⊢ <;> first | exact h | exact ih (by omega) (by omega) h
theorem v_X4_boatAt {P F : M2} {n : Nat} {k : Int32} (hn : P 24 0 = nI n) (hb : n ≤ 8) {K : Int32 → Prop} (h : K (ffr (pBoatAt (F 10) (F 11) k) n 0)) : wp_X4_boatAt P F k K := l_X4_boatAt hn hb n 0 fK (by omega) (by rw [fK_eq]; omega) h
theorem l_X4_boatOf {P F : M2} {K : Int32 → Prop} {n : Nat} {k : Int32} (hn : P 24 0 = nI n) (hb : n ≤ 8) : ∀ (d j f : Nat), j + d = n → d < f → K (ffr (pBoatOf (F 10) (P 36) (P 37) k) d j) → wl_X4_boatOf_2 P F K f k (nI j) := by
  intro d
  induction d with
  | zero =>
    intro j f hj hf h
    obtain ⟨f, rfl, _⟩ := fuel hf
    exact And.intro (fun _ => h) (fun c => absurd (by rw [hn]; exact nI_le (by omega) (by omega)) c)
  | succ d ih =>
    intro j f hj hf h
    obtain ⟨f, rfl, _⟩ := fuel hf
    refine And.intro (fun c => absurd c (by rw [hn]; exact nI_ge (by omega) (by omega))) (fun _ => ?_)
    have ih := ih (j + 1) f
    have a8 : ∀ g : Nat → Int32, atv g 8 (nI j) = g j := fun g => atv_nI (by omega) (by decide)
    unfold ffr at h
    simp only [a8, forall_eq, nI_1, Int32.add_zero, wp_X1_isCrew]
    rcases Classical.propComplete (F 10 j = 1) with c0 | c0 <;> rcases Classical.propComplete (P 36 j = k) with c1 | c1 <;> rcases Classical.propComplete (P 37 j = k) with c2 | c2 <;> simp only [pIs, pBoatAt, pBoatOf, pWaits, pInWay, c0, c1, c2, e10, eq_self, not_true_eq_false, not_false_eq_true, if_true, if_false, true_and, and_true, false_and, and_false, true_or, false_or, or_true, or_false, true_implies, false_implies, implies_true] at h ⊢ <;> first | exact h | exact ih (by omega) (by omega) h
theorem v_X4_boatOf {P F : M2} {n : Nat} {k : Int32} (hn : P 24 0 = nI n) (hb : n ≤ 8) {K : Int32 → Prop} (h : K (ffr (pBoatOf (F 10) (P 36) (P 37) k) n 0)) : wp_X4_boatOf P F k K := l_X4_boatOf hn hb n 0 fK (by omega) (by rw [fK_eq]; omega) h
theorem l_X4_isClear {P F : M2} {K : Int32 → Prop} {n : Nat} {k : Int32} (hn : P 24 0 = nI n) (hb : n ≤ 8) : ∀ (d j f : Nat), j + d = n → d < f → K (nor (pInWay (F 10) (F 8) (F 11) k (P 21 0 - 1)) d j) → wl_X4_isClear_2 P F K f k (nI j) := by
  intro d
  induction d with
  | zero =>
    intro j f hj hf h
    obtain ⟨f, rfl, _⟩ := fuel hf
    exact And.intro (fun _ => h) (fun c => absurd (by rw [hn]; exact nI_le (by omega) (by omega)) c)
  | succ d ih =>
    intro j f hj hf h
    obtain ⟨f, rfl, _⟩ := fuel hf
    refine And.intro (fun c => absurd c (by rw [hn]; exact nI_ge (by omega) (by omega))) (fun _ => ?_)
    have ih := ih (j + 1) f
    have a8 : ∀ g : Nat → Int32, atv g 8 (nI j) = g j := fun g => atv_nI (by omega) (by decide)
    unfold nor at h
    simp only [a8, forall_eq, nI_1, Int32.add_zero, wj_X4_isClear_53]
    rcases Classical.propComplete (F 10 j = 1) with c0 | c0 <;> rcases Classical.propComplete (k = 0) with c1 | c1 <;> rcases Classical.propComplete (F 8 j = k) with c2 | c2 <;> rcases Classical.propComplete (4 ≤ F 11 j) with c3 | c3 <;> rcases Classical.propComplete (4 ≤ P 21 0 - 1 - F 11 j) with c4 | c4 <;> simp only [pIs, pBoatAt, pBoatOf, pWaits, pInWay, c0, c1, c2, c3, c4, e10, eq_self, not_true_eq_false, not_false_eq_true, if_true, if_false, true_and, and_true, false_and, and_false, true_or, false_or, or_true, or_false, true_implies, false_implies, implies_true] at h ⊢ <;> first | exact h | exact ih (by omega) (by omega) h
theorem v_X4_isClear {P F : M2} {n : Nat} {k : Int32} (hn : P 24 0 = nI n) (hb : n ≤ 8) {K : Int32 → Prop} (h : K (nor (pInWay (F 10) (F 8) (F 11) k (P 21 0 - 1)) n 0)) : wp_X4_isClear P F k K := l_X4_isClear hn hb n 0 fK (by omega) (by rw [fK_eq]; omega) h
theorem l_X4_waitingAt {P F : M2} {K : Int32 → Prop} {n : Nat} {k : Int32} (hn : P 24 0 = nI n) (hb : n ≤ 8) : ∀ (d j f : Nat) (a : Int32), j + d = n → d < f → K (cfr (pWaits (F 10) (F 8) (F 9) k (F 1 0)) d j a) → wl_X4_waitingAt_4 P F K f k a (nI j) := by
  intro d
  induction d with
  | zero =>
    intro j f a hj hf h
    obtain ⟨f, rfl, _⟩ := fuel hf
    exact And.intro (fun _ => h) (fun c => absurd (by rw [hn]; exact nI_le (by omega) (by omega)) c)
  | succ d ih =>
    intro j f a hj hf h
    obtain ⟨f, rfl, _⟩ := fuel hf
    refine And.intro (fun c => absurd c (by rw [hn]; exact nI_ge (by omega) (by omega))) (fun _ => ?_)
    have ih := ih (j + 1) f
    have a8 : ∀ g : Nat → Int32, atv g 8 (nI j) = g j := fun g => atv_nI (by omega) (by decide)
    unfold cfr at h
    simp only [a8, forall_eq, nI_1, Int32.add_zero]
    rcases Classical.propComplete (F 8 j = k) with c0 | c0 <;> rcases Classical.propComplete (F 10 j = 0) with c1 | c1 <;> rcases Classical.propComplete (F 1 0 < F 9 j) with c2 | c2 <;> simp only [pIs, pBoatAt, pBoatOf, pWaits, pInWay, c0, c1, c2, e10, eq_self, not_true_eq_false, not_false_eq_true, if_true, if_false, true_and, and_true, false_and, and_false, true_or, false_or, or_true, or_false, true_implies, false_implies, implies_true] at h ⊢ <;> first | exact h | exact ih _ (by omega) (by omega) h
theorem v_X4_waitingAt {P F : M2} {n : Nat} {k : Int32} (hn : P 24 0 = nI n) (hb : n ≤ 8) {K : Int32 → Prop} (h : K (cfr (pWaits (F 10) (F 8) (F 9) k (F 1 0)) n 0 0)) : wp_X4_waitingAt P F k K := l_X4_waitingAt hn hb n 0 fK 0 (by omega) (by rw [fK_eq]; omega) h
theorem v_X4_airOf {P F : M2} {K : Int32 → Prop} {lo d : Nat} (hb : lo + d ≤ 60) (h : K (sfr (F 4) d lo 0)) : wp_X4_airOf P F (nI lo) (nI (lo + d)) K := l_X4_airOf hb d lo fK 0 rfl (by rw [fK_eq]; omega) h
