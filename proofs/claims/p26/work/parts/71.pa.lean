/-! ===== pure: numbers, places, loops ===== -/
theorem fK_eq : fK = 4096 := rfl
theorem tn_nI {b : Nat} (h : b < 2147483648) : (nI b).toInt.toNat = b := by rw [nI_toInt (by omega)]; rfl
theorem inb_nJ {b n : Nat} (h : b < n) (hn : n ≤ 2147483647) : inb (nI b) n := by
  unfold inb
  rw [nI_toInt (by omega)]
  omega
theorem inb_oJ {x : Int32} {n : Nat} (h : inb x n) (hn : n ≤ 2147483647) : ∃ b, b < n ∧ x = nI b := by
  obtain ⟨h1, h2⟩ := h
  refine ⟨x.toInt.toNat, by omega, ?_⟩
  have e : (nI x.toInt.toNat).toInt = x.toInt := by rw [nI_toInt (by omega)]; omega
  exact (Int32.toInt_inj.mp e).symm
theorem inb_nI_iff {b n : Nat} (h : b < 2147483648) : inb (nI b) n ↔ b < n := by
  unfold inb
  rw [nI_toInt (by omega)]
  omega
theorem inb_m1 {n : Nat} : ¬ inb (-1) n := by
  unfold inb
  intro h
  exact absurd h.1 (by decide)
theorem atv_nI {f : Nat → Int32} {n b : Nat} (h : b < n) (hn : n ≤ 2147483647) : atv f n (nI b) = f b := by
  unfold atv
  rw [if_pos (inb_nJ h hn), tn_nI (by omega)]
theorem atv_m1 {f : Nat → Int32} {n : Nat} : atv f n (-1) = 0 := by
  unfold atv
  rw [if_neg inb_m1]
theorem atv_big {f : Nat → Int32} {n b : Nat} (h : n ≤ b) (hb : b < 2147483648) : atv f n (nI b) = 0 := by
  unfold atv
  rw [if_neg (fun c => absurd ((inb_nI_iff hb).mp c) (by omega))]
theorem atl_nI {f : Nat → Int64} {n b : Nat} (h : b < n) (hn : n ≤ 2147483647) : atl f n (nI b) = f b := by
  unfold atl
  rw [if_pos (inb_nJ h hn), tn_nI (by omega)]
theorem putv_nI {f : Nat → Int32} {n b : Nat} {x : Int32} (h : b < n) (hn : n ≤ 2147483647) : putv f n (nI b) x = upd f b x := by
  unfold putv
  rw [if_pos (inb_nJ h hn), tn_nI (by omega)]
theorem putv_m1 {f : Nat → Int32} {n : Nat} {x : Int32} : putv f n (-1) x = f := by
  unfold putv
  rw [if_neg inb_m1]
theorem putl_nI {f : Nat → Int64} {n b : Nat} {x : Int64} (h : b < n) (hn : n ≤ 2147483647) : putl f n (nI b) x = vp_updL f b x := by
  unfold putl
  rw [if_pos (inb_nJ h hn), tn_nI (by omega)]
theorem up2_s (F : M2) (k : Nat) (g : Nat → Int32) : up2 F k g k = g := by simp [up2]
theorem up2_n (F : M2) {k j : Nat} (g : Nat → Int32) (h : j ≠ k) : up2 F k g j = F j := by simp [up2, h]
theorem upd_s (f : Nat → Int32) (k : Nat) (x : Int32) : upd f k x k = x := by simp [upd]
theorem upd_n (f : Nat → Int32) {k j : Nat} (x : Int32) (h : j ≠ k) : upd f k x j = f j := by simp [upd, h]
/-- numbers that are no negative ones -/
theorem nI_inj {a b : Nat} (ha : a < 2147483648) (hb : b < 2147483648) (h : nI a = nI b) : a = b := (nI_eq (by omega) (by omega)).mp h
theorem nI_ne {a b : Nat} (ha : a < 2147483648) (hb : b < 2147483648) (h : a ≠ b) : ¬ nI a = nI b := fun c => h (nI_inj ha hb c)
theorem nI_nm1 {a : Nat} (ha : a < 2147483648) : ¬ nI a = -1 := by
  intro h
  have e := congrArg Int32.toInt h
  rw [nI_toInt (by omega)] at e
  have e2 : (-1 : Int32).toInt = -1 := by decide
  omega
theorem le_nI {a b : Nat} (ha : a < 2147483648) (hb : b < 2147483648) : nI a ≤ nI b ↔ a ≤ b := nI_leI (by omega) (by omega)
theorem lt_nI {a b : Nat} (ha : a < 2147483648) (hb : b < 2147483648) : nI a < nI b ↔ a < b := nI_ltI (by omega) (by omega)
theorem fuel {d f : Nat} (h : d < f) : ∃ g, f = g + 1 ∧ d - 1 < g + (1 - d) := ⟨f - 1, by omega, by omega⟩
/-- the first of d places from j on -/
def ffr (p : Nat → Prop) [DecidablePred p] : Nat → Nat → Int32
  | 0, _ => -1
  | d + 1, j => if p j then nI j else ffr p d (j + 1)
/-- how many, added to a -/
def cfr (p : Nat → Prop) [DecidablePred p] : Nat → Nat → Int32 → Int32
  | 0, _, a => a
  | d + 1, j, a => cfr p d (j + 1) (if p j then a + 1 else a)
def sfr (g : Nat → Int32) : Nat → Nat → Int32 → Int32
  | 0, _, a => a
  | d + 1, j, a => sfr g d (j + 1) (a + g j)
def lfo {α : Type} (g : Nat → α → α) : Nat → Nat → α → α
  | 0, _, a => a
  | d + 1, j, a => lfo g d (j + 1) (g j a)
theorem ffr_cong {p q : Nat → Prop} [DecidablePred p] [DecidablePred q] : ∀ {d j : Nat}, (∀ i, j ≤ i → i < j + d → (p i ↔ q i)) → ffr p d j = ffr q d j
  | 0, _, _ => rfl
  | d + 1, j, h => by
    unfold ffr
    rw [ffr_cong (d := d) (j := j + 1) (fun i h1 h2 => h i (by omega) (by omega))]
    exact ite_congr (propext (h j (Nat.le_refl _) (by omega))) (fun _ => rfl) (fun _ => rfl)
theorem cfr_cong {p q : Nat → Prop} [DecidablePred p] [DecidablePred q] : ∀ {d j : Nat} {a : Int32}, (∀ i, j ≤ i → i < j + d → (p i ↔ q i)) → cfr p d j a = cfr q d j a
  | 0, _, _, _ => rfl
  | d + 1, j, a, h => by
    unfold cfr
    rw [cfr_cong (d := d) (j := j + 1) (fun i h1 h2 => h i (by omega) (by omega))]
    have e : (if p j then a + 1 else a) = if q j then a + 1 else a := ite_congr (propext (h j (Nat.le_refl _) (by omega))) (fun _ => rfl) (fun _ => rfl)
    rw [e]
theorem sfr_cong {p q : Nat → Int32} : ∀ {d j : Nat} {a : Int32}, (∀ i, j ≤ i → i < j + d → p i = q i) → sfr p d j a = sfr q d j a
  | 0, _, _, _ => rfl
  | d + 1, j, a, h => by
    unfold sfr
    rw [sfr_cong (d := d) (j := j + 1) (fun i h1 h2 => h i (by omega) (by omega)), h j (Nat.le_refl _) (by omega)]
theorem ffr_spec {p : Nat → Prop} [DecidablePred p] : ∀ (d j : Nat), (ffr p d j = -1 ∧ ∀ i, j ≤ i → i < j + d → ¬ p i) ∨ ∃ i, j ≤ i ∧ i < j + d ∧ p i ∧ ffr p d j = nI i ∧ ∀ k, j ≤ k → k < i → ¬ p k
  | 0, j => Or.inl ⟨rfl, fun i h1 h2 => by omega⟩
  | d + 1, j => by
    unfold ffr
    by_cases hp : p j
    · exact Or.inr ⟨j, by omega, by omega, hp, if_pos hp, fun k h1 h2 => by omega⟩
    · rw [if_neg hp]
      rcases ffr_spec (p := p) d (j + 1) with ⟨h1, h2⟩ | ⟨i, h1, h2, h3, h4, h5⟩
      · refine Or.inl ⟨h1, fun i h3 h4 => ?_⟩
        rcases Nat.lt_or_ge j i with h | h
        · exact h2 i (by omega) (by omega)
        · have : i = j := by omega
          exact this ▸ hp
      · refine Or.inr ⟨i, by omega, by omega, h3, h4, fun k h6 h7 => ?_⟩
        rcases Nat.lt_or_ge j k with h | h
        · exact h5 k (by omega) h7
        · have : k = j := by omega
          exact this ▸ hp
theorem ffr_none {p : Nat → Prop} [DecidablePred p] {d : Nat} (hd : d < 2147483648) : ffr p d 0 = -1 ↔ ∀ i, i < d → ¬ p i := by
  rcases ffr_spec (p := p) d 0 with ⟨h1, h2⟩ | ⟨i, h1, h2, h3, h4, h5⟩
  · exact ⟨fun _ i hi => h2 i (by omega) (by omega), fun _ => h1⟩
  · refine ⟨fun c => absurd (h4.symm.trans c) (nI_nm1 (by omega)), fun c => absurd h3 (c i (by omega))⟩
theorem lfo_cong {α : Type} {g h : Nat → α → α} : ∀ {d j : Nat} {a : α}, (∀ i x, j ≤ i → i < j + d → g i x = h i x) → lfo g d j a = lfo h d j a
  | 0, _, _, _ => rfl
  | d + 1, j, a, e => by
    unfold lfo
    rw [lfo_cong (d := d) (j := j + 1) (fun i x h1 h2 => e i x (by omega) (by omega)), e j a (Nat.le_refl _) (by omega)]
theorem lfo_succ {α : Type} (g : Nat → α → α) : ∀ (d j : Nat) (a : α), lfo g (d + 1) j a = g (j + d) (lfo g d j a)
  | 0, j, a => rfl
  | d + 1, j, a => by
    have e := lfo_succ g d (j + 1) (g j a)
    rw [show j + (d + 1) = j + 1 + d by omega]
    exact e
/-- a fold keeps what each step keeps -/
theorem lfo_ind {α : Type} (g : Nat → α → α) (I : Nat → α → Prop) (d : Nat) {a : α} (h0 : I 0 a) (hs : ∀ i x, i < d → I i x → I (i + 1) (g i x)) : I d (lfo g d 0 a) := by
  have key : ∀ n, n ≤ d → I n (lfo g n 0 a) := by
    intro n
    induction n with
    | zero => intro _; exact h0
    | succ n ih =>
      intro hn
      rw [lfo_succ]
      have e := hs n _ (by omega) (ih (by omega))
      rw [Nat.zero_add]
      exact e
  exact key d (Nat.le_refl _)
theorem sfr_add : ∀ {g : Nat → Int32} (d j : Nat) (a : Int32), sfr g d j a = a + sfr g d j 0
  | g, 0, j, a => by simp [sfr]
  | g, d + 1, j, a => by
    unfold sfr
    rw [sfr_add d (j + 1) (a + g j), sfr_add d (j + 1) (0 + g j), Int32.zero_add, Int32.add_assoc]
theorem cfr_add : ∀ {p : Nat → Prop} [DecidablePred p] (d j : Nat) (a : Int32), cfr p d j a = a + cfr p d j 0
  | p, _, 0, j, a => by simp [cfr]
  | p, _, d + 1, j, a => by
    unfold cfr
    rw [cfr_add d (j + 1) (if p j then a + 1 else a), cfr_add d (j + 1) (if p j then 0 + 1 else 0)]
    by_cases h : p j
    · rw [if_pos h, if_pos h, Int32.zero_add, Int32.add_assoc]
    · rw [if_neg h, if_neg h, Int32.zero_add]
/-- those that have it and those that don't -/
theorem cfr_not {p : Nat → Prop} [DecidablePred p] : ∀ (d j : Nat), cfr (fun i => ¬ p i) d j 0 = nI d - cfr p d j 0
  | 0, j => by simp [cfr, nI_0]
  | d + 1, j => by
    unfold cfr
    rw [cfr_add (p := fun i => ¬ p i) d (j + 1), cfr_add (p := p) d (j + 1), cfr_not d (j + 1), nI_succ]
    by_cases h : p j
    · rw [if_neg (fun c => c h), if_pos h, Int32.zero_add]
      generalize cfr p d (j + 1) 0 = z
      generalize nI d = y
      rw [Int32.zero_add, Int32.sub_eq_add_neg, Int32.sub_eq_add_neg, Int32.neg_add, Int32.sub_eq_add_neg]
      rw [Int32.add_assoc y 1, ← Int32.add_assoc 1 (-1), Int32.add_right_neg, Int32.zero_add]
    · rw [if_pos h, if_neg h, Int32.zero_add, Int32.zero_add]
      generalize cfr p d (j + 1) 0 = z
      generalize nI d = y
      rw [Int32.sub_eq_add_neg, Int32.sub_eq_add_neg, Int32.add_comm 1, Int32.add_assoc, Int32.add_comm (-z), Int32.add_assoc]
