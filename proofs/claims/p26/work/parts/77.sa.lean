/-! ===== counting ===== -/
section CNT
variable {P Q M : M2} {np nl nb ns no t kb : Nat} {T : Nat → List (Int32 × Int32)} {b : Nat}
theorem cfr_succ {p : Nat → Prop} [DecidablePred p] : ∀ (d j : Nat) (a : Int32), cfr p (d + 1) j a = cfr p d j a + (if p (j + d) then 1 else 0)
  | 0, j, a => by
    show (if p j then a + 1 else a) = a + (if p (j + 0) then 1 else 0)
    rw [Nat.add_zero]
    by_cases c : p j
    · rw [if_pos c, if_pos c]
    · rw [if_neg c, if_neg c, Int32.add_zero]
  | d + 1, j, a => by
    have e := cfr_succ (p := p) d (j + 1) (if p j then a + 1 else a)
    rw [show j + (d + 1) = j + 1 + d by omega]
    exact e
theorem sfr_sum {f g : Nat → Int32} : ∀ (d : Nat), sfr (fun p => f p + g p) d 0 0 = sfr f d 0 0 + sfr g d 0 0 := by
  intro d
  induction d with
  | zero => rfl
  | succ d ih =>
    rw [sfr_succ, sfr_succ, sfr_succ, ih, Nat.zero_add, Int32.add_assoc, Int32.add_assoc]
    congr 1
    rw [← Int32.add_assoc, Int32.add_comm (sfr g d 0 0) (f d), Int32.add_assoc]
theorem sfr_none {r : Nat → Prop} [DecidablePred r] : ∀ (d : Nat), (∀ p, p < d → ¬ r p) → sfr (fun p => if r p then (1 : Int32) else 0) d 0 0 = 0 := by
  intro d
  induction d with
  | zero => exact fun _ => rfl
  | succ d ih =>
    intro h
    rw [sfr_succ, ih (fun p hp => h p (by omega)), Nat.zero_add, if_neg (h d (by omega))]
    rfl
theorem sfr_one {r : Nat → Prop} [DecidablePred r] : ∀ (d : Nat) (x : Nat), x < d → r x → (∀ p, p < d → r p → p = x) → sfr (fun p => if r p then (1 : Int32) else 0) d 0 0 = 1 := by
  intro d
  induction d with
  | zero => exact fun x h => absurd h (Nat.not_lt_zero _)
  | succ d ih =>
    intro x hx hr hu
    rw [sfr_succ, Nat.zero_add]
    by_cases e : x = d
    · subst e
      rw [sfr_none x (fun p hp z => by have := hu p (by omega) z; omega), if_pos hr]
      rfl
    · rw [ih x (by omega) hr (fun p hp z => hu p (by omega) z), if_neg (fun z => e (hu d (by omega) z).symm)]
      rfl
theorem sum_swap {r : Nat → Nat → Prop} [∀ p i, Decidable (r p i)] {s : Nat → Prop} [DecidablePred s] (np : Nat) : ∀ n, (∀ i, i < n → (s i → ∃ x, x < np ∧ r x i ∧ ∀ p, p < np → r p i → p = x) ∧ (¬ s i → ∀ p, p < np → ¬ r p i)) → sfr (fun p => cfr (r p) n 0 0) np 0 0 = cfr s n 0 0 := by
  intro n
  induction n with
  | zero =>
    intro _
    have : ∀ d, sfr (fun _ => (0 : Int32)) d 0 0 = 0 := by
      intro d
      induction d with
      | zero => rfl
      | succ d ih => rw [sfr_succ, ih]; rfl
    exact this np
  | succ n ih =>
    intro h
    have e1 : sfr (fun p => cfr (r p) (n + 1) 0 0) np 0 0 = sfr (fun p => cfr (r p) n 0 0 + (if r p n then 1 else 0)) np 0 0 := sfr_cong (fun i _ _ => by rw [cfr_succ, Nat.zero_add])
    rw [e1, sfr_sum, ih (fun i hi => h i (by omega)), cfr_succ, Nat.zero_add]
    congr 1
    obtain ⟨h1, h2⟩ := h n (by omega)
    by_cases c : s n
    · obtain ⟨x, hx, hr, hu⟩ := h1 c
      rw [if_pos c]
      exact sfr_one np x hx hr hu
    · rw [if_neg c]
      exact sfr_none np (h2 c)
theorem cfr_none {p : Nat → Prop} [DecidablePred p] : ∀ (d : Nat), (∀ i, i < d → ¬ p i) → cfr p d 0 0 = 0 := by
  intro d
  induction d with
  | zero => exact fun _ => rfl
  | succ d ih =>
    intro h
    rw [cfr_succ, ih (fun i hi => h i (by omega)), Nat.zero_add, if_neg (h d (by omega))]
    rfl
theorem cfr_one {p : Nat → Prop} [DecidablePred p] : ∀ (d x : Nat), x < d → p x → (∀ i, i < d → p i → i = x) → cfr p d 0 0 = 1 := by
  intro d
  induction d with
  | zero => exact fun x h => absurd h (Nat.not_lt_zero _)
  | succ d ih =>
    intro x hx hr hu
    rw [cfr_succ, Nat.zero_add]
    by_cases e : x = d
    · subst e
      rw [cfr_none x (fun i hi z => by have := hu i (by omega) z; omega), if_pos hr]
      rfl
    · rw [ih x (by omega) hr (fun i hi z => hu i (by omega) z), if_neg (fun z => e (hu d (by omega) z).symm)]
      rfl
/-- at how many places a boat is -/
def tkV (M : M2) (nb p : Nat) : Int32 := if mBoatAt M nb (nI p) < 0 then 0 else 1
theorem tk_sum (hp : PR P Q np nl nb ns no) (hI : INV Q M np nl nb nb) : sfr (tkV M nb) np 0 0 = mThose M nb 1 := by
  have h8 := hp.nb3
  have h60 := hp.np3
  have e : ∀ p, p < np → tkV M nb p = cfr (pBoatAt (M 206) (M 209) (nI p)) nb 0 0 := fun p hpn => by
    unfold tkV
    by_cases c : mBoatAt M nb (nI p) = -1
    · rw [if_pos ((at_neg h8).mpr c), cfr_none]
      intro i hi z
      exact (mBoatAt_none h8).mp c i hi z.1 z.2
    · rw [if_neg (fun z => c ((at_neg h8).mp z))]
      have hx : ∃ x, x < nb ∧ M 206 x = 1 ∧ M 209 x = nI p := Decidable.byContradiction (fun z => c ((mBoatAt_none h8).mpr (fun i hi h1 h2 => z ⟨i, hi, h1, h2⟩)))
      obtain ⟨x, hx, h1, h2⟩ := hx
      rw [cfr_one nb x hx ⟨h1, h2⟩]
      intro i hi z
      exact Decidable.byContradiction (fun w => hI.2.2.2.1 i x hi hx w z.1 h1 (z.2.trans h2.symm))
  rw [sfr_cong (q := fun p => cfr (pBoatAt (M 206) (M 209) (nI p)) nb 0 0) (fun i _ hi => e i (by omega))]
  refine sum_swap (r := fun p i => pBoatAt (M 206) (M 209) (nI p) i) (s := pIs (M 206) 1) np nb (fun i hi => ⟨fun h1 => ?_, fun h1 p hpn z => h1 z.1⟩)
  obtain ⟨p, hpn, hat⟩ := spot_of hI hi h1
  exact ⟨p, hpn, ⟨h1, hat⟩, fun p' hp' z => nI_inj (by omega) (by omega) (z.2.symm.trans hat)⟩
theorem cap_sum (hp : PR P Q np nl nb ns no) (hc : ICP M np nl) : sfr (fun p => mCapsAt M nl (nI p)) np 0 0 = nI nl - mCapsAt M nl (-1) := by
  have h60 := hp.np3
  unfold mCapsAt
  rw [← cfr_not]
  refine sum_swap (r := fun p i => pIs (M 204) (nI p) i) (s := fun i => ¬ pIs (M 204) (-1) i) np nl (fun i hi => ⟨fun h1 => ?_, fun h1 p hpn z => ?_⟩)
  · obtain ⟨p, hpn, e⟩ := (hc i hi).resolve_left h1
    exact ⟨p, hpn, e, fun p' hp' z => nI_inj (by omega) (by omega) (z.symm.trans e)⟩
  · have h1 := Decidable.byContradiction h1
    exact nI_nm1 (by omega) (z.symm.trans h1)
theorem those_all (h : ∀ b, b < nb → M 206 b = 0 ∨ M 206 b = 1 ∨ M 206 b = 2) : ∀ d, d ≤ nb → cfr (pIs (M 206) 0) d 0 0 + cfr (pIs (M 206) 1) d 0 0 + cfr (pIs (M 206) 2) d 0 0 = nI d := by
  intro d
  induction d with
  | zero => exact fun _ => rfl
  | succ d ih =>
    intro hd
    have e := ih (by omega)
    rw [cfr_succ, cfr_succ, cfr_succ, Nat.zero_add, nI_succ, ← e]
    generalize cfr (pIs (M 206) 0) d 0 0 = x
    generalize cfr (pIs (M 206) 1) d 0 0 = y
    generalize cfr (pIs (M 206) 2) d 0 0 = z
    unfold pIs
    rcases h d (by omega) with c | c | c
    · rw [c, if_pos rfl, if_neg (by decide), if_neg (by decide), Int32.add_zero, Int32.add_zero, Int32.add_assoc x 1 y, Int32.add_comm 1 y, ← Int32.add_assoc x y 1, Int32.add_assoc (x + y) 1 z, Int32.add_comm 1 z, ← Int32.add_assoc (x + y) z 1]
    · rw [c, if_pos rfl, if_neg (by decide), if_neg (by decide), Int32.add_zero, Int32.add_zero, ← Int32.add_assoc x y 1, Int32.add_assoc (x + y) 1 z, Int32.add_comm 1 z, ← Int32.add_assoc (x + y) z 1]
    · rw [c, if_pos rfl, if_neg (by decide), if_neg (by decide), Int32.add_zero, Int32.add_zero, ← Int32.add_assoc (x + y) z 1]
/-- the worst place -/
theorem wF_spec {A : Nat → Int32} : ∀ (d p : Nat) (b : Int32), p + d = np → np ≤ 60 → 0 < np → (b = -1 ∧ p = 0) ∨ (∃ w, w < p ∧ b = nI w ∧ ∀ i, i < p → A w ≤ A i) → ∃ w, w < np ∧ wF A d p b = nI w ∧ ∀ i, i < np → A w ≤ A i
  | 0, p, b, hp, h60, h0, h => by
    have : p = np := by omega
    subst this
    rcases h with ⟨_, z⟩ | ⟨w, hw, e, hm⟩
    · omega
    · exact ⟨w, hw, e, hm⟩
  | d + 1, p, b, hp, h60, h0, h => by
    have e : wF A (d + 1) p b = wF A d (p + 1) (if b = -1 then nI p else if A b.toInt.toNat ≤ A p then b else nI p) := rfl
    rw [e]
    refine wF_spec d (p + 1) _ (by omega) h60 h0 (Or.inr ?_)
    rcases h with ⟨rfl, rfl⟩ | ⟨w, hw, rfl, hm⟩
    · rw [if_pos rfl]
      exact ⟨0, by omega, rfl, fun i hi => by rw [show i = 0 by omega]; exact Int32.le_refl _⟩
    · rw [if_neg (nI_nm1 (by omega)), tn_nI (by omega)]
      by_cases c : A w ≤ A p
      · rw [if_pos c]
        refine ⟨w, by omega, rfl, fun i hi => ?_⟩
        by_cases ei : i = p
        · rw [ei]; exact c
        · exact hm i (by omega)
      · rw [if_neg c]
        have c' := Int32.le_of_lt (Int32.not_le.mp c)
        refine ⟨p, by omega, rfl, fun i hi => ?_⟩
        by_cases ei : i = p
        · rw [ei]; exact Int32.le_refl _
        · exact Int32.le_trans c' (hm i (by omega))
/-! until -/
theorem unt_shift {U : M2} : ∀ (d i : Nat) (X : M2), untV T U np nl nb ns no b d (i + 1) X = -1 ∨ ∃ j, i ≤ j ∧ j < i + d ∧ untV T U np nl nb ns no b d (i + 1) X = nI (j + 1) ∧ untV T U np nl nb ns no b (d + 1) i X = nI j
  | 0, _, _ => Or.inl rfl
  | d + 1, i, X => by
    have e1 : untV T U np nl nb ns no b (d + 1) (i + 1) X = if X 206 b = 2 then nI (i + 1) else untV T U np nl nb ns no b d (i + 2) (mMin T U X np nl nb ns no) := rfl
    have e2 : untV T U np nl nb ns no b (d + 2) i X = if X 206 b = 2 then nI i else untV T U np nl nb ns no b (d + 1) (i + 1) (mMin T U X np nl nb ns no) := rfl
    rw [e1]
    by_cases c : X 206 b = 2
    · rw [if_pos c]
      exact Or.inr ⟨i, Nat.le_refl _, by omega, rfl, by rw [e2, if_pos c]⟩
    · rw [if_neg c]
      rcases unt_shift d (i + 1) (mMin T U X np nl nb ns no) with h | ⟨j, h1, h2, h3, h4⟩
      · exact Or.inl h
      · exact Or.inr ⟨j, by omega, by omega, h3, by rw [e2, if_neg c]; exact h4⟩
end CNT
