theorem ul2_s (L : L2) (k : Nat) (g : Nat → Int64) : ul2 L k g k = g := by simp [ul2]
theorem ul2_n (L : L2) {k j : Nat} (g : Nat → Int64) (h : j ≠ k) : ul2 L k g j = L j := by simp [ul2, h]
theorem first_fail (M : Nat → Prop) : ∀ len : Nat, ∃ n, n ≤ len ∧ (∀ j, j < n → M j) ∧ (n < len → ¬ M n)
  | 0 => ⟨0, Nat.le_refl _, fun j h => absurd h (Nat.not_lt_zero _), fun h => absurd h (Nat.not_lt_zero _)⟩
  | len + 1 => by
    obtain ⟨n, h1, h2, h3⟩ := first_fail M len
    rcases Nat.lt_or_ge n len with h | h
    · exact ⟨n, by omega, h2, fun _ => h3 h⟩
    · have e : n = len := by omega
      subst e
      rcases Classical.em (M n) with hm | hm
      · refine ⟨n + 1, Nat.le_refl _, fun j hj => ?_, fun z => absurd z (Nat.lt_irrefl _)⟩
        rcases Nat.lt_or_ge j n with h5 | h5
        · exact h2 j h5
        · have : j = n := by omega
          rw [this]
          exact hm
      · exact ⟨n, by omega, h2, fun _ => hm⟩
