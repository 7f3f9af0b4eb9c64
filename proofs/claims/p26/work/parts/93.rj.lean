/-! ===== what the tokens are good for ===== -/
section FACTS
variable {τ : Nat → Nat} {sz m : Nat}
theorem tok_KIN (hB : ∀ p, p < sz → τ p ≤ 255) (hM : LST τ sz m) : KIN (kT τ sz) m := ⟨hM.1, fun i _ => kT_vk hB i, hM.2.1, hM.2.2⟩
theorem kT_41 (hB : ∀ p, p < sz → τ p ≤ 255) {i : Nat} (h : kT τ sz i = 41) : i ≠ 400 ∧ ps τ sz i < sz ∧ ¬ isL (τ (ps τ sz i)) ∧ isD (τ (ps τ sz i)) ∧ nln τ sz (ps τ sz i) ≤ 6 := by
  obtain ⟨a, b, c⟩ := kT_lo hB (show kT τ sz i < 900 by rw [h]; decide)
  exact ⟨a, (tkd_vk (hB _)).2.2.1 (c.symm.trans h)⟩
theorem kT_word (hB : ∀ p, p < sz → τ p ≤ 255) {i : Nat} (h : kT τ sz i = 40 ∨ kT τ sz i = 12 ∨ kT τ sz i = 13) : i ≠ 400 ∧ ps τ sz i < sz ∧ isL (τ (ps τ sz i)) ∧ wln τ sz (ps τ sz i) ≤ 10 ∧ kT τ sz i = wkd τ sz (ps τ sz i) := by
  obtain ⟨a, b, c⟩ := kT_lo hB (show kT τ sz i < 900 by rcases h with h | h | h <;> rw [h] <;> decide)
  rw [c] at h ⊢
  exact ⟨a, (tkd_vk (hB _)).2.2.2 h⟩
theorem ofNat64_32 {b : Nat} (hb : b < 2147483648) : (Int64.ofNat b).toInt32 = nI b := by
  rw [← nI_64 hb, Int32.toInt32_toInt64]
theorem vT_41 (hB : ∀ p, p < sz → τ p ≤ 255) {i : Nat} (h : kT τ sz i = 41) : nbN τ (ps τ sz i) (nln τ sz (ps τ sz i)) ≤ 999999 ∧ (vT τ sz i).toInt32 = nI (nbN τ (ps τ sz i) (nln τ sz (ps τ sz i))) := by
  obtain ⟨a, b, c, d, e⟩ := kT_41 hB h
  have hd : ∀ j, j < nln τ sz (ps τ sz i) → isD (τ (ps τ sz i + j)) := fun j hj => nen_d (sz - ps τ sz i) (ps τ sz i) (ps τ sz i + j) (by omega) (by unfold nln at hj; omega)
  have h1 := nbN_lt (τ := τ) (ps τ sz i) (nln τ sz (ps τ sz i)) hd
  have h2 : 10 ^ nln τ sz (ps τ sz i) ≤ 10 ^ 6 := Nat.pow_le_pow_right (by decide) e
  have h3 : 10 ^ 6 = 1000000 := by decide
  refine ⟨by omega, ?_⟩
  unfold vT tvl
  rw [if_neg a, if_neg (by omega), if_neg c, if_pos d, if_pos e, nbI_N _ _ hd, ofNat64_32 (by omega)]
theorem tok_SID (hB : ∀ p, p < sz → τ p ≤ 255) : SID (kT τ sz) m (vT τ sz) := fun i _ => by
  refine ⟨fun h => ?_, fun h => ?_⟩
  · obtain ⟨a, b, c, d, e⟩ := kT_word hB (Or.inr (Or.inl h))
    unfold vT tvl
    rw [if_neg a, if_neg (by omega), if_pos c, if_pos d, if_pos (e.symm.trans h)]
    decide
  · obtain ⟨a, b, c, d, e⟩ := kT_word hB (Or.inr (Or.inr h))
    unfold vT tvl
    rw [if_neg a, if_neg (by omega), if_pos c, if_pos d, if_neg (by rw [e.symm.trans h]; decide), if_pos (e.symm.trans h)]
    decide
end FACTS
