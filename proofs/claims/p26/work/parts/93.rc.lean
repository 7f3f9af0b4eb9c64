/-! ===== the grammar of tests, on both sides at once ===== -/
section GRAM
variable {κ : Nat → Int32} {m : Nat} {val : Nat → Int64} {N0 : M2}
theorem SC.self {F : M2} {L : L2} {p : Nat} (h : SC κ m val F L p) : cT p F = F := by
  unfold cT
  rw [← h.1, up2_id]
theorem c_chain {F : M2} {L : L2} {q p1 : Nat} {i1 i2 : List IT} : cT q (cE val L i2 (cT p1 (cE val L i1 F))) = cT q (cE val L (i1 ++ i2) F) := by rw [cT_cE, cT_cT, cE_app]
theorem c_chain1 {F : M2} {L : L2} {q p1 : Nat} {i2 : List IT} : cT q (cE val L i2 (cT p1 F)) = cT q (cE val L i2 F) := by rw [cT_cE, cT_cT]
theorem c_one {F : M2} {L : L2} {q : Nat} {i1 : List IT} {x : IT} : cE1 val L (cT q (cE val L i1 F)) x = cT q (cE val L (i1 ++ [x]) F) := by
  rw [cT_cE1, cE_app]
  rfl
theorem ge1 {d n : Nat} (h : n + 1 ≤ d) : ∃ g, d = g + 1 := ⟨d - 1, by omega⟩

theorem gX2_0 (d : Nat) (F : M2) (L : L2) (x : Int32) (K : Int32 → M2 → L2 → Prop) : gX2 (d + 1) 0 F L x K = wp_X2_test (gX2 d) F L x K := by simp [gX2]
theorem gX2_1 (d : Nat) (F : M2) (L : L2) (x : Int32) (K : Int32 → M2 → L2 → Prop) : gX2 (d + 1) 1 F L x K = wp_X2_both (gX2 d) F L x K := by simp [gX2]
theorem gX2_2 (d : Nat) (F : M2) (L : L2) (x : Int32) (K : Int32 → M2 → L2 → Prop) : gX2 (d + 1) 2 F L x K = wp_X2_single (gX2 d) F L x K := by simp [gX2]
theorem gX2_3 (d : Nat) (F : M2) (L : L2) (x : Int32) (K : Int32 → M2 → L2 → Prop) : gX2 (d + 1) 3 F L x K = wp_X2_comparison (gX2 d) F L x K := by simp [gX2]
theorem gX2_4 (d : Nat) (F : M2) (L : L2) (x : Int32) (K : Int32 → M2 → L2 → Prop) : gX2 (d + 1) 4 F L x K = wp_X2_sum (gX2 d) F L x K := by simp [gX2]
theorem gX2_5 (d : Nat) (F : M2) (L : L2) (x : Int32) (K : Int32 → M2 → L2 → Prop) : gX2 (d + 1) 5 F L x K = wp_X2_product (gX2 d) F L x K := by simp [gX2]
theorem gX2_6 (d : Nat) (F : M2) (L : L2) (x : Int32) (K : Int32 → M2 → L2 → Prop) : gX2 (d + 1) 6 F L x K = wp_X2_value (gX2 d) F L x K := by simp [gX2]
theorem gX2_7 (d : Nat) (F : M2) (L : L2) (x : Int32) (K : Int32 → M2 → L2 → Prop) : gX2 (d + 1) 7 F L x K = wp_X2_inBrackets (gX2 d) F L x K := by simp [gX2]
theorem gX2_8 (d : Nat) (F : M2) (L : L2) (x : Int32) (K : Int32 → M2 → L2 → Prop) : gX2 (d + 1) 8 F L x K = wp_X2_ofTwo (gX2 d) F L x K := by simp [gX2]
end GRAM
