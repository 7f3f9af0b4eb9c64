/-! ===== the bytes of a word fed ===== -/
section FED
def clB (x s : Int32) : Int32 := ((((x.toUInt32 >>> (s.toUInt32 &&& Int32.toUInt32 31)).toInt32).toInt8.toInt32).toInt8.toInt32)
theorem b255 {i : Nat} (h : 8 ≤ i) : (255#32).getLsbD i = false := by
  rw [BitVec.getLsbD_ofNat]
  have : Nat.testBit 255 i = false := Nat.testBit_lt_two_pow (Nat.lt_of_lt_of_le (by decide : 255 < 2 ^ 8) (Nat.pow_le_pow_right (by decide) h))
  rw [this, Bool.and_false]
theorem clB_24 (x : Int32) : (clB x 24) &&& (255 : Int32) = (x >>> (24 : Int32)) &&& (255 : Int32) := by
  apply Int32.toBitVec_inj.mp
  unfold clB
  apply BitVec.eq_of_getLsbD_eq
  intro i hi
  have e31 : (Int32.toUInt32 24 &&& Int32.toUInt32 31) = 24 := by decide
  rw [e31]
  have hc : i = 0 ∨ i = 1 ∨ i = 2 ∨ i = 3 ∨ i = 4 ∨ i = 5 ∨ i = 6 ∨ i = 7 ∨ 8 ≤ i := by omega
  rcases hc with rfl | rfl | rfl | rfl | rfl | rfl | rfl | rfl | h
  rotate_right
  · have h255 : (255 : Int32).toBitVec.getLsbD i = false := b255 h
    rw [Int32.toBitVec_and, Int32.toBitVec_and, BitVec.getLsbD_and, BitVec.getLsbD_and, h255, Bool.and_false, Bool.and_false]
  all_goals simp [BitVec.getElem_signExtend, BitVec.getElem_sshiftRight]
theorem clB_16 (x : Int32) : (clB x 16) &&& (255 : Int32) = (x >>> (16 : Int32)) &&& (255 : Int32) := by
  apply Int32.toBitVec_inj.mp
  unfold clB
  apply BitVec.eq_of_getLsbD_eq
  intro i hi
  have e31 : (Int32.toUInt32 16 &&& Int32.toUInt32 31) = 16 := by decide
  rw [e31]
  have hc : i = 0 ∨ i = 1 ∨ i = 2 ∨ i = 3 ∨ i = 4 ∨ i = 5 ∨ i = 6 ∨ i = 7 ∨ 8 ≤ i := by omega
  rcases hc with rfl | rfl | rfl | rfl | rfl | rfl | rfl | rfl | h
  rotate_right
  · have h255 : (255 : Int32).toBitVec.getLsbD i = false := b255 h
    rw [Int32.toBitVec_and, Int32.toBitVec_and, BitVec.getLsbD_and, BitVec.getLsbD_and, h255, Bool.and_false, Bool.and_false]
  all_goals simp [BitVec.getElem_signExtend, BitVec.getElem_sshiftRight]
theorem clB_8 (x : Int32) : (clB x 8) &&& (255 : Int32) = (x >>> (8 : Int32)) &&& (255 : Int32) := by
  apply Int32.toBitVec_inj.mp
  unfold clB
  apply BitVec.eq_of_getLsbD_eq
  intro i hi
  have e31 : (Int32.toUInt32 8 &&& Int32.toUInt32 31) = 8 := by decide
  rw [e31]
  have hc : i = 0 ∨ i = 1 ∨ i = 2 ∨ i = 3 ∨ i = 4 ∨ i = 5 ∨ i = 6 ∨ i = 7 ∨ 8 ≤ i := by omega
  rcases hc with rfl | rfl | rfl | rfl | rfl | rfl | rfl | rfl | h
  rotate_right
  · have h255 : (255 : Int32).toBitVec.getLsbD i = false := b255 h
    rw [Int32.toBitVec_and, Int32.toBitVec_and, BitVec.getLsbD_and, BitVec.getLsbD_and, h255, Bool.and_false, Bool.and_false]
  all_goals simp [BitVec.getElem_signExtend, BitVec.getElem_sshiftRight]
theorem clB_0 (x : Int32) : (clB x 0) &&& (255 : Int32) = (x >>> (0 : Int32)) &&& (255 : Int32) := by
  apply Int32.toBitVec_inj.mp
  unfold clB
  apply BitVec.eq_of_getLsbD_eq
  intro i hi
  have e31 : (Int32.toUInt32 0 &&& Int32.toUInt32 31) = 0 := by decide
  rw [e31]
  have hc : i = 0 ∨ i = 1 ∨ i = 2 ∨ i = 3 ∨ i = 4 ∨ i = 5 ∨ i = 6 ∨ i = 7 ∨ 8 ≤ i := by omega
  rcases hc with rfl | rfl | rfl | rfl | rfl | rfl | rfl | rfl | h
  rotate_right
  · have h255 : (255 : Int32).toBitVec.getLsbD i = false := b255 h
    rw [Int32.toBitVec_and, Int32.toBitVec_and, BitVec.getLsbD_and, BitVec.getLsbD_and, h255, Bool.and_false, Bool.and_false]
  all_goals simp [BitVec.getElem_signExtend, BitVec.getElem_sshiftRight]
theorem and255 (y : Int32) : ∃ b, b ≤ 255 ∧ y &&& (255 : Int32) = nI b := by
  refine ⟨(y.toBitVec &&& 255#32).toNat, ?_, ?_⟩
  · rw [BitVec.toNat_and]
    exact Nat.and_le_right
  · apply Int32.toBitVec_inj.mp
    rw [Int32.toBitVec_and]
    show y.toBitVec &&& 255#32 = BitVec.ofNat 32 (y.toBitVec &&& 255#32).toNat
    rw [BitVec.ofNat_toNat, BitVec.setWidth_eq]
end FED
