/-! ===== the text fed ===== -/
section FEDT
theorem tb8 {b i : Nat} (hb : b ≤ 255) (h : 8 ≤ i) : Nat.testBit b i = false := Nat.testBit_lt_two_pow (Nat.lt_of_lt_of_le (show b < 2 ^ 8 by omega) (Nat.pow_le_pow_right (by decide) h))
theorem nIb {b i : Nat} : (nI b).toBitVec.getLsbD i = (decide (i < 32) && Nat.testBit b i) := by
  show (BitVec.ofNat 32 b).getLsbD i = _
  rw [BitVec.getLsbD_ofNat]
theorem nIe {b i : Nat} (hi : i < 32) : (nI b).toBitVec[i] = Nat.testBit b i := by
  rw [← BitVec.getLsbD_eq_getElem, nIb, decide_eq_true hi, Bool.true_and]
theorem sh_0 {y : Int32} {b : Nat} (hb : b ≤ 255) : (((y <<< ((8 : Int32) &&& 31)) ||| nI b) >>> nI 0) &&& (255 : Int32) = nI b := by
  apply Int32.toBitVec_inj.mp
  apply BitVec.eq_of_getLsbD_eq
  intro i hi
  have e8 : ((8 : Int32) &&& 31) = 8 := by decide
  rw [e8]
  have hc : i = 0 ∨ i = 1 ∨ i = 2 ∨ i = 3 ∨ i = 4 ∨ i = 5 ∨ i = 6 ∨ i = 7 ∨ 8 ≤ i := by omega
  rcases hc with rfl | rfl | rfl | rfl | rfl | rfl | rfl | rfl | h
  rotate_right
  · have h255 : (255 : Int32).toBitVec.getLsbD i = false := b255 h
    rw [Int32.toBitVec_and, BitVec.getLsbD_and, h255, Bool.and_false, nIb, tb8 hb h, Bool.and_false]
  all_goals
    rw [show nI 0 = (0 : Int32) from rfl]
    simp [BitVec.getElem_sshiftRight]
theorem sh_8 {y : Int32} {b : Nat} (hb : b ≤ 255) : (((y <<< ((8 : Int32) &&& 31)) ||| nI b) >>> nI 8) &&& (255 : Int32) = (y >>> nI 0) &&& (255 : Int32) := by
  apply Int32.toBitVec_inj.mp
  apply BitVec.eq_of_getLsbD_eq
  intro i hi
  have e8 : ((8 : Int32) &&& 31) = 8 := by decide
  rw [e8, show nI 0 = (0 : Int32) from rfl, show nI 8 = (8 : Int32) from rfl]
  have hc : i = 0 ∨ i = 1 ∨ i = 2 ∨ i = 3 ∨ i = 4 ∨ i = 5 ∨ i = 6 ∨ i = 7 ∨ 8 ≤ i := by omega
  have t8 : ∀ i (hi : i < 32), 8 ≤ i → (nI b).toBitVec[i] = false := fun i hi h => by rw [nIe hi]; exact tb8 hb h
  rcases hc with rfl | rfl | rfl | rfl | rfl | rfl | rfl | rfl | h
  rotate_right
  · have h255 : (255 : Int32).toBitVec.getLsbD i = false := b255 h
    rw [Int32.toBitVec_and, Int32.toBitVec_and, BitVec.getLsbD_and, BitVec.getLsbD_and, h255, Bool.and_false, Bool.and_false]
  all_goals simp [BitVec.getElem_sshiftRight, t8 8 (by decide) (by decide), t8 9 (by decide) (by decide), t8 10 (by decide) (by decide), t8 11 (by decide) (by decide), t8 12 (by decide) (by decide), t8 13 (by decide) (by decide), t8 14 (by decide) (by decide), t8 15 (by decide) (by decide)]
theorem sh_16 {y : Int32} {b : Nat} (hb : b ≤ 255) : (((y <<< ((8 : Int32) &&& 31)) ||| nI b) >>> nI 16) &&& (255 : Int32) = (y >>> nI 8) &&& (255 : Int32) := by
  apply Int32.toBitVec_inj.mp
  apply BitVec.eq_of_getLsbD_eq
  intro i hi
  have e8 : ((8 : Int32) &&& 31) = 8 := by decide
  rw [e8, show nI 8 = (8 : Int32) from rfl, show nI 16 = (16 : Int32) from rfl]
  have hc : i = 0 ∨ i = 1 ∨ i = 2 ∨ i = 3 ∨ i = 4 ∨ i = 5 ∨ i = 6 ∨ i = 7 ∨ 8 ≤ i := by omega
  have t8 : ∀ i (hi : i < 32), 8 ≤ i → (nI b).toBitVec[i] = false := fun i hi h => by rw [nIe hi]; exact tb8 hb h
  rcases hc with rfl | rfl | rfl | rfl | rfl | rfl | rfl | rfl | h
  rotate_right
  · have h255 : (255 : Int32).toBitVec.getLsbD i = false := b255 h
    rw [Int32.toBitVec_and, Int32.toBitVec_and, BitVec.getLsbD_and, BitVec.getLsbD_and, h255, Bool.and_false, Bool.and_false]
  all_goals simp [BitVec.getElem_sshiftRight, t8 16 (by decide) (by decide), t8 17 (by decide) (by decide), t8 18 (by decide) (by decide), t8 19 (by decide) (by decide), t8 20 (by decide) (by decide), t8 21 (by decide) (by decide), t8 22 (by decide) (by decide), t8 23 (by decide) (by decide)]
theorem sh_24 {y : Int32} {b : Nat} (hb : b ≤ 255) : (((y <<< ((8 : Int32) &&& 31)) ||| nI b) >>> nI 24) &&& (255 : Int32) = (y >>> nI 16) &&& (255 : Int32) := by
  apply Int32.toBitVec_inj.mp
  apply BitVec.eq_of_getLsbD_eq
  intro i hi
  have e8 : ((8 : Int32) &&& 31) = 8 := by decide
  rw [e8, show nI 16 = (16 : Int32) from rfl, show nI 24 = (24 : Int32) from rfl]
  have hc : i = 0 ∨ i = 1 ∨ i = 2 ∨ i = 3 ∨ i = 4 ∨ i = 5 ∨ i = 6 ∨ i = 7 ∨ 8 ≤ i := by omega
  have t8 : ∀ i (hi : i < 32), 8 ≤ i → (nI b).toBitVec[i] = false := fun i hi h => by rw [nIe hi]; exact tb8 hb h
  rcases hc with rfl | rfl | rfl | rfl | rfl | rfl | rfl | rfl | h
  rotate_right
  · have h255 : (255 : Int32).toBitVec.getLsbD i = false := b255 h
    rw [Int32.toBitVec_and, Int32.toBitVec_and, BitVec.getLsbD_and, BitVec.getLsbD_and, h255, Bool.and_false, Bool.and_false]
  all_goals simp [BitVec.getElem_sshiftRight, t8 24 (by decide) (by decide), t8 25 (by decide) (by decide), t8 26 (by decide) (by decide), t8 27 (by decide) (by decide), t8 28 (by decide) (by decide), t8 29 (by decide) (by decide), t8 30 (by decide) (by decide), t8 31 (by decide) (by decide)]
theorem sh_up {y : Int32} {b s : Nat} (hb : b ≤ 255) (hs : s = 0 ∨ s = 8 ∨ s = 16) : (((y <<< ((8 : Int32) &&& 31)) ||| nI b) >>> nI (s + 8)) &&& (255 : Int32) = (y >>> nI s) &&& (255 : Int32) := by
  rcases hs with rfl | rfl | rfl
  · exact sh_8 hb
  · exact sh_16 hb
  · exact sh_24 hb
/-- the first k bytes of the twenty, pushed -/
def PUSH (f : Nat → Nat) (J : M2) (v k : Nat) : Prop := ∀ w t, 4 * w + t < k → t < 4 → ((J 0 w >>> nI (8 * (min 4 (k - 4 * w) - 1 - t))) &&& (255 : Int32)) = nI (f (v + (4 * w + t)))
theorem PUSH.put {f : Nat → Nat} {J : M2} {v k : Nat} (h : PUSH f J v k) (hf : f (v + k) ≤ 255) : PUSH f (up2 J 0 (upd (J 0) (k / 4) ((J 0 (k / 4) <<< ((8 : Int32) &&& 31)) ||| nI (f (v + k))))) v (k + 1) := by
  intro w t hwt ht
  rw [up2_s]
  by_cases e : w = k / 4
  · subst e
    rw [upd_s]
    by_cases c : 4 * (k / 4) + t = k
    · have et : min 4 (k + 1 - 4 * (k / 4)) - 1 - t = 0 := by omega
      rw [et, c]
      exact sh_0 hf
    · have et : 8 * (min 4 (k + 1 - 4 * (k / 4)) - 1 - t) = 8 * (min 4 (k - 4 * (k / 4)) - 1 - t) + 8 := by omega
      rw [et, sh_up hf (by omega)]
      exact h (k / 4) t (by omega) ht
  · rw [upd_n _ _ e]
    have hw : w < k / 4 := by omega
    have e1 : min 4 (k + 1 - 4 * w) = 4 := by omega
    have e2 : min 4 (k - 4 * w) = 4 := by omega
    have := h w t (by omega) ht
    rw [e2] at this
    rw [e1]
    exact this
end FEDT
