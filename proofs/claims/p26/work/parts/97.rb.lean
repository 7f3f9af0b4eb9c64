/-! ===== the law's list as plan and tunnel ===== -/
section JOIN
variable {nn : Nat → Nat} {V U S W B O P F F' N : M2} {T : List Nat}
def QL (nn : Nat → Nat) (V U S W B O : M2) : M2 := fun k => if 310 ≤ k then (fun i => if i = 0 then B (k - 310) 7 else B (k - 310) 8) else if k = 240 then (fun _ => nI (nn 0)) else if k = 241 then (fun _ => nI (nn 1)) else if k = 242 then (fun i => V i 0) else if k = 243 then (fun i => V i 1) else if k = 244 then (fun i => V i 2) else if k = 245 then (fun i => U i 0) else if k = 246 then (fun _ => nI (nn 2)) else if k = 247 then (fun i => S i 0) else if k = 248 then (fun i => S i 1) else if k = 249 then (fun _ => nI (nn 3)) else if k = 250 then (fun i => W i 0) else if k = 251 then (fun i => W i 1) else if k = 252 then (fun _ => nI (nn 4)) else if k = 253 then (fun i => B i 0) else if k = 254 then (fun i => B i 1) else if k = 255 then (fun i => B i 2) else if k = 257 then (fun _ => nI (nn 5)) else if k = 259 then (fun i => if O i 0 = 0 then 17 else 18) else if k = 260 then (fun i => O i 1) else (fun _ => 0)
def ML (W B : M2) : M2 := fun k => if k = 202 then (fun _ => 100) else if k = 203 then (fun i => W i 2) else if k = 204 then (fun _ => -1) else if k = 207 then (fun i => B i 1) else if k = 208 then (fun i => B i 2) else if k = 209 then (fun _ => -1) else if k = 211 then (fun _ => -1) else if k = 212 then (fun _ => -1) else (fun _ => 0)
theorem QL_c0 (b : Nat) : QL nn V U S W B O (310 + b) 0 = B b 7 := by
  unfold QL
  rw [if_pos (by omega), if_pos rfl, Nat.add_sub_cancel_left]
theorem QL_c1 (b : Nat) : QL nn V U S W B O (310 + b) 1 = B b 8 := by
  unfold QL
  rw [if_pos (by omega), if_neg (by decide), Nat.add_sub_cancel_left]
theorem fo_at {V : M2} : ∀ n {p : Nat}, p < fo V n → ∃ k, k < n ∧ fo V k ≤ p ∧ p < fo V (k + 1)
  | 0, p, h => absurd h (Nat.not_lt_zero _)
  | n + 1, p, h => by
    by_cases c : p < fo V n
    · obtain ⟨k, h1, h2, h3⟩ := fo_at n c
      exact ⟨k, by omega, h2, h3⟩
    · exact ⟨n, by omega, by omega, h⟩
theorem j_can : CAN (ML W B) := ⟨rfl, rfl, rfl⟩
theorem j_re (D : LDAT T nn V U S W B O) (hP : PLN nn V S W B O P) (hF : BEGF P (nn 1) (nn 3) (nn 4) F F') (e1 : F 1 0 = 0) (e3 : F 3 0 = -1) : RE (nn 1) (nn 3) (nn 4) F' (ML W B) := by
  obtain ⟨_, _, _, _, hW, hB, _, _⟩ := D
  obtain ⟨_, _, _, _, pW, pB, _⟩ := hP
  obtain ⟨b0, b2, b4, b5, b8⟩ := hF
  intro k h1 h13 i hi
  have hc : k = 1 ∨ k = 2 ∨ k = 3 ∨ k = 4 ∨ k = 5 ∨ k = 6 ∨ k = 7 ∨ k = 8 ∨ k = 9 ∨ k = 10 ∨ k = 11 ∨ k = 12 ∨ k = 13 := by omega
  rcases hc with rfl | rfl | rfl | rfl | rfl | rfl | rfl | rfl | rfl | rfl | rfl | rfl | rfl
  · have hi : i < 1 := hi
    have : i = 0 := by omega
    subst this
    rw [b0 1 (by omega)]; exact e1
  · rw [b2]; rfl
  · have hi : i < 1 := hi
    have : i = 0 := by omega
    subst this
    rw [b0 3 (by omega)]; exact e3
  · exact b4 i hi
  · obtain ⟨x, y, _, _, _, y9, _, w1, w2, _⟩ := hW i hi
    rw [(b5 i hi).1, (pW i hi).2, w1]
    show _ = W i 2
    rw [w2]
    exact (by decide +kernel : ∀ y, y < 10 → (10 : Int32) * nI y = nI (10 * y)) y (by omega)
  · exact (b5 i hi).2.1
  · exact (b5 i hi).2.2
  · rw [(b8 i hi).1, (pB i hi).2.1]; rfl
  · rw [(b8 i hi).2.1, (pB i hi).2.2.1]; rfl
  · exact (b8 i hi).2.2.1
  · exact (b8 i hi).2.2.2.1
  · exact (b8 i hi).2.2.2.2.1
  · exact (b8 i hi).2.2.2.2.2
theorem j_ix (D : LDAT T nn V U S W B O) : IX (QL nn V U S W B O) (ML W B) (nn 1) (nn 3) (nn 4) 0 := by
  obtain ⟨_, _, _, _, hW, hB, _, _⟩ := D
  refine ⟨⟨fun p _ => ⟨100, Nat.le_refl _, rfl⟩, fun l _ => ⟨0, by omega, rfl⟩, fun b _ => Or.inr ⟨fun z => absurd (show (0 : Int32) = 1 from z) (by decide), rfl, rfl⟩, fun b c _ _ _ z => absurd (show (0 : Int32) = 1 from z) (by decide), fun b c _ _ _ z => absurd (show (0 : Int32) = 1 from z) (by decide), fun b hb => ?_⟩, fun l _ => Or.inl rfl, fun l hl => ?_, fun l _ => ⟨0, by omega, rfl⟩, fun b _ z => absurd (show (0 : Int32) = 1 from z) (by decide), fun b _ => Or.inl rfl, rfl, fun b _ => ⟨fun z => absurd (show (0 : Int32) = 2 from z) (by decide), fun _ => rfl⟩, fun b c _ _ z => absurd (show (0 : Int32) = 1 from z) (by decide), Or.inl rfl⟩
  · obtain ⟨w, e, z, c, d, _, _, he, _, _, _, _, _, e1, _⟩ := hB b hb
    show B b 1 = 0 ∨ B b 1 = 1
    have he2 : e = 0 ∨ e = 1 := by omega
    rcases he2 with rfl | rfl
    · exact Or.inl e1
    · exact Or.inr e1
  · obtain ⟨x, y, _, _, _, y9, _, w1, w2, _⟩ := hW l hl
    exact ⟨10 * y, y, w2, w1, y9, Nat.le_refl _⟩
theorem j_zs (D : LDAT T nn V U S W B O) (n0 : N 0 0 = 0) (n1 : N 1 0 = 0) (n2 : N 2 0 = -1) : ZS (QL nn V U S W B O) (ML W B) N U W B (nn 1) (nn 3) (nn 4) := by
  obtain ⟨⟨_, h1, _⟩, hV, hU, _, hW, hB, _, _⟩ := D
  refine ⟨⟨n0, n1, n2, rfl⟩, fun p hp => ⟨rfl, ?_⟩, fun l hl => ?_, fun b hb => ?_⟩
  · obtain ⟨k, hk, k1, k2⟩ := fo_at (V := V) (nn 0) (by rw [← h1]; exact hp)
    exact (hU k p hk k1 k2 hp).2
  · obtain ⟨x, y, _, _, _, y9, _, w1, w2, w3, w4⟩ := hW l hl
    exact ⟨rfl, rfl, rfl, w3, w4⟩
  · obtain ⟨w, e, z, c, d, _, _, _, _, _, _, _, _, _, _, b3, b4, b5, b6, _, _⟩ := hB b hb
    exact ⟨rfl, rfl, rfl, b3, b4, b5, b6, (QL_c0 b).symm, (QL_c1 b).symm⟩
end JOIN
