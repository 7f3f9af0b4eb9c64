/-! ===== the class reads the list's text ===== -/
section RDT
variable {aa qq : Nat → Nat} {bp rp nl nb js jl ja jo jb : Nat} {F : M2} {L : L2} {nn : Nat → Nat} {V U S W B O : M2} {T : List Nat} {τ : Nat → Nat}
theorem c_endR {K : Int32 → Nat → Nat → M2 → L2 → Prop} {F : M2} {L : L2} (h67 : F 67 0 = 0) (h : K 0 (aa 80) (qq 20) (up2 F 69 (fun _ => -1)) L) : wj_X2_read_104 aa qq K F L := by
  refine And.intro (fun c F1 e1 => absurd h67 c) (fun c F1 e1 => ?_)
  have e67 : F1 67 0 = 0 := by rw [e1, up2_n _ _ (by decide)]; exact h67
  rw [e67, e1]
  exact h
/-- the plan that the list tells -/
def PLN (nn : Nat → Nat) (V S W B O P : M2) : Prop :=
  (P 20 0 = nI (nn 0) ∧ P 21 0 = nI (fo V (nn 0)) ∧ P 22 0 = nI (nn 2) ∧ P 23 0 = nI (nn 3) ∧ P 24 0 = nI (nn 4) ∧ P 40 0 = nI (nn 5))
  ∧ (∀ k, k < nn 0 → P 25 k = V k 0 ∧ P 26 k = V k 1 ∧ P 27 k = V k 2) ∧ (∀ k p, k < nn 0 → fo V k ≤ p → p < fo V (k + 1) → P 28 p = nI k)
  ∧ (∀ k, k < nn 2 → P 29 k = S k 0 ∧ P 30 k = S k 1) ∧ (∀ k, k < nn 3 → P 31 k = W k 0 ∧ P 32 k = W k 1) ∧ (∀ k, k < nn 4 → P 33 k = B k 0 ∧ P 34 k = B k 1 ∧ P 35 k = B k 2 ∧ P 36 k = B k 7 ∧ P 37 k = B k 8)
  ∧ ∀ k, k < nn 5 → P 41 k = (if O k 0 = 0 then 48 else 49) ∧ P 42 k = O k 1 ∧ P 43 k = nI (oo (nn 3) (nn 4) O k) ∧ P 44 k = nI (oo (nn 3) (nn 4) O (k + 1)) ∧ ∀ i (hi : i < (opO (nn 3) (nn 4) (O k)).length), P 46 (oo (nn 3) (nn 4) O k + i) = ((opO (nn 3) (nn 4) (O k))[i]).1 ∧ P 47 (oo (nn 3) (nn 4) O k + i) = ((opO (nn 3) (nn 4) (O k))[i]).2
theorem rd_text {K : Int32 → Nat → Nat → M2 → L2 → Prop} (D : LDAT T nn V U S W B O) (hT : T.length ≤ 2000) (h255 : ∀ i, i < T.length → τ i ≤ 255) (hBy : BYT τ 0 T) (hF80 : ∀ i, i < T.length → F 80 i &&& 255 = nI (τ i)) (hW : KWT F L) (h : ∀ F' L', F' 69 0 = -1 → PLN nn V S W B O F' → K 0 (aa 80) (qq 20) F' L') : wp_X2_read aa qq bp rp F L (nI T.length) K := by
  obtain ⟨hM, hTok, hEnd⟩ := tok_list D hBy
  obtain ⟨_, hN240⟩ := lx_list D
  have hKK := tok_KIN h255 hM
  obtain ⟨m, hm⟩ : ∃ m, m = (kts nn V S W B O).length := ⟨_, rfl⟩
  rw [← hm] at hM hKK hEnd hN240
  obtain ⟨F0, hF0⟩ : ∃ F0, F0 = up2 F 78 (fun _ => nI T.length) := ⟨_, rfl⟩
  have hT0 : TPC τ T.length F0 := ⟨hT, fun i hi => ⟨h255 i hi, by rw [hF0, up2_n _ _ (by decide)]; exact hF80 i hi⟩, by rw [hF0, up2_s]⟩
  have hW0 : KWT F0 L := by
    unfold KWT
    rw [hF0, up2_n _ _ (by decide), up2_n _ _ (by decide)]
    exact hW
  obtain ⟨Ft, hFt⟩ : ∃ Ft, Ft = FTK τ T.length (m + 1) F0 := ⟨_, rfl⟩
  obtain ⟨Lt, hLt⟩ : ∃ Lt, Lt = LTK τ T.length (m + 1) L := ⟨_, rfl⟩
  obtain ⟨Fs, hFs⟩ : ∃ Fs, Fs = up2 (up2 (up2 (up2 (up2 (up2 (up2 (up2 (up2 Ft 20 (fun _ => 0)) 21 (fun _ => 0)) 22 (fun _ => 0)) 23 (fun _ => 0)) 24 (fun _ => 0)) 40 (fun _ => 0)) 45 (fun _ => 0)) 66 (fun _ => 0)) 67 (fun _ => 0) := ⟨_, rfl⟩
  have run : wl_X2_read_37 aa qq K fK Fs Lt 1 (nI 0) → wp_X2_read aa qq bp rp F L (nI T.length) K := fun hk F1 e1 => by
    have e1 : F1 = F0 := e1.trans hF0.symm
    subst e1
    have key := c_toks (a := aa) (K := fun bp_6 F_6 L_6 => bp_6 = (aa 80) ∧ wp_X1_clear F_6 L_6 (fun F_18 L_18 => (∀ F_23 : M2, F_23 = up2 F_18 66 (fun _ => 0) → (∀ F_28 : M2, F_28 = up2 F_23 67 (fun _ => 0) → wl_X2_read_37 aa qq K fK F_28 L_18 1 0)))) h255 hM hT0 hW0 ⟨rfl, fun F1 e1 F2 e2 F3 e3 F4 e4 F5 e5 F6 e6 F7 e7 F8 e8 F9 e9 => by
      have e : F9 = Fs := by rw [e9, e8, e7, e6, e5, e4, e3, e2, e1, ← hFt, hFs]
      rw [e, ← hLt]
      exact hk⟩ m 0 fK (by omega) (by rw [fK_eq]; omega)
    rw [FTK_0, LTK_0] at key
    exact key
  have fs : ∀ k, k ≠ 20 → k ≠ 21 → k ≠ 22 → k ≠ 23 → k ≠ 24 → k ≠ 40 → k ≠ 45 → k ≠ 66 → k ≠ 67 → Fs k = Ft k := fun k a1 a2 a3 a4 a5 a6 a7 a8 a9 => by
    rw [hFs, up2_n _ _ a9, up2_n _ _ a8, up2_n _ _ a7, up2_n _ _ a6, up2_n _ _ a5, up2_n _ _ a4, up2_n _ _ a3, up2_n _ _ a2, up2_n _ _ a1]
  have f74 : ∀ i, i ≤ m → Fs 74 i = ck (kT τ T.length i) ∧ Lt 76 i = vT τ T.length i := fun i hi => by
    rw [fs 74 (by decide) (by decide) (by decide) (by decide) (by decide) (by decide) (by decide) (by decide) (by decide), hFt, hLt]
    obtain ⟨a, b, c⟩ := FTK_at (τ := τ) (sz := T.length) (i := m + 1) (F := F0) (L := L) (j := i) (by omega)
    exact ⟨a, c⟩
  have hS0 : SC (kT τ T.length) m (vT τ T.length) Fs Lt 0 := ⟨by rw [hFs, up2_n _ _ (by decide), up2_s]; rfl, Nat.zero_le _, fun i hi => (f74 i hi).1, fun i hi => (f74 i hi).2⟩
  have z : ∀ {P : Nat → Prop}, ∀ k, k < 0 → P k := fun k hk => absurd hk (Nat.not_lt_zero _)
  have R0 : RST (kT τ T.length) m (vT τ T.length) (nn 3) (nn 4) V S W B O Fs Lt 0 0 0 0 0 0 := ⟨hS0, by simp [hFs, up2], ⟨by simp [hFs, up2]; rfl, by simp [hFs, up2]; rfl, by simp [hFs, up2]; rfl, by simp [hFs, up2]; rfl, by simp [hFs, up2]; rfl, by simp [hFs, up2]; rfl, by simp [hFs, up2]; rfl⟩, ⟨z, z, z, z⟩, z, fun k p hk => absurd hk (Nat.not_lt_zero _), z, z, z, z⟩
  obtain ⟨F', L', R, hR⟩ := rd_list (aa := aa) (qq := qq) hKK D hTok (by omega) R0
  rw [← hm] at R
  have hD := D.1
  refine run ?_
  have hn : nn 0 + nn 2 + nn 3 + nn 4 + nn 5 ≤ 20 := by omega
  have hfk : fK = (4095 - (nn 0 + nn 2 + nn 3 + nn 4 + nn 5)) + 1 + (nn 0 + nn 2 + nn 3 + nn 4 + nn 5) := by rw [fK_eq]; omega
  rw [hfk]
  refine hR K _ 0 (by omega) ?_
  obtain ⟨hs, h67, ⟨c20, c21, c22, c23, c24, c40, c45⟩, _, hRB, hRP, hRS, hRW, hRA, hRO⟩ := R
  have fin : wj_X2_read_86 aa qq K F' L' 1 := by
    refine And.intro (fun _ => c_endR h67 (h _ _ (by rw [up2_s]) ?_)) (fun z => absurd z (by decide))
    have g : ∀ k, k ≠ 69 → up2 F' 69 (fun _ => (-1 : Int32)) k = F' k := fun k hk => up2_n _ _ hk
    unfold PLN
    rw [g 20 (by decide), g 21 (by decide), g 22 (by decide), g 23 (by decide), g 24 (by decide), g 40 (by decide), g 25 (by decide), g 26 (by decide), g 27 (by decide), g 28 (by decide), g 29 (by decide), g 30 (by decide), g 31 (by decide), g 32 (by decide), g 33 (by decide), g 34 (by decide), g 35 (by decide), g 36 (by decide), g 37 (by decide), g 41 (by decide), g 42 (by decide), g 43 (by decide), g 44 (by decide), g 46 (by decide), g 47 (by decide)]
    exact ⟨⟨c20, c21, c22, c23, c24, c40⟩, hRB, hRP, hRS, hRW, hRA, hRO⟩
  refine And.intro (fun _ => fin) (fun _ => And.intro (fun z => absurd z (by decide)) (fun _ => c_peek hs hKK (And.intro (fun _ => fin) (fun z => absurd hEnd z))))
end RDT
