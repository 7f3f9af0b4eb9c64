/-! ===== the law's list as plan: both sides ===== -/
section JOINP
variable {nn : Nat → Nat} {V U S W B O P F F' N : M2} {T : List Nat}
theorem tc_ops {e n m l b nl nb : Nat} (he : e < 8) (hl : inb (nI l) nl) (hb : inb (nI b) nb) : tc nl nb (opsT e n m l b) [] = some [true] := by
  have hcs : e = 0 ∨ e = 1 ∨ e = 2 ∨ e = 3 ∨ e = 4 ∨ e = 5 ∨ e = 6 ∨ e = 7 := by omega
  rcases hcs with rfl | rfl | rfl | rfl | rfl | rfl | rfl | rfl
  all_goals simp [opsT, tc, tcS]
  all_goals simp only [if_pos hl, if_pos hb]
  all_goals rfl
def TQ (nn : Nat → Nat) (O : M2) (o : Nat) : List (Int32 × Int32) := opO (nn 3) (nn 4) (O o)
theorem opO_is {nl nb : Nat} {r : Nat → Int32} {e n k x : Nat} (hn : n < 40) (hk : k < 100) (hx : x < 30) (he : e < 8) (e2 : r 2 = nI e) (e3 : r 3 = nI n) (e4 : r 4 = nI k) (e5 : r 5 = nI x) : opO nl nb r = opsT e n k (x % nl) (x % nb) := by
  unfold opO
  rw [e2, e3, e4, e5, tn_nI (by omega), tn_nI (by omega), tn_nI (by omega), tn_nI (by omega)]
theorem j_pt (D : LDAT T nn V U S W B O) (hP : PLN nn V S W B O P) : PT P (QL nn V U S W B O) (TQ nn O) (nn 3) (nn 4) (nn 5) := by
  obtain ⟨⟨_, _, _, h3, h4, h5⟩, _, _, _, _, _, hO, _⟩ := D
  obtain ⟨_, _, _, _, _, _, pO⟩ := hP
  intro o ho
  obtain ⟨a1, a2, a3, a4, a5⟩ := pO o ho
  obtain ⟨s, i, e, n, k, x, hs1, hi, he, hn, hk, hx, e0, e1, e2, e3, e4, e5⟩ := hO o ho
  have hb := oo_bd (O := O) (nl := nn 3) (nb := nn 4) (o + 1)
  have hb' : oo (nn 3) (nn 4) O (o + 1) = oo (nn 3) (nn 4) O o + (TQ nn O o).length := rfl
  refine ⟨?_, a2, oo (nn 3) (nn 4) O o, a3, by rw [a4, hb'], by omega, fun j hj => a5 j hj, ?_⟩
  · by_cases c : O o 0 = 0
    · rw [if_pos c] at a1
      exact Or.inl ⟨a1, if_pos c⟩
    · rw [if_neg c] at a1
      exact Or.inr ⟨a1, if_neg c⟩
  · unfold TQ
    rw [opO_is hn hk hx he e2 e3 e4 e5]
    exact tc_ops he (inb_nJ (Nat.mod_lt _ (by omega)) (by omega)) (inb_nJ (Nat.mod_lt _ (by omega)) (by omega))
theorem j_prx (D : LDAT T nn V U S W B O) (hP : PLN nn V S W B O P) : PRX P (QL nn V U S W B O) (nn 0) (nn 1) (nn 3) (nn 4) (nn 2) (nn 5) := by
  have hPT := j_pt D hP
  obtain ⟨⟨h0, h1, h2, h3, h4, h5⟩, hV, hU, hS, hW, hB, hO, _⟩ := D
  obtain ⟨⟨c20, c21, c22, c23, c24, c40⟩, pB, pP, pS, pW, pA, pO⟩ := hP
  have hbd := fo_bd (nn 0) hV
  have hfo : ∀ p, p < nn 1 → ∃ k, k < nn 0 ∧ P 28 p = nI k ∧ U p 0 = nI k := fun p hp => by
    obtain ⟨k, hk, k1, k2⟩ := fo_at (V := V) (nn 0) (by rw [← h1]; exact hp)
    exact ⟨k, hk, pP k p hk k1 k2, (hU k p hk k1 k2 hp).1⟩
  refine ⟨⟨⟨⟨by rw [c21, h1], rfl, by omega⟩, ⟨c23, rfl, by omega⟩, ⟨c24, rfl, by omega⟩, ⟨c22, rfl, by omega⟩, ⟨c40, rfl, by omega⟩⟩, fun p hp => ?_, fun s hs => ?_, fun l hl => ?_, fun b hb => ?_⟩, ⟨c20, rfl, by omega⟩, fun k hk => ?_, fun p hp => hfo p hp, fun b hb => ?_, TQ nn O, hPT⟩
  · obtain ⟨k, hk, k1, k2⟩ := hfo p hp
    exact ⟨k, by omega, k1, k2, (pB k hk).2.1⟩
  · obtain ⟨a, d, ha, d1, d2, e0, e1⟩ := hS s hs
    exact ⟨a, d, ha, d1, d2, (pS s hs).1.trans e0, e0, (pS s hs).2.trans e1, e1⟩
  · obtain ⟨x, y, x1, x2, y1, y2, e0, e1, _⟩ := hW l hl
    exact ⟨x, y, x1, x2, by omega, y2, (pW l hl).1.trans e0, e0, (pW l hl).2.trans e1, e1⟩
  · obtain ⟨w, e, z, c, d, w1, w2, he, hz, hc, hd, hcd, e0, e1, e2, _, _, _, _, e7, e8⟩ := hB b hb
    have k0 : kr0 (QL nn V U S W B O) b = c := by unfold kr0; rw [QL_c0, e7, tn_nI (by omega)]
    have k1 : kr1 (QL nn V U S W B O) b = d := by unfold kr1; rw [QL_c1, e8, tn_nI (by omega)]
    rw [k0, k1, QL_c0, QL_c1]
    exact ⟨hc, hd, hcd, (pA b hb).2.2.2.1.trans e7, e7, (pA b hb).2.2.2.2.trans e8, e8, w, w1, w2, (pA b hb).1.trans e0, e0⟩
  · obtain ⟨x, w, x1, x2, w9, e0, e1, e2⟩ := hV k hk
    have hf : fo V k + x ≤ nn 1 := by
      have a := fo_mono (V := V) (show k + 1 ≤ nn 0 by omega)
      have b : fo V (k + 1) = fo V k + x := by
        show fo V k + (V k 0).toInt.toNat = _
        rw [e0, tn_nI (by omega)]
      omega
    exact ⟨x, fo V k, x1, x2, hf, (pB k hk).1.trans e0, e0, (pB k hk).2.2.trans e2, e2, (pB k hk).2.1⟩
  · obtain ⟨w, e, z, c, d, w1, w2, he, hz, hc, hd, hcd, e0, e1, e2, _⟩ := hB b hb
    refine ⟨(pA b hb).2.1, ?_, (pA b hb).2.2.1⟩
    show B b 1 = 0 ∨ B b 1 = 1
    have he2 : e = 0 ∨ e = 1 := by omega
    rcases he2 with rfl | rfl
    · exact Or.inl e1
    · exact Or.inr e1
theorem j_zb (D : LDAT T nn V U S W B O) : ZB nn V (QL nn V U S W B O) (nn 0) (nn 1) := by
  obtain ⟨⟨h0, h1, h2, h3, h4, h5⟩, hV, hU, _⟩ := D
  refine ⟨rfl, h0.2, fun k hk => ?_⟩
  obtain ⟨x, w, x1, x2, w9, e0, e1, e2⟩ := hV k hk
  have b : fo V (k + 1) = fo V k + x := by
    show fo V k + (V k 0).toInt.toNat = _
    rw [e0, tn_nI (by omega)]
  have a := fo_mono (V := V) (show k + 1 ≤ nn 0 by omega)
  refine ⟨fo V k, x, by omega, e0, e0, rfl, e2, e2, fun p hp => ⟨fun z => ?_, fun z => (hU k p hk z.1 (by omega) hp).1⟩⟩
  obtain ⟨k', hk', k1, k2⟩ := fo_at (V := V) (nn 0) (by rw [← h1]; exact hp)
  have z : U p 0 = nI k := z
  rw [(hU k' p hk' k1 k2 hp).1] at z
  have ek : k' = k := nI_inj (by omega) (by omega) z
  subst ek
  exact ⟨k1, by omega⟩
theorem j_zk (D : LDAT T nn V U S W B O) : ZK nn V S O (QL nn V U S W B O) (TQ nn O) (nn 1) (nn 3) (nn 4) (nn 2) (nn 5) := by
  obtain ⟨⟨h0, h1, h2, h3, h4, h5⟩, hV, hU, hS, hW, hB, hO, _⟩ := D
  have hbd := fo_bd (nn 0) hV
  refine ⟨⟨by omega, rfl, rfl, rfl, rfl, rfl⟩, ⟨by omega, by omega, h3.2, by omega, h4.2⟩, fun p hp => ?_, fun s _ => ⟨rfl, rfl⟩, fun o ho => ?_⟩
  · obtain ⟨k, hk, k1, k2⟩ := fo_at (V := V) (nn 0) (by rw [← h1]; exact hp)
    obtain ⟨x, w, x1, x2, w9, e0, e1, e2⟩ := hV k hk
    exact ⟨k, w, hk, w9, (hU k p hk k1 k2 hp).1, e1, e1⟩
  · obtain ⟨s, i, e, n, k, x, hs1, hi, he, hn, hk, hx, e0, e1, e2, e3, e4, e5⟩ := hO o ho
    refine ⟨?_, rfl, e, n, k, x, he, hn, hk, hx, e2, e3, e4, e5, opO_is hn hk hx he e2 e3 e4 e5⟩
    have hs2 : s = 0 ∨ s = 1 := by omega
    rcases hs2 with rfl | rfl
    · exact Or.inl ⟨e0, if_pos e0⟩
    · exact Or.inr ⟨e0, if_neg (by rw [e0]; decide)⟩
theorem j_hs (D : LDAT T nn V U S W B O) : ∀ o, o < nn 5 → QL nn V U S W B O 259 o = 17 → QL nn V U S W B O 260 o = 0 ∨ QL nn V U S W B O 260 o = 1 := fun o ho h => by
  obtain ⟨_, _, _, _, _, _, hO, _⟩ := D
  obtain ⟨s, i, e, n, k, x, hs1, hi, he, hn, hk, hx, e0, e1, _⟩ := hO o ho
  show O o 1 = 0 ∨ O o 1 = 1
  have hs2 : s = 0 ∨ s = 1 := by omega
  rcases hs2 with rfl | rfl
  · rw [if_pos rfl] at hi
    have hi2 : i = 0 ∨ i = 1 := by omega
    rcases hi2 with rfl | rfl
    · exact Or.inl e1
    · exact Or.inr e1
  · have h : (if O o 0 = 0 then (17 : Int32) else 18) = 17 := h
    rw [if_neg (by rw [e0]; decide)] at h
    exact absurd h (by decide)
end JOINP
