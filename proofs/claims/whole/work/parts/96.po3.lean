/-! ===== what the tokens are good for ===== -/
section FACTS
variable {τ : Nat → Nat} {sz m : Nat}
theorem tok_KIN (hB : ∀ p, p < sz → τ p ≤ 255) (hM : LST τ sz m) : KIN (kT τ sz) m := ⟨hM.1, fun i _ => kT_vk hB i, hM.2.1, hM.2.2⟩
theorem kT_41 (hB : ∀ p, p < sz → τ p ≤ 255) {i : Nat} (h : kT τ sz i = 41) : i ≠ 400 ∧ ps τ sz i < sz ∧ ¬ isL (τ (ps τ sz i)) ∧ isD (τ (ps τ sz i)) ∧ nln τ sz (ps τ sz i) ≤ 6 := by
  obtain ⟨a, b, c⟩ := kT_lo hB (show kT τ sz i < 900 by rw [h]; decide)
  exact ⟨a, (tkd_vk (hB _)).2.2.1 (c.symm.trans h)⟩
theorem kT_word (hB : ∀ p, p < sz → τ p ≤ 255) {i : Nat} (h : kT τ sz i = 40 ∨ kT τ sz i = 12 ∨ kT τ sz i = 13) : i ≠ 400 ∧ ps τ sz i < sz ∧ isL (τ (ps τ sz i)) ∧ wln τ sz (ps τ sz i) ≤ 10 ∧ kT τ sz i = wkd τ sz (ps τ sz i) := by
  obtain ⟨a, b, c⟩ := kT_lo hB (show kT τ sz i < 900 by rcases h with h | h | h <;> rw [h] <;> decide)
  rw [c] at h ⊢
  exact ⟨a, (tkd_vk (hB _)).2.2.2 h⟩
theorem ofNat64_32 {b : Nat} (hb : b < 2147483648) : (Int64.ofNat b).toInt32 = nI b := by
  rw [← nI_64 hb, Int32.toInt32_toInt64]
theorem vT_41 (hB : ∀ p, p < sz → τ p ≤ 255) {i : Nat} (h : kT τ sz i = 41) : nbN τ (ps τ sz i) (nln τ sz (ps τ sz i)) ≤ 999999 ∧ (vT τ sz i).toInt32 = nI (nbN τ (ps τ sz i) (nln τ sz (ps τ sz i))) := by
  obtain ⟨a, b, c, d, e⟩ := kT_41 hB h
  have hd : ∀ j, j < nln τ sz (ps τ sz i) → isD (τ (ps τ sz i + j)) := fun j hj => nen_d (sz - ps τ sz i) (ps τ sz i) (ps τ sz i + j) (by omega) (by unfold nln at hj; omega)
  have h1 := nbN_lt (τ := τ) (ps τ sz i) (nln τ sz (ps τ sz i)) hd
  have h2 : 10 ^ nln τ sz (ps τ sz i) ≤ 10 ^ 6 := Nat.pow_le_pow_right (by decide) e
  have h3 : 10 ^ 6 = 1000000 := by decide
  refine ⟨by omega, ?_⟩
  unfold vT tvl
  rw [if_neg a, if_neg (by omega), if_neg c, if_pos d, if_pos e, nbI_N _ _ hd, ofNat64_32 (by omega)]
theorem tok_NUMV (hB : ∀ p, p < sz → τ p ≤ 255) : NUMV (kT τ sz) m (vT τ sz) := fun i _ h => ⟨_, (vT_41 hB h).1, (vT_41 hB h).2⟩
theorem tok_SID (hB : ∀ p, p < sz → τ p ≤ 255) : SID (kT τ sz) m (vT τ sz) := fun i _ => by
  refine ⟨fun h => ?_, fun h => ?_⟩
  · obtain ⟨a, b, c, d, e⟩ := kT_word hB (Or.inr (Or.inl h))
    unfold vT tvl
    rw [if_neg a, if_neg (by omega), if_pos c, if_pos d, if_pos (e.symm.trans h)]
    decide
  · obtain ⟨a, b, c, d, e⟩ := kT_word hB (Or.inr (Or.inr h))
    unfold vT tvl
    rw [if_neg a, if_neg (by omega), if_pos c, if_pos d, if_neg (by rw [e.symm.trans h]; decide), if_pos (e.symm.trans h)]
    decide
theorem tok_NUM (hB : ∀ p, p < sz → τ p ≤ 255) (hM : LST τ sz m) {N0 : M2} (hT : TPR τ sz N0) (hR : RTK τ sz m (m + 1) N0) : NUM (kT τ sz) m (vT τ sz) N0 := by
  intro i hi h N P K e221 e225 e226 hk
  have hm := hM.1
  have hs := hT.1
  obtain ⟨a, b, c, d, e⟩ := kT_41 hB h
  have him : i < m := by
    rcases Nat.lt_or_ge i m with g | g
    · exact g
    · have : i = m := by omega
      subst this
      exact absurd (show kT τ sz i < 900 by rw [h]; decide) hM.2.2
  obtain ⟨r1, r2, r3, _⟩ := hR i (by omega)
  have r3 := r3 him
  have eln : tln τ sz (ps τ sz i) = nln τ sz (ps τ sz i) := by unfold tln; rw [if_neg c, if_pos d]
  rw [eln] at r3
  rw [(vT_41 hB h).2] at hk
  have hd : ∀ j, j < nln τ sz (ps τ sz i) → isD (τ (ps τ sz i + j)) := fun j hj => nen_d (sz - ps τ sz i) (ps τ sz i) (ps τ sz i + j) (by omega) (by unfold nln at hj; omega)
  have hend : ps τ sz i + nln τ sz (ps τ sz i) ≤ sz := by
    have := (nen_first b d).2
    unfold nln
    omega
  have loop : ∀ (d2 n f : Nat), n + d2 = nln τ sz (ps τ sz i) → d2 < f → wl_X8_numberAt_4 N P K f (nI i) (nI (nbN τ (ps τ sz i) n)) (nI n) := by
    intro d2
    induction d2 with
    | zero =>
      intro n f hn hf
      obtain ⟨f, rfl, _⟩ := fuel hf
      refine ⟨inb_nI (by omega) (by decide), ?_⟩
      rw [tn_nI (by omega), e226, r3]
      refine And.intro (fun _ => ?_) (fun z => absurd (nI_le (by omega) (by omega)) z)
      rw [show n = nln τ sz (ps τ sz i) by omega]
      exact hk
    | succ d2 ih =>
      intro n f hn hf
      obtain ⟨f, rfl, _⟩ := fuel (show 0 < f by omega)
      refine ⟨inb_nI (by omega) (by decide), ?_⟩
      rw [tn_nI (by omega), e226, r3, e225, r2, nI_add, e221, tn_nI (by omega)]
      refine And.intro (fun z => absurd z (nI_ge (by omega) (by omega))) (fun _ => ⟨inb_nI (by omega) (by decide), inb_nI (by omega) (by decide), fun v2 e2 v3 e3 => ?_⟩)
      rw [nI_1] at e3
      have hdn := hd n (by omega)
      have hlt := nbN_lt (τ := τ) (ps τ sz i) n (fun j hj => hd j (by omega))
      have e2 : v2 = nI (nbN τ (ps τ sz i) (n + 1)) := by
        have h10 : (10 : Int32) * nI (nbN τ (ps τ sz i) n) = nI (nbN τ (ps τ sz i) n * 10) := by
          have : nI (nbN τ (ps τ sz i) n * 10) = nI (nbN τ (ps τ sz i) n) * nI 10 := Int32.ofNat_mul ..
          rw [this, Int32.mul_comm]
          rfl
        have e48 : (48 : Int32) = nI 48 := rfl
        rw [e2, (hT.2.1 _ (by omega)).2, h10, nI_add, e48, nI_sub' (by omega)]
        show nI _ = nI (nbN τ (ps τ sz i) n * 10 + (τ (ps τ sz i + n) - 48))
        congr 1
        omega
      subst e2 e3
      exact ih (n + 1) f (by omega) (by omega)
  exact loop (nln τ sz (ps τ sz i)) 0 fK (by omega) (by rw [fK_eq]; omega)
theorem tok_SAM (hB : ∀ p, p < sz → τ p ≤ 255) (hM : LST τ sz m) {N0 : M2} (hT : TPR τ sz N0) (hR : RTK τ sz m (m + 1) N0) : SAM (kT τ sz) m (vT τ sz) N0 := by
  intro i j hi hj ki kj N P K e221 e225 e226 h1 h0
  have hm := hM.1
  have hs := hT.1
  have him : ∀ i, i ≤ m → kT τ sz i = 40 → i < m := fun i hi h => by
    rcases Nat.lt_or_ge i m with g | g
    · exact g
    · have : i = m := by omega
      subst this
      exact absurd (show kT τ sz i < 900 by rw [h]; decide) hM.2.2
  have val : ∀ i, kT τ sz i = 40 → vT τ sz i = cdI τ (ps τ sz i) (wln τ sz (ps τ sz i)) := fun i h => by
    obtain ⟨a, b, c, d, e⟩ := kT_word hB (Or.inl h)
    unfold vT tvl
    rw [if_neg a, if_neg (by omega), if_pos c, if_pos d, if_neg (by rw [e.symm.trans h]; decide), if_neg (by rw [e.symm.trans h]; decide)]
  have sgs : ∀ i, kT τ sz i = 40 → ∀ t, t < wln τ sz (ps τ sz i) → 0 < sg (τ (ps τ sz i + t)) := fun i h t ht => wen_sg (sz - ps τ sz i) (ps τ sz i) (ps τ sz i + t) (by omega) (by unfold wln at ht; omega)
  obtain ⟨a1, b1, c1, d1, _⟩ := kT_word hB (Or.inl ki)
  obtain ⟨a2, b2, c2, d2, _⟩ := kT_word hB (Or.inl kj)
  have end1 : ps τ sz i + wln τ sz (ps τ sz i) ≤ sz := by
    have := (wen_first b1 c1).2
    unfold wln
    omega
  have end2 : ps τ sz j + wln τ sz (ps τ sz j) ≤ sz := by
    have := (wen_first b2 c2).2
    unfold wln
    omega
  have l1 := him i hi ki
  have l2 := him j hj kj
  obtain ⟨_, r2, r3, _⟩ := hR i (by omega)
  obtain ⟨_, t2, t3, _⟩ := hR j (by omega)
  have r3 := r3 l1
  have t3 := t3 l2
  have eln1 : tln τ sz (ps τ sz i) = wln τ sz (ps τ sz i) := by unfold tln; rw [if_pos c1]
  have eln2 : tln τ sz (ps τ sz j) = wln τ sz (ps τ sz j) := by unfold tln; rw [if_pos c2]
  rw [eln1] at r3
  rw [eln2] at t3
  have same : vT τ sz i = vT τ sz j ↔ (wln τ sz (ps τ sz i) = wln τ sz (ps τ sz j) ∧ ∀ t, t < wln τ sz (ps τ sz i) → τ (ps τ sz i + t) = τ (ps τ sz j + t)) := by
    rw [val i ki, val j kj]
    constructor
    · exact fun z => cdI_inj d1 d2 (sgs i ki) (sgs j kj) z
    · intro z
      obtain ⟨z1, z2⟩ := z
      rw [cdI_N, cdI_N, ← z1]
      exact congrArg Int64.ofNat (cdN_cong _ z2)
  refine ⟨inb_nI (by omega) (by decide), inb_nI (by omega) (by decide), ?_⟩
  rw [tn_nI (by omega), tn_nI (by omega), e226, r3, t3]
  refine And.intro (fun g => ?_) (fun g => h0 (fun z => g (by rw [(same.mp z).1])))
  have g := nI_inj (by omega) (by omega) g
  have loop : ∀ (d2 n f : Nat), n + d2 = wln τ sz (ps τ sz i) → d2 < f → (∀ t, t < n → τ (ps τ sz i + t) = τ (ps τ sz j + t)) → wl_X8_isSame_19 N P K f (nI i) (nI j) (nI n) := by
    intro d2
    induction d2 with
    | zero =>
      intro n f hn hf hp
      obtain ⟨f, rfl, _⟩ := fuel hf
      refine ⟨inb_nI (by omega) (by decide), ?_⟩
      rw [tn_nI (by omega), e226, r3]
      exact And.intro (fun _ => h1 (same.mpr ⟨g, fun t ht => hp t (by omega)⟩)) (fun z => absurd (nI_le (by omega) (by omega)) z)
    | succ d2 ih =>
      intro n f hn hf hp
      obtain ⟨f, rfl, _⟩ := fuel (show 0 < f by omega)
      have inI : inb (nI i) 401 := inb_nI (by omega) (by decide)
      have inJ : inb (nI j) 401 := inb_nI (by omega) (by decide)
      refine ⟨inI, ?_⟩
      rw [tn_nI (by omega), tn_nI (by omega), e226, r3, e225, r2, t2, nI_add, nI_add, e221, tn_nI (by omega), tn_nI (by omega), (hT.2.1 _ (by omega)).2, (hT.2.1 _ (by omega)).2]
      refine And.intro (fun z => absurd z (nI_ge (by omega) (by omega))) (fun _ => ⟨inI, inb_nI (by omega) (by decide), inJ, inb_nI (by omega) (by decide), ?_⟩)
      rw [nI_eqN (hT.2.1 _ (by omega)).1 (hT.2.1 _ (by omega)).1]
      refine And.intro (fun c v ev => ?_) (fun c => h0 (fun z => c ((same.mp z).2 n (by omega))))
      rw [nI_1] at ev
      subst ev
      refine ih (n + 1) f (by omega) (by omega) (fun t ht => ?_)
      by_cases e : t = n
      · rw [e]; exact c
      · exact hp t (by omega)
  exact loop (wln τ sz (ps τ sz i)) 0 fK (by omega) (by rw [fK_eq]; omega) (fun t ht => absurd ht (Nat.not_lt_zero _))
/-- where the lists begin -/
theorem BND0 {κ : Nat → Int32} {val : Nat → Int64} {F : M2} {L : L2} {N P : M2} (hF : (F 66 = fun _ => nI 0) ∧ F 20 0 = 0 ∧ F 21 0 = 0 ∧ F 22 0 = 0 ∧ F 23 0 = 0 ∧ F 24 0 = 0 ∧ F 40 0 = 0 ∧ F 45 0 = 0 ∧ F 67 0 = 0) (hFT : ∀ i, i ≤ m → F 74 i = ck (κ i) ∧ L 76 i = val i) (hN : (N 229 = fun _ => nI 0) ∧ (N 230 = fun _ => nI 0) ∧ (∀ i, i ≤ m → N 224 i = κ i ∧ N 227 i = 0)) (hP : P 240 0 = 0 ∧ P 241 0 = 0 ∧ P 246 0 = 0 ∧ P 249 0 = 0 ∧ P 252 0 = 0 ∧ P 257 0 = 0 ∧ P 258 0 = 0 ∧ P 264 0 = 0 ∧ P 266 0 = 0) : BND κ m val N P F L N P 0 [] 0 := by
  obtain ⟨f1, f2, f3, f4, f5, f6, f7, f8, f9⟩ := hF
  obtain ⟨n1, n2, n3⟩ := hN
  obtain ⟨p1, p2, p3, p4, p5, p6, p7, p8, p9⟩ := hP
  have c0 : ∀ (ρ : Nat → Int32) as, cnt ρ as 0 = 0 := fun _ _ => rfl
  have z : (0 : Int32) = nI 0 := rfl
  refine ⟨⟨f1, Nat.zero_le _, fun i hi => (hFT i hi).1, fun i hi => (hFT i hi).2⟩, ⟨n1, n2, ⟨rfl, rfl, rfl, rfl⟩, fun i hi => (n3 i hi).1, Nat.zero_le _, 0, 0, p8, by omega, p9, by omega⟩, fun k _ hk => (n3 k hk).2, ⟨f8, Nat.le_refl _⟩, ⟨p8, fun j hj => absurd hj (Nat.not_lt_zero _), p9, fun j hj => absurd hj (Nat.not_lt_zero _)⟩, ⟨Nat.le_refl _, fun q hq => (nomatch hq), fun q hq => (nomatch hq)⟩, ⟨p7, Nat.le_refl _⟩, fun t ht => absurd ht (Nat.not_lt_zero _), Or.inr ⟨P, 0, ⟨rfl, rfl⟩, f9, ?_, ?_⟩⟩
  · refine ⟨⟨f2, p1, Nat.zero_le _, fun k hk => absurd hk (Nat.not_lt_zero _)⟩, ⟨f4, p3, Nat.zero_le _, fun k hk => absurd hk (Nat.not_lt_zero _)⟩, ⟨f5, p4, Nat.zero_le _, fun k hk => absurd hk (Nat.not_lt_zero _)⟩, ⟨f6, p5, Nat.zero_le _, fun k hk => absurd hk (Nat.not_lt_zero _)⟩, ⟨f3, p2, Nat.le_refl _⟩, fun k hk => absurd hk (Nat.not_lt_zero _), fun k hk => absurd hk (Nat.not_lt_zero _), fun k hk => absurd hk (Nat.not_lt_zero _), fun k hk => absurd hk (Nat.not_lt_zero _), fun k hk => absurd hk (Nat.not_lt_zero _)⟩
  · exact ⟨f7, p6, by omega, by decide, fun j hj => absurd hj (Nat.not_lt_zero _), fun q hq => (nomatch hq), fun o ho => absurd ho (Nat.not_lt_zero _)⟩
end FACTS
