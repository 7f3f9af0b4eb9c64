/-! ===== the second pass: what stays true; what it does not look at ===== -/
section PASS2
variable {κ : Nat → Int32} {m : Nat} {val : Nat → Int64} {ρ : Nat → Int32}
theorem SINV.keep {V V' : M2} {t : Nat} (h : SINV ρ V t) (h0 : V' 240 = V 240) (h1 : V' 246 = V 246) (h2 : V' 249 = V 249) (h3 : V' 252 = V 252) (h4 : V' 257 = V 257) (h5 : V' 241 = V 241) (hr : ¬ ρ t = 1 ∧ ¬ ρ t = 2 ∧ ¬ ρ t = 3 ∧ ¬ ρ t = 4 ∧ ¬ ρ t = 5 ∧ ¬ ρ t = 6) : SINV ρ V' (t + 1) := by
  obtain ⟨⟨i1, b1⟩, ⟨i2, b2⟩, ⟨i3, b3⟩, ⟨i4, b4⟩, ⟨i5, b5⟩, np, i6, b6⟩ := h
  obtain ⟨r1, r2, r3, r4, r5, r6⟩ := hr
  have s : ∀ as, ¬ ρ t = as → cnt ρ as (t + 1) = cnt ρ as t := fun as ha => by
    show cnt ρ as t + (if ρ t = as then 1 else 0) = _
    rw [if_neg ha, Nat.add_zero]
  have s7 : cnt ρ 7 t ≤ cnt ρ 7 (t + 1) := cnt_le (Nat.le_succ t)
  unfold SINV
  rw [s 1 r1, s 2 r2, s 3 r3, s 4 r4, s 5 r5, s 6 r6, h0, h1, h2, h3, h4, h5]
  exact ⟨⟨i1, b1⟩, ⟨i2, b2⟩, ⟨i3, b3⟩, ⟨i4, b4⟩, ⟨i5, b5⟩, np, i6, by omega⟩
theorem newE_0 {τ : Int32} {c cap : Nat} (hc : c < 1000) (hcap : cap < 1000) (h : newE τ (nI c) (nI cap) = 0) : ¬ c = cap := by
  unfold newE at h
  intro e
  subst e
  split at h
  · exact absurd h (by decide)
  · rw [if_pos rfl] at h
    exact absurd h (by decide)
theorem digF_spec {k : Int32} {d n : Nat} {V : M2} (h : V 241 0 = nI n) (hn : n + d < 1000) : digF k d V 241 0 = nI (n + d) ∧ ∀ j, j ≠ 245 → j ≠ 241 → digF k d V j = V j := by
  rw [digF_dg]
  obtain ⟨a, _, c⟩ := dgG_spec (ka := 245) (kc := 241) (by decide) (k := k) d V n h hn
  exact ⟨a, c⟩
theorem SINV.step {V : M2} {p t : Nat} (hNV : NUMV κ m val) (hp : p ≤ m) (hW : WFR κ ρ p) (ht : t < p) (h : SINV ρ V t) (he : (erF κ val ρ t V).1 = 0) : SINV ρ (erF κ val ρ t V).2 (t + 1) := by
  have hL := hW t ht
  have hb := h
  obtain ⟨⟨i1, b1⟩, ⟨i2, b2⟩, ⟨i3, b3⟩, ⟨i4, b4⟩, ⟨i5, b5⟩, np, i6, b6⟩ := hb
  have s : ∀ as, ¬ ρ t = as → cnt ρ as (t + 1) = cnt ρ as t := fun as ha => by
    show cnt ρ as t + (if ρ t = as then 1 else 0) = _
    rw [if_neg ha, Nat.add_zero]
  have s1 : ∀ as, ρ t = as → cnt ρ as (t + 1) = cnt ρ as t + 1 := fun as ha => by
    show cnt ρ as t + (if ρ t = as then 1 else 0) = _
    rw [if_pos ha]
  have bmp : ∀ (k : Nat), bump V k 0 = up2 V k (fun _ => V k 0 + 1) := fun k => rfl
  rcases hL.2.2.2 with hr | hr | hr | hr | hr | hr | hr | hr | hr | hr | hr | hr | hr | hr | hr | hr | hr | hr | hr | hr | hr | hr
  · -- role 0
    rw [erF_0 hr] at he ⊢
    exact h.keep rfl rfl rfl rfl rfl rfl (by rw [hr]; decide)
  · -- role 1
    rw [erF_1 hr] at he ⊢
    dsimp only at he ⊢
    rw [he, bmp]
    rw [i1] at he
    have hne := newE_0 (cap := 5) (by omega) (by decide) he
    unfold SINV
    rw [s1 1 hr, s 2 (by rw [hr]; decide), s 3 (by rw [hr]; decide), s 4 (by rw [hr]; decide), s 5 (by rw [hr]; decide), s 6 (by rw [hr]; decide), s 7 (by rw [hr]; decide)]
    exact ⟨⟨by rw [up2_s, i1, nI_1], by omega⟩, ⟨by rw [up2_n _ _ (by decide)]; exact i2, b2⟩, ⟨by rw [up2_n _ _ (by decide)]; exact i3, b3⟩, ⟨by rw [up2_n _ _ (by decide)]; exact i4, b4⟩, ⟨by rw [up2_n _ _ (by decide)]; exact i5, b5⟩, np, by rw [up2_n _ _ (by decide)]; exact i6, b6⟩
  · -- role 2
    rw [erF_2 hr] at he ⊢
    dsimp only at he ⊢
    rw [he, bmp]
    rw [i2] at he
    have hne := newE_0 (cap := 4) (by omega) (by decide) he
    unfold SINV
    rw [s 1 (by rw [hr]; decide), s1 2 hr, s 3 (by rw [hr]; decide), s 4 (by rw [hr]; decide), s 5 (by rw [hr]; decide), s 6 (by rw [hr]; decide), s 7 (by rw [hr]; decide)]
    exact ⟨⟨by rw [up2_n _ _ (by decide)]; exact i1, b1⟩, ⟨by rw [up2_s, i2, nI_1], by omega⟩, ⟨by rw [up2_n _ _ (by decide)]; exact i3, b3⟩, ⟨by rw [up2_n _ _ (by decide)]; exact i4, b4⟩, ⟨by rw [up2_n _ _ (by decide)]; exact i5, b5⟩, np, by rw [up2_n _ _ (by decide)]; exact i6, b6⟩
  · -- role 3
    rw [erF_3 hr] at he ⊢
    dsimp only at he ⊢
    rw [he, bmp]
    rw [i3] at he
    have hne := newE_0 (cap := 6) (by omega) (by decide) he
    unfold SINV
    rw [s 1 (by rw [hr]; decide), s 2 (by rw [hr]; decide), s1 3 hr, s 4 (by rw [hr]; decide), s 5 (by rw [hr]; decide), s 6 (by rw [hr]; decide), s 7 (by rw [hr]; decide)]
    exact ⟨⟨by rw [up2_n _ _ (by decide)]; exact i1, b1⟩, ⟨by rw [up2_n _ _ (by decide)]; exact i2, b2⟩, ⟨by rw [up2_s, i3, nI_1], by omega⟩, ⟨by rw [up2_n _ _ (by decide)]; exact i4, b4⟩, ⟨by rw [up2_n _ _ (by decide)]; exact i5, b5⟩, np, by rw [up2_n _ _ (by decide)]; exact i6, b6⟩
  · -- role 4
    rw [erF_4 hr] at he ⊢
    dsimp only at he ⊢
    rw [he, bmp]
    rw [i4] at he
    have hne := newE_0 (cap := 8) (by omega) (by decide) he
    unfold SINV
    rw [s 1 (by rw [hr]; decide), s 2 (by rw [hr]; decide), s 3 (by rw [hr]; decide), s1 4 hr, s 5 (by rw [hr]; decide), s 6 (by rw [hr]; decide), s 7 (by rw [hr]; decide)]
    exact ⟨⟨by rw [up2_n _ _ (by decide)]; exact i1, b1⟩, ⟨by rw [up2_n _ _ (by decide)]; exact i2, b2⟩, ⟨by rw [up2_n _ _ (by decide)]; exact i3, b3⟩, ⟨by rw [up2_s, i4, nI_1], by omega⟩, ⟨by rw [up2_n _ _ (by decide)]; exact i5, b5⟩, np, by rw [up2_n _ _ (by decide)]; exact i6, b6⟩
  · -- role 5
    rw [erF_5 hr] at he ⊢
    by_cases c : V 257 0 = 16
    · rw [if_pos c] at he
      exact absurd he (by show ¬ (4 : Int32) = 0; decide)
    · rw [if_neg c]
      dsimp only
      have hne : ¬ cnt ρ 5 t + cnt ρ 6 t = 16 := fun z => c (by rw [i5, z]; rfl)
      unfold SINV ordF
      rw [s 1 (by rw [hr]; decide), s 2 (by rw [hr]; decide), s 3 (by rw [hr]; decide), s 4 (by rw [hr]; decide), s1 5 hr, s 6 (by rw [hr]; decide), s 7 (by rw [hr]; decide)]
      exact ⟨⟨by rw [up2_n _ _ (by decide), st2_n _ _ _ (by decide)]; exact i1, b1⟩, ⟨by rw [up2_n _ _ (by decide), st2_n _ _ _ (by decide)]; exact i2, b2⟩, ⟨by rw [up2_n _ _ (by decide), st2_n _ _ _ (by decide)]; exact i3, b3⟩, ⟨by rw [up2_n _ _ (by decide), st2_n _ _ _ (by decide)]; exact i4, b4⟩, ⟨by rw [up2_s, i5, nI_1]; exact congrArg nI (by omega), by omega⟩, np, by rw [up2_n _ _ (by decide), st2_n _ _ _ (by decide)]; exact i6, b6⟩
  · -- role 6
    rw [erF_6 hr] at he ⊢
    by_cases c : V 257 0 = 16
    · rw [if_pos c] at he
      exact absurd he (by show ¬ (4 : Int32) = 0; decide)
    · rw [if_neg c]
      dsimp only
      have hne : ¬ cnt ρ 5 t + cnt ρ 6 t = 16 := fun z => c (by rw [i5, z]; rfl)
      unfold SINV ordF
      rw [s 1 (by rw [hr]; decide), s 2 (by rw [hr]; decide), s 3 (by rw [hr]; decide), s 4 (by rw [hr]; decide), s 5 (by rw [hr]; decide), s1 6 hr, s 7 (by rw [hr]; decide)]
      exact ⟨⟨by rw [up2_n _ _ (by decide), st2_n _ _ _ (by decide)]; exact i1, b1⟩, ⟨by rw [up2_n _ _ (by decide), st2_n _ _ _ (by decide)]; exact i2, b2⟩, ⟨by rw [up2_n _ _ (by decide), st2_n _ _ _ (by decide)]; exact i3, b3⟩, ⟨by rw [up2_n _ _ (by decide), st2_n _ _ _ (by decide)]; exact i4, b4⟩, ⟨by rw [up2_s, i5, nI_1]; exact congrArg nI (by omega), by omega⟩, np, by rw [up2_n _ _ (by decide), st2_n _ _ _ (by decide)]; exact i6, b6⟩
  · -- role 7
    rw [erF_7 hr] at he ⊢
    dsimp only at he ⊢
    rw [if_pos he]
    have c : (1 : Int32) ≤ (val t).toInt32 ∧ (val t).toInt32 ≤ 12 := by
      unfold rngE at he
      by_cases c : (1 : Int32) ≤ (val t).toInt32 ∧ (val t).toInt32 ≤ 12
      · exact c
      · rw [if_neg c] at he
        exact absurd he (by decide)
    obtain ⟨v, hv, ev⟩ := hNV t (by omega) (hL.kind hr (by decide) (by decide))
    obtain ⟨q1, q2⟩ := rng_nat (lo := 1) (hi := 12) ev hv (by decide) (by decide) c
    have h7 := hW.a7 ht hr
    unfold dugF
    rw [ev, tn_nI (by omega)]
    obtain ⟨d1, d2⟩ := digF_spec (k := V 240 0 - 1) (d := v) (n := np) (V := st2 (st2 V 242 (lastI V 240) (nI v)) 244 (lastI V 240) (V 241 0)) (by rw [st2_n _ _ _ (by decide), st2_n _ _ _ (by decide)]; exact i6) (by omega)
    have dk : ∀ j, j ≠ 245 → j ≠ 241 → j ≠ 242 → j ≠ 244 → digF (V 240 0 - 1) v (st2 (st2 V 242 (lastI V 240) (nI v)) 244 (lastI V 240) (V 241 0)) j = V j := fun j a1 a2 a3 a4 => by rw [d2 j a1 a2, st2_n _ _ _ a4, st2_n _ _ _ a3]
    unfold SINV
    rw [s 1 (by rw [hr]; decide), s 2 (by rw [hr]; decide), s 3 (by rw [hr]; decide), s 4 (by rw [hr]; decide), s 5 (by rw [hr]; decide), s 6 (by rw [hr]; decide), s1 7 hr]
    rw [dk 240 (by decide) (by decide) (by decide) (by decide), dk 246 (by decide) (by decide) (by decide) (by decide), dk 249 (by decide) (by decide) (by decide) (by decide), dk 252 (by decide) (by decide) (by decide) (by decide), dk 257 (by decide) (by decide) (by decide) (by decide)]
    exact ⟨⟨i1, b1⟩, ⟨i2, b2⟩, ⟨i3, b3⟩, ⟨i4, b4⟩, ⟨i5, b5⟩, np + v, d1, by omega⟩
  · -- role 8
    rw [erF_8 hr] at he ⊢
    dsimp only
    refine h.keep ?_ ?_ ?_ ?_ ?_ ?_ (by rw [hr]; decide) <;> exact st2_n _ _ _ (by decide)
  · -- role 9
    rw [erF_9 hr] at he ⊢
    dsimp only
    refine h.keep ?_ ?_ ?_ ?_ ?_ ?_ (by rw [hr]; decide) <;> exact st2_n _ _ _ (by decide)
  · -- role 10
    rw [erF_10 hr] at he ⊢
    dsimp only
    refine h.keep ?_ ?_ ?_ ?_ ?_ ?_ (by rw [hr]; decide) <;> exact st2_n _ _ _ (by decide)
  · -- role 11
    rw [erF_11 hr] at he ⊢
    dsimp only
    refine h.keep ?_ ?_ ?_ ?_ ?_ ?_ (by rw [hr]; decide) <;> exact st2_n _ _ _ (by decide)
  · -- role 12
    rw [erF_12 hr] at he ⊢
    dsimp only
    refine h.keep ?_ ?_ ?_ ?_ ?_ ?_ (by rw [hr]; decide) <;> exact st2_n _ _ _ (by decide)
  · -- role 13
    rw [erF_13 hr] at he ⊢
    dsimp only
    refine h.keep ?_ ?_ ?_ ?_ ?_ ?_ (by rw [hr]; decide) <;> exact st2_n _ _ _ (by decide)
  · -- role 14
    rw [erF_14 hr] at he ⊢
    dsimp only
    refine h.keep ?_ ?_ ?_ ?_ ?_ ?_ (by rw [hr]; decide) <;> exact st2_n _ _ _ (by decide)
  · -- role 15
    rw [erF_15 hr] at he ⊢
    dsimp only
    refine h.keep ?_ ?_ ?_ ?_ ?_ ?_ (by rw [hr]; decide) <;> exact st2_n _ _ _ (by decide)
  · -- role 16
    rw [erF_16 hr] at he ⊢
    have st : ∀ k, k < 310 → (crewF V 0 (tld val ρ 3 t t)) k = V k := fun k hk => by unfold crewF; exact st2_n _ _ _ (by omega)
    exact h.keep (st _ (by decide)) (st _ (by decide)) (st _ (by decide)) (st _ (by decide)) (st _ (by decide)) (st _ (by decide)) (by rw [hr]; decide)
  · -- role 17
    rw [erF_17 hr] at he ⊢
    have st : ∀ k, k < 310 → (crewF V 1 (tld val ρ 3 t t)) k = V k := fun k hk => by unfold crewF; exact st2_n _ _ _ (by omega)
    exact h.keep (st _ (by decide)) (st _ (by decide)) (st _ (by decide)) (st _ (by decide)) (st _ (by decide)) (st _ (by decide)) (by rw [hr]; decide)
  · -- role 18
    rw [erF_18 hr] at he ⊢
    dsimp only
    refine h.keep ?_ ?_ ?_ ?_ ?_ ?_ (by rw [hr]; decide) <;> exact st2_n _ _ _ (by decide)
  · -- role 19
    rw [erF_19 hr] at he ⊢
    dsimp only
    refine h.keep ?_ ?_ ?_ ?_ ?_ ?_ (by rw [hr]; decide) <;> exact st2_n _ _ _ (by decide)
  · -- role 20
    rw [erF_20 hr] at he ⊢
    exact h.keep rfl rfl rfl rfl rfl rfl (by rw [hr]; decide)
  · -- role 21
    rw [erF_21 hr] at he ⊢
    exact h.keep rfl rfl rfl rfl rfl rfl (by rw [hr]; decide)
/-- what the second pass does not look at -/
theorem PFR.st2 {V W : M2} (h : PFR V W) {k : Nat} (i : Nat) (x : Int32) (hk : k < 258 ∨ k = 259 ∨ k = 260 ∨ 266 < k) : PFR (st2 V k i x) (st2 W k i x) := fun j hj => by
  by_cases e : j = k
  · subst e
    show up2 W j (upd (W j) i x) j = up2 V j (upd (V j) i x) j
    rw [up2_s, up2_s, h j hj]
  · show up2 W k (upd (W k) i x) j = up2 V k (upd (V k) i x) j
    rw [up2_n _ _ e, up2_n _ _ e, h j hj]
theorem PFR.up2 {V W : M2} (h : PFR V W) {k : Nat} {g : Nat → Int32} : PFR (up2 V k g) (up2 W k g) := fun j hj => by
  by_cases e : j = k
  · subst e
    rw [up2_s, up2_s]
  · rw [up2_n _ _ e, up2_n _ _ e, h j hj]
theorem PFR.last {V W : M2} (h : PFR V W) {k : Nat} (hk : k < 258) : lastI W k = lastI V k := by
  unfold lastI
  rw [h k (Or.inl hk)]
theorem PFR.dig {k : Int32} : ∀ (d : Nat) {V W : M2}, PFR V W → PFR (digF k d V) (digF k d W)
  | 0, _, _, h => h
  | d + 1, V, W, h => by
    unfold digF
    rw [h 241 (Or.inl (by decide))]
    exact PFR.dig d ((h.st2 _ _ (Or.inl (by decide))).up2)
theorem dig_off {k : Int32} {j : Nat} (h1 : j ≠ 245) (h2 : j ≠ 241) : ∀ (d : Nat) (V : M2), digF k d V j = V j
  | 0, _ => rfl
  | d + 1, V => by
    unfold digF
    rw [dig_off h1 h2 d, up2_n _ _ h2, st2_n _ _ _ h1]
theorem PFR.er {V W : M2} (h : PFR V W) {t : Nat} (hL : LOC κ ρ t) : (erF κ val ρ t W).1 = (erF κ val ρ t V).1 ∧ PFR (erF κ val ρ t V).2 (erF κ val ρ t W).2 := by
  have e240 := h 240 (Or.inl (by decide))
  have e246 := h 246 (Or.inl (by decide))
  have e249 := h 249 (Or.inl (by decide))
  have e252 := h 252 (Or.inl (by decide))
  have e257 := h 257 (Or.inl (by decide))
  have e241 := h 241 (Or.inl (by decide))
  have l240 := h.last (k := 240) (by decide)
  have l246 := h.last (k := 246) (by decide)
  have l249 := h.last (k := 249) (by decide)
  have l252 := h.last (k := 252) (by decide)
  have l257 := h.last (k := 257) (by decide)
  rcases hL.2.2.2 with hr | hr | hr | hr | hr | hr | hr | hr | hr | hr | hr | hr | hr | hr | hr | hr | hr | hr | hr | hr | hr | hr
  · -- role 0
    rw [erF_0 hr, erF_0 hr]
    exact ⟨rfl, h⟩
  · -- role 1
    rw [erF_1 hr, erF_1 hr]
    unfold bump
    rw [e240]
    exact ⟨rfl, h.up2⟩
  · -- role 2
    rw [erF_2 hr, erF_2 hr]
    unfold bump
    rw [e246]
    exact ⟨rfl, h.up2⟩
  · -- role 3
    rw [erF_3 hr, erF_3 hr]
    unfold bump
    rw [e249]
    exact ⟨rfl, h.up2⟩
  · -- role 4
    rw [erF_4 hr, erF_4 hr]
    unfold bump
    rw [e252]
    exact ⟨rfl, h.up2⟩
  · -- role 5
    rw [erF_5 hr, erF_5 hr]
    rw [e257]
    split
    · exact ⟨rfl, h⟩
    · unfold ordF
      rw [e257]
      exact ⟨rfl, (h.st2 _ _ (by decide)).up2⟩
  · -- role 6
    rw [erF_6 hr, erF_6 hr]
    rw [e257]
    split
    · exact ⟨rfl, h⟩
    · unfold ordF
      rw [e257]
      exact ⟨rfl, (h.st2 _ _ (by decide)).up2⟩
  · -- role 7
    rw [erF_7 hr, erF_7 hr]
    refine ⟨rfl, ?_⟩
    dsimp only
    split
    · unfold dugF
      rw [e240, l240, e241]
      exact PFR.dig _ ((h.st2 _ _ (by decide)).st2 _ _ (by decide))
    · exact h
  · -- role 8
    rw [erF_8 hr, erF_8 hr]
    rw [l240]
    exact ⟨rfl, h.st2 _ _ (by decide)⟩
  · -- role 9
    rw [erF_9 hr, erF_9 hr]
    rw [l246]
    rw [e241]
    exact ⟨rfl, h.st2 _ _ (by decide)⟩
  · -- role 10
    rw [erF_10 hr, erF_10 hr]
    rw [l246]
    exact ⟨rfl, h.st2 _ _ (by decide)⟩
  · -- role 11
    rw [erF_11 hr, erF_11 hr]
    rw [l249]
    exact ⟨rfl, h.st2 _ _ (by decide)⟩
  · -- role 12
    rw [erF_12 hr, erF_12 hr]
    rw [l249]
    exact ⟨rfl, h.st2 _ _ (by decide)⟩
  · -- role 13
    rw [erF_13 hr, erF_13 hr]
    rw [l252]
    exact ⟨rfl, h.st2 _ _ (by decide)⟩
  · -- role 14
    rw [erF_14 hr, erF_14 hr]
    rw [l252]
    exact ⟨rfl, h.st2 _ _ (by decide)⟩
  · -- role 15
    rw [erF_15 hr, erF_15 hr]
    rw [l252]
    exact ⟨rfl, h.st2 _ _ (by decide)⟩
  · -- role 16
    rw [erF_16 hr, erF_16 hr]
    have hc := h.st2 (k := 310 + lastI V 252) 0 (tld val ρ 3 t t) (Or.inr (Or.inr (Or.inr (by omega))))
    unfold crewF
    rw [l252]
    exact ⟨rfl, hc⟩
  · -- role 17
    rw [erF_17 hr, erF_17 hr]
    have hc := h.st2 (k := 310 + lastI V 252) 1 (tld val ρ 3 t t) (Or.inr (Or.inr (Or.inr (by omega))))
    unfold crewF
    rw [l252]
    rw [hc (310 + lastI V 252) (Or.inr (Or.inr (Or.inr (by omega))))]
    exact ⟨rfl, hc⟩
  · -- role 18
    rw [erF_18 hr, erF_18 hr]
    rw [l257]
    exact ⟨rfl, h.st2 _ _ (by decide)⟩
  · -- role 19
    rw [erF_19 hr, erF_19 hr]
    rw [l257]
    exact ⟨rfl, h.st2 _ _ (by decide)⟩
  · -- role 20
    rw [erF_20 hr, erF_20 hr]
    exact ⟨rfl, h⟩
  · -- role 21
    rw [erF_21 hr, erF_21 hr]
    exact ⟨rfl, h⟩
theorem er_off {V : M2} {t j : Nat} (hL : LOC κ ρ t) (hj : j = 258 ∨ (261 ≤ j ∧ j ≤ 266)) : (erF κ val ρ t V).2 j = V j := by
  rcases hL.2.2.2 with hr | hr | hr | hr | hr | hr | hr | hr | hr | hr | hr | hr | hr | hr | hr | hr | hr | hr | hr | hr | hr | hr
  · -- role 0
    rw [erF_0 hr]
  · -- role 1
    rw [erF_1 hr]
    dsimp only
    exact up2_n _ _ (by omega)
  · -- role 2
    rw [erF_2 hr]
    dsimp only
    exact up2_n _ _ (by omega)
  · -- role 3
    rw [erF_3 hr]
    dsimp only
    exact up2_n _ _ (by omega)
  · -- role 4
    rw [erF_4 hr]
    dsimp only
    exact up2_n _ _ (by omega)
  · -- role 5
    rw [erF_5 hr]
    split
    · rfl
    · unfold ordF
      dsimp only
      rw [up2_n _ _ (by omega), st2_n _ _ _ (by omega)]
  · -- role 6
    rw [erF_6 hr]
    split
    · rfl
    · unfold ordF
      dsimp only
      rw [up2_n _ _ (by omega), st2_n _ _ _ (by omega)]
  · -- role 7
    rw [erF_7 hr]
    dsimp only
    split
    · unfold dugF
      rw [dig_off (by omega) (by omega), st2_n _ _ _ (by omega), st2_n _ _ _ (by omega)]
    · rfl
  · -- role 8
    rw [erF_8 hr]
    dsimp only
    exact st2_n _ _ _ (by omega)
  · -- role 9
    rw [erF_9 hr]
    dsimp only
    exact st2_n _ _ _ (by omega)
  · -- role 10
    rw [erF_10 hr]
    dsimp only
    exact st2_n _ _ _ (by omega)
  · -- role 11
    rw [erF_11 hr]
    dsimp only
    exact st2_n _ _ _ (by omega)
  · -- role 12
    rw [erF_12 hr]
    dsimp only
    exact st2_n _ _ _ (by omega)
  · -- role 13
    rw [erF_13 hr]
    dsimp only
    exact st2_n _ _ _ (by omega)
  · -- role 14
    rw [erF_14 hr]
    dsimp only
    exact st2_n _ _ _ (by omega)
  · -- role 15
    rw [erF_15 hr]
    dsimp only
    exact st2_n _ _ _ (by omega)
  · -- role 16
    rw [erF_16 hr]
    dsimp only
    exact st2_n _ _ _ (by omega)
  · -- role 17
    rw [erF_17 hr]
    dsimp only
    exact st2_n _ _ _ (by omega)
  · -- role 18
    rw [erF_18 hr]
    dsimp only
    exact st2_n _ _ _ (by omega)
  · -- role 19
    rw [erF_19 hr]
    dsimp only
    exact st2_n _ _ _ (by omega)
  · -- role 20
    rw [erF_20 hr]
  · -- role 21
    rw [erF_21 hr]
theorem sem_ag {V0 W0 : M2} (h0 : PFR V0 W0) {p : Nat} (hW : WFR κ ρ p) : ∀ t, t ≤ p → (sem κ val ρ W0 t).1 = (sem κ val ρ V0 t).1 ∧ (sem κ val ρ W0 t).2.1 = (sem κ val ρ V0 t).2.1 ∧ PFR (sem κ val ρ V0 t).2.2 (sem κ val ρ W0 t).2.2 ∧ ∀ j, (j = 258 ∨ (261 ≤ j ∧ j ≤ 266)) → (sem κ val ρ W0 t).2.2 j = W0 j := by
  intro t
  induction t with
  | zero => intro _; exact ⟨rfl, rfl, h0, fun _ _ => rfl⟩
  | succ t ih =>
    intro ht
    obtain ⟨a, b, c, d⟩ := ih (by omega)
    show (semS κ val ρ t (sem κ val ρ W0 t)).1 = (semS κ val ρ t (sem κ val ρ V0 t)).1 ∧ (semS κ val ρ t (sem κ val ρ W0 t)).2.1 = (semS κ val ρ t (sem κ val ρ V0 t)).2.1 ∧ PFR (semS κ val ρ t (sem κ val ρ V0 t)).2.2 (semS κ val ρ t (sem κ val ρ W0 t)).2.2 ∧ ∀ j, (j = 258 ∨ (261 ≤ j ∧ j ≤ 266)) → (semS κ val ρ t (sem κ val ρ W0 t)).2.2 j = W0 j
    unfold semS
    by_cases e : (sem κ val ρ V0 t).1 = 0
    · rw [if_pos e, if_pos (a.trans e)]
      obtain ⟨q1, q2⟩ := c.er (val := val) (hW t (by omega))
      exact ⟨q1, rfl, q2, fun j hj => (er_off (hW t (by omega)) hj).trans (d j hj)⟩
    · rw [if_neg e, if_neg (fun z => e (a.symm.trans z))]
      exact ⟨a, b, c, d⟩
theorem sem_inv {W0 : M2} {p : Nat} (hNV : NUMV κ m val) (hp : p ≤ m) (hW : WFR κ ρ p) (h0 : SINV ρ W0 0) : ∀ t, t ≤ p → (sem κ val ρ W0 t).1 = 0 → SINV ρ (sem κ val ρ W0 t).2.2 t := by
  intro t
  induction t with
  | zero => intro _ _; exact h0
  | succ t ih =>
    intro ht he
    have he : (semS κ val ρ t (sem κ val ρ W0 t)).1 = 0 := he
    show SINV ρ (semS κ val ρ t (sem κ val ρ W0 t)).2.2 (t + 1)
    unfold semS at he ⊢
    by_cases e : (sem κ val ρ W0 t).1 = 0
    · rw [if_pos e] at he ⊢
      exact (ih (by omega) e).step hNV hp hW (by omega) he
    · rw [if_neg e] at he
      exact absurd he e
end PASS2
