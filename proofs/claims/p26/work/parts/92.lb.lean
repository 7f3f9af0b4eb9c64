/-! ===== the list that cells choose: its loops ===== -/
section LLOOP
variable {xs : Nat → Int32} {Ln : Nat} {K : List Nat → (Nat → Nat) → (Nat → Nat) → M2 → M2 → M2 → M2 → M2 → M2 → Prop} {T0 : List Nat} {nn : Nat → Nat} {V U S L B O : M2}
def FIN5 (K : List Nat → (Nat → Nat) → (Nat → Nat) → M2 → M2 → M2 → M2 → M2 → M2 → Prop) (nn : Nat → Nat) (V U S L B : M2) (T0 : List Nat) : Prop := ∀ O, (∀ k, k < nn 5 → oK (nn 3) (O k)) → (tO (nn 3) (nn 4) T0 O (nn 5)).length ≤ T0.length + 79 * nn 5 → K (tO (nn 3) (nn 4) T0 O (nn 5)) nn nn V U S L B O
def FIN4 (K : List Nat → (Nat → Nat) → (Nat → Nat) → M2 → M2 → M2 → M2 → M2 → M2 → Prop) (nn : Nat → Nat) (V U S L : M2) (T0 : List Nat) : Prop := ∀ z B, z ≤ 5 → (∀ k, k < nn 4 → aK (nn 3) (B k)) → FIN5 K (updN nn 5 z) V U S L B (tA T0 B (nn 4))
def FIN3 (K : List Nat → (Nat → Nat) → (Nat → Nat) → M2 → M2 → M2 → M2 → M2 → M2 → Prop) (nn : Nat → Nat) (V U S : M2) (T0 : List Nat) : Prop := ∀ z L, 1 ≤ z → z ≤ 5 → (∀ k, k < nn 3 → lK (L k)) → FIN4 K (updN nn 4 z) V U S L (tL T0 L (nn 3))
def FIN2 (K : List Nat → (Nat → Nat) → (Nat → Nat) → M2 → M2 → M2 → M2 → M2 → M2 → Prop) (nn : Nat → Nat) (V U : M2) (T0 : List Nat) : Prop := ∀ z S, 2 ≤ z → z ≤ 5 → (∀ k, k < nn 2 → sK (nn 1) (S k)) → FIN3 K (updN nn 3 z) V U S (tS T0 S (nn 2))
/-- places filled below m -/
def PLF (kb : Nat) (V U : M2) (m : Nat) : Prop := ∀ k p, k < kb → fo V k ≤ p → p < fo V (k + 1) → p < m → U p 0 = nI k ∧ U p 1 = 100
def FIN1 (K : List Nat → (Nat → Nat) → (Nat → Nat) → M2 → M2 → M2 → M2 → M2 → M2 → Prop) (nn : Nat → Nat) (V : M2) (T0 : List Nat) : Prop := ∀ z U, z ≤ 2 → PLF (nn 0) V U (fo V (nn 0)) → FIN2 K (updN nn 2 z) V U T0
def FIN0 (K : List Nat → (Nat → Nat) → (Nat → Nat) → M2 → M2 → M2 → M2 → M2 → M2 → Prop) (nn : Nat → Nat) : Prop := ∀ V, (∀ k, k < nn 0 → bK V k (V k)) → FIN1 K (updN nn 1 (fo V (nn 0))) V (tB V (nn 0))
theorem row_s {P : Nat → (Nat → Int32) → Prop} {R : M2} {j : Nat} {r : Nat → Int32} (h : ∀ k, k < j → P k (R k)) (hr : P j r) : ∀ k, k < j + 1 → P k (up2 R j r k) := fun k hk => by
  by_cases c : k = j
  · rw [c, up2_s]; exact hr
  · rw [up2_n _ _ c]; exact h k (by omega)
theorem l_857 (h3 : 2 ≤ nn 3 ∧ nn 3 ≤ 5) (h4 : 0 < nn 4 ∧ nn 4 ≤ 5) (h5 : nn 5 ≤ 5) (hT0 : T0.length ≤ 1000) (hK : FIN5 K nn V U S L B T0) : ∀ (d j f : Nat) (T : List Nat) (kk : Nat → Nat) (O : M2), j + d = nn 5 → d < f → KO 5 j nn kk → (∀ k, k < j → oK (nn 3) (O k)) → T = tO (nn 3) (nn 4) T0 O j → T.length ≤ T0.length + 79 * j → wl_L_list_857 xs Ln K f T nn kk V U S L B O (nI j) := by
  intro d
  induction d with
  | zero =>
    intro j f T kk O hj hf hko hO hT hl
    obtain ⟨f, rfl, _⟩ := fuel hf
    have ej : j = nn 5 := by omega
    rw [ej] at hko hO hT hl
    have ek : kk = nn := hko.all
    refine And.intro (fun _ => ?_) (fun c => absurd (nI_le (by omega) (by omega)) c)
    rw [ek, hT]
    exact hK O hO (by rw [← hT]; exact hl)
  | succ d ih =>
    intro j f T kk O hj hf hko hO hT hl
    obtain ⟨f, rfl, _⟩ := fuel hf
    have nxt : ∀ r : Nat → Int32, oK (nn 3) r → ∀ T', T' = oA (nn 3) (nn 4) T r → T'.length ≤ T.length + 79 → ∀ v : Int32, v = nI j + 1 → wl_L_list_857 xs Ln K f T' nn (updN kk 5 (j + 1)) V U S L B (up2 O j r) v := fun r hr T' t' q v hv => by
      subst hv
      rw [nI_1]
      refine ih (j + 1) f T' _ _ (by omega) (by omega) hko.next (row_s (P := fun _ x => oK (nn 3) x) hO hr) ?_ (by omega)
      rw [t', hT]
      show oA (nn 3) (nn 4) (tO (nn 3) (nn 4) T0 O j) r = oA (nn 3) (nn 4) (tO (nn 3) (nn 4) T0 (up2 O j r) j) (up2 O j r j)
      rw [up2_s, ← tO_c j up2_lt]
    refine And.intro (fun c => absurd c (nI_ge (by omega) (by omega))) (fun _ => ⟨(by decide +kernel : ∀ j, j < 5 → ¬ ((13 : Int32) + (nI j - nI j / (3 : Int32) * (3 : Int32))) < 0) j (by omega), fun v5 _ => And.intro (fun _ => ⟨by decide, fun e E => And.intro (fun z => absurd rfl z) (fun _ => ?_)⟩) (fun _ => ⟨by decide, fun e E => And.intro (fun _ => ⟨nI_ne0 (by omega) (by omega), ?_⟩) (fun z => absurd z (by decide))⟩)⟩)
    · obtain ⟨i, hi, ei⟩ := blw_nI (v5 >>> ((3 : Int32) &&& 31)) (n := 2) (by decide) (by decide)
      have ei : blw (v5 >>> ((3 : Int32) &&& 31)) 2 = nI i := ei
      rw [ei]
      exact l_942 (s := 0) (i := i) h3 h4 h5 (by omega) hko.2.1 (by decide) (by rw [if_pos rfl]; exact hi) (by rw [E]; rfl) (by omega) nxt
    · obtain ⟨i, hi, ei⟩ := blw_nI (v5 >>> ((3 : Int32) &&& 31)) (n := nn 3) (by omega) (by omega)
      have ei : blw (v5 >>> ((3 : Int32) &&& 31)) (Int32.ofNat (nn 3)) = nI i := ei
      rw [ei]
      exact l_942 (s := 1) (i := i) h3 h4 h5 (by omega) hko.2.1 (by decide) (by rw [if_neg (by decide)]; exact hi) (by rw [E]; rfl) (by omega) nxt
theorem mod_ne {c y n : Nat} (hc : c < n) (hy : y < n - 1) : c ≠ (c + 1 + y) % n := by
  by_cases h : c + 1 + y < n
  · rw [Nat.mod_eq_of_lt h]; omega
  · rw [Nat.mod_eq_sub_mod (by omega), Nat.mod_eq_of_lt (by omega)]; omega
theorem l_569 (h3 : 2 ≤ nn 3 ∧ nn 3 ≤ 5) (h4 : 1 ≤ nn 4 ∧ nn 4 ≤ 5) (hT0 : T0.length ≤ 700) (hK : FIN4 K nn V U S L T0) : ∀ (d j f : Nat) (T : List Nat) (kk : Nat → Nat) (B : M2), j + d = nn 4 → d < f → KO 4 j nn kk → (∀ k, k < j → aK (nn 3) (B k)) → T = tA T0 B j → T.length ≤ T0.length + 51 * j → wl_L_list_569 xs Ln K f T nn kk V U S L B O (nI j) := by
  intro d
  induction d with
  | zero =>
    intro j f T kk B hj hf hko hO hT hl
    obtain ⟨f, rfl, _⟩ := fuel hf
    have ej : j = nn 4 := by omega
    rw [ej] at hko hO hT hl
    obtain ⟨z, hz, ez⟩ := blw_nI (celv xs Ln 13) (n := 6) (by decide) (by decide)
    have ez : blw (celv xs Ln 13) 6 = nI z := ez
    refine And.intro (fun _ => ?_) (fun c => absurd (nI_le (by omega) (by omega)) c)
    rw [ez, tn_nI (by omega)]
    refine ⟨inb_nJ (by omega) (by omega), fun z' hz' => ⟨hko.2.2.1 5 (by omega), fun nn' hn' => ?_⟩⟩
    subst hn'
    rw [hz']
    have n3 : updN nn 5 z 3 = nn 3 := updN_n _ _ (by decide)
    have n4 : updN nn 5 z 4 = nn 4 := updN_n _ _ (by decide)
    have n5 : updN nn 5 z 5 = z := updN_s _ _ _
    refine l_857 (T0 := T) (by rw [n3]; exact h3) (by rw [n4]; omega) (by rw [n5]; omega) (by omega) ?_ z 0 6 T kk O (by omega) (by omega) (hko.sec z) (fun k hk => absurd hk (Nat.not_lt_zero _)) rfl (by omega)
    rw [hT]
    exact hK z B (by omega) hO
  | succ d ih =>
    intro j f T kk B hj hf hko hO hT hl
    obtain ⟨f, rfl, _⟩ := fuel hf
    have nxt : ∀ r : Nat → Int32, aK (nn 3) r → ∀ T', T' = aA T j r → T'.length ≤ T.length + 51 → ∀ v : Int32, v = nI j + 1 → wl_L_list_569 xs Ln K f T' nn (updN kk 4 (j + 1)) V U S L (up2 B j r) O v := fun r hr T' t' q v hv => by
      subst hv
      rw [nI_1]
      refine ih (j + 1) f T' _ _ (by omega) (by omega) hko.next (row_s (P := fun _ x => aK (nn 3) x) hO hr) ?_ (by omega)
      rw [t', hT]
      show aA (tA T0 B j) j r = aA (tA T0 (up2 B j r) j) j (up2 B j r j)
      rw [up2_s, ← tA_c j up2_lt]
    have n0 : ¬ Int32.ofNat (nn 3) = 0 := nI_ne0 (by omega) (by omega)
    have en : Int32.ofNat (nn 3) - 1 = nI (nn 3 - 1) := by
      have := nI_pred (nn 3 - 1)
      rwa [show nn 3 - 1 + 1 = nn 3 by omega] at this
    have n1 : ¬ Int32.ofNat (nn 3) - (1 : Int32) = 0 := by rw [en]; exact nI_ne0 (by omega) (by omega)
    refine And.intro (fun c => absurd c (nI_ge (by omega) (by omega))) (fun _ => ⟨(by decide +kernel : ∀ j, j < 5 → ¬ ((9 : Int32) + (nI j - nI j / (4 : Int32) * (4 : Int32))) < 0) j (by omega), fun v5 _ => ⟨n0, fun v6 e6 => ⟨n1, n0, fun v7 e7 => ?_⟩⟩⟩)
    obtain ⟨c, hc, ec⟩ := blw_nI (v5 >>> ((5 : Int32) &&& 31)) (n := nn 3) (by omega) (by omega)
    obtain ⟨y, hy, ey⟩ := blw_nI (v5 >>> ((7 : Int32) &&& 31)) (n := nn 3 - 1) (by omega) (by omega)
    have e6 : v6 = nI c := e6.trans ec
    subst e6
    rw [en, ey, nI_1, nI_add] at e7
    have e7 : v7 = nI ((c + 1 + y) % nn 3) := e7.trans (pk_rem (by omega) (by omega) (by omega))
    subst e7
    have hd : (c + 1 + y) % nn 3 < nn 3 := Nat.mod_lt _ (by omega)
    exact And.intro (fun _ => l_673 (q := 12) (by decide) h3.2 h4.2 (by omega) hko.2.1 hc hd (mod_ne hc hy) (by omega) nxt) (fun _ => l_673 (q := 60) (by decide) h3.2 h4.2 (by omega) hko.2.1 hc hd (mod_ne hc hy) (by omega) nxt)
theorem l_411 (h3 : 2 ≤ nn 3 ∧ nn 3 ≤ 5) (hT0 : T0.length ≤ 500) (hK : FIN3 K nn V U S T0) : ∀ (d j f : Nat) (T : List Nat) (kk : Nat → Nat) (L : M2), j + d = nn 3 → d < f → KO 3 j nn kk → (∀ k, k < j → lK (L k)) → T = tL T0 L j → T.length ≤ T0.length + 33 * j → wl_L_list_411 xs Ln K f T nn kk V U S L B O (nI j) := by
  intro d
  induction d with
  | zero =>
    intro j f T kk L hj hf hko hO hT hl
    obtain ⟨f, rfl, _⟩ := fuel hf
    have ej : j = nn 3 := by omega
    rw [ej] at hko hO hT hl
    obtain ⟨z, hz, ez⟩ := blw_nI (celv xs Ln 9) (n := 5) (by decide) (by decide)
    have ez : (1 : Int32) + blw (celv xs Ln 9) 5 = nI (1 + z) := by rw [← nI_add, ← ez]; rfl
    refine And.intro (fun _ => ?_) (fun c => absurd (nI_le (by omega) (by omega)) c)
    rw [ez, tn_nI (by omega)]
    refine ⟨inb_nJ (by omega) (by omega), fun z' hz' => ⟨hko.2.2.1 4 (by omega), fun nn' hn' => ?_⟩⟩
    subst hn'
    rw [hz']
    have n3 : updN nn 4 (1 + z) 3 = nn 3 := updN_n _ _ (by decide)
    have n4 : updN nn 4 (1 + z) 4 = 1 + z := updN_s _ _ _
    refine l_569 (T0 := T) (by rw [n3]; exact h3) (by rw [n4]; omega) (by omega) ?_ (1 + z) 0 6 T kk B (by omega) (by omega) (hko.sec _) (fun k hk => absurd hk (Nat.not_lt_zero _)) rfl (by omega)
    rw [hT]
    exact hK (1 + z) L (by omega) (by omega) hO
  | succ d ih =>
    intro j f T kk L hj hf hko hO hT hl
    obtain ⟨f, rfl, _⟩ := fuel hf
    have nxt : ∀ r : Nat → Int32, lK r → ∀ T', T' = lA T j r → T'.length ≤ T.length + 33 → ∀ v : Int32, v = nI j + 1 → wl_L_list_411 xs Ln K f T' nn (updN kk 3 (j + 1)) V U S (up2 L j r) B O v := fun r hr T' t' q v hv => by
      subst hv
      rw [nI_1]
      refine ih (j + 1) f T' _ _ (by omega) (by omega) hko.next (row_s (P := fun _ x => lK x) hO hr) ?_ (by omega)
      rw [t', hT]
      show lA (tL T0 L j) j r = lA (tL T0 (up2 L j r) j) j (up2 L j r j)
      rw [up2_s, ← tL_c j up2_lt]
    refine And.intro (fun c => absurd c (nI_ge (by omega) (by omega))) (fun _ => ⟨(by decide +kernel : ∀ j, j < 5 → ¬ ((6 : Int32) + (nI j - nI j / (3 : Int32) * (3 : Int32))) < 0) j (by omega), fun v5 _ v6 e6 => ?_⟩)
    obtain ⟨y, hy, ey⟩ := blw_nI (v5 >>> ((4 : Int32) &&& 31)) (n := 8) (by decide) (by decide)
    obtain ⟨x, hx, ex⟩ := blw_nI v5 (n := 9) (by decide) (by decide)
    have e6 : v6 = nI (2 + y) := by rw [e6, ← nI_add, ← ey]; rfl
    subst e6
    have hkk : kk 3 = j := hko.2.1
    have tj : (nI j).toInt.toNat = j := tn_nI (by omega)
    have k0 : updN kk 3 (j + 1) 3 = j + 1 := updN_s _ _ _
    have ij : inb (nI j) (j + 1) := inb_nJ (by omega) (by omega)
    refine ⟨by decide, fun a1 A1 => ⟨by decide, fun a2 A2 => ⟨by decide, fun a3 A3 => ⟨by decide, fun a4 A4 => ⟨by decide, fun r R => ⟨by rw [hkk]; rfl, by omega, by omega, fun kk' Hk L' HL => ?_⟩⟩⟩⟩⟩⟩
    have r0 : r 0 = nI (1 + x) := by
      have e : r 0 = 1 + blw v5 9 := by subst R A4 A3 A2 A1; rfl
      rw [e, ← nI_add, ← ex]; rfl
    have r1 : r 1 = nI (2 + y) := by subst R A4 A3 A2 A1; rfl
    have r2 : r 2 = nI (10 * (2 + y)) := by
      have e : r 2 = 10 * nI (2 + y) := by subst R A4 A3 A2 A1; rfl
      rw [e]
      exact (by decide +kernel : ∀ y, y < 8 → (10 : Int32) * nI (2 + y) = nI (10 * (2 + y))) y hy
    have r3 : r 3 = -1 := by subst R A4 A3 A2 A1; rfl
    have r4 : r 4 = 0 := by subst R A4 A3 A2 A1; rfl
    clear R A4 A3 A2 A1
    subst Hk HL
    rw [tj, hkk, up2_s, k0]
    have q1 : (T ++ lst 27).length ≤ T.length + 8 := ap (by decide)
    refine ⟨by omega, fun T1 t1 => ?_⟩
    rw [← t1] at q1
    have q2 : (T1 ++ decs (j)).length ≤ T1.length + 2 := ap (decs_le _)
    refine ⟨inb_nJ (by omega) (by omega), by omega, fun T2 t2 => ?_⟩
    rw [← t2] at q2
    have q3 : (T2 ++ lst 28).length ≤ T2.length + 10 := ap (by decide)
    refine ⟨by omega, fun T3 t3 => ?_⟩
    rw [← t3] at q3
    refine ⟨by omega, ij, ij, ?_⟩
    have q4 : (T3 ++ decs ((r 0).toInt.toNat)).length ≤ T3.length + 2 := ap (decs_le _)
    refine ⟨by rw [r0]; exact inb_nJ (by omega) (by omega), by omega, fun T4 t4 => ?_⟩
    rw [← t4] at q4
    have q5 : (T4 ++ lst 29).length ≤ T4.length + 7 := ap (by decide)
    refine ⟨by omega, fun T5 t5 => ?_⟩
    rw [← t5] at q5
    have q6 : (T5 ++ decs ((nI (2 + y)).toInt.toNat)).length ≤ T5.length + 2 := ap (decs_le _)
    refine ⟨inb_nJ (by omega) (by omega), by omega, fun T6 t6 => ?_⟩
    rw [← t6] at q6
    have q7 : (T6 ++ lst 30).length ≤ T6.length + 2 := ap (by decide)
    refine ⟨by omega, fun T7 t7 => ?_⟩
    rw [← t7] at q7
    exact nxt r ⟨1 + x, 2 + y, by omega, by omega, by omega, by omega, r0, r1, r2, r3, r4⟩ T7 (by rw [t7, t6, t5, t4, t3, t2, t1]; unfold lA; rw [r1]) (by omega)
theorem l_273 {np : Nat} (hnp : 0 < np ∧ np ≤ 36) (h1 : nn 1 = np) (h2 : nn 2 ≤ 2) (hT0 : T0.length ≤ 100) (hK : FIN2 K nn V U T0) : ∀ (d j f : Nat) (T : List Nat) (kk : Nat → Nat) (S : M2), j + d = nn 2 → d < f → KO 2 j nn kk → (∀ k, k < j → sK (nn 1) (S k)) → T = tS T0 S j → T.length ≤ T0.length + 27 * j → wl_L_list_273 xs Ln K f T nn kk V U S L B O (nI np) (nI j) := by
  intro d
  induction d with
  | zero =>
    intro j f T kk S hj hf hko hO hT hl
    obtain ⟨f, rfl, _⟩ := fuel hf
    have ej : j = nn 2 := by omega
    rw [ej] at hko hO hT hl
    obtain ⟨z, hz, ez⟩ := blw_nI (celv xs Ln 6) (n := 4) (by decide) (by decide)
    have ez : (2 : Int32) + blw (celv xs Ln 6) 4 = nI (2 + z) := by rw [← nI_add, ← ez]; rfl
    refine And.intro (fun _ => ?_) (fun c => absurd (nI_le (by omega) (by omega)) c)
    rw [ez, tn_nI (by omega)]
    refine ⟨inb_nJ (by omega) (by omega), fun z' hz' => ⟨hko.2.2.1 3 (by omega), fun nn' hn' => ?_⟩⟩
    subst hn'
    rw [hz']
    have n3 : updN nn 3 (2 + z) 3 = 2 + z := updN_s _ _ _
    refine l_411 (T0 := T) (by rw [n3]; omega) (by omega) ?_ (2 + z) 0 6 T kk L (by omega) (by omega) (hko.sec _) (fun k hk => absurd hk (Nat.not_lt_zero _)) rfl (by omega)
    rw [hT]
    exact hK (2 + z) S (by omega) (by omega) hO
  | succ d ih =>
    intro j f T kk S hj hf hko hO hT hl
    obtain ⟨f, rfl, _⟩ := fuel hf
    have nxt : ∀ r : Nat → Int32, sK (nn 1) r → ∀ T', T' = sA T j r → T'.length ≤ T.length + 27 → ∀ v : Int32, v = nI j + 1 → wl_L_list_273 xs Ln K f T' nn (updN kk 2 (j + 1)) V U (up2 S j r) L B O (nI np) v := fun r hr T' t' q v hv => by
      subst hv
      rw [nI_1]
      refine ih (j + 1) f T' _ _ (by omega) (by omega) hko.next (row_s (P := fun _ x => sK (nn 1) x) hO hr) ?_ (by omega)
      rw [t', hT]
      show sA (tS T0 S j) j r = sA (tS T0 (up2 S j r) j) j (up2 S j r j)
      rw [up2_s, ← tS_c j up2_lt]
    obtain ⟨x, hx, ex⟩ := blw_nI ((celv xs Ln 4) >>> ((((3 : Int32) * nI j) + (2 : Int32)) &&& 31)) (n := np) hnp.1 (by omega)
    obtain ⟨y, hy, ey⟩ := blw_nI ((celv xs Ln 5) >>> (((4 : Int32) * nI j) &&& 31)) (n := 30) (by decide) (by decide)
    have hkk : kk 2 = j := hko.2.1
    have tj : (nI j).toInt.toNat = j := tn_nI (by omega)
    have k0 : updN kk 2 (j + 1) 2 = j + 1 := updN_s _ _ _
    have ij : inb (nI j) (j + 1) := inb_nJ (by omega) (by omega)
    refine And.intro (fun c => absurd c (nI_ge (by omega) (by omega))) (fun _ => ⟨nI_ne0 hnp.1 (by omega), by decide, fun a1 A1 => ⟨by decide, fun r R => ⟨by rw [hkk]; rfl, by omega, by omega, fun kk' Hk S' HS => ?_⟩⟩⟩)
    have r0 : r 0 = nI x := by rw [← ex]; subst R A1; rfl
    have r1 : r 1 = nI (1 + y) := by
      have e : r 1 = 1 + blw ((celv xs Ln 5) >>> (((4 : Int32) * nI j) &&& 31)) 30 := by subst R A1; rfl
      rw [e, ← nI_add, ← ey]; rfl
    clear R A1
    subst Hk HS
    rw [tj, hkk, up2_s, k0]
    have q1 : (T ++ lst 24).length ≤ T.length + 7 := ap (by decide)
    refine ⟨by omega, fun T1 t1 => ?_⟩
    rw [← t1] at q1
    have q2 : (T1 ++ decs (j)).length ≤ T1.length + 2 := ap (decs_le _)
    refine ⟨inb_nJ (by omega) (by omega), by omega, fun T2 t2 => ?_⟩
    rw [← t2] at q2
    have q3 : (T2 ++ lst 25).length ≤ T2.length + 4 := ap (by decide)
    refine ⟨by omega, fun T3 t3 => ?_⟩
    rw [← t3] at q3
    refine ⟨by omega, ij, ij, ?_⟩
    have q4 : (T3 ++ decs ((r 0).toInt.toNat)).length ≤ T3.length + 2 := ap (decs_le _)
    refine ⟨by rw [r0]; exact inb_nJ (by omega) (by omega), by omega, fun T4 t4 => ?_⟩
    rw [← t4] at q4
    have q5 : (T4 ++ lst 26).length ≤ T4.length + 9 := ap (by decide)
    refine ⟨by omega, fun T5 t5 => ?_⟩
    rw [← t5] at q5
    refine ⟨by omega, ij, ij, ?_⟩
    have q6 : (T5 ++ decs ((r 1).toInt.toNat)).length ≤ T5.length + 2 := ap (decs_le _)
    refine ⟨by rw [r1]; exact inb_nJ (by omega) (by omega), by omega, fun T6 t6 => ?_⟩
    rw [← t6] at q6
    have q7 : (T6 ++ lst 23).length ≤ T6.length + 1 := ap (by decide)
    refine ⟨by omega, fun T7 t7 => ?_⟩
    rw [← t7] at q7
    exact nxt r ⟨x, 1 + y, by omega, by omega, by omega, r0, r1⟩ T7 (by rw [t7, t6, t5, t4, t3, t2, t1]; rfl) (by omega)
theorem fo_le {V : M2} : ∀ (d k : Nat), fo V k ≤ fo V (k + d)
  | 0, k => Nat.le_refl _
  | d + 1, k => Nat.le_trans (fo_le d k) (Nat.le_add_right _ _)
theorem fo_mono {V : M2} {k k' : Nat} (h : k ≤ k') : fo V k ≤ fo V k' := by
  have := fo_le (V := V) (k' - k) k
  rwa [show k + (k' - k) = k' by omega] at this
theorem fo_bd {V : M2} : ∀ n, (∀ k, k < n → bK V k (V k)) → fo V n ≤ 12 * n ∧ (0 < n → 0 < fo V n)
  | 0, _ => ⟨Nat.le_refl _, fun h => absurd h (Nat.lt_irrefl _)⟩
  | n + 1, h => by
    obtain ⟨x, w, x1, x2, _, e, _⟩ := h n (by omega)
    have ih := fo_bd n (fun k hk => h k (by omega))
    have e0 : fo V (n + 1) = fo V n + x := by
      show fo V n + (V n 0).toInt.toNat = _
      rw [e, tn_nI (by omega)]
    omega
theorem PLF.put {kb : Nat} {V U : M2} {k m : Nat} {r : Nat → Int32} (h : PLF kb V U m) (h1 : fo V k ≤ m) (h2 : m < fo V (k + 1)) (r0 : r 0 = nI k) (r1 : r 1 = 100) : PLF kb V (up2 U m r) (m + 1) := by
  intro k' p hk hp1 hp2 hp3
  by_cases c : p = m
  · subst c
    have ek : k' = k := by
      by_cases c1 : k' < k
      · have := fo_mono (V := V) (show k' + 1 ≤ k by omega); omega
      · by_cases c2 : k < k'
        · have := fo_mono (V := V) (show k + 1 ≤ k' by omega); omega
        · omega
    rw [up2_s, ek]
    exact ⟨r0, r1⟩
  · rw [up2_n _ _ c]
    exact h k' p hk hp1 hp2 (by omega)
theorem l_198 {C185 : List Nat → (Nat → Nat) → (Nat → Nat) → M2 → M2 → M2 → M2 → M2 → M2 → Int32 → Int32 → Prop} {T : List Nat} {k x : Nat} {v3 : Int32} (hk : k < nn 0) (h0 : nn 0 ≤ 3) (hx : x ≤ 12) (hV : V k 0 = nI x) (hV2 : V k 2 = nI (fo V k)) (hall : fo V (k + 1) ≤ nn 1) (h36 : nn 1 ≤ 36) (h : ∀ kk U, KO 1 (fo V (k + 1)) nn kk → PLF (nn 0) V U (fo V (k + 1)) → ∀ v : Int32, v = nI k + 1 → C185 T nn kk V U S L B O v3 v) : ∀ (d y f : Nat) (kk : Nat → Nat) (U : M2), y + d = x → d < f → KO 1 (fo V k + y) nn kk → PLF (nn 0) V U (fo V k + y) → wl_L_list_198 xs Ln C185 K f T nn kk V U S L B O v3 (nI k) (nI y) := by
  have e1 : fo V (k + 1) = fo V k + x := by
    show fo V k + (V k 0).toInt.toNat = _
    rw [hV, tn_nI (by omega)]
  have tk : (nI k).toInt.toNat = k := tn_nI (by omega)
  intro d
  induction d with
  | zero =>
    intro y f kk U hy hf hko hp
    obtain ⟨f, rfl, _⟩ := fuel hf
    have ey : y = x := by omega
    rw [ey, ← e1] at hko hp
    have kk0 : kk 0 = nn 0 := hko.1 0 (by omega)
    have ik : inb (nI k) (kk 0) := by rw [kk0]; exact inb_nJ hk (by omega)
    refine ⟨by omega, ik, ik, And.intro (fun _ v hv => h kk U hko hp v hv) (fun c => absurd ?_ c)⟩
    rw [tk, hV, ey]
    exact nI_le (by omega) (by omega)
  | succ d ih =>
    intro y f kk U hy hf hko hp
    obtain ⟨f, rfl, _⟩ := fuel hf
    have kk0 : kk 0 = nn 0 := hko.1 0 (by omega)
    have kk1 : kk 1 = fo V k + y := hko.2.1
    have ik : inb (nI k) (kk 0) := by rw [kk0]; exact inb_nJ hk (by omega)
    refine ⟨by omega, ik, ik, And.intro (fun c => absurd c (by rw [tk, hV]; exact nI_ge (by omega) (by omega))) (fun _ => ⟨by omega, ik, ik, by decide, fun a1 A1 => ⟨by decide, fun r R => ⟨?_, by omega, by omega, fun kk' Hk U' HU v5 hv5 => ?_⟩⟩⟩)⟩
    · rw [tk, hV2, nI_add, kk1]; rfl
    have r0 : r 0 = nI k := by subst R A1; rfl
    have r1 : r 1 = 100 := by subst R A1; rfl
    subst Hk HU hv5
    rw [kk1, nI_1]
    exact ih (y + 1) f _ _ (by omega) (by omega) hko.next (hp.put (by omega) (by omega) r0 r1)
theorem l_185 (hb : ∀ k, k < nn 0 → bK V k (V k)) (h0 : 1 ≤ nn 0 ∧ nn 0 ≤ 3) (h1 : nn 1 = fo V (nn 0)) (hT0 : T0.length ≤ 100) (hK : FIN1 K nn V T0) : ∀ (d j f : Nat) (kk : Nat → Nat) (U : M2), j + d = nn 0 → d < f → KO 1 (fo V j) nn kk → PLF (nn 0) V U (fo V j) → wl_L_list_185 xs Ln K f T0 nn kk V U S L B O (nI (nn 1)) (nI j) := by
  have hbd := fo_bd (nn 0) hb
  intro d
  induction d with
  | zero =>
    intro j f kk U hj hf hko hp
    obtain ⟨f, rfl, _⟩ := fuel hf
    have ej : j = nn 0 := by omega
    rw [ej] at hko hp
    rw [← h1] at hko
    obtain ⟨z, hz, ez⟩ := blw_nI (celv xs Ln 4) (n := 3) (by decide) (by decide)
    have ez : blw (celv xs Ln 4) 3 = nI z := ez
    refine And.intro (fun _ => ?_) (fun c => absurd (nI_le (by omega) (by omega)) c)
    rw [ez, tn_nI (by omega)]
    refine ⟨inb_nJ (by omega) (by omega), fun z' hz' => ⟨hko.2.2.1 2 (by omega), fun nn' hn' => ?_⟩⟩
    subst hn'
    rw [hz']
    have n2 : updN nn 2 z 2 = z := updN_s _ _ _
    have n1 : updN nn 2 z 1 = nn 1 := updN_n _ _ (by decide)
    exact l_273 (T0 := T0) (np := nn 1) (by omega) n1 (by omega) hT0 (hK z U (by omega) hp) z 0 3 T0 kk S (by omega) (by omega) (hko.sec _) (fun k hk => absurd hk (Nat.not_lt_zero _)) rfl (by omega)
  | succ d ih =>
    intro j f kk U hj hf hko hp
    obtain ⟨f, rfl, _⟩ := fuel hf
    obtain ⟨x, w, x1, x2, _, e0, _, e2⟩ := hb j (by omega)
    have hm := fo_mono (V := V) (show j + 1 ≤ nn 0 by omega)
    refine And.intro (fun c => absurd c (nI_ge (by omega) (by omega))) (fun _ => l_198 (by omega) h0.2 x2 e0 e2 (by omega) (by omega) (fun kk U hko hp v hv => ?_) x 0 14 kk U (by omega) (by omega) hko hp)
    subst hv
    rw [nI_1]
    exact ih (j + 1) f kk U (by omega) (by omega) hko hp
theorem l_31 (h0 : 1 ≤ nn 0 ∧ nn 0 ≤ 3) (hK : FIN0 K nn) : ∀ (d j f : Nat) (T : List Nat) (kk : Nat → Nat) (V : M2), j + d = nn 0 → d < f → KO 0 j nn kk → (∀ k, k < j → bK V k (V k)) → T = tB V j → T.length ≤ 24 * j → wl_L_list_31 xs Ln K f T nn kk V U S L B O (nI (fo V j)) (nI j) := by
  intro d
  induction d with
  | zero =>
    intro j f T kk V hj hf hko hO hT hl
    obtain ⟨f, rfl, _⟩ := fuel hf
    have ej : j = nn 0 := by omega
    rw [ej] at hko hO hT hl ⊢
    have hbd := fo_bd (nn 0) hO
    refine And.intro (fun _ => ?_) (fun c => absurd (nI_le (by omega) (by omega)) c)
    rw [tn_nI (by omega)]
    refine ⟨inb_nJ (by omega) (by omega), fun z' hz' => ⟨hko.2.2.1 1 (by omega), fun nn' hn' => ?_⟩⟩
    subst hn'
    rw [hz']
    have n0 : updN nn 1 (fo V (nn 0)) 0 = nn 0 := updN_n _ _ (by decide)
    have n1 : updN nn 1 (fo V (nn 0)) 1 = fo V (nn 0) := updN_s _ _ _
    have hf1 : FIN1 K (updN nn 1 (fo V (nn 0))) V T := by rw [hT]; exact hK V hO
    have h := l_185 (xs := xs) (Ln := Ln) (S := S) (L := L) (B := B) (O := O) (T0 := T) (nn := updN nn 1 (fo V (nn 0))) (V := V) (by rw [n0]; exact hO) (by rw [n0]; exact h0) (by rw [n0, n1]) (by omega) hf1 (nn 0) 0 4 kk U (by omega) (by omega) (hko.sec _) (fun k p _ _ _ h => absurd h (Nat.not_lt_zero _))
    rw [n1] at h
    exact h
  | succ d ih =>
    intro j f T kk V hj hf hko hO hT hl
    obtain ⟨f, rfl, _⟩ := fuel hf
    have nxt : ∀ (r : Nat → Int32) (x w : Nat), 1 ≤ x → x ≤ 12 → w ≤ 9 → r 0 = nI x → r 1 = nI w → r 2 = nI (fo V j) → ∀ T', T' = bA T j r → T'.length ≤ T.length + 24 → ∀ v3 : Int32, v3 = nI (fo V j) + r 0 → ∀ v : Int32, v = nI j + 1 → wl_L_list_31 xs Ln K f T' nn (updN kk 0 (j + 1)) (up2 V j r) U S L B O v3 v := fun r x w x1 x2 hw r0 r1 r2 T' t' q v3 hv3 v hv => by
      have ef : ∀ k, k ≤ j → fo (up2 V j r) k = fo V k := fun k hk => (fo_c k (fun i hi => up2_lt i (by omega))).symm
      have e3 : v3 = nI (fo (up2 V j r) (j + 1)) := by
        show v3 = nI (fo (up2 V j r) j + (up2 V j r j 0).toInt.toNat)
        rw [up2_s, r0, tn_nI (by omega), ef j (by omega), hv3, r0, nI_add]
      subst hv e3
      rw [nI_1]
      refine ih (j + 1) f T' _ _ (by omega) (by omega) hko.next (fun k hk => ?_) ?_ (by omega)
      · unfold bK
        rw [ef k (by omega)]
        by_cases c : k = j
        · rw [c, up2_s]
          exact ⟨x, w, x1, x2, hw, r0, r1, r2⟩
        · rw [up2_n _ _ c]
          exact hO k (by omega)
      · rw [t', hT]
        show bA (tB V j) j r = bA (tB (up2 V j r) j) j (up2 V j r j)
        rw [up2_s, ← tB_c j up2_lt]
    refine And.intro (fun c => absurd c (nI_ge (by omega) (by omega))) (fun _ => ⟨(by decide +kernel : ∀ j, j < 3 → ¬ ((1 : Int32) + nI j) < 0) j (by omega), fun v5 _ => And.intro (fun _ => l_83 (c := 4) (by decide) h0.2 (by omega) hko.2.1 (by omega) nxt) (fun _ => l_83 (c := 12) (by decide) h0.2 (by omega) hko.2.1 (by omega) nxt)⟩)
/-- what the list tells -/
def LDAT (T : List Nat) (nn : Nat → Nat) (V U S L B O : M2) : Prop :=
  ((1 ≤ nn 0 ∧ nn 0 ≤ 3) ∧ nn 1 = fo V (nn 0) ∧ nn 2 ≤ 2 ∧ (2 ≤ nn 3 ∧ nn 3 ≤ 5) ∧ (1 ≤ nn 4 ∧ nn 4 ≤ 5) ∧ nn 5 ≤ 5)
  ∧ (∀ k, k < nn 0 → bK V k (V k)) ∧ PLF (nn 0) V U (nn 1) ∧ (∀ k, k < nn 2 → sK (nn 1) (S k)) ∧ (∀ k, k < nn 3 → lK (L k)) ∧ (∀ k, k < nn 4 → aK (nn 3) (B k)) ∧ (∀ k, k < nn 5 → oK (nn 3) (O k))
  ∧ T = tO (nn 3) (nn 4) (tA (tL (tS (tB V (nn 0)) S (nn 2)) L (nn 3)) B (nn 4)) O (nn 5)
theorem l_list (hK : ∀ T nn V U S L B O, LDAT T nn V U S L B O → K T nn nn V U S L B O) : wp_L_list xs Ln [] (fun _ => 0) (fun _ => 0) V U S L B O K := by
  obtain ⟨z, hz, ez⟩ := blw_nI (celv xs Ln 0) (n := 3) (by decide) (by decide)
  have ez : (1 : Int32) + blw (celv xs Ln 0) 3 = nI (1 + z) := by rw [← nI_add, ← ez]; rfl
  unfold wp_L_list
  rw [ez, tn_nI (by omega)]
  refine ⟨inb_nJ (by omega) (by omega), fun z' hz' => ⟨rfl, fun nn hn => ?_⟩⟩
  subst hz' hn
  have hko : KO 0 0 (updN (fun _ => 0) 0 (1 + z)) (fun _ => 0) := ⟨fun i hi => absurd hi (Nat.not_lt_zero _), rfl, fun i _ => rfl, fun i hi => updN_n _ _ (by omega)⟩
  refine l_31 (nn := updN (fun _ => 0) 0 (1 + z)) (by rw [updN_s]; omega) ?_ (1 + z) 0 4 [] _ V (by rw [updN_s]; omega) (by omega) hko (fun k hk => absurd hk (Nat.not_lt_zero _)) rfl (Nat.le_refl _)
  intro V hV z2 U hz2 hp z3 S hz31 hz32 hS z4 L hz41 hz42 hL z5 B hz5 hB O hO _
  refine hK _ _ V U S L B O ⟨⟨?_, rfl, hz2, ⟨hz31, hz32⟩, ⟨hz41, hz42⟩, hz5⟩, hV, hp, hS, hL, hB, hO, rfl⟩
  exact ⟨show 1 ≤ 1 + z by omega, show 1 + z ≤ 3 by omega⟩
end LLOOP
