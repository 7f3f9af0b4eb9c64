/-! ===== the law's helper that teaches: its loops ===== -/
section FEDL
variable {a q q2 : Nat → Nat} {tn v : Nat} {tb : Nat → Int32} {τ : Nat → Nat} {ap bp rp : Nat} {C T G P Y B J : M2} {L : L2} {K : Int32 → Nat → Nat → Nat → M2 → M2 → M2 → M2 → M2 → L2 → M2 → Prop} {C12 : Nat → Nat → Nat → M2 → M2 → M2 → M2 → M2 → L2 → M2 → M2 → Int32 → Prop}
def fed (τ : Nat → Nat) (tn i : Nat) : Nat := if i < tn then τ i else 32
theorem fed_le (h : ∀ i, i < tn → τ i ≤ 255) (i : Nat) : fed τ tn i ≤ 255 := by
  unfold fed
  split
  · exact h i ‹_›
  · decide
theorem d4_tab : ∀ k, k < 20 → (nI k / 4).toInt.toNat = k / 4 ∧ (0 ≤ (nI k / 4).toInt ∧ (nI k / 4).toInt < 5) := by decide +kernel
theorem f_23 (htn : tn ≤ 1500) (hch : ∀ i, i < tn → chv tb (nI i) = nI (τ i)) (h255 : ∀ i, i < tn → τ i ≤ 255) (hv : v < tn) (h : ∀ J : M2, PUSH (fed τ tn) J v 20 → wp_X5_feed (fun _ => False) B C (J 0 0) (J 0 1) (J 0 2) (J 0 3) (J 0 4) (fun r_92 B_92 C_92 => (∀ v3_96 : Int32, v3_96 = nI v + 20 → C12 ap bp rp C_92 T G P Y L B_92 J v3_96))) : ∀ (d k n : Nat) (J : M2), k + d = 20 → d < n → PUSH (fed τ tn) J v k → wl_L_taughtT_23 a q q2 tn tb C12 K n ap bp rp C T G P Y L B J (nI v) (nI k) := by
  intro d
  induction d with
  | zero =>
    intro k n J hk hn hp
    obtain ⟨n, rfl, _⟩ := fuel hn
    have ek : k = 20 := by omega
    subst ek
    exact And.intro (fun _ => ⟨by decide, by decide, by decide, by decide, by decide, h J hp⟩) (fun c => absurd (by decide) c)
  | succ d ih =>
    intro k n J hk hn hp
    obtain ⟨n, rfl, _⟩ := fuel hn
    obtain ⟨t4, i4⟩ := d4_tab k (by omega)
    have hpu := hp.put (fed_le h255 _)
    refine And.intro (fun c => absurd c (nI_ge (a := k) (b := 20) (by omega) (by decide))) (fun _ => ⟨⟨i4.1, i4.2⟩, And.intro (fun c => ⟨⟨i4.1, i4.2⟩, fun J' eJ v' ev => ?_⟩) (fun c => ⟨?_, ⟨i4.1, i4.2⟩, fun J' eJ v' ev => ?_⟩)⟩)
    · rw [nI_add] at c
      have c : nI tn ≤ nI (v + k) := c
      have c := (nI_leI (by omega) (by omega)).mp c
      have ef : fed τ tn (v + k) = 32 := if_neg (by omega)
      rw [ef] at hpu
      rw [t4] at eJ
      subst ev
      rw [nI_1, eJ]
      exact ih (k + 1) n _ (by omega) (by omega) hpu
    · rw [nI_add] at c ⊢
      have c : ¬ nI tn ≤ nI (v + k) := c
      have c : ¬ tn ≤ v + k := fun z => c (nI_le z (by omega))
      exact inb_nJ (by omega) (by omega)
    · rw [nI_add] at c eJ
      have c : ¬ nI tn ≤ nI (v + k) := c
      have c : ¬ tn ≤ v + k := fun z => c (nI_le z (by omega))
      have ef : fed τ tn (v + k) = τ (v + k) := if_pos (by omega)
      rw [ef] at hpu
      rw [t4, hch _ (by omega)] at eJ
      subst ev
      rw [nI_1, eJ]
      exact ih (k + 1) n _ (by omega) (by omega) hpu
theorem clB_all {y : Int32} : ∀ t, t < 4 → (clB y (nI (24 - 8 * t))) &&& (255 : Int32) = (y >>> nI (24 - 8 * t)) &&& (255 : Int32) := fun t ht => by
  have hc : t = 0 ∨ t = 1 ∨ t = 2 ∨ t = 3 := by omega
  rcases hc with rfl | rfl | rfl | rfl
  · exact clB_24 y
  · exact clB_16 y
  · exact clB_8 y
  · exact clB_0 y
theorem f_12 (htn : tn ≤ 1500) (hch : ∀ i, i < tn → chv tb (nI i) = nI (τ i)) (h255 : ∀ i, i < tn → τ i ≤ 255) (h : ∀ B C : M2, C 91 0 = nI tn → (∀ i, i < tn → B 80 i &&& 255 = nI (τ i)) → wp_X5_teach a q q2 ap bp rp C T G P Y L B K) : ∀ (d v n : Nat) (B C J : M2), tn ≤ v + 20 * d → v < tn + 20 → d < n → C 91 0 = nI v → (∀ i, i < v → B 80 i &&& 255 = nI (fed τ tn i)) → wl_L_taughtT_12 a q q2 tn tb K n ap bp rp C T G P Y L B J (nI v) := by
  intro d
  have tail : ∀ (v n : Nat) (B C J : M2), tn ≤ v → v < tn + 20 → C 91 0 = nI v → (∀ i, i < v → B 80 i &&& 255 = nI (fed τ tn i)) → wp_X5_trim (fun _ => False) B C (Int32.ofNat tn) (fun r_107 B_107 C_107 => wp_X5_teach a q q2 ap bp rp C_107 T G P Y L B_107 K) := fun v n B C J hv hv2 hC hB => by
    refine And.intro (fun z => absurd z (nI_pos (by omega))) (fun _ => And.intro (fun _ C' eC => h B C' ?_ (fun i hi => ?_)) (fun z => absurd (by rw [hC]; exact nI_le hv (by omega)) z))
    · rw [eC, up2_s]; rfl
    · rw [hB i (by omega)]
      unfold fed
      rw [if_pos hi]
  induction d with
  | zero =>
    intro v n B C J hd hv hn hC hB
    obtain ⟨n, rfl, _⟩ := fuel hn
    exact And.intro (fun _ => tail v n B C J (by omega) hv hC hB) (fun c => absurd (nI_le (by omega) (by omega)) c)
  | succ d ih =>
    intro v n B C J hd hv hn hC hB
    obtain ⟨n, rfl, _⟩ := fuel hn
    by_cases hc : tn ≤ v
    · exact And.intro (fun _ => tail v n B C J hc hv hC hB) (fun c => absurd (nI_le (by omega) (by omega)) c)
    · refine And.intro (fun c => absurd c (nI_ge (by omega) (by omega))) (fun _ => f_23 htn hch h255 (by omega) (fun J hp => ?_) 20 0 fK J (by decide) (by rw [fK_eq]; decide) (fun w t hwt _ => absurd hwt (Nat.not_lt_zero _)))
      refine c_feed (m := v) (by omega) hC (fun B' C' c91 c92 bo bn v3 ev => ?_)
      subst ev
      rw [show nI v + 20 = nI (v + 20) from nI_add v 20]
      refine ih (v + 20) n B' C' J (by omega) (by omega) (by omega) c91 (fun i hi => ?_)
      by_cases ci : i < v
      · rw [bo i ci]; exact hB i ci
      · obtain ⟨j, ej⟩ : ∃ j, j = i - v := ⟨_, rfl⟩
        have ei : i = v + j := by omega
        have hj : j < 20 := by omega
        rw [ei, bn j hj]
        have hif : (if j / 4 = 0 then J 0 0 else if j / 4 = 1 then J 0 1 else if j / 4 = 2 then J 0 2 else if j / 4 = 3 then J 0 3 else J 0 4) = J 0 (j / 4) := by
          have hcs : j / 4 = 0 ∨ j / 4 = 1 ∨ j / 4 = 2 ∨ j / 4 = 3 ∨ j / 4 = 4 := by omega
          rcases hcs with e | e | e | e | e <;> rw [e] <;> rfl
        rw [hif, clB_all (j % 4) (Nat.mod_lt _ (by decide))]
        have := hp (j / 4) (j % 4) (by omega) (Nat.mod_lt _ (by decide))
        rw [show 8 * (min 4 (20 - 4 * (j / 4)) - 1 - j % 4) = 24 - 8 * (j % 4) by omega, show 4 * (j / 4) + j % 4 = j by omega] at this
        exact this
theorem f_all (htn : tn ≤ 1500) (hch : ∀ i, i < tn → chv tb (nI i) = nI (τ i)) (h255 : ∀ i, i < tn → τ i ≤ 255) (hC : C 91 0 = 0) (h : ∀ B C : M2, C 91 0 = nI tn → (∀ i, i < tn → B 80 i &&& 255 = nI (τ i)) → wp_X5_teach a q q2 ap bp rp C T G P Y L B K) : wp_L_taught a q q2 tn tb ap bp rp C T G P Y L B K := by
  refine And.intro (fun z => absurd z (by decide)) (fun _ => And.intro (fun _ C' eC => ?_) (fun z => absurd (by rw [hC]; decide) z))
  exact f_12 htn hch h255 h 75 0 fK B C' zM (by omega) (by omega) (by rw [fK_eq]; decide) (by rw [eC, up2_s]; rfl) (fun i hi => absurd hi (Nat.not_lt_zero _))
end FEDL
