/-! ===== a list begins: both sides ===== -/
section BEGIN
/-! the class -/
def CS3 (P B F : M2) (v : Nat) : Prop := (∀ k, (k < 8 ∨ 13 < k) → F k = B k) ∧ ∀ i, i < v → F 8 i = P 34 i ∧ F 9 i = P 35 i ∧ F 10 i = 0 ∧ F 11 i = -1 ∧ F 12 i = 0 ∧ F 13 i = -1
theorem c_beg3 {q : Nat → Nat} {P B : M2} {nb : Nat} (hnb : nb ≤ 8) (h24 : P 24 0 = nI nb) {K : Nat → M2 → Prop} (hK : ∀ F', CS3 P B F' nb → K (q 20) F') : ∀ (d v f : Nat) (F : M2), v + d = nb → d < f → CS3 P B F v → wl_X4_begin_91 q P K f F (nI v) := by
  intro d
  induction d with
  | zero =>
    intro v f F hv hf hI
    obtain ⟨f, rfl, _⟩ := fuel hf
    have e : v = nb := by omega
    subst e
    exact And.intro (fun _ => hK F hI) (fun z => absurd (by rw [h24]; exact nI_le (by omega) (by omega)) z)
  | succ d ih =>
    intro v f F hv hf hI
    obtain ⟨f, rfl, _⟩ := fuel (show 0 < f by omega)
    refine And.intro (fun z => absurd z (by rw [h24]; exact nI_ge (by omega) (by omega))) (fun _ F1 e1 F2 e2 F3 e3 F4 e4 F5 e5 F6 e6 v1 ev => ?_)
    rw [atv_nI (by omega) (by decide), putv_nI (by omega) (by decide)] at e1
    rw [atv_nI (by omega) (by decide), putv_nI (by omega) (by decide)] at e2
    rw [putv_nI (by omega) (by decide)] at e3 e4 e5 e6
    rw [nI_1] at ev
    subst ev
    have s6 : ∀ k, k ≠ 13 → F6 k = F5 k := fun k h => by rw [e6]; exact up2_n _ _ h
    have s5 : ∀ k, k ≠ 12 → F5 k = F4 k := fun k h => by rw [e5]; exact up2_n _ _ h
    have s4 : ∀ k, k ≠ 11 → F4 k = F3 k := fun k h => by rw [e4]; exact up2_n _ _ h
    have s3 : ∀ k, k ≠ 10 → F3 k = F2 k := fun k h => by rw [e3]; exact up2_n _ _ h
    have s2 : ∀ k, k ≠ 9 → F2 k = F1 k := fun k h => by rw [e2]; exact up2_n _ _ h
    have s1 : ∀ k, k ≠ 8 → F1 k = F k := fun k h => by rw [e1]; exact up2_n _ _ h
    have k13 : F6 13 = upd (F 13) v (-1) := by rw [e6, up2_s, s5 13 (by decide), s4 13 (by decide), s3 13 (by decide), s2 13 (by decide), s1 13 (by decide)]
    have k12 : F6 12 = upd (F 12) v 0 := by rw [s6 12 (by decide), e5, up2_s, s4 12 (by decide), s3 12 (by decide), s2 12 (by decide), s1 12 (by decide)]
    have k11 : F6 11 = upd (F 11) v (-1) := by rw [s6 11 (by decide), s5 11 (by decide), e4, up2_s, s3 11 (by decide), s2 11 (by decide), s1 11 (by decide)]
    have k10 : F6 10 = upd (F 10) v 0 := by rw [s6 10 (by decide), s5 10 (by decide), s4 10 (by decide), e3, up2_s, s2 10 (by decide), s1 10 (by decide)]
    have k9 : F6 9 = upd (F 9) v (P 35 v) := by rw [s6 9 (by decide), s5 9 (by decide), s4 9 (by decide), s3 9 (by decide), e2, up2_s, s1 9 (by decide)]
    have k8 : F6 8 = upd (F 8) v (P 34 v) := by rw [s6 8 (by decide), s5 8 (by decide), s4 8 (by decide), s3 8 (by decide), s2 8 (by decide), e1, up2_s]
    refine ih (v + 1) f F6 (by omega) (by omega) ⟨fun k hk => by rw [s6 k (by omega), s5 k (by omega), s4 k (by omega), s3 k (by omega), s2 k (by omega), s1 k (by omega)]; exact hI.1 k hk, fun i hi => ?_⟩
    rw [k8, k9, k10, k11, k12, k13]
    by_cases e : i = v
    · subst e
      rw [upd_s, upd_s, upd_s, upd_s, upd_s, upd_s]
      exact ⟨rfl, rfl, rfl, rfl, rfl, rfl⟩
    · rw [upd_n _ _ e, upd_n _ _ e, upd_n _ _ e, upd_n _ _ e, upd_n _ _ e, upd_n _ _ e]
      exact hI.2 i (by omega)
def CS2 (P B F : M2) (v : Nat) : Prop := (∀ k, (k < 5 ∨ 7 < k) → F k = B k) ∧ ∀ i, i < v → F 5 i = 10 * P 32 i ∧ F 6 i = 0 ∧ F 7 i = -1
theorem c_beg2 {q : Nat → Nat} {P B : M2} {nl : Nat} (hnl : nl ≤ 6) (h23 : P 23 0 = nI nl) {K : Nat → M2 → Prop} (hK : ∀ F', CS2 P B F' nl → wl_X4_begin_91 q P K fK F' 0) : ∀ (d v f : Nat) (F : M2), v + d = nl → d < f → CS2 P B F v → wl_X4_begin_41 q P K f F (nI v) := by
  intro d
  induction d with
  | zero =>
    intro v f F hv hf hI
    obtain ⟨f, rfl, _⟩ := fuel hf
    have e : v = nl := by omega
    subst e
    exact And.intro (fun _ => hK F hI) (fun z => absurd (by rw [h23]; exact nI_le (by omega) (by omega)) z)
  | succ d ih =>
    intro v f F hv hf hI
    obtain ⟨f, rfl, _⟩ := fuel (show 0 < f by omega)
    refine And.intro (fun z => absurd z (by rw [h23]; exact nI_ge (by omega) (by omega))) (fun _ => ?_)
    unfold wp_X4_mostBreath
    rw [atv_nI (by omega) (by decide)]
    intro F1 e1 F2 e2 F3 e3 v1 ev
    rw [putv_nI (by omega) (by decide)] at e1 e2 e3
    rw [nI_1] at ev
    subst ev
    have s3 : ∀ k, k ≠ 7 → F3 k = F2 k := fun k h => by rw [e3]; exact up2_n _ _ h
    have s2 : ∀ k, k ≠ 6 → F2 k = F1 k := fun k h => by rw [e2]; exact up2_n _ _ h
    have s1 : ∀ k, k ≠ 5 → F1 k = F k := fun k h => by rw [e1]; exact up2_n _ _ h
    have k7 : F3 7 = upd (F 7) v (-1) := by rw [e3, up2_s, s2 7 (by decide), s1 7 (by decide)]
    have k6 : F3 6 = upd (F 6) v 0 := by rw [s3 6 (by decide), e2, up2_s, s1 6 (by decide)]
    have k5 : F3 5 = upd (F 5) v (10 * P 32 v) := by rw [s3 5 (by decide), s2 5 (by decide), e1, up2_s]
    refine ih (v + 1) f F3 (by omega) (by omega) ⟨fun k hk => by rw [s3 k (by omega), s2 k (by omega), s1 k (by omega)]; exact hI.1 k hk, fun i hi => ?_⟩
    rw [k5, k6, k7]
    by_cases e : i = v
    · subst e
      rw [upd_s, upd_s, upd_s]
      exact ⟨rfl, rfl, rfl⟩
    · rw [upd_n _ _ e, upd_n _ _ e, upd_n _ _ e]
      exact hI.2 i (by omega)
def CS1 (B F : M2) (v : Nat) : Prop := (∀ k, k ≠ 4 → F k = B k) ∧ ∀ i, i < v → F 4 i = 100
theorem c_beg1 {q : Nat → Nat} {P B : M2} {np : Nat} (hnp : np ≤ 60) (h21 : P 21 0 = nI np) {K : Nat → M2 → Prop} (hK : ∀ F', CS1 B F' np → wl_X4_begin_41 q P K fK F' 0) : ∀ (d v f : Nat) (F : M2), v + d = np → d < f → CS1 B F v → wl_X4_begin_12 q P K f F (nI v) := by
  intro d
  induction d with
  | zero =>
    intro v f F hv hf hI
    obtain ⟨f, rfl, _⟩ := fuel hf
    have e : v = np := by omega
    subst e
    exact And.intro (fun _ => hK F hI) (fun z => absurd (by rw [h21]; exact nI_le (by omega) (by omega)) z)
  | succ d ih =>
    intro v f F hv hf hI
    obtain ⟨f, rfl, _⟩ := fuel (show 0 < f by omega)
    refine And.intro (fun z => absurd z (by rw [h21]; exact nI_ge (by omega) (by omega))) (fun _ F1 e1 v1 ev => ?_)
    rw [putv_nI (by omega) (by decide)] at e1
    rw [nI_1] at ev
    subst ev
    refine ih (v + 1) f F1 (by omega) (by omega) ⟨fun k hk => by rw [e1, up2_n _ _ hk]; exact hI.1 k hk, fun i hi => ?_⟩
    rw [e1, up2_s]
    by_cases e : i = v
    · subst e
      rw [upd_s]
    · rw [upd_n _ _ e]
      exact hI.2 i (by omega)
/-- the class's tunnel where a list begins -/
def BEGF (P : M2) (np nl nb : Nat) (F F' : M2) : Prop := (∀ k, (k < 2 ∨ k = 3 ∨ 13 < k) → F' k = F k) ∧ (F' 2 = fun _ => 0) ∧ (∀ i, i < np → F' 4 i = 100) ∧ (∀ i, i < nl → F' 5 i = 10 * P 32 i ∧ F' 6 i = 0 ∧ F' 7 i = -1) ∧ ∀ i, i < nb → F' 8 i = P 34 i ∧ F' 9 i = P 35 i ∧ F' 10 i = 0 ∧ F' 11 i = -1 ∧ F' 12 i = 0 ∧ F' 13 i = -1
theorem c_begin {q : Nat → Nat} {P F : M2} {pr np nl nb : Nat} (hnp : np ≤ 60) (h21 : P 21 0 = nI np) (hnl : nl ≤ 6) (h23 : P 23 0 = nI nl) (hnb : nb ≤ 8) (h24 : P 24 0 = nI nb) {K : Nat → M2 → Prop} (hK : ∀ F', BEGF P np nl nb F F' → K (q 20) F') : wp_X4_begin q P pr F K := by
  intro F0 e0
  refine c_beg1 (B := F0) hnp h21 (fun F1 h1 => ?_) np 0 fK F0 (by omega) (by rw [fK_eq]; omega) ⟨fun _ _ => rfl, fun i hi => absurd hi (Nat.not_lt_zero _)⟩
  refine c_beg2 (B := F1) hnl h23 (fun F2 h2 => ?_) nl 0 fK F1 (by omega) (by rw [fK_eq]; omega) ⟨fun _ _ => rfl, fun i hi => absurd hi (Nat.not_lt_zero _)⟩
  refine c_beg3 (B := F2) hnb h24 (fun F3 h3 => ?_) nb 0 fK F2 (by omega) (by rw [fK_eq]; omega) ⟨fun _ _ => rfl, fun i hi => absurd hi (Nat.not_lt_zero _)⟩
  refine hK F3 ⟨fun k hk => ?_, ?_, fun i hi => ?_, fun i hi => ?_, h3.2⟩
  · rw [h3.1 k (by omega), h2.1 k (by omega), h1.1 k (by omega), e0, up2_n _ _ (by omega)]
  · rw [h3.1 2 (by decide), h2.1 2 (by decide), h1.1 2 (by decide), e0, up2_s]
  · rw [h3.1 4 (by decide), h2.1 4 (by decide)]
    exact h1.2 i hi
  · rw [h3.1 5 (by decide), h3.1 6 (by decide), h3.1 7 (by decide)]
    exact h2.2 i hi
end BEGIN
