/-! ===== a list begins: both sides ===== -/
section BEGIN
def BS3 (P B S : M2) (v : Nat) : Prop := (∀ k, (k < 206 ∨ 211 < k) → S k = B k) ∧ ∀ i, i < v → S 206 i = 0 ∧ S 207 i = P 254 i ∧ S 208 i = P 255 i ∧ S 209 i = -1 ∧ S 210 i = 0 ∧ S 211 i = -1
theorem r_beg3 {N P B : M2} {K : M2 → Prop} (hK : ∀ S', BS3 P B S' 8 → K S') : ∀ (d v f : Nat) (S : M2), v + d = 8 → d < f → BS3 P B S v → wl_X7_begin_96 N P K f S (nI v) := by
  have e8 : (8 : Int32) = nI 8 := rfl
  intro d
  induction d with
  | zero =>
    intro v f S hv hf hI
    obtain ⟨f, rfl, _⟩ := fuel hf
    have e : v = 8 := by omega
    subst e
    exact And.intro (fun _ => hK S hI) (fun z => absurd (by rw [e8]; exact nI_le (by omega) (by omega)) z)
  | succ d ih =>
    intro v f S hv hf hI
    obtain ⟨f, rfl, _⟩ := fuel (show 0 < f by omega)
    have inV : inb (nI v) 8 := inb_nI (by omega) (by decide)
    refine And.intro (fun z => absurd z (by rw [e8]; exact nI_ge (by omega) (by omega))) (fun _ => ⟨inV, fun S1 e1 => ⟨inV, inV, fun S2 e2 => ⟨inV, inV, fun S3 e3 => ⟨inV, fun S4 e4 => ⟨inV, fun S5 e5 => ⟨inV, fun S6 e6 v1 ev => ?_⟩⟩⟩⟩⟩⟩)
    rw [tn_nI (by omega)] at e1 e2 e3 e4 e5 e6
    rw [nI_1] at ev
    subst ev
    have s6 : ∀ k, k ≠ 211 → S6 k = S5 k := fun k h => by rw [e6]; exact up2_n _ _ h
    have s5 : ∀ k, k ≠ 210 → S5 k = S4 k := fun k h => by rw [e5]; exact up2_n _ _ h
    have s4 : ∀ k, k ≠ 209 → S4 k = S3 k := fun k h => by rw [e4]; exact up2_n _ _ h
    have s3 : ∀ k, k ≠ 208 → S3 k = S2 k := fun k h => by rw [e3]; exact up2_n _ _ h
    have s2 : ∀ k, k ≠ 207 → S2 k = S1 k := fun k h => by rw [e2]; exact up2_n _ _ h
    have s1 : ∀ k, k ≠ 206 → S1 k = S k := fun k h => by rw [e1]; exact up2_n _ _ h
    have k211 : S6 211 = upd (S 211) v (-1) := by rw [e6, up2_s, s5 211 (by decide), s4 211 (by decide), s3 211 (by decide), s2 211 (by decide), s1 211 (by decide)]
    have k210 : S6 210 = upd (S 210) v 0 := by rw [s6 210 (by decide), e5, up2_s, s4 210 (by decide), s3 210 (by decide), s2 210 (by decide), s1 210 (by decide)]
    have k209 : S6 209 = upd (S 209) v (-1) := by rw [s6 209 (by decide), s5 209 (by decide), e4, up2_s, s3 209 (by decide), s2 209 (by decide), s1 209 (by decide)]
    have k208 : S6 208 = upd (S 208) v (P 255 v) := by rw [s6 208 (by decide), s5 208 (by decide), s4 208 (by decide), e3, up2_s, s2 208 (by decide), s1 208 (by decide)]
    have k207 : S6 207 = upd (S 207) v (P 254 v) := by rw [s6 207 (by decide), s5 207 (by decide), s4 207 (by decide), s3 207 (by decide), e2, up2_s, s1 207 (by decide)]
    have k206 : S6 206 = upd (S 206) v 0 := by rw [s6 206 (by decide), s5 206 (by decide), s4 206 (by decide), s3 206 (by decide), s2 206 (by decide), e1, up2_s]
    refine ih (v + 1) f S6 (by omega) (by omega) ⟨fun k hk => by rw [s6 k (by omega), s5 k (by omega), s4 k (by omega), s3 k (by omega), s2 k (by omega), s1 k (by omega)]; exact hI.1 k hk, fun i hi => ?_⟩
    rw [k206, k207, k208, k209, k210, k211]
    by_cases e : i = v
    · subst e
      rw [upd_s, upd_s, upd_s, upd_s, upd_s, upd_s]
      exact ⟨rfl, rfl, rfl, rfl, rfl, rfl⟩
    · rw [upd_n _ _ e, upd_n _ _ e, upd_n _ _ e, upd_n _ _ e, upd_n _ _ e, upd_n _ _ e]
      exact hI.2 i (by omega)
def BS2 (P B S : M2) (v : Nat) : Prop := (∀ k, (k < 203 ∨ 205 < k) → S k = B k) ∧ ∀ i, i < v → S 203 i = 10 * P 251 i ∧ S 204 i = -1 ∧ S 205 i = 0
theorem r_beg2 {N P B : M2} {K : M2 → Prop} (hK : ∀ S', BS2 P B S' 6 → wl_X7_begin_96 N P K fK S' 0) : ∀ (d v f : Nat) (S : M2), v + d = 6 → d < f → BS2 P B S v → wl_X7_begin_47 N P K f S (nI v) := by
  have e6 : (6 : Int32) = nI 6 := rfl
  intro d
  induction d with
  | zero =>
    intro v f S hv hf hI
    obtain ⟨f, rfl, _⟩ := fuel hf
    have e : v = 6 := by omega
    subst e
    exact And.intro (fun _ => hK S hI) (fun z => absurd (by rw [e6]; exact nI_le (by omega) (by omega)) z)
  | succ d ih =>
    intro v f S hv hf hI
    obtain ⟨f, rfl, _⟩ := fuel (show 0 < f by omega)
    have inV : inb (nI v) 6 := inb_nI (by omega) (by decide)
    refine And.intro (fun z => absurd z (by rw [e6]; exact nI_ge (by omega) (by omega))) (fun _ => ⟨inV, inV, fun S1 e1 => ⟨inV, fun S2 e2 => ⟨inV, fun S3 e3 v1 ev => ?_⟩⟩⟩)
    rw [tn_nI (by omega)] at e1 e2 e3
    rw [nI_1] at ev
    subst ev
    have s3 : ∀ k, k ≠ 205 → S3 k = S2 k := fun k h => by rw [e3]; exact up2_n _ _ h
    have s2 : ∀ k, k ≠ 204 → S2 k = S1 k := fun k h => by rw [e2]; exact up2_n _ _ h
    have s1 : ∀ k, k ≠ 203 → S1 k = S k := fun k h => by rw [e1]; exact up2_n _ _ h
    have k205 : S3 205 = upd (S 205) v 0 := by rw [e3, up2_s, s2 205 (by decide), s1 205 (by decide)]
    have k204 : S3 204 = upd (S 204) v (-1) := by rw [s3 204 (by decide), e2, up2_s, s1 204 (by decide)]
    have k203 : S3 203 = upd (S 203) v (10 * P 251 v) := by rw [s3 203 (by decide), s2 203 (by decide), e1, up2_s]
    refine ih (v + 1) f S3 (by omega) (by omega) ⟨fun k hk => by rw [s3 k (by omega), s2 k (by omega), s1 k (by omega)]; exact hI.1 k hk, fun i hi => ?_⟩
    rw [k203, k204, k205]
    by_cases e : i = v
    · subst e
      rw [upd_s, upd_s, upd_s]
      exact ⟨rfl, rfl, rfl⟩
    · rw [upd_n _ _ e, upd_n _ _ e, upd_n _ _ e]
      exact hI.2 i (by omega)
def BS1 (np : Nat) (B S : M2) (v : Nat) : Prop := (∀ k, k ≠ 202 → S k = B k) ∧ ∀ i, i < v → S 202 i = if i < np then 100 else 0
theorem r_beg1 {N P B : M2} {np : Nat} (hnp : np ≤ 60) (h241 : P 241 0 = nI np) {K : M2 → Prop} (hK : ∀ S', BS1 np B S' 60 → wl_X7_begin_47 N P K fK S' 0) : ∀ (d v f : Nat) (S : M2), v + d = 60 → d < f → BS1 np B S v → wl_X7_begin_7 N P K f S (nI v) := by
  have e6 : (60 : Int32) = nI 60 := rfl
  intro d
  induction d with
  | zero =>
    intro v f S hv hf hI
    obtain ⟨f, rfl, _⟩ := fuel hf
    have e : v = 60 := by omega
    subst e
    exact And.intro (fun _ => hK S hI) (fun z => absurd (by rw [e6]; exact nI_le (by omega) (by omega)) z)
  | succ d ih =>
    intro v f S hv hf hI
    obtain ⟨f, rfl, _⟩ := fuel (show 0 < f by omega)
    have inV : inb (nI v) 60 := inb_nI (by omega) (by decide)
    have go : ∀ (x : Int32), x = (if v < np then 100 else 0) → ∀ S1 : M2, S1 = up2 S 202 (upd (S 202) (nI v).toInt.toNat x) → ∀ v1 : Int32, v1 = nI v + 1 → wl_X7_begin_7 N P K f S1 v1 := fun x hx S1 e1 v1 ev => by
      rw [tn_nI (by omega)] at e1
      rw [nI_1] at ev
      subst ev
      refine ih (v + 1) f S1 (by omega) (by omega) ⟨fun k hk => by rw [e1, up2_n _ _ hk]; exact hI.1 k hk, fun i hi => ?_⟩
      rw [e1, up2_s]
      by_cases e : i = v
      · subst e
        rw [upd_s, hx]
      · rw [upd_n _ _ e]
        exact hI.2 i (by omega)
    refine And.intro (fun z => absurd z (by rw [e6]; exact nI_ge (by omega) (by omega))) (fun _ => And.intro (fun c => ⟨inV, go 0 ?_⟩) (fun c => ⟨inV, go 100 ?_⟩))
    · rw [h241, le_nI (by omega) (by omega)] at c
      rw [if_neg (by omega)]
    · rw [h241, le_nI (by omega) (by omega)] at c
      rw [if_pos (by omega)]
/-- the reference's state where a list begins -/
def BEGS (P : M2) (np : Nat) (S S' : M2) : Prop := (∀ k, (k < 201 ∨ 211 < k) → S' k = S k) ∧ (S' 201 = fun _ => 0) ∧ (∀ i, i < 60 → S' 202 i = if i < np then 100 else 0) ∧ (∀ i, i < 6 → S' 203 i = 10 * P 251 i ∧ S' 204 i = -1 ∧ S' 205 i = 0) ∧ ∀ i, i < 8 → S' 206 i = 0 ∧ S' 207 i = P 254 i ∧ S' 208 i = P 255 i ∧ S' 209 i = -1 ∧ S' 210 i = 0 ∧ S' 211 i = -1
theorem r_begin {N P S : M2} {np : Nat} (hnp : np ≤ 60) (h241 : P 241 0 = nI np) {K : M2 → Prop} (hK : ∀ S', BEGS P np S S' → K S') : wp_X7_begin N P S K := by
  intro S0 e0
  refine r_beg1 (B := S0) hnp h241 (fun S1 h1 => ?_) 60 0 fK S0 (by omega) (by rw [fK_eq]; omega) ⟨fun _ _ => rfl, fun i hi => absurd hi (Nat.not_lt_zero _)⟩
  refine r_beg2 (B := S1) (fun S2 h2 => ?_) 6 0 fK S1 (by omega) (by rw [fK_eq]; omega) ⟨fun _ _ => rfl, fun i hi => absurd hi (Nat.not_lt_zero _)⟩
  refine r_beg3 (B := S2) (fun S3 h3 => ?_) 8 0 fK S2 (by omega) (by rw [fK_eq]; omega) ⟨fun _ _ => rfl, fun i hi => absurd hi (Nat.not_lt_zero _)⟩
  refine hK S3 ⟨fun k hk => ?_, ?_, fun i hi => ?_, fun i hi => ?_, h3.2⟩
  · rw [h3.1 k (by omega), h2.1 k (by omega), h1.1 k (by omega), e0, up2_n _ _ (by omega)]
  · rw [h3.1 201 (by decide), h2.1 201 (by decide), h1.1 201 (by decide), e0, up2_s]
  · rw [h3.1 202 (by decide), h2.1 202 (by decide)]
    exact h1.2 i hi
  · rw [h3.1 203 (by decide), h3.1 204 (by decide), h3.1 205 (by decide)]
    exact h2.2 i hi
/-! the class -/
def CS3 (P B F : M2) (v : Nat) : Prop := (∀ k, (k < 8 ∨ 13 < k) → F k = B k) ∧ ∀ i, i < v → F 8 i = P 34 i ∧ F 9 i = P 35 i ∧ F 10 i = 0 ∧ F 11 i = -1 ∧ F 12 i = 0 ∧ F 13 i = -1
theorem c_beg3 {q : Nat → Nat} {P B : M2} {nb : Nat} (hnb : nb ≤ 8) (h24 : P 24 0 = nI nb) {K : Nat → M2 → Prop} (hK : ∀ F', CS3 P B F' nb → K (q 20) F') : ∀ (d v f : Nat) (F : M2), v + d = nb → d < f → CS3 P B F v → wl_X4_begin_91 q P K f F (nI v) := by
  intro d
  induction d with
  | zero =>
    intro v f F hv hf hI
    obtain ⟨f, rfl, _⟩ := fuel hf
    have e : v = nb := by omega
    subst e
    exact And.intro (fun _ => hK F hI) (fun z => absurd (by rw [h24]; exact nI_le (by omega) (by omega)) z)
  | succ d ih =>
    intro v f F hv hf hI
    obtain ⟨f, rfl, _⟩ := fuel (show 0 < f by omega)
    refine And.intro (fun z => absurd z (by rw [h24]; exact nI_ge (by omega) (by omega))) (fun _ F1 e1 F2 e2 F3 e3 F4 e4 F5 e5 F6 e6 v1 ev => ?_)
    rw [atv_nI (by omega) (by decide), putv_nI (by omega) (by decide)] at e1
    rw [atv_nI (by omega) (by decide), putv_nI (by omega) (by decide)] at e2
    rw [putv_nI (by omega) (by decide)] at e3 e4 e5 e6
    rw [nI_1] at ev
    subst ev
    have s6 : ∀ k, k ≠ 13 → F6 k = F5 k := fun k h => by rw [e6]; exact up2_n _ _ h
    have s5 : ∀ k, k ≠ 12 → F5 k = F4 k := fun k h => by rw [e5]; exact up2_n _ _ h
    have s4 : ∀ k, k ≠ 11 → F4 k = F3 k := fun k h => by rw [e4]; exact up2_n _ _ h
    have s3 : ∀ k, k ≠ 10 → F3 k = F2 k := fun k h => by rw [e3]; exact up2_n _ _ h
    have s2 : ∀ k, k ≠ 9 → F2 k = F1 k := fun k h => by rw [e2]; exact up2_n _ _ h
    have s1 : ∀ k, k ≠ 8 → F1 k = F k := fun k h => by rw [e1]; exact up2_n _ _ h
    have k13 : F6 13 = upd (F 13) v (-1) := by rw [e6, up2_s, s5 13 (by decide), s4 13 (by decide), s3 13 (by decide), s2 13 (by decide), s1 13 (by decide)]
    have k12 : F6 12 = upd (F 12) v 0 := by rw [s6 12 (by decide), e5, up2_s, s4 12 (by decide), s3 12 (by decide), s2 12 (by decide), s1 12 (by decide)]
    have k11 : F6 11 = upd (F 11) v (-1) := by rw [s6 11 (by decide), s5 11 (by decide), e4, up2_s, s3 11 (by decide), s2 11 (by decide), s1 11 (by decide)]
    have k10 : F6 10 = upd (F 10) v 0 := by rw [s6 10 (by decide), s5 10 (by decide), s4 10 (by decide), e3, up2_s, s2 10 (by decide), s1 10 (by decide)]
    have k9 : F6 9 = upd (F 9) v (P 35 v) := by rw [s6 9 (by decide), s5 9 (by decide), s4 9 (by decide), s3 9 (by decide), e2, up2_s, s1 9 (by decide)]
    have k8 : F6 8 = upd (F 8) v (P 34 v) := by rw [s6 8 (by decide), s5 8 (by decide), s4 8 (by decide), s3 8 (by decide), s2 8 (by decide), e1, up2_s]
    refine ih (v + 1) f F6 (by omega) (by omega) ⟨fun k hk => by rw [s6 k (by omega), s5 k (by omega), s4 k (by omega), s3 k (by omega), s2 k (by omega), s1 k (by omega)]; exact hI.1 k hk, fun i hi => ?_⟩
    rw [k8, k9, k10, k11, k12, k13]
    by_cases e : i = v
    · subst e
      rw [upd_s, upd_s, upd_s, upd_s, upd_s, upd_s]
      exact ⟨rfl, rfl, rfl, rfl, rfl, rfl⟩
    · rw [upd_n _ _ e, upd_n _ _ e, upd_n _ _ e, upd_n _ _ e, upd_n _ _ e, upd_n _ _ e]
      exact hI.2 i (by omega)
def CS2 (P B F : M2) (v : Nat) : Prop := (∀ k, (k < 5 ∨ 7 < k) → F k = B k) ∧ ∀ i, i < v → F 5 i = 10 * P 32 i ∧ F 6 i = 0 ∧ F 7 i = -1
theorem c_beg2 {q : Nat → Nat} {P B : M2} {nl : Nat} (hnl : nl ≤ 6) (h23 : P 23 0 = nI nl) {K : Nat → M2 → Prop} (hK : ∀ F', CS2 P B F' nl → wl_X4_begin_91 q P K fK F' 0) : ∀ (d v f : Nat) (F : M2), v + d = nl → d < f → CS2 P B F v → wl_X4_begin_41 q P K f F (nI v) := by
  intro d
  induction d with
  | zero =>
    intro v f F hv hf hI
    obtain ⟨f, rfl, _⟩ := fuel hf
    have e : v = nl := by omega
    subst e
    exact And.intro (fun _ => hK F hI) (fun z => absurd (by rw [h23]; exact nI_le (by omega) (by omega)) z)
  | succ d ih =>
    intro v f F hv hf hI
    obtain ⟨f, rfl, _⟩ := fuel (show 0 < f by omega)
    refine And.intro (fun z => absurd z (by rw [h23]; exact nI_ge (by omega) (by omega))) (fun _ => ?_)
    unfold wp_X4_mostBreath
    rw [atv_nI (by omega) (by decide)]
    intro F1 e1 F2 e2 F3 e3 v1 ev
    rw [putv_nI (by omega) (by decide)] at e1 e2 e3
    rw [nI_1] at ev
    subst ev
    have s3 : ∀ k, k ≠ 7 → F3 k = F2 k := fun k h => by rw [e3]; exact up2_n _ _ h
    have s2 : ∀ k, k ≠ 6 → F2 k = F1 k := fun k h => by rw [e2]; exact up2_n _ _ h
    have s1 : ∀ k, k ≠ 5 → F1 k = F k := fun k h => by rw [e1]; exact up2_n _ _ h
    have k7 : F3 7 = upd (F 7) v (-1) := by rw [e3, up2_s, s2 7 (by decide), s1 7 (by decide)]
    have k6 : F3 6 = upd (F 6) v 0 := by rw [s3 6 (by decide), e2, up2_s, s1 6 (by decide)]
    have k5 : F3 5 = upd (F 5) v (10 * P 32 v) := by rw [s3 5 (by decide), s2 5 (by decide), e1, up2_s]
    refine ih (v + 1) f F3 (by omega) (by omega) ⟨fun k hk => by rw [s3 k (by omega), s2 k (by omega), s1 k (by omega)]; exact hI.1 k hk, fun i hi => ?_⟩
    rw [k5, k6, k7]
    by_cases e : i = v
    · subst e
      rw [upd_s, upd_s, upd_s]
      exact ⟨rfl, rfl, rfl⟩
    · rw [upd_n _ _ e, upd_n _ _ e, upd_n _ _ e]
      exact hI.2 i (by omega)
def CS1 (B F : M2) (v : Nat) : Prop := (∀ k, k ≠ 4 → F k = B k) ∧ ∀ i, i < v → F 4 i = 100
theorem c_beg1 {q : Nat → Nat} {P B : M2} {np : Nat} (hnp : np ≤ 60) (h21 : P 21 0 = nI np) {K : Nat → M2 → Prop} (hK : ∀ F', CS1 B F' np → wl_X4_begin_41 q P K fK F' 0) : ∀ (d v f : Nat) (F : M2), v + d = np → d < f → CS1 B F v → wl_X4_begin_12 q P K f F (nI v) := by
  intro d
  induction d with
  | zero =>
    intro v f F hv hf hI
    obtain ⟨f, rfl, _⟩ := fuel hf
    have e : v = np := by omega
    subst e
    exact And.intro (fun _ => hK F hI) (fun z => absurd (by rw [h21]; exact nI_le (by omega) (by omega)) z)
  | succ d ih =>
    intro v f F hv hf hI
    obtain ⟨f, rfl, _⟩ := fuel (show 0 < f by omega)
    refine And.intro (fun z => absurd z (by rw [h21]; exact nI_ge (by omega) (by omega))) (fun _ F1 e1 v1 ev => ?_)
    rw [putv_nI (by omega) (by decide)] at e1
    rw [nI_1] at ev
    subst ev
    refine ih (v + 1) f F1 (by omega) (by omega) ⟨fun k hk => by rw [e1, up2_n _ _ hk]; exact hI.1 k hk, fun i hi => ?_⟩
    rw [e1, up2_s]
    by_cases e : i = v
    · subst e
      rw [upd_s]
    · rw [upd_n _ _ e]
      exact hI.2 i (by omega)
/-- the class's tunnel where a list begins -/
def BEGF (P : M2) (np nl nb : Nat) (F F' : M2) : Prop := (∀ k, (k < 2 ∨ k = 3 ∨ 13 < k) → F' k = F k) ∧ (F' 2 = fun _ => 0) ∧ (∀ i, i < np → F' 4 i = 100) ∧ (∀ i, i < nl → F' 5 i = 10 * P 32 i ∧ F' 6 i = 0 ∧ F' 7 i = -1) ∧ ∀ i, i < nb → F' 8 i = P 34 i ∧ F' 9 i = P 35 i ∧ F' 10 i = 0 ∧ F' 11 i = -1 ∧ F' 12 i = 0 ∧ F' 13 i = -1
theorem c_begin {q : Nat → Nat} {P F : M2} {pr np nl nb : Nat} (hnp : np ≤ 60) (h21 : P 21 0 = nI np) (hnl : nl ≤ 6) (h23 : P 23 0 = nI nl) (hnb : nb ≤ 8) (h24 : P 24 0 = nI nb) {K : Nat → M2 → Prop} (hK : ∀ F', BEGF P np nl nb F F' → K (q 20) F') : wp_X4_begin q P pr F K := by
  intro F0 e0
  refine c_beg1 (B := F0) hnp h21 (fun F1 h1 => ?_) np 0 fK F0 (by omega) (by rw [fK_eq]; omega) ⟨fun _ _ => rfl, fun i hi => absurd hi (Nat.not_lt_zero _)⟩
  refine c_beg2 (B := F1) hnl h23 (fun F2 h2 => ?_) nl 0 fK F1 (by omega) (by rw [fK_eq]; omega) ⟨fun _ _ => rfl, fun i hi => absurd hi (Nat.not_lt_zero _)⟩
  refine c_beg3 (B := F2) hnb h24 (fun F3 h3 => ?_) nb 0 fK F2 (by omega) (by rw [fK_eq]; omega) ⟨fun _ _ => rfl, fun i hi => absurd hi (Nat.not_lt_zero _)⟩
  refine hK F3 ⟨fun k hk => ?_, ?_, fun i hi => ?_, fun i hi => ?_, h3.2⟩
  · rw [h3.1 k (by omega), h2.1 k (by omega), h1.1 k (by omega), e0, up2_n _ _ (by omega)]
  · rw [h3.1 2 (by decide), h2.1 2 (by decide), h1.1 2 (by decide), e0, up2_s]
  · rw [h3.1 4 (by decide), h2.1 4 (by decide)]
    exact h1.2 i hi
  · rw [h3.1 5 (by decide), h3.1 6 (by decide), h3.1 7 (by decide)]
    exact h2.2 i hi
theorem beg_all {P Q F F' S S' : M2} {kb np nl nb ns no : Nat} (hX : PRX P Q kb np nl nb ns no) (hF : BEGF P np nl nb F F') (hS : BEGS Q np S S') (e1 : F 1 0 = S 200 0) (e3 : F 3 0 = S 212 0) : RE np nl nb F' S' ∧ INV Q S' np nl nb nb := by
  obtain ⟨⟨⟨⟨a1, a2, a3⟩, ⟨a4, a5, a6⟩, ⟨a7, a8, a9⟩, _, _⟩, _, _, hL, _⟩, _, _, _, hO, _⟩ := hX
  obtain ⟨f1, f2, f3, f4, f5⟩ := hF
  obtain ⟨s1, s2, s3, s4, s5⟩ := hS
  refine ⟨fun k k1 k2 i hi => ?_, fun p hp => ⟨100, by omega, ?_⟩, fun l hl => ⟨0, by omega, ?_⟩, fun b hb => Or.inr ⟨?_, ?_, ?_⟩, fun b c hb _ _ h _ => ?_, fun b c hb _ _ h _ => ?_, fun b hb => ?_⟩
  · have hk : k = 1 ∨ k = 2 ∨ k = 3 ∨ k = 4 ∨ k = 5 ∨ k = 6 ∨ k = 7 ∨ k = 8 ∨ k = 9 ∨ k = 10 ∨ k = 11 ∨ k = 12 ∨ k = 13 := by omega
    rcases hk with rfl | rfl | rfl | rfl | rfl | rfl | rfl | rfl | rfl | rfl | rfl | rfl | rfl
    · have hi : i < 1 := hi
      have : i = 0 := by omega
      subst this
      show F' 1 0 = S' 200 0
      rw [f1 1 (by decide), s1 200 (by decide)]
      exact e1
    · show F' 2 i = S' 201 i
      rw [f2, s2]
    · have hi : i < 1 := hi
      have : i = 0 := by omega
      subst this
      show F' 3 0 = S' 212 0
      rw [f1 3 (by decide), s1 212 (by decide)]
      exact e3
    · have hi : i < np := hi
      show F' 4 i = S' 202 i
      rw [f3 i hi, s3 i (by omega), if_pos hi]
    · have hi : i < nl := hi
      show F' 5 i = S' 203 i
      obtain ⟨x, y, _, _, _, _, _, _, g1, g2⟩ := hL i hi
      rw [(f4 i hi).1, (s4 i (by omega)).1, g1, g2]
    · have hi : i < nl := hi
      show F' 6 i = S' 205 i
      rw [(f4 i hi).2.1, (s4 i (by omega)).2.2]
    · have hi : i < nl := hi
      show F' 7 i = S' 204 i
      rw [(f4 i hi).2.2, (s4 i (by omega)).2.1]
    · have hi : i < nb := hi
      show F' 8 i = S' 207 i
      rw [(f5 i hi).1, (s5 i (by omega)).2.1, (hO i hi).1]
    · have hi : i < nb := hi
      show F' 9 i = S' 208 i
      rw [(f5 i hi).2.1, (s5 i (by omega)).2.2.1, (hO i hi).2.2]
    · have hi : i < nb := hi
      show F' 10 i = S' 206 i
      rw [(f5 i hi).2.2.1, (s5 i (by omega)).1]
    · have hi : i < nb := hi
      show F' 11 i = S' 209 i
      rw [(f5 i hi).2.2.2.1, (s5 i (by omega)).2.2.2.1]
    · have hi : i < nb := hi
      show F' 12 i = S' 210 i
      rw [(f5 i hi).2.2.2.2.1, (s5 i (by omega)).2.2.2.2.1]
    · have hi : i < nb := hi
      show F' 13 i = S' 211 i
      rw [(f5 i hi).2.2.2.2.2, (s5 i (by omega)).2.2.2.2.2]
  · rw [s3 p (by omega), if_pos hp]
    rfl
  · rw [(s4 l (by omega)).2.2]
    rfl
  · rw [(s5 b (by omega)).1]
    decide
  · exact (s5 b (by omega)).2.2.2.1
  · exact (s5 b (by omega)).2.2.2.2.1
  · rw [(s5 b (by omega)).1] at h
    exact absurd h (by decide)
  · rw [(s5 b (by omega)).1] at h
    exact absurd h (by decide)
  · rw [(s5 b (by omega)).2.1]
    exact (hO b hb).2.1
end BEGIN
