/-! ===== what tokens mean: the second pass, as numbers tell it ===== -/
/-- how many tokens ahead of k have the role as -/
def cnt (ρ : Nat → Int32) (as : Int32) : Nat → Nat
  | 0 => 0
  | k + 1 => cnt ρ as k + (if ρ k = as then 1 else 0)
theorem cnt_cong {ρ ρ' : Nat → Int32} {as : Int32} : ∀ {t : Nat}, (∀ k, k < t → ρ k = ρ' k) → cnt ρ as t = cnt ρ' as t
  | 0, _ => rfl
  | t + 1, h => by
    unfold cnt
    rw [cnt_cong (fun k hk => h k (by omega)), h t (by omega)]
theorem cnt_le {ρ : Nat → Int32} {as : Int32} {k t : Nat} (h : k ≤ t) : cnt ρ as k ≤ cnt ρ as t := by
  induction t with
  | zero =>
    have : k = 0 := by omega
    rw [this]
    exact Nat.le_refl _
  | succ t ih =>
    rcases Nat.lt_or_ge t k with h1 | h1
    · have : k = t + 1 := by omega
      rw [this]
      exact Nat.le_refl _
    · have := ih h1
      have e : cnt ρ as (t + 1) = cnt ρ as t + (if ρ t = as then 1 else 0) := rfl
      rw [e]
      omega
theorem cnt_lt {ρ : Nat → Int32} {as : Int32} {k t : Nat} (h : k < t) (hk : ρ k = as) : cnt ρ as k < cnt ρ as t := by
  have h1 : cnt ρ as (k + 1) = cnt ρ as k + 1 := by
    show cnt ρ as k + (if ρ k = as then 1 else 0) = _
    rw [if_pos hk]
  have := cnt_le (ρ := ρ) (as := as) (show k + 1 ≤ t from h)
  omega
/-- the number of the name of token t among those told with the role as, from token k on (c of them ahead) -/
def tldF (val : Nat → Int64) (ρ : Nat → Int32) (as : Int32) (t : Nat) : Nat → Nat → Nat → Int32
  | 0, _, _ => -1
  | d + 1, k, c => if ρ k = as then (if val k = val t then nI c else tldF val ρ as t d (k + 1) (c + 1)) else tldF val ρ as t d (k + 1) c
/-- among those ahead of token b -/
def tld (val : Nat → Int64) (ρ : Nat → Int32) (as : Int32) (t b : Nat) : Int32 := tldF val ρ as t b 0 0
theorem tldF_cong {val : Nat → Int64} {ρ ρ' : Nat → Int32} {as : Int32} {t : Nat} : ∀ {d k c : Nat}, (∀ i, k ≤ i → i < k + d → ρ i = ρ' i) → tldF val ρ as t d k c = tldF val ρ' as t d k c
  | 0, _, _, _ => rfl
  | d + 1, k, c, h => by
    unfold tldF
    rw [h k (by omega) (by omega), tldF_cong (d := d) (k := k + 1) (c := c + 1) (fun i h1 h2 => h i (by omega) (by omega)), tldF_cong (d := d) (k := k + 1) (c := c) (fun i h1 h2 => h i (by omega) (by omega))]
/-- no token with that role from place b up to t: the same number -/
theorem tldF_more {val : Nat → Int64} {ρ : Nat → Int32} {as : Int32} {t : Nat} : ∀ {d k c e : Nat}, (∀ i, k + d ≤ i → i < k + d + e → ¬ ρ i = as) → tldF val ρ as t (d + e) k c = tldF val ρ as t d k c
  | 0, k, c, 0, _ => rfl
  | 0, k, c, e + 1, h => by
    rw [show 0 + (e + 1) = e + 1 by omega]
    unfold tldF
    rw [if_neg (h k (by omega) (by omega))]
    have := tldF_more (val := val) (t := t) (d := 0) (k := k + 1) (c := c) (e := e) (fun i h1 h2 => h i (by omega) (by omega))
    rw [Nat.zero_add] at this
    rw [this]
    rfl
  | d + 1, k, c, e, h => by
    rw [show d + 1 + e = (d + e) + 1 by omega]
    unfold tldF
    rw [tldF_more (d := d) (k := k + 1) (c := c + 1) (fun i h1 h2 => h i (by omega) (by omega)), tldF_more (d := d) (k := k + 1) (c := c) (fun i h1 h2 => h i (by omega) (by omega))]
theorem tldF_rng {val : Nat → Int64} {ρ : Nat → Int32} {as : Int32} {t : Nat} : ∀ (d k c : Nat), tldF val ρ as t d k c = -1 ∨ ∃ j, c ≤ j ∧ j + cnt ρ as k < c + cnt ρ as (k + d) ∧ tldF val ρ as t d k c = nI j
  | 0, _, _ => Or.inl rfl
  | d + 1, k, c => by
    have hs : cnt ρ as (k + 1) = cnt ρ as k + (if ρ k = as then 1 else 0) := rfl
    have hk : k + (d + 1) = k + 1 + d := by omega
    unfold tldF
    by_cases h : ρ k = as
    · rw [if_pos h] at hs ⊢
      by_cases h2 : val k = val t
      · have := cnt_lt (ρ := ρ) (as := as) (show k < k + (d + 1) by omega) h
        exact Or.inr ⟨c, Nat.le_refl _, by omega, if_pos h2⟩
      · rw [if_neg h2]
        rcases tldF_rng (val := val) (ρ := ρ) (as := as) (t := t) d (k + 1) (c + 1) with e | ⟨j, h3, h4, h5⟩
        · exact Or.inl e
        · rw [hk]
          exact Or.inr ⟨j, by omega, by omega, h5⟩
    · rw [if_neg h] at hs ⊢
      rcases tldF_rng (val := val) (ρ := ρ) (as := as) (t := t) d (k + 1) c with e | ⟨j, h3, h4, h5⟩
      · exact Or.inl e
      · rw [hk]
        exact Or.inr ⟨j, by omega, by omega, h5⟩
theorem tld_rng {val : Nat → Int64} {ρ : Nat → Int32} {as : Int32} {t b : Nat} : tld val ρ as t b = -1 ∨ ∃ j, j < cnt ρ as b ∧ tld val ρ as t b = nI j := by
  rcases tldF_rng (val := val) (ρ := ρ) (as := as) (t := t) b 0 0 with h | ⟨j, _, h2, h3⟩
  · exact Or.inl h
  · rw [Nat.zero_add, Nat.zero_add] at h2
    exact Or.inr ⟨j, by have : cnt ρ as 0 = 0 := rfl; omega, h3⟩
/-- the class's row of names is those told with the role as ahead of token b -/
def NMS (val : Nat → Int64) (ρ : Nat → Int32) (as : Int32) (b : Nat) (g : Nat → Int64) : Prop := ∀ k, k < b → ρ k = as → g (cnt ρ as k) = val k
theorem idx_tld {val : Nat → Int64} {ρ : Nat → Int32} {as : Int32} {b t cap : Nat} {g : Nat → Int64} (h : NMS val ρ as b g) (hc : cnt ρ as b ≤ cap) (hcap : cap < 1000) : idx g (nI (cnt ρ as b)) cap (val t) = tld val ρ as t b := by
  have key : ∀ d k, k + d = b → ffr (fun i => nI i < nI (cnt ρ as b) ∧ g i = val t) (cap - cnt ρ as k) (cnt ρ as k) = tldF val ρ as t d k (cnt ρ as k) := by
    intro d
    induction d with
    | zero =>
      intro k hk
      have : k = b := by omega
      subst this
      rcases ffr_spec (p := fun i => nI i < nI (cnt ρ as k) ∧ g i = val t) (cap - cnt ρ as k) (cnt ρ as k) with ⟨h1, _⟩ | ⟨i, h1, h2, h3, _⟩
      · exact h1
      · have := h3.1
        rw [lt_nI (by omega) (by omega)] at this
        omega
    | succ d ih =>
      intro k hk
      have h1 := ih (k + 1) (by omega)
      have hs : cnt ρ as (k + 1) = cnt ρ as k + (if ρ k = as then 1 else 0) := rfl
      unfold tldF
      by_cases hr : ρ k = as
      · rw [if_pos hr] at hs ⊢
        rw [hs] at h1
        have hlt := cnt_lt (ρ := ρ) (as := as) (show k < b by omega) hr
        have e : cap - cnt ρ as k = (cap - (cnt ρ as k + 1)) + 1 := by omega
        rw [e]
        unfold ffr
        rw [h1, h k (by omega) hr]
        have hl : nI (cnt ρ as k) < nI (cnt ρ as b) := by
          rw [lt_nI (by omega) (by omega)]
          exact hlt
        by_cases hv : val k = val t
        · rw [if_pos ⟨hl, hv⟩, if_pos hv]
        · rw [if_neg (fun z => hv z.2), if_neg hv]
      · rw [if_neg hr] at hs ⊢
        rw [Nat.add_zero] at hs
        rw [hs] at h1
        exact h1
  have := key b 0 (by omega)
  have h0 : cnt ρ as 0 = 0 := rfl
  rw [h0] at this
  exact this
/-! the errors of a token -/
def newE (τ count most : Int32) : Int32 := if ¬ τ = -1 then 2 else if count = most then 4 else 0
def rngE (x lo hi : Int32) : Int32 := if lo ≤ x ∧ x ≤ hi then 0 else 5
def lookE (τ : Int32) : Int32 := if τ = -1 then 3 else 0
def bump (V : M2) (k : Nat) (e : Int32) : M2 := up2 V k (fun _ => V k 0 + (if e = 0 then 1 else 0))
def lastI (V : M2) (k : Nat) : Nat := (V k 0 - 1).toInt.toNat
def digF (k : Int32) : Nat → M2 → M2
  | 0, V => V
  | d + 1, V => digF k d (up2 (st2 V 245 (V 241 0).toInt.toNat k) 241 (fun _ => V 241 0 + 1))
def dugF (V : M2) (x : Int32) : M2 := digF (V 240 0 - 1) x.toInt.toNat (st2 (st2 V 242 (lastI V 240) x) 244 (lastI V 240) (V 241 0))
def crewF (V : M2) (place : Nat) (τ : Int32) : M2 := st2 V (310 + lastI V 252) place τ
def ordF (V : M2) (sort : Int32) : M2 := up2 (st2 V 259 (V 257 0).toInt.toNat sort) 257 (fun _ => V 257 0 + 1)
def endV (k : Int32) : Int32 := if k = 12 then 0 else 1
/-- the error at a token, and the plan behind it -/
def erF (κ : Nat → Int32) (val : Nat → Int64) (ρ : Nat → Int32) (t : Nat) (V : M2) : Int32 × M2 :=
  if ρ t = 1 then (newE (tld val ρ 1 t t) (V 240 0) 5, bump V 240 (newE (tld val ρ 1 t t) (V 240 0) 5))
  else if ρ t = 2 then (newE (tld val ρ 2 t t) (V 246 0) 4, bump V 246 (newE (tld val ρ 2 t t) (V 246 0) 4))
  else if ρ t = 3 then (newE (tld val ρ 3 t t) (V 249 0) 6, bump V 249 (newE (tld val ρ 3 t t) (V 249 0) 6))
  else if ρ t = 4 then (newE (tld val ρ 4 t t) (V 252 0) 8, bump V 252 (newE (tld val ρ 4 t t) (V 252 0) 8))
  else if ρ t = 5 then (if V 257 0 = 16 then (4, V) else (0, ordF V 17))
  else if ρ t = 6 then (if V 257 0 = 16 then (4, V) else (0, ordF V 18))
  else if ρ t = 14 then (0, st2 V 254 (lastI V 252) (endV (κ t)))
  else if ρ t = 16 then (lookE (tld val ρ 3 t t), crewF V 0 (tld val ρ 3 t t))
  else if ρ t = 17 then ((if lookE (tld val ρ 3 t t) = 0 ∧ crewF V 1 (tld val ρ 3 t t) (310 + lastI V 252) 0 = crewF V 1 (tld val ρ 3 t t) (310 + lastI V 252) 1 then 5 else lookE (tld val ρ 3 t t)), crewF V 1 (tld val ρ 3 t t))
  else if ρ t = 18 then (0, st2 V 260 (lastI V 257) (endV (κ t)))
  else if ρ t = 19 then (lookE (tld val ρ 3 t t), st2 V 260 (lastI V 257) (tld val ρ 3 t t))
  else if ρ t = 20 then (lookE (tld val ρ 3 t t), V)
  else if ρ t = 21 then (lookE (tld val ρ 4 t t), V)
  else if ρ t = 7 then (rngE (val t).toInt32 1 12, if rngE (val t).toInt32 1 12 = 0 then dugF V (val t).toInt32 else V)
  else if ρ t = 8 then (rngE (val t).toInt32 0 9, st2 V 243 (lastI V 240) (val t).toInt32)
  else if ρ t = 9 then (rngE (val t).toInt32 0 (V 241 0 - 1), st2 V 247 (lastI V 246) (val t).toInt32)
  else if ρ t = 10 then (rngE (val t).toInt32 1 30, st2 V 248 (lastI V 246) (val t).toInt32)
  else if ρ t = 11 then (rngE (val t).toInt32 1 9, st2 V 250 (lastI V 249) (val t).toInt32)
  else if ρ t = 12 then (rngE (val t).toInt32 1 9, st2 V 251 (lastI V 249) (val t).toInt32)
  else if ρ t = 13 then (rngE (val t).toInt32 1 60, st2 V 253 (lastI V 252) (val t).toInt32)
  else if ρ t = 15 then (rngE (val t).toInt32 0 999, st2 V 255 (lastI V 252) (val t).toInt32)
  else (0, V)
/-- the second pass over the first t tokens: error (0: none yet), its token, the plan -/
abbrev SEM : Type := Int32 × Nat × M2
def semS (κ : Nat → Int32) (val : Nat → Int64) (ρ : Nat → Int32) (t : Nat) (z : SEM) : SEM := if z.1 = 0 then ((erF κ val ρ t z.2.2).1, t, (erF κ val ρ t z.2.2).2) else z
def sem (κ : Nat → Int32) (val : Nat → Int64) (ρ : Nat → Int32) (V0 : M2) : Nat → SEM
  | 0 => (0, 0, V0)
  | t + 1 => semS κ val ρ t (sem κ val ρ V0 t)
theorem tld_cong {val : Nat → Int64} {ρ ρ' : Nat → Int32} {as : Int32} {t b : Nat} (h : ∀ k, k < b → ρ k = ρ' k) : tld val ρ as t b = tld val ρ' as t b := tldF_cong (fun i _ h2 => h i (by omega))
theorem erF_cong {κ : Nat → Int32} {val : Nat → Int64} {ρ ρ' : Nat → Int32} {t : Nat} {V : M2} (h : ∀ k, k < t + 1 → ρ k = ρ' k) : erF κ val ρ t V = erF κ val ρ' t V := by
  have e : ∀ as, tld val ρ as t t = tld val ρ' as t t := fun as => tld_cong (fun k hk => h k (by omega))
  unfold erF
  rw [h t (by omega), e 1, e 2, e 3, e 4]
theorem sem_cong {κ : Nat → Int32} {val : Nat → Int64} {ρ ρ' : Nat → Int32} {V0 : M2} : ∀ {t : Nat}, (∀ k, k < t → ρ k = ρ' k) → sem κ val ρ V0 t = sem κ val ρ' V0 t
  | 0, _ => rfl
  | t + 1, h => by
    unfold sem semS
    rw [sem_cong (t := t) (fun k hk => h k (by omega)), erF_cong (ρ := ρ) (ρ' := ρ') (t := t) (fun k hk => h k hk)]
/-- tokens without a role -/
theorem erF_0 {κ : Nat → Int32} {val : Nat → Int64} {ρ : Nat → Int32} {t : Nat} {V : M2} (h : ρ t = 0) : erF κ val ρ t V = (0, V) := by
  unfold erF
  rw [h]
  simp
theorem semS_0 {κ : Nat → Int32} {val : Nat → Int64} {ρ : Nat → Int32} {t : Nat} {z : SEM} (h : ρ t = 0) (hz : z.1 = 0 → z.2.1 ≤ t) : (semS κ val ρ t z).1 = z.1 ∧ (semS κ val ρ t z).2.2 = z.2.2 ∧ (¬ z.1 = 0 → (semS κ val ρ t z).2.1 = z.2.1) := by
  unfold semS
  by_cases c : z.1 = 0
  · rw [if_pos c, erF_0 h]
    exact ⟨c.symm, rfl, fun z => absurd c z⟩
  · rw [if_neg c]
    exact ⟨rfl, rfl, fun _ => rfl⟩
theorem semS_err {κ : Nat → Int32} {val : Nat → Int64} {ρ : Nat → Int32} {t : Nat} {z : SEM} (h : ¬ z.1 = 0) : semS κ val ρ t z = z := if_neg h
theorem sem_err {κ : Nat → Int32} {val : Nat → Int64} {ρ : Nat → Int32} {V0 : M2} {t : Nat} (h : ¬ (sem κ val ρ V0 t).1 = 0) : ∀ d, sem κ val ρ V0 (t + d) = sem κ val ρ V0 t
  | 0 => rfl
  | d + 1 => by
    show semS κ val ρ (t + d) (sem κ val ρ V0 (t + d)) = _
    rw [sem_err h d, semS_err h]
