/-! ===== lines: what they tell; boundaries ===== -/
def dgG (ka kc : Nat) (k : Int32) : Nat → M2 → M2
  | 0, V => V
  | d + 1, V => dgG ka kc k d (up2 (st2 V ka (V kc 0).toInt.toNat k) kc (fun _ => V kc 0 + 1))
theorem dgG_spec {ka kc : Nat} (hk : ka ≠ kc) {k : Int32} : ∀ (d : Nat) (V : M2) (n : Nat), V kc 0 = nI n → n + d < 1000 → dgG ka kc k d V kc 0 = nI (n + d) ∧ (∀ q, dgG ka kc k d V ka q = if n ≤ q ∧ q < n + d then k else V ka q) ∧ ∀ j, j ≠ ka → j ≠ kc → dgG ka kc k d V j = V j
  | 0, V, n, h, _ => ⟨by simpa [dgG] using h, fun q => by rw [if_neg (by omega)]; rfl, fun _ _ _ => rfl⟩
  | d + 1, V, n, h, hn => by
    obtain ⟨h1, h2, h3⟩ := dgG_spec (k := k) hk d (up2 (st2 V ka (V kc 0).toInt.toNat k) kc (fun _ => V kc 0 + 1)) (n + 1) (by rw [up2_s, h, nI_1]) (by omega)
    unfold dgG
    refine ⟨by rw [h1, show n + 1 + d = n + (d + 1) by omega], fun q => ?_, fun j hj1 hj2 => ?_⟩
    · rw [h2 q, up2_n _ _ hk, h, tn_nI (by omega), st2_k]
      by_cases c : q = n
      · subst c
        rw [if_neg (by omega), if_pos rfl, if_pos (by omega)]
      · by_cases c2 : n + 1 ≤ q ∧ q < n + 1 + d
        · rw [if_pos c2, if_pos (by omega)]
        · rw [if_neg c2, if_neg c, if_neg (by omega)]
    · rw [h3 j hj1 hj2, up2_n _ _ hj2, st2_n _ _ _ hj1]
section SEMA
variable {κ : Nat → Int32} {m : Nat} {val : Nat → Int64} {N0 : M2} {V0 : M2} {ρ : Nat → Int32}
/-- the class's fault -/
def CER (F : M2) (e : Int32) (k : Nat) : Prop := F 67 0 = e ∧ ¬ e = 0 ∧ F 68 0 = nI k
theorem tf_on {F : M2} {e : Int32} {t : Nat} (h : F 67 0 = 0) (he : ¬ e = 0) : CER (tf F e t) e t := by
  unfold tf
  rw [if_pos h]
  exact ⟨by rw [up2_n _ _ (by decide), up2_s], he, by rw [up2_s]⟩
theorem tf_off {F : M2} {e e' : Int32} {k t : Nat} (h : CER F e k) : tf F e' t = F := if_neg (fun z => h.2.1 (h.1.symm.trans z))
def nwC (τ told : Int32) (cap t : Nat) (F : M2) : M2 := if told < nI cap then (if τ = -1 then F else tf F 2 t) else tf (if τ = -1 then F else tf F 2 t) 4 t
def rgC (x lo hi : Int32) (t : Nat) (F : M2) : M2 := if lo ≤ x ∧ x ≤ hi then F else tf F 5 t
theorem nwC_off {F : M2} {e τ told : Int32} {k t cap : Nat} (h : CER F e k) : nwC τ told cap t F = F := by
  have e1 : (if τ = -1 then F else tf F 2 t) = F := by
    rw [tf_off h]
    split <;> rfl
  unfold nwC
  rw [e1, tf_off h]
  split <;> rfl
theorem rgC_off {F : M2} {e x lo hi : Int32} {k t : Nat} (h : CER F e k) : rgC x lo hi t F = F := by
  unfold rgC
  rw [tf_off h]
  split <;> rfl
theorem nwC_n {F : M2} {τ told : Int32} {cap t : Nat} {k : Nat} (h1 : k ≠ 67) (h2 : k ≠ 68) : nwC τ told cap t F k = F k := by
  have e1 : (if τ = -1 then F else tf F 2 t) k = F k := by
    split
    · rfl
    · exact tf_n _ _ _ h1 h2
  unfold nwC
  split
  · exact e1
  · rw [tf_n _ _ _ h1 h2]
    exact e1
theorem rgC_n {F : M2} {x lo hi : Int32} {t : Nat} {k : Nat} (h1 : k ≠ 67) (h2 : k ≠ 68) : rgC x lo hi t F k = F k := by
  unfold rgC
  split
  · rfl
  · exact tf_n _ _ _ h1 h2
/-! the class's steps -/
variable {F : M2} {L : L2} {p : Nat}
theorem SC.rows (h : SC κ m val F L p) {F' : M2} {L' : L2} (h66 : F' 66 = F 66) (h74 : F' 74 = F 74) (h76 : L' 76 = L 76) : SC κ m val F' L' p := by
  obtain ⟨x1, x2, x3, x4⟩ := h
  exact ⟨by rw [h66, x1], x2, by rw [h74]; exact x3, by rw [h76]; exact x4⟩
theorem c_range {K : M2 → L2 → Prop} (h : SC κ m val F L p) (hK : KIN κ m) {t : Nat} (ht : t ≤ m) {lo hi : Int32} (hk : K (rgC (val t).toInt32 lo hi t F) L) : wp_X2_needRange F L (nI t) lo hi K := by
  unfold wp_X2_needRange wp_X2_number
  rw [h.vl hK ht]
  unfold rgC at hk
  refine And.intro (fun c => c_tell ?_) (fun c => And.intro (fun c2 => ?_) (fun c2 => c_tell ?_))
  · rw [if_neg (fun z => Int32.not_lt.mpr z.1 c)] at hk
    exact hk
  · rw [if_pos ⟨Int32.not_lt.mp c, c2⟩] at hk
    exact hk
  · rw [if_neg (fun z => c2 z.2)] at hk
    exact hk
theorem c_new_nB {K : M2 → L2 → Prop} (h : SC κ m val F L p) (hK : KIN κ m) {told : Int32} {t : Nat} (ht : t ≤ m) (hk : K (nwC (idx (L 61) told 5 (val t)) told 5 t F) L) : wp_X2_needNew_nB F L told (nI t) K := by
  unfold wp_X2_needNew_nB
  rw [h.vl hK ht]
  unfold nwC at hk
  have ec : Int32.ofNat 5 = nI 5 := rfl
  have fin : ∀ F1 : M2, F1 = (if idx (L 61) told 5 (val t) = -1 then F else tf F 2 t) → wj_X2_needNew_nB_26 K F1 L told (nI t) := fun F1 e1 => by
    subst e1
    unfold wj_X2_needNew_nB_26
    rw [ec]
    refine And.intro (fun c => ?_) (fun c => c_tell ?_)
    · rw [if_pos c] at hk
      exact hk
    · rw [if_neg c] at hk
      exact hk
  refine c_indexOf_nB (And.intro (fun c => fin F (if_pos c).symm) (fun c => c_tell (fin _ (if_neg c).symm)))
theorem c_new_nS {K : M2 → L2 → Prop} (h : SC κ m val F L p) (hK : KIN κ m) {told : Int32} {t : Nat} (ht : t ≤ m) (hk : K (nwC (idx (L 62) told 4 (val t)) told 4 t F) L) : wp_X2_needNew_nS F L told (nI t) K := by
  unfold wp_X2_needNew_nS
  rw [h.vl hK ht]
  unfold nwC at hk
  have ec : Int32.ofNat 4 = nI 4 := rfl
  have fin : ∀ F1 : M2, F1 = (if idx (L 62) told 4 (val t) = -1 then F else tf F 2 t) → wj_X2_needNew_nS_26 K F1 L told (nI t) := fun F1 e1 => by
    subst e1
    unfold wj_X2_needNew_nS_26
    rw [ec]
    refine And.intro (fun c => ?_) (fun c => c_tell ?_)
    · rw [if_pos c] at hk
      exact hk
    · rw [if_neg c] at hk
      exact hk
  refine c_indexOf_nS (And.intro (fun c => fin F (if_pos c).symm) (fun c => c_tell (fin _ (if_neg c).symm)))
theorem c_new_nL {K : M2 → L2 → Prop} (h : SC κ m val F L p) (hK : KIN κ m) {told : Int32} {t : Nat} (ht : t ≤ m) (hk : K (nwC (idx (L 63) told 6 (val t)) told 6 t F) L) : wp_X2_needNew_nL F L told (nI t) K := by
  unfold wp_X2_needNew_nL
  rw [h.vl hK ht]
  unfold nwC at hk
  have ec : Int32.ofNat 6 = nI 6 := rfl
  have fin : ∀ F1 : M2, F1 = (if idx (L 63) told 6 (val t) = -1 then F else tf F 2 t) → wj_X2_needNew_nL_26 K F1 L told (nI t) := fun F1 e1 => by
    subst e1
    unfold wj_X2_needNew_nL_26
    rw [ec]
    refine And.intro (fun c => ?_) (fun c => c_tell ?_)
    · rw [if_pos c] at hk
      exact hk
    · rw [if_neg c] at hk
      exact hk
  refine c_indexOf_nL (And.intro (fun c => fin F (if_pos c).symm) (fun c => c_tell (fin _ (if_neg c).symm)))
theorem c_new_nO {K : M2 → L2 → Prop} (h : SC κ m val F L p) (hK : KIN κ m) {told : Int32} {t : Nat} (ht : t ≤ m) (hk : K (nwC (idx (L 64) told 8 (val t)) told 8 t F) L) : wp_X2_needNew_nO F L told (nI t) K := by
  unfold wp_X2_needNew_nO
  rw [h.vl hK ht]
  unfold nwC at hk
  have ec : Int32.ofNat 8 = nI 8 := rfl
  have fin : ∀ F1 : M2, F1 = (if idx (L 64) told 8 (val t) = -1 then F else tf F 2 t) → wj_X2_needNew_nO_26 K F1 L told (nI t) := fun F1 e1 => by
    subst e1
    unfold wj_X2_needNew_nO_26
    rw [ec]
    refine And.intro (fun c => ?_) (fun c => c_tell ?_)
    · rw [if_pos c] at hk
      exact hk
    · rw [if_neg c] at hk
      exact hk
  refine c_indexOf_nO (And.intro (fun c => fin F (if_pos c).symm) (fun c => c_tell (fin _ (if_neg c).symm)))
theorem c_addBore {K : M2 → L2 → Prop} {kb np n : Nat} {x y : Int32} (hkb : kb < 5) (hnp : np + n ≤ 60) (h20 : F 20 0 = nI kb) (h21 : F 21 0 = nI np) (hx : x = nI n) (h : K (up2 (dgG 28 21 (nI kb) n (st2 (st2 (st2 F 25 kb x) 26 kb y) 27 kb (nI np))) 20 (fun _ => nI (kb + 1))) L) : wp_X1_addBore F L x y K := by
  subst hx
  have loop : ∀ (d j f : Nat) (G : M2) (np' : Nat), j + d = n → d < f → G 20 0 = nI kb → G 21 0 = nI np' → np' + d ≤ 60 → K (up2 (dgG 28 21 (nI kb) d G) 20 (fun _ => nI (kb + 1))) L → wl_X1_addBore_41 K f G L (nI n) (nI j) := by
    intro d
    induction d with
    | zero =>
      intro j f G np' hj hf g20 g21 hb h'
      obtain ⟨f, rfl, _⟩ := fuel hf
      have e : j = n := by omega
      subst e
      refine And.intro (fun _ F1 e1 => ?_) (fun c => absurd (nI_le (Nat.le_refl _) (by omega)) c)
      rw [g20, nI_1] at e1
      subst e1
      exact h'
    | succ d ih =>
      intro j f G np' hj hf g20 g21 hb h'
      obtain ⟨f, rfl, _⟩ := fuel hf
      refine And.intro (fun c => absurd c (nI_ge (by omega) (by omega))) (fun _ => And.intro (fun c => absurd c ?_) (fun _ F1 e1 F2 e2 v ev => ?_))
      · rw [g21]
        have : (60 : Int32) = nI 60 := rfl
        rw [this, le_nI (by omega) (by omega)]
        omega
      · subst ev
        rw [nI_1]
        rw [g21, g20, put60 (by omega)] at e1
        have e21 : F1 21 0 = nI np' := by
          rw [e1, st2_n _ _ _ (by decide), g21]
        rw [e21, nI_1] at e2
        refine ih (j + 1) f F2 (np' + 1) (by omega) (by omega) ?_ ?_ (by omega) ?_
        · rw [e2, up2_n _ _ (by decide), e1, st2_n _ _ _ (by decide), g20]
        · rw [e2, up2_s]
        · have : F2 = up2 (st2 G 28 (G 21 0).toInt.toNat (nI kb)) 21 (fun _ => G 21 0 + 1) := by
            rw [e2, e1, g21, tn_nI (by omega), nI_1]
          rw [this]
          exact h'
  intro F1 e1 F2 e2 F3 e3
  have p5 : ∀ (G : M2) (k : Nat) (z : Int32), up2 G k (putv (G k) 5 (nI kb) z) = st2 G k kb z := fun G k z => by
    rw [putv_nI (by omega) (by decide)]
    rfl
  rw [h20, p5] at e1
  have a20 : F1 20 0 = nI kb := by rw [e1, st2_n _ _ _ (by decide), h20]
  rw [a20, p5] at e2
  have b20 : F2 20 0 = nI kb := by rw [e2, st2_n _ _ _ (by decide), a20]
  have b21 : F2 21 0 = nI np := by rw [e2, st2_n _ _ _ (by decide), e1, st2_n _ _ _ (by decide), h21]
  rw [b20, b21, p5] at e3
  subst e3 e2 e1
  refine loop n 0 fK _ np (by omega) (by rw [fK_eq]; omega) ?_ ?_ (by omega) h
  · rw [st2_n _ _ _ (by decide), b20]
  · rw [st2_n _ _ _ (by decide), b21]
theorem c_addShaft {K : M2 → L2 → Prop} {c : Nat} {x y : Int32} (hc : c < 4) (hF : F 22 0 = nI c) (h : K (up2 (st2 (st2 F 29 c x) 30 c y) 22 (fun _ => nI (c + 1))) L) : wp_X1_addShaft F L x y K := by
  intro F1 e1 F2 e2 F3 e3
  have p5 : ∀ (G : M2) (k : Nat) (z : Int32), up2 G k (putv (G k) 4 (nI c) z) = st2 G k c z := fun G k z => by
    rw [putv_nI (by omega) (by decide)]
    rfl
  rw [hF, p5] at e1
  have a20 : F1 22 0 = nI c := by rw [e1, st2_n _ _ _ (by decide), hF]
  rw [a20, p5] at e2
  have b20 : F2 22 0 = nI c := by rw [e2, st2_n _ _ _ (by decide), a20]
  rw [b20, nI_1] at e3
  subst e3 e2 e1
  exact h
theorem c_addLegger {K : M2 → L2 → Prop} {c : Nat} {x y : Int32} (hc : c < 6) (hF : F 23 0 = nI c) (h : K (up2 (st2 (st2 F 31 c x) 32 c y) 23 (fun _ => nI (c + 1))) L) : wp_X1_addLegger F L x y K := by
  intro F1 e1 F2 e2 F3 e3
  have p5 : ∀ (G : M2) (k : Nat) (z : Int32), up2 G k (putv (G k) 6 (nI c) z) = st2 G k c z := fun G k z => by
    rw [putv_nI (by omega) (by decide)]
    rfl
  rw [hF, p5] at e1
  have a20 : F1 23 0 = nI c := by rw [e1, st2_n _ _ _ (by decide), hF]
  rw [a20, p5] at e2
  have b20 : F2 23 0 = nI c := by rw [e2, st2_n _ _ _ (by decide), a20]
  rw [b20, nI_1] at e3
  subst e3 e2 e1
  exact h
theorem c_addBoat {K : M2 → L2 → Prop} {c : Nat} {x1 x2 x3 x4 x5 : Int32} (hc : c < 8) (hF : F 24 0 = nI c) (h : K (up2 (st2 (st2 (st2 (st2 (st2 F 33 c x1) 34 c x2) 35 c x3) 36 c x4) 37 c x5) 24 (fun _ => nI (c + 1))) L) : wp_X1_addBoat F L x1 x2 x3 x4 x5 K := by
  intro F1 e1 F2 e2 F3 e3 F4 e4 F5 e5 F6 e6
  rw [hF, put8 hc] at e1
  have a1 : F1 24 0 = nI c := by rw [e1, st2_n _ _ _ (by decide), hF]
  rw [a1, put8 hc] at e2
  have a2 : F2 24 0 = nI c := by rw [e2, st2_n _ _ _ (by decide), a1]
  rw [a2, put8 hc] at e3
  have a3 : F3 24 0 = nI c := by rw [e3, st2_n _ _ _ (by decide), a2]
  rw [a3, put8 hc] at e4
  have a4 : F4 24 0 = nI c := by rw [e4, st2_n _ _ _ (by decide), a3]
  rw [a4, put8 hc] at e5
  have a5 : F5 24 0 = nI c := by rw [e5, st2_n _ _ _ (by decide), a4]
  rw [a5, nI_1] at e6
  subst e6 e5 e4 e3 e2 e1
  exact h
theorem c_addOrder {K : M2 → L2 → Prop} {c e : Nat} {x1 x2 x3 : Int32} (hc : c < 16) (hF : F 40 0 = nI c) (hE : F 45 0 = nI e) (h : K (up2 (st2 (st2 (st2 (st2 F 41 c x1) 42 c x2) 43 c x3) 44 c (nI e)) 40 (fun _ => nI (c + 1))) L) : wp_X0_add F L x1 x2 x3 K := by
  intro F1 e1 F2 e2 F3 e3 F4 e4 F5 e5
  have p5 : ∀ (G : M2) (k : Nat) (z : Int32), up2 G k (putv (G k) 16 (nI c) z) = st2 G k c z := fun G k z => by
    rw [putv_nI (by omega) (by decide)]
    rfl
  rw [hF, p5] at e1
  have a1 : F1 40 0 = nI c := by rw [e1, st2_n _ _ _ (by decide), hF]
  rw [a1, p5] at e2
  have a2 : F2 40 0 = nI c := by rw [e2, st2_n _ _ _ (by decide), a1]
  rw [a2, p5] at e3
  have a3 : F3 40 0 = nI c := by rw [e3, st2_n _ _ _ (by decide), a2]
  have a3' : F3 45 0 = nI e := by rw [e3, st2_n _ _ _ (by decide), e2, st2_n _ _ _ (by decide), e1, st2_n _ _ _ (by decide), hE]
  rw [a3, a3', p5] at e4
  have a4 : F4 40 0 = nI c := by rw [e4, st2_n _ _ _ (by decide), a3]
  rw [a4, nI_1] at e5
  subst e5 e4 e3 e2 e1
  exact h
end SEMA
