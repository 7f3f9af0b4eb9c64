/-! ===== the second pass of the reference ===== -/
section SECOND
variable {κ : Nat → Int32} {m : Nat} {val : Nat → Int64} {N0 : M2} {ρ : Nat → Int32}
/-- whether two names are the same -/
def SAM (κ : Nat → Int32) (m : Nat) (val : Nat → Int64) (N0 : M2) : Prop := ∀ i j, i ≤ m → j ≤ m → κ i = 40 → κ j = 40 → ∀ (N P : M2) (K : Int32 → Prop), N 221 = N0 221 → N 225 = N0 225 → N 226 = N0 226 → (val i = val j → K 1) → (¬ val i = val j → K 0) → wp_X8_isSame N P (nI i) (nI j) K
/-- the rows of tokens that stay -/
def SRW (ρ : Nat → Int32) (N0 N : M2) : Prop := N 221 = N0 221 ∧ N 224 = N0 224 ∧ N 225 = N0 225 ∧ N 226 = N0 226 ∧ N 227 = ρ
def SINV (ρ : Nat → Int32) (V : M2) (t : Nat) : Prop := (V 240 0 = nI (cnt ρ 1 t) ∧ cnt ρ 1 t ≤ 5) ∧ (V 246 0 = nI (cnt ρ 2 t) ∧ cnt ρ 2 t ≤ 4) ∧ (V 249 0 = nI (cnt ρ 3 t) ∧ cnt ρ 3 t ≤ 6) ∧ (V 252 0 = nI (cnt ρ 4 t) ∧ cnt ρ 4 t ≤ 8) ∧ (V 257 0 = nI (cnt ρ 5 t + cnt ρ 6 t) ∧ cnt ρ 5 t + cnt ρ 6 t ≤ 16) ∧ ∃ np, V 241 0 = nI np ∧ np ≤ 12 * cnt ρ 7 t
theorem l_told {K : Int32 → Prop} {N P : M2} (hm : m ≤ 400) (hS : SAM κ m val N0) (hR : SRW ρ N0 N) {t : Nat} (ht : t ≤ m) (hkt : κ t = 40) {as : Int32} (hka : ∀ k, k < t → ρ k = as → κ k = 40) : ∀ (d k c f : Nat), k + d = t → d < f → K (tldF val ρ as t d k c) → wl_X8_told_5 N P K f (nI t) as (nI c) (nI k)
  | 0, k, c, f, hd, hf, h => by
    obtain ⟨f, rfl, _⟩ := fuel hf
    refine And.intro (fun _ => h) (fun z => absurd (nI_le (by omega) (by omega)) z)
  | d + 1, k, c, f, hd, hf, h => by
    obtain ⟨f, rfl, _⟩ := fuel (show 0 < f by omega)
    unfold tldF at h
    refine And.intro (fun z => absurd z (nI_ge (by omega) (by omega))) (fun _ => ⟨inb_nI (by omega) (by decide), ?_⟩)
    rw [tn_nI (by omega), hR.2.2.2.2]
    refine And.intro (fun c1 => ?_) (fun c1 v4 e4 => ?_)
    · rw [if_pos c1] at h
      refine hS k t (by omega) ht (hka k (by omega) c1) hkt N P _ hR.1 hR.2.2.1 hR.2.2.2.1 (fun e => ?_) (fun e => ?_)
      · rw [if_pos e] at h
        exact And.intro (fun z => absurd z (by decide)) (fun _ => h)
      · rw [if_neg e] at h
        refine And.intro (fun _ v3 e3 v4 e4 => ?_) (fun z => absurd rfl z)
        rw [nI_1] at e3 e4
        subst e3 e4
        exact l_told hm hS hR ht hkt hka d (k + 1) (c + 1) f (by omega) (by omega) h
    · rw [if_neg c1] at h
      rw [nI_1] at e4
      subst e4
      exact l_told hm hS hR ht hkt hka d (k + 1) c f (by omega) (by omega) h
theorem r_told {K : Int32 → Prop} {N P : M2} (hm : m ≤ 400) (hS : SAM κ m val N0) (hR : SRW ρ N0 N) {t : Nat} (ht : t ≤ m) (hkt : κ t = 40) {as : Int32} (hka : ∀ k, k < t → ρ k = as → κ k = 40) (h : K (tld val ρ as t t)) : wp_X8_told N P (nI t) as K :=
  l_told hm hS hR ht hkt hka t 0 0 fK (by omega) (by rw [fK_eq]; omega) h
theorem r_isIn {x lo hi : Int32} {K : Int32 → Prop} (h1 : (lo ≤ x ∧ x ≤ hi) → K 1) (h0 : ¬ (lo ≤ x ∧ x ≤ hi) → K 0) : wp_X8_isIn x lo hi K := by
  refine And.intro (fun c => h0 (fun z => Int32.not_lt.mpr z.1 c)) (fun c => And.intro (fun c2 => h0 (fun z => Int32.not_lt.mpr z.2 c2)) (fun c2 => h1 ⟨Int32.not_lt.mp c, Int32.not_lt.mp c2⟩))
theorem r_range {K : Int32 → Prop} {N P : M2} (hNum : NUM κ m val N0) (hR : SRW ρ N0 N) {t : Nat} (ht : t ≤ m) (hkt : κ t = 41) {lo hi : Int32} (h : K (rngE (val t).toInt32 lo hi)) : wp_X8_inRange N P (nI t) lo hi K := by
  refine hNum t ht hkt N P _ hR.1 hR.2.2.1 hR.2.2.2.1 (r_isIn (fun c => ?_) (fun c => ?_))
  · refine And.intro (fun z => absurd z (by decide)) (fun _ => ?_)
    unfold rngE at h
    rw [if_pos c] at h
    exact h
  · refine And.intro (fun _ => ?_) (fun z => absurd rfl z)
    unfold rngE at h
    rw [if_neg c] at h
    exact h
theorem r_new {K : Int32 → Prop} {N P : M2} (hm : m ≤ 400) (hS : SAM κ m val N0) (hR : SRW ρ N0 N) {t : Nat} (ht : t ≤ m) (hkt : κ t = 40) (hka : ∀ k, k < t → ρ k = ρ t → κ k = 40) {x y : Int32} (h : K (newE (tld val ρ (ρ t) t t) x y)) : wp_X8_isNew N P (nI t) x y K := by
  refine ⟨inb_nI (by omega) (by decide), ?_⟩
  rw [tn_nI (by omega), hR.2.2.2.2]
  refine r_told hm hS hR ht hkt hka ?_
  unfold newE at h
  refine And.intro (fun c => And.intro (fun c2 => ?_) (fun c2 => ?_)) (fun c => ?_)
  · rw [if_neg (fun z => z c), if_neg c2] at h
    exact h
  · rw [if_neg (fun z => z c), if_pos c2] at h
    exact h
  · rw [if_pos c] at h
    exact h
def mea (t : Nat) (τ : Int32) (N : M2) : M2 := up2 N 228 (upd (N 228) t τ)
theorem r_look {K : Int32 → M2 → M2 → Prop} {N P : M2} (hm : m ≤ 400) (hS : SAM κ m val N0) (hR : SRW ρ N0 N) {t : Nat} (ht : t ≤ m) (hkt : κ t = 40) {as : Int32} (hka : ∀ k, k < t → ρ k = as → κ k = 40) (h : K (lookE (tld val ρ as t t)) (mea t (tld val ρ as t t) N) P) : wp_X8_look N P (nI t) as K := by
  refine r_told hm hS hR ht hkt hka ⟨inb_nI (by omega) (by decide), fun N1 e1 => ⟨inb_nI (by omega) (by decide), ?_⟩⟩
  rw [tn_nI (by omega)] at e1 ⊢
  have e1 : N1 = mea t (tld val ρ as t t) N := e1
  subst e1
  have e228 : mea t (tld val ρ as t t) N 228 t = tld val ρ as t t := by
    unfold mea
    rw [up2_s, upd_s]
  rw [e228]
  unfold lookE at h
  refine And.intro (fun c => ?_) (fun c => ?_)
  · rw [if_neg c] at h
    exact h
  · rw [if_pos c] at h
    exact h
theorem r_order {K : Int32 → M2 → M2 → Prop} {N P : M2} {c : Nat} (h257 : P 257 0 = nI c) (hc : c ≤ 16) {sort : Int32} (h : K (if P 257 0 = 16 then (4, P) else (0, ordF P sort) : Int32 × M2).1 N (if P 257 0 = 16 then (4, P) else (0, ordF P sort) : Int32 × M2).2) : wp_X8_order N P sort K := by
  refine And.intro (fun c1 => ⟨?_, fun P1 e1 P2 e2 => ?_⟩) (fun c1 => ?_)
  · rw [h257] at c1 ⊢
    refine inb_nI ?_ (by decide)
    rcases Nat.lt_or_ge c 16 with g | g
    · exact g
    · exact absurd (show nI c = 16 by rw [show c = 16 by omega]; rfl) c1
  · rw [if_neg c1] at h
    have : P2 = ordF P sort := by
      rw [e2, e1]
      unfold ordF st2
      rw [up2_n _ _ (by decide : (257 : Nat) ≠ 259)]
    rw [this]
    exact h
  · rw [if_pos c1] at h
    exact h
theorem r_dugL {K : Int32 → M2 → M2 → Prop} {N : M2} {k v : Nat} (hk : k < 5) (hv : v ≤ 12) : ∀ (d j f np : Nat) (P : M2), j + d = v → d < f → P 242 k = nI v → P 241 0 = nI np → np + d ≤ 60 → K 0 N (digF (nI k) d P) → wl_X8_dug_54 K f N P (nI k) (nI j)
  | 0, j, f, np, P, hj, hf, h242, h241, hb, h => by
    obtain ⟨f, rfl, _⟩ := fuel hf
    refine ⟨inb_nI (by omega) (by decide), ?_⟩
    rw [tn_nI (by omega), h242]
    exact And.intro (fun _ => h) (fun z => absurd (nI_le (by omega) (by omega)) z)
  | d + 1, j, f, np, P, hj, hf, h242, h241, hb, h => by
    obtain ⟨f, rfl, _⟩ := fuel (show 0 < f by omega)
    refine ⟨inb_nI (by omega) (by decide), ?_⟩
    rw [tn_nI (by omega), h242]
    refine And.intro (fun z => absurd z (nI_ge (by omega) (by omega))) (fun _ => ⟨by rw [h241]; exact inb_nI (by omega) (by decide), fun P1 e1 P2 e2 v5 e5 => ?_⟩)
    rw [nI_1] at e5
    subst e5
    have eP : P2 = up2 (st2 P 245 (P 241 0).toInt.toNat (nI k)) 241 (fun _ => P 241 0 + 1) := by
      rw [e2, e1]
      unfold st2
      rw [up2_n _ _ (by decide : (241 : Nat) ≠ 245)]
    have h : K 0 N (digF (nI k) d P2) := by rw [eP]; exact h
    refine r_dugL hk hv d (j + 1) f (np + 1) P2 (by omega) (by omega) ?_ ?_ (by omega) h
    · rw [eP, up2_n _ _ (by decide), st2_n _ _ _ (by decide), h242]
    · rw [eP, up2_s, h241, nI_1]
theorem r_dug {K : Int32 → M2 → M2 → Prop} {N P : M2} (hNum : NUM κ m val N0) (hNV : NUMV κ m val) (hR : SRW ρ N0 N) {t : Nat} (ht : t ≤ m) (hkt : κ t = 41) {k np : Nat} (hk : k < 5) (h240 : P 240 0 = nI (k + 1)) (h241 : P 241 0 = nI np) (hb : np ≤ 48) (h : K (rngE (val t).toInt32 1 12) N (if rngE (val t).toInt32 1 12 = 0 then dugF P (val t).toInt32 else P)) : wp_X8_dug N P (nI t) K := by
  intro v3 e3
  rw [h240, nI_pred] at e3
  subst e3
  refine r_range hNum hR ht hkt ?_
  unfold rngE at h
  unfold rngE
  by_cases c : (1 : Int32) ≤ (val t).toInt32 ∧ (val t).toInt32 ≤ 12
  · rw [if_pos c] at h ⊢
    rw [if_pos rfl] at h
    refine And.intro (fun _ => hNum t ht hkt N P _ hR.1 hR.2.2.1 hR.2.2.2.1 ⟨inb_nI (by omega) (by decide), fun P1 e1 => ⟨inb_nI (by omega) (by decide), fun P2 e2 => ?_⟩⟩) (fun z => absurd (by decide) z)
    rw [tn_nI (by omega)] at e1 e2
    obtain ⟨v, hv, ev⟩ := hNV t ht hkt
    obtain ⟨b1, b2⟩ := rng_nat (lo := 1) (hi := 12) ev hv (by decide) (by decide) c
    have eP : P2 = st2 (st2 P 242 k (val t).toInt32) 244 k (P 241 0) := by
      rw [e2, e1]
      unfold st2
      rw [up2_n _ _ (by decide : (241 : Nat) ≠ 242)]
    have ed : dugF P (val t).toInt32 = digF (nI k) v P2 := by
      unfold dugF lastI
      rw [h240, nI_pred, tn_nI (by omega), eP, ev, tn_nI (by omega)]
    rw [ed] at h
    refine r_dugL hk b2 v 0 fK np P2 (by omega) (by rw [fK_eq]; omega) ?_ ?_ (by omega) h
    · rw [eP, st2_n _ _ _ (by decide), st2_k, if_pos rfl, ev]
    · rw [eP, st2_n _ _ _ (by decide), st2_n _ _ _ (by decide), h241]
  · rw [if_neg c] at h ⊢
    rw [if_neg (by decide)] at h
    exact And.intro (fun z => absurd z (by decide)) (fun _ => h)
theorem SRW.mea {N : M2} (h : SRW ρ N0 N) (t : Nat) (τ : Int32) : SRW ρ N0 (mea t τ N) := by
  have e : ∀ k, k ≠ 228 → up2 N 228 (upd (N 228) t τ) k = N k := fun k hk => up2_n _ _ hk
  unfold SRW
  show (up2 N 228 (upd (N 228) t τ)) 221 = N0 221 ∧ (up2 N 228 (upd (N 228) t τ)) 224 = N0 224 ∧ (up2 N 228 (upd (N 228) t τ)) 225 = N0 225 ∧ (up2 N 228 (upd (N 228) t τ)) 226 = N0 226 ∧ (up2 N 228 (upd (N 228) t τ)) 227 = ρ
  rw [e 221 (by decide), e 224 (by decide), e 225 (by decide), e 226 (by decide), e 227 (by decide)]
  exact h
theorem r_crewed {K : Int32 → M2 → M2 → Prop} {N P : M2} (hm : m ≤ 400) (hS : SAM κ m val N0) (hR : SRW ρ N0 N) {t : Nat} (ht : t ≤ m) (hkt : κ t = 40) (hka : ∀ k, k < t → ρ k = 3 → κ k = 40) {b : Nat} (hb : b < 8) (h252 : P 252 0 = nI (b + 1)) {pl : Nat} (hpl : pl = 0 ∨ pl = 1) {x2 : Int32} (hx : x2 = nI pl) (h : K (if pl = 1 ∧ lookE (tld val ρ 3 t t) = 0 ∧ crewF P pl (tld val ρ 3 t t) (310 + lastI P 252) 0 = crewF P pl (tld val ρ 3 t t) (310 + lastI P 252) 1 then 5 else lookE (tld val ρ 3 t t)) (mea t (tld val ρ 3 t t) N) (crewF P pl (tld val ρ 3 t t))) : wp_X8_crewed N P (nI t) x2 K := by
  subst hx
  refine r_look hm hS hR ht hkt hka ?_
  have hli : lastI P 252 = b := by
    unfold lastI
    rw [h252, nI_pred, tn_nI (by omega)]
  have hpl2 : pl < 2 := by omega
  rw [h252, nI_pred]
  refine ⟨inb_nI (by omega) (by decide), fun v4 e4 => ?_⟩
  subst e4
  refine ⟨inb_nI (by omega) (by decide), inb_nI (by omega) (by decide), inb_nI (by omega) (by decide), fun P1 e1 => ?_⟩
  rw [tn_nI (by omega), tn_nI (by omega), tn_nI (by omega)] at e1
  have e228 : mea t (tld val ρ 3 t t) N 228 t = tld val ρ 3 t t := by
    unfold mea
    rw [up2_s, upd_s]
  rw [e228] at e1
  have eP : P1 = crewF P pl (tld val ρ 3 t t) := by
    unfold crewF
    rw [hli]
    exact e1
  rw [hli, ← eP] at h
  rw [tn_nI (by omega)]
  have z0 : (0 : Int32).toInt.toNat = 0 := by decide
  have z1 : (1 : Int32).toInt.toNat = 1 := by decide
  rw [z0, z1]
  refine And.intro (fun c => ?_) (fun c => And.intro (fun c2 => ?_) (fun c2 => ⟨inb_nI (by omega) (by decide), by decide, inb_nI (by omega) (by decide), by decide, And.intro (fun c3 => ?_) (fun c3 => ?_)⟩))
  · rw [if_neg (fun z => c z.2.1)] at h
    exact h
  · rw [if_neg (fun z => c2 (by rw [z.1]; rfl))] at h
    exact h
  · rw [if_neg (fun z => c3 z.2.2)] at h
    exact h
  · have : pl = 1 := by
      rcases hpl with e | e
      · rw [e] at c2
        exact absurd c2 (by decide)
      · exact e
    rw [if_pos ⟨this, c, c3⟩] at h
    exact h
theorem r_endOf {K : Int32 → Prop} {N P : M2} (hR : SRW ρ N0 N) {t : Nat} (ht : t ≤ 400) (hN : N0 224 t = κ t) (h : K (endV (κ t))) : wp_X8_endOf N P (nI t) K := by
  refine ⟨inb_nI (by omega) (by decide), ?_⟩
  rw [tn_nI (by omega), hR.2.1, hN]
  unfold endV at h
  refine And.intro (fun c => ?_) (fun c => ?_)
  · rw [if_neg c] at h
    exact h
  · rw [if_pos c] at h
    exact h
/-! the roles ahead, counted -/
theorem WFR.c71 {p : Nat} (h : WFR κ ρ p) : ∀ t, t + 2 ≤ p → cnt ρ 7 (t + 2) ≤ cnt ρ 1 t := by
  intro t
  induction t with
  | zero =>
    intro hp
    have n7 : ∀ i, i < 2 → ¬ ρ i = 7 := fun i hi z => by
      have := (h i (by omega)).2.1
      rw [z] at this
      have e : rolD 7 = 2 := by decide
      omega
    have : cnt ρ 7 (0 + 2) = cnt ρ 7 0 := cnt_more 2 (fun i _ h2 => n7 i (by omega))
    rw [this]
    exact Nat.zero_le _
  | succ t ih =>
    intro hp
    have h1 := ih (by omega)
    have e1 : cnt ρ 7 (t + 1 + 2) = cnt ρ 7 (t + 2) + (if ρ (t + 2) = 7 then 1 else 0) := rfl
    have e2 : cnt ρ 1 (t + 1) = cnt ρ 1 t + (if ρ t = 1 then 1 else 0) := rfl
    rw [e1, e2]
    by_cases c : ρ (t + 2) = 7
    · have hl := (h (t + 2) (by omega)).2.2.1
      rw [c] at hl
      have hl : ρ (t + 2 - 2) = 1 := hl
      rw [show t + 2 - 2 = t by omega] at hl
      rw [if_pos c, if_pos hl]
      omega
    · rw [if_neg c]
      omega
theorem WFR.a7 {p t : Nat} (h : WFR κ ρ p) (ht : t < p) (h7 : ρ t = 7) : cnt ρ 7 t < cnt ρ 1 t := by
  have hl := h t ht
  have d2 := hl.2.1
  have hb := hl.2.2.1
  rw [h7] at d2 hb
  have d2 : 2 ≤ t := d2
  have hb : ρ (t - 2) = 1 := hb
  have h1 := h.c71 (t - 2) (by omega)
  rw [show t - 2 + 2 = t by omega] at h1
  have h2 := cnt_lt (ρ := ρ) (as := 1) (show t - 2 < t by omega) hb
  omega
theorem LOC.ahead {t : Nat} (h : LOC κ ρ t) {r as : Int32} (hr : ρ t = r) (hD : 0 < rolD r) (hB : rolB r = as) : 0 < cnt ρ as t := by
  have d := h.2.1
  have b := h.2.2.1
  rw [hr] at d b
  rw [hB] at b
  have := cnt_lt (ρ := ρ) (as := as) (show t - rolD r < t by omega) b
  omega
theorem LOC.kind {t : Nat} (h : LOC κ ρ t) {r k : Int32} (hr : ρ t = r) (hk : rolK r = k) (hn : ¬ k = 0) : κ t = k := by
  have g := h.1
  rw [hr, hk] at g
  exact g.resolve_left hn
theorem WFR.kind {p t : Nat} (h : WFR κ ρ p) (hp : t ≤ p) {as k0 : Int32} (hk : rolK as = k0) (hn : ¬ k0 = 0) : ∀ k, k < t → ρ k = as → κ k = k0 := fun k hkt hr => (h k (by omega)).kind hr hk hn
def meaF (val : Nat → Int64) (ρ : Nat → Int32) (t : Nat) (N : M2) : M2 := if ρ t = 16 ∨ ρ t = 17 ∨ ρ t = 19 ∨ ρ t = 20 then mea t (tld val ρ 3 t t) N else if ρ t = 21 then mea t (tld val ρ 4 t t) N else N
theorem SRW.meaG {N : M2} (h : SRW ρ N0 N) (t : Nat) : SRW ρ N0 (meaF val ρ t N) := by
  unfold meaF
  split
  · exact h.mea _ _
  · split
    · exact h.mea _ _
    · exact h
theorem r_errorOf {K : Int32 → M2 → M2 → Prop} {N P : M2} (hm : m ≤ 400) (hNum : NUM κ m val N0) (hNV : NUMV κ m val) (hS : SAM κ m val N0) (hN : ∀ i, i ≤ m → N0 224 i = κ i) (hR : SRW ρ N0 N) {p t : Nat} (hp : p ≤ m) (ht : t < p) (hW : WFR κ ρ p) (hI : SINV ρ P t) (h : K (erF κ val ρ t P).1 (meaF val ρ t N) (erF κ val ρ t P).2) : wp_X8_errorOf N P (nI t) K := by
  have hL := hW t ht
  have htm : t ≤ m := by omega
  obtain ⟨⟨i1, b1⟩, ⟨i2, b2⟩, ⟨i3, b3⟩, ⟨i4, b4⟩, ⟨i5, b5⟩, np, i6, b6⟩ := hI
  refine ⟨inb_nI (by omega) (by decide), ?_⟩
  rw [tn_nI (by omega), hR.2.2.2.2]
  have inT : inb (nI t) 401 := inb_nI (by omega) (by decide)
  rcases hL.2.2.2 with hr | hr | hr | hr | hr | hr | hr | hr | hr | hr | hr | hr | hr | hr | hr | hr | hr | hr | hr | hr | hr | hr
  · -- role 0
    have em : meaF val ρ t N = N := by unfold meaF; rw [hr, if_neg (by decide), if_neg (by decide)]
    rw [em] at h
    rw [erF_0 hr] at h
    rw [hr]
    refine ⟨fun z => absurd z (by decide), fun z => absurd z (by decide), fun z => absurd z (by decide), fun z => absurd z (by decide), fun z => absurd z (by decide), fun z => absurd z (by decide), fun z => absurd z (by decide), fun z => absurd z (by decide), fun z => absurd z (by decide), fun z => absurd z (by decide), fun z => absurd z (by decide), fun z => absurd z (by decide), fun z => absurd z (by decide), fun z1 z2 z3 z4 z5 z6 z14 z16 z17 z18 z19 z20 z21 => ?_⟩
    refine ⟨inT, ?_⟩
    rw [tn_nI (by omega), hR.2.2.2.2, hr]
    exact ⟨fun z => absurd z (by decide), fun z => absurd z (by decide), fun z => absurd z (by decide), fun z => absurd z (by decide), fun z => absurd z (by decide), fun z => absurd z (by decide), fun z => absurd z (by decide), fun z => absurd z (by decide), fun z7 z8 z9 z10 z11 z12 z13 z15 => h⟩
  · -- role 1
    have em : meaF val ρ t N = N := by unfold meaF; rw [hr, if_neg (by decide), if_neg (by decide)]
    rw [em] at h
    rw [erF_1 hr] at h
    have hnew : ∀ (K1 : Int32 → Prop), K1 (newE (tld val ρ 1 t t) (P 240 0) 5) → wp_X8_isNew N P (nI t) (P 240 0) 5 K1 := fun K1 hk => r_new hm hS hR htm (hL.kind hr (by decide) (by decide)) (by rw [hr]; exact hW.kind (by omega) (by decide) (by decide)) (by rw [hr]; exact hk)
    rw [hr]
    refine ⟨fun _ => hnew _ ?_, fun z => absurd z (by decide), fun z => absurd z (by decide), fun z => absurd z (by decide), fun z => absurd z (by decide), fun z => absurd z (by decide), fun z => absurd z (by decide), fun z => absurd z (by decide), fun z => absurd z (by decide), fun z => absurd z (by decide), fun z => absurd z (by decide), fun z => absurd z (by decide), fun z => absurd z (by decide), fun z1 z2 z3 z4 z5 z6 z14 z16 z17 z18 z19 z20 z21 => absurd rfl z1⟩
    dsimp only at h
    unfold bump at h
    refine And.intro (fun c P1 e1 => ?_) (fun c P1 e1 => ?_)
    · rw [if_neg c] at h
      subst e1
      exact h
    · rw [if_pos c] at h
      subst e1
      exact h
  · -- role 2
    have em : meaF val ρ t N = N := by unfold meaF; rw [hr, if_neg (by decide), if_neg (by decide)]
    rw [em] at h
    rw [erF_2 hr] at h
    have hnew : ∀ (K1 : Int32 → Prop), K1 (newE (tld val ρ 2 t t) (P 246 0) 4) → wp_X8_isNew N P (nI t) (P 246 0) 4 K1 := fun K1 hk => r_new hm hS hR htm (hL.kind hr (by decide) (by decide)) (by rw [hr]; exact hW.kind (by omega) (by decide) (by decide)) (by rw [hr]; exact hk)
    rw [hr]
    refine ⟨fun z => absurd z (by decide), fun _ => hnew _ ?_, fun z => absurd z (by decide), fun z => absurd z (by decide), fun z => absurd z (by decide), fun z => absurd z (by decide), fun z => absurd z (by decide), fun z => absurd z (by decide), fun z => absurd z (by decide), fun z => absurd z (by decide), fun z => absurd z (by decide), fun z => absurd z (by decide), fun z => absurd z (by decide), fun z1 z2 z3 z4 z5 z6 z14 z16 z17 z18 z19 z20 z21 => absurd rfl z2⟩
    dsimp only at h
    unfold bump at h
    refine And.intro (fun c P1 e1 => ?_) (fun c P1 e1 => ?_)
    · rw [if_neg c] at h
      subst e1
      exact h
    · rw [if_pos c] at h
      subst e1
      exact h
  · -- role 3
    have em : meaF val ρ t N = N := by unfold meaF; rw [hr, if_neg (by decide), if_neg (by decide)]
    rw [em] at h
    rw [erF_3 hr] at h
    have hnew : ∀ (K1 : Int32 → Prop), K1 (newE (tld val ρ 3 t t) (P 249 0) 6) → wp_X8_isNew N P (nI t) (P 249 0) 6 K1 := fun K1 hk => r_new hm hS hR htm (hL.kind hr (by decide) (by decide)) (by rw [hr]; exact hW.kind (by omega) (by decide) (by decide)) (by rw [hr]; exact hk)
    rw [hr]
    refine ⟨fun z => absurd z (by decide), fun z => absurd z (by decide), fun _ => hnew _ ?_, fun z => absurd z (by decide), fun z => absurd z (by decide), fun z => absurd z (by decide), fun z => absurd z (by decide), fun z => absurd z (by decide), fun z => absurd z (by decide), fun z => absurd z (by decide), fun z => absurd z (by decide), fun z => absurd z (by decide), fun z => absurd z (by decide), fun z1 z2 z3 z4 z5 z6 z14 z16 z17 z18 z19 z20 z21 => absurd rfl z3⟩
    dsimp only at h
    unfold bump at h
    refine And.intro (fun c P1 e1 => ?_) (fun c P1 e1 => ?_)
    · rw [if_neg c] at h
      subst e1
      exact h
    · rw [if_pos c] at h
      subst e1
      exact h
  · -- role 4
    have em : meaF val ρ t N = N := by unfold meaF; rw [hr, if_neg (by decide), if_neg (by decide)]
    rw [em] at h
    rw [erF_4 hr] at h
    have hnew : ∀ (K1 : Int32 → Prop), K1 (newE (tld val ρ 4 t t) (P 252 0) 8) → wp_X8_isNew N P (nI t) (P 252 0) 8 K1 := fun K1 hk => r_new hm hS hR htm (hL.kind hr (by decide) (by decide)) (by rw [hr]; exact hW.kind (by omega) (by decide) (by decide)) (by rw [hr]; exact hk)
    rw [hr]
    refine ⟨fun z => absurd z (by decide), fun z => absurd z (by decide), fun z => absurd z (by decide), fun _ => hnew _ ?_, fun z => absurd z (by decide), fun z => absurd z (by decide), fun z => absurd z (by decide), fun z => absurd z (by decide), fun z => absurd z (by decide), fun z => absurd z (by decide), fun z => absurd z (by decide), fun z => absurd z (by decide), fun z => absurd z (by decide), fun z1 z2 z3 z4 z5 z6 z14 z16 z17 z18 z19 z20 z21 => absurd rfl z4⟩
    dsimp only at h
    unfold bump at h
    refine And.intro (fun c P1 e1 => ?_) (fun c P1 e1 => ?_)
    · rw [if_neg c] at h
      subst e1
      exact h
    · rw [if_pos c] at h
      subst e1
      exact h
  · -- role 5
    have em : meaF val ρ t N = N := by unfold meaF; rw [hr, if_neg (by decide), if_neg (by decide)]
    rw [em] at h
    rw [erF_5 hr] at h
    rw [hr]
    refine ⟨fun z => absurd z (by decide), fun z => absurd z (by decide), fun z => absurd z (by decide), fun z => absurd z (by decide), fun _ => r_order i5 b5 ?_, fun z => absurd z (by decide), fun z => absurd z (by decide), fun z => absurd z (by decide), fun z => absurd z (by decide), fun z => absurd z (by decide), fun z => absurd z (by decide), fun z => absurd z (by decide), fun z => absurd z (by decide), fun z1 z2 z3 z4 z5 z6 z14 z16 z17 z18 z19 z20 z21 => absurd rfl z5⟩
    exact h
  · -- role 6
    have em : meaF val ρ t N = N := by unfold meaF; rw [hr, if_neg (by decide), if_neg (by decide)]
    rw [em] at h
    rw [erF_6 hr] at h
    rw [hr]
    refine ⟨fun z => absurd z (by decide), fun z => absurd z (by decide), fun z => absurd z (by decide), fun z => absurd z (by decide), fun z => absurd z (by decide), fun _ => r_order i5 b5 ?_, fun z => absurd z (by decide), fun z => absurd z (by decide), fun z => absurd z (by decide), fun z => absurd z (by decide), fun z => absurd z (by decide), fun z => absurd z (by decide), fun z => absurd z (by decide), fun z1 z2 z3 z4 z5 z6 z14 z16 z17 z18 z19 z20 z21 => absurd rfl z6⟩
    exact h
  · -- role 7
    have em : meaF val ρ t N = N := by unfold meaF; rw [hr, if_neg (by decide), if_neg (by decide)]
    rw [em] at h
    rw [erF_7 hr] at h
    rw [hr]
    refine ⟨fun z => absurd z (by decide), fun z => absurd z (by decide), fun z => absurd z (by decide), fun z => absurd z (by decide), fun z => absurd z (by decide), fun z => absurd z (by decide), fun z => absurd z (by decide), fun z => absurd z (by decide), fun z => absurd z (by decide), fun z => absurd z (by decide), fun z => absurd z (by decide), fun z => absurd z (by decide), fun z => absurd z (by decide), fun z1 z2 z3 z4 z5 z6 z14 z16 z17 z18 z19 z20 z21 => ?_⟩
    refine ⟨inT, ?_⟩
    rw [tn_nI (by omega), hR.2.2.2.2, hr]
    have hkt : κ t = 41 := hL.kind hr (by decide) (by decide)
    have h7 := hW.a7 ht hr
    obtain ⟨k, ek⟩ : ∃ k, cnt ρ 1 t = k + 1 := ⟨cnt ρ 1 t - 1, by omega⟩
    rw [ek] at i1 b1 h7
    exact ⟨fun _ => r_dug hNum hNV hR htm hkt (show k < 5 by omega) i1 i6 (by omega) h, fun z => absurd z (by decide), fun z => absurd z (by decide), fun z => absurd z (by decide), fun z => absurd z (by decide), fun z => absurd z (by decide), fun z => absurd z (by decide), fun z => absurd z (by decide), fun z7 z8 z9 z10 z11 z12 z13 z15 => absurd rfl z7⟩
  · -- role 8
    have em : meaF val ρ t N = N := by unfold meaF; rw [hr, if_neg (by decide), if_neg (by decide)]
    rw [em] at h
    rw [erF_8 hr] at h
    rw [hr]
    refine ⟨fun z => absurd z (by decide), fun z => absurd z (by decide), fun z => absurd z (by decide), fun z => absurd z (by decide), fun z => absurd z (by decide), fun z => absurd z (by decide), fun z => absurd z (by decide), fun z => absurd z (by decide), fun z => absurd z (by decide), fun z => absurd z (by decide), fun z => absurd z (by decide), fun z => absurd z (by decide), fun z => absurd z (by decide), fun z1 z2 z3 z4 z5 z6 z14 z16 z17 z18 z19 z20 z21 => ?_⟩
    refine ⟨inT, ?_⟩
    rw [tn_nI (by omega), hR.2.2.2.2, hr]
    have hkt : κ t = 41 := hL.kind hr (by decide) (by decide)
    have ha : 0 < cnt ρ 1 t := hL.ahead hr (by decide) (by decide)
    obtain ⟨b, eb⟩ : ∃ b, cnt ρ 1 t = b + 1 := ⟨cnt ρ 1 t - 1, by omega⟩
    rw [eb] at i1 b1
    have hli : lastI P 240 = b := by unfold lastI; rw [i1, nI_pred, tn_nI (by omega)]
    rw [hli] at h
    refine ⟨fun z => absurd z (by decide), fun _ => hNum t htm hkt N P _ hR.1 hR.2.2.1 hR.2.2.2.1 ⟨by rw [i1, nI_pred]; exact inb_nI (by omega) (by decide), fun P1 e1 => ?_⟩, fun z => absurd z (by decide), fun z => absurd z (by decide), fun z => absurd z (by decide), fun z => absurd z (by decide), fun z => absurd z (by decide), fun z => absurd z (by decide), fun z7 z8 z9 z10 z11 z12 z13 z15 => absurd rfl z8⟩
    rw [i1, nI_pred, tn_nI (by omega)] at e1
    subst e1
    exact r_range hNum hR htm hkt h
  · -- role 9
    have em : meaF val ρ t N = N := by unfold meaF; rw [hr, if_neg (by decide), if_neg (by decide)]
    rw [em] at h
    rw [erF_9 hr] at h
    rw [hr]
    refine ⟨fun z => absurd z (by decide), fun z => absurd z (by decide), fun z => absurd z (by decide), fun z => absurd z (by decide), fun z => absurd z (by decide), fun z => absurd z (by decide), fun z => absurd z (by decide), fun z => absurd z (by decide), fun z => absurd z (by decide), fun z => absurd z (by decide), fun z => absurd z (by decide), fun z => absurd z (by decide), fun z => absurd z (by decide), fun z1 z2 z3 z4 z5 z6 z14 z16 z17 z18 z19 z20 z21 => ?_⟩
    refine ⟨inT, ?_⟩
    rw [tn_nI (by omega), hR.2.2.2.2, hr]
    have hkt : κ t = 41 := hL.kind hr (by decide) (by decide)
    have ha : 0 < cnt ρ 2 t := hL.ahead hr (by decide) (by decide)
    obtain ⟨b, eb⟩ : ∃ b, cnt ρ 2 t = b + 1 := ⟨cnt ρ 2 t - 1, by omega⟩
    rw [eb] at i2 b2
    have hli : lastI P 246 = b := by unfold lastI; rw [i2, nI_pred, tn_nI (by omega)]
    rw [hli] at h
    refine ⟨fun z => absurd z (by decide), fun z => absurd z (by decide), fun _ => hNum t htm hkt N P _ hR.1 hR.2.2.1 hR.2.2.2.1 ⟨by rw [i2, nI_pred]; exact inb_nI (by omega) (by decide), fun P1 e1 => ?_⟩, fun z => absurd z (by decide), fun z => absurd z (by decide), fun z => absurd z (by decide), fun z => absurd z (by decide), fun z => absurd z (by decide), fun z7 z8 z9 z10 z11 z12 z13 z15 => absurd rfl z9⟩
    rw [i2, nI_pred, tn_nI (by omega)] at e1
    subst e1
    have e241 : up2 P 247 (upd (P 247) b (val t).toInt32) 241 0 = P 241 0 := by rw [up2_n _ _ (by decide)]
    rw [e241]
    exact r_range hNum hR htm hkt h
  · -- role 10
    have em : meaF val ρ t N = N := by unfold meaF; rw [hr, if_neg (by decide), if_neg (by decide)]
    rw [em] at h
    rw [erF_10 hr] at h
    rw [hr]
    refine ⟨fun z => absurd z (by decide), fun z => absurd z (by decide), fun z => absurd z (by decide), fun z => absurd z (by decide), fun z => absurd z (by decide), fun z => absurd z (by decide), fun z => absurd z (by decide), fun z => absurd z (by decide), fun z => absurd z (by decide), fun z => absurd z (by decide), fun z => absurd z (by decide), fun z => absurd z (by decide), fun z => absurd z (by decide), fun z1 z2 z3 z4 z5 z6 z14 z16 z17 z18 z19 z20 z21 => ?_⟩
    refine ⟨inT, ?_⟩
    rw [tn_nI (by omega), hR.2.2.2.2, hr]
    have hkt : κ t = 41 := hL.kind hr (by decide) (by decide)
    have ha : 0 < cnt ρ 2 t := hL.ahead hr (by decide) (by decide)
    obtain ⟨b, eb⟩ : ∃ b, cnt ρ 2 t = b + 1 := ⟨cnt ρ 2 t - 1, by omega⟩
    rw [eb] at i2 b2
    have hli : lastI P 246 = b := by unfold lastI; rw [i2, nI_pred, tn_nI (by omega)]
    rw [hli] at h
    refine ⟨fun z => absurd z (by decide), fun z => absurd z (by decide), fun z => absurd z (by decide), fun _ => hNum t htm hkt N P _ hR.1 hR.2.2.1 hR.2.2.2.1 ⟨by rw [i2, nI_pred]; exact inb_nI (by omega) (by decide), fun P1 e1 => ?_⟩, fun z => absurd z (by decide), fun z => absurd z (by decide), fun z => absurd z (by decide), fun z => absurd z (by decide), fun z7 z8 z9 z10 z11 z12 z13 z15 => absurd rfl z10⟩
    rw [i2, nI_pred, tn_nI (by omega)] at e1
    subst e1
    exact r_range hNum hR htm hkt h
  · -- role 11
    have em : meaF val ρ t N = N := by unfold meaF; rw [hr, if_neg (by decide), if_neg (by decide)]
    rw [em] at h
    rw [erF_11 hr] at h
    rw [hr]
    refine ⟨fun z => absurd z (by decide), fun z => absurd z (by decide), fun z => absurd z (by decide), fun z => absurd z (by decide), fun z => absurd z (by decide), fun z => absurd z (by decide), fun z => absurd z (by decide), fun z => absurd z (by decide), fun z => absurd z (by decide), fun z => absurd z (by decide), fun z => absurd z (by decide), fun z => absurd z (by decide), fun z => absurd z (by decide), fun z1 z2 z3 z4 z5 z6 z14 z16 z17 z18 z19 z20 z21 => ?_⟩
    refine ⟨inT, ?_⟩
    rw [tn_nI (by omega), hR.2.2.2.2, hr]
    have hkt : κ t = 41 := hL.kind hr (by decide) (by decide)
    have ha : 0 < cnt ρ 3 t := hL.ahead hr (by decide) (by decide)
    obtain ⟨b, eb⟩ : ∃ b, cnt ρ 3 t = b + 1 := ⟨cnt ρ 3 t - 1, by omega⟩
    rw [eb] at i3 b3
    have hli : lastI P 249 = b := by unfold lastI; rw [i3, nI_pred, tn_nI (by omega)]
    rw [hli] at h
    refine ⟨fun z => absurd z (by decide), fun z => absurd z (by decide), fun z => absurd z (by decide), fun z => absurd z (by decide), fun _ => hNum t htm hkt N P _ hR.1 hR.2.2.1 hR.2.2.2.1 ⟨by rw [i3, nI_pred]; exact inb_nI (by omega) (by decide), fun P1 e1 => ?_⟩, fun z => absurd z (by decide), fun z => absurd z (by decide), fun z => absurd z (by decide), fun z7 z8 z9 z10 z11 z12 z13 z15 => absurd rfl z11⟩
    rw [i3, nI_pred, tn_nI (by omega)] at e1
    subst e1
    exact r_range hNum hR htm hkt h
  · -- role 12
    have em : meaF val ρ t N = N := by unfold meaF; rw [hr, if_neg (by decide), if_neg (by decide)]
    rw [em] at h
    rw [erF_12 hr] at h
    rw [hr]
    refine ⟨fun z => absurd z (by decide), fun z => absurd z (by decide), fun z => absurd z (by decide), fun z => absurd z (by decide), fun z => absurd z (by decide), fun z => absurd z (by decide), fun z => absurd z (by decide), fun z => absurd z (by decide), fun z => absurd z (by decide), fun z => absurd z (by decide), fun z => absurd z (by decide), fun z => absurd z (by decide), fun z => absurd z (by decide), fun z1 z2 z3 z4 z5 z6 z14 z16 z17 z18 z19 z20 z21 => ?_⟩
    refine ⟨inT, ?_⟩
    rw [tn_nI (by omega), hR.2.2.2.2, hr]
    have hkt : κ t = 41 := hL.kind hr (by decide) (by decide)
    have ha : 0 < cnt ρ 3 t := hL.ahead hr (by decide) (by decide)
    obtain ⟨b, eb⟩ : ∃ b, cnt ρ 3 t = b + 1 := ⟨cnt ρ 3 t - 1, by omega⟩
    rw [eb] at i3 b3
    have hli : lastI P 249 = b := by unfold lastI; rw [i3, nI_pred, tn_nI (by omega)]
    rw [hli] at h
    refine ⟨fun z => absurd z (by decide), fun z => absurd z (by decide), fun z => absurd z (by decide), fun z => absurd z (by decide), fun z => absurd z (by decide), fun _ => hNum t htm hkt N P _ hR.1 hR.2.2.1 hR.2.2.2.1 ⟨by rw [i3, nI_pred]; exact inb_nI (by omega) (by decide), fun P1 e1 => ?_⟩, fun z => absurd z (by decide), fun z => absurd z (by decide), fun z7 z8 z9 z10 z11 z12 z13 z15 => absurd rfl z12⟩
    rw [i3, nI_pred, tn_nI (by omega)] at e1
    subst e1
    exact r_range hNum hR htm hkt h
  · -- role 13
    have em : meaF val ρ t N = N := by unfold meaF; rw [hr, if_neg (by decide), if_neg (by decide)]
    rw [em] at h
    rw [erF_13 hr] at h
    rw [hr]
    refine ⟨fun z => absurd z (by decide), fun z => absurd z (by decide), fun z => absurd z (by decide), fun z => absurd z (by decide), fun z => absurd z (by decide), fun z => absurd z (by decide), fun z => absurd z (by decide), fun z => absurd z (by decide), fun z => absurd z (by decide), fun z => absurd z (by decide), fun z => absurd z (by decide), fun z => absurd z (by decide), fun z => absurd z (by decide), fun z1 z2 z3 z4 z5 z6 z14 z16 z17 z18 z19 z20 z21 => ?_⟩
    refine ⟨inT, ?_⟩
    rw [tn_nI (by omega), hR.2.2.2.2, hr]
    have hkt : κ t = 41 := hL.kind hr (by decide) (by decide)
    have ha : 0 < cnt ρ 4 t := hL.ahead hr (by decide) (by decide)
    obtain ⟨b, eb⟩ : ∃ b, cnt ρ 4 t = b + 1 := ⟨cnt ρ 4 t - 1, by omega⟩
    rw [eb] at i4 b4
    have hli : lastI P 252 = b := by unfold lastI; rw [i4, nI_pred, tn_nI (by omega)]
    rw [hli] at h
    refine ⟨fun z => absurd z (by decide), fun z => absurd z (by decide), fun z => absurd z (by decide), fun z => absurd z (by decide), fun z => absurd z (by decide), fun z => absurd z (by decide), fun _ => hNum t htm hkt N P _ hR.1 hR.2.2.1 hR.2.2.2.1 ⟨by rw [i4, nI_pred]; exact inb_nI (by omega) (by decide), fun P1 e1 => ?_⟩, fun z => absurd z (by decide), fun z7 z8 z9 z10 z11 z12 z13 z15 => absurd rfl z13⟩
    rw [i4, nI_pred, tn_nI (by omega)] at e1
    subst e1
    exact r_range hNum hR htm hkt h
  · -- role 14
    have em : meaF val ρ t N = N := by unfold meaF; rw [hr, if_neg (by decide), if_neg (by decide)]
    rw [em] at h
    rw [erF_14 hr] at h
    have ha : 0 < cnt ρ 4 t := hL.ahead hr (by decide) (by decide)
    obtain ⟨b, eb⟩ : ∃ b, cnt ρ 4 t = b + 1 := ⟨cnt ρ 4 t - 1, by omega⟩
    rw [eb] at i4 b4
    have hli : lastI P 252 = b := by unfold lastI; rw [i4, nI_pred, tn_nI (by omega)]
    rw [hr]
    refine ⟨fun z => absurd z (by decide), fun z => absurd z (by decide), fun z => absurd z (by decide), fun z => absurd z (by decide), fun z => absurd z (by decide), fun z => absurd z (by decide), fun _ => r_endOf hR (by omega) (hN t htm) ⟨by rw [i4, nI_pred]; exact inb_nI (by omega) (by decide), fun P1 e1 => ?_⟩, fun z => absurd z (by decide), fun z => absurd z (by decide), fun z => absurd z (by decide), fun z => absurd z (by decide), fun z => absurd z (by decide), fun z => absurd z (by decide), fun z1 z2 z3 z4 z5 z6 z14 z16 z17 z18 z19 z20 z21 => absurd rfl z14⟩
    rw [hli] at h
    rw [i4, nI_pred, tn_nI (by omega)] at e1
    subst e1
    exact h
  · -- role 15
    have em : meaF val ρ t N = N := by unfold meaF; rw [hr, if_neg (by decide), if_neg (by decide)]
    rw [em] at h
    rw [erF_15 hr] at h
    rw [hr]
    refine ⟨fun z => absurd z (by decide), fun z => absurd z (by decide), fun z => absurd z (by decide), fun z => absurd z (by decide), fun z => absurd z (by decide), fun z => absurd z (by decide), fun z => absurd z (by decide), fun z => absurd z (by decide), fun z => absurd z (by decide), fun z => absurd z (by decide), fun z => absurd z (by decide), fun z => absurd z (by decide), fun z => absurd z (by decide), fun z1 z2 z3 z4 z5 z6 z14 z16 z17 z18 z19 z20 z21 => ?_⟩
    refine ⟨inT, ?_⟩
    rw [tn_nI (by omega), hR.2.2.2.2, hr]
    have hkt : κ t = 41 := hL.kind hr (by decide) (by decide)
    have ha : 0 < cnt ρ 4 t := hL.ahead hr (by decide) (by decide)
    obtain ⟨b, eb⟩ : ∃ b, cnt ρ 4 t = b + 1 := ⟨cnt ρ 4 t - 1, by omega⟩
    rw [eb] at i4 b4
    have hli : lastI P 252 = b := by unfold lastI; rw [i4, nI_pred, tn_nI (by omega)]
    rw [hli] at h
    refine ⟨fun z => absurd z (by decide), fun z => absurd z (by decide), fun z => absurd z (by decide), fun z => absurd z (by decide), fun z => absurd z (by decide), fun z => absurd z (by decide), fun z => absurd z (by decide), fun _ => hNum t htm hkt N P _ hR.1 hR.2.2.1 hR.2.2.2.1 ⟨by rw [i4, nI_pred]; exact inb_nI (by omega) (by decide), fun P1 e1 => ?_⟩, fun z7 z8 z9 z10 z11 z12 z13 z15 => absurd rfl z15⟩
    rw [i4, nI_pred, tn_nI (by omega)] at e1
    subst e1
    exact r_range hNum hR htm hkt h
  · -- role 16
    have em : meaF val ρ t N = mea t (tld val ρ 3 t t) N := by unfold meaF; rw [hr, if_pos (by decide)]
    rw [em] at h
    rw [erF_16 hr] at h
    have ha : 0 < cnt ρ 4 t := hL.ahead hr (by decide) (by decide)
    obtain ⟨b, eb⟩ : ∃ b, cnt ρ 4 t = b + 1 := ⟨cnt ρ 4 t - 1, by omega⟩
    rw [eb] at i4 b4
    rw [hr]
    refine ⟨fun z => absurd z (by decide), fun z => absurd z (by decide), fun z => absurd z (by decide), fun z => absurd z (by decide), fun z => absurd z (by decide), fun z => absurd z (by decide), fun z => absurd z (by decide), fun _ => ⟨inT, ?_⟩, fun z => absurd z (by decide), fun z => absurd z (by decide), fun z => absurd z (by decide), fun z => absurd z (by decide), fun z => absurd z (by decide), fun z1 z2 z3 z4 z5 z6 z14 z16 z17 z18 z19 z20 z21 => absurd rfl z16⟩
    refine r_crewed hm hS hR htm (hL.kind hr (by decide) (by decide)) (hW.kind (by omega) (by decide) (by decide)) (show b < 8 by omega) i4 (pl := 0) (by decide) (by decide) ?_
    rw [if_neg (fun z => absurd z.1 (by decide))]
    exact h
  · -- role 17
    have em : meaF val ρ t N = mea t (tld val ρ 3 t t) N := by unfold meaF; rw [hr, if_pos (by decide)]
    rw [em] at h
    rw [erF_17 hr] at h
    have ha : 0 < cnt ρ 4 t := hL.ahead hr (by decide) (by decide)
    obtain ⟨b, eb⟩ : ∃ b, cnt ρ 4 t = b + 1 := ⟨cnt ρ 4 t - 1, by omega⟩
    rw [eb] at i4 b4
    rw [hr]
    refine ⟨fun z => absurd z (by decide), fun z => absurd z (by decide), fun z => absurd z (by decide), fun z => absurd z (by decide), fun z => absurd z (by decide), fun z => absurd z (by decide), fun z => absurd z (by decide), fun z => absurd z (by decide), fun _ => ⟨inT, ?_⟩, fun z => absurd z (by decide), fun z => absurd z (by decide), fun z => absurd z (by decide), fun z => absurd z (by decide), fun z1 z2 z3 z4 z5 z6 z14 z16 z17 z18 z19 z20 z21 => absurd rfl z17⟩
    refine r_crewed hm hS hR htm (hL.kind hr (by decide) (by decide)) (hW.kind (by omega) (by decide) (by decide)) (show b < 8 by omega) i4 (pl := 1) (by decide) (by decide) ?_
    have e : (if (1 = 1 ∧ lookE (tld val ρ 3 t t) = 0 ∧ crewF P 1 (tld val ρ 3 t t) (310 + lastI P 252) 0 = crewF P 1 (tld val ρ 3 t t) (310 + lastI P 252) 1) then (5 : Int32) else lookE (tld val ρ 3 t t)) = (if (lookE (tld val ρ 3 t t) = 0 ∧ crewF P 1 (tld val ρ 3 t t) (310 + lastI P 252) 0 = crewF P 1 (tld val ρ 3 t t) (310 + lastI P 252) 1) then (5 : Int32) else lookE (tld val ρ 3 t t)) := by
      by_cases c : lookE (tld val ρ 3 t t) = 0 ∧ crewF P 1 (tld val ρ 3 t t) (310 + lastI P 252) 0 = crewF P 1 (tld val ρ 3 t t) (310 + lastI P 252) 1
      · rw [if_pos c, if_pos ⟨rfl, c⟩]
      · rw [if_neg c, if_neg (fun z => c z.2)]
    rw [e]
    exact h
  · -- role 18
    have em : meaF val ρ t N = N := by unfold meaF; rw [hr, if_neg (by decide), if_neg (by decide)]
    rw [em] at h
    rw [erF_18 hr] at h
    have ha : 0 < cnt ρ 5 t := hL.ahead hr (by decide) (by decide)
    obtain ⟨b, eb⟩ : ∃ b, cnt ρ 5 t + cnt ρ 6 t = b + 1 := ⟨cnt ρ 5 t + cnt ρ 6 t - 1, by omega⟩
    rw [eb] at i5 b5
    have hli : lastI P 257 = b := by unfold lastI; rw [i5, nI_pred, tn_nI (by omega)]
    rw [hr]
    refine ⟨fun z => absurd z (by decide), fun z => absurd z (by decide), fun z => absurd z (by decide), fun z => absurd z (by decide), fun z => absurd z (by decide), fun z => absurd z (by decide), fun z => absurd z (by decide), fun z => absurd z (by decide), fun z => absurd z (by decide), fun _ => r_endOf hR (by omega) (hN t htm) ⟨by rw [i5, nI_pred]; exact inb_nI (by omega) (by decide), fun P1 e1 => ?_⟩, fun z => absurd z (by decide), fun z => absurd z (by decide), fun z => absurd z (by decide), fun z1 z2 z3 z4 z5 z6 z14 z16 z17 z18 z19 z20 z21 => absurd rfl z18⟩
    rw [hli] at h
    rw [i5, nI_pred, tn_nI (by omega)] at e1
    subst e1
    exact h
  · -- role 19
    have em : meaF val ρ t N = mea t (tld val ρ 3 t t) N := by unfold meaF; rw [hr, if_pos (by decide)]
    rw [em] at h
    rw [erF_19 hr] at h
    have ha : 0 < cnt ρ 6 t := hL.ahead hr (by decide) (by decide)
    obtain ⟨b, eb⟩ : ∃ b, cnt ρ 5 t + cnt ρ 6 t = b + 1 := ⟨cnt ρ 5 t + cnt ρ 6 t - 1, by omega⟩
    rw [eb] at i5 b5
    have hli : lastI P 257 = b := by unfold lastI; rw [i5, nI_pred, tn_nI (by omega)]
    rw [hr]
    refine ⟨fun z => absurd z (by decide), fun z => absurd z (by decide), fun z => absurd z (by decide), fun z => absurd z (by decide), fun z => absurd z (by decide), fun z => absurd z (by decide), fun z => absurd z (by decide), fun z => absurd z (by decide), fun z => absurd z (by decide), fun z => absurd z (by decide), fun _ => r_look hm hS hR htm (hL.kind hr (by decide) (by decide)) (hW.kind (by omega) (by decide) (by decide)) ⟨inT, by rw [i5, nI_pred]; exact inb_nI (by omega) (by decide), fun P1 e1 => ?_⟩, fun z => absurd z (by decide), fun z => absurd z (by decide), fun z1 z2 z3 z4 z5 z6 z14 z16 z17 z18 z19 z20 z21 => absurd rfl z19⟩
    rw [hli] at h
    have e228 : mea t (tld val ρ 3 t t) N 228 t = tld val ρ 3 t t := by unfold mea; rw [up2_s, upd_s]
    rw [i5, nI_pred, tn_nI (by omega), e228] at e1
    subst e1
    exact h
  · -- role 20
    have em : meaF val ρ t N = mea t (tld val ρ 3 t t) N := by unfold meaF; rw [hr, if_pos (by decide)]
    rw [em] at h
    rw [erF_20 hr] at h
    rw [hr]
    exact ⟨fun z => absurd z (by decide), fun z => absurd z (by decide), fun z => absurd z (by decide), fun z => absurd z (by decide), fun z => absurd z (by decide), fun z => absurd z (by decide), fun z => absurd z (by decide), fun z => absurd z (by decide), fun z => absurd z (by decide), fun z => absurd z (by decide), fun z => absurd z (by decide), fun _ => r_look hm hS hR htm (hL.kind hr (by decide) (by decide)) (hW.kind (by omega) (by decide) (by decide)) h, fun z => absurd z (by decide), fun z1 z2 z3 z4 z5 z6 z14 z16 z17 z18 z19 z20 z21 => absurd rfl z20⟩
  · -- role 21
    have em : meaF val ρ t N = mea t (tld val ρ 4 t t) N := by unfold meaF; rw [hr, if_neg (by decide), if_pos rfl]
    rw [em] at h
    rw [erF_21 hr] at h
    rw [hr]
    exact ⟨fun z => absurd z (by decide), fun z => absurd z (by decide), fun z => absurd z (by decide), fun z => absurd z (by decide), fun z => absurd z (by decide), fun z => absurd z (by decide), fun z => absurd z (by decide), fun z => absurd z (by decide), fun z => absurd z (by decide), fun z => absurd z (by decide), fun z => absurd z (by decide), fun z => absurd z (by decide), fun _ => r_look hm hS hR htm (hL.kind hr (by decide) (by decide)) (hW.kind (by omega) (by decide) (by decide)) h, fun z1 z2 z3 z4 z5 z6 z14 z16 z17 z18 z19 z20 z21 => absurd rfl z21⟩
end SECOND
