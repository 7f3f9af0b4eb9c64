/-! ===== states of both readers; single steps ===== -/
def KIN (κ : Nat → Int32) (m : Nat) : Prop := m ≤ 400 ∧ (∀ i, i ≤ m → κ i ∈ vk) ∧ (∀ i, i < m → κ i < 900) ∧ ¬ κ m < 900
def SC (κ : Nat → Int32) (m : Nat) (val : Nat → Int64) (F : M2) (L : L2) (p : Nat) : Prop := (F 66 = fun _ => nI p) ∧ p ≤ m ∧ (∀ i, i ≤ m → F 74 i = ck (κ i)) ∧ ∀ i, i ≤ m → L 76 i = val i
def SID (κ : Nat → Int32) (m : Nat) (val : Nat → Int64) : Prop := ∀ i, i ≤ m → (κ i = 12 → (val i).toInt32 = 0) ∧ (κ i = 13 → (val i).toInt32 = 1)
def FC (F F' : M2) (p' : Nat) : Prop := F' 66 0 = nI p' ∧ ∀ k, (k ≤ 44 ∨ 68 < k) → F' k = F k
def FN (N N' : M2) (p' : Nat) : Prop := N' 229 0 = nI p' ∧ ∀ k, (k ≤ 226 ∨ 230 < k) → N' k = N k
theorem FC.trans {F F1 F2 : M2} {p q : Nat} (h1 : FC F F1 p) (h2 : FC F1 F2 q) : FC F F2 q := ⟨h2.1, fun k hk => (h2.2 k hk).trans (h1.2 k hk)⟩
theorem FN.trans {F F1 F2 : M2} {p q : Nat} (h1 : FN F F1 p) (h2 : FN F1 F2 q) : FN F F2 q := ⟨h2.1, fun k hk => (h2.2 k hk).trans (h1.2 k hk)⟩
abbrev W2 : Type := M2 → L2 → (Int32 → M2 → L2 → Prop) → Prop
section STEP
variable {κ : Nat → Int32} {m : Nat} {val : Nat → Int64} {N0 : M2} {F N P : M2} {L : L2} {p dp : Nat}
theorem KIN.lt (h : KIN κ m) {c : Int32} (hp : p ≤ m) (hk : κ p = c) (hc : c < 900) : p < m := by
  rcases Nat.lt_or_ge p m with h1 | h1
  · exact h1
  · have : p = m := by omega
    subst this
    exact absurd (hk ▸ hc) h.2.2.2
theorem SC.get (h : SC κ m val F L p) (hK : KIN κ m) : atv (F 74) 401 (F 66 0) = ck (κ p) := by
  have hm := hK.1
  have hp := h.2.1
  rw [h.1, atv_nI (by omega) (by decide), h.2.2.1 p hp]
theorem SC.inc (h : SC κ m val F L p) : up2 F 66 (fun _ => F 66 0 + 1) = cT (p + 1) F := by
  rw [h.1, nI_1]
  rfl
theorem SC.to (h : SC κ m val F L p) {q : Nat} (hq : q ≤ m) (its : List IT) : SC κ m val (cT q (cE val L its F)) L q := by
  refine ⟨up2_s _ _ _, hq, fun i hi => ?_, h.2.2.2⟩
  unfold cT
  rw [up2_n _ _ (by decide), cE_n val L (Or.inr (Or.inl (by decide)))]
  exact h.2.2.1 i hi
theorem SC.adv (h : SC κ m val F L p) {q : Nat} (hq : q ≤ m) : SC κ m val (cT q F) L q := h.to hq []
/-- how long the code of items is; how many of them name something -/
def lenR : List IT → Nat
  | [] => 0
  | q :: its => (if q.1 = 4 ∨ q.1 = 7 ∨ isNm q.1 then 2 else 1) + lenR its
theorem lenR_le : ∀ its : List IT, lenR its ≤ 2 * its.length
  | [] => Nat.le_refl _
  | q :: its => by
    have := lenR_le its
    simp only [lenR, List.length_cons]
    split <;> omega
theorem nms_le (its : List IT) : (nms its).length ≤ its.length := by
  unfold nms
  rw [List.length_map]
  exact List.length_filter_le _ _
theorem pt_264 (x : Int32) : pt P x 264 0 = P 264 0 + 1 := by unfold pt; rw [up2_s]
theorem pt_n (x : Int32) {k : Nat} (h1 : k ≠ 263) (h2 : k ≠ 264) : pt P x k = P k := by unfold pt; rw [up2_n _ _ h2, up2_n _ _ h1]
theorem opn_n {k : Nat} (h1 : k ≠ 265) (h2 : k ≠ 266) : opn P k = P k := by unfold opn; rw [up2_n _ _ h2, up2_n _ _ h1]
theorem opn_266 : opn P 266 0 = P 266 0 + 1 := by unfold opn; rw [up2_s]
/-! the class -/
theorem c_peek {K : Int32 → Prop} (h : SC κ m val F L p) (hK : KIN κ m) (hk : K (ck (κ p))) : wp_X2_peek F L K := by
  unfold wp_X2_peek
  rw [h.get hK]
  exact hk
theorem c_take {K : Int32 → M2 → L2 → Prop} (h : SC κ m val F L p) (hK : KIN κ m) {x : Int32} (h1 : ck (κ p) = x → K 1 (cT (p + 1) F) L) (h0 : ¬ ck (κ p) = x → K 0 F L) : wp_X2_take F L x K := by
  unfold wp_X2_take
  rw [h.get hK]
  refine And.intro (fun c F1 e1 => ?_) (fun c => h0 c)
  rw [h.inc] at e1
  subst e1
  exact h1 c
theorem c_deeper {K : Int32 → M2 → L2 → Prop} (h : SC κ m val F L p) (hK : KIN κ m) {x : Int32} (hd : dp ≤ 8) (hx : ck (κ p) = x) (h1 : dp < 8 → K 1 (cT (p + 1) F) L) (h0 : dp = 8 → K 0 F L) : wp_X2_takeDeeper F L x (nI dp) K := by
  refine And.intro (fun c => h0 ?_) (fun c => c_take h hK (fun _ => And.intro (fun z => absurd z (by decide)) (fun _ => h1 ?_)) (fun z => absurd hx z))
  · have c : nI 8 ≤ nI dp := c
    rw [le_nI (by omega) (by omega)] at c
    omega
  · have c : ¬ nI 8 ≤ nI dp := c
    rw [le_nI (by omega) (by omega)] at c
    omega
theorem c_emit {K : Int32 → M2 → L2 → Prop} {op x : Int32} (h : K 1 (em F op x) L) : wp_X2_emit F L op x K := by
  intro F1 e1 F2 e2 F3 e3
  have e45 : F1 45 = F 45 := by
    rw [e1, up2_n _ _ (by decide)]
  have e47 : F1 47 = F 47 := by
    rw [e1, up2_n _ _ (by decide)]
  have e45' : F2 45 = F 45 := by
    rw [e2, up2_n _ _ (by decide), e45]
  rw [e45, e47] at e2
  rw [e45'] at e3
  have : F3 = em F op x := by
    rw [e3, e2, e1]
    rfl
  rw [this]
  exact h
/-- an operation that names nothing -/
theorem c_op {K : Int32 → M2 → L2 → Prop} {op : Int32} (hn : ¬ isNm op) (h4 : op ≠ 4) (h7 : op ≠ 7) (h : K 1 (cE1 val L F (op, 0)) L) : wp_X2_emit F L op 0 K := by
  refine c_emit ?_
  have : cE1 val L F (op, 0) = em F op 0 := by
    unfold cE1 opV
    dsimp only
    rw [if_neg (fun z => hn z.1), if_neg (fun z => z.elim h4 h7), if_neg (fun z => hn (z.elim Or.inl (fun y => Or.inr (Or.inr (Or.inr y))))), if_neg (fun z => hn (z.elim (fun y => Or.inr (Or.inl y)) (fun y => Or.inr (Or.inr (Or.inl y)))))]
  rw [this] at h
  exact h
theorem c_tell {K : M2 → L2 → Prop} {e : Int32} {t : Nat} (h : K (tf F e t) L) : wp_X2_tellFault F L e (nI t) K := by
  unfold tf at h
  refine And.intro (fun c => ?_) (fun c F1 e1 F2 e2 => ?_)
  · rw [if_neg c] at h
    exact h
  · rw [if_pos c] at h
    subst e1 e2
    exact h
theorem lg_cmp0 {x y : Int64} : lg_cmp x y = 0 ↔ x = y := by
  unfold lg_cmp
  by_cases c : x = y
  · subst c
    by_cases c2 : x > x
    · exact absurd c2 Int64.lt_irrefl
    · simp [c2]
  · by_cases c2 : x > y
    · simp [c2, c]
    · simp [c2, c]
theorem l_indexOf_nB {K : Int32 → Prop} {told : Int32} {v : Int64} : ∀ (d j f : Nat), j + d = 5 → d < f → K (ffr (fun i => nI i < told ∧ L 61 i = v) d j) → wl_X2_indexOf_nB_3 F L K f told v (nI j) := by
  intro d
  induction d with
  | zero =>
    intro j f hj hf h
    obtain ⟨f, rfl, _⟩ := fuel hf
    have : j = 5 := by omega
    subst this
    exact And.intro (fun _ => h) (fun _ => And.intro (fun _ => h) (fun c => absurd (by decide) c))
  | succ d ih =>
    intro j f hj hf h
    obtain ⟨f, rfl, _⟩ := fuel hf
    unfold ffr at h
    have tj : (nI j).toInt.toNat = j := tn_nI (by omega)
    refine And.intro (fun c => ?_) (fun c => And.intro (fun c2 => ?_) (fun _ => ⟨inb_nJ (by omega) (by decide), ?_⟩))
    · rcases ffr_spec (p := fun i => nI i < told ∧ L 61 i = v) d (j + 1) with ⟨e1, _⟩ | ⟨i, h1, h2, h3, _⟩
      · rw [if_neg (fun z => Int32.not_lt.mpr c z.1), e1] at h
        exact h
      · have : nI j < nI i := (lt_nI (by omega) (by omega)).mpr (by omega)
        exact absurd (Int32.lt_trans this h3.1) (Int32.not_lt.mpr c)
    · have c2 : nI 5 ≤ nI j := c2
      rw [le_nI (by omega) (by omega)] at c2
      omega
    · rw [tj]
      refine And.intro (fun c3 w ew => ?_) (fun c3 => ?_)
      · subst ew
        rw [nI_1]
        rw [if_neg (fun z => c3 (lg_cmp0.mpr z.2))] at h
        exact ih (j + 1) f (by omega) (by omega) h
      · rw [if_pos ⟨Int32.not_le.mp c, lg_cmp0.mp c3⟩] at h
        exact h
theorem c_indexOf_nB {K : Int32 → Prop} {told : Int32} {v : Int64} (h : K (idx (L 61) told 5 v)) : wp_X2_indexOf_nB F L told v K := l_indexOf_nB 5 0 fK (by omega) (by rw [fK_eq]; omega) h
theorem l_indexOf_nS {K : Int32 → Prop} {told : Int32} {v : Int64} : ∀ (d j f : Nat), j + d = 4 → d < f → K (ffr (fun i => nI i < told ∧ L 62 i = v) d j) → wl_X2_indexOf_nS_3 F L K f told v (nI j) := by
  intro d
  induction d with
  | zero =>
    intro j f hj hf h
    obtain ⟨f, rfl, _⟩ := fuel hf
    have : j = 4 := by omega
    subst this
    exact And.intro (fun _ => h) (fun _ => And.intro (fun _ => h) (fun c => absurd (by decide) c))
  | succ d ih =>
    intro j f hj hf h
    obtain ⟨f, rfl, _⟩ := fuel hf
    unfold ffr at h
    have tj : (nI j).toInt.toNat = j := tn_nI (by omega)
    refine And.intro (fun c => ?_) (fun c => And.intro (fun c2 => ?_) (fun _ => ⟨inb_nJ (by omega) (by decide), ?_⟩))
    · rcases ffr_spec (p := fun i => nI i < told ∧ L 62 i = v) d (j + 1) with ⟨e1, _⟩ | ⟨i, h1, h2, h3, _⟩
      · rw [if_neg (fun z => Int32.not_lt.mpr c z.1), e1] at h
        exact h
      · have : nI j < nI i := (lt_nI (by omega) (by omega)).mpr (by omega)
        exact absurd (Int32.lt_trans this h3.1) (Int32.not_lt.mpr c)
    · have c2 : nI 4 ≤ nI j := c2
      rw [le_nI (by omega) (by omega)] at c2
      omega
    · rw [tj]
      refine And.intro (fun c3 w ew => ?_) (fun c3 => ?_)
      · subst ew
        rw [nI_1]
        rw [if_neg (fun z => c3 (lg_cmp0.mpr z.2))] at h
        exact ih (j + 1) f (by omega) (by omega) h
      · rw [if_pos ⟨Int32.not_le.mp c, lg_cmp0.mp c3⟩] at h
        exact h
theorem c_indexOf_nS {K : Int32 → Prop} {told : Int32} {v : Int64} (h : K (idx (L 62) told 4 v)) : wp_X2_indexOf_nS F L told v K := l_indexOf_nS 4 0 fK (by omega) (by rw [fK_eq]; omega) h
theorem l_indexOf_nL {K : Int32 → Prop} {told : Int32} {v : Int64} : ∀ (d j f : Nat), j + d = 6 → d < f → K (ffr (fun i => nI i < told ∧ L 63 i = v) d j) → wl_X2_indexOf_nL_3 F L K f told v (nI j) := by
  intro d
  induction d with
  | zero =>
    intro j f hj hf h
    obtain ⟨f, rfl, _⟩ := fuel hf
    have : j = 6 := by omega
    subst this
    exact And.intro (fun _ => h) (fun _ => And.intro (fun _ => h) (fun c => absurd (by decide) c))
  | succ d ih =>
    intro j f hj hf h
    obtain ⟨f, rfl, _⟩ := fuel hf
    unfold ffr at h
    have tj : (nI j).toInt.toNat = j := tn_nI (by omega)
    refine And.intro (fun c => ?_) (fun c => And.intro (fun c2 => ?_) (fun _ => ⟨inb_nJ (by omega) (by decide), ?_⟩))
    · rcases ffr_spec (p := fun i => nI i < told ∧ L 63 i = v) d (j + 1) with ⟨e1, _⟩ | ⟨i, h1, h2, h3, _⟩
      · rw [if_neg (fun z => Int32.not_lt.mpr c z.1), e1] at h
        exact h
      · have : nI j < nI i := (lt_nI (by omega) (by omega)).mpr (by omega)
        exact absurd (Int32.lt_trans this h3.1) (Int32.not_lt.mpr c)
    · have c2 : nI 6 ≤ nI j := c2
      rw [le_nI (by omega) (by omega)] at c2
      omega
    · rw [tj]
      refine And.intro (fun c3 w ew => ?_) (fun c3 => ?_)
      · subst ew
        rw [nI_1]
        rw [if_neg (fun z => c3 (lg_cmp0.mpr z.2))] at h
        exact ih (j + 1) f (by omega) (by omega) h
      · rw [if_pos ⟨Int32.not_le.mp c, lg_cmp0.mp c3⟩] at h
        exact h
theorem c_indexOf_nL {K : Int32 → Prop} {told : Int32} {v : Int64} (h : K (idx (L 63) told 6 v)) : wp_X2_indexOf_nL F L told v K := l_indexOf_nL 6 0 fK (by omega) (by rw [fK_eq]; omega) h
theorem l_indexOf_nO {K : Int32 → Prop} {told : Int32} {v : Int64} : ∀ (d j f : Nat), j + d = 8 → d < f → K (ffr (fun i => nI i < told ∧ L 64 i = v) d j) → wl_X2_indexOf_nO_3 F L K f told v (nI j) := by
  intro d
  induction d with
  | zero =>
    intro j f hj hf h
    obtain ⟨f, rfl, _⟩ := fuel hf
    have : j = 8 := by omega
    subst this
    exact And.intro (fun _ => h) (fun _ => And.intro (fun _ => h) (fun c => absurd (by decide) c))
  | succ d ih =>
    intro j f hj hf h
    obtain ⟨f, rfl, _⟩ := fuel hf
    unfold ffr at h
    have tj : (nI j).toInt.toNat = j := tn_nI (by omega)
    refine And.intro (fun c => ?_) (fun c => And.intro (fun c2 => ?_) (fun _ => ⟨inb_nJ (by omega) (by decide), ?_⟩))
    · rcases ffr_spec (p := fun i => nI i < told ∧ L 64 i = v) d (j + 1) with ⟨e1, _⟩ | ⟨i, h1, h2, h3, _⟩
      · rw [if_neg (fun z => Int32.not_lt.mpr c z.1), e1] at h
        exact h
      · have : nI j < nI i := (lt_nI (by omega) (by omega)).mpr (by omega)
        exact absurd (Int32.lt_trans this h3.1) (Int32.not_lt.mpr c)
    · have c2 : nI 8 ≤ nI j := c2
      rw [le_nI (by omega) (by omega)] at c2
      omega
    · rw [tj]
      refine And.intro (fun c3 w ew => ?_) (fun c3 => ?_)
      · subst ew
        rw [nI_1]
        rw [if_neg (fun z => c3 (lg_cmp0.mpr z.2))] at h
        exact ih (j + 1) f (by omega) (by omega) h
      · rw [if_pos ⟨Int32.not_le.mp c, lg_cmp0.mp c3⟩] at h
        exact h
theorem c_indexOf_nO {K : Int32 → Prop} {told : Int32} {v : Int64} (h : K (idx (L 64) told 8 v)) : wp_X2_indexOf_nO F L told v K := l_indexOf_nO 8 0 fK (by omega) (by rw [fK_eq]; omega) h
theorem SC.vl (h : SC κ m val F L p) (hK : KIN κ m) {t : Nat} (ht : t ≤ m) : atl (L 76) 401 (nI t) = val t := by
  have hm := hK.1
  rw [atl_nI (by omega) (by decide), h.2.2.2 t ht]
theorem c_known_nL {K : Int32 → M2 → L2 → Prop} (h : SC κ m val F L p) (hK : KIN κ m) {told : Int32} {t : Nat} (ht : t ≤ m) (hk : K (idx (L 63) told 6 (val t)) (if idx (L 63) told 6 (val t) = -1 then tf F 3 t else F) L) : wp_X2_needKnown_nL F L told (nI t) K := by
  unfold wp_X2_needKnown_nL
  rw [h.vl hK ht]
  refine c_indexOf_nL (And.intro (fun c => ?_) (fun c => c_tell ?_))
  · rw [if_neg c] at hk
    exact hk
  · rw [if_pos c] at hk
    exact hk
theorem c_ofOne_nL {K : Int32 → M2 → L2 → Prop} (h : SC κ m val F L p) (hK : KIN κ m) (hpm : p < m) {op : Int32} (hop : op = 8 ∨ op = 11) (h1 : ck (κ (p + 1)) = 2 → K 1 (cT (p + 2) (cE1 val L F (op, p + 1))) L) (h0 : ¬ ck (κ (p + 1)) = 2 → K 0 (cT (p + 1) F) L) : wp_X2_ofOne_nL F L op (F 23 0) K := by
  have hm := hK.1
  intro F1 e1
  rw [h.inc] at e1
  subst e1
  have hs := h.adv (q := p + 1) (by omega)
  refine c_take hs hK (fun c => And.intro (fun z => absurd z (by decide)) (fun _ => ?_)) (fun c => And.intro (fun _ => h0 c) (fun z => absurd rfl z))
  have hp1 : p + 1 < m := by
    rcases Nat.lt_or_ge (p + 1) m with h1 | h1
    · exact h1
    · have e : p + 1 = m := by omega
      have hv := hK.2.1 m (Nat.le_refl _)
      rw [e] at c
      have hk := (ck_2 hv).mp c
      exact absurd (hk ▸ (by decide : (40 : Int32) < 900)) hK.2.2.2
  rw [cT_cT]
  have hs2 := h.adv (q := p + 1 + 1) (by omega)
  have e66 : cT (p + 1 + 1) F 66 0 - 1 = nI (p + 1) := by
    rw [hs2.1]
    exact nI_pred (p + 1)
  rw [e66]
  refine c_known_nL hs2 hK (by omega) (c_emit (And.intro (fun z => absurd z (by decide)) (fun _ => ?_)))
  have h1 := h1 c
  have hn : isNm op := by rcases hop with rfl | rfl <;> decide
  have eo : opV val F L (op, p + 1) = idx (L 63) (F 23 0) 6 (val (p + 1)) := by
    rcases hop with rfl | rfl <;> rfl
  have ec : cE1 val L F (op, p + 1) = em (if idx (L 63) (F 23 0) 6 (val (p + 1)) = -1 then tf F 3 (p + 1) else F) op (idx (L 63) (F 23 0) 6 (val (p + 1))) := by
    unfold cE1
    rw [eo]
    by_cases c2 : idx (L 63) (F 23 0) 6 (val (p + 1)) = -1
    · rw [if_pos ⟨hn, c2⟩, if_pos c2]
    · rw [if_neg (fun z => c2 z.2), if_neg c2]
  rw [ec] at h1
  by_cases c2 : idx (L 63) (F 23 0) 6 (val (p + 1)) = -1
  · rw [if_pos c2] at h1 ⊢
    rw [cT_tf, cT_em]
    exact h1
  · rw [if_neg c2] at h1 ⊢
    rw [cT_em]
    exact h1
theorem c_known_nO {K : Int32 → M2 → L2 → Prop} (h : SC κ m val F L p) (hK : KIN κ m) {told : Int32} {t : Nat} (ht : t ≤ m) (hk : K (idx (L 64) told 8 (val t)) (if idx (L 64) told 8 (val t) = -1 then tf F 3 t else F) L) : wp_X2_needKnown_nO F L told (nI t) K := by
  unfold wp_X2_needKnown_nO
  rw [h.vl hK ht]
  refine c_indexOf_nO (And.intro (fun c => ?_) (fun c => c_tell ?_))
  · rw [if_neg c] at hk
    exact hk
  · rw [if_pos c] at hk
    exact hk
theorem c_ofOne_nO {K : Int32 → M2 → L2 → Prop} (h : SC κ m val F L p) (hK : KIN κ m) (hpm : p < m) {op : Int32} (hop : op = 9 ∨ op = 10) (h1 : ck (κ (p + 1)) = 2 → K 1 (cT (p + 2) (cE1 val L F (op, p + 1))) L) (h0 : ¬ ck (κ (p + 1)) = 2 → K 0 (cT (p + 1) F) L) : wp_X2_ofOne_nO F L op (F 24 0) K := by
  have hm := hK.1
  intro F1 e1
  rw [h.inc] at e1
  subst e1
  have hs := h.adv (q := p + 1) (by omega)
  refine c_take hs hK (fun c => And.intro (fun z => absurd z (by decide)) (fun _ => ?_)) (fun c => And.intro (fun _ => h0 c) (fun z => absurd rfl z))
  have hp1 : p + 1 < m := by
    rcases Nat.lt_or_ge (p + 1) m with h1 | h1
    · exact h1
    · have e : p + 1 = m := by omega
      have hv := hK.2.1 m (Nat.le_refl _)
      rw [e] at c
      have hk := (ck_2 hv).mp c
      exact absurd (hk ▸ (by decide : (40 : Int32) < 900)) hK.2.2.2
  rw [cT_cT]
  have hs2 := h.adv (q := p + 1 + 1) (by omega)
  have e66 : cT (p + 1 + 1) F 66 0 - 1 = nI (p + 1) := by
    rw [hs2.1]
    exact nI_pred (p + 1)
  rw [e66]
  refine c_known_nO hs2 hK (by omega) (c_emit (And.intro (fun z => absurd z (by decide)) (fun _ => ?_)))
  have h1 := h1 c
  have hn : isNm op := by rcases hop with rfl | rfl <;> decide
  have eo : opV val F L (op, p + 1) = idx (L 64) (F 24 0) 8 (val (p + 1)) := by
    rcases hop with rfl | rfl <;> rfl
  have ec : cE1 val L F (op, p + 1) = em (if idx (L 64) (F 24 0) 8 (val (p + 1)) = -1 then tf F 3 (p + 1) else F) op (idx (L 64) (F 24 0) 8 (val (p + 1))) := by
    unfold cE1
    rw [eo]
    by_cases c2 : idx (L 64) (F 24 0) 8 (val (p + 1)) = -1
    · rw [if_pos ⟨hn, c2⟩, if_pos c2]
    · rw [if_neg (fun z => c2 z.2), if_neg c2]
  rw [ec] at h1
  by_cases c2 : idx (L 64) (F 24 0) 8 (val (p + 1)) = -1
  · rw [if_pos c2] at h1 ⊢
    rw [cT_tf, cT_em]
    exact h1
  · rw [if_neg c2] at h1 ⊢
    rw [cT_em]
    exact h1
end STEP
