/-! ===== states of both readers; single steps ===== -/
def KIN (κ : Nat → Int32) (m : Nat) : Prop := m ≤ 400 ∧ (∀ i, i ≤ m → κ i ∈ vk) ∧ (∀ i, i < m → κ i < 900) ∧ ¬ κ m < 900
def SC (κ : Nat → Int32) (m : Nat) (val : Nat → Int64) (F : M2) (L : L2) (p : Nat) : Prop := (F 66 = fun _ => nI p) ∧ p ≤ m ∧ (∀ i, i ≤ m → F 74 i = ck (κ i)) ∧ ∀ i, i ≤ m → L 76 i = val i
def SN (κ : Nat → Int32) (m : Nat) (N0 N P : M2) (p dp : Nat) : Prop := (N 229 = fun _ => nI p) ∧ (N 230 = fun _ => nI dp) ∧ (N 221 = N0 221 ∧ N 224 = N0 224 ∧ N 225 = N0 225 ∧ N 226 = N0 226) ∧ (∀ i, i ≤ m → N0 224 i = κ i) ∧ p ≤ m ∧ ∃ c o, P 264 0 = nI c ∧ c ≤ 2 * p ∧ P 266 0 = nI o ∧ o ≤ p
/-- the number of a token, by the reference -/
def NUM (κ : Nat → Int32) (m : Nat) (val : Nat → Int64) (N0 : M2) : Prop := ∀ i, i ≤ m → κ i = 41 → ∀ (N P : M2) (K : Int32 → Prop), N 221 = N0 221 → N 225 = N0 225 → N 226 = N0 226 → K (val i).toInt32 → wp_X8_numberAt N P (nI i) K
def SID (κ : Nat → Int32) (m : Nat) (val : Nat → Int64) : Prop := ∀ i, i ≤ m → (κ i = 12 → (val i).toInt32 = 0) ∧ (κ i = 13 → (val i).toInt32 = 1)
def FC (F F' : M2) (p' : Nat) : Prop := F' 66 0 = nI p' ∧ ∀ k, (k ≤ 44 ∨ 68 < k) → F' k = F k
def FN (N N' : M2) (p' : Nat) : Prop := N' 229 0 = nI p' ∧ ∀ k, (k ≤ 226 ∨ 230 < k) → N' k = N k
theorem FC.trans {F F1 F2 : M2} {p q : Nat} (h1 : FC F F1 p) (h2 : FC F1 F2 q) : FC F F2 q := ⟨h2.1, fun k hk => (h2.2 k hk).trans (h1.2 k hk)⟩
theorem FN.trans {F F1 F2 : M2} {p q : Nat} (h1 : FN F F1 p) (h2 : FN F1 F2 q) : FN F F2 q := ⟨h2.1, fun k hk => (h2.2 k hk).trans (h1.2 k hk)⟩
abbrev W2 : Type := M2 → L2 → (Int32 → M2 → L2 → Prop) → Prop
abbrev W8 : Type := M2 → M2 → (Int32 → M2 → M2 → Prop) → Prop
def FAIL (m : Nat) (w2 : W2) (w8 : W8) (F : M2) (L : L2) (N P : M2) : Prop := ∃ (p' : Nat) (F' N' P' : M2), p' ≤ m ∧ FC F F' p' ∧ FN N N' p' ∧ (∀ K, K 0 F' L → w2 F L K) ∧ (∀ K, K 0 N' P' → w8 N P K)
section STEP
variable {κ : Nat → Int32} {m : Nat} {val : Nat → Int64} {N0 : M2} {F N P : M2} {L : L2} {p dp : Nat}
theorem KIN.lt (h : KIN κ m) {c : Int32} (hp : p ≤ m) (hk : κ p = c) (hc : c < 900) : p < m := by
  rcases Nat.lt_or_ge p m with h1 | h1
  · exact h1
  · have : p = m := by omega
    subst this
    exact absurd (hk ▸ hc) h.2.2.2
theorem SC.get (h : SC κ m val F L p) (hK : KIN κ m) : atv (F 74) 401 (F 66 0) = ck (κ p) := by
  have hm := hK.1
  have hp := h.2.1
  rw [h.1, atv_nI (by omega) (by decide), h.2.2.1 p hp]
theorem SC.inc (h : SC κ m val F L p) : up2 F 66 (fun _ => F 66 0 + 1) = cT (p + 1) F := by
  rw [h.1, nI_1]
  rfl
theorem SC.to (h : SC κ m val F L p) {q : Nat} (hq : q ≤ m) (its : List IT) : SC κ m val (cT q (cE val L its F)) L q := by
  refine ⟨up2_s _ _ _, hq, fun i hi => ?_, h.2.2.2⟩
  unfold cT
  rw [up2_n _ _ (by decide), cE_n val L (Or.inr (Or.inl (by decide)))]
  exact h.2.2.1 i hi
theorem SC.adv (h : SC κ m val F L p) {q : Nat} (hq : q ≤ m) : SC κ m val (cT q F) L q := h.to hq []
theorem SN.get (h : SN κ m N0 N P p dp) (hK : KIN κ m) : inb (N 229 0) 401 ∧ N 224 (N 229 0).toInt.toNat = κ p := by
  have hm := hK.1
  have hp := h.2.2.2.2.1
  rw [h.1]
  dsimp only
  rw [tn_nI (by omega)]
  exact ⟨inb_nI (by omega) (by decide), by rw [h.2.2.1.2.1, h.2.2.2.1 p hp]⟩
theorem SN.inc (h : SN κ m N0 N P p dp) : up2 N 229 (fun _ => N 229 0 + 1) = rT (p + 1) N := by
  rw [h.1, nI_1]
  rfl
/-- how long the code of items is; how many of them name something -/
def lenR : List IT → Nat
  | [] => 0
  | q :: its => (if q.1 = 4 ∨ q.1 = 7 ∨ isNm q.1 then 2 else 1) + lenR its
theorem lenR_le : ∀ its : List IT, lenR its ≤ 2 * its.length
  | [] => Nat.le_refl _
  | q :: its => by
    have := lenR_le its
    simp only [lenR, List.length_cons]
    split <;> omega
theorem nms_le (its : List IT) : (nms its).length ≤ its.length := by
  unfold nms
  rw [List.length_map]
  exact List.length_filter_le _ _
theorem pt_264 (x : Int32) : pt P x 264 0 = P 264 0 + 1 := by unfold pt; rw [up2_s]
theorem pt_n (x : Int32) {k : Nat} (h1 : k ≠ 263) (h2 : k ≠ 264) : pt P x k = P k := by unfold pt; rw [up2_n _ _ h2, up2_n _ _ h1]
theorem opn_n {k : Nat} (h1 : k ≠ 265) (h2 : k ≠ 266) : opn P k = P k := by unfold opn; rw [up2_n _ _ h2, up2_n _ _ h1]
theorem opn_266 : opn P 266 0 = P 266 0 + 1 := by unfold opn; rw [up2_s]
theorem rE1_264 (q : IT) {c : Nat} (h : P 264 0 = nI c) : rE1 val P q 264 0 = nI (c + (if q.1 = 4 ∨ q.1 = 7 ∨ isNm q.1 then 2 else 1)) := by
  unfold rE1
  by_cases c1 : q.1 = 4 ∨ q.1 = 7
  · rw [if_pos c1, if_pos (c1.elim Or.inl (fun z => Or.inr (Or.inl z))), pt_264, pt_264, h, nI_1, nI_1]
  · rw [if_neg c1]
    by_cases c2 : isNm q.1
    · rw [if_pos c2, if_pos (Or.inr (Or.inr c2)), pt_264, opn_n (by decide) (by decide), pt_264, h, nI_1, nI_1]
    · rw [if_neg c2, if_neg (fun z => z.elim (fun y => c1 (Or.inl y)) (fun y => y.elim (fun x => c1 (Or.inr x)) c2)), pt_264, h, nI_1]
theorem rE1_266 (q : IT) {o : Nat} (h : P 266 0 = nI o) : rE1 val P q 266 0 = nI (o + (if isNm q.1 then 1 else 0)) := by
  unfold rE1
  by_cases c1 : q.1 = 4 ∨ q.1 = 7
  · have c2 : ¬ isNm q.1 := by
      rcases c1 with z | z <;> rw [z] <;> decide
    rw [if_pos c1, if_neg c2, pt_n _ (by decide) (by decide), pt_n _ (by decide) (by decide), h, Nat.add_zero]
  · rw [if_neg c1]
    by_cases c2 : isNm q.1
    · rw [if_pos c2, if_pos c2, pt_n _ (by decide) (by decide), opn_266, pt_n _ (by decide) (by decide), h, nI_1]
    · rw [if_neg c2, if_neg c2, pt_n _ (by decide) (by decide), h, Nat.add_zero]
theorem rE_264 : ∀ (its : List IT) {P : M2} {c : Nat}, P 264 0 = nI c → rE val its P 264 0 = nI (c + lenR its)
  | [], _, _, h => h
  | q :: its, P, c, h => by
    show rE val its (rE1 val P q) 264 0 = _
    rw [rE_264 its (rE1_264 q h)]
    simp only [lenR, Nat.add_assoc]
theorem rE_266 : ∀ (its : List IT) {P : M2} {o : Nat}, P 266 0 = nI o → rE val its P 266 0 = nI (o + (nms its).length)
  | [], _, _, h => h
  | q :: its, P, o, h => by
    show rE val its (rE1 val P q) 266 0 = _
    rw [rE_266 its (rE1_266 q h)]
    have : (nms (q :: its)).length = (if isNm q.1 then 1 else 0) + (nms its).length := by
      unfold nms
      by_cases c : isNm q.1
      · rw [List.filter_cons, if_pos (decide_eq_true c), if_pos c]
        simp
        omega
      · rw [List.filter_cons, if_neg (by rw [decide_eq_false c]; decide), if_neg c]
        simp
    rw [this, Nat.add_assoc]
theorem SN.to (h : SN κ m N0 N P p dp) {q : Nat} {a b : List Bool} {its : List IT} (hG : GI κ m p q a b its) : SN κ m N0 (rT q (rR its N)) (rE val its P) q dp := by
  obtain ⟨h1, h2, h3, h4, h5, c, o, h6, h7, h8, h9⟩ := h
  have hl := lenR_le its
  have hn := nms_le its
  have hg := hG.1
  refine ⟨up2_s _ _ _, ?_, ⟨?_, ?_, ?_, ?_⟩, h4, hG.2.1, c + lenR its, o + (nms its).length, rE_264 its h6, by omega, rE_266 its h8, by omega⟩
  · unfold rT
    rw [up2_n _ _ (by decide), rR_n (by decide), h2]
  · unfold rT
    rw [up2_n _ _ (by decide), rR_n (by decide), h3.1]
  · unfold rT
    rw [up2_n _ _ (by decide), rR_n (by decide), h3.2.1]
  · unfold rT
    rw [up2_n _ _ (by decide), rR_n (by decide), h3.2.2.1]
  · unfold rT
    rw [up2_n _ _ (by decide), rR_n (by decide), h3.2.2.2]
theorem SN.adv (h : SN κ m N0 N P p dp) {q : Nat} (hq : q ≤ m) (hpq : p ≤ q) : SN κ m N0 (rT q N) P q dp := h.to (val := fun _ => 0) (its := []) (a := []) (b := []) ⟨by simpa using hpq, hq, fun _ => rfl, hpq, fun _ h => nomatch h⟩
/-! the class -/
theorem c_peek {K : Int32 → Prop} (h : SC κ m val F L p) (hK : KIN κ m) (hk : K (ck (κ p))) : wp_X2_peek F L K := by
  unfold wp_X2_peek
  rw [h.get hK]
  exact hk
theorem c_take {K : Int32 → M2 → L2 → Prop} (h : SC κ m val F L p) (hK : KIN κ m) {x : Int32} (h1 : ck (κ p) = x → K 1 (cT (p + 1) F) L) (h0 : ¬ ck (κ p) = x → K 0 F L) : wp_X2_take F L x K := by
  unfold wp_X2_take
  rw [h.get hK]
  refine And.intro (fun c F1 e1 => ?_) (fun c => h0 c)
  rw [h.inc] at e1
  subst e1
  exact h1 c
theorem c_deeper {K : Int32 → M2 → L2 → Prop} (h : SC κ m val F L p) (hK : KIN κ m) {x : Int32} (hd : dp ≤ 8) (hx : ck (κ p) = x) (h1 : dp < 8 → K 1 (cT (p + 1) F) L) (h0 : dp = 8 → K 0 F L) : wp_X2_takeDeeper F L x (nI dp) K := by
  refine And.intro (fun c => h0 ?_) (fun c => c_take h hK (fun _ => And.intro (fun z => absurd z (by decide)) (fun _ => h1 ?_)) (fun z => absurd hx z))
  · have c : nI 8 ≤ nI dp := c
    rw [le_nI (by omega) (by omega)] at c
    omega
  · have c : ¬ nI 8 ≤ nI dp := c
    rw [le_nI (by omega) (by omega)] at c
    omega
theorem c_emit {K : Int32 → M2 → L2 → Prop} {op x : Int32} (h : K 1 (em F op x) L) : wp_X2_emit F L op x K := by
  intro F1 e1 F2 e2 F3 e3
  have e45 : F1 45 = F 45 := by
    rw [e1, up2_n _ _ (by decide)]
  have e47 : F1 47 = F 47 := by
    rw [e1, up2_n _ _ (by decide)]
  have e45' : F2 45 = F 45 := by
    rw [e2, up2_n _ _ (by decide), e45]
  rw [e45, e47] at e2
  rw [e45'] at e3
  have : F3 = em F op x := by
    rw [e3, e2, e1]
    rfl
  rw [this]
  exact h
/-- an operation that names nothing -/
theorem c_op {K : Int32 → M2 → L2 → Prop} {op : Int32} (hn : ¬ isNm op) (h4 : op ≠ 4) (h7 : op ≠ 7) (h : K 1 (cE1 val L F (op, 0)) L) : wp_X2_emit F L op 0 K := by
  refine c_emit ?_
  have : cE1 val L F (op, 0) = em F op 0 := by
    unfold cE1 opV
    dsimp only
    rw [if_neg (fun z => hn z.1), if_neg (fun z => z.elim h4 h7), if_neg (fun z => hn (z.elim Or.inl (fun y => Or.inr (Or.inr (Or.inr y))))), if_neg (fun z => hn (z.elim (fun y => Or.inr (Or.inl y)) (fun y => Or.inr (Or.inr (Or.inl y)))))]
  rw [this] at h
  exact h
theorem c_tell {K : M2 → L2 → Prop} {e : Int32} {t : Nat} (h : K (tf F e t) L) : wp_X2_tellFault F L e (nI t) K := by
  unfold tf at h
  refine And.intro (fun c => ?_) (fun c F1 e1 F2 e2 => ?_)
  · rw [if_neg c] at h
    exact h
  · rw [if_pos c] at h
    subst e1 e2
    exact h
theorem lg_cmp0 {x y : Int64} : lg_cmp x y = 0 ↔ x = y := by
  unfold lg_cmp
  by_cases c : x = y
  · subst c
    by_cases c2 : x > x
    · exact absurd c2 Int64.lt_irrefl
    · simp [c2]
  · by_cases c2 : x > y
    · simp [c2, c]
    · simp [c2, c]
theorem l_indexOf_nB {K : Int32 → Prop} {told : Int32} {v : Int64} : ∀ (d j f : Nat), j + d = 5 → d < f → K (ffr (fun i => nI i < told ∧ L 61 i = v) d j) → wl_X2_indexOf_nB_3 F L K f told v (nI j) := by
  intro d
  induction d with
  | zero =>
    intro j f hj hf h
    obtain ⟨f, rfl, _⟩ := fuel hf
    have : j = 5 := by omega
    subst this
    exact And.intro (fun _ => h) (fun _ => And.intro (fun _ => h) (fun c => absurd (by decide) c))
  | succ d ih =>
    intro j f hj hf h
    obtain ⟨f, rfl, _⟩ := fuel hf
    unfold ffr at h
    have tj : (nI j).toInt.toNat = j := tn_nI (by omega)
    refine And.intro (fun c => ?_) (fun c => And.intro (fun c2 => ?_) (fun _ => ⟨inb_nI (by omega) (by decide), ?_⟩))
    · rcases ffr_spec (p := fun i => nI i < told ∧ L 61 i = v) d (j + 1) with ⟨e1, _⟩ | ⟨i, h1, h2, h3, _⟩
      · rw [if_neg (fun z => Int32.not_lt.mpr c z.1), e1] at h
        exact h
      · have : nI j < nI i := (lt_nI (by omega) (by omega)).mpr (by omega)
        exact absurd (Int32.lt_trans this h3.1) (Int32.not_lt.mpr c)
    · have c2 : nI 5 ≤ nI j := c2
      rw [le_nI (by omega) (by omega)] at c2
      omega
    · rw [tj]
      refine And.intro (fun c3 w ew => ?_) (fun c3 => ?_)
      · subst ew
        rw [nI_1]
        rw [if_neg (fun z => c3 (lg_cmp0.mpr z.2))] at h
        exact ih (j + 1) f (by omega) (by omega) h
      · rw [if_pos ⟨Int32.not_le.mp c, lg_cmp0.mp c3⟩] at h
        exact h
theorem c_indexOf_nB {K : Int32 → Prop} {told : Int32} {v : Int64} (h : K (idx (L 61) told 5 v)) : wp_X2_indexOf_nB F L told v K := l_indexOf_nB 5 0 fK (by omega) (by rw [fK_eq]; omega) h
theorem l_indexOf_nS {K : Int32 → Prop} {told : Int32} {v : Int64} : ∀ (d j f : Nat), j + d = 4 → d < f → K (ffr (fun i => nI i < told ∧ L 62 i = v) d j) → wl_X2_indexOf_nS_3 F L K f told v (nI j) := by
  intro d
  induction d with
  | zero =>
    intro j f hj hf h
    obtain ⟨f, rfl, _⟩ := fuel hf
    have : j = 4 := by omega
    subst this
    exact And.intro (fun _ => h) (fun _ => And.intro (fun _ => h) (fun c => absurd (by decide) c))
  | succ d ih =>
    intro j f hj hf h
    obtain ⟨f, rfl, _⟩ := fuel hf
    unfold ffr at h
    have tj : (nI j).toInt.toNat = j := tn_nI (by omega)
    refine And.intro (fun c => ?_) (fun c => And.intro (fun c2 => ?_) (fun _ => ⟨inb_nI (by omega) (by decide), ?_⟩))
    · rcases ffr_spec (p := fun i => nI i < told ∧ L 62 i = v) d (j + 1) with ⟨e1, _⟩ | ⟨i, h1, h2, h3, _⟩
      · rw [if_neg (fun z => Int32.not_lt.mpr c z.1), e1] at h
        exact h
      · have : nI j < nI i := (lt_nI (by omega) (by omega)).mpr (by omega)
        exact absurd (Int32.lt_trans this h3.1) (Int32.not_lt.mpr c)
    · have c2 : nI 4 ≤ nI j := c2
      rw [le_nI (by omega) (by omega)] at c2
      omega
    · rw [tj]
      refine And.intro (fun c3 w ew => ?_) (fun c3 => ?_)
      · subst ew
        rw [nI_1]
        rw [if_neg (fun z => c3 (lg_cmp0.mpr z.2))] at h
        exact ih (j + 1) f (by omega) (by omega) h
      · rw [if_pos ⟨Int32.not_le.mp c, lg_cmp0.mp c3⟩] at h
        exact h
theorem c_indexOf_nS {K : Int32 → Prop} {told : Int32} {v : Int64} (h : K (idx (L 62) told 4 v)) : wp_X2_indexOf_nS F L told v K := l_indexOf_nS 4 0 fK (by omega) (by rw [fK_eq]; omega) h
theorem l_indexOf_nL {K : Int32 → Prop} {told : Int32} {v : Int64} : ∀ (d j f : Nat), j + d = 6 → d < f → K (ffr (fun i => nI i < told ∧ L 63 i = v) d j) → wl_X2_indexOf_nL_3 F L K f told v (nI j) := by
  intro d
  induction d with
  | zero =>
    intro j f hj hf h
    obtain ⟨f, rfl, _⟩ := fuel hf
    have : j = 6 := by omega
    subst this
    exact And.intro (fun _ => h) (fun _ => And.intro (fun _ => h) (fun c => absurd (by decide) c))
  | succ d ih =>
    intro j f hj hf h
    obtain ⟨f, rfl, _⟩ := fuel hf
    unfold ffr at h
    have tj : (nI j).toInt.toNat = j := tn_nI (by omega)
    refine And.intro (fun c => ?_) (fun c => And.intro (fun c2 => ?_) (fun _ => ⟨inb_nI (by omega) (by decide), ?_⟩))
    · rcases ffr_spec (p := fun i => nI i < told ∧ L 63 i = v) d (j + 1) with ⟨e1, _⟩ | ⟨i, h1, h2, h3, _⟩
      · rw [if_neg (fun z => Int32.not_lt.mpr c z.1), e1] at h
        exact h
      · have : nI j < nI i := (lt_nI (by omega) (by omega)).mpr (by omega)
        exact absurd (Int32.lt_trans this h3.1) (Int32.not_lt.mpr c)
    · have c2 : nI 6 ≤ nI j := c2
      rw [le_nI (by omega) (by omega)] at c2
      omega
    · rw [tj]
      refine And.intro (fun c3 w ew => ?_) (fun c3 => ?_)
      · subst ew
        rw [nI_1]
        rw [if_neg (fun z => c3 (lg_cmp0.mpr z.2))] at h
        exact ih (j + 1) f (by omega) (by omega) h
      · rw [if_pos ⟨Int32.not_le.mp c, lg_cmp0.mp c3⟩] at h
        exact h
theorem c_indexOf_nL {K : Int32 → Prop} {told : Int32} {v : Int64} (h : K (idx (L 63) told 6 v)) : wp_X2_indexOf_nL F L told v K := l_indexOf_nL 6 0 fK (by omega) (by rw [fK_eq]; omega) h
theorem l_indexOf_nO {K : Int32 → Prop} {told : Int32} {v : Int64} : ∀ (d j f : Nat), j + d = 8 → d < f → K (ffr (fun i => nI i < told ∧ L 64 i = v) d j) → wl_X2_indexOf_nO_3 F L K f told v (nI j) := by
  intro d
  induction d with
  | zero =>
    intro j f hj hf h
    obtain ⟨f, rfl, _⟩ := fuel hf
    have : j = 8 := by omega
    subst this
    exact And.intro (fun _ => h) (fun _ => And.intro (fun _ => h) (fun c => absurd (by decide) c))
  | succ d ih =>
    intro j f hj hf h
    obtain ⟨f, rfl, _⟩ := fuel hf
    unfold ffr at h
    have tj : (nI j).toInt.toNat = j := tn_nI (by omega)
    refine And.intro (fun c => ?_) (fun c => And.intro (fun c2 => ?_) (fun _ => ⟨inb_nI (by omega) (by decide), ?_⟩))
    · rcases ffr_spec (p := fun i => nI i < told ∧ L 64 i = v) d (j + 1) with ⟨e1, _⟩ | ⟨i, h1, h2, h3, _⟩
      · rw [if_neg (fun z => Int32.not_lt.mpr c z.1), e1] at h
        exact h
      · have : nI j < nI i := (lt_nI (by omega) (by omega)).mpr (by omega)
        exact absurd (Int32.lt_trans this h3.1) (Int32.not_lt.mpr c)
    · have c2 : nI 8 ≤ nI j := c2
      rw [le_nI (by omega) (by omega)] at c2
      omega
    · rw [tj]
      refine And.intro (fun c3 w ew => ?_) (fun c3 => ?_)
      · subst ew
        rw [nI_1]
        rw [if_neg (fun z => c3 (lg_cmp0.mpr z.2))] at h
        exact ih (j + 1) f (by omega) (by omega) h
      · rw [if_pos ⟨Int32.not_le.mp c, lg_cmp0.mp c3⟩] at h
        exact h
theorem c_indexOf_nO {K : Int32 → Prop} {told : Int32} {v : Int64} (h : K (idx (L 64) told 8 v)) : wp_X2_indexOf_nO F L told v K := l_indexOf_nO 8 0 fK (by omega) (by rw [fK_eq]; omega) h
theorem SC.vl (h : SC κ m val F L p) (hK : KIN κ m) {t : Nat} (ht : t ≤ m) : atl (L 76) 401 (nI t) = val t := by
  have hm := hK.1
  rw [atl_nI (by omega) (by decide), h.2.2.2 t ht]
theorem c_known_nL {K : Int32 → M2 → L2 → Prop} (h : SC κ m val F L p) (hK : KIN κ m) {told : Int32} {t : Nat} (ht : t ≤ m) (hk : K (idx (L 63) told 6 (val t)) (if idx (L 63) told 6 (val t) = -1 then tf F 3 t else F) L) : wp_X2_needKnown_nL F L told (nI t) K := by
  unfold wp_X2_needKnown_nL
  rw [h.vl hK ht]
  refine c_indexOf_nL (And.intro (fun c => ?_) (fun c => c_tell ?_))
  · rw [if_neg c] at hk
    exact hk
  · rw [if_pos c] at hk
    exact hk
theorem c_ofOne_nL {K : Int32 → M2 → L2 → Prop} (h : SC κ m val F L p) (hK : KIN κ m) (hpm : p < m) {op : Int32} (hop : op = 8 ∨ op = 11) (h1 : ck (κ (p + 1)) = 2 → K 1 (cT (p + 2) (cE1 val L F (op, p + 1))) L) (h0 : ¬ ck (κ (p + 1)) = 2 → K 0 (cT (p + 1) F) L) : wp_X2_ofOne_nL F L op (F 23 0) K := by
  have hm := hK.1
  intro F1 e1
  rw [h.inc] at e1
  subst e1
  have hs := h.adv (q := p + 1) (by omega)
  refine c_take hs hK (fun c => And.intro (fun z => absurd z (by decide)) (fun _ => ?_)) (fun c => And.intro (fun _ => h0 c) (fun z => absurd rfl z))
  have hp1 : p + 1 < m := by
    rcases Nat.lt_or_ge (p + 1) m with h1 | h1
    · exact h1
    · have e : p + 1 = m := by omega
      have hv := hK.2.1 m (Nat.le_refl _)
      rw [e] at c
      have hk := (ck_2 hv).mp c
      exact absurd (hk ▸ (by decide : (40 : Int32) < 900)) hK.2.2.2
  rw [cT_cT]
  have hs2 := h.adv (q := p + 1 + 1) (by omega)
  have e66 : cT (p + 1 + 1) F 66 0 - 1 = nI (p + 1) := by
    rw [hs2.1]
    exact nI_pred (p + 1)
  rw [e66]
  refine c_known_nL hs2 hK (by omega) (c_emit (And.intro (fun z => absurd z (by decide)) (fun _ => ?_)))
  have h1 := h1 c
  have hn : isNm op := by rcases hop with rfl | rfl <;> decide
  have eo : opV val F L (op, p + 1) = idx (L 63) (F 23 0) 6 (val (p + 1)) := by
    rcases hop with rfl | rfl <;> rfl
  have ec : cE1 val L F (op, p + 1) = em (if idx (L 63) (F 23 0) 6 (val (p + 1)) = -1 then tf F 3 (p + 1) else F) op (idx (L 63) (F 23 0) 6 (val (p + 1))) := by
    unfold cE1
    rw [eo]
    by_cases c2 : idx (L 63) (F 23 0) 6 (val (p + 1)) = -1
    · rw [if_pos ⟨hn, c2⟩, if_pos c2]
    · rw [if_neg (fun z => c2 z.2), if_neg c2]
  rw [ec] at h1
  by_cases c2 : idx (L 63) (F 23 0) 6 (val (p + 1)) = -1
  · rw [if_pos c2] at h1 ⊢
    rw [cT_tf, cT_em]
    exact h1
  · rw [if_neg c2] at h1 ⊢
    rw [cT_em]
    exact h1
theorem c_known_nO {K : Int32 → M2 → L2 → Prop} (h : SC κ m val F L p) (hK : KIN κ m) {told : Int32} {t : Nat} (ht : t ≤ m) (hk : K (idx (L 64) told 8 (val t)) (if idx (L 64) told 8 (val t) = -1 then tf F 3 t else F) L) : wp_X2_needKnown_nO F L told (nI t) K := by
  unfold wp_X2_needKnown_nO
  rw [h.vl hK ht]
  refine c_indexOf_nO (And.intro (fun c => ?_) (fun c => c_tell ?_))
  · rw [if_neg c] at hk
    exact hk
  · rw [if_pos c] at hk
    exact hk
theorem c_ofOne_nO {K : Int32 → M2 → L2 → Prop} (h : SC κ m val F L p) (hK : KIN κ m) (hpm : p < m) {op : Int32} (hop : op = 9 ∨ op = 10) (h1 : ck (κ (p + 1)) = 2 → K 1 (cT (p + 2) (cE1 val L F (op, p + 1))) L) (h0 : ¬ ck (κ (p + 1)) = 2 → K 0 (cT (p + 1) F) L) : wp_X2_ofOne_nO F L op (F 24 0) K := by
  have hm := hK.1
  intro F1 e1
  rw [h.inc] at e1
  subst e1
  have hs := h.adv (q := p + 1) (by omega)
  refine c_take hs hK (fun c => And.intro (fun z => absurd z (by decide)) (fun _ => ?_)) (fun c => And.intro (fun _ => h0 c) (fun z => absurd rfl z))
  have hp1 : p + 1 < m := by
    rcases Nat.lt_or_ge (p + 1) m with h1 | h1
    · exact h1
    · have e : p + 1 = m := by omega
      have hv := hK.2.1 m (Nat.le_refl _)
      rw [e] at c
      have hk := (ck_2 hv).mp c
      exact absurd (hk ▸ (by decide : (40 : Int32) < 900)) hK.2.2.2
  rw [cT_cT]
  have hs2 := h.adv (q := p + 1 + 1) (by omega)
  have e66 : cT (p + 1 + 1) F 66 0 - 1 = nI (p + 1) := by
    rw [hs2.1]
    exact nI_pred (p + 1)
  rw [e66]
  refine c_known_nO hs2 hK (by omega) (c_emit (And.intro (fun z => absurd z (by decide)) (fun _ => ?_)))
  have h1 := h1 c
  have hn : isNm op := by rcases hop with rfl | rfl <;> decide
  have eo : opV val F L (op, p + 1) = idx (L 64) (F 24 0) 8 (val (p + 1)) := by
    rcases hop with rfl | rfl <;> rfl
  have ec : cE1 val L F (op, p + 1) = em (if idx (L 64) (F 24 0) 8 (val (p + 1)) = -1 then tf F 3 (p + 1) else F) op (idx (L 64) (F 24 0) 8 (val (p + 1))) := by
    unfold cE1
    rw [eo]
    by_cases c2 : idx (L 64) (F 24 0) 8 (val (p + 1)) = -1
    · rw [if_pos ⟨hn, c2⟩, if_pos c2]
    · rw [if_neg (fun z => c2 z.2), if_neg c2]
  rw [ec] at h1
  by_cases c2 : idx (L 64) (F 24 0) 8 (val (p + 1)) = -1
  · rw [if_pos c2] at h1 ⊢
    rw [cT_tf, cT_em]
    exact h1
  · rw [if_neg c2] at h1 ⊢
    rw [cT_em]
    exact h1
/-! the reference -/
theorem r_is {K : Int32 → Prop} (h : SN κ m N0 N P p dp) (hK : KIN κ m) {x : Int32} (h1 : κ p = x → K 1) (h0 : ¬ κ p = x → K 0) : wp_X8_is N P x K := by
  obtain ⟨g1, g2⟩ := h.get hK
  refine ⟨g1, ?_⟩
  rw [g2]
  exact And.intro h0 h1
theorem r_sign {K : Int32 → Prop} (h : SN κ m N0 N P p dp) (hK : KIN κ m) {x y : Int32} (e : 50 + x = y) (h1 : κ p = y → K 1) (h0 : ¬ κ p = y → K 0) : wp_X8_isSign N P x K := by
  obtain ⟨g1, g2⟩ := h.get hK
  refine ⟨g1, ?_⟩
  rw [g2, e]
  exact And.intro h0 h1
theorem r_eat {K : Int32 → M2 → M2 → Prop} (h : SN κ m N0 N P p dp) (hK : KIN κ m) {x : Int32} (h1 : κ p = x → K 1 (rT (p + 1) N) P) (h0 : ¬ κ p = x → K 0 N P) : wp_X8_eat N P x K := by
  refine r_is h hK (fun c => And.intro (fun _ N1 e1 => ?_) (fun z => absurd z (by decide))) (fun c => And.intro (fun z => absurd rfl z) (fun _ => h0 c))
  rw [h.inc] at e1
  subst e1
  exact h1 c
theorem r_eatSign {K : Int32 → M2 → M2 → Prop} (h : SN κ m N0 N P p dp) (hK : KIN κ m) {x y : Int32} (e : 50 + x = y) (h1 : κ p = y → K 1 (rT (p + 1) N) P) (h0 : ¬ κ p = y → K 0 N P) : wp_X8_eatSign N P x K := by
  unfold wp_X8_eatSign
  rw [e]
  exact r_eat h hK (fun c => ⟨by decide, h1 c⟩) (fun c => ⟨by decide, h0 c⟩)
theorem r_put {K : M2 → M2 → Prop} {c : Nat} (hc : P 264 0 = nI c) (h8 : c < 800) {x : Int32} (h : K N (pt P x)) : wp_X8_put N P x K := by
  refine ⟨by rw [hc]; exact inb_nI h8 (by decide), fun P1 e1 P2 e2 => ?_⟩
  have : P2 = pt P x := by
    rw [e2, e1, up2_n _ _ (by decide : (264 : Nat) ≠ 263)]
    rfl
  rw [this]
  exact h
/-- an operation that names nothing -/
theorem r_op {K : M2 → M2 → Prop} (h : SN κ m N0 N P p dp) (hK : KIN κ m) (hp0 : p < m) {op x : Int32} (hx : encV op = x) (hn : ¬ isNm op) (h4 : op ≠ 4) (h7 : op ≠ 7) (hk : K N (rE1 val P (op, 0))) : wp_X8_put N P x K := by
  obtain ⟨c, o, h6, h7', _⟩ := h.2.2.2.2.2
  have hm := hK.1
  refine r_put h6 (by omega) ?_
  have : rE1 val P (op, 0) = pt P x := by
    unfold rE1
    dsimp only
    rw [if_neg (fun z => z.elim h4 h7), if_neg hn, hx]
  rw [this] at hk
  exact hk
theorem r_deeper {K : Int32 → M2 → M2 → Prop} (h : SN κ m N0 N P p dp) (hd : dp ≤ 8) (h1 : dp < 8 → K 1 (rT (p + 1) (up2 N 230 (fun _ => nI (dp + 1)))) P) (h0 : dp = 8 → K 0 N P) : wp_X8_isDeeper N P K := by
  have e230 : N 230 0 = nI dp := by rw [h.2.1]
  refine And.intro (fun c N1 e1 N2 e2 => ?_) (fun c => h0 ?_)
  · rw [e230, nI_1] at e1
    subst e1
    rw [up2_n _ _ (by decide), h.1, nI_1] at e2
    subst e2
    refine h1 ?_
    rw [e230] at c
    rcases Nat.lt_or_ge dp 8 with h | h
    · exact h
    · exact absurd (by rw [show dp = 8 by omega]; rfl) c
  · rw [e230] at c
    have c : nI dp = nI 8 := c
    exact nI_inj (by omega) (by omega) c
theorem SN.deep (h : SN κ m N0 N P p dp) (hq : p + 1 ≤ m) {d' : Nat} : SN κ m N0 (rT (p + 1) (up2 N 230 (fun _ => nI d'))) P (p + 1) d' := by
  obtain ⟨h1, h2, h3, h4, h5, c, o, h6, h7, h8, h9⟩ := h
  refine ⟨up2_s _ _ _, ?_, ⟨?_, ?_, ?_, ?_⟩, h4, hq, c, o, h6, by omega, h8, by omega⟩
  · unfold rT
    rw [up2_n _ _ (by decide), up2_s]
  · unfold rT
    rw [up2_n _ _ (by decide), up2_n _ _ (by decide), h3.1]
  · unfold rT
    rw [up2_n _ _ (by decide), up2_n _ _ (by decide), h3.2.1]
  · unfold rT
    rw [up2_n _ _ (by decide), up2_n _ _ (by decide), h3.2.2.1]
  · unfold rT
    rw [up2_n _ _ (by decide), up2_n _ _ (by decide), h3.2.2.2]
/-- the depth is put back -/
theorem up_back (h : SN κ m N0 N P p dp) {q d' : Nat} (its : List IT) : up2 (rT q (rR its (rT (p + 1) (up2 N 230 (fun _ => nI (dp + 1)))))) 230 (fun _ => rT q (rR its (rT (p + 1) (up2 N 230 (fun _ => nI (dp + 1))))) 230 0 - 1) = rT q (rR its N) := by
  have e1 : rR its (rT (p + 1) (up2 N 230 (fun _ => nI (dp + 1)))) = rT (p + 1) (up2 (rR its N) 230 (fun _ => nI (dp + 1))) := by
    rw [rT_rR, up_rR (by decide)]
  rw [e1, rT_rT]
  have e2 : rT q (up2 (rR its N) 230 (fun _ => nI (dp + 1))) 230 0 - 1 = nI dp := by
    unfold rT
    rw [up2_n _ _ (by decide), up2_s]
    exact nI_pred dp
  rw [e2]
  unfold rT
  rw [up2_swap (by decide : (229 : Nat) ≠ 230), up2_up2]
  have e3 : up2 (rR its N) 230 (fun _ => nI dp) = rR its N := by
    have : (fun _ : Nat => nI dp) = rR its N 230 := by rw [rR_n (by decide), h.2.1]
    rw [this, up2_id]
  rw [e3]
theorem r_eatAs {K : Int32 → M2 → M2 → Prop} (h : SN κ m N0 N P p dp) (hK : KIN κ m) {x as : Int32} (h1 : κ p = x → K 1 (rT (p + 1) (up2 N 227 (upd (N 227) p as))) P) (h0 : ¬ κ p = x → K 0 (up2 N 227 (upd (N 227) p as)) P) : wp_X8_eatAs N P x as K := by
  have hm := hK.1
  have hp := h.2.2.2.2.1
  obtain ⟨g1, g2⟩ := h.get hK
  refine ⟨g1, fun N1 e1 => ?_⟩
  rw [h.1] at e1
  dsimp only at e1
  rw [tn_nI (by omega)] at e1
  have hs : SN κ m N0 N1 P p dp := by
    obtain ⟨y1, y2, y3, y4, y5, y6⟩ := h
    subst e1
    exact ⟨by rw [up2_n _ _ (by decide), y1], by rw [up2_n _ _ (by decide), y2], ⟨by rw [up2_n _ _ (by decide), y3.1], by rw [up2_n _ _ (by decide), y3.2.1], by rw [up2_n _ _ (by decide), y3.2.2.1], by rw [up2_n _ _ (by decide), y3.2.2.2]⟩, y4, y5, y6⟩
  subst e1
  exact r_eat hs hK (fun c => ⟨by decide, h1 c⟩) (fun c => ⟨by decide, h0 c⟩)
/-- a word and the name behind it -/
theorem r_named {K : Int32 → M2 → M2 → Prop} (h : SN κ m N0 N P p dp) (hK : KIN κ m) (hpm : p < m) {op as : Int32} (hn : isNm op) (hk : κ p = encV op) (has : as = if op = 8 ∨ op = 11 then 20 else 21) (h1 : κ (p + 1) = 40 → K 1 (rT (p + 2) (rR1 N (op, p + 1))) (rE1 val P (op, p + 1))) (h0 : ¬ κ (p + 1) = 40 → K 0 (up2 (rT (p + 1) N) 227 (upd (N 227) (p + 1) as)) (pt (opn (pt P (encV op))) (nI (p + 1)))) : wp_X8_isNamed N P as K := by
  have hm := hK.1
  obtain ⟨g1, g2⟩ := h.get hK
  obtain ⟨c, o, h6, h7, h8, h9⟩ := h.2.2.2.2.2
  refine ⟨g1, ?_⟩
  rw [g2, hk]
  refine r_put h6 (by omega) (fun N1 e1 => ?_)
  rw [h.inc] at e1
  subst e1
  have e266 : pt P (encV op) 266 0 = nI o := by rw [pt_n _ (by decide) (by decide), h8]
  refine ⟨by rw [e266]; exact inb_nI (by omega) (by decide), fun P1 e1 P2 e2 => ?_⟩
  have eP : P2 = opn (pt P (encV op)) := by
    rw [e2, e1, up2_n _ _ (by decide : (266 : Nat) ≠ 265)]
    rfl
  subst eP
  have e264 : opn (pt P (encV op)) 264 0 = nI (c + 1) := by rw [opn_n (by decide) (by decide), pt_264, h6, nI_1]
  have e229 : rT (p + 1) N 229 0 = nI (p + 1) := by
    unfold rT
    rw [up2_s]
  rw [e229]
  refine r_put e264 (by omega) ?_
  have hs := h.adv (q := p + 1) (by omega) (by omega)
  have hs' : SN κ m N0 (rT (p + 1) N) (pt (opn (pt P (encV op))) (nI (p + 1))) (p + 1) dp := by
    obtain ⟨y1, y2, y3, y4, y5, _⟩ := hs
    exact ⟨y1, y2, y3, y4, y5, c + 2, o + 1, by rw [pt_264, e264, nI_1], by omega, by rw [pt_n _ (by decide) (by decide), opn_266, e266, nI_1], by omega⟩
  have e227 : rT (p + 1) N 227 = N 227 := by
    unfold rT
    rw [up2_n _ _ (by decide)]
  refine r_eatAs hs' hK (fun c => ⟨by decide, ?_⟩) (fun c => ⟨by decide, ?_⟩)
  · have h1 := h1 c
    have ea : rR1 N (op, p + 1) = up2 N 227 (upd (N 227) (p + 1) as) := by
      unfold rR1
      dsimp only
      rw [if_pos hn, has]
    have eb : rE1 val P (op, p + 1) = pt (opn (pt P (encV op))) (nI (p + 1)) := by
      unfold rE1
      dsimp only
      rw [if_neg (fun z => by rcases hn with y | y | y | y <;> rw [y] at z <;> rcases z with z | z <;> exact absurd z (by decide)), if_pos hn]
    rw [ea, eb] at h1
    rw [e227]
    have ec : rT (p + 1 + 1) (up2 (rT (p + 1) N) 227 (upd (N 227) (p + 1) as)) = rT (p + 2) (up2 N 227 (upd (N 227) (p + 1) as)) := by
      unfold rT
      rw [up2_swap (by decide : (229 : Nat) ≠ 227), up2_up2]
    rw [ec]
    exact h1
  · rw [e227]
    exact h0 c
end STEP
