/-! ===== the tape's bytes; blanks; words and numbers ===== -/
section TAPE
variable {τ : Nat → Nat} {sz : Nat}
abbrev isL (c : Nat) : Prop := 97 ≤ c ∧ c ≤ 122
abbrev isD (c : Nat) : Prop := 48 ≤ c ∧ c ≤ 57
/-- the number of a sign of words, 0: none -/
def sg (c : Nat) : Nat := if isL c then c - 96 else if isD c then c - 21 else 0
theorem sg_le {c : Nat} : sg c ≤ 36 := by
  unfold sg
  split
  · omega
  · split <;> omega
theorem sg_pos {c : Nat} : 0 < sg c ↔ (isL c ∨ isD c) := by
  unfold sg
  by_cases h1 : isL c
  · rw [if_pos h1]
    exact ⟨fun _ => Or.inl h1, fun _ => by omega⟩
  · rw [if_neg h1]
    by_cases h2 : isD c
    · rw [if_pos h2]
      exact ⟨fun _ => Or.inr h2, fun _ => by omega⟩
    · rw [if_neg h2]
      exact ⟨fun z => absurd z (by omega), fun z => z.elim (fun y => absurd y h1) (fun y => absurd y h2)⟩
theorem sg_inj {c d : Nat} (hc : 0 < sg c) (h : sg c = sg d) : c = d := by
  have hd : 0 < sg d := by rw [← h]; exact hc
  rcases sg_pos.mp hc with c1 | c1 <;> rcases sg_pos.mp hd with d1 | d1 <;> unfold sg at h
  · rw [if_pos c1, if_pos d1] at h
    omega
  · rw [if_pos c1, if_neg (fun z => by omega), if_pos d1] at h
    omega
  · rw [if_neg (fun z => by omega), if_pos c1, if_pos d1] at h
    omega
  · rw [if_neg (fun z => by omega), if_pos c1, if_neg (fun z => by omega), if_pos d1] at h
    omega
/-- the tape of both sides -/
def TPC (τ : Nat → Nat) (sz : Nat) (F : M2) : Prop := sz ≤ 2000 ∧ (∀ i, i < sz → τ i ≤ 255 ∧ F 80 i &&& 255 = nI (τ i)) ∧ F 78 0 = nI sz
theorem c_byteAt {F : M2} {L : L2} (h : TPC τ sz F) {i : Nat} (hi : i < 100000) {K : Int32 → Prop} (h1 : i < sz → K (nI (τ i))) (h0 : sz ≤ i → K (-1)) : wp_X3_byteAt F L (nI i) K := by
  obtain ⟨a, b, c⟩ := h
  have e0 : (0 : Int32) = nI 0 := rfl
  have e2 : Int32.ofNat 2000 = nI 2000 := rfl
  refine And.intro (fun z => absurd z (by rw [e0, lt_nI (by omega) (by omega)]; omega)) (fun _ => ?_)
  rw [c, e2]
  refine And.intro (fun z => h0 ((le_nI (by omega) (by omega)).mp z)) (fun z => ?_)
  rw [le_nI (by omega) (by omega)] at z
  refine And.intro (fun _ => ⟨inb_nJ (by omega) (by decide), ?_⟩) (fun y => absurd ((lt_nI (by omega) (by omega)).mpr (by omega)) y)
  rw [tn_nI (by omega), (b i (by omega)).2]
  exact h1 (by omega)
theorem nI97 {c : Nat} (hc : c ≤ 255) : (nI c < 97 ↔ c < 97) ∧ (122 < nI c ↔ 122 < c) ∧ (nI c < 48 ↔ c < 48) ∧ (57 < nI c ↔ 57 < c) := by
  have e1 : (97 : Int32) = nI 97 := rfl
  have e2 : (122 : Int32) = nI 122 := rfl
  have e3 : (48 : Int32) = nI 48 := rfl
  have e4 : (57 : Int32) = nI 57 := rfl
  rw [e1, e2, e3, e4, lt_nI (by omega) (by omega), lt_nI (by omega) (by omega), lt_nI (by omega) (by omega), lt_nI (by omega) (by omega)]
  exact ⟨Iff.rfl, Iff.rfl, Iff.rfl, Iff.rfl⟩
theorem c_isLetter {F : M2} {L : L2} {c : Nat} (hc : c ≤ 255) {K : Int32 → Prop} (h1 : isL c → K 1) (h0 : ¬ isL c → K 0) : wp_X3_isLetter F L (nI c) K := by
  obtain ⟨a1, a2, _, _⟩ := nI97 hc
  refine And.intro (fun z => h0 (fun y => by have := a1.mp z; omega)) (fun z => And.intro (fun x => h0 (fun y => by have := a2.mp x; omega)) (fun x => h1 ⟨?_, ?_⟩))
  · rw [a1] at z; omega
  · rw [a2] at x; omega
theorem c_isDigit {F : M2} {L : L2} {c : Nat} (hc : c ≤ 255) {K : Int32 → Prop} (h1 : isD c → K 1) (h0 : ¬ isD c → K 0) : wp_X3_isDigit F L (nI c) K := by
  obtain ⟨_, _, a1, a2⟩ := nI97 hc
  refine And.intro (fun z => h0 (fun y => by have := a1.mp z; omega)) (fun z => And.intro (fun x => h0 (fun y => by have := a2.mp x; omega)) (fun x => h1 ⟨?_, ?_⟩))
  · rw [a1] at z; omega
  · rw [a2] at x; omega
theorem c_sign {F : M2} {L : L2} {c : Nat} (hc : c ≤ 255) {K : Int32 → Prop} (h : K (nI (sg c))) : wp_X3_signOfWord F L (nI c) K := by
  unfold sg at h
  refine c_isLetter hc (fun y => ?_) (fun y => ?_)
  · rw [if_pos y] at h
    refine And.intro (fun z => absurd z (by decide)) (fun _ => ?_)
    have e : ((1 : Int32) + nI c) - 97 = nI (c - 96) := by
      have e97 : (97 : Int32) = nI 97 := rfl
      have e1 : (1 : Int32) = nI 1 := rfl
      have : nI (c - 96) + nI 97 = nI 1 + nI c := by rw [nI_add, nI_add]; congr 1; omega
      rw [e97, e1, ← this, Int32.add_sub_cancel]
    rw [e]
    exact h
  · rw [if_neg y] at h
    refine And.intro (fun _ => c_isDigit hc (fun x => ?_) (fun x => ?_)) (fun z => absurd rfl z)
    · rw [if_pos x] at h
      refine And.intro (fun z => absurd z (by decide)) (fun _ => ?_)
      have e : ((27 : Int32) + nI c) - 48 = nI (c - 21) := by
        have e97 : (48 : Int32) = nI 48 := rfl
        have e1 : (27 : Int32) = nI 27 := rfl
        have : nI (c - 21) + nI 48 = nI 27 + nI c := by rw [nI_add, nI_add]; congr 1; omega
        rw [e97, e1, ← this, Int32.add_sub_cancel]
      rw [e]
      exact h
    · rw [if_neg x] at h
      exact And.intro (fun _ => h) (fun z => absurd rfl z)
/-! blanks -/
def blk (τ : Nat → Nat) : Nat → Nat → Nat
  | 0, p => p
  | d + 1, p => if τ p = 32 ∨ τ p = 10 then blk τ d (p + 1) else p
theorem blk_le : ∀ (d p : Nat), p ≤ blk τ d p ∧ blk τ d p ≤ p + d
  | 0, p => ⟨Nat.le_refl _, Nat.le_refl _⟩
  | d + 1, p => by
    unfold blk
    split
    · have := blk_le d (p + 1)
      omega
    · omega
theorem blk_at : ∀ (d p : Nat), blk τ d p < p + d → ¬ (τ (blk τ d p) = 32 ∨ τ (blk τ d p) = 10)
  | 0, p, h => absurd h (Nat.lt_irrefl _)
  | d + 1, p, h => by
    unfold blk at h ⊢
    by_cases c : τ p = 32 ∨ τ p = 10
    · rw [if_pos c] at h ⊢
      exact blk_at d (p + 1) (by omega)
    · rw [if_neg c]
      exact c
theorem nI_eqN {c d : Nat} (hc : c ≤ 255) (hd : d ≤ 255) : nI c = nI d ↔ c = d := ⟨fun h => nI_inj (by omega) (by omega) h, fun h => by rw [h]⟩
theorem c_blanks {F : M2} {L : L2} (h : TPC τ sz F) {K : Int32 → Prop} : ∀ (d p f : Nat), p + d = sz → d < f → K (nI (blk τ d p)) → wl_X3_behindBlanks_2 F L K f (nI p) := by
  have hs := h.1
  intro d
  induction d with
  | zero =>
    intro p f hd hf hk
    obtain ⟨f, rfl, _⟩ := fuel hf
    have e : p = sz := by omega
    have h78 := h.2.2
    refine And.intro (fun _ => ?_) (fun z => absurd ?_ z)
    · rw [h78, ← e]; exact hk
    · rw [h78]; exact nI_le (by omega) (by omega)
  | succ d ih =>
    intro p f hd hf hk
    obtain ⟨f, rfl, _⟩ := fuel (show 0 < f by omega)
    have h78 := h.2.2
    have hb := (h.2.1 p (by omega)).1
    have e32 : (32 : Int32) = nI 32 := rfl
    have e10 : (10 : Int32) = nI 10 := rfl
    refine And.intro (fun z => absurd z (by rw [h78]; exact nI_ge (by omega) (by omega))) (fun _ => c_byteAt h (by omega) (fun _ => ?_) (fun z => absurd z (by omega)))
    unfold blk at hk
    rw [e32, e10, nI_eqN hb (by decide), nI_eqN hb (by decide)]
    refine And.intro (fun c v ev => ?_) (fun c => And.intro (fun c2 v ev => ?_) (fun c2 => ?_))
    · rw [nI_1] at ev
      subst ev
      rw [if_pos (Or.inl c)] at hk
      exact ih (p + 1) f (by omega) (by omega) hk
    · rw [nI_1] at ev
      subst ev
      rw [if_pos (Or.inr c2)] at hk
      exact ih (p + 1) f (by omega) (by omega) hk
    · rw [if_neg (fun z => z.elim c c2)] at hk
      exact hk
/-! words -/
def wen (τ : Nat → Nat) : Nat → Nat → Nat
  | 0, p => p
  | d + 1, p => if 0 < sg (τ p) then wen τ d (p + 1) else p
def nen (τ : Nat → Nat) : Nat → Nat → Nat
  | 0, p => p
  | d + 1, p => if isD (τ p) then nen τ d (p + 1) else p
theorem wen_le : ∀ (d p : Nat), p ≤ wen τ d p ∧ wen τ d p ≤ p + d
  | 0, p => ⟨Nat.le_refl _, Nat.le_refl _⟩
  | d + 1, p => by
    unfold wen
    split
    · have := wen_le d (p + 1)
      omega
    · omega
theorem wen_sg : ∀ (d p i : Nat), p ≤ i → i < wen τ d p → 0 < sg (τ i)
  | 0, p, i, h1, h2 => absurd h2 (by unfold wen; omega)
  | d + 1, p, i, h1, h2 => by
    unfold wen at h2
    by_cases c : 0 < sg (τ p)
    · rw [if_pos c] at h2
      by_cases e : i = p
      · rw [e]; exact c
      · exact wen_sg d (p + 1) i (by omega) h2
    · rw [if_neg c] at h2
      omega
theorem nen_le : ∀ (d p : Nat), p ≤ nen τ d p ∧ nen τ d p ≤ p + d
  | 0, p => ⟨Nat.le_refl _, Nat.le_refl _⟩
  | d + 1, p => by
    unfold nen
    split
    · have := nen_le d (p + 1)
      omega
    · omega
theorem nen_d : ∀ (d p i : Nat), p ≤ i → i < nen τ d p → isD (τ i)
  | 0, p, i, h1, h2 => absurd h2 (by unfold nen; omega)
  | d + 1, p, i, h1, h2 => by
    unfold nen at h2
    by_cases c : isD (τ p)
    · rw [if_pos c] at h2
      by_cases e : i = p
      · rw [e]; exact c
      · exact nen_d d (p + 1) i (by omega) h2
    · rw [if_neg c] at h2
      omega
/-- the code of a word of n signs from place p on -/
def cdN (τ : Nat → Nat) (p : Nat) : Nat → Nat
  | 0 => 0
  | n + 1 => cdN τ p n * 37 + sg (τ (p + n))
def cdI (τ : Nat → Nat) (p : Nat) : Nat → Int64
  | 0 => 0
  | n + 1 => cdI τ p n * 37 + (nI (sg (τ (p + n)))).toInt64
def nbN (τ : Nat → Nat) (p : Nat) : Nat → Nat
  | 0 => 0
  | n + 1 => nbN τ p n * 10 + (τ (p + n) - 48)
def nbI (τ : Nat → Nat) (p : Nat) : Nat → Int64
  | 0 => 0
  | n + 1 => nbI τ p n * 10 + (nI (τ (p + n)) - 48).toInt64
theorem cdN_lt (p : Nat) : ∀ n, cdN τ p n < 37 ^ n
  | 0 => (show 0 < 1 by decide)
  | n + 1 => by
    have h1 := cdN_lt p n
    have h2 := sg_le (c := τ (p + n))
    have e : 37 ^ (n + 1) = 37 ^ n * 37 := Nat.pow_succ ..
    rw [e]
    show cdN τ p n * 37 + sg (τ (p + n)) < _
    omega
theorem cdN_inj {σ : Nat → Nat} {p q : Nat} : ∀ (n k : Nat), (∀ i, i < n → 0 < sg (τ (p + i))) → (∀ i, i < k → 0 < sg (σ (q + i))) → cdN τ p n = cdN σ q k → n = k ∧ ∀ i, i < n → τ (p + i) = σ (q + i)
  | 0, 0, _, _, _ => ⟨rfl, fun i hi => absurd hi (Nat.not_lt_zero _)⟩
  | 0, k + 1, _, h2, h => by
    have := h2 k (by omega)
    have h : 0 = cdN σ q k * 37 + sg (σ (q + k)) := h
    omega
  | n + 1, 0, h1, _, h => by
    have := h1 n (by omega)
    have h : cdN τ p n * 37 + sg (τ (p + n)) = 0 := h
    omega
  | n + 1, k + 1, h1, h2, h => by
    have a1 := h1 n (by omega)
    have a2 := h2 k (by omega)
    have b1 := sg_le (c := τ (p + n))
    have b2 := sg_le (c := σ (q + k))
    have h : cdN τ p n * 37 + sg (τ (p + n)) = cdN σ q k * 37 + sg (σ (q + k)) := h
    have e1 : cdN τ p n = cdN σ q k := by omega
    have e2 : sg (τ (p + n)) = sg (σ (q + k)) := by omega
    obtain ⟨g1, g2⟩ := cdN_inj n k (fun i hi => h1 i (by omega)) (fun i hi => h2 i (by omega)) e1
    subst g1
    refine ⟨rfl, fun i hi => ?_⟩
    by_cases e : i = n
    · rw [e]
      exact sg_inj a1 e2
    · exact g2 i (by omega)
theorem cdN_cong {σ : Nat → Nat} {p q : Nat} : ∀ (n : Nat), (∀ i, i < n → τ (p + i) = σ (q + i)) → cdN τ p n = cdN σ q n
  | 0, _ => rfl
  | n + 1, h => by
    show cdN τ p n * 37 + sg (τ (p + n)) = cdN σ q n * 37 + sg (σ (q + n))
    rw [cdN_cong n (fun i hi => h i (by omega)), h n (by omega)]
theorem nI_64 {b : Nat} (hb : b < 2147483648) : (nI b).toInt64 = Int64.ofNat b := by
  apply Int64.toInt_inj.mp
  rw [Int32.toInt_toInt64, nI_toInt (by omega), Int64.toInt_ofNat_of_lt (by omega)]
theorem cdI_N (p : Nat) : ∀ n, cdI τ p n = Int64.ofNat (cdN τ p n)
  | 0 => rfl
  | n + 1 => by
    show cdI τ p n * 37 + (nI (sg (τ (p + n)))).toInt64 = Int64.ofNat (cdN τ p n * 37 + sg (τ (p + n)))
    have := sg_le (c := τ (p + n))
    rw [cdI_N p n, nI_64 (by omega), Int64.ofNat_add, Int64.ofNat_mul]
    rfl
theorem ofNat64_inj {a b : Nat} (ha : a < 2 ^ 63) (hb : b < 2 ^ 63) (h : Int64.ofNat a = Int64.ofNat b) : a = b := by
  have e := congrArg Int64.toInt h
  rw [Int64.toInt_ofNat_of_lt ha, Int64.toInt_ofNat_of_lt hb] at e
  omega
theorem cdI_inj {σ : Nat → Nat} {p q n k : Nat} (hn : n ≤ 10) (hk : k ≤ 10) (h1 : ∀ i, i < n → 0 < sg (τ (p + i))) (h2 : ∀ i, i < k → 0 < sg (σ (q + i))) (h : cdI τ p n = cdI σ q k) : n = k ∧ ∀ i, i < n → τ (p + i) = σ (q + i) := by
  rw [cdI_N, cdI_N] at h
  have l : ∀ (τ : Nat → Nat) p n, n ≤ 10 → cdN τ p n < 2 ^ 63 := fun τ p n hn => by
    have h1 := cdN_lt (τ := τ) p n
    have h2 : 37 ^ n ≤ 37 ^ 10 := Nat.pow_le_pow_right (by decide) hn
    have h3 : 37 ^ 10 < 2 ^ 63 := by decide
    omega
  exact cdN_inj n k h1 h2 (ofNat64_inj (l τ p n hn) (l σ q k hk) h)
theorem c_wordL {F : M2} {L : L2} (h : TPC τ sz F) {K : Int32 → M2 → L2 → Prop} {x1 p : Nat} : ∀ (d n f : Nat), p + n + d = sz → d < f → wj_X3_readWord_49 K F L (nI x1) (nI p) (cdI τ p (wen τ d (p + n) - p)) (nI (wen τ d (p + n))) → wl_X3_readWord_5 K f F L (nI x1) (nI p) (cdI τ p n) (nI (p + n)) := by
  have hs := h.1
  have h78 := h.2.2
  intro d
  induction d with
  | zero =>
    intro n f hd hf hk
    obtain ⟨f, rfl, _⟩ := fuel hf
    unfold wen at hk
    rw [show p + n - p = n by omega] at hk
    exact And.intro (fun _ => hk) (fun z => absurd (by rw [h78]; exact nI_le (by omega) (by omega)) z)
  | succ d ih =>
    intro n f hd hf hk
    obtain ⟨f, rfl, _⟩ := fuel (show 0 < f by omega)
    have hb := (h.2.1 (p + n) (by omega)).1
    have e0 : (0 : Int32) = nI 0 := rfl
    have hsg := sg_le (c := τ (p + n))
    refine And.intro (fun z => absurd z (by rw [h78]; exact nI_ge (by omega) (by omega))) (fun _ => c_byteAt h (by omega) (fun _ => c_sign hb ?_) (fun z => absurd z (by omega)))
    rw [e0, le_nI (by omega) (by omega)]
    unfold wen at hk
    refine And.intro (fun c => ?_) (fun c => c_byteAt h (by omega) (fun _ => c_sign hb (fun v3 e3 v5 e5 => ?_)) (fun z => absurd z (by omega)))
    · rw [if_neg (by omega), show p + n - p = n by omega] at hk
      exact hk
    · rw [if_pos (by omega)] at hk
      rw [nI_1] at e5
      have e3 : v3 = cdI τ p (n + 1) := e3
      subst e3 e5
      exact ih (n + 1) f (by omega) (by omega) hk
theorem c_numberL {F : M2} {L : L2} (h : TPC τ sz F) {K : Int32 → M2 → L2 → Prop} {x1 p : Nat} : ∀ (d n f : Nat), p + n + d = sz → d < f → wj_X3_readNumber_49 K F L (nI x1) (nI p) (nbI τ p (nen τ d (p + n) - p)) (nI (nen τ d (p + n))) → wl_X3_readNumber_5 K f F L (nI x1) (nI p) (nbI τ p n) (nI (p + n)) := by
  have hs := h.1
  have h78 := h.2.2
  intro d
  induction d with
  | zero =>
    intro n f hd hf hk
    obtain ⟨f, rfl, _⟩ := fuel hf
    unfold nen at hk
    rw [show p + n - p = n by omega] at hk
    exact And.intro (fun _ => hk) (fun z => absurd (by rw [h78]; exact nI_le (by omega) (by omega)) z)
  | succ d ih =>
    intro n f hd hf hk
    obtain ⟨f, rfl, _⟩ := fuel (show 0 < f by omega)
    have hb := (h.2.1 (p + n) (by omega)).1
    refine And.intro (fun z => absurd z (by rw [h78]; exact nI_ge (by omega) (by omega))) (fun _ => c_byteAt h (by omega) (fun _ => ?_) (fun z => absurd z (by omega)))
    unfold nen at hk
    refine c_isDigit hb (fun c => And.intro (fun z => absurd z (by decide)) (fun _ => c_byteAt h (by omega) (fun _ v3 e3 v5 e5 => ?_) (fun z => absurd z (by omega)))) (fun c => And.intro (fun _ => ?_) (fun z => absurd rfl z))
    · rw [if_pos c] at hk
      rw [nI_1] at e5
      have e3 : v3 = nbI τ p (n + 1) := e3
      subst e3 e5
      exact ih (n + 1) f (by omega) (by omega) hk
    · rw [if_neg c, show p + n - p = n by omega] at hk
      exact hk
theorem nbN_lt (p : Nat) : ∀ n, (∀ i, i < n → isD (τ (p + i))) → nbN τ p n < 10 ^ n
  | 0, _ => (show 0 < 1 by decide)
  | n + 1, h => by
    have h1 := nbN_lt p n (fun i hi => h i (by omega))
    have h2 := h n (by omega)
    have e : 10 ^ (n + 1) = 10 ^ n * 10 := Nat.pow_succ ..
    rw [e]
    show nbN τ p n * 10 + (τ (p + n) - 48) < _
    omega
theorem nbI_N (p : Nat) : ∀ n, (∀ i, i < n → isD (τ (p + i))) → nbI τ p n = Int64.ofNat (nbN τ p n)
  | 0, _ => rfl
  | n + 1, h => by
    have h2 := h n (by omega)
    show nbI τ p n * 10 + (nI (τ (p + n)) - 48).toInt64 = Int64.ofNat (nbN τ p n * 10 + (τ (p + n) - 48))
    have e48 : nI (τ (p + n)) - 48 = nI (τ (p + n) - 48) := by
      have e : (48 : Int32) = nI 48 := rfl
      have : nI (τ (p + n) - 48) + nI 48 = nI (τ (p + n)) := by rw [nI_add]; congr 1; omega
      rw [e, ← this, Int32.add_sub_cancel]
    rw [nbI_N p n (fun i hi => h i (by omega)), e48, nI_64 (by omega), Int64.ofNat_add, Int64.ofNat_mul]
    rfl
end TAPE
