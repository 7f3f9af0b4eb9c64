/-! ===== tokens ===== -/
section TOK
variable {τ : Nat → Nat} {sz : Nat}
def kt (k i : Nat) : Nat := (sb k i).toInt.toNat
def kwI (k : Nat) : Int64 := cdI (kt k) 0 (sn k)
set_option maxRecDepth 100000 in
theorem kw_tab : ∀ k, k < 32 → (sn k ≤ 10 ∧ 0 < sn k) ∧ ∀ i, i < sn k → chv (sb k) (nI i) = nI (kt k i) ∧ 0 < sg (kt k i) ∧ kt k i ≤ 255 := by decide +kernel
/-- which word it is; 40: a name -/
def wkF (c : Int64) : Nat → Nat → Int32
  | 0, _ => 40
  | d + 1, k => if kwI k = c then nI k else wkF c d (k + 1)
/-- the class's words, as its constructor lays them -/
def KWT (F : M2) (L : L2) : Prop := F 73 0 = 32 ∧ ∀ k, k < 32 → L 71 k = kwI k ∧ F 72 k = ck (nI k)
theorem c_kindL {F : M2} {L : L2} (hW : KWT F L) {c : Int64} {K : Int32 → Prop} : ∀ (d k f : Nat), k + d = 32 → d < f → K (ck (wkF c d k)) → wl_X3_kindOfWord_2 F L K f c (nI k)
  | 0, k, f, hd, hf, h => by
    obtain ⟨f, rfl, _⟩ := fuel hf
    have e : (32 : Int32) = nI 32 := rfl
    refine And.intro (fun _ => ?_) (fun z => absurd (by rw [hW.1, e]; exact nI_le (by omega) (by omega)) z)
    have e2 : ck (wkF c 0 k) = 2 := rfl
    rw [e2] at h
    exact h
  | d + 1, k, f, hd, hf, h => by
    obtain ⟨f, rfl, _⟩ := fuel (show 0 < f by omega)
    have e : (32 : Int32) = nI 32 := rfl
    obtain ⟨w1, w2⟩ := hW.2 k (by omega)
    unfold wkF at h
    refine And.intro (fun z => absurd z (by rw [hW.1, e]; exact nI_ge (by omega) (by omega))) (fun _ => ?_)
    rw [atl_nI (by omega) (by decide), atv_nI (by omega) (by decide), w1, w2, lg_cmp0]
    refine And.intro (fun g v ev => ?_) (fun g => ?_)
    · rw [if_neg g] at h
      rw [nI_1] at ev
      subst ev
      exact c_kindL hW d (k + 1) f (by omega) (by omega) h
    · rw [if_pos g] at h
      exact h
theorem r_cmpL {N P : M2} (hT : TPR τ sz N) {C2 : Int32 → Int32 → Int32 → Prop} {K : Int32 → Prop} {p k n : Nat} (hk : k < 32) (hn : sn k = n) (hp : p + n ≤ sz) : ∀ (d i f : Nat), i + d = n → d + 1 < f → ((∀ j, i ≤ j → j < n → kt k j = τ (p + j)) → K (nI k)) → (¬ (∀ j, i ≤ j → j < n → kt k j = τ (p + j)) → C2 (nI p) (nI n) (nI (k + 1))) → wl_X8_word_32 N P C2 K f (nI p) (nI n) (nI k) 1 (nI i) := by
  obtain ⟨⟨t1, t2⟩, t3⟩ := kw_tab k hk
  have hs := hT.1
  intro d
  induction d with
  | zero =>
    intro i f hd hf h1 h0
    obtain ⟨f, rfl, _⟩ := fuel (show 0 < f by omega)
    refine And.intro (fun z => absurd z (by decide)) (fun _ => And.intro (fun _ => And.intro (fun z => absurd z (by decide)) (fun _ => h1 (fun j a b => by omega))) (fun z => absurd (nI_le (by omega) (by omega)) z))
  | succ d ih =>
    intro i f hd hf h1 h0
    obtain ⟨f, rfl, _⟩ := fuel (show 0 < f by omega)
    have e32 : (32 : Nat) ≤ 2147483647 := by decide
    refine And.intro (fun z => absurd z (by decide)) (fun _ => And.intro (fun z => absurd z (nI_ge (by omega) (by omega))) (fun _ => ⟨inb_nI hk (by decide), by rw [tn_nI (by omega)]; omega, by rw [tn_nI (by omega)]; exact inb_nI (by omega) (by omega), ?_⟩))
    rw [nI_add, tn_nI (by omega), tn_nI (by omega)]
    obtain ⟨q1, q2, q3⟩ := t3 i (by omega)
    obtain ⟨b1, b2⟩ := hT.2.1 (p + i) (by omega)
    refine ⟨inb_nI (by omega) (by decide), ?_⟩
    rw [q1, b2, nI_eqN q3 b1]
    refine And.intro (fun g v ev => ?_) (fun g v ev => ?_)
    · obtain ⟨f, rfl, _⟩ := fuel (show 0 < f by omega)
      have hz := h0 (fun z => g (z i (by omega) (by omega)))
      refine And.intro (fun _ => And.intro (fun _ v3 e3 => ?_) (fun z => absurd rfl z)) (fun z => absurd rfl z)
      rw [nI_1] at e3
      subst e3
      exact hz
    · rw [nI_1] at ev
      subst ev
      refine ih (i + 1) f (by omega) (by omega) (fun z => h1 (fun j a b => ?_)) (fun z => h0 (fun y => z (fun j a b => y j (by omega) b)))
      by_cases e : j = i
      · rw [e]; exact g
      · exact z j (by omega) b
theorem r_wordL {N P : M2} (hT : TPR τ sz N) {K : Int32 → Prop} {p n : Nat} (hn : n ≤ 10) (hp : p + n ≤ sz) (hsg : ∀ i, i < n → 0 < sg (τ (p + i))) : ∀ (d k f : Nat), k + d = 32 → d < f → K (wkF (cdI τ p n) d k) → wl_X8_word_2 N P K f (nI p) (nI n) (nI k)
  | 0, k, f, hd, hf, h => by
    obtain ⟨f, rfl, _⟩ := fuel hf
    have e : Int32.ofNat 32 = nI 32 := rfl
    exact And.intro (fun _ => h) (fun z => absurd (by rw [e]; exact nI_le (by omega) (by omega)) z)
  | d + 1, k, f, hd, hf, h => by
    obtain ⟨f, rfl, _⟩ := fuel (show 0 < f by omega)
    have e : Int32.ofNat 32 = nI 32 := rfl
    have hk : k < 32 := by omega
    obtain ⟨⟨t1, t2⟩, t3⟩ := kw_tab k hk
    unfold wkF at h
    have esn : Int32.ofNat (sn k) = nI (sn k) := rfl
    refine And.intro (fun z => absurd z (by rw [e]; exact nI_ge (by omega) (by omega))) (fun _ => ⟨inb_nI hk (by decide), by rw [tn_nI (by omega)]; omega, ?_⟩)
    rw [tn_nI (by omega), esn]
    have same : kwI k = cdI τ p n ↔ (sn k = n ∧ ∀ j, 0 ≤ j → j < n → kt k j = τ (p + j)) := by
      constructor
      · intro z
        obtain ⟨g1, g2⟩ := cdI_inj (τ := kt k) (σ := τ) (p := 0) (q := p) t1 hn (fun i hi => by rw [Nat.zero_add]; exact (t3 i hi).2.1) hsg z
        refine ⟨g1, fun j _ hj => ?_⟩
        have := g2 j (by omega)
        rw [Nat.zero_add] at this
        exact this
      · intro z
        obtain ⟨g1, g2⟩ := z
        unfold kwI
        rw [cdI_N, cdI_N, g1]
        refine congrArg Int64.ofNat (cdN_cong n (fun i hi => ?_))
        rw [Nat.zero_add]
        exact g2 i (Nat.zero_le _) hi
    refine And.intro (fun g => ?_) (fun g => ?_)
    · have hne : ¬ kwI k = cdI τ p n := fun z => g (by rw [(same.mp z).1])
      rw [if_neg hne] at h
      have hf1 : fK = 9 + (fK - 9) := by rw [fK_eq]
      obtain ⟨f2, e2, _⟩ := fuel (show 0 < fK by rw [fK_eq]; omega)
      rw [e2]
      refine And.intro (fun _ => And.intro (fun _ v3 e3 => ?_) (fun z => absurd rfl z)) (fun z => absurd rfl z)
      rw [nI_1] at e3
      subst e3
      exact r_wordL hT hn hp hsg d (k + 1) f (by omega) (by omega) h
    · have g : sn k = n := nI_inj (by omega) (by omega) g
      have z0 : (0 : Int32) = nI 0 := rfl
      refine r_cmpL hT hk g hp n 0 fK (by omega) (by rw [fK_eq]; omega) (fun y => ?_) (fun y => ?_)
      · rw [if_pos (same.mpr ⟨g, y⟩)] at h
        exact h
      · rw [if_neg (fun z => y (same.mp z).2)] at h
        exact r_wordL hT hn hp hsg d (k + 1) f (by omega) (by omega) h
/-! symbols -/
def symR (c : Nat) : Int32 := if nI c ≤ 0 then 901 else if 128 ≤ nI c then 901 else if jixv (sb 32) (sn 32) (((nI c).toUInt32 % 65536).toInt32) < 0 then 901 else 50 + nI c
def symC (c : Nat) : Int32 := if nI c = 40 then 28 else (if nI c = 41 then 29 else (if nI c = 42 then 17 else (if nI c = 43 then 15 else (if nI c = 44 then 33 else (if nI c = 45 then 16 else (if nI c = 47 then 18 else (if nI c = 59 then 32 else (if nI c = 60 then 19 else (if nI c = 61 then 21 else (if nI c = 62 then 20 else (if nI c = 91 then 30 else (if nI c = 93 then 31 else (1)))))))))))))
set_option maxRecDepth 100000 in
theorem sym_tab : ∀ c, c < 256 → ck (symR c) = symC c := by decide +kernel
def okS (c : Nat) : Bool := (decide (97 ≤ c ∧ c ≤ 122) || decide (48 ≤ c ∧ c ≤ 57)) || (vk.contains (symR c) && (symR c != 900) && (symR c != 40) && (symR c != 41) && (symR c != 12) && (symR c != 13))
set_option maxRecDepth 100000 in
theorem okS_tab : ∀ c, c < 256 → okS c = true := by decide +kernel
theorem sym_vk {c : Nat} (hc : c < 256) (h1 : ¬ isL c) (h2 : ¬ isD c) : symR c ∈ vk ∧ ¬ symR c = 900 ∧ ¬ symR c = 40 ∧ ¬ symR c = 41 ∧ ¬ symR c = 12 ∧ ¬ symR c = 13 := by
  have h := okS_tab c hc
  unfold okS at h
  rw [decide_eq_false h1, decide_eq_false h2, Bool.false_or, Bool.false_or] at h
  simp only [Bool.and_eq_true, bne_iff_ne, ne_eq, List.contains_iff_mem] at h
  obtain ⟨⟨⟨⟨⟨a, b⟩, c⟩, d⟩, e⟩, f⟩ := h
  exact ⟨a, b, c, d, e, f⟩
theorem c_symbol {F : M2} {L : L2} {c : Nat} (hc : c ≤ 255) {K : Int32 → Prop} (h : K (ck (symR c))) : wp_X3_kindOfSymbol F L (nI c) K := by
  rw [sym_tab c (by omega)] at h
  unfold symC at h
  exact ⟨fun z => by rw [if_pos z] at h; exact h, fun z => by rw [if_neg (by rw [z]; decide), if_pos z] at h; exact h, fun z => by rw [if_neg (by rw [z]; decide), if_neg (by rw [z]; decide), if_pos z] at h; exact h, fun z => by rw [if_neg (by rw [z]; decide), if_neg (by rw [z]; decide), if_neg (by rw [z]; decide), if_pos z] at h; exact h, fun z => by rw [if_neg (by rw [z]; decide), if_neg (by rw [z]; decide), if_neg (by rw [z]; decide), if_neg (by rw [z]; decide), if_pos z] at h; exact h, fun z => by rw [if_neg (by rw [z]; decide), if_neg (by rw [z]; decide), if_neg (by rw [z]; decide), if_neg (by rw [z]; decide), if_neg (by rw [z]; decide), if_pos z] at h; exact h, fun z => by rw [if_neg (by rw [z]; decide), if_neg (by rw [z]; decide), if_neg (by rw [z]; decide), if_neg (by rw [z]; decide), if_neg (by rw [z]; decide), if_neg (by rw [z]; decide), if_pos z] at h; exact h, fun z => by rw [if_neg (by rw [z]; decide), if_neg (by rw [z]; decide), if_neg (by rw [z]; decide), if_neg (by rw [z]; decide), if_neg (by rw [z]; decide), if_neg (by rw [z]; decide), if_neg (by rw [z]; decide), if_pos z] at h; exact h, fun z => by rw [if_neg (by rw [z]; decide), if_neg (by rw [z]; decide), if_neg (by rw [z]; decide), if_neg (by rw [z]; decide), if_neg (by rw [z]; decide), if_neg (by rw [z]; decide), if_neg (by rw [z]; decide), if_neg (by rw [z]; decide), if_pos z] at h; exact h, fun z => by rw [if_neg (by rw [z]; decide), if_neg (by rw [z]; decide), if_neg (by rw [z]; decide), if_neg (by rw [z]; decide), if_neg (by rw [z]; decide), if_neg (by rw [z]; decide), if_neg (by rw [z]; decide), if_neg (by rw [z]; decide), if_neg (by rw [z]; decide), if_pos z] at h; exact h, fun z => by rw [if_neg (by rw [z]; decide), if_neg (by rw [z]; decide), if_neg (by rw [z]; decide), if_neg (by rw [z]; decide), if_neg (by rw [z]; decide), if_neg (by rw [z]; decide), if_neg (by rw [z]; decide), if_neg (by rw [z]; decide), if_neg (by rw [z]; decide), if_neg (by rw [z]; decide), if_pos z] at h; exact h, fun z => by rw [if_neg (by rw [z]; decide), if_neg (by rw [z]; decide), if_neg (by rw [z]; decide), if_neg (by rw [z]; decide), if_neg (by rw [z]; decide), if_neg (by rw [z]; decide), if_neg (by rw [z]; decide), if_neg (by rw [z]; decide), if_neg (by rw [z]; decide), if_neg (by rw [z]; decide), if_neg (by rw [z]; decide), if_pos z] at h; exact h, fun z => by rw [if_neg (by rw [z]; decide), if_neg (by rw [z]; decide), if_neg (by rw [z]; decide), if_neg (by rw [z]; decide), if_neg (by rw [z]; decide), if_neg (by rw [z]; decide), if_neg (by rw [z]; decide), if_neg (by rw [z]; decide), if_neg (by rw [z]; decide), if_neg (by rw [z]; decide), if_neg (by rw [z]; decide), if_neg (by rw [z]; decide), if_pos z] at h; exact h, fun z0 z1 z2 z3 z4 z5 z6 z7 z8 z9 z10 z11 z12 => by rw [if_neg z0, if_neg z1, if_neg z2, if_neg z3, if_neg z4, if_neg z5, if_neg z6, if_neg z7, if_neg z8, if_neg z9, if_neg z10, if_neg z11, if_neg z12] at h; exact h⟩
end TOK
