/-! ===== tokens ===== -/
section TOK
variable {τ : Nat → Nat} {sz : Nat}
def kt (k i : Nat) : Nat := (sb k i).toInt.toNat
def kwI (k : Nat) : Int64 := cdI (kt k) 0 (sn k)
set_option maxRecDepth 100000 in
theorem kw_tab : ∀ k, k < 32 → (sn k ≤ 10 ∧ 0 < sn k) ∧ ∀ i, i < sn k → chv (sb k) (nI i) = nI (kt k i) ∧ 0 < sg (kt k i) ∧ kt k i ≤ 255 := by decide +kernel
/-- which word it is; 40: a name -/
def wkF (c : Int64) : Nat → Nat → Int32
  | 0, _ => 40
  | d + 1, k => if kwI k = c then nI k else wkF c d (k + 1)
/-- the class's words, as its constructor lays them -/
def KWT (F : M2) (L : L2) : Prop := F 73 0 = 32 ∧ ∀ k, k < 32 → L 71 k = kwI k ∧ F 72 k = ck (nI k)
theorem c_kindL {F : M2} {L : L2} (hW : KWT F L) {c : Int64} {K : Int32 → Prop} : ∀ (d k f : Nat), k + d = 32 → d < f → K (ck (wkF c d k)) → wl_X3_kindOfWord_2 F L K f c (nI k)
  | 0, k, f, hd, hf, h => by
    obtain ⟨f, rfl, _⟩ := fuel hf
    have e : (32 : Int32) = nI 32 := rfl
    refine And.intro (fun _ => ?_) (fun z => absurd (by rw [hW.1, e]; exact nI_le (by omega) (by omega)) z)
    have e2 : ck (wkF c 0 k) = 2 := rfl
    rw [e2] at h
    exact h
  | d + 1, k, f, hd, hf, h => by
    obtain ⟨f, rfl, _⟩ := fuel (show 0 < f by omega)
    have e : (32 : Int32) = nI 32 := rfl
    obtain ⟨w1, w2⟩ := hW.2 k (by omega)
    unfold wkF at h
    refine And.intro (fun z => absurd z (by rw [hW.1, e]; exact nI_ge (by omega) (by omega))) (fun _ => ?_)
    rw [atl_nI (by omega) (by decide), atv_nI (by omega) (by decide), w1, w2, lg_cmp0]
    refine And.intro (fun g v ev => ?_) (fun g => ?_)
    · rw [if_neg g] at h
      rw [nI_1] at ev
      subst ev
      exact c_kindL hW d (k + 1) f (by omega) (by omega) h
    · rw [if_pos g] at h
      exact h
def symR (c : Nat) : Int32 := if [40, 41, 42, 43, 44, 45, 47, 59, 60, 61, 62, 91, 93].contains c then 50 + nI c else 901
def symC (c : Nat) : Int32 := if nI c = 40 then 28 else (if nI c = 41 then 29 else (if nI c = 42 then 17 else (if nI c = 43 then 15 else (if nI c = 44 then 33 else (if nI c = 45 then 16 else (if nI c = 47 then 18 else (if nI c = 59 then 32 else (if nI c = 60 then 19 else (if nI c = 61 then 21 else (if nI c = 62 then 20 else (if nI c = 91 then 30 else (if nI c = 93 then 31 else (1)))))))))))))
set_option maxRecDepth 100000 in
theorem sym_tab : ∀ c, c < 256 → ck (symR c) = symC c := by decide +kernel
def okS (c : Nat) : Bool := (decide (97 ≤ c ∧ c ≤ 122) || decide (48 ≤ c ∧ c ≤ 57)) || (vk.contains (symR c) && (symR c != 900) && (symR c != 40) && (symR c != 41) && (symR c != 12) && (symR c != 13))
set_option maxRecDepth 100000 in
theorem okS_tab : ∀ c, c < 256 → okS c = true := by decide +kernel
theorem sym_vk {c : Nat} (hc : c < 256) (h1 : ¬ isL c) (h2 : ¬ isD c) : symR c ∈ vk ∧ ¬ symR c = 900 ∧ ¬ symR c = 40 ∧ ¬ symR c = 41 ∧ ¬ symR c = 12 ∧ ¬ symR c = 13 := by
  have h := okS_tab c hc
  unfold okS at h
  rw [decide_eq_false h1, decide_eq_false h2, Bool.false_or, Bool.false_or] at h
  simp only [Bool.and_eq_true, bne_iff_ne, ne_eq, List.contains_iff_mem] at h
  obtain ⟨⟨⟨⟨⟨a, b⟩, c⟩, d⟩, e⟩, f⟩ := h
  exact ⟨a, b, c, d, e, f⟩
theorem c_symbol {F : M2} {L : L2} {c : Nat} (hc : c ≤ 255) {K : Int32 → Prop} (h : K (ck (symR c))) : wp_X3_kindOfSymbol F L (nI c) K := by
  rw [sym_tab c (by omega)] at h
  unfold symC at h
  exact ⟨fun z => by rw [if_pos z] at h; exact h, fun z => by rw [if_neg (by rw [z]; decide), if_pos z] at h; exact h, fun z => by rw [if_neg (by rw [z]; decide), if_neg (by rw [z]; decide), if_pos z] at h; exact h, fun z => by rw [if_neg (by rw [z]; decide), if_neg (by rw [z]; decide), if_neg (by rw [z]; decide), if_pos z] at h; exact h, fun z => by rw [if_neg (by rw [z]; decide), if_neg (by rw [z]; decide), if_neg (by rw [z]; decide), if_neg (by rw [z]; decide), if_pos z] at h; exact h, fun z => by rw [if_neg (by rw [z]; decide), if_neg (by rw [z]; decide), if_neg (by rw [z]; decide), if_neg (by rw [z]; decide), if_neg (by rw [z]; decide), if_pos z] at h; exact h, fun z => by rw [if_neg (by rw [z]; decide), if_neg (by rw [z]; decide), if_neg (by rw [z]; decide), if_neg (by rw [z]; decide), if_neg (by rw [z]; decide), if_neg (by rw [z]; decide), if_pos z] at h; exact h, fun z => by rw [if_neg (by rw [z]; decide), if_neg (by rw [z]; decide), if_neg (by rw [z]; decide), if_neg (by rw [z]; decide), if_neg (by rw [z]; decide), if_neg (by rw [z]; decide), if_neg (by rw [z]; decide), if_pos z] at h; exact h, fun z => by rw [if_neg (by rw [z]; decide), if_neg (by rw [z]; decide), if_neg (by rw [z]; decide), if_neg (by rw [z]; decide), if_neg (by rw [z]; decide), if_neg (by rw [z]; decide), if_neg (by rw [z]; decide), if_neg (by rw [z]; decide), if_pos z] at h; exact h, fun z => by rw [if_neg (by rw [z]; decide), if_neg (by rw [z]; decide), if_neg (by rw [z]; decide), if_neg (by rw [z]; decide), if_neg (by rw [z]; decide), if_neg (by rw [z]; decide), if_neg (by rw [z]; decide), if_neg (by rw [z]; decide), if_neg (by rw [z]; decide), if_pos z] at h; exact h, fun z => by rw [if_neg (by rw [z]; decide), if_neg (by rw [z]; decide), if_neg (by rw [z]; decide), if_neg (by rw [z]; decide), if_neg (by rw [z]; decide), if_neg (by rw [z]; decide), if_neg (by rw [z]; decide), if_neg (by rw [z]; decide), if_neg (by rw [z]; decide), if_neg (by rw [z]; decide), if_pos z] at h; exact h, fun z => by rw [if_neg (by rw [z]; decide), if_neg (by rw [z]; decide), if_neg (by rw [z]; decide), if_neg (by rw [z]; decide), if_neg (by rw [z]; decide), if_neg (by rw [z]; decide), if_neg (by rw [z]; decide), if_neg (by rw [z]; decide), if_neg (by rw [z]; decide), if_neg (by rw [z]; decide), if_neg (by rw [z]; decide), if_pos z] at h; exact h, fun z => by rw [if_neg (by rw [z]; decide), if_neg (by rw [z]; decide), if_neg (by rw [z]; decide), if_neg (by rw [z]; decide), if_neg (by rw [z]; decide), if_neg (by rw [z]; decide), if_neg (by rw [z]; decide), if_neg (by rw [z]; decide), if_neg (by rw [z]; decide), if_neg (by rw [z]; decide), if_neg (by rw [z]; decide), if_neg (by rw [z]; decide), if_pos z] at h; exact h, fun z0 z1 z2 z3 z4 z5 z6 z7 z8 z9 z10 z11 z12 => by rw [if_neg z0, if_neg z1, if_neg z2, if_neg z3, if_neg z4, if_neg z5, if_neg z6, if_neg z7, if_neg z8, if_neg z9, if_neg z10, if_neg z11, if_neg z12] at h; exact h⟩
end TOK
