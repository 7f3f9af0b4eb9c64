/-! ===== all tokens on both sides ===== -/
section TOKS
variable {τ : Nat → Nat} {sz : Nat}
def qs (τ : Nat → Nat) (sz : Nat) : Nat → Nat
  | 0 => 0
  | i + 1 => blk τ (sz - qs τ sz i) (qs τ sz i) + tln τ sz (blk τ (sz - qs τ sz i) (qs τ sz i))
def ps (τ : Nat → Nat) (sz i : Nat) : Nat := blk τ (sz - qs τ sz i) (qs τ sz i)
theorem qs_s (i : Nat) : qs τ sz (i + 1) = ps τ sz i + tln τ sz (ps τ sz i) := rfl
def kT (τ : Nat → Nat) (sz i : Nat) : Int32 := if i = 400 ∧ ¬ sz ≤ ps τ sz i then 901 else tkd τ sz (ps τ sz i)
def vT (τ : Nat → Nat) (sz i : Nat) : Int64 := if i = 400 then 0 else tvl τ sz (ps τ sz i)
theorem tkd_vk {p : Nat} (hb : p < sz → τ p ≤ 255) : tkd τ sz p ∈ vk ∧ (sz ≤ p ↔ tkd τ sz p = 900) ∧ (tkd τ sz p = 41 → p < sz ∧ ¬ isL (τ p) ∧ isD (τ p) ∧ nln τ sz p ≤ 6) ∧ ((tkd τ sz p = 40 ∨ tkd τ sz p = 12 ∨ tkd τ sz p = 13) → p < sz ∧ isL (τ p) ∧ wln τ sz p ≤ 10 ∧ tkd τ sz p = wkd τ sz p) := by
  unfold tkd
  by_cases h0 : sz ≤ p
  · rw [if_pos h0]
    exact ⟨by decide, ⟨fun _ => rfl, fun _ => h0⟩, fun z => absurd z (by decide), fun z => absurd z (by decide)⟩
  have hb := hb (by omega)
  rw [if_neg h0]
  have nz : ∀ x : Int32, ¬ x = 900 → (sz ≤ p ↔ x = 900) := fun x hx => ⟨fun z => absurd z h0, fun z => absurd z hx⟩
  by_cases h1 : isL (τ p)
  · rw [if_pos h1]
    by_cases h2 : wln τ sz p ≤ 10
    · rw [if_pos h2]
      obtain ⟨a, b, c⟩ := wkd_vk (τ := τ) (sz := sz) (p := p)
      exact ⟨a, nz _ (fun z => by rw [z] at b; exact absurd b (by decide)), fun z => absurd z c, fun _ => ⟨by omega, h1, h2, rfl⟩⟩
    · rw [if_neg h2]
      exact ⟨by decide, nz _ (by decide), fun z => absurd z (by decide), fun z => absurd z (by decide)⟩
  rw [if_neg h1]
  by_cases h2 : isD (τ p)
  · rw [if_pos h2]
    by_cases h3 : nln τ sz p ≤ 6
    · rw [if_pos h3]
      exact ⟨by decide, nz _ (by decide), fun _ => ⟨by omega, h1, h2, h3⟩, fun z => absurd z (by decide)⟩
    · rw [if_neg h3]
      exact ⟨by decide, nz _ (by decide), fun z => absurd z (by decide), fun z => absurd z (by decide)⟩
  rw [if_neg h2]
  by_cases h3 : lgT τ sz p
  · rw [if_pos h3]
    by_cases h4 : τ p = 60
    · rw [if_pos h4]
      exact ⟨by decide, nz _ (by decide), fun z => absurd z (by decide), fun z => absurd z (by decide)⟩
    · rw [if_neg h4]
      exact ⟨by decide, nz _ (by decide), fun z => absurd z (by decide), fun z => absurd z (by decide)⟩
  · rw [if_neg h3]
    obtain ⟨a, b, c, d, e, f⟩ := sym_vk (c := τ p) (by omega) h1 h2
    exact ⟨a, nz _ b, fun z => absurd z d, fun z => z.elim (fun y => absurd y c) (fun z => z.elim (fun y => absurd y e) (fun y => absurd y f))⟩
theorem vk_hi {k : Int32} (h : k ∈ vk) : (¬ k < 900 ↔ (k = 900 ∨ k = 901)) ∧ (ck k = 0 ↔ k = 900) ∧ (ck k = 1 ↔ k = 901) := ⟨(by decide +kernel : ∀ k ∈ vk, (¬ k < 900 ↔ (k = 900 ∨ k = 901))) k h, ck_0 h, ck_1 h⟩
/-- the last token: end or wrong -/
def LST (τ : Nat → Nat) (sz m : Nat) : Prop := m ≤ 400 ∧ (∀ i, i < m → kT τ sz i < 900) ∧ ¬ kT τ sz m < 900
theorem lst_ex (hB : ∀ p, p < sz → τ p ≤ 255) : ∃ m, LST τ sz m := by
  obtain ⟨n, h1, h2, h3⟩ := first_fail (fun i => kT τ sz i < 900) 400
  refine ⟨n, h1, h2, ?_⟩
  rcases Nat.lt_or_ge n 400 with h | h
  · exact h3 h
  · have e : n = 400 := by omega
    subst e
    unfold kT
    by_cases c : sz ≤ ps τ sz 400
    · rw [if_neg (fun z => z.2 c), ((tkd_vk (hB _)).2.1.mp c)]
      decide
    · rw [if_pos ⟨rfl, c⟩]
      decide
theorem kT_vk (hB : ∀ p, p < sz → τ p ≤ 255) (i : Nat) : kT τ sz i ∈ vk := by
  unfold kT
  split
  · decide
  · exact (tkd_vk (hB _)).1
theorem kT_lo {i : Nat} (hB : ∀ p, p < sz → τ p ≤ 255) (h : kT τ sz i < 900) : i ≠ 400 ∧ ps τ sz i < sz ∧ kT τ sz i = tkd τ sz (ps τ sz i) := by
  unfold kT at h ⊢
  by_cases c : i = 400 ∧ ¬ sz ≤ ps τ sz i
  · rw [if_pos c] at h
    exact absurd h (by decide)
  · rw [if_neg c] at h ⊢
    have hlt : ps τ sz i < sz := by
      rcases Nat.lt_or_ge (ps τ sz i) sz with g | g
      · exact g
      · rw [(tkd_vk (hB _)).2.1.mp g] at h
        exact absurd h (by decide)
    exact ⟨fun z => c ⟨z, by omega⟩, hlt, rfl⟩
theorem qs_le (hB : ∀ p, p < sz → τ p ≤ 255) : ∀ i, (∀ j, j < i → kT τ sz j < 900) → qs τ sz i ≤ sz
  | 0, _ => Nat.zero_le _
  | i + 1, h => by
    rw [qs_s]
    have := (kT_lo hB (h i (by omega))).2.1
    exact (tln_le this).2
theorem ps_le (hB : ∀ p, p < sz → τ p ≤ 255) {i : Nat} (h : ∀ j, j < i → kT τ sz j < 900) : qs τ sz i ≤ ps τ sz i ∧ ps τ sz i ≤ sz := by
  have h1 := qs_le hB i h
  have h2 := blk_le (τ := τ) (sz - qs τ sz i) (qs τ sz i)
  unfold ps
  omega
/-! the class -/
def FTK (τ : Nat → Nat) (sz i : Nat) (F : M2) : M2 := up2 (up2 F 75 (fun j => if j < i then nI (ps τ sz j) else F 75 j)) 74 (fun j => if j < i then ck (kT τ sz j) else F 74 j)
def LTK (τ : Nat → Nat) (sz i : Nat) (L : L2) : L2 := ul2 L 76 (fun j => if j < i then vT τ sz j else L 76 j)
theorem FTK_n {i : Nat} {F : M2} {k : Nat} (h1 : k ≠ 74) (h2 : k ≠ 75) : FTK τ sz i F k = F k := by
  unfold FTK
  rw [up2_n _ _ h1, up2_n _ _ h2]
theorem FTK_0 {F : M2} : FTK τ sz 0 F = F := by
  funext k
  by_cases h1 : k = 74
  · subst h1
    exact (up2_s _ _ _).trans (funext fun j => if_neg (Nat.not_lt_zero _))
  by_cases h2 : k = 75
  · subst h2
    unfold FTK
    rw [up2_n _ _ h1, up2_s]
    exact funext fun j => if_neg (Nat.not_lt_zero _)
  · exact FTK_n h1 h2
theorem LTK_0 {L : L2} : LTK τ sz 0 L = L := by
  funext k
  by_cases h1 : k = 76
  · subst h1
    exact (ul2_s _ _ _).trans (funext fun j => if_neg (Nat.not_lt_zero _))
  · exact ul2_n _ _ h1
theorem if_lt_s {α : Type} {i : Nat} (f g : Nat → α) (j : Nat) : (if j = i then f i else if j < i then f j else g j) = if j < i + 1 then f j else g j := by
  by_cases e : j = i
  · subst e
    rw [if_pos rfl, if_pos (by omega)]
  · rw [if_neg e]
    by_cases h : j < i
    · rw [if_pos h, if_pos (by omega)]
    · rw [if_neg h, if_neg (by omega)]
theorem FTK_s {i : Nat} {F F1 : M2} (e1 : F1 = up2 (FTK τ sz i F) 75 (upd (FTK τ sz i F 75) i (nI (ps τ sz i)))) : up2 F1 74 (upd (F1 74) i (ck (kT τ sz i))) = FTK τ sz (i + 1) F := by
  have a74 : FTK τ sz i F 74 = fun j => if j < i then ck (kT τ sz j) else F 74 j := up2_s _ _ _
  have a75 : FTK τ sz i F 75 = fun j => if j < i then nI (ps τ sz j) else F 75 j := by
    unfold FTK
    rw [up2_n _ _ (by decide), up2_s]
  funext k
  by_cases h1 : k = 74
  · subst h1
    rw [up2_s, e1, up2_n _ _ (by decide), a74]
    unfold FTK
    rw [up2_s]
    exact funext fun j => if_lt_s (fun j => ck (kT τ sz j)) (F 74) j
  rw [up2_n _ _ h1, e1]
  by_cases h2 : k = 75
  · subst h2
    rw [up2_s, a75]
    unfold FTK
    rw [up2_n _ _ h1, up2_s]
    exact funext fun j => if_lt_s (fun j => nI (ps τ sz j)) (F 75) j
  · rw [up2_n _ _ h2, FTK_n h1 h2, FTK_n h1 h2]
theorem LTK_s {i : Nat} {L : L2} : ul2 (LTK τ sz i L) 76 (vp_updL (LTK τ sz i L 76) i (vT τ sz i)) = LTK τ sz (i + 1) L := by
  have a76 : LTK τ sz i L 76 = fun j => if j < i then vT τ sz j else L 76 j := ul2_s _ _ _
  funext k
  by_cases h1 : k = 76
  · subst h1
    rw [ul2_s, a76]
    unfold LTK
    rw [ul2_s]
    exact funext fun j => if_lt_s (fun j => vT τ sz j) (L 76) j
  · rw [ul2_n _ _ h1]
    unfold LTK
    rw [ul2_n _ _ h1, ul2_n _ _ h1]
theorem FTK_at {i : Nat} {F : M2} {L : L2} {j : Nat} (h : j < i) : FTK τ sz i F 74 j = ck (kT τ sz j) ∧ FTK τ sz i F 75 j = nI (ps τ sz j) ∧ LTK τ sz i L 76 j = vT τ sz j := by
  refine ⟨?_, ?_, ?_⟩
  · unfold FTK
    rw [up2_s]
    exact if_pos h
  · unfold FTK
    rw [up2_n _ _ (by decide), up2_s]
    exact if_pos h
  · unfold LTK
    rw [ul2_s]
    exact if_pos h
theorem c_toks {a : Nat → Nat} {K : Nat → M2 → L2 → Prop} {m : Nat} (hB : ∀ p, p < sz → τ p ≤ 255) (hM : LST τ sz m) {F0 : M2} {L0 : L2} (hT0 : TPC τ sz F0) (hW0 : KWT F0 L0) (h : K (a 80) (FTK τ sz (m + 1) F0) (LTK τ sz (m + 1) L0)) : ∀ (d i f : Nat), i + d = m → d + 1 < f → wl_X3_read_18 a K f (FTK τ sz i F0) (LTK τ sz i L0) (nI (qs τ sz i)) 1 (nI i) := by
  obtain ⟨m1, m2, m3⟩ := hM
  have hTi : ∀ i, TPC τ sz (FTK τ sz i F0) := fun i => by
    unfold TPC
    rw [FTK_n (by decide) (by decide), FTK_n (by decide) (by decide)]
    exact hT0
  have hWi : ∀ i, KWT (FTK τ sz i F0) (LTK τ sz i L0) := fun i => by
    unfold KWT
    have : LTK τ sz i L0 71 = L0 71 := ul2_n _ _ (by decide)
    rw [FTK_n (by decide) (by decide), FTK_n (by decide) (by decide), this]
    exact hW0
  intro d
  induction d with
  | zero =>
    intro i f hd hf
    obtain ⟨f, rfl, _⟩ := fuel (show 0 < f by omega)
    obtain ⟨f, rfl, _⟩ := fuel (show 0 < f by omega)
    have ei : i = m := by omega
    subst ei
    have hT := hTi i
    have hW := hWi i
    have hs := hT.1
    have hq := qs_le hB i m2
    obtain ⟨hp1, hp2⟩ := ps_le hB m2
    have e400 : (400 : Int32) = nI 400 := rfl
    refine And.intro (fun z => absurd z (by rw [e400, lt_nI (by omega) (by omega)]; omega)) (fun _ => And.intro (fun z => absurd z (by decide)) (fun _ => ?_))
    refine c_blanks hT (sz - qs τ sz i) (qs τ sz i) fK (by omega) (by rw [fK_eq]; omega) (fun F1 e1 => ?_)
    rw [putv_nI (by omega) (by decide)] at e1
    have e1 : F1 = up2 (FTK τ sz i F0) 75 (upd (FTK τ sz i F0 75) i (nI (ps τ sz i))) := e1
    have hT1 : TPC τ sz F1 := by
      unfold TPC
      rw [e1, up2_n _ _ (by decide), up2_n _ _ (by decide)]
      exact hT
    have hW1 : KWT F1 (LTK τ sz i L0) := by
      unfold KWT
      rw [e1, up2_n _ _ (by decide), up2_n _ _ (by decide)]
      exact hW
    have hc := vk_hi (kT_vk hB (τ := τ) (sz := sz) i)
    have fin : ∀ b, (fun (r_51 : Int32) (F_51 : M2) (L_51 : L2) => (((atv (F_51 74) 401 (nI i)) = 0 → (∀ v5_87 : Int32, v5_87 = nI i + 1 → wl_X3_read_18 a K (f + 1) F_51 L_51 r_51 0 v5_87)) ∧ (¬ (atv (F_51 74) 401 (nI i)) = 0 → (((atv (F_51 74) 401 (nI i)) = 1 → (∀ v5_87 : Int32, v5_87 = nI i + 1 → wl_X3_read_18 a K (f + 1) F_51 L_51 r_51 0 v5_87)) ∧ (¬ (atv (F_51 74) 401 (nI i)) = 1 → (∀ v5_87 : Int32, v5_87 = nI i + 1 → wl_X3_read_18 a K (f + 1) F_51 L_51 r_51 1 v5_87)))))) b (up2 F1 74 (upd (F1 74) i (ck (kT τ sz i)))) (ul2 (LTK τ sz i L0) 76 (vp_updL (LTK τ sz i L0 76) i (vT τ sz i))) := fun b => by
      dsimp only
      have hk74 : atv (up2 F1 74 (upd (F1 74) i (ck (kT τ sz i))) 74) 401 (nI i) = ck (kT τ sz i) := by rw [up2_s, atv_nI (by omega) (by decide), upd_s]
      rw [hk74, FTK_s e1, LTK_s]
      have stop : ∀ v5 : Int32, v5 = nI i + 1 → wl_X3_read_18 a K (f + 1) (FTK τ sz (i + 1) F0) (LTK τ sz (i + 1) L0) b 0 v5 := fun v5 _ =>
        And.intro (fun _ => h) (fun _ => And.intro (fun _ => h) (fun z => absurd rfl z))
      refine And.intro (fun _ => stop) (fun c0 => And.intro (fun _ => stop) (fun c1 => ?_))
      rcases hc.1.mp m3 with z | z
      · exact absurd (hc.2.1.mpr z) c0
      · exact absurd (hc.2.2.mpr z) c1
    exact c_readOne hT1 hW1 m1 hp2 (fun b _ => fin b) (fun b _ => fin b)
  | succ d ih =>
    intro i f hd hf
    obtain ⟨f, rfl, _⟩ := fuel (show 0 < f by omega)
    have hT := hTi i
    have hW := hWi i
    have him : ∀ j, j < i → kT τ sz j < 900 := fun j hj => m2 j (by omega)
    have hs := hT.1
    have hq := qs_le hB i him
    obtain ⟨hp1, hp2⟩ := ps_le hB him
    have hlo := m2 i (by omega)
    obtain ⟨n400, hlt, etk⟩ := kT_lo hB hlo
    have e400 : (400 : Int32) = nI 400 := rfl
    refine And.intro (fun z => absurd z (by rw [e400, lt_nI (by omega) (by omega)]; omega)) (fun _ => And.intro (fun z => absurd z (by decide)) (fun _ => ?_))
    refine c_blanks hT (sz - qs τ sz i) (qs τ sz i) fK (by omega) (by rw [fK_eq]; omega) (fun F1 e1 => ?_)
    rw [putv_nI (by omega) (by decide)] at e1
    have e1 : F1 = up2 (FTK τ sz i F0) 75 (upd (FTK τ sz i F0 75) i (nI (ps τ sz i))) := e1
    have hT1 : TPC τ sz F1 := by
      unfold TPC
      rw [e1, up2_n _ _ (by decide), up2_n _ _ (by decide)]
      exact hT
    have hW1 : KWT F1 (LTK τ sz i L0) := by
      unfold KWT
      rw [e1, up2_n _ _ (by decide), up2_n _ _ (by decide)]
      exact hW
    have hc := vk_hi (kT_vk hB (τ := τ) (sz := sz) i)
    refine c_readOne hT1 hW1 (by omega) hp2 (fun b hb => ?_) (fun b e => absurd e n400)
    have hb := hb (by rw [← etk]; exact hlo)
    subst hb
    have hk74 : atv (up2 F1 74 (upd (F1 74) i (ck (kT τ sz i))) 74) 401 (nI i) = ck (kT τ sz i) := by rw [up2_s, atv_nI (by omega) (by decide), upd_s]
    have next := ih (i + 1) f (by omega) (by omega)
    rw [← FTK_s e1, ← LTK_s] at next
    show (((atv ((up2 F1 74 (upd (F1 74) i (ck (kT τ sz i)))) 74) 401 (nI i)) = 0 → (∀ v5_87 : Int32, v5_87 = nI i + 1 → wl_X3_read_18 a K f (up2 F1 74 (upd (F1 74) i (ck (kT τ sz i)))) (ul2 (LTK τ sz i L0) 76 (vp_updL (LTK τ sz i L0 76) i (vT τ sz i))) (nI (ps τ sz i + tln τ sz (ps τ sz i))) 0 v5_87)) ∧ (¬ (atv ((up2 F1 74 (upd (F1 74) i (ck (kT τ sz i)))) 74) 401 (nI i)) = 0 → (((atv ((up2 F1 74 (upd (F1 74) i (ck (kT τ sz i)))) 74) 401 (nI i)) = 1 → (∀ v5_87 : Int32, v5_87 = nI i + 1 → wl_X3_read_18 a K f (up2 F1 74 (upd (F1 74) i (ck (kT τ sz i)))) (ul2 (LTK τ sz i L0) 76 (vp_updL (LTK τ sz i L0 76) i (vT τ sz i))) (nI (ps τ sz i + tln τ sz (ps τ sz i))) 0 v5_87)) ∧ (¬ (atv ((up2 F1 74 (upd (F1 74) i (ck (kT τ sz i)))) 74) 401 (nI i)) = 1 → (∀ v5_87 : Int32, v5_87 = nI i + 1 → wl_X3_read_18 a K f (up2 F1 74 (upd (F1 74) i (ck (kT τ sz i)))) (ul2 (LTK τ sz i L0) 76 (vp_updL (LTK τ sz i L0 76) i (vT τ sz i))) (nI (ps τ sz i + tln τ sz (ps τ sz i))) 1 v5_87)))))
    rw [hk74]
    refine And.intro (fun z => ?_) (fun _ => And.intro (fun z => ?_) (fun _ v5 e5 => ?_))
    · rw [hc.2.1.mp z] at hlo
      exact absurd hlo (by decide)
    · rw [hc.2.2.mp z] at hlo
      exact absurd hlo (by decide)
    · rw [nI_1] at e5
      subst e5
      exact next
end TOKS
