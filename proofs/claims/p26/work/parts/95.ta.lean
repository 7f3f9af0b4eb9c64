/-! ===== from bytes to tokens ===== -/
section LXS
variable {τ : Nat → Nat} {sz p i : Nat} {w a b : List Nat} {ts t1 t2 : List (Int32 × Option Int64)} {C C1 C2 : Nat → Prop}
def BYT (τ : Nat → Nat) (p : Nat) (w : List Nat) : Prop := ∀ j (hj : j < w.length), τ (p + j) = w[j]
theorem BYT.left (h : BYT τ p (a ++ b)) : BYT τ p a := fun j hj => by
  have := h j (by rw [List.length_append]; omega)
  rwa [List.getElem_append_left hj] at this
theorem BYT.right (h : BYT τ p (a ++ b)) : BYT τ (p + a.length) b := fun j hj => by
  have := h (a.length + j) (by rw [List.length_append]; omega)
  rw [List.getElem_append_right (by omega)] at this
  simp only [Nat.add_sub_cancel_left] at this
  rw [Nat.add_assoc]
  exact this
/-- token i begins at the first sign that is no blank, from p on -/
def AT (τ : Nat → Nat) (sz p i : Nat) : Prop := p ≤ sz ∧ ps τ sz i = blk τ (sz - p) p
def LXc (w : List Nat) (ts : List (Int32 × Option Int64)) (C : Nat → Prop) : Prop := ∀ (τ : Nat → Nat) (sz p i : Nat), p + w.length ≤ sz → BYT τ p w → (p + w.length < sz → C (τ (p + w.length))) → AT τ sz p i → i + ts.length ≤ 400 → (∀ j (hj : j < ts.length), kT τ sz (i + j) < 900 ∧ ck (kT τ sz (i + j)) = (ts[j]).1 ∧ ∀ v, (ts[j]).2 = some v → vT τ sz (i + j) = v) ∧ AT τ sz (p + w.length) (i + ts.length)
theorem LXc.app (h1 : LXc a t1 C1) (h2 : LXc b t2 C2) (hb : ∃ c b', b = c :: b' ∧ C1 c) : LXc (a ++ b) (t1 ++ t2) C2 := by
  intro τ sz p i hl hB hC hA hi
  rw [List.length_append] at hl hi hC
  obtain ⟨c, b', eb, hc⟩ := hb
  have hB2 := hB.right
  obtain ⟨k1, A1⟩ := h1 τ sz p i (by omega) hB.left (fun _ => by
    have h0 : 0 < b.length := by rw [eb]; exact Nat.succ_pos _
    have := hB2 0 h0
    rw [Nat.add_zero] at this
    rw [this]
    subst eb
    exact hc) hA (by omega)
  obtain ⟨k2, A2⟩ := h2 τ sz (p + a.length) (i + t1.length) (by omega) hB2 (fun h => by
    have := hC (by omega)
    rwa [← Nat.add_assoc] at this) A1 (by omega)
  refine ⟨fun j hj => ?_, by rw [List.length_append, List.length_append, ← Nat.add_assoc, ← Nat.add_assoc]; exact A2⟩
  rw [List.length_append] at hj
  by_cases c : j < t1.length
  · rw [List.getElem_append_left c]; exact k1 j c
  · have := k2 (j - t1.length) (by omega)
    rw [List.getElem_append_right (by omega)]
    rw [show i + t1.length + (j - t1.length) = i + j by omega] at this
    exact this
theorem LXc.nil : LXc [] [] (fun _ => True) := fun τ sz p i _ _ _ hA _ => ⟨fun j hj => absurd hj (Nat.not_lt_zero _), hA⟩
theorem LXc.weak (h : LXc w ts C) (hC : ∀ c, C1 c → C c) : LXc w ts C1 := fun τ sz p i h1 h2 h3 h4 h5 => h τ sz p i h1 h2 (fun z => hC _ (h3 z)) h4 h5
theorem lx_blank {c : Nat} (hc : c = 32 ∨ c = 10) : LXc [c] [] (fun _ => True) := by
  intro τ sz p i hl hB _ hA hi
  have hl : p + 1 ≤ sz := hl
  have h0 : τ p = c := hB 0 Nat.zero_lt_one
  refine ⟨fun j hj => absurd hj (Nat.not_lt_zero _), hl, ?_⟩
  show ps τ sz i = blk τ (sz - (p + 1)) (p + 1)
  rw [hA.2, show sz - p = (sz - (p + 1)) + 1 by omega]
  show (if τ p = 32 ∨ τ p = 10 then blk τ (sz - (p + 1)) (p + 1) else p) = _
  rw [if_pos (by rw [h0]; exact hc)]
theorem lx_one {k : Int32} {v : Option Int64} (h0 : 0 < w.length) (H : ∀ (τ : Nat → Nat) (sz p : Nat), p + w.length ≤ sz → BYT τ p w → (p + w.length < sz → C (τ (p + w.length))) → ¬ (τ p = 32 ∨ τ p = 10) ∧ tln τ sz p = w.length ∧ tkd τ sz p < 900 ∧ ck (tkd τ sz p) = k ∧ ∀ x, v = some x → tvl τ sz p = x) : LXc w [(k, v)] C := by
  intro τ sz p i hl hB hC hA hi
  have hi : i + 1 ≤ 400 := hi
  obtain ⟨n1, n2, n3, n4, n5⟩ := H τ sz p hl hB hC
  have e : ps τ sz i = p := by
    rw [hA.2, show sz - p = (sz - (p + 1)) + 1 by omega]
    show (if τ p = 32 ∨ τ p = 10 then blk τ (sz - (p + 1)) (p + 1) else p) = _
    rw [if_neg n1]
  have ek : kT τ sz i = tkd τ sz p := by
    unfold kT
    rw [if_neg (by omega), e]
  have ev : vT τ sz i = tvl τ sz p := by
    unfold vT
    rw [if_neg (by omega), e]
  refine ⟨fun j hj => ?_, by omega, ?_⟩
  · have hj : j < 1 := hj
    have : j = 0 := by omega
    subst this
    rw [Nat.add_zero, ek, ev]
    exact ⟨n3, n4, n5⟩
  · show blk τ (sz - qs τ sz (i + 1)) (qs τ sz (i + 1)) = _
    rw [qs_s, e, n2]
theorem wen_is : ∀ (n d p : Nat), (∀ i, i < n → 0 < sg (τ (p + i))) → n ≤ d → (n < d → sg (τ (p + n)) = 0) → wen τ d p = p + n
  | 0, 0, p, _, _, _ => rfl
  | 0, d + 1, p, _, _, h => by
    show (if 0 < sg (τ p) then wen τ d (p + 1) else p) = p
    have := h (by omega)
    rw [Nat.add_zero] at this
    rw [if_neg (by omega)]
  | n + 1, 0, p, _, h, _ => absurd h (by omega)
  | n + 1, d + 1, p, h1, h2, h3 => by
    show (if 0 < sg (τ p) then wen τ d (p + 1) else p) = p + (n + 1)
    have h0 := h1 0 (by omega)
    rw [Nat.add_zero] at h0
    rw [if_pos h0, wen_is n d (p + 1) (fun i hi => by rw [show p + 1 + i = p + (i + 1) by omega]; exact h1 (i + 1) (by omega)) (by omega) (fun z => by rw [show p + 1 + n = p + (n + 1) by omega]; exact h3 (by omega))]
    omega
theorem nen_is : ∀ (n d p : Nat), (∀ i, i < n → isD (τ (p + i))) → n ≤ d → (n < d → ¬ isD (τ (p + n))) → nen τ d p = p + n
  | 0, 0, p, _, _, _ => rfl
  | 0, d + 1, p, _, _, h => by
    show (if isD (τ p) then nen τ d (p + 1) else p) = p
    have := h (by omega)
    rw [Nat.add_zero] at this
    rw [if_neg this]
  | n + 1, 0, p, _, h, _ => absurd h (by omega)
  | n + 1, d + 1, p, h1, h2, h3 => by
    show (if isD (τ p) then nen τ d (p + 1) else p) = p + (n + 1)
    have h0 := h1 0 (by omega)
    rw [Nat.add_zero] at h0
    rw [if_pos h0, nen_is n d (p + 1) (fun i hi => by rw [show p + 1 + i = p + (i + 1) by omega]; exact h1 (i + 1) (by omega)) (by omega) (fun z => by rw [show p + 1 + n = p + (n + 1) by omega]; exact h3 (by omega))]
    omega
theorem sg_D {c : Nat} (h : isD c) : 0 < sg c := sg_pos.mpr (Or.inr h)
theorem lx_word {cw : Int64} {K k : Int32} {v : Option Int64} (h0 : 0 < w.length) (hn : w.length ≤ 10) (hw : ∀ j (hj : j < w.length), 0 < sg (w[j])) (hl : isL (w[0])) (hc : cdI (fun i => w.getD i 0) 0 w.length = cw) (hK : wkF cw 32 0 = K) (hk : ck K = k) (hv : ∀ x, v = some x → (if K = 12 then 0 else if K = 13 then 1 else cw) = x) : LXc w [(k, v)] (fun c => sg c = 0) := by
  refine lx_one h0 (fun τ sz p hlen hB hC => ?_)
  have e0 : τ p = w[0] := hB 0 h0
  have hL : isL (τ p) := by rw [e0]; exact hl
  have hwen : wen τ (sz - p) p = p + w.length := wen_is w.length (sz - p) p (fun i hi => by rw [hB i hi]; exact hw i hi) (by omega) (fun z => hC (by omega))
  have hwln : wln τ sz p = w.length := by unfold wln; rw [hwen]; omega
  have hcd : cdI τ p w.length = cw := by
    rw [← hc, cdI_N, cdI_N, cdN_cong (σ := fun i => w.getD i 0) (q := 0) w.length (fun i hi => by
      rw [hB i hi]
      show w[i] = w.getD (0 + i) 0
      rw [Nat.zero_add, List.getD_eq_getElem?_getD, List.getElem?_eq_getElem hi]
      rfl)]
  have hkd : wkd τ sz p = K := by unfold wkd; rw [hwln, hcd, hK]
  have hsz : ¬ sz ≤ p := by omega
  have htk : tkd τ sz p = K := by unfold tkd; rw [if_neg hsz, if_pos hL, hwln, if_pos hn, hkd]
  refine ⟨fun z => ?_, ?_, ?_, by rw [htk]; exact hk, fun x hx => ?_⟩
  · have : 97 ≤ τ p := hL.1
    omega
  · unfold tln; rw [if_pos hL, hwln]
  · rw [htk, ← hkd]; exact wkd_vk.2.1
  · unfold tvl
    rw [if_neg hsz, if_pos hL, hwln, if_pos hn, hkd, hcd]
    exact hv x hx
theorem nm_kd : ∀ c ∈ [97, 98, 109], ∀ j, j < 6 → wkF (nmc c j) 32 0 = 40 := by decide +kernel
theorem lx_name {c j : Nat} (hc : c ∈ [97, 98, 109]) (hj : j < 6) : LXc ([c] ++ decs j) [(2, some (nmc c j))] (fun c => sg c = 0) := by
  have hd : decs j = [48 + j] := by unfold decs; rw [if_pos (by omega)]
  rw [hd]
  have hcl : 97 ≤ c ∧ c ≤ 122 := by
    rcases List.mem_cons.mp hc with h | h
    · omega
    rcases List.mem_cons.mp h with h | h
    · omega
    have := List.mem_singleton.mp h
    omega
  refine lx_word (w := [c, 48 + j]) (K := 40) (cw := nmc c j) (show 0 < 2 by decide) (show 2 ≤ 10 by decide) (fun i hi => ?_) hcl rfl (nm_kd c hc j hj) rfl (fun x hx => by rw [if_neg (by decide), if_neg (by decide)]; exact Option.some.inj hx)
  have hi : i < 2 := hi
  have h2 : i = 0 ∨ i = 1 := by omega
  rcases h2 with rfl | rfl
  · exact sg_pos.mpr (Or.inl hcl)
  · exact sg_D (show isD (48 + j) from ⟨by omega, by omega⟩)
theorem lx_num {n : Nat} (hn : n < 100) : LXc (decs n) [(4, some (Int64.ofNat n))] (fun c => sg c = 0) := by
  have key : ∀ (w : List Nat), 0 < w.length → w.length ≤ 6 → (∀ j (hj : j < w.length), isD (w[j])) → (∀ (τ : Nat → Nat) p, BYT τ p w → nbN τ p w.length = n) → LXc w [(4, some (Int64.ofNat n))] (fun c => sg c = 0) := fun w h0 h6 hD hN => by
    refine lx_one h0 (fun τ sz p hlen hB hC => ?_)
    have e0 : τ p = w[0] := hB 0 h0
    have hDp : isD (τ p) := by rw [e0]; exact hD 0 h0
    have hL : ¬ isL (τ p) := fun z => by
      have a := z.1
      have b := hDp.2
      omega
    have hDs : ∀ i, i < w.length → isD (τ (p + i)) := fun i hi => by rw [hB i hi]; exact hD i hi
    have hnen : nen τ (sz - p) p = p + w.length := nen_is w.length (sz - p) p hDs (by omega) (fun z y => by
      have := sg_D y
      have := hC (by omega)
      omega)
    have hnln : nln τ sz p = w.length := by unfold nln; rw [hnen]; omega
    have hsz : ¬ sz ≤ p := by omega
    have htk : tkd τ sz p = 41 := by unfold tkd; rw [if_neg hsz, if_neg hL, if_pos hDp, hnln, if_pos h6]
    refine ⟨fun z => ?_, ?_, by rw [htk]; decide, by rw [htk]; rfl, fun x hx => ?_⟩
    · have : 48 ≤ τ p := hDp.1
      omega
    · unfold tln; rw [if_neg hL, if_pos hDp, hnln]
    · unfold tvl
      rw [if_neg hsz, if_neg hL, if_pos hDp, hnln, if_pos h6, nbI_N p _ hDs, hN τ p hB]
      exact Option.some.inj hx
  by_cases h : n < 10
  · have hd : decs n = [48 + n] := by unfold decs; rw [if_pos h]
    rw [hd]
    refine key [48 + n] (show 0 < 1 by decide) (show 1 ≤ 6 by decide) (fun j hj => ?_) (fun τ p hB => ?_)
    · have hj : j < 1 := hj
      have : j = 0 := by omega
      subst this
      exact ⟨show 48 ≤ 48 + n by omega, show 48 + n ≤ 57 by omega⟩
    · have a : τ (p + 0) = 48 + n := hB 0 Nat.zero_lt_one
      show 0 * 10 + (τ (p + 0) - 48) = n
      omega
  · have hd : decs n = [48 + n / 10, 48 + n % 10] := by unfold decs; rw [if_neg h]
    rw [hd]
    refine key [48 + n / 10, 48 + n % 10] (show 0 < 2 by decide) (show 2 ≤ 6 by decide) (fun j hj => ?_) (fun τ p hB => ?_)
    · have hj : j < 2 := hj
      have h2 : j = 0 ∨ j = 1 := by omega
      rcases h2 with rfl | rfl
      · exact ⟨show 48 ≤ 48 + n / 10 by omega, show 48 + n / 10 ≤ 57 by omega⟩
      · exact ⟨show 48 ≤ 48 + n % 10 by omega, show 48 + n % 10 ≤ 57 by omega⟩
    · have a : τ (p + 0) = 48 + n / 10 := hB 0 (show 0 < 2 by decide)
      have b : τ (p + 1) = 48 + n % 10 := hB 1 (show 1 < 2 by decide)
      show (0 * 10 + (τ (p + 0) - 48)) * 10 + (τ (p + 1) - 48) = n
      omega
theorem lx_sym {c : Nat} {k : Int32} (h1 : ¬ isL c) (h2 : ¬ isD c) (h3 : ¬ (c = 32 ∨ c = 10)) (h4 : c ≠ 60 ∧ c ≠ 62) (hs : symR c < 900) (hk : ck (symR c) = k) : LXc [c] [(k, none)] (fun _ => True) := by
  refine lx_one Nat.zero_lt_one (fun τ sz p hlen hB _ => ?_)
  have hlen : p + 1 ≤ sz := hlen
  have e0 : τ p = c := hB 0 Nat.zero_lt_one
  have hlg : ¬ lgT τ sz p := fun z => by
    have := z.1
    omega
  have h1' : ¬ isL (τ p) := by rw [e0]; exact h1
  have h2' : ¬ isD (τ p) := by rw [e0]; exact h2
  have htk : tkd τ sz p = symR c := by unfold tkd; rw [if_neg (by omega), if_neg h1', if_neg h2', if_neg hlg, e0]
  refine ⟨by rw [e0]; exact h3, ?_, by rw [htk]; exact hs, by rw [htk]; exact hk, fun x hx => nomatch hx⟩
  unfold tln
  rw [if_neg h1', if_neg h2', if_neg hlg]
  rfl
theorem lx_lt {c : Nat} {k : Int32} (hc : c = 60 ∨ c = 62) (hk : ck (symR c) = k) : LXc [c] [(k, none)] (fun d => d ≠ 61) := by
  refine lx_one Nat.zero_lt_one (fun τ sz p hlen hB hC => ?_)
  have hlen : p + 1 ≤ sz := hlen
  have hC : p + 1 < sz → τ (p + 1) ≠ 61 := hC
  have e0 : τ p = c := hB 0 Nat.zero_lt_one
  have h1 : ¬ isL c := fun z => by have := z.1; omega
  have h2 : ¬ isD c := fun z => by have := z.2; omega
  have hlg : ¬ lgT τ sz p := fun z => hC z.2.1 z.2.2
  have h1' : ¬ isL (τ p) := by rw [e0]; exact h1
  have h2' : ¬ isD (τ p) := by rw [e0]; exact h2
  have htk : tkd τ sz p = symR c := by unfold tkd; rw [if_neg (by omega), if_neg h1', if_neg h2', if_neg hlg, e0]
  refine ⟨by rw [e0]; omega, ?_, by rw [htk]; rcases hc with y | y <;> rw [y] <;> decide, by rw [htk]; exact hk, fun x hx => nomatch hx⟩
  unfold tln
  rw [if_neg h1', if_neg h2', if_neg hlg]
  rfl
theorem lx_ge : LXc [62, 61] [(23, none)] (fun _ => True) := by
  refine lx_one (by decide) (fun τ sz p hlen hB _ => ?_)
  have hlen : p + 2 ≤ sz := hlen
  have e0 : τ p = 62 := hB 0 (by decide)
  have e1 : τ (p + 1) = 61 := hB 1 (by decide)
  have h1 : ¬ isL (τ p) := by rw [e0]; decide
  have h2 : ¬ isD (τ p) := by rw [e0]; decide
  have hlg : lgT τ sz p := ⟨Or.inr e0, by omega, e1⟩
  have htk : tkd τ sz p = 301 := by unfold tkd; rw [if_neg (by omega), if_neg h1, if_neg h2, if_pos hlg, e0, if_neg (by decide)]
  refine ⟨by rw [e0]; decide, ?_, by rw [htk]; decide, by rw [htk]; rfl, fun x hx => nomatch hx⟩
  unfold tln
  rw [if_neg h1, if_neg h2, if_pos hlg]
  rfl
end LXS
