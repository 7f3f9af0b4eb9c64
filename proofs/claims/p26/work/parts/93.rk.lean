/-! ===== the class's words, as its constructor lays them ===== -/
section WORDS
def KWS (n : Nat) (F : M2) (L : L2) : Prop := F 73 0 = nI n ∧ ∀ k, k < n → L 71 k = kwI k ∧ F 72 k = ck (nI k)
def WFX (F F' : M2) (L L' : L2) : Prop := (∀ k, k ≠ 72 → k ≠ 73 → F' k = F k) ∧ ∀ k, k ≠ 71 → L' k = L k
theorem WFX.trans {F F1 F2 : M2} {L L1 L3 : L2} (h : WFX F F1 L L1) (g : WFX F1 F2 L1 L3) : WFX F F2 L L3 := ⟨fun k a b => (g.1 k a b).trans (h.1 k a b), fun k a => (g.2 k a).trans (h.2 k a)⟩
set_option maxRecDepth 100000 in
theorem kw_same : ∀ k, k < 32 → sbs.getD (33 + k) [] = sbs.getD k [] := by decide +kernel
theorem c_signE {c : Nat} (hc : c ≤ 255) {K : Int32 → Prop} (h : K (nI (sg c))) : wp_X3_signOfWordE (nI c) K := c_sign (F := fun _ _ => 0) (L := fun _ _ => 0) hc h
theorem c_kw {k : Nat} (hk : k < 32) {F : M2} {L : L2} (h : KWS k F L) {x2 : Int32} (hx : x2 = ck (nI k)) {K : M2 → L2 → Prop} (hK : ∀ F' L', KWS (k + 1) F' L' → WFX F F' L L' → K F' L') : wp_X3_addKeyword (33 + k) F L x2 K := by
  have es : sn (33 + k) = sn k := congrArg List.length (kw_same k hk)
  have eb : ∀ i, sb (33 + k) i = sb k i := fun i => congrArg (fun l : List Int32 => l.getD i 0) (kw_same k hk)
  have ebf : sb (33 + k) = sb k := funext eb
  obtain ⟨⟨t1, t2⟩, t3⟩ := kw_tab k hk
  have eo : Int32.ofNat (sn k) = nI (sn k) := rfl
  have loop : ∀ (d n f : Nat), n + d = sn k → d < f → wl_X3_addKeyword_5 (33 + k) K f F L x2 (cdI (kt k) 0 n) (nI n) := by
    intro d
    induction d with
    | zero =>
      intro n f hn hf
      obtain ⟨f, rfl, _⟩ := fuel hf
      refine ⟨by omega, ?_⟩
      rw [es, eo]
      refine And.intro (fun _ L1 e1 F1 e2 F2 e3 => ?_) (fun z => absurd (nI_le (by omega) (by omega)) z)
      rw [h.1, putl_nI (by omega) (by decide)] at e1
      rw [h.1, putv_nI (by omega) (by decide)] at e2
      rw [e2, up2_n _ _ (by decide : (73 : Nat) ≠ 72), h.1, nI_1] at e3
      have en : n = sn k := by omega
      refine hK F2 L1 ⟨by rw [e3, up2_s], fun j hj => ?_⟩ ⟨fun j a b => by rw [e3, up2_n _ _ b, up2_n _ _ a], fun j a => by rw [e1]; exact ul2_n _ _ a⟩
      rw [e1, ul2_s, e3, up2_n _ _ (by decide : (72 : Nat) ≠ 73), up2_s]
      by_cases e : j = k
      · subst e
        rw [upd_s]
        refine ⟨(if_pos rfl).trans ?_, hx⟩
        rw [en]
        rfl
      · obtain ⟨a, b⟩ := h.2 j (by omega)
        rw [upd_n _ _ e]
        exact ⟨(if_neg e).trans a, b⟩
    | succ d ih =>
      intro n f hn hf
      obtain ⟨f, rfl, _⟩ := fuel (show 0 < f by omega)
      obtain ⟨q1, q2, q3⟩ := t3 n (by omega)
      refine ⟨by omega, ?_⟩
      rw [es, eo, ebf, q1]
      refine And.intro (fun z => absurd z (nI_ge (by omega) (by omega))) (fun _ => ⟨by omega, inb_nJ (by omega) (by omega), c_signE q3 (fun v3 e3 v5 e5 => ?_)⟩)
      rw [nI_1] at e5
      have e3 : v3 = cdI (kt k) 0 (n + 1) := by
        rw [e3]
        show _ = cdI (kt k) 0 n * 37 + (nI (sg (kt k (0 + n)))).toInt64
        rw [Nat.zero_add]
      subst e3 e5
      exact ih (n + 1) f (by omega) (by omega)
  exact loop (sn k) 0 fK (by omega) (by rw [fK_eq]; omega)
theorem c_words {F : M2} {L : L2} (h : F 73 0 = 0) {K : M2 → L2 → Prop} (hK : ∀ F' L', KWT F' L' → WFX F F' L L' → K F' L') : wp_X3_initT F L K := by
  have h0 : KWS 0 F L := ⟨h, fun k hk => absurd hk (Nat.not_lt_zero _)⟩
  have w0 : WFX F F L L := ⟨fun _ _ _ => rfl, fun _ _ => rfl⟩
  refine c_kw (k := 0) (by decide) h0 (by decide +kernel) (fun F1 L1 h1 v1 => ?_)
  have w1 := w0.trans v1
  refine c_kw (k := 1) (by decide) h1 (by decide +kernel) (fun F2 L2 h2 v2 => ?_)
  have w2 := w1.trans v2
  refine c_kw (k := 2) (by decide) h2 (by decide +kernel) (fun F3 L3 h3 v3 => ?_)
  have w3 := w2.trans v3
  refine c_kw (k := 3) (by decide) h3 (by decide +kernel) (fun F4 L4 h4 v4 => ?_)
  have w4 := w3.trans v4
  refine c_kw (k := 4) (by decide) h4 (by decide +kernel) (fun F5 L5 h5 v5 => ?_)
  have w5 := w4.trans v5
  refine c_kw (k := 5) (by decide) h5 (by decide +kernel) (fun F6 L6 h6 v6 => ?_)
  have w6 := w5.trans v6
  refine c_kw (k := 6) (by decide) h6 (by decide +kernel) (fun F7 L7 h7 v7 => ?_)
  have w7 := w6.trans v7
  refine c_kw (k := 7) (by decide) h7 (by decide +kernel) (fun F8 L8 h8 v8 => ?_)
  have w8 := w7.trans v8
  refine c_kw (k := 8) (by decide) h8 (by decide +kernel) (fun F9 L9 h9 v9 => ?_)
  have w9 := w8.trans v9
  refine c_kw (k := 9) (by decide) h9 (by decide +kernel) (fun F10 L10 h10 v10 => ?_)
  have w10 := w9.trans v10
  refine c_kw (k := 10) (by decide) h10 (by decide +kernel) (fun F11 L11 h11 v11 => ?_)
  have w11 := w10.trans v11
  refine c_kw (k := 11) (by decide) h11 (by decide +kernel) (fun F12 L12 h12 v12 => ?_)
  have w12 := w11.trans v12
  refine c_kw (k := 12) (by decide) h12 (by decide +kernel) (fun F13 L13 h13 v13 => ?_)
  have w13 := w12.trans v13
  refine c_kw (k := 13) (by decide) h13 (by decide +kernel) (fun F14 L14 h14 v14 => ?_)
  have w14 := w13.trans v14
  refine c_kw (k := 14) (by decide) h14 (by decide +kernel) (fun F15 L15 h15 v15 => ?_)
  have w15 := w14.trans v15
  refine c_kw (k := 15) (by decide) h15 (by decide +kernel) (fun F16 L16 h16 v16 => ?_)
  have w16 := w15.trans v16
  refine c_kw (k := 16) (by decide) h16 (by decide +kernel) (fun F17 L17 h17 v17 => ?_)
  have w17 := w16.trans v17
  refine c_kw (k := 17) (by decide) h17 (by decide +kernel) (fun F18 L18 h18 v18 => ?_)
  have w18 := w17.trans v18
  refine c_kw (k := 18) (by decide) h18 (by decide +kernel) (fun F19 L19 h19 v19 => ?_)
  have w19 := w18.trans v19
  refine c_kw (k := 19) (by decide) h19 (by decide +kernel) (fun F20 L20 h20 v20 => ?_)
  have w20 := w19.trans v20
  refine c_kw (k := 20) (by decide) h20 (by decide +kernel) (fun F21 L21 h21 v21 => ?_)
  have w21 := w20.trans v21
  refine c_kw (k := 21) (by decide) h21 (by decide +kernel) (fun F22 L22 h22 v22 => ?_)
  have w22 := w21.trans v22
  refine c_kw (k := 22) (by decide) h22 (by decide +kernel) (fun F23 L23 h23 v23 => ?_)
  have w23 := w22.trans v23
  refine c_kw (k := 23) (by decide) h23 (by decide +kernel) (fun F24 L24 h24 v24 => ?_)
  have w24 := w23.trans v24
  refine c_kw (k := 24) (by decide) h24 (by decide +kernel) (fun F25 L25 h25 v25 => ?_)
  have w25 := w24.trans v25
  refine c_kw (k := 25) (by decide) h25 (by decide +kernel) (fun F26 L26 h26 v26 => ?_)
  have w26 := w25.trans v26
  refine c_kw (k := 26) (by decide) h26 (by decide +kernel) (fun F27 L27 h27 v27 => ?_)
  have w27 := w26.trans v27
  refine c_kw (k := 27) (by decide) h27 (by decide +kernel) (fun F28 L28 h28 v28 => ?_)
  have w28 := w27.trans v28
  refine c_kw (k := 28) (by decide) h28 (by decide +kernel) (fun F29 L29 h29 v29 => ?_)
  have w29 := w28.trans v29
  refine c_kw (k := 29) (by decide) h29 (by decide +kernel) (fun F30 L30 h30 v30 => ?_)
  have w30 := w29.trans v30
  refine c_kw (k := 30) (by decide) h30 (by decide +kernel) (fun F31 L31 h31 v31 => ?_)
  have w31 := w30.trans v31
  refine c_kw (k := 31) (by decide) h31 (by decide +kernel) (fun F32 L32 h32 v32 => ?_)
  have w32 := w31.trans v32
  exact hK F32 L32 ⟨h32.1, h32.2⟩ w32
end WORDS
