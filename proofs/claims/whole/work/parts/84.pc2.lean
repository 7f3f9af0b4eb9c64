/-! ===== the lines of bores, shafts, leggers, boats ===== -/
section PLAIN
variable {κ : Nat → Int32} {m : Nat} {val : Nat → Int64} {N0 : M2} {V0 : M2}
def NUMV (κ : Nat → Int32) (m : Nat) (val : Nat → Int64) : Prop := ∀ i, i ≤ m → κ i = 41 → ∃ v, v ≤ 999999 ∧ (val i).toInt32 = nI v
theorem rng_nat {x : Int32} {v lo hi : Nat} (hx : x = nI v) (hv : v ≤ 999999) (hl : lo < 1000000) (hh : hi < 1000000) (h : nI lo ≤ x ∧ x ≤ nI hi) : lo ≤ v ∧ v ≤ hi := by
  rw [hx, le_nI (by omega) (by omega), le_nI (by omega) (by omega)] at h
  exact h
theorem lastI_nI {V : M2} {k c : Nat} (h : V k 0 = nI (c + 1)) (hc : c < 1000) : lastI V k = c := by
  unfold lastI
  rw [h, nI_pred, tn_nI (by omega)]
theorem ul2_s (L : L2) (k : Nat) (g : Nat → Int64) : ul2 L k g k = g := by simp [ul2]
theorem ul2_n (L : L2) {k j : Nat} (g : Nat → Int64) (h : j ≠ k) : ul2 L k g j = L j := by simp [ul2, h]
def OUT (κ : Nat → Int32) (m : Nat) (val : Nat → Int64) (N0 V0 : M2) (w2 : W2) (w8 : W8) (q : Nat) (its : List IT) (nr : Nat) (F : M2) (L : L2) (N P : M2) : Prop :=
  (∃ (F' : M2) (L' : L2) (N' : M2), BND κ m val N0 V0 F' L' N' P q its nr ∧ (∀ k, 68 < k → F' k = F k) ∧ (∀ k, (k < 61 ∨ 64 < k) → L' k = L k) ∧ (∀ k, (k ≤ 226 ∨ 230 < k) → N' k = N k) ∧ (∀ K, K 1 F' L' → w2 F L K) ∧ (∀ K, K 1 N' P → w8 N P K)) ∨ FAIL m w2 w8 F L N P
set_option maxHeartbeats 4000000 in
theorem ln_bore (hK : KIN κ m) (hNV : NUMV κ m val) (hSid : SID κ m val) {F : M2} {L : L2} {N P : M2} {p nr : Nat} {its : List IT} (hB : BND κ m val N0 V0 F L N P p its nr) (h0 : ck (κ p) = 34) : OUT κ m val N0 V0 (fun F L K => wp_X2_boreLine F L (nI p) K) (fun N P K => wp_X8_isBoreLine N P K) (p + 6) its nr F L N P := by
  have hm := hK.1
  obtain ⟨h1, h2, h3, h4, h5, h6, h7, h9, h8⟩ := hB
  rcases sy_BORE_LINE hK h1 h2 h0 with ⟨N', hM, hpn, hL, k8, k2⟩ | ⟨p', F', N', P', hp', fc, fn, k2, k8⟩
  rotate_left
  · exact Or.inr ⟨p', F', N', P', hp', fc, fn, fun K hk => k2 _ (And.intro (fun z => absurd rfl z) (fun _ => hk)), k8⟩
  have h6n := h1.adv (q := p + 6) hpn
  have eF : ∀ k, k ≠ 66 → cT (p + 6) F k = F k := fun k hk => up2_n _ _ hk
  have e227 : N' 227 = upd (upd (upd (N 227) (p + 1) 1) (p + 1 + 1 + 1) 7) (p + 1 + 1 + 1 + 1 + 1) 8 := hL.2.1
  have hr : ∀ k, k < p → N 227 k = N' 227 k := fun k hk => by
    rw [e227, upd_n _ _ (by omega), upd_n _ _ (by omega), upd_n _ _ (by omega)]
  have r0 : N' 227 (p + 0) = 0 := by
    rw [e227, upd_n _ _ (by omega), upd_n _ _ (by omega), upd_n _ _ (by omega)]
    exact h3 _ (by omega) (by omega)
  have r1 : N' 227 (p + 1) = 1 := by
    rw [e227, upd_n _ _ (by omega), upd_n _ _ (by omega), show p + 1 = p + 1 by omega, upd_s]
  have r2 : N' 227 (p + 2) = 0 := by
    rw [e227, upd_n _ _ (by omega), upd_n _ _ (by omega), upd_n _ _ (by omega)]
    exact h3 _ (by omega) (by omega)
  have r3 : N' 227 (p + 3) = 7 := by
    rw [e227, upd_n _ _ (by omega), show p + 3 = p + 1 + 1 + 1 by omega, upd_s]
  have r4 : N' 227 (p + 4) = 0 := by
    rw [e227, upd_n _ _ (by omega), upd_n _ _ (by omega), upd_n _ _ (by omega)]
    exact h3 _ (by omega) (by omega)
  have r5 : N' 227 (p + 5) = 8 := by
    rw [e227, show p + 5 = p + 1 + 1 + 1 + 1 + 1 by omega, upd_s]
  have hROK : ROK m N' (p + 6) := fun k hk hk2 => by
    rw [e227, upd_n _ _ (by omega), upd_n _ _ (by omega), upd_n _ _ (by omega)]
    exact h3 k (by omega) hk2
  have rr : ∀ i, p ≤ i → i < p + 6 → (i = p + 0 ∧ N' 227 i = 0) ∨ (i = p + 1 ∧ N' 227 i = 1) ∨ (i = p + 2 ∧ N' 227 i = 0) ∨ (i = p + 3 ∧ N' 227 i = 7) ∨ (i = p + 4 ∧ N' 227 i = 0) ∨ (i = p + 5 ∧ N' 227 i = 8) := fun i h1 h2 => by
    have : i = p + 0 ∨ i = p + 1 ∨ i = p + 2 ∨ i = p + 3 ∨ i = p + 4 ∨ i = p + 5 := by omega
    rcases this with q | q | q | q | q | q
    · exact Or.inl ⟨q, q ▸ r0⟩
    · exact Or.inr (Or.inl ⟨q, q ▸ r1⟩)
    · exact Or.inr (Or.inr (Or.inl ⟨q, q ▸ r2⟩))
    · exact Or.inr (Or.inr (Or.inr (Or.inl ⟨q, q ▸ r3⟩)))
    · exact Or.inr (Or.inr (Or.inr (Or.inr (Or.inl ⟨q, q ▸ r4⟩))))
    · exact Or.inr (Or.inr (Or.inr (Or.inr (Or.inr (⟨q, q ▸ r5⟩)))))
  have hW : WFR κ (N' 227) (p + 6) := fun t ht => by
    by_cases e : t < p
    · exact (h9 t e).cong (fun k hk => hr k (by omega))
    have hor : t = p + 0 ∨ t = p + 1 ∨ t = p + 2 ∨ t = p + 3 ∨ t = p + 4 ∨ t = p + 5 := by omega
    rcases hor with e | e | e | e | e | e
    · rw [e]; exact LOC.zero r0
    · rw [e]
      unfold LOC
      rw [r1]
      exact ⟨Or.inr ((ck_2 (hK.2.1 _ (by omega))).mp (hM 1 (by decide))), by show 0 ≤ p + 1; omega, by show N' 227 (p + 1 - 0) = _; rw [show p + 1 - 0 = p + 1 by omega, r1]; decide, by decide⟩
    · rw [e]; exact LOC.zero r2
    · rw [e]
      unfold LOC
      rw [r3]
      exact ⟨Or.inr ((ck_4 (hK.2.1 _ (by omega))).mp (hM 3 (by decide))), by show 2 ≤ p + 3; omega, by show N' 227 (p + 3 - 2) = _; rw [show p + 3 - 2 = p + 1 by omega, r1]; decide, by decide⟩
    · rw [e]; exact LOC.zero r4
    · rw [e]
      unfold LOC
      rw [r5]
      exact ⟨Or.inr ((ck_4 (hK.2.1 _ (by omega))).mp (hM 5 (by decide))), by show 4 ≤ p + 5; omega, by show N' 227 (p + 5 - 4) = _; rw [show p + 5 - 4 = p + 1 by omega, r1]; decide, by decide⟩
  have mk : ∀ (F' : M2) (L' : L2), F' 66 = cT (p + 6) F 66 → F' 74 = F 74 → F' 45 = F 45 → L' 76 = L 76 → ((∃ e k, k < p + 6 ∧ SER κ val V0 (N' 227) (p + 6) e k ∧ CER F' e k) ∨ (∃ V np, SOK κ val V0 (N' 227) (p + 6) V ∧ F' 67 0 = 0 ∧ PXN val (N' 227) (p + 6) np F' L' V ∧ ORX val (N' 227) F' V P its nr)) → BND κ m val N0 V0 F' L' N' P (p + 6) its nr := fun F' L' g66 g74 g45 g76 g =>
    ⟨h6n.rows g66 (by rw [g74, eF 74 (by decide)]) g76, hL.1, hROK, ⟨by rw [g45]; exact h4.1, by omega⟩, h5, h6.cong hr (by omega), ⟨h7.1, by omega⟩, hW, g⟩
  have nf : ∀ k, k ≠ 67 → k ≠ 68 → ∀ x lo hi x' lo' hi' τ told, rgC x lo hi (p + 5) (rgC x' lo' hi' (p + 3) (nwC τ told 5 (p + 1) (cT (p + 6) F))) k = cT (p + 6) F k := fun k ha hb x lo hi x' lo' hi' τ told => by rw [rgC_n ha hb, rgC_n ha hb, nwC_n ha hb]
  -- the class, whatever comes out
  have cb : ∀ (K : Int32 → M2 → L2 → Prop) (F7 : M2), F7 = rgC (val (p + 5)).toInt32 0 9 (p + 5) (rgC (val (p + 3)).toInt32 1 12 (p + 3) (nwC (idx (L 61) (F 20 0) 5 (val (p + 1))) (F 20 0) 5 (p + 1) (cT (p + 6) F))) → (¬ F7 67 0 = 0 → K 1 F7 L) → (F7 67 0 = 0 → wp_X1_addBore F7 (ul2 L 61 (putl (L 61) 5 (F7 20 0) (val (p + 1)))) (val (p + 3)).toInt32 (val (p + 5)).toInt32 (fun F L => K 1 F L)) → wp_X2_boreLine F L (nI p) K := fun K F7 e7 hne heq => by
    refine k2 _ (And.intro (fun _ => ?_) (fun z => absurd z (by decide)))
    have a1 : nI p + 1 = nI (p + 1) := nI_1 p
    have a3 : nI p + 3 = nI (p + 3) := nI_add p 3
    have a5 : nI p + 5 = nI (p + 5) := nI_add p 5
    rw [a1, a3, a5, eF 20 (by decide)]
    refine c_new_nB h6n hK (by omega) ?_
    have s1 : SC κ m val (nwC (idx (L 61) (F 20 0) 5 (val (p + 1))) (F 20 0) 5 (p + 1) (cT (p + 6) F)) L (p + 6) := h6n.rows (nwC_n (by decide) (by decide)) (nwC_n (by decide) (by decide)) rfl
    refine c_range s1 hK (by omega) ?_
    have s2 : SC κ m val (rgC (val (p + 3)).toInt32 1 12 (p + 3) (nwC (idx (L 61) (F 20 0) 5 (val (p + 1))) (F 20 0) 5 (p + 1) (cT (p + 6) F))) L (p + 6) := s1.rows (rgC_n (by decide) (by decide)) (rgC_n (by decide) (by decide)) rfl
    refine c_range s2 hK (by omega) ?_
    rw [← e7]
    refine And.intro (fun c => hne c) (fun c L1 el => ?_)
    rw [h1.vl hK (by omega)] at el
    subst el
    unfold wp_X2_number
    have e76 : ul2 L 61 (putl (L 61) 5 (F7 20 0) (val (p + 1))) 76 = L 76 := ul2_n _ _ (by decide)
    rw [e76, h1.vl hK (by omega), h1.vl hK (by omega)]
    exact heq c
  have fin : ∀ (F7 : M2), F7 = rgC (val (p + 5)).toInt32 0 9 (p + 5) (rgC (val (p + 3)).toInt32 1 12 (p + 3) (nwC (idx (L 61) (F 20 0) 5 (val (p + 1))) (F 20 0) 5 (p + 1) (cT (p + 6) F))) → ∀ e k, k < p + 6 → SER κ val V0 (N' 227) (p + 6) e k → CER F7 e k → OUT κ m val N0 V0 (fun F L K => wp_X2_boreLine F L (nI p) K) (fun N P K => wp_X8_isBoreLine N P K) (p + 6) its nr F L N P := fun F7 e7 e k hk hS hC => by
    refine Or.inl ⟨F7, L, N', mk F7 L ?_ ?_ ?_ rfl (Or.inl ⟨e, k, hk, hS, hC⟩), fun k hk => ?_, fun _ _ => rfl, hL.2.2, fun K hk => cb K F7 e7 (fun _ => hk) (fun z => absurd (hC.1.symm.trans z) hC.2.1), k8⟩
    · rw [e7, nf 66 (by decide) (by decide)]
    · rw [e7, nf 74 (by decide) (by decide), eF 74 (by decide)]
    · rw [e7, nf 45 (by decide) (by decide), eF 45 (by decide)]
    · rw [e7, nf k (by omega) (by omega), eF k (by omega)]
  rcases h8 with ⟨e, k, hk, hS, hC⟩ | ⟨V, np, hS, hF67, hP, hO⟩
  · have hC0 : CER (cT (p + 6) F) e k := by
      unfold CER
      rw [eF 67 (by decide), eF 68 (by decide)]
      exact hC
    refine fin _ rfl e k (by omega) ((hS.cong hr).add 6) ?_
    rw [nwC_off hC0, rgC_off hC0, rgC_off hC0]
    exact hC0
  have hP := hP.cong hr
  have hF0 : cT (p + 6) F 67 0 = 0 := by rw [eF 67 (by decide)]; exact hF67
  obtain ⟨x1, x2, x3, x4, x5, x6, x7, x8, x9, x10⟩ := hP
  have S1 : SOK κ val V0 (N' 227) (p + 1) V := (hS.cong hr).step0 r0
  have hcn := x1
  obtain ⟨y1, y2, y3, y4⟩ := hcn
  have ht : idx (L 61) (F 20 0) 5 (val (p + 1)) = tld val (N' 227) 1 (p + 1) (p + 1) := by
    rw [y1, idx_tld y4 y3 (by decide)]
    refine (tld_at (d := 1) (fun i h1 h2 z => ?_) (p + 1)).symm
    have : i = p + 0 := by omega
    rw [this, r0] at z
    exact absurd z (by decide)
  rw [ht, y1] at fin cb
  rcases chk_new (as := 0) (F := cT (p + 6) F) S1 (erF_1 r1) hF0 y2 (rfl : (5 : Int32) = nI 5) y3 (by decide) with ⟨e, hE, hC⟩ | ⟨ht1, hlt, S2, hN⟩
  · refine fin _ rfl e (p + 1) (by omega) (hE.add 4) ?_
    rw [rgC_off hC, rgC_off hC]
    exact hC
  have S3 := S2.step0 r2
  have hlt5 : cnt (N' 227) 1 p < 5 := by omega
  have e240 : (up2 V 240 (fun _ => nI (cnt (N' 227) 1 p + 1))) 240 0 = nI (cnt (N' 227) 1 p + 1) := by rw [up2_s]
  have eV : ∀ k, k ≠ 240 → (up2 V 240 (fun _ => nI (cnt (N' 227) 1 p + 1))) k = V k := fun k hk => up2_n _ _ hk
  generalize hV1 : up2 V 240 (fun _ => nI (cnt (N' 227) 1 p + 1)) = V1 at *
  rcases chk_rng (F := cT (p + 6) F) S3 (erF_7 r3) hF0 with ⟨e, hE, hC⟩ | ⟨hrg, S4, hN3⟩
  · refine fin _ rfl e (p + 3) (by omega) (hE.add 2) ?_
    rw [hN, rgC_off hC]
    exact hC
  have hrE : rngE (val (p + 3)).toInt32 1 12 = 0 := if_pos hrg
  rw [hrE, if_pos rfl] at S4
  have S5 := S4.step0 r4
  rcases chk_rng (F := cT (p + 6) F) S5 (erF_8 r5) hF0 with ⟨e, hE, hC⟩ | ⟨hrg5, S6, hN5⟩
  · refine fin _ rfl e (p + 5) (by omega) hE ?_
    rw [hN, hN3]
    exact hC
  have hk3 : κ (p + 3) = 41 := (ck_4 (hK.2.1 _ (by omega))).mp (hM 3 (by decide))
  obtain ⟨v, hv, ev⟩ := hNV (p + 3) (by omega) hk3
  obtain ⟨b1, b2⟩ := rng_nat (lo := 1) (hi := 12) ev hv (by decide) (by decide) hrg
  have hli : lastI V1 240 = cnt (N' 227) 1 p := lastI_nI e240 (by omega)
  obtain ⟨z1, z2, z3⟩ := x5
  have hnp60 : np + v ≤ 60 := by omega
  have e241 : V1 241 0 = nI np := by rw [eV 241 (by decide)]; exact z2
  -- the plan of the second pass
  have hdug : dugF V1 (val (p + 3)).toInt32 = dgG 245 241 (nI (cnt (N' 227) 1 p)) v (st2 (st2 V1 242 (cnt (N' 227) 1 p) (nI v)) 244 (cnt (N' 227) 1 p) (nI np)) := by
    unfold dugF
    rw [digF_dg, hli, e240, nI_pred, ev, tn_nI (by omega), e241]
  rw [hdug] at S6
  obtain ⟨w1, w2, w3⟩ := dgG_spec (ka := 245) (kc := 241) (by decide) (k := nI (cnt (N' 227) 1 p)) v (st2 (st2 V1 242 (cnt (N' 227) 1 p) (nI v)) 244 (cnt (N' 227) 1 p) (nI np)) np (by rw [st2_n _ _ _ (by decide), st2_n _ _ _ (by decide)]; exact e241) (by omega)
  generalize hV2 : dgG 245 241 (nI (cnt (N' 227) 1 p)) v (st2 (st2 V1 242 (cnt (N' 227) 1 p) (nI v)) 244 (cnt (N' 227) 1 p) (nI np)) = V2 at *
  have hli2 : lastI V2 240 = cnt (N' 227) 1 p := by
    refine lastI_nI ?_ (by omega)
    rw [w3 240 (by decide) (by decide), st2_n _ _ _ (by decide), st2_n _ _ _ (by decide)]
    exact e240
  rw [hli2] at S6
  -- the plan of the class
  obtain ⟨u1, u2, u3⟩ := dgG_spec (ka := 28) (kc := 21) (by decide) (k := nI (cnt (N' 227) 1 p)) v (st2 (st2 (st2 (cT (p + 6) F) 25 (cnt (N' 227) 1 p) (val (p + 3)).toInt32) 26 (cnt (N' 227) 1 p) (val (p + 5)).toInt32) 27 (cnt (N' 227) 1 p) (nI np)) np (by rw [st2_n _ _ _ (by decide), st2_n _ _ _ (by decide), st2_n _ _ _ (by decide), eF 21 (by decide)]; exact z1) (by omega)
  have hF' : ∀ K : M2 → L2 → Prop, K (up2 (dgG 28 21 (nI (cnt (N' 227) 1 p)) v (st2 (st2 (st2 (cT (p + 6) F) 25 (cnt (N' 227) 1 p) (val (p + 3)).toInt32) 26 (cnt (N' 227) 1 p) (val (p + 5)).toInt32) 27 (cnt (N' 227) 1 p) (nI np))) 20 (fun _ => nI (cnt (N' 227) 1 p + 1))) (ul2 L 61 (vp_updL (L 61) (cnt (N' 227) 1 p) (val (p + 1)))) → wp_X1_addBore (cT (p + 6) F) (ul2 L 61 (putl (L 61) 5 (cT (p + 6) F 20 0) (val (p + 1)))) (val (p + 3)).toInt32 (val (p + 5)).toInt32 K := fun K hk => by
    have e20 : cT (p + 6) F 20 0 = nI (cnt (N' 227) 1 p) := by rw [eF 20 (by decide)]; exact y1
    rw [e20, putl_nI hlt (by decide)]
    exact c_addBore hlt (by omega) e20 (by rw [eF 21 (by decide)]; exact z1) ev hk
  generalize hG : dgG 28 21 (nI (cnt (N' 227) 1 p)) v (st2 (st2 (st2 (cT (p + 6) F) 25 (cnt (N' 227) 1 p) (val (p + 3)).toInt32) 26 (cnt (N' 227) 1 p) (val (p + 5)).toInt32) 27 (cnt (N' 227) 1 p) (nI np)) = G at *
  have fK : ∀ k, k ≠ 20 → k ≠ 21 → k ≠ 25 → k ≠ 26 → k ≠ 27 → k ≠ 28 → k ≠ 66 → up2 G 20 (fun _ => nI (cnt (N' 227) 1 p + 1)) k = F k := fun k a1 a2 a3 a4 a5 a6 a7 => by
    rw [up2_n _ _ a1, u3 k a6 a2, st2_n _ _ _ a5, st2_n _ _ _ a4, st2_n _ _ _ a3, eF k a7]
  have f66 : up2 G 20 (fun _ => nI (cnt (N' 227) 1 p + 1)) 66 = cT (p + 6) F 66 := by
    rw [up2_n _ _ (by decide), u3 66 (by decide) (by decide), st2_n _ _ _ (by decide), st2_n _ _ _ (by decide), st2_n _ _ _ (by decide)]
  have vK : ∀ k, k ≠ 240 → k ≠ 241 → k ≠ 242 → k ≠ 243 → k ≠ 244 → k ≠ 245 → st2 V2 243 (cnt (N' 227) 1 p) (val (p + 5)).toInt32 k = V k := fun k a1 a2 a3 a4 a5 a6 => by
    rw [st2_n _ _ _ a4, w3 k a6 a2, st2_n _ _ _ a5, st2_n _ _ _ a3, eV k a1]
  have hno : ∀ as : Int32, as ≠ 1 → as ≠ 0 → as ≠ 7 → as ≠ 8 → ∀ i, p ≤ i → i < p + 6 → ¬ N' 227 i = as := fun as a1 a0 a7 a8 i hi1 hi2 z => by
    rcases rr i hi1 hi2 with q | q | q | q | q | q <;> rw [q.2] at z <;> first | exact a0 z.symm | exact a1 z.symm | exact a7 z.symm | exact a8 z.symm
  have hC1 := x1.add (t := p + 1) (d := 6) ⟨by omega, by omega⟩ r1 (fun i hi1 hi2 hne z => by
    rcases rr i hi1 hi2 with q | q | q | q | q | q
    · rw [q.2] at z; exact absurd z (by decide)
    · exact hne q.1
    · rw [q.2] at z; exact absurd z (by decide)
    · rw [q.2] at z; exact absurd z (by decide)
    · rw [q.2] at z; exact absurd z (by decide)
    · rw [q.2] at z; exact absurd z (by decide)) hlt
  have c1 : cnt (N' 227) 1 (p + 6) = cnt (N' 227) 1 p + 1 := nI_inj (by have := hC1.2.2.1; omega) (by omega) hC1.1.symm
  have c2 := cnt_more (ρ := N' 227) (as := 2) (p := p) 6 (hno 2 (by decide) (by decide) (by decide) (by decide))
  have c3 := cnt_more (ρ := N' 227) (as := 3) (p := p) 6 (hno 3 (by decide) (by decide) (by decide) (by decide))
  have c4 := cnt_more (ρ := N' 227) (as := 4) (p := p) 6 (hno 4 (by decide) (by decide) (by decide) (by decide))
  have v240 : st2 V2 243 (cnt (N' 227) 1 p) (val (p + 5)).toInt32 240 0 = nI (cnt (N' 227) 1 p + 1) := by
    rw [st2_n _ _ _ (by decide), w3 240 (by decide) (by decide), st2_n _ _ _ (by decide), st2_n _ _ _ (by decide)]
    exact e240
  have hPX : PXN val (N' 227) (p + 6) (np + v) (up2 G 20 (fun _ => nI (cnt (N' 227) 1 p + 1))) (ul2 L 61 (vp_updL (L 61) (cnt (N' 227) 1 p) (val (p + 1)))) (st2 V2 243 (cnt (N' 227) 1 p) (val (p + 5)).toInt32) := by
    unfold PXN
    rw [c1, c2, c3, c4]
    rw [fK 22 (by decide) (by decide) (by decide) (by decide) (by decide) (by decide) (by decide), fK 23 (by decide) (by decide) (by decide) (by decide) (by decide) (by decide) (by decide), fK 24 (by decide) (by decide) (by decide) (by decide) (by decide) (by decide) (by decide), fK 29 (by decide) (by decide) (by decide) (by decide) (by decide) (by decide) (by decide), fK 30 (by decide) (by decide) (by decide) (by decide) (by decide) (by decide) (by decide), fK 31 (by decide) (by decide) (by decide) (by decide) (by decide) (by decide) (by decide), fK 32 (by decide) (by decide) (by decide) (by decide) (by decide) (by decide) (by decide), fK 33 (by decide) (by decide) (by decide) (by decide) (by decide) (by decide) (by decide), fK 34 (by decide) (by decide) (by decide) (by decide) (by decide) (by decide) (by decide), fK 35 (by decide) (by decide) (by decide) (by decide) (by decide) (by decide) (by decide), fK 36 (by decide) (by decide) (by decide) (by decide) (by decide) (by decide) (by decide), fK 37 (by decide) (by decide) (by decide) (by decide) (by decide) (by decide) (by decide)]
    rw [vK 246 (by decide) (by decide) (by decide) (by decide) (by decide) (by decide), vK 249 (by decide) (by decide) (by decide) (by decide) (by decide) (by decide), vK 252 (by decide) (by decide) (by decide) (by decide) (by decide) (by decide), vK 247 (by decide) (by decide) (by decide) (by decide) (by decide) (by decide), vK 248 (by decide) (by decide) (by decide) (by decide) (by decide) (by decide), vK 250 (by decide) (by decide) (by decide) (by decide) (by decide) (by decide), vK 251 (by decide) (by decide) (by decide) (by decide) (by decide) (by decide), vK 253 (by decide) (by decide) (by decide) (by decide) (by decide) (by decide), vK 254 (by decide) (by decide) (by decide) (by decide) (by decide) (by decide), vK 255 (by decide) (by decide) (by decide) (by decide) (by decide) (by decide)]
    have ecr : (fun b => st2 V2 243 (cnt (N' 227) 1 p) (val (p + 5)).toInt32 (310 + b)) = fun b => V (310 + b) := funext (fun b => vK _ (by omega) (by omega) (by omega) (by omega) (by omega) (by omega))
    rw [ecr, ul2_s, ul2_n _ _ (by decide), ul2_n _ _ (by decide), ul2_n _ _ (by decide)]
    refine ⟨?_, x2.keep 6 (hno 2 (by decide) (by decide) (by decide) (by decide)), x3.keep 6 (hno 3 (by decide) (by decide) (by decide) (by decide)), x4.keep 6 (hno 4 (by decide) (by decide) (by decide) (by decide)), ⟨?_, ?_, by omega⟩, ?_, ?_, ?_, x9, x10⟩
    · rw [up2_s, v240]
      exact hC1
    · rw [up2_n _ _ (by decide), u1]
    · rw [st2_n _ _ _ (by decide), w1]
    · intro k hk
      have g25 : up2 G 20 (fun _ => nI (cnt (N' 227) 1 p + 1)) 25 k = if k = cnt (N' 227) 1 p then (val (p + 3)).toInt32 else F 25 k := by
        rw [up2_n _ _ (by decide), u3 25 (by decide) (by decide), st2_n _ _ _ (by decide), st2_n _ _ _ (by decide), st2_k, eF 25 (by decide)]
      have g26 : up2 G 20 (fun _ => nI (cnt (N' 227) 1 p + 1)) 26 k = if k = cnt (N' 227) 1 p then (val (p + 5)).toInt32 else F 26 k := by
        rw [up2_n _ _ (by decide), u3 26 (by decide) (by decide), st2_n _ _ _ (by decide), st2_k, st2_n _ _ _ (by decide), eF 26 (by decide)]
      have g27 : up2 G 20 (fun _ => nI (cnt (N' 227) 1 p + 1)) 27 k = if k = cnt (N' 227) 1 p then nI np else F 27 k := by
        rw [up2_n _ _ (by decide), u3 27 (by decide) (by decide), st2_k, st2_n _ _ _ (by decide), st2_n _ _ _ (by decide), eF 27 (by decide)]
      have g242 : st2 V2 243 (cnt (N' 227) 1 p) (val (p + 5)).toInt32 242 k = if k = cnt (N' 227) 1 p then nI v else V 242 k := by
        rw [st2_n _ _ _ (by decide), w3 242 (by decide) (by decide), st2_n _ _ _ (by decide), st2_k, eV 242 (by decide)]
      have g243 : st2 V2 243 (cnt (N' 227) 1 p) (val (p + 5)).toInt32 243 k = if k = cnt (N' 227) 1 p then (val (p + 5)).toInt32 else V 243 k := by
        rw [st2_k, w3 243 (by decide) (by decide), st2_n _ _ _ (by decide), st2_n _ _ _ (by decide), eV 243 (by decide)]
      have g244 : st2 V2 243 (cnt (N' 227) 1 p) (val (p + 5)).toInt32 244 k = if k = cnt (N' 227) 1 p then nI np else V 244 k := by
        rw [st2_n _ _ _ (by decide), w3 244 (by decide) (by decide), st2_k, st2_n _ _ _ (by decide), eV 244 (by decide)]
      rw [g25, g26, g27, g242, g243, g244]
      by_cases e : k = cnt (N' 227) 1 p
      · exact ⟨v, np, b1, b2, Nat.le_refl _, by rw [if_pos e, ev], by rw [if_pos e], by rw [if_pos e], by rw [if_pos e], by rw [if_pos e, if_pos e]⟩
      · obtain ⟨x, f, g1, g2, g3, g4, g5, g6, g7, g8⟩ := x6 k (by omega)
        exact ⟨x, f, g1, g2, by omega, by rw [if_neg e]; exact g4, by rw [if_neg e]; exact g5, by rw [if_neg e]; exact g6, by rw [if_neg e]; exact g7, by rw [if_neg e, if_neg e]; exact g8⟩
    · intro q hq
      rw [up2_n _ _ (by decide), st2_n _ _ _ (by decide), u2 q, w2 q]
      by_cases e : np ≤ q ∧ q < np + v
      · exact ⟨cnt (N' 227) 1 p, by omega, by rw [if_pos e], by rw [if_pos e]⟩
      · obtain ⟨k, g1, g2, g3⟩ := x7 q (by omega)
        refine ⟨k, by omega, ?_, ?_⟩
        · rw [if_neg e, st2_n _ _ _ (by decide), st2_n _ _ _ (by decide), st2_n _ _ _ (by decide), eF 28 (by decide)]; exact g2
        · rw [if_neg e, st2_n _ _ _ (by decide), st2_n _ _ _ (by decide), eV 245 (by decide)]; exact g3
    · intro s hs
      obtain ⟨a, d, g1, g2⟩ := x8 s hs
      exact ⟨a, d, by omega, g2⟩
  refine Or.inl ⟨_, _, N', mk (up2 G 20 (fun _ => nI (cnt (N' 227) 1 p + 1))) (ul2 L 61 (vp_updL (L 61) (cnt (N' 227) 1 p) (val (p + 1)))) f66 (fK 74 (by decide) (by decide) (by decide) (by decide) (by decide) (by decide) (by decide)) (fK 45 (by decide) (by decide) (by decide) (by decide) (by decide) (by decide) (by decide)) (ul2_n _ _ (by decide)) (Or.inr ⟨_, np + v, S6, ?_, hPX, ?_⟩), fun k hk => fK k (by omega) (by omega) (by omega) (by omega) (by omega) (by omega) (by omega), fun k hk => ul2_n _ _ (by omega), hL.2.2, fun K hk => cb K (cT (p + 6) F) (by rw [hN, hN3, hN5]) (fun z => absurd hF0 z) (fun _ => hF' _ hk), k8⟩
  · rw [fK 67 (by decide) (by decide) (by decide) (by decide) (by decide) (by decide) (by decide)]
    exact hF67
  · exact hO.keep (fun q hq hn => (h6.2.2 q hq hn).2) hr (fun k hk => fK k (by omega) (by omega) (by omega) (by omega) (by omega) (by omega) (by omega)) ⟨vK 257 (by decide) (by decide) (by decide) (by decide) (by decide) (by decide), vK 259 (by decide) (by decide) (by decide) (by decide) (by decide) (by decide), vK 260 (by decide) (by decide) (by decide) (by decide) (by decide) (by decide)⟩ ⟨rfl, rfl⟩
set_option maxHeartbeats 4000000 in
theorem ln_shaft (hK : KIN κ m) (hNV : NUMV κ m val) (hSid : SID κ m val) {F : M2} {L : L2} {N P : M2} {p nr : Nat} {its : List IT} (hB : BND κ m val N0 V0 F L N P p its nr) (h0 : ck (κ p) = 37) : OUT κ m val N0 V0 (fun F L K => wp_X2_shaftLine F L (nI p) K) (fun N P K => wp_X8_isShaftLine N P K) (p + 6) its nr F L N P := by
  have hm := hK.1
  obtain ⟨h1, h2, h3, h4, h5, h6, h7, h9, h8⟩ := hB
  rcases sy_SHAFT_LINE hK h1 h2 h0 with ⟨N', hM, hpn, hL, k8, k2⟩ | ⟨p', F', N', P', hp', fc, fn, k2, k8⟩
  rotate_left
  · exact Or.inr ⟨p', F', N', P', hp', fc, fn, fun K hk => k2 _ (And.intro (fun z => absurd rfl z) (fun _ => hk)), k8⟩
  have h6n := h1.adv (q := p + 6) hpn
  have eF : ∀ k, k ≠ 66 → cT (p + 6) F k = F k := fun k hk => up2_n _ _ hk
  have e227 : N' 227 = upd (upd (upd (N 227) (p + 1) 2) (p + 1 + 1 + 1) 9) (p + 1 + 1 + 1 + 1 + 1) 10 := hL.2.1
  have hr : ∀ k, k < p → N 227 k = N' 227 k := fun k hk => by
    rw [e227, upd_n _ _ (by omega), upd_n _ _ (by omega), upd_n _ _ (by omega)]
  have r0 : N' 227 (p + 0) = 0 := by
    rw [e227, upd_n _ _ (by omega), upd_n _ _ (by omega), upd_n _ _ (by omega)]
    exact h3 _ (by omega) (by omega)
  have r1 : N' 227 (p + 1) = 2 := by
    rw [e227, upd_n _ _ (by omega), upd_n _ _ (by omega), show p + 1 = p + 1 by omega, upd_s]
  have r2 : N' 227 (p + 2) = 0 := by
    rw [e227, upd_n _ _ (by omega), upd_n _ _ (by omega), upd_n _ _ (by omega)]
    exact h3 _ (by omega) (by omega)
  have r3 : N' 227 (p + 3) = 9 := by
    rw [e227, upd_n _ _ (by omega), show p + 3 = p + 1 + 1 + 1 by omega, upd_s]
  have r4 : N' 227 (p + 4) = 0 := by
    rw [e227, upd_n _ _ (by omega), upd_n _ _ (by omega), upd_n _ _ (by omega)]
    exact h3 _ (by omega) (by omega)
  have r5 : N' 227 (p + 5) = 10 := by
    rw [e227, show p + 5 = p + 1 + 1 + 1 + 1 + 1 by omega, upd_s]
  have hROK : ROK m N' (p + 6) := fun k hk hk2 => by
    rw [e227, upd_n _ _ (by omega), upd_n _ _ (by omega), upd_n _ _ (by omega)]
    exact h3 k (by omega) hk2
  have rr : ∀ i, p ≤ i → i < p + 6 → (i = p + 0 ∧ N' 227 i = 0) ∨ (i = p + 1 ∧ N' 227 i = 2) ∨ (i = p + 2 ∧ N' 227 i = 0) ∨ (i = p + 3 ∧ N' 227 i = 9) ∨ (i = p + 4 ∧ N' 227 i = 0) ∨ (i = p + 5 ∧ N' 227 i = 10) := fun i h1 h2 => by
    have : i = p + 0 ∨ i = p + 1 ∨ i = p + 2 ∨ i = p + 3 ∨ i = p + 4 ∨ i = p + 5 := by omega
    rcases this with q | q | q | q | q | q
    · exact Or.inl ⟨q, q ▸ r0⟩
    · exact Or.inr (Or.inl ⟨q, q ▸ r1⟩)
    · exact Or.inr (Or.inr (Or.inl ⟨q, q ▸ r2⟩))
    · exact Or.inr (Or.inr (Or.inr (Or.inl ⟨q, q ▸ r3⟩)))
    · exact Or.inr (Or.inr (Or.inr (Or.inr (Or.inl ⟨q, q ▸ r4⟩))))
    · exact Or.inr (Or.inr (Or.inr (Or.inr (Or.inr (⟨q, q ▸ r5⟩)))))
  have hW : WFR κ (N' 227) (p + 6) := fun t ht => by
    by_cases e : t < p
    · exact (h9 t e).cong (fun k hk => hr k (by omega))
    have hor : t = p + 0 ∨ t = p + 1 ∨ t = p + 2 ∨ t = p + 3 ∨ t = p + 4 ∨ t = p + 5 := by omega
    rcases hor with e | e | e | e | e | e
    · rw [e]; exact LOC.zero r0
    · rw [e]
      unfold LOC
      rw [r1]
      exact ⟨Or.inr ((ck_2 (hK.2.1 _ (by omega))).mp (hM 1 (by decide))), by show 0 ≤ p + 1; omega, by show N' 227 (p + 1 - 0) = _; rw [show p + 1 - 0 = p + 1 by omega, r1]; decide, by decide⟩
    · rw [e]; exact LOC.zero r2
    · rw [e]
      unfold LOC
      rw [r3]
      exact ⟨Or.inr ((ck_4 (hK.2.1 _ (by omega))).mp (hM 3 (by decide))), by show 2 ≤ p + 3; omega, by show N' 227 (p + 3 - 2) = _; rw [show p + 3 - 2 = p + 1 by omega, r1]; decide, by decide⟩
    · rw [e]; exact LOC.zero r4
    · rw [e]
      unfold LOC
      rw [r5]
      exact ⟨Or.inr ((ck_4 (hK.2.1 _ (by omega))).mp (hM 5 (by decide))), by show 4 ≤ p + 5; omega, by show N' 227 (p + 5 - 4) = _; rw [show p + 5 - 4 = p + 1 by omega, r1]; decide, by decide⟩
  have mk : ∀ (F' : M2) (L' : L2), F' 66 = cT (p + 6) F 66 → F' 74 = F 74 → F' 45 = F 45 → L' 76 = L 76 → ((∃ e k, k < p + 6 ∧ SER κ val V0 (N' 227) (p + 6) e k ∧ CER F' e k) ∨ (∃ V np, SOK κ val V0 (N' 227) (p + 6) V ∧ F' 67 0 = 0 ∧ PXN val (N' 227) (p + 6) np F' L' V ∧ ORX val (N' 227) F' V P its nr)) → BND κ m val N0 V0 F' L' N' P (p + 6) its nr := fun F' L' g66 g74 g45 g76 g =>
    ⟨h6n.rows g66 (by rw [g74, eF 74 (by decide)]) g76, hL.1, hROK, ⟨by rw [g45]; exact h4.1, by omega⟩, h5, h6.cong hr (by omega), ⟨h7.1, by omega⟩, hW, g⟩
  have nf : ∀ k, k ≠ 67 → k ≠ 68 → ∀ x lo hi x' lo' hi' τ told, rgC x lo hi (p + 5) (rgC x' lo' hi' (p + 3) (nwC τ told 4 (p + 1) (cT (p + 6) F))) k = cT (p + 6) F k := fun k ha hb x lo hi x' lo' hi' τ told => by rw [rgC_n ha hb, rgC_n ha hb, nwC_n ha hb]
  -- the class, whatever comes out
  have cb : ∀ (K : Int32 → M2 → L2 → Prop) (F7 : M2), F7 = rgC (val (p + 5)).toInt32 1 30 (p + 5) (rgC (val (p + 3)).toInt32 0 (F 21 0 - 1) (p + 3) (nwC (idx (L 62) (F 22 0) 4 (val (p + 1))) (F 22 0) 4 (p + 1) (cT (p + 6) F))) → (¬ F7 67 0 = 0 → K 1 F7 L) → (F7 67 0 = 0 → wp_X1_addShaft F7 (ul2 L 62 (putl (L 62) 4 (F7 22 0) (val (p + 1)))) (val (p + 3)).toInt32 (val (p + 5)).toInt32 (fun F L => K 1 F L)) → wp_X2_shaftLine F L (nI p) K := fun K F7 e7 hne heq => by
    refine k2 _ (And.intro (fun _ => ?_) (fun z => absurd z (by decide)))
    have a1 : nI p + 1 = nI (p + 1) := nI_1 p
    have a3 : nI p + 3 = nI (p + 3) := nI_add p 3
    have a5 : nI p + 5 = nI (p + 5) := nI_add p 5
    rw [a1, a3, a5, eF 22 (by decide)]
    refine c_new_nS h6n hK (by omega) ?_
    have s1 : SC κ m val (nwC (idx (L 62) (F 22 0) 4 (val (p + 1))) (F 22 0) 4 (p + 1) (cT (p + 6) F)) L (p + 6) := h6n.rows (nwC_n (by decide) (by decide)) (nwC_n (by decide) (by decide)) rfl
    rw [nwC_n (by decide) (by decide), eF 21 (by decide)]
    refine c_range s1 hK (by omega) ?_
    have s2 : SC κ m val (rgC (val (p + 3)).toInt32 0 (F 21 0 - 1) (p + 3) (nwC (idx (L 62) (F 22 0) 4 (val (p + 1))) (F 22 0) 4 (p + 1) (cT (p + 6) F))) L (p + 6) := s1.rows (rgC_n (by decide) (by decide)) (rgC_n (by decide) (by decide)) rfl
    refine c_range s2 hK (by omega) ?_
    rw [← e7]
    refine And.intro (fun c => hne c) (fun c L1 el => ?_)
    rw [h1.vl hK (by omega)] at el
    subst el
    unfold wp_X2_number
    have e76 : ul2 L 62 (putl (L 62) 4 (F7 22 0) (val (p + 1))) 76 = L 76 := ul2_n _ _ (by decide)
    rw [e76, h1.vl hK (by omega), h1.vl hK (by omega)]
    exact heq c
  have fin : ∀ (F7 : M2), F7 = rgC (val (p + 5)).toInt32 1 30 (p + 5) (rgC (val (p + 3)).toInt32 0 (F 21 0 - 1) (p + 3) (nwC (idx (L 62) (F 22 0) 4 (val (p + 1))) (F 22 0) 4 (p + 1) (cT (p + 6) F))) → ∀ e k, k < p + 6 → SER κ val V0 (N' 227) (p + 6) e k → CER F7 e k → OUT κ m val N0 V0 (fun F L K => wp_X2_shaftLine F L (nI p) K) (fun N P K => wp_X8_isShaftLine N P K) (p + 6) its nr F L N P := fun F7 e7 e k hk hS hC => by
    refine Or.inl ⟨F7, L, N', mk F7 L ?_ ?_ ?_ rfl (Or.inl ⟨e, k, hk, hS, hC⟩), fun k hk => ?_, fun _ _ => rfl, hL.2.2, fun K hk => cb K F7 e7 (fun _ => hk) (fun z => absurd (hC.1.symm.trans z) hC.2.1), k8⟩
    · rw [e7, nf 66 (by decide) (by decide)]
    · rw [e7, nf 74 (by decide) (by decide), eF 74 (by decide)]
    · rw [e7, nf 45 (by decide) (by decide), eF 45 (by decide)]
    · rw [e7, nf k (by omega) (by omega), eF k (by omega)]
  rcases h8 with ⟨e, k, hk, hS, hC⟩ | ⟨V, np, hS, hF67, hP, hO⟩
  · have hC0 : CER (cT (p + 6) F) e k := by
      unfold CER
      rw [eF 67 (by decide), eF 68 (by decide)]
      exact hC
    refine fin _ rfl e k (by omega) ((hS.cong hr).add 6) ?_
    rw [nwC_off hC0, rgC_off hC0, rgC_off hC0]
    exact hC0
  have hP := hP.cong hr
  have hF0 : cT (p + 6) F 67 0 = 0 := by rw [eF 67 (by decide)]; exact hF67
  obtain ⟨x1, x2, x3, x4, x5, x6, x7, x8, x9, x10⟩ := hP
  have S1 : SOK κ val V0 (N' 227) (p + 1) V := (hS.cong hr).step0 r0
  have hcn := x2
  obtain ⟨y1, y2, y3, y4⟩ := hcn
  have ht : idx (L 62) (F 22 0) 4 (val (p + 1)) = tld val (N' 227) 2 (p + 1) (p + 1) := by
    rw [y1, idx_tld y4 y3 (by decide)]
    refine (tld_at (d := 1) (fun i h1 h2 z => ?_) (p + 1)).symm
    have : i = p + 0 := by omega
    rw [this, r0] at z
    exact absurd z (by decide)
  rw [ht, y1] at fin cb
  rcases chk_new (as := 0) (F := cT (p + 6) F) S1 (erF_2 r1) hF0 y2 (rfl : (4 : Int32) = nI 4) y3 (by decide) with ⟨e, hE, hC⟩ | ⟨ht1, hlt, S2, hN⟩
  · refine fin _ rfl e (p + 1) (by omega) (hE.add 4) ?_
    rw [rgC_off hC, rgC_off hC]
    exact hC
  have S3 := S2.step0 r2
  have hltc : cnt (N' 227) 2 p < 4 := by omega
  have e246 : (up2 V 246 (fun _ => nI (cnt (N' 227) 2 p + 1))) 246 0 = nI (cnt (N' 227) 2 p + 1) := by rw [up2_s]
  have eV : ∀ k, k ≠ 246 → (up2 V 246 (fun _ => nI (cnt (N' 227) 2 p + 1))) k = V k := fun k hk => up2_n _ _ hk
  generalize hV1 : up2 V 246 (fun _ => nI (cnt (N' 227) 2 p + 1)) = V1 at *
  have hli : lastI V1 246 = cnt (N' 227) 2 p := lastI_nI e246 (by omega)
  have e241 : V1 241 0 = F 21 0 := by rw [eV 241 (by decide), x5.2.1, x5.1]
  have he3 : erF κ val (N' 227) (p + 3) V1 = (rngE (val (p + 3)).toInt32 0 (F 21 0 - 1), st2 V1 247 (lastI V1 246) (val (p + 3)).toInt32) := by rw [← e241]; exact erF_9 r3
  rcases chk_rng (F := cT (p + 6) F) S3 he3 hF0 with ⟨e, hE, hC⟩ | ⟨hrg, S4, hN3⟩
  · refine fin _ rfl e (p + 3) (by omega) (hE.add 2) ?_
    rw [hN, rgC_off hC]
    exact hC
  rw [hli] at S4
  have S5 := S4.step0 r4
  rcases chk_rng (F := cT (p + 6) F) S5 (erF_10 r5) hF0 with ⟨e, hE, hC⟩ | ⟨hrg5, S6, hN5⟩
  · refine fin _ rfl e (p + 5) (by omega) hE ?_
    rw [hN, hN3]
    exact hC
  have hli2 : lastI (st2 V1 247 (cnt (N' 227) 2 p) (val (p + 3)).toInt32) 246 = cnt (N' 227) 2 p := lastI_nI (by rw [st2_n _ _ _ (by decide)]; exact e246) (by omega)
  rw [hli2] at S6
  have hk3 : κ (p + 3) = 41 := (ck_4 (hK.2.1 _ (by omega))).mp (hM 3 (by decide))
  have hk5 : κ (p + 5) = 41 := (ck_4 (hK.2.1 _ (by omega))).mp (hM 5 (by decide))
  obtain ⟨v, hv, ev⟩ := hNV (p + 3) (by omega) hk3
  obtain ⟨w, hw, ew⟩ := hNV (p + 5) (by omega) hk5
  have b1 : v < np := by
    rw [x5.1] at hrg
    rcases np with _ | k
    · exact absurd (Int32.le_trans hrg.1 hrg.2) (by decide)
    · rw [nI_pred] at hrg
      have hk60 : k < 1000000 := by have := x5.2.2; have := x1.2.2.1; omega
      have := (rng_nat (lo := 0) (hi := k) ev hv (by decide) hk60 hrg).2
      omega
  obtain ⟨b3, b4⟩ := rng_nat (lo := 1) (hi := 30) ew hw (by decide) (by decide) hrg5
  have efk : cT (p + 6) F 22 0 = nI (cnt (N' 227) 2 p) := by rw [eF 22 (by decide)]; exact y1
  have hF' : ∀ K : M2 → L2 → Prop, K (up2 (st2 (st2 (cT (p + 6) F) 29 (cnt (N' 227) 2 p) (val (p + 3)).toInt32) 30 (cnt (N' 227) 2 p) (val (p + 5)).toInt32) 22 (fun _ => nI (cnt (N' 227) 2 p + 1))) (ul2 L 62 (vp_updL (L 62) (cnt (N' 227) 2 p) (val (p + 1)))) → wp_X1_addShaft (cT (p + 6) F) (ul2 L 62 (putl (L 62) 4 (cT (p + 6) F 22 0) (val (p + 1)))) (val (p + 3)).toInt32 (val (p + 5)).toInt32 K := fun K hk => by
    rw [efk, putl_nI hlt (by decide)]
    exact c_addShaft hltc efk hk
  have vK : ∀ k, k ≠ 246 → k ≠ 247 → k ≠ 248 → (st2 (st2 V1 247 (cnt (N' 227) 2 p) (val (p + 3)).toInt32) 248 (cnt (N' 227) 2 p) (val (p + 5)).toInt32) k = V k := fun k a0 a1 a2 => by
    rw [st2_n _ _ _ a2, st2_n _ _ _ a1, eV k a0]
  have v246 : (st2 (st2 V1 247 (cnt (N' 227) 2 p) (val (p + 3)).toInt32) 248 (cnt (N' 227) 2 p) (val (p + 5)).toInt32) 246 0 = nI (cnt (N' 227) 2 p + 1) := by
    rw [st2_n _ _ _ (by decide), st2_n _ _ _ (by decide)]
    exact e246
  have g3 : ∀ k, (up2 (st2 (st2 (cT (p + 6) F) 29 (cnt (N' 227) 2 p) (val (p + 3)).toInt32) 30 (cnt (N' 227) 2 p) (val (p + 5)).toInt32) 22 (fun _ => nI (cnt (N' 227) 2 p + 1))) 29 k = if k = cnt (N' 227) 2 p then (val (p + 3)).toInt32 else F 29 k := fun k => by
    rw [up2_n _ _ (by decide), st2_n _ _ _ (by decide), st2_k, eF 29 (by decide)]
  have g5 : ∀ k, (up2 (st2 (st2 (cT (p + 6) F) 29 (cnt (N' 227) 2 p) (val (p + 3)).toInt32) 30 (cnt (N' 227) 2 p) (val (p + 5)).toInt32) 22 (fun _ => nI (cnt (N' 227) 2 p + 1))) 30 k = if k = cnt (N' 227) 2 p then (val (p + 5)).toInt32 else F 30 k := fun k => by
    rw [up2_n _ _ (by decide), st2_k, st2_n _ _ _ (by decide), eF 30 (by decide)]
  have u3 : ∀ k, (st2 (st2 V1 247 (cnt (N' 227) 2 p) (val (p + 3)).toInt32) 248 (cnt (N' 227) 2 p) (val (p + 5)).toInt32) 247 k = if k = cnt (N' 227) 2 p then (val (p + 3)).toInt32 else V 247 k := fun k => by
    rw [st2_n _ _ _ (by decide), st2_k, eV 247 (by decide)]
  have u5 : ∀ k, (st2 (st2 V1 247 (cnt (N' 227) 2 p) (val (p + 3)).toInt32) 248 (cnt (N' 227) 2 p) (val (p + 5)).toInt32) 248 k = if k = cnt (N' 227) 2 p then (val (p + 5)).toInt32 else V 248 k := fun k => by
    rw [st2_k, st2_n _ _ _ (by decide), eV 248 (by decide)]
  have fK : ∀ k, k ≠ 29 → k ≠ 30 → k ≠ 22 → k ≠ 66 → (up2 (st2 (st2 (cT (p + 6) F) 29 (cnt (N' 227) 2 p) (val (p + 3)).toInt32) 30 (cnt (N' 227) 2 p) (val (p + 5)).toInt32) 22 (fun _ => nI (cnt (N' 227) 2 p + 1))) k = F k := fun k a0 a1 a2 ax => by
    rw [up2_n _ _ a2, st2_n _ _ _ a1, st2_n _ _ _ a0, eF k ax]
  have f66 : (up2 (st2 (st2 (cT (p + 6) F) 29 (cnt (N' 227) 2 p) (val (p + 3)).toInt32) 30 (cnt (N' 227) 2 p) (val (p + 5)).toInt32) 22 (fun _ => nI (cnt (N' 227) 2 p + 1))) 66 = cT (p + 6) F 66 := by
    rw [up2_n _ _ (by decide), st2_n _ _ _ (by decide), st2_n _ _ _ (by decide)]
  have hno : ∀ as : Int32, as ≠ 2 → as ≠ 0 → as ≠ 9 → as ≠ 10 → ∀ i, p ≤ i → i < p + 6 → ¬ N' 227 i = as := fun as a2 a0 a9 a10 i hi1 hi2 z => by
    rcases rr i hi1 hi2 with q | q | q | q | q | q <;> rw [q.2] at z <;> first | exact a2 z.symm | exact a0 z.symm | exact a9 z.symm | exact a10 z.symm
  have hC1 := x2.add (t := p + 1) (d := 6) ⟨by omega, by omega⟩ r1 (fun i hi1 hi2 hne z => by
    rcases rr i hi1 hi2 with q | q | q | q | q | q
    · rw [q.2] at z; exact absurd z (by decide)
    · exact hne q.1
    · rw [q.2] at z; exact absurd z (by decide)
    · rw [q.2] at z; exact absurd z (by decide)
    · rw [q.2] at z; exact absurd z (by decide)
    · rw [q.2] at z; exact absurd z (by decide)
    ) hlt
  have c2 : cnt (N' 227) 2 (p + 6) = cnt (N' 227) 2 p + 1 := nI_inj (by have := hC1.2.2.1; omega) (by omega) hC1.1.symm
  have c1 := cnt_more (ρ := N' 227) (as := 1) (p := p) 6 (hno 1 (by decide) (by decide) (by decide) (by decide))
  have c3 := cnt_more (ρ := N' 227) (as := 3) (p := p) 6 (hno 3 (by decide) (by decide) (by decide) (by decide))
  have c4 := cnt_more (ρ := N' 227) (as := 4) (p := p) 6 (hno 4 (by decide) (by decide) (by decide) (by decide))
  have hPX : PXN val (N' 227) (p + 6) np (up2 (st2 (st2 (cT (p + 6) F) 29 (cnt (N' 227) 2 p) (val (p + 3)).toInt32) 30 (cnt (N' 227) 2 p) (val (p + 5)).toInt32) 22 (fun _ => nI (cnt (N' 227) 2 p + 1))) (ul2 L 62 (vp_updL (L 62) (cnt (N' 227) 2 p) (val (p + 1)))) (st2 (st2 V1 247 (cnt (N' 227) 2 p) (val (p + 3)).toInt32) 248 (cnt (N' 227) 2 p) (val (p + 5)).toInt32) := by
    unfold PXN
    rw [c1, c2, c3, c4]
    rw [fK 20 (by decide) (by decide) (by decide) (by decide), fK 21 (by decide) (by decide) (by decide) (by decide), fK 23 (by decide) (by decide) (by decide) (by decide), fK 24 (by decide) (by decide) (by decide) (by decide), fK 25 (by decide) (by decide) (by decide) (by decide), fK 26 (by decide) (by decide) (by decide) (by decide), fK 27 (by decide) (by decide) (by decide) (by decide), fK 28 (by decide) (by decide) (by decide) (by decide), fK 31 (by decide) (by decide) (by decide) (by decide), fK 32 (by decide) (by decide) (by decide) (by decide), fK 33 (by decide) (by decide) (by decide) (by decide), fK 34 (by decide) (by decide) (by decide) (by decide), fK 35 (by decide) (by decide) (by decide) (by decide), fK 36 (by decide) (by decide) (by decide) (by decide), fK 37 (by decide) (by decide) (by decide) (by decide)]
    rw [vK 240 (by omega) (by omega) (by omega), vK 241 (by omega) (by omega) (by omega), vK 249 (by omega) (by omega) (by omega), vK 252 (by omega) (by omega) (by omega), vK 242 (by omega) (by omega) (by omega), vK 243 (by omega) (by omega) (by omega), vK 244 (by omega) (by omega) (by omega), vK 245 (by omega) (by omega) (by omega), vK 250 (by omega) (by omega) (by omega), vK 251 (by omega) (by omega) (by omega), vK 253 (by omega) (by omega) (by omega), vK 254 (by omega) (by omega) (by omega), vK 255 (by omega) (by omega) (by omega)]
    have ecr : (fun b => (st2 (st2 V1 247 (cnt (N' 227) 2 p) (val (p + 3)).toInt32) 248 (cnt (N' 227) 2 p) (val (p + 5)).toInt32) (310 + b)) = fun b => V (310 + b) := funext (fun b => vK _ (by omega) (by omega) (by omega))
    rw [ecr]
    rw [ul2_s, ul2_n _ _ (by decide), ul2_n _ _ (by decide), ul2_n _ _ (by decide)]
    refine ⟨x1.keep 6 (hno 1 (by decide) (by decide) (by decide) (by decide)), ?_, x3.keep 6 (hno 3 (by decide) (by decide) (by decide) (by decide)), x4.keep 6 (hno 4 (by decide) (by decide) (by decide) (by decide)), x5, x6, x7, ?_, x9, x10⟩
    · rw [up2_s, v246]
      exact hC1
    · intro s hs
      rw [g3 s, g5 s, u3 s, u5 s]
      by_cases e : s = cnt (N' 227) 2 p
      · exact ⟨v, w, b1, b3, b4, by rw [if_pos e, ev], by rw [if_pos e, ev], by rw [if_pos e, ew], by rw [if_pos e, ew]⟩
      · obtain ⟨a, d, q1, q2, q3, q4, q5, q6, q7⟩ := x8 s (by omega)
        exact ⟨a, d, q1, q2, q3, by rw [if_neg e]; exact q4, by rw [if_neg e]; exact q5, by rw [if_neg e]; exact q6, by rw [if_neg e]; exact q7⟩
  refine Or.inl ⟨_, _, N', mk (up2 (st2 (st2 (cT (p + 6) F) 29 (cnt (N' 227) 2 p) (val (p + 3)).toInt32) 30 (cnt (N' 227) 2 p) (val (p + 5)).toInt32) 22 (fun _ => nI (cnt (N' 227) 2 p + 1))) (ul2 L 62 (vp_updL (L 62) (cnt (N' 227) 2 p) (val (p + 1)))) f66 (fK 74 (by decide) (by decide) (by decide) (by decide)) (fK 45 (by decide) (by decide) (by decide) (by decide)) (ul2_n _ _ (by decide)) (Or.inr ⟨_, np, S6, ?_, hPX, ?_⟩), fun k hk => fK k (by omega) (by omega) (by omega) (by omega), fun k hk => ul2_n _ _ (by omega), hL.2.2, fun K hk => cb K (cT (p + 6) F) (by rw [hN, hN3, hN5]) (fun z => absurd hF0 z) (fun _ => hF' _ hk), k8⟩
  · rw [fK 67 (by decide) (by decide) (by decide) (by decide)]
    exact hF67
  · exact hO.keep (fun q hq hn => (h6.2.2 q hq hn).2) hr (fun k hk => fK k (by omega) (by omega) (by omega) (by omega)) ⟨vK 257 (by omega) (by omega) (by omega), vK 259 (by omega) (by omega) (by omega), vK 260 (by omega) (by omega) (by omega)⟩ ⟨rfl, rfl⟩
set_option maxHeartbeats 4000000 in
theorem ln_legger (hK : KIN κ m) (hNV : NUMV κ m val) (hSid : SID κ m val) {F : M2} {L : L2} {N P : M2} {p nr : Nat} {its : List IT} (hB : BND κ m val N0 V0 F L N P p its nr) (h0 : ck (κ p) = 40) : OUT κ m val N0 V0 (fun F L K => wp_X2_leggerLine F L (nI p) K) (fun N P K => wp_X8_isLeggerLine N P K) (p + 6) its nr F L N P := by
  have hm := hK.1
  obtain ⟨h1, h2, h3, h4, h5, h6, h7, h9, h8⟩ := hB
  rcases sy_LEGGER_LINE hK h1 h2 h0 with ⟨N', hM, hpn, hL, k8, k2⟩ | ⟨p', F', N', P', hp', fc, fn, k2, k8⟩
  rotate_left
  · exact Or.inr ⟨p', F', N', P', hp', fc, fn, fun K hk => k2 _ (And.intro (fun z => absurd rfl z) (fun _ => hk)), k8⟩
  have h6n := h1.adv (q := p + 6) hpn
  have eF : ∀ k, k ≠ 66 → cT (p + 6) F k = F k := fun k hk => up2_n _ _ hk
  have e227 : N' 227 = upd (upd (upd (N 227) (p + 1) 3) (p + 1 + 1 + 1) 11) (p + 1 + 1 + 1 + 1 + 1) 12 := hL.2.1
  have hr : ∀ k, k < p → N 227 k = N' 227 k := fun k hk => by
    rw [e227, upd_n _ _ (by omega), upd_n _ _ (by omega), upd_n _ _ (by omega)]
  have r0 : N' 227 (p + 0) = 0 := by
    rw [e227, upd_n _ _ (by omega), upd_n _ _ (by omega), upd_n _ _ (by omega)]
    exact h3 _ (by omega) (by omega)
  have r1 : N' 227 (p + 1) = 3 := by
    rw [e227, upd_n _ _ (by omega), upd_n _ _ (by omega), show p + 1 = p + 1 by omega, upd_s]
  have r2 : N' 227 (p + 2) = 0 := by
    rw [e227, upd_n _ _ (by omega), upd_n _ _ (by omega), upd_n _ _ (by omega)]
    exact h3 _ (by omega) (by omega)
  have r3 : N' 227 (p + 3) = 11 := by
    rw [e227, upd_n _ _ (by omega), show p + 3 = p + 1 + 1 + 1 by omega, upd_s]
  have r4 : N' 227 (p + 4) = 0 := by
    rw [e227, upd_n _ _ (by omega), upd_n _ _ (by omega), upd_n _ _ (by omega)]
    exact h3 _ (by omega) (by omega)
  have r5 : N' 227 (p + 5) = 12 := by
    rw [e227, show p + 5 = p + 1 + 1 + 1 + 1 + 1 by omega, upd_s]
  have hROK : ROK m N' (p + 6) := fun k hk hk2 => by
    rw [e227, upd_n _ _ (by omega), upd_n _ _ (by omega), upd_n _ _ (by omega)]
    exact h3 k (by omega) hk2
  have rr : ∀ i, p ≤ i → i < p + 6 → (i = p + 0 ∧ N' 227 i = 0) ∨ (i = p + 1 ∧ N' 227 i = 3) ∨ (i = p + 2 ∧ N' 227 i = 0) ∨ (i = p + 3 ∧ N' 227 i = 11) ∨ (i = p + 4 ∧ N' 227 i = 0) ∨ (i = p + 5 ∧ N' 227 i = 12) := fun i h1 h2 => by
    have : i = p + 0 ∨ i = p + 1 ∨ i = p + 2 ∨ i = p + 3 ∨ i = p + 4 ∨ i = p + 5 := by omega
    rcases this with q | q | q | q | q | q
    · exact Or.inl ⟨q, q ▸ r0⟩
    · exact Or.inr (Or.inl ⟨q, q ▸ r1⟩)
    · exact Or.inr (Or.inr (Or.inl ⟨q, q ▸ r2⟩))
    · exact Or.inr (Or.inr (Or.inr (Or.inl ⟨q, q ▸ r3⟩)))
    · exact Or.inr (Or.inr (Or.inr (Or.inr (Or.inl ⟨q, q ▸ r4⟩))))
    · exact Or.inr (Or.inr (Or.inr (Or.inr (Or.inr (⟨q, q ▸ r5⟩)))))
  have hW : WFR κ (N' 227) (p + 6) := fun t ht => by
    by_cases e : t < p
    · exact (h9 t e).cong (fun k hk => hr k (by omega))
    have hor : t = p + 0 ∨ t = p + 1 ∨ t = p + 2 ∨ t = p + 3 ∨ t = p + 4 ∨ t = p + 5 := by omega
    rcases hor with e | e | e | e | e | e
    · rw [e]; exact LOC.zero r0
    · rw [e]
      unfold LOC
      rw [r1]
      exact ⟨Or.inr ((ck_2 (hK.2.1 _ (by omega))).mp (hM 1 (by decide))), by show 0 ≤ p + 1; omega, by show N' 227 (p + 1 - 0) = _; rw [show p + 1 - 0 = p + 1 by omega, r1]; decide, by decide⟩
    · rw [e]; exact LOC.zero r2
    · rw [e]
      unfold LOC
      rw [r3]
      exact ⟨Or.inr ((ck_4 (hK.2.1 _ (by omega))).mp (hM 3 (by decide))), by show 2 ≤ p + 3; omega, by show N' 227 (p + 3 - 2) = _; rw [show p + 3 - 2 = p + 1 by omega, r1]; decide, by decide⟩
    · rw [e]; exact LOC.zero r4
    · rw [e]
      unfold LOC
      rw [r5]
      exact ⟨Or.inr ((ck_4 (hK.2.1 _ (by omega))).mp (hM 5 (by decide))), by show 4 ≤ p + 5; omega, by show N' 227 (p + 5 - 4) = _; rw [show p + 5 - 4 = p + 1 by omega, r1]; decide, by decide⟩
  have mk : ∀ (F' : M2) (L' : L2), F' 66 = cT (p + 6) F 66 → F' 74 = F 74 → F' 45 = F 45 → L' 76 = L 76 → ((∃ e k, k < p + 6 ∧ SER κ val V0 (N' 227) (p + 6) e k ∧ CER F' e k) ∨ (∃ V np, SOK κ val V0 (N' 227) (p + 6) V ∧ F' 67 0 = 0 ∧ PXN val (N' 227) (p + 6) np F' L' V ∧ ORX val (N' 227) F' V P its nr)) → BND κ m val N0 V0 F' L' N' P (p + 6) its nr := fun F' L' g66 g74 g45 g76 g =>
    ⟨h6n.rows g66 (by rw [g74, eF 74 (by decide)]) g76, hL.1, hROK, ⟨by rw [g45]; exact h4.1, by omega⟩, h5, h6.cong hr (by omega), ⟨h7.1, by omega⟩, hW, g⟩
  have nf : ∀ k, k ≠ 67 → k ≠ 68 → ∀ x lo hi x' lo' hi' τ told, rgC x lo hi (p + 5) (rgC x' lo' hi' (p + 3) (nwC τ told 6 (p + 1) (cT (p + 6) F))) k = cT (p + 6) F k := fun k ha hb x lo hi x' lo' hi' τ told => by rw [rgC_n ha hb, rgC_n ha hb, nwC_n ha hb]
  -- the class, whatever comes out
  have cb : ∀ (K : Int32 → M2 → L2 → Prop) (F7 : M2), F7 = rgC (val (p + 5)).toInt32 1 9 (p + 5) (rgC (val (p + 3)).toInt32 1 9 (p + 3) (nwC (idx (L 63) (F 23 0) 6 (val (p + 1))) (F 23 0) 6 (p + 1) (cT (p + 6) F))) → (¬ F7 67 0 = 0 → K 1 F7 L) → (F7 67 0 = 0 → wp_X1_addLegger F7 (ul2 L 63 (putl (L 63) 6 (F7 23 0) (val (p + 1)))) (val (p + 3)).toInt32 (val (p + 5)).toInt32 (fun F L => K 1 F L)) → wp_X2_leggerLine F L (nI p) K := fun K F7 e7 hne heq => by
    refine k2 _ (And.intro (fun _ => ?_) (fun z => absurd z (by decide)))
    have a1 : nI p + 1 = nI (p + 1) := nI_1 p
    have a3 : nI p + 3 = nI (p + 3) := nI_add p 3
    have a5 : nI p + 5 = nI (p + 5) := nI_add p 5
    rw [a1, a3, a5, eF 23 (by decide)]
    refine c_new_nL h6n hK (by omega) ?_
    have s1 : SC κ m val (nwC (idx (L 63) (F 23 0) 6 (val (p + 1))) (F 23 0) 6 (p + 1) (cT (p + 6) F)) L (p + 6) := h6n.rows (nwC_n (by decide) (by decide)) (nwC_n (by decide) (by decide)) rfl
    refine c_range s1 hK (by omega) ?_
    have s2 : SC κ m val (rgC (val (p + 3)).toInt32 1 9 (p + 3) (nwC (idx (L 63) (F 23 0) 6 (val (p + 1))) (F 23 0) 6 (p + 1) (cT (p + 6) F))) L (p + 6) := s1.rows (rgC_n (by decide) (by decide)) (rgC_n (by decide) (by decide)) rfl
    refine c_range s2 hK (by omega) ?_
    rw [← e7]
    refine And.intro (fun c => hne c) (fun c L1 el => ?_)
    rw [h1.vl hK (by omega)] at el
    subst el
    unfold wp_X2_number
    have e76 : ul2 L 63 (putl (L 63) 6 (F7 23 0) (val (p + 1))) 76 = L 76 := ul2_n _ _ (by decide)
    rw [e76, h1.vl hK (by omega), h1.vl hK (by omega)]
    exact heq c
  have fin : ∀ (F7 : M2), F7 = rgC (val (p + 5)).toInt32 1 9 (p + 5) (rgC (val (p + 3)).toInt32 1 9 (p + 3) (nwC (idx (L 63) (F 23 0) 6 (val (p + 1))) (F 23 0) 6 (p + 1) (cT (p + 6) F))) → ∀ e k, k < p + 6 → SER κ val V0 (N' 227) (p + 6) e k → CER F7 e k → OUT κ m val N0 V0 (fun F L K => wp_X2_leggerLine F L (nI p) K) (fun N P K => wp_X8_isLeggerLine N P K) (p + 6) its nr F L N P := fun F7 e7 e k hk hS hC => by
    refine Or.inl ⟨F7, L, N', mk F7 L ?_ ?_ ?_ rfl (Or.inl ⟨e, k, hk, hS, hC⟩), fun k hk => ?_, fun _ _ => rfl, hL.2.2, fun K hk => cb K F7 e7 (fun _ => hk) (fun z => absurd (hC.1.symm.trans z) hC.2.1), k8⟩
    · rw [e7, nf 66 (by decide) (by decide)]
    · rw [e7, nf 74 (by decide) (by decide), eF 74 (by decide)]
    · rw [e7, nf 45 (by decide) (by decide), eF 45 (by decide)]
    · rw [e7, nf k (by omega) (by omega), eF k (by omega)]
  rcases h8 with ⟨e, k, hk, hS, hC⟩ | ⟨V, np, hS, hF67, hP, hO⟩
  · have hC0 : CER (cT (p + 6) F) e k := by
      unfold CER
      rw [eF 67 (by decide), eF 68 (by decide)]
      exact hC
    refine fin _ rfl e k (by omega) ((hS.cong hr).add 6) ?_
    rw [nwC_off hC0, rgC_off hC0, rgC_off hC0]
    exact hC0
  have hP := hP.cong hr
  have hF0 : cT (p + 6) F 67 0 = 0 := by rw [eF 67 (by decide)]; exact hF67
  obtain ⟨x1, x2, x3, x4, x5, x6, x7, x8, x9, x10⟩ := hP
  have S1 : SOK κ val V0 (N' 227) (p + 1) V := (hS.cong hr).step0 r0
  have hcn := x3
  obtain ⟨y1, y2, y3, y4⟩ := hcn
  have ht : idx (L 63) (F 23 0) 6 (val (p + 1)) = tld val (N' 227) 3 (p + 1) (p + 1) := by
    rw [y1, idx_tld y4 y3 (by decide)]
    refine (tld_at (d := 1) (fun i h1 h2 z => ?_) (p + 1)).symm
    have : i = p + 0 := by omega
    rw [this, r0] at z
    exact absurd z (by decide)
  rw [ht, y1] at fin cb
  rcases chk_new (as := 0) (F := cT (p + 6) F) S1 (erF_3 r1) hF0 y2 (rfl : (6 : Int32) = nI 6) y3 (by decide) with ⟨e, hE, hC⟩ | ⟨ht1, hlt, S2, hN⟩
  · refine fin _ rfl e (p + 1) (by omega) (hE.add 4) ?_
    rw [rgC_off hC, rgC_off hC]
    exact hC
  have S3 := S2.step0 r2
  have hltc : cnt (N' 227) 3 p < 6 := by omega
  have e249 : (up2 V 249 (fun _ => nI (cnt (N' 227) 3 p + 1))) 249 0 = nI (cnt (N' 227) 3 p + 1) := by rw [up2_s]
  have eV : ∀ k, k ≠ 249 → (up2 V 249 (fun _ => nI (cnt (N' 227) 3 p + 1))) k = V k := fun k hk => up2_n _ _ hk
  generalize hV1 : up2 V 249 (fun _ => nI (cnt (N' 227) 3 p + 1)) = V1 at *
  have hli : lastI V1 249 = cnt (N' 227) 3 p := lastI_nI e249 (by omega)
  have he3 := erF_11 (κ := κ) (val := val) (V := V1) r3
  rcases chk_rng (F := cT (p + 6) F) S3 he3 hF0 with ⟨e, hE, hC⟩ | ⟨hrg, S4, hN3⟩
  · refine fin _ rfl e (p + 3) (by omega) (hE.add 2) ?_
    rw [hN, rgC_off hC]
    exact hC
  rw [hli] at S4
  have S5 := S4.step0 r4
  rcases chk_rng (F := cT (p + 6) F) S5 (erF_12 r5) hF0 with ⟨e, hE, hC⟩ | ⟨hrg5, S6, hN5⟩
  · refine fin _ rfl e (p + 5) (by omega) hE ?_
    rw [hN, hN3]
    exact hC
  have hli2 : lastI (st2 V1 250 (cnt (N' 227) 3 p) (val (p + 3)).toInt32) 249 = cnt (N' 227) 3 p := lastI_nI (by rw [st2_n _ _ _ (by decide)]; exact e249) (by omega)
  rw [hli2] at S6
  have hk3 : κ (p + 3) = 41 := (ck_4 (hK.2.1 _ (by omega))).mp (hM 3 (by decide))
  have hk5 : κ (p + 5) = 41 := (ck_4 (hK.2.1 _ (by omega))).mp (hM 5 (by decide))
  obtain ⟨v, hv, ev⟩ := hNV (p + 3) (by omega) hk3
  obtain ⟨w, hw, ew⟩ := hNV (p + 5) (by omega) hk5
  obtain ⟨b1, b2⟩ := rng_nat (lo := 1) (hi := 9) ev hv (by decide) (by decide) hrg
  obtain ⟨b3, b4⟩ := rng_nat (lo := 1) (hi := 9) ew hw (by decide) (by decide) hrg5
  have efk : cT (p + 6) F 23 0 = nI (cnt (N' 227) 3 p) := by rw [eF 23 (by decide)]; exact y1
  have hF' : ∀ K : M2 → L2 → Prop, K (up2 (st2 (st2 (cT (p + 6) F) 31 (cnt (N' 227) 3 p) (val (p + 3)).toInt32) 32 (cnt (N' 227) 3 p) (val (p + 5)).toInt32) 23 (fun _ => nI (cnt (N' 227) 3 p + 1))) (ul2 L 63 (vp_updL (L 63) (cnt (N' 227) 3 p) (val (p + 1)))) → wp_X1_addLegger (cT (p + 6) F) (ul2 L 63 (putl (L 63) 6 (cT (p + 6) F 23 0) (val (p + 1)))) (val (p + 3)).toInt32 (val (p + 5)).toInt32 K := fun K hk => by
    rw [efk, putl_nI hlt (by decide)]
    exact c_addLegger hltc efk hk
  have vK : ∀ k, k ≠ 249 → k ≠ 250 → k ≠ 251 → (st2 (st2 V1 250 (cnt (N' 227) 3 p) (val (p + 3)).toInt32) 251 (cnt (N' 227) 3 p) (val (p + 5)).toInt32) k = V k := fun k a0 a1 a2 => by
    rw [st2_n _ _ _ a2, st2_n _ _ _ a1, eV k a0]
  have v249 : (st2 (st2 V1 250 (cnt (N' 227) 3 p) (val (p + 3)).toInt32) 251 (cnt (N' 227) 3 p) (val (p + 5)).toInt32) 249 0 = nI (cnt (N' 227) 3 p + 1) := by
    rw [st2_n _ _ _ (by decide), st2_n _ _ _ (by decide)]
    exact e249
  have g3 : ∀ k, (up2 (st2 (st2 (cT (p + 6) F) 31 (cnt (N' 227) 3 p) (val (p + 3)).toInt32) 32 (cnt (N' 227) 3 p) (val (p + 5)).toInt32) 23 (fun _ => nI (cnt (N' 227) 3 p + 1))) 31 k = if k = cnt (N' 227) 3 p then (val (p + 3)).toInt32 else F 31 k := fun k => by
    rw [up2_n _ _ (by decide), st2_n _ _ _ (by decide), st2_k, eF 31 (by decide)]
  have g5 : ∀ k, (up2 (st2 (st2 (cT (p + 6) F) 31 (cnt (N' 227) 3 p) (val (p + 3)).toInt32) 32 (cnt (N' 227) 3 p) (val (p + 5)).toInt32) 23 (fun _ => nI (cnt (N' 227) 3 p + 1))) 32 k = if k = cnt (N' 227) 3 p then (val (p + 5)).toInt32 else F 32 k := fun k => by
    rw [up2_n _ _ (by decide), st2_k, st2_n _ _ _ (by decide), eF 32 (by decide)]
  have u3 : ∀ k, (st2 (st2 V1 250 (cnt (N' 227) 3 p) (val (p + 3)).toInt32) 251 (cnt (N' 227) 3 p) (val (p + 5)).toInt32) 250 k = if k = cnt (N' 227) 3 p then (val (p + 3)).toInt32 else V 250 k := fun k => by
    rw [st2_n _ _ _ (by decide), st2_k, eV 250 (by decide)]
  have u5 : ∀ k, (st2 (st2 V1 250 (cnt (N' 227) 3 p) (val (p + 3)).toInt32) 251 (cnt (N' 227) 3 p) (val (p + 5)).toInt32) 251 k = if k = cnt (N' 227) 3 p then (val (p + 5)).toInt32 else V 251 k := fun k => by
    rw [st2_k, st2_n _ _ _ (by decide), eV 251 (by decide)]
  have fK : ∀ k, k ≠ 31 → k ≠ 32 → k ≠ 23 → k ≠ 66 → (up2 (st2 (st2 (cT (p + 6) F) 31 (cnt (N' 227) 3 p) (val (p + 3)).toInt32) 32 (cnt (N' 227) 3 p) (val (p + 5)).toInt32) 23 (fun _ => nI (cnt (N' 227) 3 p + 1))) k = F k := fun k a0 a1 a2 ax => by
    rw [up2_n _ _ a2, st2_n _ _ _ a1, st2_n _ _ _ a0, eF k ax]
  have f66 : (up2 (st2 (st2 (cT (p + 6) F) 31 (cnt (N' 227) 3 p) (val (p + 3)).toInt32) 32 (cnt (N' 227) 3 p) (val (p + 5)).toInt32) 23 (fun _ => nI (cnt (N' 227) 3 p + 1))) 66 = cT (p + 6) F 66 := by
    rw [up2_n _ _ (by decide), st2_n _ _ _ (by decide), st2_n _ _ _ (by decide)]
  have hno : ∀ as : Int32, as ≠ 3 → as ≠ 0 → as ≠ 11 → as ≠ 12 → ∀ i, p ≤ i → i < p + 6 → ¬ N' 227 i = as := fun as a3 a0 a11 a12 i hi1 hi2 z => by
    rcases rr i hi1 hi2 with q | q | q | q | q | q <;> rw [q.2] at z <;> first | exact a3 z.symm | exact a0 z.symm | exact a11 z.symm | exact a12 z.symm
  have hC1 := x3.add (t := p + 1) (d := 6) ⟨by omega, by omega⟩ r1 (fun i hi1 hi2 hne z => by
    rcases rr i hi1 hi2 with q | q | q | q | q | q
    · rw [q.2] at z; exact absurd z (by decide)
    · exact hne q.1
    · rw [q.2] at z; exact absurd z (by decide)
    · rw [q.2] at z; exact absurd z (by decide)
    · rw [q.2] at z; exact absurd z (by decide)
    · rw [q.2] at z; exact absurd z (by decide)
    ) hlt
  have c3 : cnt (N' 227) 3 (p + 6) = cnt (N' 227) 3 p + 1 := nI_inj (by have := hC1.2.2.1; omega) (by omega) hC1.1.symm
  have c1 := cnt_more (ρ := N' 227) (as := 1) (p := p) 6 (hno 1 (by decide) (by decide) (by decide) (by decide))
  have c2 := cnt_more (ρ := N' 227) (as := 2) (p := p) 6 (hno 2 (by decide) (by decide) (by decide) (by decide))
  have c4 := cnt_more (ρ := N' 227) (as := 4) (p := p) 6 (hno 4 (by decide) (by decide) (by decide) (by decide))
  have hPX : PXN val (N' 227) (p + 6) np (up2 (st2 (st2 (cT (p + 6) F) 31 (cnt (N' 227) 3 p) (val (p + 3)).toInt32) 32 (cnt (N' 227) 3 p) (val (p + 5)).toInt32) 23 (fun _ => nI (cnt (N' 227) 3 p + 1))) (ul2 L 63 (vp_updL (L 63) (cnt (N' 227) 3 p) (val (p + 1)))) (st2 (st2 V1 250 (cnt (N' 227) 3 p) (val (p + 3)).toInt32) 251 (cnt (N' 227) 3 p) (val (p + 5)).toInt32) := by
    unfold PXN
    rw [c1, c2, c3, c4]
    rw [fK 20 (by decide) (by decide) (by decide) (by decide), fK 21 (by decide) (by decide) (by decide) (by decide), fK 22 (by decide) (by decide) (by decide) (by decide), fK 24 (by decide) (by decide) (by decide) (by decide), fK 25 (by decide) (by decide) (by decide) (by decide), fK 26 (by decide) (by decide) (by decide) (by decide), fK 27 (by decide) (by decide) (by decide) (by decide), fK 28 (by decide) (by decide) (by decide) (by decide), fK 29 (by decide) (by decide) (by decide) (by decide), fK 30 (by decide) (by decide) (by decide) (by decide), fK 33 (by decide) (by decide) (by decide) (by decide), fK 34 (by decide) (by decide) (by decide) (by decide), fK 35 (by decide) (by decide) (by decide) (by decide), fK 36 (by decide) (by decide) (by decide) (by decide), fK 37 (by decide) (by decide) (by decide) (by decide)]
    rw [vK 240 (by omega) (by omega) (by omega), vK 241 (by omega) (by omega) (by omega), vK 246 (by omega) (by omega) (by omega), vK 252 (by omega) (by omega) (by omega), vK 242 (by omega) (by omega) (by omega), vK 243 (by omega) (by omega) (by omega), vK 244 (by omega) (by omega) (by omega), vK 245 (by omega) (by omega) (by omega), vK 247 (by omega) (by omega) (by omega), vK 248 (by omega) (by omega) (by omega), vK 253 (by omega) (by omega) (by omega), vK 254 (by omega) (by omega) (by omega), vK 255 (by omega) (by omega) (by omega)]
    have ecr : (fun b => (st2 (st2 V1 250 (cnt (N' 227) 3 p) (val (p + 3)).toInt32) 251 (cnt (N' 227) 3 p) (val (p + 5)).toInt32) (310 + b)) = fun b => V (310 + b) := funext (fun b => vK _ (by omega) (by omega) (by omega))
    rw [ecr]
    rw [ul2_s, ul2_n _ _ (by decide), ul2_n _ _ (by decide), ul2_n _ _ (by decide)]
    refine ⟨x1.keep 6 (hno 1 (by decide) (by decide) (by decide) (by decide)), x2.keep 6 (hno 2 (by decide) (by decide) (by decide) (by decide)), ?_, x4.keep 6 (hno 4 (by decide) (by decide) (by decide) (by decide)), x5, x6, x7, x8, ?_, ?_⟩
    · rw [up2_s, v249]
      exact hC1
    · intro s hs
      rw [g3 s, g5 s, u3 s, u5 s]
      by_cases e : s = cnt (N' 227) 3 p
      · exact ⟨v, w, b1, b2, b3, b4, by rw [if_pos e, ev], by rw [if_pos e, ev], by rw [if_pos e, ew], by rw [if_pos e, ew]⟩
      · obtain ⟨a, d, q1, q2, q2a, q3, q4, q5, q6, q7⟩ := x9 s (by omega)
        exact ⟨a, d, q1, q2, q2a, q3, by rw [if_neg e]; exact q4, by rw [if_neg e]; exact q5, by rw [if_neg e]; exact q6, by rw [if_neg e]; exact q7⟩
    · intro b hb
      obtain ⟨k0, k1, w0, q1, q2, q3⟩ := x10 b hb
      exact ⟨k0, k1, w0, by omega, by omega, q3⟩
  refine Or.inl ⟨_, _, N', mk (up2 (st2 (st2 (cT (p + 6) F) 31 (cnt (N' 227) 3 p) (val (p + 3)).toInt32) 32 (cnt (N' 227) 3 p) (val (p + 5)).toInt32) 23 (fun _ => nI (cnt (N' 227) 3 p + 1))) (ul2 L 63 (vp_updL (L 63) (cnt (N' 227) 3 p) (val (p + 1)))) f66 (fK 74 (by decide) (by decide) (by decide) (by decide)) (fK 45 (by decide) (by decide) (by decide) (by decide)) (ul2_n _ _ (by decide)) (Or.inr ⟨_, np, S6, ?_, hPX, ?_⟩), fun k hk => fK k (by omega) (by omega) (by omega) (by omega), fun k hk => ul2_n _ _ (by omega), hL.2.2, fun K hk => cb K (cT (p + 6) F) (by rw [hN, hN3, hN5]) (fun z => absurd hF0 z) (fun _ => hF' _ hk), k8⟩
  · rw [fK 67 (by decide) (by decide) (by decide) (by decide)]
    exact hF67
  · exact hO.keep (fun q hq hn => (h6.2.2 q hq hn).2) hr (fun k hk => fK k (by omega) (by omega) (by omega) (by omega)) ⟨vK 257 (by omega) (by omega) (by omega), vK 259 (by omega) (by omega) (by omega), vK 260 (by omega) (by omega) (by omega)⟩ ⟨rfl, rfl⟩
def knC (τ : Int32) (t : Nat) (F : M2) : M2 := if τ = -1 then tf F 3 t else F
def smC (a b : Int32) (t : Nat) (F : M2) : M2 := if a = b then tf F 5 t else F
theorem knC_off {F : M2} {e τ : Int32} {k t : Nat} (h : CER F e k) : knC τ t F = F := by
  unfold knC
  rw [tf_off h, ite_self]
theorem smC_off {F : M2} {e a b : Int32} {k t : Nat} (h : CER F e k) : smC a b t F = F := by
  unfold smC
  rw [tf_off h, ite_self]
theorem knC_n {F : M2} {τ : Int32} {t k : Nat} (h1 : k ≠ 67) (h2 : k ≠ 68) : knC τ t F k = F k := by
  unfold knC
  split
  · exact tf_n _ _ _ h1 h2
  · rfl
theorem smC_n {F : M2} {a b : Int32} {t k : Nat} (h1 : k ≠ 67) (h2 : k ≠ 68) : smC a b t F k = F k := by
  unfold smC
  split
  · exact tf_n _ _ _ h1 h2
  · rfl
theorem chk_kn {ρ : Nat → Int32} {t : Nat} {τ : Int32} {V V' F : M2} (hO : SOK κ val V0 ρ t V) (he : erF κ val ρ t V = (lookE τ, V')) (hF : F 67 0 = 0) :
    (∃ e, SER κ val V0 ρ (t + 1) e t ∧ CER (knC τ t F) e t) ∨ (¬ τ = -1 ∧ SOK κ val V0 ρ (t + 1) V' ∧ knC τ t F = F) := chk_look hO he hF
theorem chk_same {ρ : Nat → Int32} {t : Nat} {τ x : Int32} {V V' F : M2} (hO : SOK κ val V0 ρ t V) (he : erF κ val ρ t V = ((if lookE τ = 0 ∧ x = τ then 5 else lookE τ), V')) (hF : F 67 0 = 0) :
    (∃ e, SER κ val V0 ρ (t + 1) e t ∧ CER (smC τ x t (knC τ t F)) e t) ∨ (¬ τ = -1 ∧ ¬ x = τ ∧ SOK κ val V0 ρ (t + 1) V' ∧ smC τ x t (knC τ t F) = F) := by
  by_cases c : τ = -1
  · have l3 : lookE τ = 3 := if_pos c
    rw [l3, if_neg (fun z => absurd z.1 (by decide))] at he
    have h2 : CER (knC τ t F) 3 t := by
      unfold knC
      rw [if_pos c]
      exact tf_on hF (by decide)
    exact Or.inl ⟨3, hO.err he (by decide), by rw [smC_off h2]; exact h2⟩
  · have l0 : lookE τ = 0 := if_neg c
    have kn : knC τ t F = F := if_neg c
    rw [l0] at he
    rw [kn]
    by_cases c2 : x = τ
    · rw [if_pos ⟨rfl, c2⟩] at he
      refine Or.inl ⟨5, hO.err he (by decide), ?_⟩
      unfold smC
      rw [if_pos c2.symm]
      exact tf_on hF (by decide)
    · rw [if_neg (fun z => c2 z.2)] at he
      exact Or.inr ⟨c, c2, hO.step he, if_neg (fun z => c2 z.symm)⟩
set_option maxHeartbeats 4000000 in
theorem ln_boat (hK : KIN κ m) (hNV : NUMV κ m val) (hSid : SID κ m val) {F : M2} {L : L2} {N P : M2} {p nr : Nat} {its : List IT} (hB : BND κ m val N0 V0 F L N P p its nr) (h0 : ck (κ p) = 43) : OUT κ m val N0 V0 (fun F L K => wp_X2_boatLine F L (nI p) K) (fun N P K => wp_X8_isBoatLine N P K) (p + 12) its nr F L N P := by
  have hm := hK.1
  obtain ⟨h1, h2, h3, h4, h5, h6, h7, h9, h8⟩ := hB
  rcases sy_BOAT_LINE hK h1 h2 h0 with ⟨N', hM, hpn, hL, k8, k2⟩ | ⟨p', F', N', P', hp', fc, fn, k2, k8⟩
  rotate_left
  · exact Or.inr ⟨p', F', N', P', hp', fc, fn, fun K hk => k2 _ (And.intro (fun z => absurd rfl z) (fun _ => hk)), k8⟩
  have h6n := h1.adv (q := p + 12) hpn
  have eF : ∀ k, k ≠ 66 → cT (p + 12) F k = F k := fun k hk => up2_n _ _ hk
  have e227 : N' 227 = upd (upd (upd (upd (upd (upd (N 227) (p + 1) 4) (p + 1 + 1 + 1) 13) (p + 1 + 1 + 1 + 1 + 1) 14) (p + 1 + 1 + 1 + 1 + 1 + 1 + 1) 15) (p + 1 + 1 + 1 + 1 + 1 + 1 + 1 + 1 + 1) 16) (p + 1 + 1 + 1 + 1 + 1 + 1 + 1 + 1 + 1 + 1 + 1) 17 := hL.2.1
  have hr : ∀ k, k < p → N 227 k = N' 227 k := fun k hk => by
    rw [e227, upd_n _ _ (by omega), upd_n _ _ (by omega), upd_n _ _ (by omega), upd_n _ _ (by omega), upd_n _ _ (by omega), upd_n _ _ (by omega)]
  have r0 : N' 227 (p + 0) = 0 := by
    rw [e227, upd_n _ _ (by omega), upd_n _ _ (by omega), upd_n _ _ (by omega), upd_n _ _ (by omega), upd_n _ _ (by omega), upd_n _ _ (by omega)]
    exact h3 _ (by omega) (by omega)
  have r1 : N' 227 (p + 1) = 4 := by
    rw [e227, upd_n _ _ (by omega), upd_n _ _ (by omega), upd_n _ _ (by omega), upd_n _ _ (by omega), upd_n _ _ (by omega), show p + 1 = p + 1 by omega, upd_s]
  have r2 : N' 227 (p + 2) = 0 := by
    rw [e227, upd_n _ _ (by omega), upd_n _ _ (by omega), upd_n _ _ (by omega), upd_n _ _ (by omega), upd_n _ _ (by omega), upd_n _ _ (by omega)]
    exact h3 _ (by omega) (by omega)
  have r3 : N' 227 (p + 3) = 13 := by
    rw [e227, upd_n _ _ (by omega), upd_n _ _ (by omega), upd_n _ _ (by omega), upd_n _ _ (by omega), show p + 3 = p + 1 + 1 + 1 by omega, upd_s]
  have r4 : N' 227 (p + 4) = 0 := by
    rw [e227, upd_n _ _ (by omega), upd_n _ _ (by omega), upd_n _ _ (by omega), upd_n _ _ (by omega), upd_n _ _ (by omega), upd_n _ _ (by omega)]
    exact h3 _ (by omega) (by omega)
  have r5 : N' 227 (p + 5) = 14 := by
    rw [e227, upd_n _ _ (by omega), upd_n _ _ (by omega), upd_n _ _ (by omega), show p + 5 = p + 1 + 1 + 1 + 1 + 1 by omega, upd_s]
  have r6 : N' 227 (p + 6) = 0 := by
    rw [e227, upd_n _ _ (by omega), upd_n _ _ (by omega), upd_n _ _ (by omega), upd_n _ _ (by omega), upd_n _ _ (by omega), upd_n _ _ (by omega)]
    exact h3 _ (by omega) (by omega)
  have r7 : N' 227 (p + 7) = 15 := by
    rw [e227, upd_n _ _ (by omega), upd_n _ _ (by omega), show p + 7 = p + 1 + 1 + 1 + 1 + 1 + 1 + 1 by omega, upd_s]
  have r8 : N' 227 (p + 8) = 0 := by
    rw [e227, upd_n _ _ (by omega), upd_n _ _ (by omega), upd_n _ _ (by omega), upd_n _ _ (by omega), upd_n _ _ (by omega), upd_n _ _ (by omega)]
    exact h3 _ (by omega) (by omega)
  have r9 : N' 227 (p + 9) = 16 := by
    rw [e227, upd_n _ _ (by omega), show p + 9 = p + 1 + 1 + 1 + 1 + 1 + 1 + 1 + 1 + 1 by omega, upd_s]
  have r10 : N' 227 (p + 10) = 0 := by
    rw [e227, upd_n _ _ (by omega), upd_n _ _ (by omega), upd_n _ _ (by omega), upd_n _ _ (by omega), upd_n _ _ (by omega), upd_n _ _ (by omega)]
    exact h3 _ (by omega) (by omega)
  have r11 : N' 227 (p + 11) = 17 := by
    rw [e227, show p + 11 = p + 1 + 1 + 1 + 1 + 1 + 1 + 1 + 1 + 1 + 1 + 1 by omega, upd_s]
  have hROK : ROK m N' (p + 12) := fun k hk hk2 => by
    rw [e227, upd_n _ _ (by omega), upd_n _ _ (by omega), upd_n _ _ (by omega), upd_n _ _ (by omega), upd_n _ _ (by omega), upd_n _ _ (by omega)]
    exact h3 k (by omega) hk2
  have rr : ∀ i, p ≤ i → i < p + 12 → (i = p + 0 ∧ N' 227 i = 0) ∨ (i = p + 1 ∧ N' 227 i = 4) ∨ (i = p + 2 ∧ N' 227 i = 0) ∨ (i = p + 3 ∧ N' 227 i = 13) ∨ (i = p + 4 ∧ N' 227 i = 0) ∨ (i = p + 5 ∧ N' 227 i = 14) ∨ (i = p + 6 ∧ N' 227 i = 0) ∨ (i = p + 7 ∧ N' 227 i = 15) ∨ (i = p + 8 ∧ N' 227 i = 0) ∨ (i = p + 9 ∧ N' 227 i = 16) ∨ (i = p + 10 ∧ N' 227 i = 0) ∨ (i = p + 11 ∧ N' 227 i = 17) := fun i h1 h2 => by
    have : i = p + 0 ∨ i = p + 1 ∨ i = p + 2 ∨ i = p + 3 ∨ i = p + 4 ∨ i = p + 5 ∨ i = p + 6 ∨ i = p + 7 ∨ i = p + 8 ∨ i = p + 9 ∨ i = p + 10 ∨ i = p + 11 := by omega
    rcases this with q | q | q | q | q | q | q | q | q | q | q | q
    · exact Or.inl ⟨q, q ▸ r0⟩
    · exact Or.inr (Or.inl ⟨q, q ▸ r1⟩)
    · exact Or.inr (Or.inr (Or.inl ⟨q, q ▸ r2⟩))
    · exact Or.inr (Or.inr (Or.inr (Or.inl ⟨q, q ▸ r3⟩)))
    · exact Or.inr (Or.inr (Or.inr (Or.inr (Or.inl ⟨q, q ▸ r4⟩))))
    · exact Or.inr (Or.inr (Or.inr (Or.inr (Or.inr (Or.inl ⟨q, q ▸ r5⟩)))))
    · exact Or.inr (Or.inr (Or.inr (Or.inr (Or.inr (Or.inr (Or.inl ⟨q, q ▸ r6⟩))))))
    · exact Or.inr (Or.inr (Or.inr (Or.inr (Or.inr (Or.inr (Or.inr (Or.inl ⟨q, q ▸ r7⟩)))))))
    · exact Or.inr (Or.inr (Or.inr (Or.inr (Or.inr (Or.inr (Or.inr (Or.inr (Or.inl ⟨q, q ▸ r8⟩))))))))
    · exact Or.inr (Or.inr (Or.inr (Or.inr (Or.inr (Or.inr (Or.inr (Or.inr (Or.inr (Or.inl ⟨q, q ▸ r9⟩)))))))))
    · exact Or.inr (Or.inr (Or.inr (Or.inr (Or.inr (Or.inr (Or.inr (Or.inr (Or.inr (Or.inr (Or.inl ⟨q, q ▸ r10⟩))))))))))
    · exact Or.inr (Or.inr (Or.inr (Or.inr (Or.inr (Or.inr (Or.inr (Or.inr (Or.inr (Or.inr (Or.inr (⟨q, q ▸ r11⟩)))))))))))
  have hW : WFR κ (N' 227) (p + 12) := fun t ht => by
    by_cases e : t < p
    · exact (h9 t e).cong (fun k hk => hr k (by omega))
    have hor : t = p + 0 ∨ t = p + 1 ∨ t = p + 2 ∨ t = p + 3 ∨ t = p + 4 ∨ t = p + 5 ∨ t = p + 6 ∨ t = p + 7 ∨ t = p + 8 ∨ t = p + 9 ∨ t = p + 10 ∨ t = p + 11 := by omega
    rcases hor with e | e | e | e | e | e | e | e | e | e | e | e
    · rw [e]; exact LOC.zero r0
    · rw [e]
      unfold LOC
      rw [r1]
      exact ⟨Or.inr ((ck_2 (hK.2.1 _ (by omega))).mp (hM 1 (by decide))), by show 0 ≤ p + 1; omega, by show N' 227 (p + 1 - 0) = _; rw [show p + 1 - 0 = p + 1 by omega, r1]; decide, by decide⟩
    · rw [e]; exact LOC.zero r2
    · rw [e]
      unfold LOC
      rw [r3]
      exact ⟨Or.inr ((ck_4 (hK.2.1 _ (by omega))).mp (hM 3 (by decide))), by show 2 ≤ p + 3; omega, by show N' 227 (p + 3 - 2) = _; rw [show p + 3 - 2 = p + 1 by omega, r1]; decide, by decide⟩
    · rw [e]; exact LOC.zero r4
    · rw [e]
      unfold LOC
      rw [r5]
      exact ⟨Or.inl (by decide), by show 4 ≤ p + 5; omega, by show N' 227 (p + 5 - 4) = _; rw [show p + 5 - 4 = p + 1 by omega, r1]; decide, by decide⟩
    · rw [e]; exact LOC.zero r6
    · rw [e]
      unfold LOC
      rw [r7]
      exact ⟨Or.inr ((ck_4 (hK.2.1 _ (by omega))).mp (hM 7 (by decide))), by show 6 ≤ p + 7; omega, by show N' 227 (p + 7 - 6) = _; rw [show p + 7 - 6 = p + 1 by omega, r1]; decide, by decide⟩
    · rw [e]; exact LOC.zero r8
    · rw [e]
      unfold LOC
      rw [r9]
      exact ⟨Or.inr ((ck_2 (hK.2.1 _ (by omega))).mp (hM 9 (by decide))), by show 8 ≤ p + 9; omega, by show N' 227 (p + 9 - 8) = _; rw [show p + 9 - 8 = p + 1 by omega, r1]; decide, by decide⟩
    · rw [e]; exact LOC.zero r10
    · rw [e]
      unfold LOC
      rw [r11]
      exact ⟨Or.inr ((ck_2 (hK.2.1 _ (by omega))).mp (hM 11 (by decide))), by show 10 ≤ p + 11; omega, by show N' 227 (p + 11 - 10) = _; rw [show p + 11 - 10 = p + 1 by omega, r1]; decide, by decide⟩
  have mk : ∀ (F' : M2) (L' : L2), F' 66 = cT (p + 12) F 66 → F' 74 = F 74 → F' 45 = F 45 → L' 76 = L 76 → ((∃ e k, k < p + 12 ∧ SER κ val V0 (N' 227) (p + 12) e k ∧ CER F' e k) ∨ (∃ V np, SOK κ val V0 (N' 227) (p + 12) V ∧ F' 67 0 = 0 ∧ PXN val (N' 227) (p + 12) np F' L' V ∧ ORX val (N' 227) F' V P its nr)) → BND κ m val N0 V0 F' L' N' P (p + 12) its nr := fun F' L' g66 g74 g45 g76 g =>
    ⟨h6n.rows g66 (by rw [g74, eF 74 (by decide)]) g76, hL.1, hROK, ⟨by rw [g45]; exact h4.1, by omega⟩, h5, h6.cong hr (by omega), ⟨h7.1, by omega⟩, hW, g⟩
  have nf : ∀ k, k ≠ 67 → k ≠ 68 → ∀ τ told σ υ, (smC υ σ (p + 11) (knC υ (p + 11) (knC σ (p + 9) (rgC (val (p + 7)).toInt32 0 999 (p + 7) (rgC (val (p + 3)).toInt32 1 60 (p + 3) (nwC τ told 8 (p + 1) (cT (p + 12) F))))))) k = cT (p + 12) F k := fun k ha hb τ told σ υ => by rw [smC_n ha hb, knC_n ha hb, knC_n ha hb, rgC_n ha hb, rgC_n ha hb, nwC_n ha hb]
  have cb : ∀ (K : Int32 → M2 → L2 → Prop) (F7 : M2), F7 = (smC (idx (L 63) (F 23 0) 6 (val (p + 11))) (idx (L 63) (F 23 0) 6 (val (p + 9))) (p + 11) (knC (idx (L 63) (F 23 0) 6 (val (p + 11))) (p + 11) (knC (idx (L 63) (F 23 0) 6 (val (p + 9))) (p + 9) (rgC (val (p + 7)).toInt32 0 999 (p + 7) (rgC (val (p + 3)).toInt32 1 60 (p + 3) (nwC (idx (L 64) (F 24 0) 8 (val (p + 1))) (F 24 0) 8 (p + 1) (cT (p + 12) F))))))) → (¬ F7 67 0 = 0 → K 1 F7 L) → (F7 67 0 = 0 → wp_X1_addBoat F7 (ul2 L 64 (putl (L 64) 8 (F7 24 0) (val (p + 1)))) (val (p + 3)).toInt32 (val (p + 5)).toInt32 (val (p + 7)).toInt32 (idx (L 63) (F 23 0) 6 (val (p + 9))) (idx (L 63) (F 23 0) 6 (val (p + 11))) (fun F L => K 1 F L)) → wp_X2_boatLine F L (nI p) K := fun K F7 e7 hne heq => by
    refine k2 _ (And.intro (fun _ => ?_) (fun z => absurd z (by decide)))
    have a1 : nI p + 1 = nI (p + 1) := nI_1 p
    have a3 : nI p + 3 = nI (p + 3) := nI_add p 3
    have a5 : nI p + 5 = nI (p + 5) := nI_add p 5
    have a7 : nI p + 7 = nI (p + 7) := nI_add p 7
    have a9 : nI p + 9 = nI (p + 9) := nI_add p 9
    have a11 : nI p + 11 = nI (p + 11) := nI_add p 11
    rw [a1, a3, a7, a9, a11, eF 24 (by decide)]
    have fin : ∀ F8 : M2, F8 = F7 → wj_X2_boatLine_106 K F8 L (nI p) (idx (L 63) (F 23 0) 6 (val (p + 9))) (idx (L 63) (F 23 0) 6 (val (p + 11))) := fun F8 e8 => by
      subst e8
      unfold wj_X2_boatLine_106
      rw [a1, a3, a5, a7]
      refine And.intro (fun c => hne c) (fun c L1 el => ?_)
      rw [h1.vl hK (by omega)] at el
      subst el
      unfold wp_X2_number
      have e76 : ul2 L 64 (putl (L 64) 8 (F8 24 0) (val (p + 1))) 76 = L 76 := ul2_n _ _ (by decide)
      rw [e76, h1.vl hK (by omega), h1.vl hK (by omega), h1.vl hK (by omega)]
      exact heq c
    refine c_new_nO h6n hK (by omega) ?_
    have s1 : SC κ m val (nwC (idx (L 64) (F 24 0) 8 (val (p + 1))) (F 24 0) 8 (p + 1) (cT (p + 12) F)) L (p + 12) := h6n.rows (nwC_n (by decide) (by decide)) (nwC_n (by decide) (by decide)) rfl
    refine c_range s1 hK (by omega) ?_
    have s2 : SC κ m val (rgC (val (p + 3)).toInt32 1 60 (p + 3) (nwC (idx (L 64) (F 24 0) 8 (val (p + 1))) (F 24 0) 8 (p + 1) (cT (p + 12) F))) L (p + 12) := s1.rows (rgC_n (by decide) (by decide)) (rgC_n (by decide) (by decide)) rfl
    refine c_range s2 hK (by omega) ?_
    have s3 : SC κ m val (rgC (val (p + 7)).toInt32 0 999 (p + 7) (rgC (val (p + 3)).toInt32 1 60 (p + 3) (nwC (idx (L 64) (F 24 0) 8 (val (p + 1))) (F 24 0) 8 (p + 1) (cT (p + 12) F)))) L (p + 12) := s2.rows (rgC_n (by decide) (by decide)) (rgC_n (by decide) (by decide)) rfl
    have n3 : (rgC (val (p + 7)).toInt32 0 999 (p + 7) (rgC (val (p + 3)).toInt32 1 60 (p + 3) (nwC (idx (L 64) (F 24 0) 8 (val (p + 1))) (F 24 0) 8 (p + 1) (cT (p + 12) F)))) 23 0 = F 23 0 := by rw [rgC_n (by decide) (by decide), rgC_n (by decide) (by decide), nwC_n (by decide) (by decide), eF 23 (by decide)]
    rw [n3]
    refine c_known_nL s3 hK (by omega) ?_
    have s4 : SC κ m val (knC (idx (L 63) (F 23 0) 6 (val (p + 9))) (p + 9) (rgC (val (p + 7)).toInt32 0 999 (p + 7) (rgC (val (p + 3)).toInt32 1 60 (p + 3) (nwC (idx (L 64) (F 24 0) 8 (val (p + 1))) (F 24 0) 8 (p + 1) (cT (p + 12) F))))) L (p + 12) := s3.rows (knC_n (by decide) (by decide)) (knC_n (by decide) (by decide)) rfl
    have n4 : (knC (idx (L 63) (F 23 0) 6 (val (p + 9))) (p + 9) (rgC (val (p + 7)).toInt32 0 999 (p + 7) (rgC (val (p + 3)).toInt32 1 60 (p + 3) (nwC (idx (L 64) (F 24 0) 8 (val (p + 1))) (F 24 0) 8 (p + 1) (cT (p + 12) F))))) 23 0 = F 23 0 := by rw [knC_n (by decide) (by decide)]; exact n3
    show wp_X2_needKnown_nL (knC (idx (L 63) (F 23 0) 6 (val (p + 9))) (p + 9) (rgC (val (p + 7)).toInt32 0 999 (p + 7) (rgC (val (p + 3)).toInt32 1 60 (p + 3) (nwC (idx (L 64) (F 24 0) 8 (val (p + 1))) (F 24 0) 8 (p + 1) (cT (p + 12) F))))) L ((knC (idx (L 63) (F 23 0) 6 (val (p + 9))) (p + 9) (rgC (val (p + 7)).toInt32 0 999 (p + 7) (rgC (val (p + 3)).toInt32 1 60 (p + 3) (nwC (idx (L 64) (F 24 0) 8 (val (p + 1))) (F 24 0) 8 (p + 1) (cT (p + 12) F))))) 23 0) (nI (p + 11)) _
    rw [n4]
    refine c_known_nL s4 hK (by omega) ?_
    refine And.intro (fun c => fin _ (by rw [e7]; exact (if_neg c).symm)) (fun c => c_tell (fin _ (by rw [e7]; exact (if_pos c).symm)))
  have fin : ∀ (F7 : M2), F7 = (smC (idx (L 63) (F 23 0) 6 (val (p + 11))) (idx (L 63) (F 23 0) 6 (val (p + 9))) (p + 11) (knC (idx (L 63) (F 23 0) 6 (val (p + 11))) (p + 11) (knC (idx (L 63) (F 23 0) 6 (val (p + 9))) (p + 9) (rgC (val (p + 7)).toInt32 0 999 (p + 7) (rgC (val (p + 3)).toInt32 1 60 (p + 3) (nwC (idx (L 64) (F 24 0) 8 (val (p + 1))) (F 24 0) 8 (p + 1) (cT (p + 12) F))))))) → ∀ e k, k < p + 12 → SER κ val V0 (N' 227) (p + 12) e k → CER F7 e k → OUT κ m val N0 V0 (fun F L K => wp_X2_boatLine F L (nI p) K) (fun N P K => wp_X8_isBoatLine N P K) (p + 12) its nr F L N P := fun F7 e7 e k hk hS hC => by
    refine Or.inl ⟨F7, L, N', mk F7 L ?_ ?_ ?_ rfl (Or.inl ⟨e, k, hk, hS, hC⟩), fun k hk => ?_, fun _ _ => rfl, hL.2.2, fun K hk => cb K F7 e7 (fun _ => hk) (fun z => absurd (hC.1.symm.trans z) hC.2.1), k8⟩
    · rw [e7, nf 66 (by decide) (by decide)]
    · rw [e7, nf 74 (by decide) (by decide), eF 74 (by decide)]
    · rw [e7, nf 45 (by decide) (by decide), eF 45 (by decide)]
    · rw [e7, nf k (by omega) (by omega), eF k (by omega)]
  rcases h8 with ⟨e, k, hk, hS, hC⟩ | ⟨V, np, hS, hF67, hP, hO⟩
  · have hC0 : CER (cT (p + 12) F) e k := by
      unfold CER
      rw [eF 67 (by decide), eF 68 (by decide)]
      exact hC
    refine fin _ rfl e k (by omega) ((hS.cong hr).add 12) ?_
    rw [nwC_off hC0, rgC_off hC0, rgC_off hC0, knC_off hC0, knC_off hC0, smC_off hC0]
    exact hC0
  have hP := hP.cong hr
  have hF0 : cT (p + 12) F 67 0 = 0 := by rw [eF 67 (by decide)]; exact hF67
  obtain ⟨x1, x2, x3, x4, x5, x6, x7, x8, x9, x10⟩ := hP
  have S1 : SOK κ val V0 (N' 227) (p + 1) V := (hS.cong hr).step0 r0
  have hcn := x4
  obtain ⟨y1, y2, y3, y4⟩ := hcn
  have hcn3 := x3
  obtain ⟨z1, z2, z3, z4⟩ := hcn3
  have ht : (idx (L 64) (F 24 0) 8 (val (p + 1))) = tld val (N' 227) 4 (p + 1) (p + 1) := by
    rw [y1, idx_tld y4 y3 (by decide)]
    refine (tld_at (d := 1) (fun i h1 h2 z => ?_) (p + 1)).symm
    have : i = p + 0 := by omega
    rw [this, r0] at z
    exact absurd z (by decide)
  have hno3 : ∀ i, p ≤ i → i < p + 12 → ¬ N' 227 i = 3 := fun i hi1 hi2 z => by
    rcases rr i hi1 hi2 with q | q | q | q | q | q | q | q | q | q | q | q <;> rw [q.2] at z <;> exact absurd z (by decide)
  have ht9 : (idx (L 63) (F 23 0) 6 (val (p + 9))) = tld val (N' 227) 3 (p + 9) (p + 9) := by
    rw [z1, idx_tld z4 z3 (by decide)]
    exact (tld_at (d := 9) (fun i h1 h2 => hno3 i h1 (by omega)) (p + 9)).symm
  have ht11 : (idx (L 63) (F 23 0) 6 (val (p + 11))) = tld val (N' 227) 3 (p + 11) (p + 11) := by
    rw [z1, idx_tld z4 z3 (by decide)]
    exact (tld_at (d := 11) (fun i h1 h2 => hno3 i h1 (by omega)) (p + 11)).symm
  have k3 : cnt (N' 227) 3 (p + 9) = cnt (N' 227) 3 p := cnt_more 9 (fun i h1 h2 => hno3 i h1 (by omega))
  have k4 : cnt (N' 227) 3 (p + 11) = cnt (N' 227) 3 p := cnt_more 11 (fun i h1 h2 => hno3 i h1 (by omega))
  have t9 := tld_rng (val := val) (ρ := N' 227) (as := 3) (t := p + 9) (b := p + 9)
  have t11 := tld_rng (val := val) (ρ := N' 227) (as := 3) (t := p + 11) (b := p + 11)
  rw [k3] at t9
  rw [k4] at t11
  have E16 := fun V : M2 => erF_16 (κ := κ) (val := val) (V := V) r9
  have E17 := fun V : M2 => erF_17 (κ := κ) (val := val) (V := V) r11
  rw [ht, ht9, ht11, y1] at fin cb
  generalize hT9 : tld val (N' 227) 3 (p + 9) (p + 9) = τ9 at *
  generalize hT11 : tld val (N' 227) 3 (p + 11) (p + 11) = τ11 at *
  rcases chk_new (as := 0) (F := cT (p + 12) F) S1 (erF_4 r1) hF0 y2 (rfl : (8 : Int32) = nI 8) y3 (by decide) with ⟨e, hE, hC⟩ | ⟨ht1, hlt, S2, hN⟩
  · refine fin _ rfl e (p + 1) (by omega) (hE.add 10) ?_
    rw [rgC_off hC, rgC_off hC, knC_off hC, knC_off hC, smC_off hC]
    exact hC
  have S3 := S2.step0 r2
  have hltc : cnt (N' 227) 4 p < 8 := by omega
  have e252 : (up2 V 252 (fun _ => nI (cnt (N' 227) 4 p + 1))) 252 0 = nI (cnt (N' 227) 4 p + 1) := by rw [up2_s]
  have eV : ∀ k, k ≠ 252 → (up2 V 252 (fun _ => nI (cnt (N' 227) 4 p + 1))) k = V k := fun k hk => up2_n _ _ hk
  generalize hV1 : up2 V 252 (fun _ => nI (cnt (N' 227) 4 p + 1)) = V1 at *
  have hli : lastI V1 252 = cnt (N' 227) 4 p := lastI_nI e252 (by omega)
  rcases chk_rng (F := cT (p + 12) F) S3 (erF_13 r3) hF0 with ⟨e, hE, hC⟩ | ⟨hrg, S4, hN3⟩
  · refine fin _ rfl e (p + 3) (by omega) (hE.add 8) ?_
    rw [hN, rgC_off hC, knC_off hC, knC_off hC, smC_off hC]
    exact hC
  rw [hli] at S4
  have S5 := S4.step0 r4
  have hl1 : lastI (st2 V1 253 (cnt (N' 227) 4 p) (val (p + 3)).toInt32) 252 = cnt (N' 227) 4 p := lastI_nI (by rw [st2_n _ _ _ (by decide)]; exact e252) (by omega)
  have S6 := S5.step (erF_14 r5)
  rw [hl1] at S6
  have hl2 : lastI (st2 (st2 V1 253 (cnt (N' 227) 4 p) (val (p + 3)).toInt32) 254 (cnt (N' 227) 4 p) (endV (κ (p + 5)))) 252 = cnt (N' 227) 4 p := lastI_nI (by rw [st2_n _ _ _ (by decide), st2_n _ _ _ (by decide)]; exact e252) (by omega)
  have S7 := S6.step0 r6
  rcases chk_rng (F := cT (p + 12) F) S7 (erF_15 r7) hF0 with ⟨e, hE, hC⟩ | ⟨hrg7, S8, hN7⟩
  · refine fin _ rfl e (p + 7) (by omega) (hE.add 4) ?_
    rw [hN, hN3, knC_off hC, knC_off hC, smC_off hC]
    exact hC
  rw [hl2] at S8
  generalize hV2 : st2 (st2 (st2 V1 253 (cnt (N' 227) 4 p) (val (p + 3)).toInt32) 254 (cnt (N' 227) 4 p) (endV (κ (p + 5)))) 255 (cnt (N' 227) 4 p) (val (p + 7)).toInt32 = V2 at *
  have e2 : V2 252 0 = nI (cnt (N' 227) 4 p + 1) := by rw [← hV2, st2_n _ _ _ (by decide), st2_n _ _ _ (by decide), st2_n _ _ _ (by decide)]; exact e252
  have hl3 : lastI V2 252 = cnt (N' 227) 4 p := lastI_nI e2 (by omega)
  have S9 := S8.step0 r8
  rcases chk_kn (F := cT (p + 12) F) S9 (E16 _) hF0 with ⟨e, hE, hC⟩ | ⟨hne9, S10, hN9⟩
  · refine fin _ rfl e (p + 9) (by omega) (hE.add 2) ?_
    rw [hN, hN3, hN7, knC_off hC, smC_off hC]
    exact hC
  have S11 := S10.step0 r10
  unfold crewF at S11 E17
  rw [hl3] at S11
  have e3 : st2 V2 (310 + cnt (N' 227) 4 p) 0 τ9 252 0 = nI (cnt (N' 227) 4 p + 1) := by rw [st2_n _ _ _ (by omega)]; exact e2
  have hl4 : lastI (st2 V2 (310 + cnt (N' 227) 4 p) 0 τ9) 252 = cnt (N' 227) 4 p := lastI_nI e3 (by omega)
  have E17' := E17 (st2 V2 (310 + cnt (N' 227) 4 p) 0 τ9)
  have w0' : ∀ x, st2 (st2 V2 (310 + cnt (N' 227) 4 p) 0 τ9) (310 + cnt (N' 227) 4 p) 1 x (310 + cnt (N' 227) 4 p) 0 = τ9 := fun x => by rw [st2_k, if_neg (by decide : ¬ (0 : Nat) = 1), st2_k, if_pos rfl]
  have w1' : ∀ x, st2 (st2 V2 (310 + cnt (N' 227) 4 p) 0 τ9) (310 + cnt (N' 227) 4 p) 1 x (310 + cnt (N' 227) 4 p) 1 = x := fun x => by rw [st2_k, if_pos rfl]
  rw [hl4, w0', w1'] at E17'
  rcases chk_same (F := cT (p + 12) F) S11 E17' hF0 with ⟨e, hE, hC⟩ | ⟨hne11, hneq, S12, hN11⟩
  · refine fin _ rfl e (p + 11) (by omega) hE ?_
    rw [hN, hN3, hN7, hN9]
    exact hC
  have hk3 : κ (p + 3) = 41 := (ck_4 (hK.2.1 _ (by omega))).mp (hM 3 (by decide))
  obtain ⟨v, hv, ev⟩ := hNV (p + 3) (by omega) hk3
  obtain ⟨b1, b2⟩ := rng_nat (lo := 1) (hi := 60) ev hv (by decide) (by decide) hrg
  have hk5 : endV (κ (p + 5)) = (val (p + 5)).toInt32 ∧ ((val (p + 5)).toInt32 = 0 ∨ (val (p + 5)).toInt32 = 1) := by
    have hs := hSid (p + 5) (by omega)
    unfold endV
    rcases (ck_3 (hK.2.1 _ (by omega))).mp (hM 5 (by decide)) with q | q
    · rw [if_pos q, hs.1 q]
      exact ⟨rfl, Or.inl rfl⟩
    · rw [if_neg (by rw [q]; decide), hs.2 q]
      exact ⟨rfl, Or.inr rfl⟩
  obtain ⟨k0, hk0, ek0⟩ := t9.resolve_left hne9
  obtain ⟨k1, hk1, ek1⟩ := t11.resolve_left hne11
  have efk : cT (p + 12) F 24 0 = nI (cnt (N' 227) 4 p) := by rw [eF 24 (by decide)]; exact y1
  have hF' : ∀ K : M2 → L2 → Prop, K (up2 (st2 (st2 (st2 (st2 (st2 (cT (p + 12) F) 33 (cnt (N' 227) 4 p) (val (p + 3)).toInt32) 34 (cnt (N' 227) 4 p) (val (p + 5)).toInt32) 35 (cnt (N' 227) 4 p) (val (p + 7)).toInt32) 36 (cnt (N' 227) 4 p) τ9) 37 (cnt (N' 227) 4 p) τ11) 24 (fun _ => nI (cnt (N' 227) 4 p + 1))) (ul2 L 64 (vp_updL (L 64) (cnt (N' 227) 4 p) (val (p + 1)))) → wp_X1_addBoat (cT (p + 12) F) (ul2 L 64 (putl (L 64) 8 (cT (p + 12) F 24 0) (val (p + 1)))) (val (p + 3)).toInt32 (val (p + 5)).toInt32 (val (p + 7)).toInt32 τ9 τ11 K := fun K hk => by
    rw [efk, putl_nI hlt (by decide)]
    exact c_addBoat hltc efk hk
  have vK : ∀ k, k ≠ 252 → k ≠ 253 → k ≠ 254 → k ≠ 255 → k ≠ 310 + cnt (N' 227) 4 p → (st2 (st2 V2 (310 + cnt (N' 227) 4 p) 0 τ9) (310 + cnt (N' 227) 4 p) 1 τ11) k = V k := fun k a0 a1 a2 a3 a4 => by
    rw [st2_n _ _ _ a4, st2_n _ _ _ a4, ← hV2, st2_n _ _ _ a3, st2_n _ _ _ a2, st2_n _ _ _ a1, eV k a0]
  have v252 : (st2 (st2 V2 (310 + cnt (N' 227) 4 p) 0 τ9) (310 + cnt (N' 227) 4 p) 1 τ11) 252 0 = nI (cnt (N' 227) 4 p + 1) := by
    rw [st2_n _ _ _ (by omega), st2_n _ _ _ (by omega)]
    exact e2
  have g33 : ∀ k, (up2 (st2 (st2 (st2 (st2 (st2 (cT (p + 12) F) 33 (cnt (N' 227) 4 p) (val (p + 3)).toInt32) 34 (cnt (N' 227) 4 p) (val (p + 5)).toInt32) 35 (cnt (N' 227) 4 p) (val (p + 7)).toInt32) 36 (cnt (N' 227) 4 p) τ9) 37 (cnt (N' 227) 4 p) τ11) 24 (fun _ => nI (cnt (N' 227) 4 p + 1))) 33 k = if k = cnt (N' 227) 4 p then (val (p + 3)).toInt32 else F 33 k := fun k => by
    rw [up2_n _ _ (by decide), st2_n _ _ _ (by decide), st2_n _ _ _ (by decide), st2_n _ _ _ (by decide), st2_n _ _ _ (by decide), st2_k, eF 33 (by decide)]
  have g34 : ∀ k, (up2 (st2 (st2 (st2 (st2 (st2 (cT (p + 12) F) 33 (cnt (N' 227) 4 p) (val (p + 3)).toInt32) 34 (cnt (N' 227) 4 p) (val (p + 5)).toInt32) 35 (cnt (N' 227) 4 p) (val (p + 7)).toInt32) 36 (cnt (N' 227) 4 p) τ9) 37 (cnt (N' 227) 4 p) τ11) 24 (fun _ => nI (cnt (N' 227) 4 p + 1))) 34 k = if k = cnt (N' 227) 4 p then (val (p + 5)).toInt32 else F 34 k := fun k => by
    rw [up2_n _ _ (by decide), st2_n _ _ _ (by decide), st2_n _ _ _ (by decide), st2_n _ _ _ (by decide), st2_k, st2_n _ _ _ (by decide), eF 34 (by decide)]
  have g35 : ∀ k, (up2 (st2 (st2 (st2 (st2 (st2 (cT (p + 12) F) 33 (cnt (N' 227) 4 p) (val (p + 3)).toInt32) 34 (cnt (N' 227) 4 p) (val (p + 5)).toInt32) 35 (cnt (N' 227) 4 p) (val (p + 7)).toInt32) 36 (cnt (N' 227) 4 p) τ9) 37 (cnt (N' 227) 4 p) τ11) 24 (fun _ => nI (cnt (N' 227) 4 p + 1))) 35 k = if k = cnt (N' 227) 4 p then (val (p + 7)).toInt32 else F 35 k := fun k => by
    rw [up2_n _ _ (by decide), st2_n _ _ _ (by decide), st2_n _ _ _ (by decide), st2_k, st2_n _ _ _ (by decide), st2_n _ _ _ (by decide), eF 35 (by decide)]
  have g36 : ∀ k, (up2 (st2 (st2 (st2 (st2 (st2 (cT (p + 12) F) 33 (cnt (N' 227) 4 p) (val (p + 3)).toInt32) 34 (cnt (N' 227) 4 p) (val (p + 5)).toInt32) 35 (cnt (N' 227) 4 p) (val (p + 7)).toInt32) 36 (cnt (N' 227) 4 p) τ9) 37 (cnt (N' 227) 4 p) τ11) 24 (fun _ => nI (cnt (N' 227) 4 p + 1))) 36 k = if k = cnt (N' 227) 4 p then τ9 else F 36 k := fun k => by
    rw [up2_n _ _ (by decide), st2_n _ _ _ (by decide), st2_k, st2_n _ _ _ (by decide), st2_n _ _ _ (by decide), st2_n _ _ _ (by decide), eF 36 (by decide)]
  have g37 : ∀ k, (up2 (st2 (st2 (st2 (st2 (st2 (cT (p + 12) F) 33 (cnt (N' 227) 4 p) (val (p + 3)).toInt32) 34 (cnt (N' 227) 4 p) (val (p + 5)).toInt32) 35 (cnt (N' 227) 4 p) (val (p + 7)).toInt32) 36 (cnt (N' 227) 4 p) τ9) 37 (cnt (N' 227) 4 p) τ11) 24 (fun _ => nI (cnt (N' 227) 4 p + 1))) 37 k = if k = cnt (N' 227) 4 p then τ11 else F 37 k := fun k => by
    rw [up2_n _ _ (by decide), st2_k, st2_n _ _ _ (by decide), st2_n _ _ _ (by decide), st2_n _ _ _ (by decide), st2_n _ _ _ (by decide), eF 37 (by decide)]
  have u253 : ∀ k, (st2 (st2 V2 (310 + cnt (N' 227) 4 p) 0 τ9) (310 + cnt (N' 227) 4 p) 1 τ11) 253 k = if k = cnt (N' 227) 4 p then (val (p + 3)).toInt32 else V 253 k := fun k => by
    rw [st2_n _ _ _ (by omega), st2_n _ _ _ (by omega), ← hV2, st2_n _ _ _ (by decide), st2_n _ _ _ (by decide), st2_k, eV 253 (by decide)]
  have u254 : ∀ k, (st2 (st2 V2 (310 + cnt (N' 227) 4 p) 0 τ9) (310 + cnt (N' 227) 4 p) 1 τ11) 254 k = if k = cnt (N' 227) 4 p then endV (κ (p + 5)) else V 254 k := fun k => by
    rw [st2_n _ _ _ (by omega), st2_n _ _ _ (by omega), ← hV2, st2_n _ _ _ (by decide), st2_k, st2_n _ _ _ (by decide), eV 254 (by decide)]
  have u255 : ∀ k, (st2 (st2 V2 (310 + cnt (N' 227) 4 p) 0 τ9) (310 + cnt (N' 227) 4 p) 1 τ11) 255 k = if k = cnt (N' 227) 4 p then (val (p + 7)).toInt32 else V 255 k := fun k => by
    rw [st2_n _ _ _ (by omega), st2_n _ _ _ (by omega), ← hV2, st2_k, st2_n _ _ _ (by decide), st2_n _ _ _ (by decide), eV 255 (by decide)]
  have w0 : (st2 (st2 V2 (310 + cnt (N' 227) 4 p) 0 τ9) (310 + cnt (N' 227) 4 p) 1 τ11) (310 + cnt (N' 227) 4 p) 0 = τ9 := by rw [st2_k, if_neg (by decide), st2_k, if_pos rfl]
  have w1 : (st2 (st2 V2 (310 + cnt (N' 227) 4 p) 0 τ9) (310 + cnt (N' 227) 4 p) 1 τ11) (310 + cnt (N' 227) 4 p) 1 = τ11 := by rw [st2_k, if_pos rfl]
  have fK : ∀ k, k ≠ 33 → k ≠ 34 → k ≠ 35 → k ≠ 36 → k ≠ 37 → k ≠ 24 → k ≠ 66 → (up2 (st2 (st2 (st2 (st2 (st2 (cT (p + 12) F) 33 (cnt (N' 227) 4 p) (val (p + 3)).toInt32) 34 (cnt (N' 227) 4 p) (val (p + 5)).toInt32) 35 (cnt (N' 227) 4 p) (val (p + 7)).toInt32) 36 (cnt (N' 227) 4 p) τ9) 37 (cnt (N' 227) 4 p) τ11) 24 (fun _ => nI (cnt (N' 227) 4 p + 1))) k = F k := fun k a0 a1 a2 a3 a4 a5 ax => by
    rw [up2_n _ _ a5, st2_n _ _ _ a4, st2_n _ _ _ a3, st2_n _ _ _ a2, st2_n _ _ _ a1, st2_n _ _ _ a0, eF k ax]
  have f66 : (up2 (st2 (st2 (st2 (st2 (st2 (cT (p + 12) F) 33 (cnt (N' 227) 4 p) (val (p + 3)).toInt32) 34 (cnt (N' 227) 4 p) (val (p + 5)).toInt32) 35 (cnt (N' 227) 4 p) (val (p + 7)).toInt32) 36 (cnt (N' 227) 4 p) τ9) 37 (cnt (N' 227) 4 p) τ11) 24 (fun _ => nI (cnt (N' 227) 4 p + 1))) 66 = cT (p + 12) F 66 := by
    rw [up2_n _ _ (by decide), st2_n _ _ _ (by decide), st2_n _ _ _ (by decide), st2_n _ _ _ (by decide), st2_n _ _ _ (by decide), st2_n _ _ _ (by decide)]
  have hno : ∀ as : Int32, as ≠ 4 → as ≠ 0 → as ≠ 13 → as ≠ 14 → as ≠ 15 → as ≠ 16 → as ≠ 17 → ∀ i, p ≤ i → i < p + 12 → ¬ N' 227 i = as := fun as a4 a0 a13 a14 a15 a16 a17 i hi1 hi2 z => by
    rcases rr i hi1 hi2 with q | q | q | q | q | q | q | q | q | q | q | q <;> rw [q.2] at z <;> first | exact a4 z.symm | exact a0 z.symm | exact a13 z.symm | exact a14 z.symm | exact a15 z.symm | exact a16 z.symm | exact a17 z.symm
  have hC1 := x4.add (t := p + 1) (d := 12) ⟨by omega, by omega⟩ r1 (fun i hi1 hi2 hne z => by
    rcases rr i hi1 hi2 with q | q | q | q | q | q | q | q | q | q | q | q
    · rw [q.2] at z; exact absurd z (by decide)
    · exact hne q.1
    · rw [q.2] at z; exact absurd z (by decide)
    · rw [q.2] at z; exact absurd z (by decide)
    · rw [q.2] at z; exact absurd z (by decide)
    · rw [q.2] at z; exact absurd z (by decide)
    · rw [q.2] at z; exact absurd z (by decide)
    · rw [q.2] at z; exact absurd z (by decide)
    · rw [q.2] at z; exact absurd z (by decide)
    · rw [q.2] at z; exact absurd z (by decide)
    · rw [q.2] at z; exact absurd z (by decide)
    · rw [q.2] at z; exact absurd z (by decide)
    ) hlt
  have c4 : cnt (N' 227) 4 (p + 12) = cnt (N' 227) 4 p + 1 := nI_inj (by have := hC1.2.2.1; omega) (by omega) hC1.1.symm
  have c1 := cnt_more (ρ := N' 227) (as := 1) (p := p) 12 (hno 1 (by decide) (by decide) (by decide) (by decide) (by decide) (by decide) (by decide))
  have c2 := cnt_more (ρ := N' 227) (as := 2) (p := p) 12 (hno 2 (by decide) (by decide) (by decide) (by decide) (by decide) (by decide) (by decide))
  have c3 := cnt_more (ρ := N' 227) (as := 3) (p := p) 12 (hno 3 (by decide) (by decide) (by decide) (by decide) (by decide) (by decide) (by decide))
  have hPX : PXN val (N' 227) (p + 12) np (up2 (st2 (st2 (st2 (st2 (st2 (cT (p + 12) F) 33 (cnt (N' 227) 4 p) (val (p + 3)).toInt32) 34 (cnt (N' 227) 4 p) (val (p + 5)).toInt32) 35 (cnt (N' 227) 4 p) (val (p + 7)).toInt32) 36 (cnt (N' 227) 4 p) τ9) 37 (cnt (N' 227) 4 p) τ11) 24 (fun _ => nI (cnt (N' 227) 4 p + 1))) (ul2 L 64 (vp_updL (L 64) (cnt (N' 227) 4 p) (val (p + 1)))) (st2 (st2 V2 (310 + cnt (N' 227) 4 p) 0 τ9) (310 + cnt (N' 227) 4 p) 1 τ11) := by
    unfold PXN
    rw [c1, c2, c3, c4]
    rw [fK 20 (by decide) (by decide) (by decide) (by decide) (by decide) (by decide) (by decide), fK 21 (by decide) (by decide) (by decide) (by decide) (by decide) (by decide) (by decide), fK 22 (by decide) (by decide) (by decide) (by decide) (by decide) (by decide) (by decide), fK 23 (by decide) (by decide) (by decide) (by decide) (by decide) (by decide) (by decide), fK 25 (by decide) (by decide) (by decide) (by decide) (by decide) (by decide) (by decide), fK 26 (by decide) (by decide) (by decide) (by decide) (by decide) (by decide) (by decide), fK 27 (by decide) (by decide) (by decide) (by decide) (by decide) (by decide) (by decide), fK 28 (by decide) (by decide) (by decide) (by decide) (by decide) (by decide) (by decide), fK 29 (by decide) (by decide) (by decide) (by decide) (by decide) (by decide) (by decide), fK 30 (by decide) (by decide) (by decide) (by decide) (by decide) (by decide) (by decide), fK 31 (by decide) (by decide) (by decide) (by decide) (by decide) (by decide) (by decide), fK 32 (by decide) (by decide) (by decide) (by decide) (by decide) (by decide) (by decide)]
    rw [vK 240 (by omega) (by omega) (by omega) (by omega) (by omega), vK 241 (by omega) (by omega) (by omega) (by omega) (by omega), vK 246 (by omega) (by omega) (by omega) (by omega) (by omega), vK 249 (by omega) (by omega) (by omega) (by omega) (by omega), vK 242 (by omega) (by omega) (by omega) (by omega) (by omega), vK 243 (by omega) (by omega) (by omega) (by omega) (by omega), vK 244 (by omega) (by omega) (by omega) (by omega) (by omega), vK 245 (by omega) (by omega) (by omega) (by omega) (by omega), vK 247 (by omega) (by omega) (by omega) (by omega) (by omega), vK 248 (by omega) (by omega) (by omega) (by omega) (by omega), vK 250 (by omega) (by omega) (by omega) (by omega) (by omega), vK 251 (by omega) (by omega) (by omega) (by omega) (by omega)]
    rw [ul2_s, ul2_n _ _ (by decide), ul2_n _ _ (by decide), ul2_n _ _ (by decide)]
    refine ⟨x1.keep 12 (hno 1 (by decide) (by decide) (by decide) (by decide) (by decide) (by decide) (by decide)), x2.keep 12 (hno 2 (by decide) (by decide) (by decide) (by decide) (by decide) (by decide) (by decide)), x3.keep 12 (hno 3 (by decide) (by decide) (by decide) (by decide) (by decide) (by decide) (by decide)), ?_, x5, x6, x7, x8, x9, ?_⟩
    · rw [up2_s, v252]
      exact hC1
    · intro b hb
      rw [g33 b, g34 b, g35 b, g36 b, g37 b, u253 b, u254 b, u255 b]
      by_cases e : b = cnt (N' 227) 4 p
      · subst e
        refine ⟨k0, k1, v, hk0, hk1, fun z => hneq (by rw [ek0, ek1, z]), b1, b2, ?_, ?_, ?_, ?_, ?_, ?_, ?_, ?_, ?_⟩
        · rw [if_pos rfl]; exact ek0
        · show (st2 (st2 V2 (310 + cnt (N' 227) 4 p) 0 τ9) (310 + cnt (N' 227) 4 p) 1 τ11) (310 + cnt (N' 227) 4 p) 0 = nI k0
          rw [w0]; exact ek0
        · rw [if_pos rfl]; exact ek1
        · show (st2 (st2 V2 (310 + cnt (N' 227) 4 p) 0 τ9) (310 + cnt (N' 227) 4 p) 1 τ11) (310 + cnt (N' 227) 4 p) 1 = nI k1
          rw [w1]; exact ek1
        · rw [if_pos rfl]; exact ev
        · rw [if_pos rfl]; exact ev
        · rw [if_pos rfl, if_pos rfl]; exact hk5.1.symm
        · rw [if_pos rfl, hk5.1]; exact hk5.2
        · rw [if_pos rfl, if_pos rfl]
      · obtain ⟨j0, j1, w, q1, q2, q3, q4, q5, q6, q7, q8, q9, q10, q11, q12, q13, q14⟩ := x10 b (by omega)
        have eb : (st2 (st2 V2 (310 + cnt (N' 227) 4 p) 0 τ9) (310 + cnt (N' 227) 4 p) 1 τ11) (310 + b) = V (310 + b) := vK _ (by omega) (by omega) (by omega) (by omega) (by omega)
        refine ⟨j0, j1, w, q1, q2, q3, q4, q5, ?_, ?_, ?_, ?_, ?_, ?_, ?_, ?_, ?_⟩
        · rw [if_neg e]; exact q6
        · show (st2 (st2 V2 (310 + cnt (N' 227) 4 p) 0 τ9) (310 + cnt (N' 227) 4 p) 1 τ11) (310 + b) 0 = nI j0
          rw [eb]; exact q7
        · rw [if_neg e]; exact q8
        · show (st2 (st2 V2 (310 + cnt (N' 227) 4 p) 0 τ9) (310 + cnt (N' 227) 4 p) 1 τ11) (310 + b) 1 = nI j1
          rw [eb]; exact q9
        · rw [if_neg e]; exact q10
        · rw [if_neg e]; exact q11
        · rw [if_neg e, if_neg e]; exact q12
        · rw [if_neg e]; exact q13
        · rw [if_neg e, if_neg e]; exact q14
  refine Or.inl ⟨_, _, N', mk (up2 (st2 (st2 (st2 (st2 (st2 (cT (p + 12) F) 33 (cnt (N' 227) 4 p) (val (p + 3)).toInt32) 34 (cnt (N' 227) 4 p) (val (p + 5)).toInt32) 35 (cnt (N' 227) 4 p) (val (p + 7)).toInt32) 36 (cnt (N' 227) 4 p) τ9) 37 (cnt (N' 227) 4 p) τ11) 24 (fun _ => nI (cnt (N' 227) 4 p + 1))) (ul2 L 64 (vp_updL (L 64) (cnt (N' 227) 4 p) (val (p + 1)))) f66 (fK 74 (by decide) (by decide) (by decide) (by decide) (by decide) (by decide) (by decide)) (fK 45 (by decide) (by decide) (by decide) (by decide) (by decide) (by decide) (by decide)) (ul2_n _ _ (by decide)) (Or.inr ⟨_, np, S12, ?_, hPX, ?_⟩), fun k hk => fK k (by omega) (by omega) (by omega) (by omega) (by omega) (by omega) (by omega), fun k hk => ul2_n _ _ (by omega), hL.2.2, fun K hk => cb K (cT (p + 12) F) (by rw [hN, hN3, hN7, hN9, hN11]) (fun z => absurd hF0 z) (fun _ => hF' _ hk), k8⟩
  · rw [fK 67 (by decide) (by decide) (by decide) (by decide) (by decide) (by decide) (by decide)]
    exact hF67
  · exact hO.keep (fun q hq hn => (h6.2.2 q hq hn).2) hr (fun k hk => fK k (by omega) (by omega) (by omega) (by omega) (by omega) (by omega) (by omega)) ⟨vK 257 (by omega) (by omega) (by omega) (by omega) (by omega), vK 259 (by omega) (by omega) (by omega) (by omega) (by omega), vK 260 (by omega) (by omega) (by omega) (by omega) (by omega)⟩ ⟨rfl, rfl⟩
end PLAIN
