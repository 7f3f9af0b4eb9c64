/-! ===== the lines of bores, shafts, leggers, boats ===== -/
section PLAIN
variable {κ : Nat → Int32} {m : Nat} {val : Nat → Int64} {N0 : M2} {V0 : M2}
def NUMV (κ : Nat → Int32) (m : Nat) (val : Nat → Int64) : Prop := ∀ i, i ≤ m → κ i = 41 → ∃ v, v ≤ 999999 ∧ (val i).toInt32 = nI v
theorem rng_nat {x : Int32} {v lo hi : Nat} (hx : x = nI v) (hv : v ≤ 999999) (hl : lo < 1000000) (hh : hi < 1000000) (h : nI lo ≤ x ∧ x ≤ nI hi) : lo ≤ v ∧ v ≤ hi := by
  rw [hx, le_nI (by omega) (by omega), le_nI (by omega) (by omega)] at h
  exact h
theorem lastI_nI {V : M2} {k c : Nat} (h : V k 0 = nI (c + 1)) (hc : c < 1000) : lastI V k = c := by
  unfold lastI
  rw [h, nI_pred, tn_nI (by omega)]
theorem ul2_s (L : L2) (k : Nat) (g : Nat → Int64) : ul2 L k g k = g := by simp [ul2]
theorem ul2_n (L : L2) {k j : Nat} (g : Nat → Int64) (h : j ≠ k) : ul2 L k g j = L j := by simp [ul2, h]
def OUT (κ : Nat → Int32) (m : Nat) (val : Nat → Int64) (N0 V0 : M2) (w2 : W2) (w8 : W8) (q : Nat) (its : List IT) (nr : Nat) (F : M2) (L : L2) (N P : M2) : Prop :=
  (∃ (F' : M2) (L' : L2) (N' : M2), BND κ m val N0 V0 F' L' N' P q its nr ∧ (∀ k, 68 < k → F' k = F k) ∧ (∀ k, (k < 61 ∨ 64 < k) → L' k = L k) ∧ (∀ k, (k ≤ 226 ∨ 230 < k) → N' k = N k) ∧ (∀ K, K 1 F' L' → w2 F L K) ∧ (∀ K, K 1 N' P → w8 N P K)) ∨ FAIL m w2 w8 F L N P
set_option maxHeartbeats 4000000 in
theorem ln_bore (hK : KIN κ m) (hNV : NUMV κ m val) (hSid : SID κ m val) {F : M2} {L : L2} {N P : M2} {p nr : Nat} {its : List IT} (hB : BND κ m val N0 V0 F L N P p its nr) (h0 : ck (κ p) = 34) : OUT κ m val N0 V0 (fun F L K => wp_X2_boreLine F L (nI p) K) (fun N P K => wp_X8_isBoreLine N P K) (p + 6) its nr F L N P := by
  have hm := hK.1
  obtain ⟨h1, h2, h3, h4, h5, h6, h7, h8⟩ := hB
  rcases sy_BORE_LINE hK h1 h2 h0 with ⟨N', hM, hpn, hL, k8, k2⟩ | ⟨p', F', N', P', hp', fc, fn, k2, k8⟩
  rotate_left
  · exact Or.inr ⟨p', F', N', P', hp', fc, fn, fun K hk => k2 _ (And.intro (fun z => absurd rfl z) (fun _ => hk)), k8⟩
  have h6n := h1.adv (q := p + 6) hpn
  have eF : ∀ k, k ≠ 66 → cT (p + 6) F k = F k := fun k hk => up2_n _ _ hk
  have e227 : N' 227 = upd (upd (upd (N 227) (p + 1) 1) (p + 1 + 1 + 1) 7) (p + 1 + 1 + 1 + 1 + 1) 8 := hL.2.1
  have hr : ∀ k, k < p → N 227 k = N' 227 k := fun k hk => by
    rw [e227, upd_n _ _ (by omega), upd_n _ _ (by omega), upd_n _ _ (by omega)]
  have r0 : N' 227 (p + 0) = 0 := by
    rw [e227, upd_n _ _ (by omega), upd_n _ _ (by omega), upd_n _ _ (by omega)]
    exact h3 _ (by omega) (by omega)
  have r1 : N' 227 (p + 1) = 1 := by
    rw [e227, upd_n _ _ (by omega), upd_n _ _ (by omega), show p + 1 = p + 1 by omega, upd_s]
  have r2 : N' 227 (p + 2) = 0 := by
    rw [e227, upd_n _ _ (by omega), upd_n _ _ (by omega), upd_n _ _ (by omega)]
    exact h3 _ (by omega) (by omega)
  have r3 : N' 227 (p + 3) = 7 := by
    rw [e227, upd_n _ _ (by omega), show p + 3 = p + 1 + 1 + 1 by omega, upd_s]
  have r4 : N' 227 (p + 4) = 0 := by
    rw [e227, upd_n _ _ (by omega), upd_n _ _ (by omega), upd_n _ _ (by omega)]
    exact h3 _ (by omega) (by omega)
  have r5 : N' 227 (p + 5) = 8 := by
    rw [e227, show p + 5 = p + 1 + 1 + 1 + 1 + 1 by omega, upd_s]
  have hROK : ROK m N' (p + 6) := fun k hk hk2 => by
    rw [e227, upd_n _ _ (by omega), upd_n _ _ (by omega), upd_n _ _ (by omega)]
    exact h3 k (by omega) hk2
  have rr : ∀ i, p ≤ i → i < p + 6 → (i = p + 0 ∧ N' 227 i = 0) ∨ (i = p + 1 ∧ N' 227 i = 1) ∨ (i = p + 2 ∧ N' 227 i = 0) ∨ (i = p + 3 ∧ N' 227 i = 7) ∨ (i = p + 4 ∧ N' 227 i = 0) ∨ (i = p + 5 ∧ N' 227 i = 8) := fun i h1 h2 => by
    have : i = p + 0 ∨ i = p + 1 ∨ i = p + 2 ∨ i = p + 3 ∨ i = p + 4 ∨ i = p + 5 := by omega
    rcases this with q | q | q | q | q | q
    · exact Or.inl ⟨q, q ▸ r0⟩
    · exact Or.inr (Or.inl ⟨q, q ▸ r1⟩)
    · exact Or.inr (Or.inr (Or.inl ⟨q, q ▸ r2⟩))
    · exact Or.inr (Or.inr (Or.inr (Or.inl ⟨q, q ▸ r3⟩)))
    · exact Or.inr (Or.inr (Or.inr (Or.inr (Or.inl ⟨q, q ▸ r4⟩))))
    · exact Or.inr (Or.inr (Or.inr (Or.inr (Or.inr (⟨q, q ▸ r5⟩)))))
  have mk : ∀ (F' : M2) (L' : L2), F' 66 = cT (p + 6) F 66 → F' 74 = F 74 → F' 45 = F 45 → L' 76 = L 76 → ((∃ e k, k < p + 6 ∧ SER κ val V0 (N' 227) (p + 6) e k ∧ CER F' e k) ∨ (∃ V np, SOK κ val V0 (N' 227) (p + 6) V ∧ F' 67 0 = 0 ∧ PXN val (N' 227) (p + 6) np F' L' V ∧ ORX val (N' 227) F' V P its nr)) → BND κ m val N0 V0 F' L' N' P (p + 6) its nr := fun F' L' g66 g74 g45 g76 g =>
    ⟨h6n.rows g66 (by rw [g74, eF 74 (by decide)]) g76, hL.1, hROK, ⟨by rw [g45]; exact h4.1, by omega⟩, h5, h6.cong hr (by omega), ⟨h7.1, by omega⟩, g⟩
  have nf : ∀ k, k ≠ 67 → k ≠ 68 → ∀ x lo hi x' lo' hi' τ told, rgC x lo hi (p + 5) (rgC x' lo' hi' (p + 3) (nwC τ told 5 (p + 1) (cT (p + 6) F))) k = cT (p + 6) F k := fun k ha hb x lo hi x' lo' hi' τ told => by rw [rgC_n ha hb, rgC_n ha hb, nwC_n ha hb]
  -- the class, whatever comes out
  have cb : ∀ (K : Int32 → M2 → L2 → Prop) (F7 : M2), F7 = rgC (val (p + 5)).toInt32 0 9 (p + 5) (rgC (val (p + 3)).toInt32 1 12 (p + 3) (nwC (idx (L 61) (F 20 0) 5 (val (p + 1))) (F 20 0) 5 (p + 1) (cT (p + 6) F))) → (¬ F7 67 0 = 0 → K 1 F7 L) → (F7 67 0 = 0 → wp_X1_addBore F7 (ul2 L 61 (putl (L 61) 5 (F7 20 0) (val (p + 1)))) (val (p + 3)).toInt32 (val (p + 5)).toInt32 (fun F L => K 1 F L)) → wp_X2_boreLine F L (nI p) K := fun K F7 e7 hne heq => by
    refine k2 _ (And.intro (fun _ => ?_) (fun z => absurd z (by decide)))
    have a1 : nI p + 1 = nI (p + 1) := nI_1 p
    have a3 : nI p + 3 = nI (p + 3) := nI_add p 3
    have a5 : nI p + 5 = nI (p + 5) := nI_add p 5
    rw [a1, a3, a5, eF 20 (by decide)]
    refine c_new_nB h6n hK (by omega) ?_
    have s1 : SC κ m val (nwC (idx (L 61) (F 20 0) 5 (val (p + 1))) (F 20 0) 5 (p + 1) (cT (p + 6) F)) L (p + 6) := h6n.rows (nwC_n (by decide) (by decide)) (nwC_n (by decide) (by decide)) rfl
    refine c_range s1 hK (by omega) ?_
    have s2 : SC κ m val (rgC (val (p + 3)).toInt32 1 12 (p + 3) (nwC (idx (L 61) (F 20 0) 5 (val (p + 1))) (F 20 0) 5 (p + 1) (cT (p + 6) F))) L (p + 6) := s1.rows (rgC_n (by decide) (by decide)) (rgC_n (by decide) (by decide)) rfl
    refine c_range s2 hK (by omega) ?_
    rw [← e7]
    refine And.intro (fun c => hne c) (fun c L1 el => ?_)
    rw [h1.vl hK (by omega)] at el
    subst el
    unfold wp_X2_number
    have e76 : ul2 L 61 (putl (L 61) 5 (F7 20 0) (val (p + 1))) 76 = L 76 := ul2_n _ _ (by decide)
    rw [e76, h1.vl hK (by omega), h1.vl hK (by omega)]
    exact heq c
  have fin : ∀ (F7 : M2), F7 = rgC (val (p + 5)).toInt32 0 9 (p + 5) (rgC (val (p + 3)).toInt32 1 12 (p + 3) (nwC (idx (L 61) (F 20 0) 5 (val (p + 1))) (F 20 0) 5 (p + 1) (cT (p + 6) F))) → ∀ e k, k < p + 6 → SER κ val V0 (N' 227) (p + 6) e k → CER F7 e k → OUT κ m val N0 V0 (fun F L K => wp_X2_boreLine F L (nI p) K) (fun N P K => wp_X8_isBoreLine N P K) (p + 6) its nr F L N P := fun F7 e7 e k hk hS hC => by
    refine Or.inl ⟨F7, L, N', mk F7 L ?_ ?_ ?_ rfl (Or.inl ⟨e, k, hk, hS, hC⟩), fun k hk => ?_, fun _ _ => rfl, hL.2.2, fun K hk => cb K F7 e7 (fun _ => hk) (fun z => absurd (hC.1.symm.trans z) hC.2.1), k8⟩
    · rw [e7, nf 66 (by decide) (by decide)]
    · rw [e7, nf 74 (by decide) (by decide), eF 74 (by decide)]
    · rw [e7, nf 45 (by decide) (by decide), eF 45 (by decide)]
    · rw [e7, nf k (by omega) (by omega), eF k (by omega)]
  rcases h8 with ⟨e, k, hk, hS, hC⟩ | ⟨V, np, hS, hF67, hP, hO⟩
  · have hC0 : CER (cT (p + 6) F) e k := by
      unfold CER
      rw [eF 67 (by decide), eF 68 (by decide)]
      exact hC
    refine fin _ rfl e k (by omega) ((hS.cong hr).add 6) ?_
    rw [nwC_off hC0, rgC_off hC0, rgC_off hC0]
    exact hC0
  have hP := hP.cong hr
  have hF0 : cT (p + 6) F 67 0 = 0 := by rw [eF 67 (by decide)]; exact hF67
  obtain ⟨x1, x2, x3, x4, x5, x6, x7, x8, x9, x10⟩ := hP
  have S1 : SOK κ val V0 (N' 227) (p + 1) V := (hS.cong hr).step0 r0
  have hcn := x1
  obtain ⟨y1, y2, y3, y4⟩ := hcn
  have ht : idx (L 61) (F 20 0) 5 (val (p + 1)) = tld val (N' 227) 1 (p + 1) (p + 1) := by
    rw [y1, idx_tld y4 y3 (by decide)]
    refine (tld_at (d := 1) (fun i h1 h2 z => ?_) (p + 1)).symm
    have : i = p + 0 := by omega
    rw [this, r0] at z
    exact absurd z (by decide)
  rw [ht, y1] at fin cb
  rcases chk_new (as := 0) (F := cT (p + 6) F) S1 (erF_1 r1) hF0 y2 (rfl : (5 : Int32) = nI 5) y3 (by decide) with ⟨e, hE, hC⟩ | ⟨ht1, hlt, S2, hN⟩
  · refine fin _ rfl e (p + 1) (by omega) (hE.add 4) ?_
    rw [rgC_off hC, rgC_off hC]
    exact hC
  have S3 := S2.step0 r2
  have hlt5 : cnt (N' 227) 1 p < 5 := by omega
  have e240 : (up2 V 240 (fun _ => nI (cnt (N' 227) 1 p + 1))) 240 0 = nI (cnt (N' 227) 1 p + 1) := by rw [up2_s]
  have eV : ∀ k, k ≠ 240 → (up2 V 240 (fun _ => nI (cnt (N' 227) 1 p + 1))) k = V k := fun k hk => up2_n _ _ hk
  generalize hV1 : up2 V 240 (fun _ => nI (cnt (N' 227) 1 p + 1)) = V1 at *
  rcases chk_rng (F := cT (p + 6) F) S3 (erF_7 r3) hF0 with ⟨e, hE, hC⟩ | ⟨hrg, S4, hN3⟩
  · refine fin _ rfl e (p + 3) (by omega) (hE.add 2) ?_
    rw [hN, rgC_off hC]
    exact hC
  have hrE : rngE (val (p + 3)).toInt32 1 12 = 0 := if_pos hrg
  rw [hrE, if_pos rfl] at S4
  have S5 := S4.step0 r4
  rcases chk_rng (F := cT (p + 6) F) S5 (erF_8 r5) hF0 with ⟨e, hE, hC⟩ | ⟨hrg5, S6, hN5⟩
  · refine fin _ rfl e (p + 5) (by omega) hE ?_
    rw [hN, hN3]
    exact hC
  have hk3 : κ (p + 3) = 41 := (ck_4 (hK.2.1 _ (by omega))).mp (hM 3 (by decide))
  obtain ⟨v, hv, ev⟩ := hNV (p + 3) (by omega) hk3
  obtain ⟨b1, b2⟩ := rng_nat (lo := 1) (hi := 12) ev hv (by decide) (by decide) hrg
  have hli : lastI V1 240 = cnt (N' 227) 1 p := lastI_nI e240 (by omega)
  obtain ⟨z1, z2, z3⟩ := x5
  have hnp60 : np + v ≤ 60 := by omega
  have e241 : V1 241 0 = nI np := by rw [eV 241 (by decide)]; exact z2
  -- the plan of the second pass
  have hdug : dugF V1 (val (p + 3)).toInt32 = dgG 245 241 (nI (cnt (N' 227) 1 p)) v (st2 (st2 V1 242 (cnt (N' 227) 1 p) (nI v)) 244 (cnt (N' 227) 1 p) (nI np)) := by
    unfold dugF
    rw [digF_dg, hli, e240, nI_pred, ev, tn_nI (by omega), e241]
  rw [hdug] at S6
  obtain ⟨w1, w2, w3⟩ := dgG_spec (ka := 245) (kc := 241) (by decide) (k := nI (cnt (N' 227) 1 p)) v (st2 (st2 V1 242 (cnt (N' 227) 1 p) (nI v)) 244 (cnt (N' 227) 1 p) (nI np)) np (by rw [st2_n _ _ _ (by decide), st2_n _ _ _ (by decide)]; exact e241) (by omega)
  generalize hV2 : dgG 245 241 (nI (cnt (N' 227) 1 p)) v (st2 (st2 V1 242 (cnt (N' 227) 1 p) (nI v)) 244 (cnt (N' 227) 1 p) (nI np)) = V2 at *
  have hli2 : lastI V2 240 = cnt (N' 227) 1 p := by
    refine lastI_nI ?_ (by omega)
    rw [w3 240 (by decide) (by decide), st2_n _ _ _ (by decide), st2_n _ _ _ (by decide)]
    exact e240
  rw [hli2] at S6
  -- the plan of the class
  obtain ⟨u1, u2, u3⟩ := dgG_spec (ka := 28) (kc := 21) (by decide) (k := nI (cnt (N' 227) 1 p)) v (st2 (st2 (st2 (cT (p + 6) F) 25 (cnt (N' 227) 1 p) (val (p + 3)).toInt32) 26 (cnt (N' 227) 1 p) (val (p + 5)).toInt32) 27 (cnt (N' 227) 1 p) (nI np)) np (by rw [st2_n _ _ _ (by decide), st2_n _ _ _ (by decide), st2_n _ _ _ (by decide), eF 21 (by decide)]; exact z1) (by omega)
  have hF' : ∀ K : M2 → L2 → Prop, K (up2 (dgG 28 21 (nI (cnt (N' 227) 1 p)) v (st2 (st2 (st2 (cT (p + 6) F) 25 (cnt (N' 227) 1 p) (val (p + 3)).toInt32) 26 (cnt (N' 227) 1 p) (val (p + 5)).toInt32) 27 (cnt (N' 227) 1 p) (nI np))) 20 (fun _ => nI (cnt (N' 227) 1 p + 1))) (ul2 L 61 (vp_updL (L 61) (cnt (N' 227) 1 p) (val (p + 1)))) → wp_X1_addBore (cT (p + 6) F) (ul2 L 61 (putl (L 61) 5 (cT (p + 6) F 20 0) (val (p + 1)))) (val (p + 3)).toInt32 (val (p + 5)).toInt32 K := fun K hk => by
    have e20 : cT (p + 6) F 20 0 = nI (cnt (N' 227) 1 p) := by rw [eF 20 (by decide)]; exact y1
    rw [e20, putl_nI hlt (by decide)]
    exact c_addBore hlt (by omega) e20 (by rw [eF 21 (by decide)]; exact z1) ev hk
  generalize hG : dgG 28 21 (nI (cnt (N' 227) 1 p)) v (st2 (st2 (st2 (cT (p + 6) F) 25 (cnt (N' 227) 1 p) (val (p + 3)).toInt32) 26 (cnt (N' 227) 1 p) (val (p + 5)).toInt32) 27 (cnt (N' 227) 1 p) (nI np)) = G at *
  have fK : ∀ k, k ≠ 20 → k ≠ 21 → k ≠ 25 → k ≠ 26 → k ≠ 27 → k ≠ 28 → k ≠ 66 → up2 G 20 (fun _ => nI (cnt (N' 227) 1 p + 1)) k = F k := fun k a1 a2 a3 a4 a5 a6 a7 => by
    rw [up2_n _ _ a1, u3 k a6 a2, st2_n _ _ _ a5, st2_n _ _ _ a4, st2_n _ _ _ a3, eF k a7]
  have f66 : up2 G 20 (fun _ => nI (cnt (N' 227) 1 p + 1)) 66 = cT (p + 6) F 66 := by
    rw [up2_n _ _ (by decide), u3 66 (by decide) (by decide), st2_n _ _ _ (by decide), st2_n _ _ _ (by decide), st2_n _ _ _ (by decide)]
  have vK : ∀ k, k ≠ 240 → k ≠ 241 → k ≠ 242 → k ≠ 243 → k ≠ 244 → k ≠ 245 → st2 V2 243 (cnt (N' 227) 1 p) (val (p + 5)).toInt32 k = V k := fun k a1 a2 a3 a4 a5 a6 => by
    rw [st2_n _ _ _ a4, w3 k a6 a2, st2_n _ _ _ a5, st2_n _ _ _ a3, eV k a1]
  have hno : ∀ as : Int32, as ≠ 1 → as ≠ 0 → as ≠ 7 → as ≠ 8 → ∀ i, p ≤ i → i < p + 6 → ¬ N' 227 i = as := fun as a1 a0 a7 a8 i hi1 hi2 z => by
    rcases rr i hi1 hi2 with q | q | q | q | q | q <;> rw [q.2] at z <;> first | exact a0 z.symm | exact a1 z.symm | exact a7 z.symm | exact a8 z.symm
  have hC1 := x1.add (t := p + 1) (d := 6) ⟨by omega, by omega⟩ r1 (fun i hi1 hi2 hne z => by
    rcases rr i hi1 hi2 with q | q | q | q | q | q
    · rw [q.2] at z; exact absurd z (by decide)
    · exact hne q.1
    · rw [q.2] at z; exact absurd z (by decide)
    · rw [q.2] at z; exact absurd z (by decide)
    · rw [q.2] at z; exact absurd z (by decide)
    · rw [q.2] at z; exact absurd z (by decide)) hlt
  have c1 : cnt (N' 227) 1 (p + 6) = cnt (N' 227) 1 p + 1 := nI_inj (by have := hC1.2.2.1; omega) (by omega) hC1.1.symm
  have c2 := cnt_more (ρ := N' 227) (as := 2) (p := p) 6 (hno 2 (by decide) (by decide) (by decide) (by decide))
  have c3 := cnt_more (ρ := N' 227) (as := 3) (p := p) 6 (hno 3 (by decide) (by decide) (by decide) (by decide))
  have c4 := cnt_more (ρ := N' 227) (as := 4) (p := p) 6 (hno 4 (by decide) (by decide) (by decide) (by decide))
  have v240 : st2 V2 243 (cnt (N' 227) 1 p) (val (p + 5)).toInt32 240 0 = nI (cnt (N' 227) 1 p + 1) := by
    rw [st2_n _ _ _ (by decide), w3 240 (by decide) (by decide), st2_n _ _ _ (by decide), st2_n _ _ _ (by decide)]
    exact e240
  have hPX : PXN val (N' 227) (p + 6) (np + v) (up2 G 20 (fun _ => nI (cnt (N' 227) 1 p + 1))) (ul2 L 61 (vp_updL (L 61) (cnt (N' 227) 1 p) (val (p + 1)))) (st2 V2 243 (cnt (N' 227) 1 p) (val (p + 5)).toInt32) := by
    unfold PXN
    rw [c1, c2, c3, c4]
    rw [fK 22 (by decide) (by decide) (by decide) (by decide) (by decide) (by decide) (by decide), fK 23 (by decide) (by decide) (by decide) (by decide) (by decide) (by decide) (by decide), fK 24 (by decide) (by decide) (by decide) (by decide) (by decide) (by decide) (by decide), fK 29 (by decide) (by decide) (by decide) (by decide) (by decide) (by decide) (by decide), fK 30 (by decide) (by decide) (by decide) (by decide) (by decide) (by decide) (by decide), fK 31 (by decide) (by decide) (by decide) (by decide) (by decide) (by decide) (by decide), fK 32 (by decide) (by decide) (by decide) (by decide) (by decide) (by decide) (by decide), fK 33 (by decide) (by decide) (by decide) (by decide) (by decide) (by decide) (by decide), fK 34 (by decide) (by decide) (by decide) (by decide) (by decide) (by decide) (by decide), fK 35 (by decide) (by decide) (by decide) (by decide) (by decide) (by decide) (by decide), fK 36 (by decide) (by decide) (by decide) (by decide) (by decide) (by decide) (by decide), fK 37 (by decide) (by decide) (by decide) (by decide) (by decide) (by decide) (by decide)]
    rw [vK 246 (by decide) (by decide) (by decide) (by decide) (by decide) (by decide), vK 249 (by decide) (by decide) (by decide) (by decide) (by decide) (by decide), vK 252 (by decide) (by decide) (by decide) (by decide) (by decide) (by decide), vK 247 (by decide) (by decide) (by decide) (by decide) (by decide) (by decide), vK 248 (by decide) (by decide) (by decide) (by decide) (by decide) (by decide), vK 250 (by decide) (by decide) (by decide) (by decide) (by decide) (by decide), vK 251 (by decide) (by decide) (by decide) (by decide) (by decide) (by decide), vK 253 (by decide) (by decide) (by decide) (by decide) (by decide) (by decide), vK 254 (by decide) (by decide) (by decide) (by decide) (by decide) (by decide), vK 255 (by decide) (by decide) (by decide) (by decide) (by decide) (by decide)]
    have ecr : (fun b => st2 V2 243 (cnt (N' 227) 1 p) (val (p + 5)).toInt32 (310 + b)) = fun b => V (310 + b) := funext (fun b => vK _ (by omega) (by omega) (by omega) (by omega) (by omega) (by omega))
    rw [ecr, ul2_s, ul2_n _ _ (by decide), ul2_n _ _ (by decide), ul2_n _ _ (by decide)]
    refine ⟨?_, x2.keep 6 (hno 2 (by decide) (by decide) (by decide) (by decide)), x3.keep 6 (hno 3 (by decide) (by decide) (by decide) (by decide)), x4.keep 6 (hno 4 (by decide) (by decide) (by decide) (by decide)), ⟨?_, ?_, by omega⟩, ?_, ?_, ?_, x9, x10⟩
    · rw [up2_s, v240]
      exact hC1
    · rw [up2_n _ _ (by decide), u1]
    · rw [st2_n _ _ _ (by decide), w1]
    · intro k hk
      have g25 : up2 G 20 (fun _ => nI (cnt (N' 227) 1 p + 1)) 25 k = if k = cnt (N' 227) 1 p then (val (p + 3)).toInt32 else F 25 k := by
        rw [up2_n _ _ (by decide), u3 25 (by decide) (by decide), st2_n _ _ _ (by decide), st2_n _ _ _ (by decide), st2_k, eF 25 (by decide)]
      have g26 : up2 G 20 (fun _ => nI (cnt (N' 227) 1 p + 1)) 26 k = if k = cnt (N' 227) 1 p then (val (p + 5)).toInt32 else F 26 k := by
        rw [up2_n _ _ (by decide), u3 26 (by decide) (by decide), st2_n _ _ _ (by decide), st2_k, st2_n _ _ _ (by decide), eF 26 (by decide)]
      have g27 : up2 G 20 (fun _ => nI (cnt (N' 227) 1 p + 1)) 27 k = if k = cnt (N' 227) 1 p then nI np else F 27 k := by
        rw [up2_n _ _ (by decide), u3 27 (by decide) (by decide), st2_k, st2_n _ _ _ (by decide), st2_n _ _ _ (by decide), eF 27 (by decide)]
      have g242 : st2 V2 243 (cnt (N' 227) 1 p) (val (p + 5)).toInt32 242 k = if k = cnt (N' 227) 1 p then nI v else V 242 k := by
        rw [st2_n _ _ _ (by decide), w3 242 (by decide) (by decide), st2_n _ _ _ (by decide), st2_k, eV 242 (by decide)]
      have g243 : st2 V2 243 (cnt (N' 227) 1 p) (val (p + 5)).toInt32 243 k = if k = cnt (N' 227) 1 p then (val (p + 5)).toInt32 else V 243 k := by
        rw [st2_k, w3 243 (by decide) (by decide), st2_n _ _ _ (by decide), st2_n _ _ _ (by decide), eV 243 (by decide)]
      have g244 : st2 V2 243 (cnt (N' 227) 1 p) (val (p + 5)).toInt32 244 k = if k = cnt (N' 227) 1 p then nI np else V 244 k := by
        rw [st2_n _ _ _ (by decide), w3 244 (by decide) (by decide), st2_k, st2_n _ _ _ (by decide), eV 244 (by decide)]
      rw [g25, g26, g27, g242, g243, g244]
      by_cases e : k = cnt (N' 227) 1 p
      · exact ⟨v, np, b1, b2, Nat.le_refl _, by rw [if_pos e, ev], by rw [if_pos e], by rw [if_pos e], by rw [if_pos e], by rw [if_pos e, if_pos e]⟩
      · obtain ⟨x, f, g1, g2, g3, g4, g5, g6, g7, g8⟩ := x6 k (by omega)
        exact ⟨x, f, g1, g2, by omega, by rw [if_neg e]; exact g4, by rw [if_neg e]; exact g5, by rw [if_neg e]; exact g6, by rw [if_neg e]; exact g7, by rw [if_neg e, if_neg e]; exact g8⟩
    · intro q hq
      rw [up2_n _ _ (by decide), st2_n _ _ _ (by decide), u2 q, w2 q]
      by_cases e : np ≤ q ∧ q < np + v
      · exact ⟨cnt (N' 227) 1 p, by omega, by rw [if_pos e], by rw [if_pos e]⟩
      · obtain ⟨k, g1, g2, g3⟩ := x7 q (by omega)
        refine ⟨k, by omega, ?_, ?_⟩
        · rw [if_neg e, st2_n _ _ _ (by decide), st2_n _ _ _ (by decide), st2_n _ _ _ (by decide), eF 28 (by decide)]; exact g2
        · rw [if_neg e, st2_n _ _ _ (by decide), st2_n _ _ _ (by decide), eV 245 (by decide)]; exact g3
    · intro s hs
      obtain ⟨a, d, g1, g2⟩ := x8 s hs
      exact ⟨a, d, by omega, g2⟩
  refine Or.inl ⟨_, _, N', mk (up2 G 20 (fun _ => nI (cnt (N' 227) 1 p + 1))) (ul2 L 61 (vp_updL (L 61) (cnt (N' 227) 1 p) (val (p + 1)))) f66 (fK 74 (by decide) (by decide) (by decide) (by decide) (by decide) (by decide) (by decide)) (fK 45 (by decide) (by decide) (by decide) (by decide) (by decide) (by decide) (by decide)) (ul2_n _ _ (by decide)) (Or.inr ⟨_, np + v, S6, ?_, hPX, ?_⟩), fun k hk => fK k (by omega) (by omega) (by omega) (by omega) (by omega) (by omega) (by omega), fun k hk => ul2_n _ _ (by omega), hL.2.2, fun K hk => cb K (cT (p + 6) F) (by rw [hN, hN3, hN5]) (fun z => absurd hF0 z) (fun _ => hF' _ hk), k8⟩
  · rw [fK 67 (by decide) (by decide) (by decide) (by decide) (by decide) (by decide) (by decide)]
    exact hF67
  · exact hO.keep (fun q hq hn => (h6.2.2 q hq hn).2) hr (fun k hk => fK k (by omega) (by omega) (by omega) (by omega) (by omega) (by omega) (by omega)) ⟨vK 257 (by decide) (by decide) (by decide) (by decide) (by decide) (by decide), vK 259 (by decide) (by decide) (by decide) (by decide) (by decide) (by decide), vK 260 (by decide) (by decide) (by decide) (by decide) (by decide) (by decide)⟩ ⟨rfl, rfl⟩
end PLAIN
