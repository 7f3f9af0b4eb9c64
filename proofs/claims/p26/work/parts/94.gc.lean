/-! ===== the lines of the list, as the class reads them ===== -/
section LNC
variable {κ : Nat → Int32} {m : Nat} {val : Nat → Int64} {F : M2} {L : L2} {p : Nat} {K : Int32 → M2 → L2 → Prop}
theorem nw_ok {F : M2} {told x : Int32} {cap t : Nat} (h : told < nI cap) (hx : x = -1) : nwC x told cap t F = F := by
  unfold nwC
  rw [if_pos h, if_pos hx]
theorem rg_ok {F : M2} {x lo hi : Int32} {t : Nat} (h : lo ≤ x ∧ x ≤ hi) : rgC x lo hi t F = F := if_pos h
theorem nI_between {a b x : Nat} (h1 : a ≤ x) (h2 : x ≤ b) (hb : b < 1000) : nI a ≤ nI x ∧ nI x ≤ nI b := ⟨nI_le h1 (by omega), nI_le h2 (by omega)⟩
theorem cTn {F : M2} {p k : Nat} (h : k ≠ 66) : cT p F k = F k := up2_n _ _ h

theorem ln_bore {c x y np : Nat} (hK : KIN κ m) (hs : SC κ m val F L p) (hp : p + 6 < m) (h : TKD κ p [34, 2, 35, 4, 36, 4]) (h67 : F 67 0 = 0) (hc : c < 5) (hF : F 20 0 = nI c) (hN : F 21 0 = nI np) (hnp : np + x ≤ 60) (hx1 : 1 ≤ x) (hx2 : x ≤ 12) (hy : y ≤ 9) (v3 : (val (p + 3)).toInt32 = nI x) (v5 : (val (p + 5)).toInt32 = nI y) (hnew : idx (L 61) (F 20 0) 5 (val (p + 1)) = -1) (hk : K 1 (up2 (dgG 28 21 (nI c) x (st2 (st2 (st2 (cT (p + 6) F) 25 c (nI x)) 26 c (nI y)) 27 c (nI np))) 20 (fun _ => nI (c + 1))) (ul2 L 61 (vp_updL (L 61) c (val (p + 1))))) : wp_X2_line F L K := by
  have hm := hK.1
  have e66 : F 66 0 = nI p := by rw [hs.1]
  have k0 : ck (κ p) = 34 := h 0 (by decide)
  refine c_peek hs hK ?_
  rw [k0]
  refine ⟨fun _ => ?_, fun z => absurd z (by decide), fun z => absurd z (by decide), fun z => absurd z (by decide), fun z => absurd z (by decide), fun z => absurd z (by decide), fun z => absurd rfl z⟩
  rw [e66]
  have hs1 := hs.adv (q := p + 6) (by omega)
  have a1 : nI p + 1 = nI (p + 1) := nI_1 p
  have a3 : nI p + 3 = nI (p + 3) := nI_add p 3
  have a5 : nI p + 5 = nI (p + 5) := nI_add p 5
  refine c_all_BORE_LINE (n := 6) hK hs (by decide) (fun j hj => h j hj) (fun z => absurd z (by decide)) (by omega) ?_
  rw [if_pos rfl]
  refine And.intro (fun _ => ?_) (fun z => absurd z (by decide))
  rw [a1, a3, a5, cTn (by decide)]
  refine c_new_nB hs1 hK (by omega) ?_
  rw [nw_ok (by rw [hF]; exact nI_lt hc (by omega)) hnew]
  refine c_range hs1 hK (by omega) ?_
  rw [rg_ok (by rw [v3]; exact nI_between (a := 1) (b := 12) hx1 hx2 (by decide))]
  refine c_range hs1 hK (by omega) ?_
  rw [rg_ok (by rw [v5]; exact nI_between (a := 0) (b := 9) (Nat.zero_le _) hy (by decide))]
  refine And.intro (fun z => absurd ((cTn (F := F) (p := p + 6) (by decide : (67 : Nat) ≠ 66) ▸ h67 : cT (p + 6) F 67 0 = 0)) z) (fun _ L1 e1 => ?_)
  rw [cTn (by decide), hF, hs1.vl hK (by omega), putl_nI (by omega) (by decide)] at e1
  have e76 : L1 76 = L 76 := by rw [e1]; exact ul2_n _ _ (by decide)
  unfold wp_X2_number
  rw [e76, hs1.vl hK (by omega), hs1.vl hK (by omega), v3, v5]
  refine c_addBore (kb := c) (np := np) (n := x) hc hnp (by rw [cTn (by decide)]; exact hF) (by rw [cTn (by decide)]; exact hN) rfl ⟨by decide, ?_⟩
  rw [e1]
  exact hk
theorem ln_shaft {c x y np : Nat} (hK : KIN κ m) (hs : SC κ m val F L p) (hp : p + 6 < m) (h : TKD κ p [37, 2, 38, 4, 39, 4]) (h67 : F 67 0 = 0) (hc : c < 4) (hF : F 22 0 = nI c) (hN : F 21 0 = nI (np + 1)) (hnp : np < 60) (hx : x ≤ np) (hy1 : 1 ≤ y) (hy2 : y ≤ 30) (v3 : (val (p + 3)).toInt32 = nI x) (v5 : (val (p + 5)).toInt32 = nI y) (hnew : idx (L 62) (F 22 0) 4 (val (p + 1)) = -1) (hk : K 1 (up2 (st2 (st2 (cT (p + 6) F) 29 c (nI x)) 30 c (nI y)) 22 (fun _ => nI (c + 1))) (ul2 L 62 (vp_updL (L 62) c (val (p + 1))))) : wp_X2_line F L K := by
  have hm := hK.1
  have e66 : F 66 0 = nI p := by rw [hs.1]
  have k0 : ck (κ p) = 37 := h 0 (by decide)
  refine c_peek hs hK ?_
  rw [k0]
  refine ⟨fun z => absurd z (by decide), fun _ => ?_, fun z => absurd z (by decide), fun z => absurd z (by decide), fun z => absurd z (by decide), fun z => absurd z (by decide), fun _ z => absurd rfl z⟩
  rw [e66]
  have hs1 := hs.adv (q := p + 6) (by omega)
  have a1 : nI p + 1 = nI (p + 1) := nI_1 p
  have a3 : nI p + 3 = nI (p + 3) := nI_add p 3
  have a5 : nI p + 5 = nI (p + 5) := nI_add p 5
  refine c_all_SHAFT_LINE (n := 6) hK hs (by decide) (fun j hj => h j hj) (fun z => absurd z (by decide)) (by omega) ?_
  rw [if_pos rfl]
  refine And.intro (fun _ => ?_) (fun z => absurd z (by decide))
  rw [a1, a3, a5, cTn (by decide)]
  refine c_new_nS hs1 hK (by omega) ?_
  rw [nw_ok (by rw [hF]; exact nI_lt hc (by omega)) hnew]
  rw [cTn (by decide), hN, show nI (np + 1) - 1 = nI np from nI_pred np]
  refine c_range hs1 hK (by omega) ?_
  rw [rg_ok (by rw [v3]; exact nI_between (a := 0) (b := np) (Nat.zero_le _) hx (by omega))]
  refine c_range hs1 hK (by omega) ?_
  rw [rg_ok (by rw [v5]; exact nI_between (a := 1) (b := 30) hy1 hy2 (by decide))]
  refine And.intro (fun z => absurd ((cTn (F := F) (p := p + 6) (by decide : (67 : Nat) ≠ 66) ▸ h67 : cT (p + 6) F 67 0 = 0)) z) (fun _ L1 e1 => ?_)
  rw [cTn (by decide), hF, hs1.vl hK (by omega), putl_nI (by omega) (by decide)] at e1
  have e76 : L1 76 = L 76 := by rw [e1]; exact ul2_n _ _ (by decide)
  unfold wp_X2_number
  rw [e76, hs1.vl hK (by omega), hs1.vl hK (by omega), v3, v5]
  refine c_addShaft (c := c) hc (by rw [cTn (by decide)]; exact hF) ⟨by decide, ?_⟩
  rw [e1]
  exact hk
theorem ln_legger {c x y np : Nat} (hK : KIN κ m) (hs : SC κ m val F L p) (hp : p + 6 < m) (h : TKD κ p [40, 2, 41, 4, 42, 4]) (h67 : F 67 0 = 0) (hc : c < 6) (hF : F 23 0 = nI c) (hx1 : 1 ≤ x) (hx2 : x ≤ 9) (hy1 : 1 ≤ y) (hy2 : y ≤ 9) (v3 : (val (p + 3)).toInt32 = nI x) (v5 : (val (p + 5)).toInt32 = nI y) (hnew : idx (L 63) (F 23 0) 6 (val (p + 1)) = -1) (hk : K 1 (up2 (st2 (st2 (cT (p + 6) F) 31 c (nI x)) 32 c (nI y)) 23 (fun _ => nI (c + 1))) (ul2 L 63 (vp_updL (L 63) c (val (p + 1))))) : wp_X2_line F L K := by
  have hm := hK.1
  have e66 : F 66 0 = nI p := by rw [hs.1]
  have k0 : ck (κ p) = 40 := h 0 (by decide)
  refine c_peek hs hK ?_
  rw [k0]
  refine ⟨fun z => absurd z (by decide), fun z => absurd z (by decide), fun _ => ?_, fun z => absurd z (by decide), fun z => absurd z (by decide), fun z => absurd z (by decide), fun _ _ z => absurd rfl z⟩
  rw [e66]
  have hs1 := hs.adv (q := p + 6) (by omega)
  have a1 : nI p + 1 = nI (p + 1) := nI_1 p
  have a3 : nI p + 3 = nI (p + 3) := nI_add p 3
  have a5 : nI p + 5 = nI (p + 5) := nI_add p 5
  refine c_all_LEGGER_LINE (n := 6) hK hs (by decide) (fun j hj => h j hj) (fun z => absurd z (by decide)) (by omega) ?_
  rw [if_pos rfl]
  refine And.intro (fun _ => ?_) (fun z => absurd z (by decide))
  rw [a1, a3, a5, cTn (by decide)]
  refine c_new_nL hs1 hK (by omega) ?_
  rw [nw_ok (by rw [hF]; exact nI_lt hc (by omega)) hnew]
  refine c_range hs1 hK (by omega) ?_
  rw [rg_ok (by rw [v3]; exact nI_between (a := 1) (b := 9) hx1 hx2 (by decide))]
  refine c_range hs1 hK (by omega) ?_
  rw [rg_ok (by rw [v5]; exact nI_between (a := 1) (b := 9) hy1 hy2 (by decide))]
  refine And.intro (fun z => absurd ((cTn (F := F) (p := p + 6) (by decide : (67 : Nat) ≠ 66) ▸ h67 : cT (p + 6) F 67 0 = 0)) z) (fun _ L1 e1 => ?_)
  rw [cTn (by decide), hF, hs1.vl hK (by omega), putl_nI (by omega) (by decide)] at e1
  have e76 : L1 76 = L 76 := by rw [e1]; exact ul2_n _ _ (by decide)
  unfold wp_X2_number
  rw [e76, hs1.vl hK (by omega), hs1.vl hK (by omega), v3, v5]
  refine c_addLegger (c := c) hc (by rw [cTn (by decide)]; exact hF) ⟨by decide, ?_⟩
  rw [e1]
  exact hk
theorem ln_boat {c x y e l1 l2 : Nat} (hK : KIN κ m) (hs : SC κ m val F L p) (hp : p + 12 < m) (h : TKD κ p [43, 2, 44, 4, 45, 3, 46, 4, 47, 2, 24, 2]) (h67 : F 67 0 = 0) (hc : c < 8) (hF : F 24 0 = nI c) (hx1 : 1 ≤ x) (hx2 : x ≤ 60) (hy : y ≤ 999) (v3 : (val (p + 3)).toInt32 = nI x) (v5 : (val (p + 5)).toInt32 = nI e) (v7 : (val (p + 7)).toInt32 = nI y) (hl1 : l1 < 6) (hl2 : l2 < 6) (hne : l1 ≠ l2) (w1 : idx (L 63) (F 23 0) 6 (val (p + 9)) = nI l1) (w2 : idx (L 63) (F 23 0) 6 (val (p + 11)) = nI l2) (hnew : idx (L 64) (F 24 0) 8 (val (p + 1)) = -1) (hk : K 1 (up2 (st2 (st2 (st2 (st2 (st2 (cT (p + 12) F) 33 c (nI x)) 34 c (nI e)) 35 c (nI y)) 36 c (nI l1)) 37 c (nI l2)) 24 (fun _ => nI (c + 1))) (ul2 L 64 (vp_updL (L 64) c (val (p + 1))))) : wp_X2_line F L K := by
  have hm := hK.1
  have e66 : F 66 0 = nI p := by rw [hs.1]
  have k0 : ck (κ p) = 43 := h 0 (by decide)
  refine c_peek hs hK ?_
  rw [k0]
  refine ⟨fun z => absurd z (by decide), fun z => absurd z (by decide), fun z => absurd z (by decide), fun _ => ?_, fun z => absurd z (by decide), fun z => absurd z (by decide), fun _ _ _ z => absurd rfl z⟩
  rw [e66]
  have hs1 := hs.adv (q := p + 12) (by omega)
  have a1 : nI p + 1 = nI (p + 1) := nI_1 p
  have a3 : nI p + 3 = nI (p + 3) := nI_add p 3
  have a5 : nI p + 5 = nI (p + 5) := nI_add p 5
  have a7 : nI p + 7 = nI (p + 7) := nI_add p 7
  have a9 : nI p + 9 = nI (p + 9) := nI_add p 9
  have a11 : nI p + 11 = nI (p + 11) := nI_add p 11
  refine c_all_BOAT_LINE (n := 12) hK hs (by decide) (fun j hj => h j hj) (fun z => absurd z (by decide)) (by omega) ?_
  rw [if_pos rfl]
  refine And.intro (fun _ => ?_) (fun z => absurd z (by decide))
  rw [a1, a3, a7, a9, a11, cTn (by decide)]
  refine c_new_nO hs1 hK (by omega) ?_
  rw [nw_ok (by rw [hF]; exact nI_lt hc (by omega)) hnew]
  refine c_range hs1 hK (by omega) ?_
  rw [rg_ok (by rw [v3]; exact nI_between (a := 1) (b := 60) hx1 hx2 (by decide))]
  refine c_range hs1 hK (by omega) ?_
  rw [rg_ok (by rw [v7]; exact nI_between (a := 0) (b := 999) (Nat.zero_le _) hy (by decide))]
  have f23 : cT (p + 12) F 23 0 = F 23 0 := by rw [cTn (by decide)]
  refine c_known_nL hs1 hK (by omega) ?_
  rw [f23, w1, if_neg (nI_nm1 (by omega))]
  refine c_known_nL hs1 hK (by omega) ?_
  rw [f23, w2, if_neg (nI_nm1 (by omega))]
  refine And.intro (fun _ => ?_) (fun z => absurd (nI_inj (by omega) (by omega) z).symm hne)
  refine And.intro (fun z => absurd ((cTn (F := F) (p := p + 12) (by decide : (67 : Nat) ≠ 66) ▸ h67 : cT (p + 12) F 67 0 = 0)) z) (fun _ L1 e1 => ?_)
  rw [cTn (by decide), hF, a1, hs1.vl hK (by omega), putl_nI (by omega) (by decide)] at e1
  have e76 : L1 76 = L 76 := by rw [e1]; exact ul2_n _ _ (by decide)
  unfold wp_X2_number
  rw [e76, a3, a5, a7, hs1.vl hK (by omega), hs1.vl hK (by omega), hs1.vl hK (by omega), v3, v5, v7]
  refine c_addBoat (c := c) hc (by rw [cTn (by decide)]; exact hF) ⟨by decide, ?_⟩
  rw [e1]
  exact hk
theorem ln_whistle {c e w q : Nat} {its : List IT} {ops : List (Int32 × Int32)} (hK : KIN κ m) (hs : SC κ m val F L p) (hp : p + 3 < m) (h : TKD κ p [48, 3, 50]) (h67 : F 67 0 = 0) (hc : c < 16) (hF : F 40 0 = nI c) (hE : F 45 0 = nI e) (v1 : (val (p + 1)).toInt32 = nI w) (hP : PZ κ m val 30 0 0 (p + 3) q its) (hops : its.map (fun x => (x.1, opV val F L x)) = ops) (hnm : ∀ x ∈ its, isNm x.1 → ¬ opV val F L x = -1) (hel : e + ops.length ≤ 400) (hk : K 1 (up2 (st2 (st2 (st2 (st2 (cT q (EMS F ops)) 41 c 48) 42 c (nI w)) 43 c (nI e)) 44 c (nI (e + ops.length))) 40 (fun _ => nI (c + 1))) L) : wp_X2_line F L K := by
  have hm := hK.1
  have e66 : F 66 0 = nI p := by rw [hs.1]
  have k0 : ck (κ p) = 48 := h 0 (by decide)
  refine c_peek hs hK ?_
  rw [k0]
  refine ⟨fun z => absurd z (by decide), fun z => absurd z (by decide), fun z => absurd z (by decide), fun z => absurd z (by decide), fun _ => ?_, fun z => absurd z (by decide), fun _ _ _ _ z => absurd rfl z⟩
  have hs1 := hs.adv (q := p + 3) (by omega)
  have a1 : nI p + 1 = nI (p + 1) := nI_1 p
  intro v3 ev3
  rw [e66] at ev3
  subst ev3
  refine And.intro (fun _ => ?_) (fun z => absurd (by rw [hF, show (16 : Int32) = nI 16 from rfl]; exact nI_lt hc (by omega)) z)
  refine c_all_WHISTLE_HEAD (n := 3) hK hs (by decide) (fun j hj => h j hj) (fun z => absurd z (by decide)) (by omega) ?_
  rw [if_pos rfl]
  refine And.intro (fun _ => ?_) (fun z => absurd z (by decide))
  refine And.intro (fun z => absurd rfl z) (fun _ => ?_)
  unfold wp_X2_number
  rw [a1, hs1.vl hK (by omega), v1]
  intro v5 ev5
  rw [cTn (by decide), hE] at ev5
  subst ev5
  have hcE : cE val L its F = EMS F ops := by rw [← hops]; exact cE_EMS its F F rfl rfl hnm
  have hst : cT q (cE val L its (cT (p + 3) F)) = cT q (EMS F ops) := by rw [c_chain1, hcE]
  have n67 : cT q (EMS F ops) 67 0 = 0 := by rw [cTn (by decide), EMS_n (by decide) (by decide) (by decide)]; exact h67
  have n40 : cT q (EMS F ops) 40 0 = nI c := by rw [cTn (by decide), EMS_n (by decide) (by decide) (by decide)]; exact hF
  have n45 : cT q (EMS F ops) 45 0 = nI (e + ops.length) := by rw [cTn (by decide)]; exact (EMS_r ops F e hE hel).1
  rw [← gX2_0]
  refine hP.2 121 (by decide) _ L _ hs1 ?_
  rw [hst]
  exact And.intro (fun _ => And.intro (fun z => absurd n67 z) (fun _ => c_addOrder hc n40 n45 ⟨by decide, hk⟩)) (fun z => absurd z (by decide))
theorem ln_rest {c e w q : Nat} {its : List IT} {ops : List (Int32 × Int32)} (hK : KIN κ m) (hs : SC κ m val F L p) (hp : p + 3 < m) (h : TKD κ p [49, 2, 50]) (h67 : F 67 0 = 0) (hc : c < 16) (hF : F 40 0 = nI c) (hE : F 45 0 = nI e) (v1 : idx (L 63) (F 23 0) 6 (val (p + 1)) = nI w) (hw : w < 6) (hP : PZ κ m val 30 0 0 (p + 3) q its) (hops : its.map (fun x => (x.1, opV val F L x)) = ops) (hnm : ∀ x ∈ its, isNm x.1 → ¬ opV val F L x = -1) (hel : e + ops.length ≤ 400) (hk : K 1 (up2 (st2 (st2 (st2 (st2 (cT q (EMS F ops)) 41 c 49) 42 c (nI w)) 43 c (nI e)) 44 c (nI (e + ops.length))) 40 (fun _ => nI (c + 1))) L) : wp_X2_line F L K := by
  have hm := hK.1
  have e66 : F 66 0 = nI p := by rw [hs.1]
  have k0 : ck (κ p) = 49 := h 0 (by decide)
  refine c_peek hs hK ?_
  rw [k0]
  refine ⟨fun z => absurd z (by decide), fun z => absurd z (by decide), fun z => absurd z (by decide), fun z => absurd z (by decide), fun z => absurd z (by decide), fun _ => ?_, fun _ _ _ _ _ z => absurd rfl z⟩
  have hs1 := hs.adv (q := p + 3) (by omega)
  have a1 : nI p + 1 = nI (p + 1) := nI_1 p
  intro v3 ev3
  rw [e66] at ev3
  subst ev3
  refine And.intro (fun _ => ?_) (fun z => absurd (by rw [hF, show (16 : Int32) = nI 16 from rfl]; exact nI_lt hc (by omega)) z)
  refine c_all_REST_HEAD (n := 3) hK hs (by decide) (fun j hj => h j hj) (fun z => absurd z (by decide)) (by omega) ?_
  rw [if_pos rfl]
  refine And.intro (fun _ => ?_) (fun z => absurd z (by decide))
  refine And.intro (fun _ => ?_) (fun z => absurd z (by decide))
  rw [a1]
  refine c_known_nL hs1 hK (by omega) ?_
  rw [show cT (p + 3) F 23 0 = F 23 0 by rw [cTn (by decide)], v1, if_neg (nI_nm1 (by omega))]
  intro v5 ev5
  rw [cTn (by decide), hE] at ev5
  subst ev5
  have hcE : cE val L its F = EMS F ops := by rw [← hops]; exact cE_EMS its F F rfl rfl hnm
  have hst : cT q (cE val L its (cT (p + 3) F)) = cT q (EMS F ops) := by rw [c_chain1, hcE]
  have n67 : cT q (EMS F ops) 67 0 = 0 := by rw [cTn (by decide), EMS_n (by decide) (by decide) (by decide)]; exact h67
  have n40 : cT q (EMS F ops) 40 0 = nI c := by rw [cTn (by decide), EMS_n (by decide) (by decide) (by decide)]; exact hF
  have n45 : cT q (EMS F ops) 45 0 = nI (e + ops.length) := by rw [cTn (by decide)]; exact (EMS_r ops F e hE hel).1
  rw [← gX2_0]
  refine hP.2 121 (by decide) _ L _ hs1 ?_
  rw [hst]
  exact And.intro (fun _ => And.intro (fun z => absurd n67 z) (fun _ => c_addOrder hc n40 n45 ⟨by decide, hk⟩)) (fun z => absurd z (by decide))
end LNC
