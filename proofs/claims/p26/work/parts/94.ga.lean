/-! ===== the grammar of tests: what the class reads where it fits ===== -/
section GRC
variable {κ : Nat → Int32} {m : Nat} {val : Nat → Int64} {r dp p q q1 q2 q3 : Nat} {its i1 i2 i3 : List IT}
def PZ (κ : Nat → Int32) (m : Nat) (val : Nat → Int64) (r i dp p q : Nat) (its : List IT) : Prop := q ≤ m ∧ ∀ d, r ≤ d → ∀ (F : M2) (L : L2) (K : Int32 → M2 → L2 → Prop), SC κ m val F L p → K 1 (cT q (cE val L its F)) L → gX2 d i F L (nI dp) K
theorem PZ.up {r' i : Nat} (h : PZ κ m val r i dp p q its) (hr : r ≤ r') : PZ κ m val r' i dp p q its := ⟨h.1, fun d hd => h.2 d (by omega)⟩
theorem ni400 {i : Nat} (h : i < 400) : ¬ (400 : Int32) ≤ nI i := nI_ge (a := i) (b := 400) h (by decide)
theorem cT_66 {F : M2} {p : Nat} : cT (p + 1) F 66 0 - 1 = nI p := by
  unfold cT
  rw [up2_s]
  exact nI_pred p
theorem em_num {F : M2} {L : L2} {op : Int32} {t q : Nat} (hop : op = 4 ∨ op = 7) : em (cT q F) op (val t).toInt32 = cT q (cE val L [(op, t)] F) := by
  show _ = cT q (cE1 val L F (op, t))
  rw [← cT_cE1]
  unfold cE1 opV
  have hn : ¬ isNm op := by rcases hop with y | y <;> rw [y] <;> decide
  rw [if_neg (fun z => hn z.1), if_pos hop]
theorem v_num (hK : KIN κ m) (hp : p < m) (h : ck (κ p) = 4) : PZ κ m val 1 6 dp p (p + 1) [(4, p)] := by
  refine ⟨hp, fun d hd F L K hs hk => ?_⟩
  have hm := hK.1
  obtain ⟨g, rfl⟩ := ge1 hd
  rw [gX2_6]
  refine c_peek hs hK ?_
  rw [h]
  refine ⟨fun _ F1 e1 => ?_, fun z => absurd z (by decide), fun z => absurd z (by decide), fun z => absurd z (by decide), fun z => absurd z (by decide), fun z => absurd z (by decide), fun z => absurd z (by decide), fun z => absurd z (by decide), fun z => absurd z (by decide), fun z => absurd z (by decide), fun z => absurd z (by decide), fun z => absurd rfl z⟩
  rw [hs.inc] at e1
  subst e1
  unfold wp_X2_number
  rw [cT_66, atl_nI (by omega) (by decide), hs.2.2.2 p (by omega)]
  refine c_emit ⟨by decide, ?_⟩
  rw [em_num (val := val) (L := L) (Or.inl rfl)]
  exact hk
theorem v_minute (hK : KIN κ m) (hp : p < m) (h : ck (κ p) = 5) : PZ κ m val 1 6 dp p (p + 1) [(5, 0)] := by
  refine ⟨hp, fun d hd F L K hs hk => ?_⟩
  have hm := hK.1
  obtain ⟨g, rfl⟩ := ge1 hd
  rw [gX2_6]
  refine c_peek hs hK ?_
  rw [h]
  refine ⟨fun z => absurd z (by decide), fun _ F1 e1 => ?_, fun z => absurd z (by decide), fun z => absurd z (by decide), fun z => absurd z (by decide), fun z => absurd z (by decide), fun z => absurd z (by decide), fun z => absurd z (by decide), fun z => absurd z (by decide), fun z => absurd z (by decide), fun z => absurd z (by decide), fun _ z => absurd rfl z⟩
  rw [hs.inc] at e1
  subst e1
  refine c_op (val := val) (by decide) (by decide) (by decide) ⟨by decide, ?_⟩
  rw [cT_cE1]
  exact hk
theorem v_turn (hK : KIN κ m) (hp : p < m) (h : ck (κ p) = 6) : PZ κ m val 1 6 dp p (p + 1) [(6, 0)] := by
  refine ⟨hp, fun d hd F L K hs hk => ?_⟩
  have hm := hK.1
  obtain ⟨g, rfl⟩ := ge1 hd
  rw [gX2_6]
  refine c_peek hs hK ?_
  rw [h]
  refine ⟨fun z => absurd z (by decide), fun z => absurd z (by decide), fun _ F1 e1 => ?_, fun z => absurd z (by decide), fun z => absurd z (by decide), fun z => absurd z (by decide), fun z => absurd z (by decide), fun z => absurd z (by decide), fun z => absurd z (by decide), fun z => absurd z (by decide), fun z => absurd z (by decide), fun _ _ z => absurd rfl z⟩
  rw [hs.inc] at e1
  subst e1
  refine c_op (val := val) (by decide) (by decide) (by decide) ⟨by decide, ?_⟩
  rw [cT_cE1]
  exact hk
theorem v_waits (hK : KIN κ m) (hp : p + 1 < m) (h : ck (κ p) = 7) (h2 : ck (κ (p + 1)) = 3) : PZ κ m val 1 6 dp p (p + 2) [(7, p + 1)] := by
  refine ⟨hp, fun d hd F L K hs hk => ?_⟩
  have hm := hK.1
  obtain ⟨g, rfl⟩ := ge1 hd
  rw [gX2_6]
  refine c_peek hs hK ?_
  rw [h]
  refine ⟨fun z => absurd z (by decide), fun z => absurd z (by decide), fun z => absurd z (by decide), fun _ F1 e1 => ?_, fun z => absurd z (by decide), fun z => absurd z (by decide), fun z => absurd z (by decide), fun z => absurd z (by decide), fun z => absurd z (by decide), fun z => absurd z (by decide), fun z => absurd z (by decide), fun _ _ _ z => absurd rfl z⟩
  rw [hs.inc] at e1
  subst e1
  refine c_take (hs.adv (q := p + 1) (by omega)) hK (fun _ => And.intro (fun z => absurd z (by decide)) (fun _ => ?_)) (fun z => absurd h2 z)
  rw [cT_cT]
  unfold wp_X2_number
  rw [cT_66, atl_nI (by omega) (by decide), hs.2.2.2 (p + 1) (by omega)]
  refine c_emit (And.intro (fun z => absurd z (by decide)) (fun _ => ?_))
  rw [em_num (val := val) (L := L) (Or.inr rfl)]
  exact hk
theorem v_breath (hK : KIN κ m) (hp : p + 1 < m) (h : ck (κ p) = 8) (h2 : ck (κ (p + 1)) = 2) : PZ κ m val 1 6 dp p (p + 2) [(8, p + 1)] := by
  refine ⟨hp, fun d hd F L K hs hk => ?_⟩
  have hm := hK.1
  obtain ⟨g, rfl⟩ := ge1 hd
  rw [gX2_6]
  refine c_peek hs hK ?_
  rw [h]
  exact ⟨fun z => absurd z (by decide), fun z => absurd z (by decide), fun z => absurd z (by decide), fun z => absurd z (by decide), fun _ => c_ofOne_nL hs hK (by omega) (Or.inl rfl) (fun _ => ⟨by decide, hk⟩) (fun z => absurd h2 z), fun z => absurd z (by decide), fun z => absurd z (by decide), fun z => absurd z (by decide), fun z => absurd z (by decide), fun z => absurd z (by decide), fun z => absurd z (by decide), fun _ _ _ _ z => absurd rfl z⟩
theorem v_place (hK : KIN κ m) (hp : p + 1 < m) (h : ck (κ p) = 9) (h2 : ck (κ (p + 1)) = 2) : PZ κ m val 1 6 dp p (p + 2) [(9, p + 1)] := by
  refine ⟨hp, fun d hd F L K hs hk => ?_⟩
  have hm := hK.1
  obtain ⟨g, rfl⟩ := ge1 hd
  rw [gX2_6]
  refine c_peek hs hK ?_
  rw [h]
  exact ⟨fun z => absurd z (by decide), fun z => absurd z (by decide), fun z => absurd z (by decide), fun z => absurd z (by decide), fun z => absurd z (by decide), fun _ => c_ofOne_nO hs hK (by omega) (Or.inl rfl) (fun _ => ⟨by decide, hk⟩) (fun z => absurd h2 z), fun z => absurd z (by decide), fun z => absurd z (by decide), fun z => absurd z (by decide), fun z => absurd z (by decide), fun z => absurd z (by decide), fun _ _ _ _ _ z => absurd rfl z⟩
theorem v_air (hK : KIN κ m) (hp : p < m) (h : ck (κ p) = 12) (hP : PZ κ m val r 7 dp (p + 1) q its) : PZ κ m val (r + 1) 6 dp p q (its ++ [(12, 0)]) := by
  refine ⟨hP.1, fun d hd F L K hs hk => ?_⟩
  have hm := hK.1
  obtain ⟨g, rfl⟩ := ge1 hd
  rw [gX2_6]
  refine c_peek hs hK ?_
  rw [h]
  refine ⟨fun z => absurd z (by decide), fun z => absurd z (by decide), fun z => absurd z (by decide), fun z => absurd z (by decide), fun z => absurd z (by decide), fun z => absurd z (by decide), fun _ F1 e1 => ?_, fun z => absurd z (by decide), fun z => absurd z (by decide), fun z => absurd z (by decide), fun z => absurd z (by decide), fun _ _ _ _ _ _ z => absurd rfl z⟩
  rw [hs.inc] at e1
  subst e1
  refine hP.2 g (by omega) _ L _ (hs.adv (by omega)) (And.intro (fun z => absurd z (by decide)) (fun _ => c_op (val := val) (by decide) (by decide) (by decide) (And.intro (fun z => absurd z (by decide)) (fun _ => ?_))))
  rw [c_chain1, c_one]
  exact hk
theorem v_min (hK : KIN κ m) (hp : p < m) (h : ck (κ p) = 26) (hP : PZ κ m val r 8 dp (p + 1) q its) : PZ κ m val (r + 1) 6 dp p q (its ++ [(26, 0)]) := by
  refine ⟨hP.1, fun d hd F L K hs hk => ?_⟩
  have hm := hK.1
  obtain ⟨g, rfl⟩ := ge1 hd
  rw [gX2_6]
  refine c_peek hs hK ?_
  rw [h]
  refine ⟨fun z => absurd z (by decide), fun z => absurd z (by decide), fun z => absurd z (by decide), fun z => absurd z (by decide), fun z => absurd z (by decide), fun z => absurd z (by decide), fun z => absurd z (by decide), fun z => absurd z (by decide), fun _ F1 e1 => ?_, fun z => absurd z (by decide), fun z => absurd z (by decide), fun _ _ _ _ _ _ _ _ z => absurd rfl z⟩
  rw [hs.inc] at e1
  subst e1
  refine hP.2 g (by omega) _ L _ (hs.adv (by omega)) (And.intro (fun z => absurd z (by decide)) (fun _ => c_op (val := val) (by decide) (by decide) (by decide) (And.intro (fun z => absurd z (by decide)) (fun _ => ?_))))
  rw [c_chain1, c_one]
  exact hk
theorem b_in (hK : KIN κ m) (hd8 : dp < 8) (hp : p < m) (h : ck (κ p) = 28) (hP : PZ κ m val r 4 (dp + 1) (p + 1) q its) (hq : q < m) (h2 : ck (κ q) = 29) : PZ κ m val (r + 1) 7 dp p (q + 1) its := by
  refine ⟨hq, fun d hd F L K hs hk => ?_⟩
  have hm := hK.1
  obtain ⟨g, rfl⟩ := ge1 hd
  rw [gX2_7]
  refine c_deeper hs hK (by omega) h (fun _ => And.intro (fun z => absurd z (by decide)) (fun _ => ?_)) (fun z => by omega)
  have hs1 := hs.adv (q := p + 1) (by omega)
  rw [nI_1]
  refine hP.2 g (by omega) _ L _ hs1 (And.intro (fun z => absurd z (by decide)) (fun _ => c_take (hs1.to hP.1 its) hK (fun _ => And.intro (fun z => absurd z (by decide)) (fun _ => ?_)) (fun z => absurd h2 z)))
  rw [c_chain1, cT_cT]
  exact hk
theorem b_two (hK : KIN κ m) (hd8 : dp < 8) (hp : p < m) (h : ck (κ p) = 28) (hP : PZ κ m val r 4 (dp + 1) (p + 1) q i1) (hq : q < m) (h2 : ck (κ q) = 33) (hQ : PZ κ m val r 4 (dp + 1) (q + 1) q2 i2) (hq2 : q2 < m) (h3 : ck (κ q2) = 29) : PZ κ m val (r + 1) 8 dp p (q2 + 1) (i1 ++ i2) := by
  refine ⟨hq2, fun d hd F L K hs hk => ?_⟩
  have hm := hK.1
  obtain ⟨g, rfl⟩ := ge1 hd
  rw [gX2_8]
  refine c_deeper hs hK (by omega) h (fun _ => And.intro (fun z => absurd z (by decide)) (fun _ => ?_)) (fun z => by omega)
  have hs1 := hs.adv (q := p + 1) (by omega)
  rw [nI_1]
  refine hP.2 g (by omega) _ L _ hs1 (And.intro (fun z => absurd z (by decide)) (fun _ => c_take (hs1.to hP.1 i1) hK (fun _ => And.intro (fun z => absurd z (by decide)) (fun _ => ?_)) (fun z => absurd h2 z)))
  rw [c_chain1, cT_cT]
  have hs2 := hs.to (q := q + 1) hq i1
  refine hQ.2 g (by omega) _ L _ hs2 (And.intro (fun z => absurd z (by decide)) (fun _ => c_take (hs2.to hQ.1 i2) hK (fun _ => And.intro (fun z => absurd z (by decide)) (fun _ => ?_)) (fun z => absurd h3 z)))
  rw [c_chain, cT_cT]
  exact hk
theorem product_stop (hK : KIN κ m) {G : Nat → M2 → L2 → Int32 → (Int32 → M2 → L2 → Prop) → Prop} {K : Int32 → M2 → L2 → Prop} {f i : Nat} {F : M2} {L : L2} {x : Int32} (hi : i < 400) (hs : SC κ m val F L p) (h1 : ¬ ck (κ p) = 17) (h2 : ¬ ck (κ p) = 18) (hk : K 1 F L) : wl_X2_product_8 G K (f + 1) F L x 1 (nI i) :=
  And.intro (fun c => absurd c (ni400 hi)) (fun _ => And.intro (fun z => absurd z (by decide)) (fun _ => c_peek hs hK (And.intro (fun z => absurd z h1) (fun _ => c_peek hs hK (And.intro (fun _ => ⟨by decide, hk⟩) (fun z => absurd z h2))))))
theorem product_step (hK : KIN κ m) {K : Int32 → M2 → L2 → Prop} {d f i : Nat} {F : M2} {L : L2} {op : Int32} (hi : i < 400) (hs : SC κ m val F L p) (hp : p < m) (hop : op = 17 ∨ op = 18) (h : ck (κ p) = op) (hP : PZ κ m val r 6 dp (p + 1) q its) (hr : r ≤ d) (nxt : wl_X2_product_8 (gX2 d) K f (cT q (cE val L (its ++ [(op, 0)]) F)) L (nI dp) 1 (nI (i + 1))) : wl_X2_product_8 (gX2 d) K (f + 1) F L (nI dp) 1 (nI i) := by
  have hm := hK.1
  have w : wj_X2_product_37 (gX2 d) (wl_X2_product_8 (gX2 d) K f) K F L (nI dp) (nI i) := by
    refine c_peek hs hK (fun F1 e1 => ?_)
    rw [hs.inc] at e1
    subst e1
    rw [h]
    refine hP.2 d hr _ L _ (hs.adv (by omega)) (And.intro (fun z => absurd z (by decide)) (fun _ => c_op (val := val) (by rcases hop with y | y <;> rw [y] <;> decide) (by rcases hop with y | y <;> rw [y] <;> decide) (by rcases hop with y | y <;> rw [y] <;> decide) (And.intro (fun z => absurd z (by decide)) (fun _ v ev => ?_))))
    subst ev
    rw [nI_1, c_chain1, c_one]
    exact nxt
  refine And.intro (fun c => absurd c (ni400 hi)) (fun _ => And.intro (fun z => absurd z (by decide)) (fun _ => c_peek hs hK (And.intro (fun _ => w) (fun z => c_peek hs hK (And.intro (fun z2 => ?_) (fun _ => w))))))
  rw [h] at z z2
  exact absurd (hop.resolve_left z) z2
theorem product_one (hK : KIN κ m) (hP : PZ κ m val r 6 dp p q its) (h1 : ¬ ck (κ q) = 17) (h2 : ¬ ck (κ q) = 18) : PZ κ m val (r + 1) 5 dp p q its := by
  refine ⟨hP.1, fun d hd F L K hs hk => ?_⟩
  obtain ⟨g, rfl⟩ := ge1 hd
  rw [gX2_5]
  exact hP.2 g (by omega) F L _ hs (product_stop (i := 0) (f := 4095) hK (by decide) (hs.to hP.1 its) h1 h2 hk)
theorem sum_stop (hK : KIN κ m) {G : Nat → M2 → L2 → Int32 → (Int32 → M2 → L2 → Prop) → Prop} {K : Int32 → M2 → L2 → Prop} {f i : Nat} {F : M2} {L : L2} {x : Int32} (hi : i < 400) (hs : SC κ m val F L p) (h1 : ¬ ck (κ p) = 15) (h2 : ¬ ck (κ p) = 16) (hk : K 1 F L) : wl_X2_sum_8 G K (f + 1) F L x 1 (nI i) :=
  And.intro (fun c => absurd c (ni400 hi)) (fun _ => And.intro (fun z => absurd z (by decide)) (fun _ => c_peek hs hK (And.intro (fun z => absurd z h1) (fun _ => c_peek hs hK (And.intro (fun _ => ⟨by decide, hk⟩) (fun z => absurd z h2))))))
theorem sum_step (hK : KIN κ m) {K : Int32 → M2 → L2 → Prop} {d f i : Nat} {F : M2} {L : L2} {op : Int32} (hi : i < 400) (hs : SC κ m val F L p) (hp : p < m) (hop : op = 15 ∨ op = 16) (h : ck (κ p) = op) (hP : PZ κ m val r 5 dp (p + 1) q its) (hr : r ≤ d) (nxt : wl_X2_sum_8 (gX2 d) K f (cT q (cE val L (its ++ [(op, 0)]) F)) L (nI dp) 1 (nI (i + 1))) : wl_X2_sum_8 (gX2 d) K (f + 1) F L (nI dp) 1 (nI i) := by
  have hm := hK.1
  have w : wj_X2_sum_37 (gX2 d) (wl_X2_sum_8 (gX2 d) K f) K F L (nI dp) (nI i) := by
    refine c_peek hs hK (fun F1 e1 => ?_)
    rw [hs.inc] at e1
    subst e1
    rw [h]
    refine hP.2 d hr _ L _ (hs.adv (by omega)) (And.intro (fun z => absurd z (by decide)) (fun _ => c_op (val := val) (by rcases hop with y | y <;> rw [y] <;> decide) (by rcases hop with y | y <;> rw [y] <;> decide) (by rcases hop with y | y <;> rw [y] <;> decide) (And.intro (fun z => absurd z (by decide)) (fun _ v ev => ?_))))
    subst ev
    rw [nI_1, c_chain1, c_one]
    exact nxt
  refine And.intro (fun c => absurd c (ni400 hi)) (fun _ => And.intro (fun z => absurd z (by decide)) (fun _ => c_peek hs hK (And.intro (fun _ => w) (fun z => c_peek hs hK (And.intro (fun z2 => ?_) (fun _ => w))))))
  rw [h] at z z2
  exact absurd (hop.resolve_left z) z2
theorem sum_one (hK : KIN κ m) (hP : PZ κ m val r 5 dp p q its) (h1 : ¬ ck (κ q) = 15) (h2 : ¬ ck (κ q) = 16) : PZ κ m val (r + 1) 4 dp p q its := by
  refine ⟨hP.1, fun d hd F L K hs hk => ?_⟩
  obtain ⟨g, rfl⟩ := ge1 hd
  rw [gX2_4]
  exact hP.2 g (by omega) F L _ hs (sum_stop (i := 0) (f := 4095) hK (by decide) (hs.to hP.1 its) h1 h2 hk)
theorem product_three (hK : KIN κ m) (hP : PZ κ m val r 6 dp p q1 i1) (l1 : q1 < m) (h1 : ck (κ q1) = 18) (hQ : PZ κ m val r 6 dp (q1 + 1) q2 i2) (l2 : q2 < m) (h2 : ck (κ q2) = 17) (hR : PZ κ m val r 6 dp (q2 + 1) q3 i3) (h3 : ¬ ck (κ q3) = 17) (h4 : ¬ ck (κ q3) = 18) : PZ κ m val (r + 1) 5 dp p q3 (i1 ++ (i2 ++ [(18, 0)]) ++ (i3 ++ [(17, 0)])) := by
  refine ⟨hR.1, fun d hd F L K hs hk => ?_⟩
  obtain ⟨g, rfl⟩ := ge1 hd
  rw [gX2_5]
  have s1 := hs.to hP.1 i1
  have s2 := s1.to hQ.1 (i2 ++ [(18, 0)])
  have s3 := s2.to hR.1 (i3 ++ [(17, 0)])
  refine hP.2 g (by omega) F L _ hs (product_step (i := 0) (f := 4095) hK (by decide) s1 l1 (Or.inr rfl) h1 hQ (by omega) (product_step (i := 1) (f := 4094) hK (by decide) s2 l2 (Or.inl rfl) h2 hR (by omega) (product_stop (i := 2) (f := 4093) hK (by decide) s3 h3 h4 ?_)))
  rw [c_chain, c_chain]
  rw [List.append_assoc] at hk
  exact hk
theorem sum_two (hK : KIN κ m) (hP : PZ κ m val r 5 dp p q1 i1) (l1 : q1 < m) (h1 : ck (κ q1) = 16) (hQ : PZ κ m val r 5 dp (q1 + 1) q2 i2) (h3 : ¬ ck (κ q2) = 15) (h4 : ¬ ck (κ q2) = 16) : PZ κ m val (r + 1) 4 dp p q2 (i1 ++ (i2 ++ [(16, 0)])) := by
  refine ⟨hQ.1, fun d hd F L K hs hk => ?_⟩
  obtain ⟨g, rfl⟩ := ge1 hd
  rw [gX2_4]
  have s1 := hs.to hP.1 i1
  have s2 := s1.to hQ.1 (i2 ++ [(16, 0)])
  refine hP.2 g (by omega) F L _ hs (sum_step (i := 0) (f := 4095) hK (by decide) s1 l1 (Or.inr rfl) h1 hQ (by omega) (sum_stop (i := 1) (f := 4094) hK (by decide) s2 h3 h4 ?_))
  rw [c_chain]
  exact hk
theorem cmp_two (hK : KIN κ m) {c : Int32} (hc : c = 19 ∨ c = 20 ∨ c = 21 ∨ c = 22 ∨ c = 23) (hP : PZ κ m val r 4 dp p q1 i1) (l1 : q1 < m) (h1 : ck (κ q1) = c) (hQ : PZ κ m val r 4 dp (q1 + 1) q2 i2) : PZ κ m val (r + 1) 3 dp p q2 (i1 ++ i2 ++ [(c, 0)]) := by
  refine ⟨hQ.1, fun d hd F L K hs hk => ?_⟩
  have hm := hK.1
  obtain ⟨g, rfl⟩ := ge1 hd
  rw [gX2_3]
  have s1 := hs.to hP.1 i1
  refine hP.2 g (by omega) F L _ hs (And.intro (fun _ => c_peek s1 hK ?_) (fun z => absurd z (by decide)))
  rw [h1]
  refine And.intro (fun z => absurd z (by rcases hc with y | y | y | y | y <;> rw [y] <;> decide)) (fun _ => And.intro (fun _ F1 e1 => ?_) (fun z => absurd (by rcases hc with y | y | y | y | y <;> rw [y] <;> decide) z))
  rw [s1.inc, cT_cT] at e1
  subst e1
  refine hQ.2 g (by omega) _ L _ (hs.to l1 i1) (And.intro (fun z => absurd z (by decide)) (fun _ => c_op (val := val) (by rcases hc with y | y | y | y | y <;> rw [y] <;> decide) (by rcases hc with y | y | y | y | y <;> rw [y] <;> decide) (by rcases hc with y | y | y | y | y <;> rw [y] <;> decide) (And.intro (fun z => absurd z (by decide)) (fun _ => ?_))))
  rw [c_chain, c_one]
  exact hk
theorem g_cmp (hK : KIN κ m) (h : ¬ ck (κ p) = 10 ∧ ¬ ck (κ p) = 11 ∧ ¬ ck (κ p) = 13 ∧ ¬ ck (κ p) = 30) (hP : PZ κ m val r 3 dp p q its) : PZ κ m val (r + 1) 2 dp p q its := by
  refine ⟨hP.1, fun d hd F L K hs hk => ?_⟩
  obtain ⟨g, rfl⟩ := ge1 hd
  rw [gX2_2]
  exact c_peek hs hK ⟨fun z => absurd z h.1, fun z => absurd z h.2.1, fun z => absurd z h.2.2.1, fun z => absurd z h.2.2.2, fun _ _ _ _ => hP.2 g (by omega) F L _ hs ⟨by decide, hk⟩⟩
theorem g_inside (hK : KIN κ m) (hp : p + 1 < m) (h : ck (κ p) = 10) (h2 : ck (κ (p + 1)) = 2) : PZ κ m val 1 2 dp p (p + 2) [(10, p + 1)] := by
  refine ⟨hp, fun d hd F L K hs hk => ?_⟩
  obtain ⟨g, rfl⟩ := ge1 hd
  rw [gX2_2]
  refine c_peek hs hK ?_
  rw [h]
  exact ⟨fun _ => c_ofOne_nO hs hK (by omega) (Or.inr rfl) (fun _ => ⟨by decide, hk⟩) (fun z => absurd h2 z), fun z => absurd z (by decide), fun z => absurd z (by decide), fun z => absurd z (by decide), fun z => absurd rfl z⟩
theorem g_capped (hK : KIN κ m) (hp : p + 1 < m) (h : ck (κ p) = 11) (h2 : ck (κ (p + 1)) = 2) : PZ κ m val 1 2 dp p (p + 2) [(11, p + 1)] := by
  refine ⟨hp, fun d hd F L K hs hk => ?_⟩
  obtain ⟨g, rfl⟩ := ge1 hd
  rw [gX2_2]
  refine c_peek hs hK ?_
  rw [h]
  exact ⟨fun z => absurd z (by decide), fun _ => c_ofOne_nL hs hK (by omega) (Or.inr rfl) (fun _ => ⟨by decide, hk⟩) (fun z => absurd h2 z), fun z => absurd z (by decide), fun z => absurd z (by decide), fun _ z => absurd rfl z⟩
theorem g_not (hK : KIN κ m) (hd8 : dp < 8) (hp : p < m) (h : ck (κ p) = 13) (hP : PZ κ m val r 2 (dp + 1) (p + 1) q its) : PZ κ m val (r + 1) 2 dp p q (its ++ [(13, 0)]) := by
  refine ⟨hP.1, fun d hd F L K hs hk => ?_⟩
  obtain ⟨g, rfl⟩ := ge1 hd
  rw [gX2_2]
  refine c_peek hs hK ?_
  rw [h]
  refine ⟨fun z => absurd z (by decide), fun z => absurd z (by decide), fun _ => c_deeper hs hK (by omega) h (fun _ => And.intro (fun z => absurd z (by decide)) (fun _ => ?_)) (fun z => by omega), fun z => absurd z (by decide), fun _ _ z => absurd rfl z⟩
  rw [nI_1]
  refine hP.2 g (by omega) _ L _ (hs.adv (by omega)) (And.intro (fun z => absurd z (by decide)) (fun _ => c_op (val := val) (by decide) (by decide) (by decide) (And.intro (fun z => absurd z (by decide)) (fun _ => ?_))))
  rw [c_chain1, c_one]
  exact hk
theorem g_brack (hK : KIN κ m) (hd8 : dp < 8) (hp : p < m) (h : ck (κ p) = 30) (hP : PZ κ m val r 0 (dp + 1) (p + 1) q its) (hq : q < m) (h2 : ck (κ q) = 31) : PZ κ m val (r + 1) 2 dp p (q + 1) its := by
  refine ⟨hq, fun d hd F L K hs hk => ?_⟩
  obtain ⟨g, rfl⟩ := ge1 hd
  rw [gX2_2]
  refine c_peek hs hK ?_
  rw [h]
  refine ⟨fun z => absurd z (by decide), fun z => absurd z (by decide), fun z => absurd z (by decide), fun _ => c_deeper hs hK (by omega) h (fun _ => And.intro (fun z => absurd z (by decide)) (fun _ => ?_)) (fun z => by omega), fun _ _ _ z => absurd rfl z⟩
  rw [nI_1]
  have hs1 := hs.adv (q := p + 1) (by omega)
  refine hP.2 g (by omega) _ L _ hs1 (And.intro (fun z => absurd z (by decide)) (fun _ => c_take (hs1.to hP.1 its) hK (fun _ => And.intro (fun z => absurd z (by decide)) (fun _ => ?_)) (fun z => absurd h2 z)))
  rw [c_chain1, cT_cT]
  exact hk
theorem both_stop (hK : KIN κ m) {G : Nat → M2 → L2 → Int32 → (Int32 → M2 → L2 → Prop) → Prop} {K : Int32 → M2 → L2 → Prop} {f i : Nat} {F : M2} {L : L2} {x : Int32} (hi : i < 400) (hs : SC κ m val F L p) (h1 : ¬ ck (κ p) = 24) (hk : K 1 F L) : wl_X2_both_8 G K (f + 1) F L x 1 (nI i) :=
  And.intro (fun c => absurd c (ni400 hi)) (fun _ => And.intro (fun z => absurd z (by decide)) (fun _ => c_take hs hK (fun z => absurd z h1) (fun _ => And.intro (fun _ => ⟨by decide, hk⟩) (fun z => absurd rfl z))))
theorem both_one (hK : KIN κ m) (hP : PZ κ m val r 2 dp p q its) (h1 : ¬ ck (κ q) = 24) : PZ κ m val (r + 1) 1 dp p q its := by
  refine ⟨hP.1, fun d hd F L K hs hk => ?_⟩
  obtain ⟨g, rfl⟩ := ge1 hd
  rw [gX2_1]
  exact hP.2 g (by omega) F L _ hs (both_stop (i := 0) (f := 4095) hK (by decide) (hs.to hP.1 its) h1 hk)
theorem both_two (hK : KIN κ m) (hP : PZ κ m val r 2 dp p q1 i1) (l1 : q1 < m) (h1 : ck (κ q1) = 24) (hQ : PZ κ m val r 2 dp (q1 + 1) q2 i2) (h2 : ¬ ck (κ q2) = 24) : PZ κ m val (r + 1) 1 dp p q2 (i1 ++ (i2 ++ [(24, 0)])) := by
  refine ⟨hQ.1, fun d hd F L K hs hk => ?_⟩
  obtain ⟨g, rfl⟩ := ge1 hd
  rw [gX2_1]
  have s1 := hs.to hP.1 i1
  have s1' := hs.to l1 i1
  have s2 := s1.to hQ.1 (i2 ++ [(24, 0)])
  refine hP.2 g (by omega) F L _ hs ?_
  show wl_X2_both_8 (gX2 g) K (4095 + 1) (cT q1 (cE val L i1 F)) L (nI dp) 1 (nI 0)
  refine And.intro (fun c => absurd c (ni400 (by decide))) (fun _ => And.intro (fun z => absurd z (by decide)) (fun _ => c_take s1 hK (fun _ => And.intro (fun z => absurd z (by decide)) (fun _ => ?_)) (fun z => absurd h1 z)))
  rw [cT_cT]
  refine hQ.2 g (by omega) _ L _ s1' (And.intro (fun z => absurd z (by decide)) (fun _ => c_op (val := val) (by decide) (by decide) (by decide) (And.intro (fun z => absurd z (by decide)) (fun _ v ev => ?_))))
  subst ev
  rw [c_chain, c_one, nI_1, List.append_assoc]
  refine both_stop (p := q2) (f := 4094) (i := 1) hK (by decide) (hs.to hQ.1 _) h2 hk
theorem test_stop (hK : KIN κ m) {G : Nat → M2 → L2 → Int32 → (Int32 → M2 → L2 → Prop) → Prop} {K : Int32 → M2 → L2 → Prop} {f i : Nat} {F : M2} {L : L2} {x : Int32} (hi : i < 400) (hs : SC κ m val F L p) (h1 : ¬ ck (κ p) = 25) (hk : K 1 F L) : wl_X2_test_8 G K (f + 1) F L x 1 (nI i) :=
  And.intro (fun c => absurd c (ni400 hi)) (fun _ => And.intro (fun z => absurd z (by decide)) (fun _ => c_take hs hK (fun z => absurd z h1) (fun _ => And.intro (fun _ => ⟨by decide, hk⟩) (fun z => absurd rfl z))))
theorem test_one (hK : KIN κ m) (hP : PZ κ m val r 1 dp p q its) (h1 : ¬ ck (κ q) = 25) : PZ κ m val (r + 1) 0 dp p q its := by
  refine ⟨hP.1, fun d hd F L K hs hk => ?_⟩
  obtain ⟨g, rfl⟩ := ge1 hd
  rw [gX2_0]
  exact hP.2 g (by omega) F L _ hs (test_stop (i := 0) (f := 4095) hK (by decide) (hs.to hP.1 its) h1 hk)
theorem test_two (hK : KIN κ m) (hP : PZ κ m val r 1 dp p q1 i1) (l1 : q1 < m) (h1 : ck (κ q1) = 25) (hQ : PZ κ m val r 1 dp (q1 + 1) q2 i2) (h2 : ¬ ck (κ q2) = 25) : PZ κ m val (r + 1) 0 dp p q2 (i1 ++ (i2 ++ [(25, 0)])) := by
  refine ⟨hQ.1, fun d hd F L K hs hk => ?_⟩
  obtain ⟨g, rfl⟩ := ge1 hd
  rw [gX2_0]
  have s1 := hs.to hP.1 i1
  have s1' := hs.to l1 i1
  have s2 := s1.to hQ.1 (i2 ++ [(25, 0)])
  refine hP.2 g (by omega) F L _ hs ?_
  show wl_X2_test_8 (gX2 g) K (4095 + 1) (cT q1 (cE val L i1 F)) L (nI dp) 1 (nI 0)
  refine And.intro (fun c => absurd c (ni400 (by decide))) (fun _ => And.intro (fun z => absurd z (by decide)) (fun _ => c_take s1 hK (fun _ => And.intro (fun z => absurd z (by decide)) (fun _ => ?_)) (fun z => absurd h1 z)))
  rw [cT_cT]
  refine hQ.2 g (by omega) _ L _ s1' (And.intro (fun z => absurd z (by decide)) (fun _ => c_op (val := val) (by decide) (by decide) (by decide) (And.intro (fun z => absurd z (by decide)) (fun _ v ev => ?_))))
  subst ev
  rw [c_chain, c_one, nI_1, List.append_assoc]
  refine test_stop (p := q2) (f := 4094) (i := 1) hK (by decide) (hs.to hQ.1 _) h2 hk
end GRC
