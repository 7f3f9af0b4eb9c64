/-! ===== the lines of orders ===== -/
section ORDERS
variable {κ : Nat → Int32} {m : Nat} {val : Nat → Int64} {N0 : M2} {V0 : M2}
theorem PXN.keep {ρ : Nat → Int32} {p np d : Nat} {F F' : M2} {L : L2} {V V' : M2} (h : PXN val ρ p np F L V) (hno : ∀ as : Int32, (as = 1 ∨ as = 2 ∨ as = 3 ∨ as = 4) → ∀ i, p ≤ i → i < p + d → ¬ ρ i = as) (hF : ∀ k, 20 ≤ k → k ≤ 37 → F' k = F k) (hV : ∀ k, ((240 ≤ k ∧ k ≤ 255) ∨ 310 ≤ k) → V' k = V k) : PXN val ρ (p + d) np F' L V' := by
  obtain ⟨x1, x2, x3, x4, x5, x6, x7, x8, x9, x10⟩ := h
  have c1 := cnt_more (ρ := ρ) (as := 1) (p := p) d (hno 1 (by decide))
  have c2 := cnt_more (ρ := ρ) (as := 2) (p := p) d (hno 2 (by decide))
  have c3 := cnt_more (ρ := ρ) (as := 3) (p := p) d (hno 3 (by decide))
  have c4 := cnt_more (ρ := ρ) (as := 4) (p := p) d (hno 4 (by decide))
  unfold PXN
  rw [c1, c2, c3, c4]
  rw [hF 20 (by decide) (by decide), hF 21 (by decide) (by decide), hF 22 (by decide) (by decide), hF 23 (by decide) (by decide), hF 24 (by decide) (by decide), hF 25 (by decide) (by decide), hF 26 (by decide) (by decide), hF 27 (by decide) (by decide), hF 28 (by decide) (by decide), hF 29 (by decide) (by decide), hF 30 (by decide) (by decide), hF 31 (by decide) (by decide), hF 32 (by decide) (by decide), hF 33 (by decide) (by decide), hF 34 (by decide) (by decide), hF 35 (by decide) (by decide), hF 36 (by decide) (by decide), hF 37 (by decide) (by decide)]
  rw [hV 240 (by decide), hV 241 (by decide), hV 246 (by decide), hV 249 (by decide), hV 252 (by decide), hV 242 (by decide), hV 243 (by decide), hV 244 (by decide), hV 245 (by decide), hV 247 (by decide), hV 248 (by decide), hV 250 (by decide), hV 251 (by decide), hV 253 (by decide), hV 254 (by decide), hV 255 (by decide)]
  have ecr : (fun b => V' (310 + b)) = fun b => V (310 + b) := funext (fun b => hV _ (by omega))
  rw [ecr]
  exact ⟨x1.keep d (hno 1 (by decide)), x2.keep d (hno 2 (by decide)), x3.keep d (hno 3 (by decide)), x4.keep d (hno 4 (by decide)), x5, x6, x7, x8, x9, x10⟩
theorem ORX.add {ρ : Nat → Int32} {F F' V V' P P' : M2} {no : Nat} {its b : List IT} {s1 s2 x : Int32} (h : ORX val ρ F V P its no) (hno : no < 16) (hF40 : F' 40 0 = nI (no + 1)) (hV257 : V' 257 0 = nI (no + 1)) (hl : its.length + b.length ≤ 400)
    (h46 : ∀ j, j < its.length → F' 46 j = F 46 j ∧ F' 47 j = F 47 j) (h46' : ∀ j (hj : j < b.length), F' 46 (its.length + j) = (b[j]).1 ∧ F' 47 (its.length + j) = rsV val ρ b[j]) (hnm : ∀ q ∈ b, isNm q.1 → ¬ rsV val ρ q = -1)
    (hs : (s1 = 48 ∧ s2 = 17) ∨ (s1 = 49 ∧ s2 = 18)) (h41 : F' 41 = upd (F 41) no s1) (h259 : V' 259 = upd (V 259) no s2) (h42 : F' 42 = upd (F 42) no x) (h260 : V' 260 = upd (V 260) no x) (h43 : F' 43 = upd (F 43) no (nI its.length)) (h44 : F' 44 = upd (F 44) no (nI (its.length + b.length))) (h261 : P' 261 = upd (P 261) no (nI (lenR its))) (h262 : P' 262 = upd (P 262) no (nI (lenR its + lenR b))) (ht : tcO b [] = some [true]) : ORX val ρ F' V' P' (its ++ b) (no + 1) := by
  obtain ⟨g1, g2, g3, g4, g5, g6, g7⟩ := h
  refine ⟨hF40, hV257, by omega, by rw [List.length_append]; exact hl, fun j hj => ?_, fun q hq hn => ?_, fun o ho => ?_⟩
  · rw [List.length_append] at hj
    rcases Nat.lt_or_ge j its.length with g | g
    · rw [(h46 j g).1, (h46 j g).2, List.getElem_append_left g]
      exact g5 j g
    · obtain ⟨d, rfl⟩ : ∃ d, j = its.length + d := ⟨j - its.length, by omega⟩
      have hd : d < b.length := by omega
      have e : (its ++ b)[its.length + d]'(by rw [List.length_append]; exact hj) = b[d] := by
        rw [List.getElem_append_right (Nat.le_add_right _ _)]
        congr 1
        omega
      rw [e]
      exact h46' d hd
  · rcases List.mem_append.mp hq with y | y
    · exact g6 q y hn
    · exact hnm q y hn
  · rw [h41, h42, h43, h44, h259, h260, h261, h262]
    by_cases e : o = no
    · subst e
      rw [upd_s, upd_s, upd_s, upd_s, upd_s, upd_s, upd_s, upd_s]
      exact ⟨hs, rfl, its, b, [], by rw [List.append_nil], rfl, rfl, rfl, rfl, ht⟩
    · rw [upd_n _ _ e, upd_n _ _ e, upd_n _ _ e, upd_n _ _ e, upd_n _ _ e, upd_n _ _ e, upd_n _ _ e, upd_n _ _ e]
      obtain ⟨q1, q2, a, b', c, q3, q4⟩ := g7 o (by omega)
      exact ⟨q1, q2, a, b', c ++ b, by rw [q3]; simp, q4⟩
theorem mnv_16 {x : Nat} (hx : x ≤ 1000) : mnv (nI x) 16 = nI (min x 16) := by
  unfold mnv
  have e : (16 : Int32) = nI 16 := rfl
  rw [e]
  by_cases c : nI 16 < nI x
  · rw [if_pos c]
    rw [lt_nI (by omega) (by omega)] at c
    rw [Nat.min_eq_right (by omega)]
  · rw [if_neg c]
    rw [lt_nI (by omega) (by omega)] at c
    rw [Nat.min_eq_left (by omega)]
theorem rE1_n {P : M2} (q : IT) {k : Nat} (h : k < 263 ∨ 266 < k) : rE1 val P q k = P k := by
  unfold rE1
  split
  · rw [pt_n _ (by omega) (by omega), pt_n _ (by omega) (by omega)]
  · split
    · rw [pt_n _ (by omega) (by omega), opn_n (by omega) (by omega), pt_n _ (by omega) (by omega)]
    · rw [pt_n _ (by omega) (by omega)]
theorem rE_n {k : Nat} (h : k < 263 ∨ 266 < k) : ∀ (its : List IT) (P : M2), rE val its P k = P k
  | [], _ => rfl
  | q :: its, P => by
    show rE val its (rE1 val P q) k = P k
    rw [rE_n h its, rE1_n q h]
def odC (p : Nat) (F : M2) : M2 := if F 40 0 < 16 then F else tf F 4 p
theorem odC_n {p : Nat} {F : M2} {k : Nat} (h1 : k ≠ 67) (h2 : k ≠ 68) : odC p F k = F k := by
  unfold odC
  split
  · rfl
  · exact tf_n _ _ _ h1 h2
theorem odC_off {F : M2} {e : Int32} {k t : Nat} (h : CER F e k) : odC t F = F := by
  unfold odC
  rw [tf_off h, ite_self]
/-- the plan of the first pass: an order begins; it ends -/
def PA (nr : Nat) (P : M2) : M2 := up2 (up2 P 258 (fun _ => nI (nr + 1))) 261 (upd (P 261) (min nr 16) (P 264 0))
def PZ (nr : Nat) (P : M2) : M2 := up2 P 262 (upd (P 262) (min nr 16) (P 264 0))
theorem SN.rows {N P : M2} {p dp : Nat} (h : SN κ m N0 N P p dp) {P' : M2} (h264 : P' 264 = P 264) (h266 : P' 266 = P 266) : SN κ m N0 N P' p dp := by
  obtain ⟨x1, x2, x3, x4, x5, x6⟩ := h
  exact ⟨x1, x2, x3, x4, x5, by rw [h264, h266]; exact x6⟩
theorem FC.via {F G F' : M2} {p' : Nat} (h : FC G F' p') (hG : ∀ k, (k ≤ 44 ∨ 68 < k) → G k = F k) : FC F F' p' := ⟨h.1, fun k hk => (h.2 k hk).trans (hG k hk)⟩
theorem FN.via {F G F' : M2} {p' : Nat} (h : FN G F' p') (hG : ∀ k, (k ≤ 226 ∨ 230 < k) → G k = F k) : FN F F' p' := ⟨h.1, fun k hk => (h.2 k hk).trans (hG k hk)⟩
def OUTG (κ : Nat → Int32) (m : Nat) (val : Nat → Int64) (N0 V0 : M2) (w2 : W2) (w8 : W8) (p : Nat) (F : M2) (L : L2) (N P : M2) : Prop :=
  (∃ (q : Nat) (F' : M2) (L' : L2) (N' P' : M2) (its' : List IT) (nr' : Nat), p < q ∧ BND κ m val N0 V0 F' L' N' P' q its' nr' ∧ (∀ k, 68 < k → F' k = F k) ∧ (∀ k, (k < 61 ∨ 64 < k) → L' k = L k) ∧ (∀ k, (k ≤ 226 ∨ 230 < k) → N' k = N k) ∧ (∀ k, (k < 258 ∨ k = 259 ∨ k = 260 ∨ 266 < k) → P' k = P k) ∧ (∀ K, K 1 F' L' → w2 F L K) ∧ (∀ K, K 1 N' P' → w8 N P K)) ∨ FAIL m w2 w8 F L N P
theorem sy_ord_WHISTLE (hK : KIN κ m) (hNum : NUM κ m val N0) (hSid : SID κ m val) {F : M2} {L : L2} {N P : M2} {p nr : Nat} (hc : SC κ m val F L p) (hs : SN κ m N0 N P p 0) (h258 : P 258 0 = nI nr) (hnr : nr ≤ 400) (h0 : ck (κ p) = 48) :
    (∃ (p1 : Nat) (its : List IT) (N3 : M2), p + 3 ≤ p1 ∧ ck (κ (p + 1)) = 3 ∧ GI κ m (p + 3) p1 [] [true] its ∧ LNS κ m N0 N N3 (PA nr P) (p + 1 + 1 + 1) [(p, 5), (p + 1, 18)]
      ∧ (∀ K : Int32 → M2 → L2 → Prop, (¬ cT p1 (cE val L its (cT (p + 3) (odC p F))) 67 0 = 0 → K 1 (cT p1 (cE val L its (cT (p + 3) (odC p F)))) L) → (cT p1 (cE val L its (cT (p + 3) (odC p F))) 67 0 = 0 → wp_X0_add (cT p1 (cE val L its (cT (p + 3) (odC p F)))) L 48 (val (p + 1)).toInt32 (F 45 0) (fun F L => K 1 F L)) → wp_X2_orderLine_WHISTLE_HEAD F L 48 K)
      ∧ (∀ K : Int32 → M2 → M2 → Prop, K 1 (rT p1 (rR its N3)) (PZ nr (rE val its (PA nr P))) → wp_X8_isOrderLine N P K))
    ∨ FAIL m (fun F L K => wp_X2_orderLine_WHISTLE_HEAD F L 48 K) (fun N P K => wp_X8_isOrderLine N P K) F L N P := by
  have hm := hK.1
  have hpm := hc.2.1
  have k0 : κ p = 17 := (ck_48 (hK.2.1 p hpm)).mp h0
  have hp1 := hK.lt hpm k0 (by decide)
  have hcO : SC κ m val (odC p F) L p := hc.rows (odC_n (by decide) (by decide)) (odC_n (by decide) (by decide)) rfl
  have hsA : SN κ m N0 N (up2 P 258 (fun _ => nI (nr + 1))) p 0 := hs.rows (up2_n _ _ (by decide)) (up2_n _ _ (by decide))
  obtain ⟨g1, g2⟩ := hs.get hK
  have v229 : (N 229 0).toInt.toNat = p := by rw [hs.1]; exact tn_nI (by omega)
  -- the class up to the head
  have cl : ∀ K : Int32 → M2 → L2 → Prop, wj_X2_orderLine_WHISTLE_HEAD_26 K (odC p F) L 48 (nI p) → wp_X2_orderLine_WHISTLE_HEAD F L 48 K := fun K h v3 e3 => by
    have e3 : v3 = nI p := by rw [e3, hc.1]
    subst e3
    unfold odC at h
    refine And.intro (fun c => ?_) (fun c => c_tell ?_)
    · rw [if_pos c] at h
      exact h
    · rw [if_neg c] at h
      exact h
  -- the reference up to its second token
  have rf : ∀ K : Int32 → M2 → M2 → Prop, (∀ v2, v2 = nI (min nr 16) → wp_X8_isEnd (rT (p + 1) (up2 N 227 (upd (N 227) p 5))) (up2 P 258 (fun _ => nI (nr + 1))) 18 (fun r_90 N_90 P_90 => ((r_90 = 0 → K 0 N_90 P_90) ∧ (¬ r_90 = 0 → wj_X8_isOrderLine_110 K N_90 P_90 v2)))) → wp_X8_isOrderLine N P K := fun K h => by
    refine ⟨g1, fun v1 e1 => ?_⟩
    rw [g2, k0] at e1
    subst e1
    have fin : wj_X8_isOrderLine_24 K N P 17 := by
      refine And.intro (fun z => absurd rfl z) (fun _ => ?_)
      refine ⟨by rw [hs.1]; exact inb_nI (by omega) (by decide), fun N1 e1 N2 e2 v2 e3 P1 e4 => ?_⟩
      rw [v229] at e1
      have e2 : N2 = rT (p + 1) (up2 N 227 (upd (N 227) p 5)) := by
        rw [e2, e1, up2_n _ _ (by decide), hs.1, nI_1]
        rfl
      rw [h258, mnv_16 (by omega)] at e3
      rw [h258, nI_1] at e4
      subst e2 e4
      exact And.intro (fun z => absurd rfl z) (fun _ => h v2 e3)
    exact And.intro (fun _ => fin) (fun z => absurd rfl z)
  obtain ⟨n, hn, hM, hF⟩ := first_fail (fun j => ck (κ (p + j)) = kWHISTLE_HEAD j) 3
  have hpn := m_all_WHISTLE_HEAD hK hpm hn hM
  have hn0 : 0 < n := by
    rcases Nat.eq_zero_or_pos n with h | h
    · subst h
      exact absurd h0 (hF (by decide))
    · exact h
  have hcl : ∀ K : Int32 → M2 → L2 → Prop, K (if n = 3 then 1 else 0) (cT (p + n) (odC p F)) L → wp_X2_takeAll_WHISTLE_HEAD (odC p F) L K := fun K h => c_all_WHISTLE_HEAD hK hcO hn hM hF hpn h
  have z1 := (LNS.start hsA).as (by omega) 5
  have oF : ∀ q k, (k ≤ 44 ∨ 68 < k) → cT q (odC p F) k = F k := fun q k hk => by
    unfold cT
    rw [up2_n _ _ (by omega), odC_n (by omega) (by omega)]
  by_cases e1 : n = 1
  · subst e1
    have d1 : ¬ ck (κ (p + 1)) = 3 := hF (by decide)
    have z2 := z1.role 18
    refine Or.inr ⟨p + 1, cT (p + 1) (odC p F), _, up2 P 258 (fun _ => nI (nr + 1)), by omega, ⟨by unfold cT; rw [up2_s], oF _⟩, z2.fn, fun K hk => cl K (hcl _ ?_), fun K hk => rf K (fun v2 _ => ?_)⟩
    · rw [if_neg (by decide)]
      exact And.intro (fun z => absurd rfl z) (fun _ => hk)
    · exact r_isEnd z1.1 hK (fun z => absurd z d1) (fun _ => And.intro (fun _ => hk) (fun z => absurd rfl z))
  have c1 : ck (κ (p + 1)) = 3 := hM 1 (by omega)
  have z2 := z1.as (by omega) 18
  by_cases e2 : n = 2
  · subst e2
    have d2 : ¬ ck (κ (p + 1 + 1)) = 50 := hF (by decide)
    have n2 : ¬ κ (p + 1 + 1) = 19 := fun z => d2 ((ck_50 (hK.2.1 _ (by omega))).mpr z)
    refine Or.inr ⟨p + 2, cT (p + 2) (odC p F), _, up2 P 258 (fun _ => nI (nr + 1)), by omega, ⟨by unfold cT; rw [up2_s], oF _⟩, z2.fn, fun K hk => cl K (hcl _ ?_), fun K hk => rf K (fun v2 _ => ?_)⟩
    · rw [if_neg (by decide)]
      exact And.intro (fun z => absurd rfl z) (fun _ => hk)
    · refine r_isEnd z1.1 hK (fun _ => And.intro (fun z => absurd z (by decide)) (fun _ => ?_)) (fun z => absurd c1 z)
      exact r_eat z2.1 hK (fun z => absurd z n2) (fun _ => And.intro (fun z => absurd rfl z) (fun _ => hk))
  have e3 : n = 3 := by omega
  subst e3
  have c2 : κ (p + 1 + 1) = 19 := (ck_50 (hK.2.1 _ (by omega))).mp (hM 2 (by decide))
  have z3 := z2.eat (by omega)
  have hsB := z3.1.rows (P' := PA nr P) (by unfold PA; rw [up2_n _ _ (by decide)]) (by unfold PA; rw [up2_n _ _ (by decide)])
  have zB : LNS κ m N0 N _ (PA nr P) (p + 1 + 1 + 1) _ := ⟨hsB, z3.2⟩
  have hcH : SC κ m val (cT (p + 3) (odC p F)) L (p + 3) := hcO.adv hpn
  have hc2 : SC κ m val (cT (p + 3) (odC p F)) L (p + 1 + 1 + 1) := hcH
  have F2n : ∀ k, (k ≤ 44 ∨ 68 < k) → (cT (p + 3) (odC p F)) k = F k := fun k hk => by
    exact oF _ k hk
  have F245 : (cT (p + 3) (odC p F)) 45 0 = F 45 0 := by
    unfold cT; rw [up2_n _ _ (by decide), odC_n (by decide) (by decide)]
  -- the class up to the test
  have cl2 : ∀ K : Int32 → M2 → L2 → Prop, wp_X2_test (gX2 120) (cT (p + 3) (odC p F)) L 0 (fun r F' L' => ((¬ r = 0 → ((¬ (F' 67 0) = 0 → K 1 F' L') ∧ ((F' 67 0) = 0 → wp_X0_add F' L' 48 (val (p + 1)).toInt32 (F 45 0) (fun F L => K 1 F L)))) ∧ (r = 0 → K 0 F' L'))) → wp_X2_orderLine_WHISTLE_HEAD F L 48 K := fun K h => cl K (hcl _ (by
    rw [if_pos rfl]
    refine And.intro (fun _ => And.intro (fun z => absurd rfl z) (fun _ => ?_)) (fun z => absurd z (by decide))
    unfold wp_X2_number
    rw [nI_1, hcH.vl hK (by omega)]
    intro v5 e5
    rw [F245] at e5
    subst e5
    exact h))
  have rf2 : ∀ K : Int32 → M2 → M2 → Prop, wp_X8_isTest (gX8 120) _ (PA nr P) (fun r_138 N_138 P_138 => ((¬ r_138 = 0 → (inb (nI (min nr 16)) 17 ∧ ∀ P_161 : M2, P_161 = up2 P_138 262 (upd (P_138 262) (nI (min nr 16)).toInt.toNat (P_138 264 0)) → K 1 N_138 P_161)) ∧ (r_138 = 0 → K 0 N_138 P_138))) → wp_X8_isOrderLine N P K := fun K h => rf K (fun v2 ev => by
    subst ev
    refine r_isEnd z1.1 hK (fun _ => And.intro (fun z => absurd z (by decide)) (fun _ => ?_)) (fun z => absurd c1 z)
    refine r_eat z2.1 hK (fun _ => And.intro (fun _ => ⟨inb_nI (by omega) (by decide), fun P1 e1 => ?_⟩) (fun z => absurd z (by decide))) (fun z => absurd c2 z)
    have e1 : P1 = PA nr P := by
      rw [e1, tn_nI (by omega), up2_n _ _ (by decide), up2_n _ _ (by decide)]
      rfl
    subst e1
    exact h)
  rcases pz_line hK hNum hSid hc2 hsB with ⟨p1, its, hlt, hG, t2, t8⟩ | ⟨p', F', N', P', hp', fc, fn, t2, t8⟩
  · refine Or.inl ⟨p1, its, _, by omega, c1, hG, zB, fun K ha hb => cl2 K (t2 _ (And.intro (fun _ => ⟨ha, hb⟩) (fun z => absurd z (by decide)))), fun K hk => rf2 K (t8 _ (And.intro (fun _ => ⟨inb_nI (by omega) (by decide), fun P2 e2 => by
      rw [e2, tn_nI (by omega)]
      exact hk⟩) (fun z => absurd z (by decide))))⟩
  · exact Or.inr ⟨p', F', N', P', hp', fc.via F2n, fn.via zB.2.2, fun K hk => cl2 K (t2 _ (And.intro (fun z => absurd rfl z) (fun _ => hk))), fun K hk => rf2 K (t8 _ (And.intro (fun z => absurd rfl z) (fun _ => hk)))⟩
theorem sy_ord_REST (hK : KIN κ m) (hNum : NUM κ m val N0) (hSid : SID κ m val) {F : M2} {L : L2} {N P : M2} {p nr : Nat} (hc : SC κ m val F L p) (hs : SN κ m N0 N P p 0) (h258 : P 258 0 = nI nr) (hnr : nr ≤ 400) (h0 : ck (κ p) = 49) :
    (∃ (p1 : Nat) (its : List IT) (N3 : M2), p + 3 ≤ p1 ∧ ck (κ (p + 1)) = 2 ∧ GI κ m (p + 3) p1 [] [true] its ∧ LNS κ m N0 N N3 (PA nr P) (p + 1 + 1 + 1) [(p, 6), (p + 1, 19)]
      ∧ (∀ K : Int32 → M2 → L2 → Prop, (¬ cT p1 (cE val L its (knC (idx (L 63) (F 23 0) 6 (val (p + 1))) (p + 1) (cT (p + 3) (odC p F)))) 67 0 = 0 → K 1 (cT p1 (cE val L its (knC (idx (L 63) (F 23 0) 6 (val (p + 1))) (p + 1) (cT (p + 3) (odC p F))))) L) → (cT p1 (cE val L its (knC (idx (L 63) (F 23 0) 6 (val (p + 1))) (p + 1) (cT (p + 3) (odC p F)))) 67 0 = 0 → wp_X0_add (cT p1 (cE val L its (knC (idx (L 63) (F 23 0) 6 (val (p + 1))) (p + 1) (cT (p + 3) (odC p F))))) L 49 (idx (L 63) (F 23 0) 6 (val (p + 1))) (F 45 0) (fun F L => K 1 F L)) → wp_X2_orderLine_REST_HEAD F L 49 K)
      ∧ (∀ K : Int32 → M2 → M2 → Prop, K 1 (rT p1 (rR its N3)) (PZ nr (rE val its (PA nr P))) → wp_X8_isOrderLine N P K))
    ∨ FAIL m (fun F L K => wp_X2_orderLine_REST_HEAD F L 49 K) (fun N P K => wp_X8_isOrderLine N P K) F L N P := by
  have hm := hK.1
  have hpm := hc.2.1
  have k0 : κ p = 18 := (ck_49 (hK.2.1 p hpm)).mp h0
  have hp1 := hK.lt hpm k0 (by decide)
  have hcO : SC κ m val (odC p F) L p := hc.rows (odC_n (by decide) (by decide)) (odC_n (by decide) (by decide)) rfl
  have hsA : SN κ m N0 N (up2 P 258 (fun _ => nI (nr + 1))) p 0 := hs.rows (up2_n _ _ (by decide)) (up2_n _ _ (by decide))
  obtain ⟨g1, g2⟩ := hs.get hK
  have v229 : (N 229 0).toInt.toNat = p := by rw [hs.1]; exact tn_nI (by omega)
  -- the class up to the head
  have cl : ∀ K : Int32 → M2 → L2 → Prop, wj_X2_orderLine_REST_HEAD_26 K (odC p F) L 49 (nI p) → wp_X2_orderLine_REST_HEAD F L 49 K := fun K h v3 e3 => by
    have e3 : v3 = nI p := by rw [e3, hc.1]
    subst e3
    unfold odC at h
    refine And.intro (fun c => ?_) (fun c => c_tell ?_)
    · rw [if_pos c] at h
      exact h
    · rw [if_neg c] at h
      exact h
  -- the reference up to its second token
  have rf : ∀ K : Int32 → M2 → M2 → Prop, (∀ v2, v2 = nI (min nr 16) → wp_X8_eatAs (rT (p + 1) (up2 N 227 (upd (N 227) p 6))) (up2 P 258 (fun _ => nI (nr + 1))) 40 19 (fun r_104 N_104 P_104 => ((r_104 = 0 → K 0 N_104 P_104) ∧ (¬ r_104 = 0 → wj_X8_isOrderLine_110 K N_104 P_104 v2)))) → wp_X8_isOrderLine N P K := fun K h => by
    refine ⟨g1, fun v1 e1 => ?_⟩
    rw [g2, k0] at e1
    subst e1
    have fin : wj_X8_isOrderLine_24 K N P 18 := by
      refine And.intro (fun _ => ?_) (fun z => absurd z (by decide))
      refine ⟨by rw [hs.1]; exact inb_nI (by omega) (by decide), fun N1 e1 N2 e2 v2 e3 P1 e4 => ?_⟩
      rw [v229] at e1
      have e2 : N2 = rT (p + 1) (up2 N 227 (upd (N 227) p 6)) := by
        rw [e2, e1, up2_n _ _ (by decide), hs.1, nI_1]
        rfl
      rw [h258, mnv_16 (by omega)] at e3
      rw [h258, nI_1] at e4
      subst e2 e4
      exact And.intro (fun _ => h v2 e3) (fun z => absurd z (by decide))
    exact And.intro (fun z => absurd z (by decide)) (fun _ => And.intro (fun _ => fin) (fun z => absurd rfl z))
  obtain ⟨n, hn, hM, hF⟩ := first_fail (fun j => ck (κ (p + j)) = kREST_HEAD j) 3
  have hpn := m_all_REST_HEAD hK hpm hn hM
  have hn0 : 0 < n := by
    rcases Nat.eq_zero_or_pos n with h | h
    · subst h
      exact absurd h0 (hF (by decide))
    · exact h
  have hcl : ∀ K : Int32 → M2 → L2 → Prop, K (if n = 3 then 1 else 0) (cT (p + n) (odC p F)) L → wp_X2_takeAll_REST_HEAD (odC p F) L K := fun K h => c_all_REST_HEAD hK hcO hn hM hF hpn h
  have z1 := (LNS.start hsA).as (by omega) 6
  have oF : ∀ q k, (k ≤ 44 ∨ 68 < k) → cT q (odC p F) k = F k := fun q k hk => by
    unfold cT
    rw [up2_n _ _ (by omega), odC_n (by omega) (by omega)]
  by_cases e1 : n = 1
  · subst e1
    have d1 : ¬ ck (κ (p + 1)) = 2 := hF (by decide)
    have z2 := z1.role 19
    refine Or.inr ⟨p + 1, cT (p + 1) (odC p F), _, up2 P 258 (fun _ => nI (nr + 1)), by omega, ⟨by unfold cT; rw [up2_s], oF _⟩, z2.fn, fun K hk => cl K (hcl _ ?_), fun K hk => rf K (fun v2 _ => ?_)⟩
    · rw [if_neg (by decide)]
      exact And.intro (fun z => absurd rfl z) (fun _ => hk)
    · exact r_eatAs z1.1 hK (fun z => absurd ((ck_2 (hK.2.1 _ (by omega))).mpr z) d1) (fun _ => And.intro (fun _ => hk) (fun z => absurd rfl z))
  have c1 : ck (κ (p + 1)) = 2 := hM 1 (by omega)
  have k1 : κ (p + 1) = 40 := (ck_2 (hK.2.1 _ (by omega))).mp c1
  have z2 := z1.as (by omega) 19
  by_cases e2 : n = 2
  · subst e2
    have d2 : ¬ ck (κ (p + 1 + 1)) = 50 := hF (by decide)
    have n2 : ¬ κ (p + 1 + 1) = 19 := fun z => d2 ((ck_50 (hK.2.1 _ (by omega))).mpr z)
    refine Or.inr ⟨p + 2, cT (p + 2) (odC p F), _, up2 P 258 (fun _ => nI (nr + 1)), by omega, ⟨by unfold cT; rw [up2_s], oF _⟩, z2.fn, fun K hk => cl K (hcl _ ?_), fun K hk => rf K (fun v2 _ => ?_)⟩
    · rw [if_neg (by decide)]
      exact And.intro (fun z => absurd rfl z) (fun _ => hk)
    · refine r_eatAs z1.1 hK (fun _ => And.intro (fun z => absurd z (by decide)) (fun _ => ?_)) (fun z => absurd k1 z)
      exact r_eat z2.1 hK (fun z => absurd z n2) (fun _ => And.intro (fun z => absurd rfl z) (fun _ => hk))
  have e3 : n = 3 := by omega
  subst e3
  have c2 : κ (p + 1 + 1) = 19 := (ck_50 (hK.2.1 _ (by omega))).mp (hM 2 (by decide))
  have z3 := z2.eat (by omega)
  have hsB := z3.1.rows (P' := PA nr P) (by unfold PA; rw [up2_n _ _ (by decide)]) (by unfold PA; rw [up2_n _ _ (by decide)])
  have zB : LNS κ m N0 N _ (PA nr P) (p + 1 + 1 + 1) _ := ⟨hsB, z3.2⟩
  have hcH : SC κ m val (cT (p + 3) (odC p F)) L (p + 3) := hcO.adv hpn
  have hc2 : SC κ m val (knC (idx (L 63) (F 23 0) 6 (val (p + 1))) (p + 1) (cT (p + 3) (odC p F))) L (p + 1 + 1 + 1) := hcH.rows (knC_n (by decide) (by decide)) (knC_n (by decide) (by decide)) rfl
  have F2n : ∀ k, (k ≤ 44 ∨ 68 < k) → (knC (idx (L 63) (F 23 0) 6 (val (p + 1))) (p + 1) (cT (p + 3) (odC p F))) k = F k := fun k hk => by
    rw [knC_n (by omega) (by omega)]; exact oF _ k hk
  have F245 : (knC (idx (L 63) (F 23 0) 6 (val (p + 1))) (p + 1) (cT (p + 3) (odC p F))) 45 0 = F 45 0 := by
    rw [knC_n (by decide) (by decide)]; unfold cT; rw [up2_n _ _ (by decide), odC_n (by decide) (by decide)]
  -- the class up to the test
  have cl2 : ∀ K : Int32 → M2 → L2 → Prop, wp_X2_test (gX2 120) (knC (idx (L 63) (F 23 0) 6 (val (p + 1))) (p + 1) (cT (p + 3) (odC p F))) L 0 (fun r F' L' => ((¬ r = 0 → ((¬ (F' 67 0) = 0 → K 1 F' L') ∧ ((F' 67 0) = 0 → wp_X0_add F' L' 49 (idx (L 63) (F 23 0) 6 (val (p + 1))) (F 45 0) (fun F L => K 1 F L)))) ∧ (r = 0 → K 0 F' L'))) → wp_X2_orderLine_REST_HEAD F L 49 K := fun K h => cl K (hcl _ (by
    rw [if_pos rfl]
    refine And.intro (fun _ => And.intro (fun _ => ?_) (fun z => absurd z (by decide))) (fun z => absurd z (by decide))
    have e23 : cT (p + 3) (odC p F) 23 0 = F 23 0 := by rw [oF _ 23 (by decide)]
    rw [nI_1, e23]
    refine c_known_nL hcH hK (by omega) ?_
    intro v5 e5
    have e5 : v5 = F 45 0 := e5.trans F245
    subst e5
    exact h))
  have rf2 : ∀ K : Int32 → M2 → M2 → Prop, wp_X8_isTest (gX8 120) _ (PA nr P) (fun r_138 N_138 P_138 => ((¬ r_138 = 0 → (inb (nI (min nr 16)) 17 ∧ ∀ P_161 : M2, P_161 = up2 P_138 262 (upd (P_138 262) (nI (min nr 16)).toInt.toNat (P_138 264 0)) → K 1 N_138 P_161)) ∧ (r_138 = 0 → K 0 N_138 P_138))) → wp_X8_isOrderLine N P K := fun K h => rf K (fun v2 ev => by
    subst ev
    refine r_eatAs z1.1 hK (fun _ => And.intro (fun z => absurd z (by decide)) (fun _ => ?_)) (fun z => absurd k1 z)
    refine r_eat z2.1 hK (fun _ => And.intro (fun _ => ⟨inb_nI (by omega) (by decide), fun P1 e1 => ?_⟩) (fun z => absurd z (by decide))) (fun z => absurd c2 z)
    have e1 : P1 = PA nr P := by
      rw [e1, tn_nI (by omega), up2_n _ _ (by decide), up2_n _ _ (by decide)]
      rfl
    subst e1
    exact h)
  rcases pz_line hK hNum hSid hc2 hsB with ⟨p1, its, hlt, hG, t2, t8⟩ | ⟨p', F', N', P', hp', fc, fn, t2, t8⟩
  · refine Or.inl ⟨p1, its, _, by omega, c1, hG, zB, fun K ha hb => cl2 K (t2 _ (And.intro (fun _ => ⟨ha, hb⟩) (fun z => absurd z (by decide)))), fun K hk => rf2 K (t8 _ (And.intro (fun _ => ⟨inb_nI (by omega) (by decide), fun P2 e2 => by
      rw [e2, tn_nI (by omega)]
      exact hk⟩) (fun z => absurd z (by decide))))⟩
  · exact Or.inr ⟨p', F', N', P', hp', fc.via F2n, fn.via zB.2.2, fun K hk => cl2 K (t2 _ (And.intro (fun z => absurd rfl z) (fun _ => hk))), fun K hk => rf2 K (t8 _ (And.intro (fun z => absurd rfl z) (fun _ => hk)))⟩
end ORDERS
