/-! ===== names, brackets, single tests, values ===== -/
section GRAM2
variable {κ : Nat → Int32} {m : Nat} {val : Nat → Int64} {N0 : M2}
theorem room800 {i1 : List IT} {N P : M2} {p q dp dp' : Nat} {a b : List Bool} (hs : SN κ m N0 N P p dp) (hG : GI κ m p q a b i1) (hm : m ≤ 400) (hlt : i1.length + 1 + p ≤ q) : ∃ c, rE val i1 P 264 0 = nI c ∧ c < 799 := by
  obtain ⟨c, o', g6, g7, _⟩ := hs.2.2.2.2.2
  have l := lenR_le i1
  have := hG.2.1
  exact ⟨c + lenR i1, rE_264 (val := val) i1 g6, by omega⟩
theorem pz_named_nL (hK : KIN κ m) {op as : Int32} {b : Bool} (hop : op = 8 ∨ op = 11) (has : as = if op = 8 ∨ op = 11 then 20 else 21) (htc : ∀ ts, tcO1 op ts = some (b :: ts)) {F : M2} {L : L2} {N P : M2} {p dp : Nat} (hc : SC κ m val F L p) (hs : SN κ m N0 N P p dp) (hk : κ p = encV op) :
    RES κ m val (fun F L K => wp_X2_ofOne_nL F L op (F 23 0) (fun r F L => (zb r ∧ K r F L))) (fun N P K => wp_X8_isNamed N P as (fun r N P => (zb r ∧ K r N P))) [] [b] p F L N P := by
  have hm := hK.1
  have hpm := hc.2.1
  have hn : isNm op := by rcases hop with rfl | rfl <;> decide
  have h9 : encV op < 900 := by rcases hop with rfl | rfl <;> decide
  have hp1 := hK.lt hpm hk h9
  have hv := hK.2.1 (p + 1) (by omega)
  by_cases h4 : κ (p + 1) = 40
  · have hp2 := hK.lt (p := p + 1) (by omega) h4 (by decide)
    refine Or.inl ⟨p + 2, [(op, p + 1)], by omega, ⟨by simp; omega, by omega, fun ts => ?_, ?_, fun q hq => ?_⟩, fun K hk' => ?_, fun K hk' => ?_⟩
    · show (tcO1 op ts).bind (tcO []) = _
      rw [htc]
      rfl
    · have : nms [(op, p + 1)] = [p + 1] := by simp only [nms, List.filter_cons, decide_eq_true hn]; rfl
      rw [this]
      exact ⟨by omega, by show p + 1 + 1 ≤ p + 2; omega⟩
    · rw [List.mem_singleton.mp hq]
      refine ⟨fun _ => h4, fun z => ?_, fun z => ?_⟩
      · have z : op = 4 := z
        rcases hop with rfl | rfl <;> exact absurd z (by decide)
      · have z : op = 7 := z
        rcases hop with rfl | rfl <;> exact absurd z (by decide)
    · exact c_ofOne_nL hc hK hp1 hop (fun _ => ⟨by decide, hk'⟩) (fun z => absurd ((ck_2 hv).mpr h4) z)
    · exact r_named hs hK hp1 hn hk has (fun _ => ⟨by decide, hk'⟩) (fun z => absurd h4 z)
  · refine Or.inr ⟨p + 1, cT (p + 1) F, up2 (rT (p + 1) N) 227 (upd (N 227) (p + 1) as), pt (opn (pt P (encV op))) (nI (p + 1)), by omega, FC.adv, ⟨by rw [up2_n _ _ (by decide)]; exact FN.adv.1, fun k hk => by rw [up2_n _ _ (by omega)]; exact FN.adv.2 k hk⟩, fun K hk' => ?_, fun K hk' => ?_⟩
    · exact c_ofOne_nL hc hK hp1 hop (fun z => absurd ((ck_2 hv).mp z) h4) (fun _ => ⟨by decide, hk'⟩)
    · exact r_named (val := val) hs hK hp1 hn hk has (fun z => absurd z h4) (fun _ => ⟨by decide, hk'⟩)
theorem pz_named_nO (hK : KIN κ m) {op as : Int32} {b : Bool} (hop : op = 9 ∨ op = 10) (has : as = if op = 8 ∨ op = 11 then 20 else 21) (htc : ∀ ts, tcO1 op ts = some (b :: ts)) {F : M2} {L : L2} {N P : M2} {p dp : Nat} (hc : SC κ m val F L p) (hs : SN κ m N0 N P p dp) (hk : κ p = encV op) :
    RES κ m val (fun F L K => wp_X2_ofOne_nO F L op (F 24 0) (fun r F L => (zb r ∧ K r F L))) (fun N P K => wp_X8_isNamed N P as (fun r N P => (zb r ∧ K r N P))) [] [b] p F L N P := by
  have hm := hK.1
  have hpm := hc.2.1
  have hn : isNm op := by rcases hop with rfl | rfl <;> decide
  have h9 : encV op < 900 := by rcases hop with rfl | rfl <;> decide
  have hp1 := hK.lt hpm hk h9
  have hv := hK.2.1 (p + 1) (by omega)
  by_cases h4 : κ (p + 1) = 40
  · have hp2 := hK.lt (p := p + 1) (by omega) h4 (by decide)
    refine Or.inl ⟨p + 2, [(op, p + 1)], by omega, ⟨by simp; omega, by omega, fun ts => ?_, ?_, fun q hq => ?_⟩, fun K hk' => ?_, fun K hk' => ?_⟩
    · show (tcO1 op ts).bind (tcO []) = _
      rw [htc]
      rfl
    · have : nms [(op, p + 1)] = [p + 1] := by simp only [nms, List.filter_cons, decide_eq_true hn]; rfl
      rw [this]
      exact ⟨by omega, by show p + 1 + 1 ≤ p + 2; omega⟩
    · rw [List.mem_singleton.mp hq]
      refine ⟨fun _ => h4, fun z => ?_, fun z => ?_⟩
      · have z : op = 4 := z
        rcases hop with rfl | rfl <;> exact absurd z (by decide)
      · have z : op = 7 := z
        rcases hop with rfl | rfl <;> exact absurd z (by decide)
    · exact c_ofOne_nO hc hK hp1 hop (fun _ => ⟨by decide, hk'⟩) (fun z => absurd ((ck_2 hv).mpr h4) z)
    · exact r_named hs hK hp1 hn hk has (fun _ => ⟨by decide, hk'⟩) (fun z => absurd h4 z)
  · refine Or.inr ⟨p + 1, cT (p + 1) F, up2 (rT (p + 1) N) 227 (upd (N 227) (p + 1) as), pt (opn (pt P (encV op))) (nI (p + 1)), by omega, FC.adv, ⟨by rw [up2_n _ _ (by decide)]; exact FN.adv.1, fun k hk => by rw [up2_n _ _ (by omega)]; exact FN.adv.2 k hk⟩, fun K hk' => ?_, fun K hk' => ?_⟩
    · exact c_ofOne_nO hc hK hp1 hop (fun z => absurd ((ck_2 hv).mp z) h4) (fun _ => ⟨by decide, hk'⟩)
    · exact r_named (val := val) hs hK hp1 hn hk has (fun z => absurd z h4) (fun _ => ⟨by decide, hk'⟩)
/-! brackets -/
/-- behind the sum: the depth is put back, the operation laid, the bracket closed -/
theorem r_in45 (hK : KIN κ m) {G : Nat → M2 → M2 → Int32 → Int32 → (Int32 → M2 → M2 → Prop) → Prop} {K : Int32 → M2 → M2 → Prop} {N P : M2} {p p1 dp : Nat} {i1 : List IT} {op how : Int32} (hs : SN κ m N0 N P p dp) {a b : List Bool} (hG : GI κ m p p1 a b i1) (hlen : i1.length + 1 + p ≤ p1) (hhow : (how = -1 ∧ op = 0) ∨ (¬ how = -1 ∧ encV op = how ∧ ¬ isNm op ∧ op ≠ 4 ∧ op ≠ 7 ∧ op ≠ 0))
    (h1 : κ p1 = 91 → K 1 (rT (p1 + 1) (rR i1 N)) (rE val (if op = 0 then i1 else i1 ++ [(op, 0)]) P)) (h0 : ¬ κ p1 = 91 → K 0 (rT p1 (rR i1 N)) (rE val (if op = 0 then i1 else i1 ++ [(op, 0)]) P)) :
    wj_X8_isInside_45 G (fun r N P => (K r N P)) (rT p1 (rR i1 (rT (p + 1) (up2 N 230 (fun _ => nI (dp + 1)))))) (rE val i1 P) how := by
  intro N1 e1
  rw [up_back hs (d' := 0)] at e1
  subst e1
  have hs1 := hs.to (val := val) hG
  refine And.intro (fun c => ?_) (fun c => ?_)
  · have e0 : op = 0 := by
      rcases hhow with z | z
      · exact z.2
      · exact absurd c z.1
    subst e0
    rw [if_pos rfl] at h1 h0
    refine r_eatSign hs1 hK (y := 91) (by decide) (fun z => ⟨by decide, ?_⟩) (fun z => ⟨by decide, h0 z⟩)
    have := h1 z
    rw [rT_rT]
    exact this
  · rcases hhow with z | ⟨_, hx, hn, h4, h7, e0⟩
    · exact absurd z.1 c
    rw [if_neg e0] at h1 h0
    obtain ⟨cc, g6, g7⟩ := room800 (val := val) (dp' := 0) hs hG hK.1 hlen
    refine r_put g6 (by omega) ?_
    have e3 : pt (rE val i1 P) how = rE val (i1 ++ [(op, 0)]) P := by
      rw [← r_one]
      unfold rE1
      dsimp only
      rw [if_neg (fun z => z.elim h4 h7), if_neg hn, hx]
    rw [e3]
    have hs2 : SN κ m N0 (rT p1 (rR i1 N)) (rE val (i1 ++ [(op, 0)]) P) p1 dp := by
      obtain ⟨y1, y2, y3, y4, y5, _⟩ := hs1
      obtain ⟨c', o', k6, k7, k8, k9⟩ := hs.2.2.2.2.2
      have l := lenR_le (i1 ++ [(op, 0)])
      have l2 := nms_le (i1 ++ [(op, 0)])
      simp only [List.length_append, List.length_cons, List.length_nil] at l l2
      exact ⟨y1, y2, y3, y4, y5, c' + lenR (i1 ++ [(op, 0)]), o' + (nms (i1 ++ [(op, 0)])).length, rE_264 _ k6, by omega, rE_266 _ k8, by omega⟩
    refine r_eatSign hs2 hK (y := 91) (by decide) (fun z => ⟨by decide, ?_⟩) (fun z => ⟨by decide, h0 z⟩)
    have := h1 z
    rw [rT_rT]
    exact this
def contIn (G : Nat → M2 → M2 → Int32 → Int32 → (Int32 → M2 → M2 → Prop) → Prop) (K : Int32 → M2 → M2 → Prop) (x1 x2 : Int32) : Int32 → M2 → M2 → Prop := (fun r_17 N_17 P_17 => ((r_17 = 0 → K 0 N_17 P_17) ∧ (¬ r_17 = 0 → ((x2 = 0 → wj_X8_isInside_45 G K N_17 P_17 x1) ∧ (¬ x2 = 0 → wp_X8_eatSign N_17 P_17 44 (fun r_30 N_30 P_30 => ((r_30 = 0 → K 0 N_30 P_30) ∧ (¬ r_30 = 0 → G 3 N_30 P_30 0 0 (fun r_37 N_37 P_37 => ((¬ r_37 = 0 → wj_X8_isInside_45 G K N_37 P_37 x1) ∧ (r_37 = 0 → K 0 N_37 P_37)))))))))))
theorem r_open (hK : KIN κ m) {G : Nat → M2 → M2 → Int32 → Int32 → (Int32 → M2 → M2 → Prop) → Prop} {K : Int32 → M2 → M2 → Prop} {N P : M2} {p dp : Nat} {x1 x2 : Int32} (hs : SN κ m N0 N P p dp) (hk : κ p = 90) (hd : dp < 8) (h : G 3 (rT (p + 1) (up2 N 230 (fun _ => nI (dp + 1)))) P 0 0 (contIn G K x1 x2)) : wp_X8_isInside G N P x1 x2 K :=
  r_sign hs hK (y := 90) (by decide) (fun _ => And.intro (fun z => absurd z (by decide)) (fun _ => r_deeper hs (by omega) (fun _ => And.intro (fun z => absurd z (by decide)) (fun _ => h)) (fun z => absurd z (by omega)))) (fun z => absurd hk z)
/-- one value in brackets; behind it an operation, if there is one -/
theorem pz_in1 (hK : KIN κ m) {n : Nat} (hS : CLM κ m val N0 n 4 3 false 5) {dp d2 d8 : Nat} (hdp : dp ≤ 8) (hn : 9 * (8 - dp) ≤ n + 4) (h2 : 9 * (8 - dp) ≤ d2 + 4) (h8 : 9 * (8 - dp) ≤ d8 + 4) {op how : Int32} (hhow : (how = -1 ∧ op = 0) ∨ (¬ how = -1 ∧ encV op = how ∧ ¬ isNm op ∧ op ≠ 4 ∧ op ≠ 7 ∧ op ≠ 0)) (htc : op = 0 ∨ ∀ ts, tcO1 op (false :: ts) = some (false :: ts)) {F : M2} {L : L2} {N P : M2} {p : Nat} (hc : SC κ m val F L p) (hs : SN κ m N0 N P p dp)
    {w2 : (Int32 → M2 → L2 → Prop) → (Int32 → M2 → L2 → Prop)} (w2t : ∀ (K : Int32 → M2 → L2 → Prop) (F' : M2), K 1 (if op = 0 then F' else cE1 val L F' (op, 0)) L → w2 K 1 F' L) (w2f : ∀ (K : Int32 → M2 → L2 → Prop) (F' : M2), K 0 F' L → w2 K 0 F' L) :
    RES κ m val (fun F L K => wp_X2_inBrackets (gX2 d2) F L (nI dp) (w2 K)) (fun N P K => wp_X8_isInside (gX8 d8) N P how 0 K) [] [false] p F L N P := by
  have hm := hK.1
  have hpm := hc.2.1
  have hv := hK.2.1 p hpm
  by_cases hk : κ p = 90
  rotate_left
  · -- no bracket
    have hck : ¬ ck (κ p) = 28 := fun z => hk ((ck_28 hv).mp z)
    refine Or.inr ⟨p, F, N, P, hpm, FC.self hc, FN.self hs, fun K hk' => ?_, fun K hk' => ?_⟩
    · refine And.intro (fun _ => And.intro (fun _ => w2f K F hk') (fun z => absurd rfl z)) (fun _ => c_take hc hK (fun z => absurd z hck) (fun _ => And.intro (fun _ => And.intro (fun _ => w2f K F hk') (fun z => absurd rfl z)) (fun z => absurd rfl z)))
    · exact r_sign hs hK (y := 90) (by decide) (fun z => absurd z hk) (fun _ => And.intro (fun _ => hk') (fun z => absurd rfl z))
  have hck : ck (κ p) = 28 := (ck_28 hv).mpr hk
  have hp1 := hK.lt hpm hk (by decide)
  by_cases hd : dp = 8
  · -- too deep
    refine Or.inr ⟨p, F, N, P, hpm, FC.self hc, FN.self hs, fun K hk' => ?_, fun K hk' => ?_⟩
    · exact c_deeper hc hK hdp hck (fun z => absurd hd (by omega)) (fun _ => And.intro (fun _ => w2f K F hk') (fun z => absurd rfl z))
    · exact r_sign hs hK (y := 90) (by decide) (fun _ => And.intro (fun z => absurd z (by decide)) (fun _ => r_deeper hs hdp (fun z => absurd hd (by omega)) (fun _ => And.intro (fun _ => hk') (fun z => absurd rfl z)))) (fun z => absurd hk z)
  have hd8 : dp < 8 := by omega
  have hc1 := hc.adv (q := p + 1) (by omega)
  have hs1 := hs.deep (by omega : p + 1 ≤ m) (d' := dp + 1)
  have A2 : ∀ (K : Int32 → M2 → L2 → Prop), gX2 d2 4 (cT (p + 1) F) L (nI (dp + 1)) (fun r_14 F_14 L_14 => ((r_14 = 0 → w2 K 0 F_14 L_14) ∧ (¬ r_14 = 0 → wp_X2_take F_14 L_14 29 (fun r_23 F_23 L_23 => ((r_23 = 0 → w2 K 0 F_23 L_23) ∧ (¬ r_23 = 0 → w2 K 1 F_23 L_23)))))) → wp_X2_inBrackets (gX2 d2) F L (nI dp) (w2 K) := fun K h => by
    refine c_deeper hc hK hdp hck (fun _ => And.intro (fun z => absurd z (by decide)) (fun _ => ?_)) (fun z => absurd z hd)
    rw [nI_1]
    exact h
  have A8 : ∀ (K : Int32 → M2 → M2 → Prop), gX8 d8 3 (rT (p + 1) (up2 N 230 (fun _ => nI (dp + 1)))) P 0 0 (contIn (gX8 d8) K how 0) → wp_X8_isInside (gX8 d8) N P how 0 K := fun K h => r_open hK hs hk hd8 h
  rcases hS (dp + 1) (p + 1) d2 d8 (by omega) (by omega) (by omega) (by omega) _ L _ P hc1 hs1 with ⟨p1, i1, hlt, hG, k2, k8⟩ | ⟨p', F', N', P', hp', fc, fn, k2, k8⟩
  rotate_left
  · exact Or.inr ⟨p', F', N', P', hp', FC.adv.trans fc, FN.deep.trans fn, fun K hk' => A2 K (k2 _ (And.intro (fun _ => w2f K F' hk') (fun z => absurd rfl z))), fun K hk' => A8 K (k8 _ (And.intro (fun _ => hk') (fun z => absurd rfl z)))⟩
  have hG0 : GI κ m p p1 [] [false] i1 := hG.skip
  have hlen : i1.length + 1 + p ≤ p1 := by have := hG.1; omega
  have hc2 := hc1.to (q := p1) hG.2.1 i1
  have hv1 := hK.2.1 p1 hG.2.1
  have hits : GI κ m p p1 [] [false] (if op = 0 then i1 else i1 ++ [(op, 0)]) := by
    rcases hhow with z | ⟨_, hx, hn', h4, h7, e0⟩
    · rw [if_pos z.2]
      exact hG0
    · rw [if_neg e0]
      exact hG.op hn' h4 h7 (htc.resolve_left e0)
  have hcE : (if op = 0 then cT (p1 + 1) (cE val L i1 F) else cE1 val L (cT (p1 + 1) (cE val L i1 F)) (op, 0)) = cT (p1 + 1) (cE val L (if op = 0 then i1 else i1 ++ [(op, 0)]) F) := by
    by_cases e0 : op = 0
    · rw [if_pos e0, if_pos e0]
    · rw [if_neg e0, if_neg e0, c_one]
  have hrN : rR i1 N = rR (if op = 0 then i1 else i1 ++ [(op, 0)]) N := by
    rcases hhow with z | ⟨_, hx, hn', h4, h7, e0⟩
    · rw [if_pos z.2]
    · rw [if_neg e0, rR_op hn']
  by_cases h91 : κ p1 = 91
  · have hp2 := hK.lt hG.2.1 h91 (by decide)
    refine Or.inl ⟨p1 + 1, (if op = 0 then i1 else i1 ++ [(op, 0)]), by omega, hits.behind hp2, fun K hk' => A2 K (k2 _ (And.intro (fun z => absurd z (by decide)) (fun _ => c_take hc2 hK (fun _ => And.intro (fun z => absurd z (by decide)) (fun _ => w2t K _ ?_)) (fun z => absurd ((ck_29 hv1).mpr h91) z)))), fun K hk' => A8 K (k8 _ (And.intro (fun z => absurd z (by decide)) (fun _ => And.intro (fun _ => r_in45 hK hs hG0 hlen hhow (fun _ => ?_) (fun z => absurd h91 z)) (fun z => absurd rfl z))))⟩
    · rw [c_chain1, cT_cT, hcE]
      exact hk'
    · rw [hrN]
      exact hk'
  · refine Or.inr ⟨p1, cT p1 (cE val L i1 F), rT p1 (rR i1 N), rE val (if op = 0 then i1 else i1 ++ [(op, 0)]) P, hG.2.1, FC.to, FN.to, fun K hk' => A2 K (k2 _ (And.intro (fun z => absurd z (by decide)) (fun _ => c_take hc2 hK (fun z => absurd ((ck_29 hv1).mp z) h91) (fun _ => And.intro (fun _ => w2f K _ ?_) (fun z => absurd rfl z))))), fun K hk' => A8 K (k8 _ (And.intro (fun z => absurd z (by decide)) (fun _ => And.intro (fun _ => r_in45 hK hs hG0 hlen hhow (fun z => absurd z h91) (fun _ => hk')) (fun z => absurd rfl z))))⟩
    rw [c_chain1]
    exact hk'
/-- two values in brackets -/
theorem pz_in2 (hK : KIN κ m) {n : Nat} (hS : CLM κ m val N0 n 4 3 false 5) {dp d2 d8 : Nat} (hdp : dp ≤ 8) (hn : 9 * (8 - dp) ≤ n + 4) (h2 : 9 * (8 - dp) ≤ d2 + 4) (h8 : 9 * (8 - dp) ≤ d8 + 4) {op how : Int32} (hhow : ¬ how = -1 ∧ encV op = how ∧ ¬ isNm op ∧ op ≠ 4 ∧ op ≠ 7 ∧ op ≠ 0) (htc : ∀ ts, tcO1 op (false :: false :: ts) = some (false :: ts)) {F : M2} {L : L2} {N P : M2} {p : Nat} (hc : SC κ m val F L p) (hs : SN κ m N0 N P p dp) :
    RES κ m val (fun F L K => wp_X2_ofTwo (gX2 d2) F L (nI dp) (fun r_330 F_330 L_330 => ((r_330 = 0 → K 0 F_330 L_330) ∧ (¬ r_330 = 0 → wp_X2_emit F_330 L_330 op 0 (fun r_339 F_339 L_339 => ((r_339 = 0 → K 0 F_339 L_339) ∧ (¬ r_339 = 0 → K 1 F_339 L_339))))))) (fun N P K => wp_X8_isInside (gX8 d8) N P how 1 K) [] [false] p F L N P := by
  have hm := hK.1
  have hpm := hc.2.1
  have hv := hK.2.1 p hpm
  have F0 : ∀ (K : Int32 → M2 → L2 → Prop) (F' : M2), K 0 F' L → (((0 : Int32) = 0 → K 0 F' L) ∧ (¬ (0 : Int32) = 0 → wp_X2_emit F' L op 0 (fun r_339 F_339 L_339 => ((r_339 = 0 → K 0 F_339 L_339) ∧ (¬ r_339 = 0 → K 1 F_339 L_339))))) := fun K F' h => ⟨fun _ => h, fun z => absurd rfl z⟩
  by_cases hk : κ p = 90
  rotate_left
  · have hck : ¬ ck (κ p) = 28 := fun z => hk ((ck_28 hv).mp z)
    refine Or.inr ⟨p, F, N, P, hpm, FC.self hc, FN.self hs, fun K hk' => ?_, fun K hk' => ?_⟩
    · refine And.intro (fun _ => And.intro (fun _ => F0 K F hk') (fun z => absurd rfl z)) (fun _ => c_take hc hK (fun z => absurd z hck) (fun _ => And.intro (fun _ => And.intro (fun _ => F0 K F hk') (fun z => absurd rfl z)) (fun z => absurd rfl z)))
    · exact r_sign hs hK (y := 90) (by decide) (fun z => absurd z hk) (fun _ => And.intro (fun _ => hk') (fun z => absurd rfl z))
  have hck : ck (κ p) = 28 := (ck_28 hv).mpr hk
  have hp1 := hK.lt hpm hk (by decide)
  by_cases hd : dp = 8
  · refine Or.inr ⟨p, F, N, P, hpm, FC.self hc, FN.self hs, fun K hk' => ?_, fun K hk' => ?_⟩
    · exact c_deeper hc hK hdp hck (fun z => absurd hd (by omega)) (fun _ => And.intro (fun _ => F0 K F hk') (fun z => absurd rfl z))
    · exact r_sign hs hK (y := 90) (by decide) (fun _ => And.intro (fun z => absurd z (by decide)) (fun _ => r_deeper hs hdp (fun z => absurd hd (by omega)) (fun _ => And.intro (fun _ => hk') (fun z => absurd rfl z)))) (fun z => absurd hk z)
  have hd8 : dp < 8 := by omega
  have hc1 := hc.adv (q := p + 1) (by omega)
  have hs1 := hs.deep (by omega : p + 1 ≤ m) (d' := dp + 1)
  have A2 : ∀ (Z : Int32 → M2 → L2 → Prop), gX2 d2 4 (cT (p + 1) F) L (nI (dp + 1)) (fun r_14 F_14 L_14 => ((r_14 = 0 → Z 0 F_14 L_14) ∧ (¬ r_14 = 0 → wp_X2_take F_14 L_14 33 (fun r_23 F_23 L_23 => ((r_23 = 0 → Z 0 F_23 L_23) ∧ (¬ r_23 = 0 → gX2 d2 4 F_23 L_23 (nI (dp + 1)) (fun r_33 F_33 L_33 => ((r_33 = 0 → Z 0 F_33 L_33) ∧ (¬ r_33 = 0 → wp_X2_take F_33 L_33 29 (fun r_42 F_42 L_42 => ((r_42 = 0 → Z 0 F_42 L_42) ∧ (¬ r_42 = 0 → Z 1 F_42 L_42)))))))))))) → wp_X2_ofTwo (gX2 d2) F L (nI dp) Z := fun Z h => by
    refine c_deeper hc hK hdp hck (fun _ => And.intro (fun z => absurd z (by decide)) (fun _ => ?_)) (fun z => absurd z hd)
    rw [nI_1]
    exact h
  have A8 : ∀ (K : Int32 → M2 → M2 → Prop), gX8 d8 3 (rT (p + 1) (up2 N 230 (fun _ => nI (dp + 1)))) P 0 0 (contIn (gX8 d8) K how 1) → wp_X8_isInside (gX8 d8) N P how 1 K := fun K h => r_open hK hs hk hd8 h
  rcases hS (dp + 1) (p + 1) d2 d8 (by omega) (by omega) (by omega) (by omega) _ L _ P hc1 hs1 with ⟨p1, i1, hlt, hG, k2, k8⟩ | ⟨p', F', N', P', hp', fc, fn, k2, k8⟩
  rotate_left
  · exact Or.inr ⟨p', F', N', P', hp', FC.adv.trans fc, FN.deep.trans fn, fun K hk' => A2 _ (k2 _ (And.intro (fun _ => F0 K F' hk') (fun z => absurd rfl z))), fun K hk' => A8 K (k8 _ (And.intro (fun _ => hk') (fun z => absurd rfl z)))⟩
  have hc2 := hc1.to (q := p1) hG.2.1 i1
  have hs2 := hs1.to (val := val) hG
  have hv1 := hK.2.1 p1 hG.2.1
  by_cases h94 : κ p1 = 94
  rotate_left
  · refine Or.inr ⟨p1, cT p1 (cE val L i1 F), _, _, hG.2.1, FC.to, FN.deep.trans FN.to, fun K hk' => A2 _ (k2 _ (And.intro (fun z => absurd z (by decide)) (fun _ => c_take hc2 hK (fun z => absurd ((ck_33 hv1).mp z) h94) (fun _ => And.intro (fun _ => F0 K _ ?_) (fun z => absurd rfl z))))), fun K hk' => A8 K (k8 _ (And.intro (fun z => absurd z (by decide)) (fun _ => And.intro (fun z => absurd z (by decide)) (fun _ => r_eatSign hs2 hK (y := 94) (by decide) (fun z => absurd z h94) (fun _ => And.intro (fun _ => hk') (fun z => absurd rfl z))))))⟩
    rw [c_chain1]
    exact hk'
  have hp2 := hK.lt hG.2.1 h94 (by decide)
  have hc3 := hc2.adv (q := p1 + 1) (by omega)
  have hs3 := hs2.adv (q := p1 + 1) (by omega) (by omega)
  have B2 : ∀ (Z : Int32 → M2 → L2 → Prop), gX2 d2 4 (cT (p1 + 1) (cT p1 (cE val L i1 (cT (p + 1) F)))) L (nI (dp + 1)) (fun r_33 F_33 L_33 => ((r_33 = 0 → Z 0 F_33 L_33) ∧ (¬ r_33 = 0 → wp_X2_take F_33 L_33 29 (fun r_42 F_42 L_42 => ((r_42 = 0 → Z 0 F_42 L_42) ∧ (¬ r_42 = 0 → Z 1 F_42 L_42)))))) → wp_X2_ofTwo (gX2 d2) F L (nI dp) Z := fun Z h => A2 Z (k2 _ (And.intro (fun z => absurd z (by decide)) (fun _ => c_take hc2 hK (fun _ => And.intro (fun z => absurd z (by decide)) (fun _ => h)) (fun z => absurd ((ck_33 hv1).mpr h94) z))))
  have B8 : ∀ (K : Int32 → M2 → M2 → Prop), gX8 d8 3 (rT (p1 + 1) (rT p1 (rR i1 (rT (p + 1) (up2 N 230 (fun _ => nI (dp + 1))))))) (rE val i1 P) 0 0 (fun r_37 N_37 P_37 => ((¬ r_37 = 0 → wj_X8_isInside_45 (gX8 d8) K N_37 P_37 how) ∧ (r_37 = 0 → K 0 N_37 P_37))) → wp_X8_isInside (gX8 d8) N P how 1 K := fun K h => A8 K (k8 _ (And.intro (fun z => absurd z (by decide)) (fun _ => And.intro (fun z => absurd z (by decide)) (fun _ => r_eatSign hs2 hK (y := 94) (by decide) (fun _ => And.intro (fun z => absurd z (by decide)) (fun _ => h)) (fun z => absurd h94 z)))))
  rcases hS (dp + 1) (p1 + 1) d2 d8 (by omega) (by omega) (by omega) (by omega) _ L _ _ hc3 hs3 with ⟨p3, i3, hlt3, hG3, l2, l8⟩ | ⟨p', F', N', P', hp', fc, fn, l2, l8⟩
  rotate_left
  · exact Or.inr ⟨p', F', N', P', hp', (FC.adv.trans (FC.to.trans FC.adv)).trans fc, (FN.deep.trans (FN.to.trans FN.adv)).trans fn, fun K hk' => B2 _ (l2 _ (And.intro (fun _ => F0 K F' hk') (fun z => absurd rfl z))), fun K hk' => B8 K (l8 _ (And.intro (fun z => absurd rfl z) (fun _ => hk')))⟩
  have hGa : GI κ m (p + 1) p3 [] [false, false] (i1 ++ i3) := (hG.behind hp2).app (hG3.under [false])
  have hG0 : GI κ m p p3 [] [false, false] (i1 ++ i3) := hGa.skip
  have hlen : (i1 ++ i3).length + 1 + p ≤ p3 := by
    have := hGa.1
    omega
  have hits : GI κ m p p3 [] [false] ((i1 ++ i3) ++ [(op, 0)]) := hGa.op hhow.2.2.1 hhow.2.2.2.1 hhow.2.2.2.2.1 htc
  have hc4 := hc3.to (q := p3) hG3.2.1 i3
  have hv3 := hK.2.1 p3 hG3.2.1
  have eN : rT p3 (rR i3 (rT (p1 + 1) (rT p1 (rR i1 (rT (p + 1) (up2 N 230 (fun _ => nI (dp + 1)))))))) = rT p3 (rR (i1 ++ i3) (rT (p + 1) (up2 N 230 (fun _ => nI (dp + 1))))) := by
    rw [r_chain1, r_chain]
  have eF : cT p3 (cE val L i3 (cT (p1 + 1) (cT p1 (cE val L i1 (cT (p + 1) F))))) = cT p3 (cE val L (i1 ++ i3) F) := by
    rw [c_chain1, c_chain, c_chain1]
  have eop : (if op = 0 then i1 ++ i3 else (i1 ++ i3) ++ [(op, 0)]) = (i1 ++ i3) ++ [(op, 0)] := if_neg hhow.2.2.2.2.2
  by_cases h91 : κ p3 = 91
  · have hp4 := hK.lt hG3.2.1 h91 (by decide)
    refine Or.inl ⟨p3 + 1, (i1 ++ i3) ++ [(op, 0)], by omega, hits.behind hp4, fun K hk' => B2 _ (l2 _ (And.intro (fun z => absurd z (by decide)) (fun _ => c_take hc4 hK (fun _ => And.intro (fun z => absurd z (by decide)) (fun _ => And.intro (fun z => absurd z (by decide)) (fun _ => c_op (val := val) hhow.2.2.1 hhow.2.2.2.1 hhow.2.2.2.2.1 (And.intro (fun z => absurd z (by decide)) (fun _ => ?_))))) (fun z => absurd ((ck_29 hv3).mpr h91) z)))), fun K hk' => B8 K (l8 _ (And.intro (fun _ => ?_) (fun z => absurd z (by decide))))⟩
    · rw [eF, cT_cT, c_one]
      exact hk'
    · rw [eN, ← rE_app]
      refine r_in45 hK hs hG0 hlen (Or.inr hhow) (fun _ => ?_) (fun z => absurd h91 z)
      rw [eop, ← rR_op (op := op) hhow.2.2.1]
      exact hk'
  · refine Or.inr ⟨p3, cT p3 (cE val L (i1 ++ i3) F), rT p3 (rR (i1 ++ i3) N), rE val ((i1 ++ i3) ++ [(op, 0)]) P, hG3.2.1, FC.to, FN.to, fun K hk' => B2 _ (l2 _ (And.intro (fun z => absurd z (by decide)) (fun _ => c_take hc4 hK (fun z => absurd ((ck_29 hv3).mp z) h91) (fun _ => And.intro (fun _ => F0 K _ ?_) (fun z => absurd rfl z))))), fun K hk' => B8 K (l8 _ (And.intro (fun _ => ?_) (fun z => absurd z (by decide))))⟩
    · rw [eF]
      exact hk'
    · rw [eN, ← rE_app]
      refine r_in45 hK hs hG0 hlen (Or.inr hhow) (fun z => absurd z h91) (fun _ => ?_)
      rw [eop]
      exact hk'
end GRAM2
