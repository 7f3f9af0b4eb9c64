/-! ===== in the end all is as by hand ===== -/
/-- the bores of both -/
def ZB (nn : Nat → Nat) (V Q : M2) (kb np : Nat) : Prop := nn 0 = kb ∧ kb ≤ 3 ∧ ∀ k, k < kb → ∃ f x, f + x ≤ np ∧ Q 242 k = nI x ∧ V k 0 = nI x ∧ V k 1 = Q 243 k ∧ Q 244 k = nI f ∧ V k 2 = nI f ∧ ∀ p, p < np → (Q 245 p = nI k ↔ (f ≤ p ∧ p < f + x))
section SAM
variable {q : Nat → Nat} {P Q : M2} {nn : Nat → Nat} {V S O F G C N U L B M : M2} {ap kb np nl nb ns no t : Nat} {T : Nat → List (Int32 × Int32)} {K : Int32 → Nat → M2 → M2 → M2 → M2 → M2 → M2 → M2 → Prop}
theorem sfr_succ : ∀ (g : Nat → Int32) (d j : Nat) (a : Int32), sfr g (d + 1) j a = sfr g d j a + g (j + d)
  | g, 0, j, a => rfl
  | g, d + 1, j, a => by
    have e := sfr_succ g d (j + 1) (a + g j)
    rw [show j + (d + 1) = j + 1 + d by omega]
    exact e
/-! counts -/
theorem s_cnt12 {K : (Nat → Int32) → Prop} (hk : ZK nn V S O Q T np nl nb ns no) (hz : ZS Q M N U L B np nl nb) (hc : ICP M np nl) (h60 : np ≤ 60) : ∀ (d j f : Nat) (e : Nat → Int32), j + d = nl → d < f → (∀ e', (∀ w, w ≠ 12 → e' w = e w) → e' 12 = cfr (fun i => ¬ M 204 i = -1) d j (e 12) → K e') → wl_X6_counts_162 nn V S O N U L B K f e (nI nl) (nI j) := by
  intro d
  have hl5 := hk.nl5
  induction d with
  | zero =>
    intro j f e hj hf h
    obtain ⟨f, rfl, _⟩ := fuel hf
    exact And.intro (fun _ => h e (fun _ _ => rfl) rfl) (fun c => absurd (nI_le (by omega) (by omega)) c)
  | succ d ih =>
    intro j f e hj hf h
    obtain ⟨f, rfl, _⟩ := fuel hf
    have hl : j < nl := by omega
    have tj : (nI j).toInt.toNat = j := tn_nI (by omega)
    have ij := hk.i3 hl
    unfold cfr at h
    have nxt : ∀ x : Int32, x = (if ¬ M 204 j = -1 then e 12 + 1 else e 12) → ∀ e1 : Nat → Int32, e1 = upd e 12 x → ∀ v : Int32, v = nI j + 1 → wl_X6_counts_162 nn V S O N U L B K f e1 (nI nl) v := fun x ex e1 ee v ev => by
      subst ev
      rw [nI_1]
      refine ih (j + 1) f e1 (by omega) (by omega) (fun e' h1 h2 => h e' (fun w hw => ?_) ?_)
      · rw [h1 w hw, ee, upd_n _ _ hw]
      · rw [h2, ee, upd_s, ex]
    refine And.intro (fun c => absurd c (nI_ge (by omega) (by omega))) (fun _ => ⟨ij, by decide, ij, ?_⟩)
    rw [tj, hz.l3 hl, cap_neg hc h60 hl]
    refine And.intro (fun c => ⟨by decide, fun e1 ee => nxt _ (by rw [if_pos c]) e1 ee⟩) (fun c => ⟨by decide, fun e1 ee => nxt _ (by rw [if_neg c]) e1 (by rw [ee, Int32.add_zero])⟩)
theorem s_cnt11 {K : (Nat → Int32) → Prop} (hk : ZK nn V S O Q T np nl nb ns no) (hz : ZS Q M N U L B np nl nb) (hc : ICP M np nl) (h60 : np ≤ 60) : ∀ (d j f : Nat) (e : Nat → Int32), j + d = np → d < f → (∀ e', (∀ w, w ≠ 11 → w ≠ 12 → e' w = e w) → e' 11 = sfr (M 202) d j (e 11) → e' 12 = cfr (fun i => ¬ M 204 i = -1) nl 0 (e 12) → K e') → wl_X6_counts_122 nn V S O N U L B K f e (nI np) (nI j) := by
  intro d
  have hl5 := hk.nl5
  induction d with
  | zero =>
    intro j f e hj hf h
    obtain ⟨f, rfl, _⟩ := fuel hf
    refine And.intro (fun _ v ev => ?_) (fun c => absurd (nI_le (by omega) (by omega)) c)
    subst ev
    rw [hk.n3]
    exact s_cnt12 hk hz hc h60 nl 0 fK e (by omega) (by rw [fK_eq]; omega) (fun e' h1 h2 => h e' (fun w _ hw => h1 w hw) (h1 11 (by decide)) h2)
  | succ d ih =>
    intro j f e hj hf h
    obtain ⟨f, rfl, _⟩ := fuel hf
    have hp : j < np := by omega
    have tj : (nI j).toInt.toNat = j := tn_nI (by omega)
    have ij := hk.i1 hp h60
    unfold sfr at h
    refine And.intro (fun c => absurd c (nI_ge (by omega) (by omega))) (fun _ => ⟨ij, by decide, ij, by decide, fun e1 ee v ev => ?_⟩)
    subst ev
    rw [nI_1]
    rw [tj, hz.u1 hp] at ee
    refine ih (j + 1) f e1 (by omega) (by omega) (fun e' h1 h2 h3 => h e' (fun w a b => ?_) ?_ ?_)
    · rw [h1 w a b, ee, upd_n _ _ a]
    · rw [h2, ee, upd_s]
    · rw [h3, ee, upd_n _ _ (by decide)]
theorem s_counts {K : (Nat → Int32) → Prop} (hX : PRX P Q kb np nl nb ns no) (hkb : nn 0 = kb) (hk : ZK nn V S O Q T np nl nb ns no) (hz : ZS Q M N U L B np nl nb) (hc : ICP M np nl) (h : ∀ e, (∀ w, w < 14 → e w = coV Q M np nl nb 0 w) → K e) : wp_X6_counts nn V S O N U L B K := by
  have h60 := hX.1.np3
  refine ⟨by decide, fun e0 E0 => ⟨by decide, fun e1 E1 => ⟨by decide, fun e2 E2 => ⟨by decide, fun e3 E3 => ⟨by decide, fun e4 E4 => ⟨by decide, fun e5 E5 => ⟨by decide, fun e6 E6 => ⟨by decide, fun e7 E7 => s_those hk hz ⟨by decide, fun e8 E8 => s_those hk hz ⟨by decide, fun e9 E9 => s_those hk hz ⟨by decide, fun e10 E10 => ⟨by decide, fun e11 E11 => ⟨by decide, fun e12 E12 => ⟨by decide, fun e13 E13 v ev => ?_⟩⟩⟩⟩⟩⟩⟩⟩⟩⟩⟩⟩⟩⟩
  subst ev
  rw [hk.n1]
  refine s_cnt11 hk hz hc h60 np 0 fK e13 (by omega) (by rw [fK_eq]; omega) (fun e' h1 h2 h3 => h e' (fun w hw => ?_))
  rw [hkb] at E2
  rw [hk.n1] at E3
  rw [hk.n2] at E4
  rw [hk.n3] at E5
  rw [hk.n4] at E6
  rw [hk.n5] at E7
  subst E0 E1 E2 E3 E4 E5 E6 E7 E8 E9 E10 E11 E12 E13
  have hcs : w = 0 ∨ w = 1 ∨ w = 2 ∨ w = 3 ∨ w = 4 ∨ w = 5 ∨ w = 6 ∨ w = 7 ∨ w = 8 ∨ w = 9 ∨ w = 10 ∨ w = 11 ∨ w = 12 ∨ w = 13 := by omega
  rcases hcs with rfl | rfl | rfl | rfl | rfl | rfl | rfl | rfl | rfl | rfl | rfl | rfl | rfl | rfl
  · exact (h1 0 (by decide) (by decide)).trans hz.min
  · exact (h1 1 (by decide) (by decide)).trans hz.turn
  · exact (h1 2 (by decide) (by decide)).trans hX.2.1.2.1.symm
  · exact (h1 3 (by decide) (by decide)).trans hX.1.np2.symm
  · exact (h1 4 (by decide) (by decide)).trans hX.1.ns2.symm
  · exact (h1 5 (by decide) (by decide)).trans hX.1.nl2.symm
  · exact (h1 6 (by decide) (by decide)).trans hX.1.nb2.symm
  · exact (h1 7 (by decide) (by decide)).trans hX.1.no2.symm
  · exact h1 8 (by decide) (by decide)
  · exact h1 9 (by decide) (by decide)
  · exact h1 10 (by decide) (by decide)
  · exact h2
  · exact h3.trans (cfr_not nl 0)
  · exact h1 13 (by decide) (by decide)
theorem cmp_self {x : UInt64} (h : FP.dIsNaN x = false) : Op.cmpValue (FP.dcmp x x) CmpOp.l = 0 := by
  have e : FP.dcmp x x = some .eq := Jvm.FP.Core.dcmp_self ((Jvm.FP.Core.notNaN_iff x).mp h)
  rw [e]
  rfl
theorem me_nn (S : M2) {nl : Nat} (h0 : 0 < nl) (h6 : nl ≤ 6) : FP.dIsNaN (meV S nl) = false := Jvm.FP.Core.ddiv_out (Jvm.FP.Core.DFin.notNaN (Jvm.FP.Core.i2d_fin _)) (Jvm.FP.Core.i2d_fin _) (fun z => Jvm.FP.Core.i2d_ne_zero (fun e => nI_ne (a := nl) (b := 0) (by omega) (by decide) (by omega) e) ((Jvm.FP.Core.zero_bits2 _).mp z))
theorem i_567 (hX : PRX P Q kb np nl nb ns no) (hk : ZK nn V S O Q T np nl nb ns no) (hR : RE np nl nb F M) (hC : C 91 0 = 0) {e : Nat → Int32} (he : ∀ w, w < 14 → e w = coV Q M np nl nb 0 w) (h : K 1 ap F G C N U L B) : ∀ (d j f : Nat), j + d = 14 → d < f → wl_X6_isSame_567 q P nn V S O K f ap F G C N U L B e (wF (M 202) np 0 (-1)) (suL M nl 0 0) (nI j) := by
  intro d
  have hl5 := hk.nl5
  have hl0 := hk.nl0
  induction d with
  | zero =>
    intro j f hj hf
    obtain ⟨f, rfl, _⟩ := fuel hf
    have ej : j = 14 := by omega
    subst ej
    refine And.intro (fun _ => c_worst hX.1.np3 hX.1.np1 hR (And.intro (fun c => absurd rfl c) (fun _ => c_mean hX hR ?_))) (fun c => absurd (by decide) c)
    rw [if_neg (by omega : ¬ nl = 0), hk.n3]
    refine And.intro (fun _ => ⟨me_n M hl0 (by omega), And.intro (fun c => absurd (cmp_self (me_nn M hl0 (by omega))) c) (fun _ => h)⟩) (fun c => absurd c (nI_n0 hl0 hl5))
  | succ d ih =>
    intro j f hj hf
    obtain ⟨f, rfl, _⟩ := fuel hf
    have tj : (nI j).toInt.toNat = j := tn_nI (by omega)
    refine And.intro (fun c => absurd c (by rw [show (14 : Int32) = nI 14 from rfl]; exact nI_ge (by omega) (by omega))) (fun _ => c_count hX hR hC (by omega : j ≤ 13) ⟨inb_nJ (by omega) (by decide), ?_⟩)
    rw [tj, he j (by omega)]
    refine And.intro (fun _ v ev => ?_) (fun c => absurd rfl c)
    subst ev
    rw [nI_1]
    exact ih (j + 1) f (by omega) (by omega)
/-! boats -/
theorem ba_eq (hz : ZS Q M N U L B np nl nb) {i w : Nat} (hi : i < nb) (hw : w ≤ 6) : B i w = baV Q M i w := by
  have hcs : w = 0 ∨ w = 1 ∨ w = 2 ∨ w = 3 ∨ w = 4 ∨ w = 5 ∨ w = 6 := by omega
  rcases hcs with rfl | rfl | rfl | rfl | rfl | rfl | rfl
  · exact hz.b0 hi
  · exact hz.b1 hi
  · exact hz.b2 hi
  · exact hz.b3 hi
  · exact hz.b4 hi
  · exact hz.b5 hi
  · exact hz.b6 hi
theorem i_459 {C446 : Nat → M2 → M2 → M2 → M2 → M2 → M2 → M2 → Int32 → Int32 → Int32 → Prop} {v2 v4 : Int32} (hX : PRX P Q kb np nl nb ns no) (hPT : PT P Q T nl nb no) (hk : ZK nn V S O Q T np nl nb ns no) (hR : RE np nl nb F M) (hz : ZS Q M N U L B np nl nb) (hI : INV Q M np nl nb nb) (hc : ICP M np nl) {i : Nat} (hi : i < nb) (h : ∀ F', RE np nl nb F' M → ∀ v : Int32, v = nI i + 1 → C446 ap F' G C N U L B v2 v4 v) : ∀ (d j f : Nat), j + d = 7 → d < f → wl_X6_isSame_459 q P nn V S O C446 K f ap F G C N U L B v2 v4 (nI i) (nI j) := by
  intro d
  have hb5 := hk.nb5
  have ii := hk.i4 hi
  have ti : (nI i).toInt.toNat = i := tn_nI (by omega)
  induction d with
  | zero =>
    intro j f hj hf
    obtain ⟨f, rfl, _⟩ := fuel hf
    have ej : j = 7 := by omega
    subst ej
    refine And.intro (fun _ => c_crew (w := 0) hX hi (by decide) ⟨ii, ii, ?_⟩) (fun c => absurd (by decide) c)
    rw [ti, hz.b7 hi, hz.b8 hi]
    refine And.intro (fun c => absurd rfl c) (fun _ => c_crew (w := 1) hX hi (by decide) ⟨ii, ii, And.intro (fun c => absurd rfl c) (fun _ => cc_canEnter hX hPT hR hi (fun F' hr' => s_canEnter hX.1 hk hz hI hc hi (And.intro (fun _ => h F' hr') (fun c => absurd rfl c))))⟩)
  | succ d ih =>
    intro j f hj hf
    obtain ⟨f, rfl, _⟩ := fuel hf
    have tj : (nI j).toInt.toNat = j := tn_nI (by omega)
    refine And.intro (fun c => absurd c (by rw [show (7 : Int32) = nI 7 from rfl]; exact nI_ge (by omega) (by omega))) (fun _ => c_boat hX hR hi (by omega : j ≤ 6) ⟨ii, ii, inb_nJ (by omega) (by decide), ?_⟩)
    rw [ti, tj, ba_eq hz hi (by omega)]
    refine And.intro (fun _ v ev => ?_) (fun c => absurd rfl c)
    subst ev
    rw [nI_1]
    exact ih (j + 1) f (by omega) (by omega)
theorem i_446 (hX : PRX P Q kb np nl nb ns no) (hkb : nn 0 = kb) (hPT : PT P Q T nl nb no) (hk : ZK nn V S O Q T np nl nb ns no) (hz : ZS Q M N U L B np nl nb) (hI : INV Q M np nl nb nb) (hc : ICP M np nl) (hC : C 91 0 = 0) (h : ∀ F', RE np nl nb F' M → K 1 ap F' G C N U L B) : ∀ (d j f : Nat) (F : M2), j + d = nb → d < f → RE np nl nb F M → wl_X6_isSame_446 q P nn V S O K f ap F G C N U L B (wF (M 202) np 0 (-1)) (suL M nl 0 0) (nI j) := by
  intro d
  have hb5 := hk.nb5
  induction d with
  | zero =>
    intro j f F hj hf hR
    obtain ⟨f, rfl, _⟩ := fuel hf
    exact And.intro (fun _ => s_counts hX hkb hk hz hc (fun e he => i_567 hX hk hR hC he (h F hR) 14 0 fK (by decide) (by rw [fK_eq]; decide))) (fun c => absurd (by rw [hk.n4]; exact nI_le (by omega) (by omega)) c)
  | succ d ih =>
    intro j f F hj hf hR
    obtain ⟨f, rfl, _⟩ := fuel hf
    refine And.intro (fun c => absurd c (by rw [hk.n4]; exact nI_ge (by omega) (by omega))) (fun _ => i_459 hX hPT hk hR hz hI hc (by omega : j < nb) (fun F' hr' v ev => ?_) 7 0 fK (by decide) (by rw [fK_eq]; decide))
    subst ev
    rw [nI_1]
    exact ih (j + 1) f F' (by omega) (by omega) hr'
/-! leggers -/
theorem i_397 {C309 : Nat → M2 → M2 → M2 → M2 → M2 → M2 → M2 → Int32 → Int32 → Int32 → Prop} {v2 v4 : Int32} (hX : PRX P Q kb np nl nb ns no) (hk : ZK nn V S O Q T np nl nb ns no) (hR : RE np nl nb F M) (hz : ZS Q M N U L B np nl nb) {i : Nat} (hi : i < nl) {e : Nat → Int32} (he : ∀ w, w < 7 → e w = leV Q M nb i w) (h : ∀ v' : Int32, v' = v4 + M 203 i → ∀ v : Int32, v = nI i + 1 → C309 ap F G C N U L B v2 v' v) : ∀ (d j f : Nat), j + d = 7 → d < f → wl_X6_isSame_397 q P nn V S O C309 K f ap F G C N U L B e v2 v4 (nI i) (nI i) (nI j) := by
  intro d
  have hl5 := hk.nl5
  have ii := hk.i3 hi
  have ti : (nI i).toInt.toNat = i := tn_nI (by omega)
  induction d with
  | zero =>
    intro j f hj hf
    obtain ⟨f, rfl, _⟩ := fuel hf
    have ej : j = 7 := by omega
    subst ej
    refine And.intro (fun _ => ⟨ii, fun v' ev' => h v' ?_⟩) (fun c => absurd (by decide) c)
    rw [ev', ti, hz.l2 hi]
  | succ d ih =>
    intro j f hj hf
    obtain ⟨f, rfl, _⟩ := fuel hf
    have tj : (nI j).toInt.toNat = j := tn_nI (by omega)
    refine And.intro (fun c => absurd c (by rw [show (7 : Int32) = nI 7 from rfl]; exact nI_ge (by omega) (by omega))) (fun _ => c_legger hX hR hi (by omega : j ≤ 6) ⟨inb_nJ (by omega) (by decide), ?_⟩)
    rw [tj, he j (by omega)]
    refine And.intro (fun _ v ev => ?_) (fun c => absurd rfl c)
    subst ev
    rw [nI_1]
    exact ih (j + 1) f (by omega) (by omega)
theorem i_309 {v2 : Int32} (hX : PRX P Q kb np nl nb ns no) (hk : ZK nn V S O Q T np nl nb ns no) (hR : RE np nl nb F M) (hz : ZS Q M N U L B np nl nb) (hc : ICP M np nl) (h : wl_X6_isSame_446 q P nn V S O K fK ap F G C N U L B v2 (suL M nl 0 0) 0) : ∀ (d j f : Nat) (v4 : Int32), j + d = nl → d < f → suL M d j v4 = suL M nl 0 0 → wl_X6_isSame_309 q P nn V S O K f ap F G C N U L B v2 v4 (nI j) := by
  intro d
  have hl5 := hk.nl5
  have hb5 := hk.nb5
  have h60 := hX.1.np3
  induction d with
  | zero =>
    intro j f v4 hj hf hs
    obtain ⟨f, rfl, _⟩ := fuel hf
    have hs : v4 = _ := hs
    subst hs
    exact And.intro (fun _ => h) (fun c => absurd (by rw [hk.n3]; exact nI_le (by omega) (by omega)) c)
  | succ d ih =>
    intro j f v4 hj hf hs
    obtain ⟨f, rfl, _⟩ := fuel hf
    have hl : j < nl := by omega
    have tj : (nI j).toInt.toNat = j := tn_nI (by omega)
    have ij := hk.i3 hl
    have fin : ∀ (q0 : Int32), q0 = (if M 204 j = -1 then 1 else 0) → ∀ e2 : Nat → Int32, e2 0 = Q 250 j → e2 1 = Q 251 j → e2 2 = M 203 j → wj_X6_isSame_367 q P nn V S O (wl_X6_isSame_309 q P nn V S O K f) K ap F G C N U L B e2 v2 v4 (nI j) (nI j) q0 3 := fun q0 eq e2 g0 g1 g2 => by
      refine ⟨by decide, fun e3 E3 => s_boatOf hk hz ⟨by decide, fun e4 E4 => ⟨ij, by decide, fun e5 E5 => ⟨ij, by decide, fun e6 E6 => ?_⟩⟩⟩⟩
      rw [tj, hz.l4 hl] at E5
      rw [tj, hz.l3 hl] at E6
      refine i_397 hX hk hR hz hl (fun w hw => ?_) (fun v' ev' v ev => ?_) 7 0 fK (by decide) (by rw [fK_eq]; decide)
      · subst E3 E4 E5 E6
        have hcs : w = 0 ∨ w = 1 ∨ w = 2 ∨ w = 3 ∨ w = 4 ∨ w = 5 ∨ w = 6 := by omega
        rcases hcs with rfl | rfl | rfl | rfl | rfl | rfl | rfl
        · exact g0
        · exact g1
        · exact g2
        · exact eq
        · rfl
        · rfl
        · rfl
      · subst ev ev'
        rw [nI_1]
        exact ih (j + 1) f _ (by omega) (by omega) hs
    refine And.intro (fun c => absurd c (by rw [hk.n3]; exact nI_ge (by omega) (by omega))) (fun _ => ⟨ij, ij, by decide, fun e0 E0 => ⟨ij, by decide, fun e1 E1 => ⟨ij, by decide, fun e2 E2 => ⟨ij, ?_⟩⟩⟩⟩)
    rw [tj, hz.l0 hl] at E0
    rw [tj, hz.l1 hl] at E1
    rw [tj, hz.l2 hl] at E2
    rw [tj, hz.l3 hl, cap_neg hc h60 hl]
    subst E0 E1 E2
    exact And.intro (fun c => fin 0 (by rw [if_neg c]) _ rfl rfl rfl) (fun c => fin 1 (by rw [if_pos (Decidable.byContradiction c)]) _ rfl rfl rfl)
/-! bores -/
theorem i_267 {C206 : Nat → M2 → M2 → M2 → M2 → M2 → M2 → M2 → (Nat → Int32) → Int32 → Int32 → Prop} {e7 : Nat → Int32} {v2 : Int32} (hX : PRX P Q kb np nl nb ns no) (hR : RE np nl nb F M) {i : Nat} (hi : i < kb) {e : Nat → Int32} (he : ∀ w, w < 4 → e w = boV Q M i w) (h : ∀ v : Int32, v = nI i + 1 → C206 ap F G C N U L B e7 v2 v) : ∀ (d j f : Nat), j + d = 4 → d < f → wl_X6_isSame_267 q P nn V S O C206 K f ap F G C N U L B e e7 v2 (nI i) (nI j) := by
  intro d
  induction d with
  | zero =>
    intro j f hj hf
    obtain ⟨f, rfl, _⟩ := fuel hf
    have ej : j = 4 := by omega
    subst ej
    exact And.intro (fun _ => h) (fun c => absurd (by decide) c)
  | succ d ih =>
    intro j f hj hf
    obtain ⟨f, rfl, _⟩ := fuel hf
    have tj : (nI j).toInt.toNat = j := tn_nI (by omega)
    refine And.intro (fun c => absurd c (by rw [show (4 : Int32) = nI 4 from rfl]; exact nI_ge (by omega) (by omega))) (fun _ => c_bore hX hR hi (by omega : j ≤ 3) ⟨inb_nJ (by omega) (by decide), ?_⟩)
    rw [tj, he j (by omega)]
    refine And.intro (fun _ v ev => ?_) (fun c => absurd rfl c)
    subst ev
    rw [nI_1]
    exact ih (j + 1) f (by omega) (by omega)
/-- the air of the bores, of the first j places -/
def AIRS (Q M : M2) (kb j : Nat) (e7 : Nat → Int32) : Prop := ∀ k f x, k < kb → Q 244 k = nI f → Q 242 k = nI x → f + x ≤ 60 → e7 k = sfr (M 202) (min j (f + x) - f) f 0
theorem i_206 {v2 : Int32} (hX : PRX P Q kb np nl nb ns no) (hB : ZB nn V Q kb np) (hR : RE np nl nb F M) {e7 : Nat → Int32} (he : AIRS Q M kb np e7) (h : wl_X6_isSame_309 q P nn V S O K 8 ap F G C N U L B v2 0 0) : ∀ (d j f : Nat), j + d = kb → d < f → wl_X6_isSame_206 q P nn V S O K f ap F G C N U L B e7 v2 (nI j) := by
  intro d
  have h60 := hX.1.np3
  obtain ⟨h0, h3, hb⟩ := hB
  have n0 : Int32.ofNat (nn 0) = nI kb := by rw [h0]; rfl
  induction d with
  | zero =>
    intro j f hj hf
    obtain ⟨f, rfl, _⟩ := fuel hf
    exact And.intro (fun _ => h) (fun c => absurd (by rw [n0]; exact nI_le (by omega) (by omega)) c)
  | succ d ih =>
    intro j f hj hf
    obtain ⟨f, rfl, _⟩ := fuel hf
    have hjk : j < kb := by omega
    have tj : (nI j).toInt.toNat = j := tn_nI (by omega)
    have ij : inb (nI j) (nn 0) := by rw [h0]; exact inb_nJ hjk (by omega)
    obtain ⟨fs, x, hfx, q2, v0, v1, q4, v2', _⟩ := hb j hjk
    refine And.intro (fun c => absurd c (by rw [n0]; exact nI_ge (by omega) (by omega))) (fun _ => ⟨ij, ij, by decide, fun e0 E0 => ⟨ij, ij, by decide, fun e1 E1 => ⟨ij, ij, by decide, fun e2 E2 => ⟨ij, by decide, fun e3 E3 => ?_⟩⟩⟩⟩)
    rw [tj] at E0 E1 E2 E3
    refine i_267 hX hR hjk (fun w hw => ?_) (fun v ev => ?_) 4 0 fK (by decide) (by rw [fK_eq]; decide)
    · subst E0 E1 E2 E3
      have hcs : w = 0 ∨ w = 1 ∨ w = 2 ∨ w = 3 := by omega
      rcases hcs with rfl | rfl | rfl | rfl
      · exact v0.trans q2.symm
      · exact v1
      · exact v2'.trans q4.symm
      · show e7 j = sfr (M 202) (Q 242 j).toInt.toNat (Q 244 j).toInt.toNat 0
        rw [he j fs x hjk q4 q2 (by omega), q2, q4, tn_nI (by omega), tn_nI (by omega), Nat.min_eq_right hfx, show fs + x - fs = x by omega]
    · subst ev
      rw [nI_1]
      exact ih (j + 1) f (by omega) (by omega)
/-! places -/
theorem i_40 {C13 : Nat → M2 → M2 → M2 → M2 → M2 → M2 → M2 → (Nat → Int32) → Int32 → Int32 → Prop} {e7 : Nat → Int32} (hX : PRX P Q kb np nl nb ns no) (hk : ZK nn V S O Q T np nl nb ns no) (hR : RE np nl nb F M) (hz : ZS Q M N U L B np nl nb) {p : Nat} (hp : p < np) {v2 : Int32} (hv : v2 = -1 ∨ ∃ i, i < p ∧ v2 = nI i) (h : ∀ v2' : Int32, v2' = (if v2 = -1 then nI p else if M 202 v2.toInt.toNat ≤ M 202 p then v2 else nI p) → wj_X6_isSame_174 q P nn V S O C13 K ap F G C N U L B e7 v2' (nI p)) : ∀ (d j f : Nat) (a : Int32), j + d = nl → d < f → cfr (pIs (M 204) (nI p)) d j a = mCapsAt M nl (nI p) → wl_X6_isSame_40 q P nn V S O C13 K f ap F G C N U L B e7 v2 (nI p) a (nI nl) (nI j) := by
  intro d
  have hl5 := hk.nl5
  have hb5 := hk.nb5
  have h60 := hX.1.np3
  have ip := hk.i1 hp h60
  have tp : (nI p).toInt.toNat = p := tn_nI (by omega)
  induction d with
  | zero =>
    intro j f a hj hf hs
    obtain ⟨f, rfl, _⟩ := fuel hf
    have hs : a = _ := hs
    subst hs
    refine And.intro (fun _ => c_place (w := 0) hX hR hp (by decide) ⟨ip, ip, ?_⟩) (fun c => absurd (nI_le (by omega) (by omega)) c)
    rw [tp, hz.u0 hp, hz.u1 hp]
    refine And.intro (fun c => absurd rfl c) (fun _ => c_place (w := 1) hX hR hp (by decide) ⟨ip, ip, And.intro (fun c => absurd rfl c) (fun _ => c_place (w := 2) hX hR hp (by decide) (And.intro (fun c => absurd rfl c) (fun _ => c_place (w := 3) hX hR hp (by decide) (s_boatAt hk hz (And.intro (fun _ => ?_) (fun c => absurd rfl c))))))⟩)
    rcases hv with rfl | ⟨i, hi, rfl⟩
    · exact And.intro (fun _ => h _ (by rw [if_pos rfl])) (fun c => absurd (by decide) c)
    · have ii := hk.i1 (by omega : i < np) h60
      have ti : (nI i).toInt.toNat = i := tn_nI (by omega)
      refine And.intro (fun c => absurd c (nI_pos (by omega))) (fun _ => ⟨ip, ip, ii, ii, ?_⟩)
      rw [if_neg (nI_nm1 (by omega)), ti] at h
      rw [ti, hz.u1 (by omega : i < np)]
      exact And.intro (fun c => h _ (by rw [if_pos c])) (fun c => h _ (by rw [if_neg c]))
  | succ d ih =>
    intro j f a hj hf hs
    obtain ⟨f, rfl, _⟩ := fuel hf
    have hl : j < nl := by omega
    have tj : (nI j).toInt.toNat = j := tn_nI (by omega)
    have ij := hk.i3 hl
    unfold cfr at hs
    refine And.intro (fun c => absurd c (nI_ge (by omega) (by omega))) (fun _ => ⟨ij, ij, ?_⟩)
    rw [tj, hz.l3 hl]
    refine And.intro (fun c v5 e5 v ev => ?_) (fun c v5 e5 v ev => ?_)
    · subst ev
      rw [nI_1, e5, Int32.add_zero]
      rw [if_neg c] at hs
      exact ih (j + 1) f a (by omega) (by omega) hs
    · subst ev
      rw [nI_1, e5]
      rw [if_pos c] at hs
      exact ih (j + 1) f _ (by omega) (by omega) hs
theorem i_13 (hX : PRX P Q kb np nl nb ns no) (hB : ZB nn V Q kb np) (hk : ZK nn V S O Q T np nl nb ns no) (hR : RE np nl nb F M) (hz : ZS Q M N U L B np nl nb) (h : ∀ e7, AIRS Q M kb np e7 → wl_X6_isSame_206 q P nn V S O K 4 ap F G C N U L B e7 (wF (M 202) np 0 (-1)) 0) : ∀ (d j f : Nat) (e7 : Nat → Int32) (v2 : Int32), j + d = np → d < f → AIRS Q M kb j e7 → (v2 = -1 ∨ ∃ i, i < j ∧ v2 = nI i) → wF (M 202) d j v2 = wF (M 202) np 0 (-1) → wl_X6_isSame_13 q P nn V S O K f ap F G C N U L B e7 v2 (nI j) := by
  intro d
  have h60 := hX.1.np3
  have hl5 := hk.nl5
  induction d with
  | zero =>
    intro j f e7 v2 hj hf he hv hw
    obtain ⟨f, rfl, _⟩ := fuel hf
    have hw : v2 = _ := hw
    have ej : j = np := by omega
    subst ej
    refine And.intro (fun _ => ?_) (fun c => absurd (by rw [hk.n1]; exact nI_le (by omega) (by omega)) c)
    rw [hw]
    exact h e7 he
  | succ d ih =>
    intro j f e7 v2 hj hf he hv hw
    obtain ⟨f, rfl, _⟩ := fuel hf
    have hp : j < np := by omega
    have tj : (nI j).toInt.toNat = j := tn_nI (by omega)
    have ij := hk.i1 hp h60
    have hw : wF (M 202) d (j + 1) (if v2 = -1 then nI j else if M 202 v2.toInt.toNat ≤ M 202 j then v2 else nI j) = wF (M 202) np 0 (-1) := hw
    refine And.intro (fun c => absurd c (by rw [hk.n1]; exact nI_ge (by omega) (by omega))) (fun _ v7 e7' => ?_)
    subst e7'
    rw [hk.n3]
    refine i_40 hX hk hR hz hp hv (fun v2' ev2 => ?_) nl 0 fK 0 (by omega) (by rw [fK_eq]; omega) rfl
    obtain ⟨k0, x0, hk0, _, eq, _⟩ := hk.2.2.1 j hp
    have tk : (nI k0).toInt.toNat = k0 := tn_nI (by have := hk.n0; omega)
    have ik : inb (nI k0) (nn 0) := inb_nJ hk0 (by have := hk.n0; omega)
    unfold wj_X6_isSame_174
    rw [tj, hz.u0 hp, hz.u1 hp, eq, tk]
    refine ⟨ij, ij, ik, ij, ij, ik, fun e7n en v ev => ?_⟩
    subst ev
    rw [nI_1]
    rw [← ev2] at hw
    refine ih (j + 1) f e7n v2' (by omega) (by omega) ?_ ?_ hw
    · intro k fs x hkk q4 q2 hfx
      obtain ⟨h0, h3, hb⟩ := hB
      obtain ⟨fs', x', hfx', q2', _, _, q4', _, hiff⟩ := hb k hkk
      have ef : fs' = fs := nI_inj (by omega) (by omega) (q4'.symm.trans q4)
      have exx : x' = x := nI_inj (by omega) (by omega) (q2'.symm.trans q2)
      subst ef exx
      have hi := hiff j hp
      rw [eq] at hi
      rw [en]
      by_cases e : k = k0
      · subst e
        have hin := hi.mp rfl
        rw [upd_s, he k fs' x' hkk q4 q2 hfx, Nat.min_eq_left (by omega), Nat.min_eq_left (by omega), show j + 1 - fs' = (j - fs') + 1 by omega, sfr_succ, show fs' + (j - fs') = j by omega]
      · rw [upd_n _ _ e, he k fs' x' hkk q4 q2 hfx]
        have hout : ¬ (fs' ≤ j ∧ j < fs' + x') := fun z => e (nI_inj (by omega) (by omega) (hi.mpr z)).symm
        by_cases c : j < fs'
        · rw [show min j (fs' + x') - fs' = 0 by omega, show min (j + 1) (fs' + x') - fs' = 0 by omega]
        · rw [show min j (fs' + x') = fs' + x' by omega, show min (j + 1) (fs' + x') = fs' + x' by omega]
    · rw [ev2]
      by_cases c : v2 = -1
      · rw [if_pos c]
        exact Or.inr ⟨j, by omega, rfl⟩
      · rw [if_neg c]
        split
        · obtain ⟨i, hi, ei⟩ := hv.resolve_left c
          exact Or.inr ⟨i, by omega, ei⟩
        · exact Or.inr ⟨j, by omega, rfl⟩
/-- all is told as by hand -/
theorem i_same (hX : PRX P Q kb np nl nb ns no) (hB : ZB nn V Q kb np) (hPT : PT P Q T nl nb no) (hk : ZK nn V S O Q T np nl nb ns no) (hR : RE np nl nb F M) (hz : ZS Q M N U L B np nl nb) (hI : IX Q M np nl nb t) (hC : C 91 0 = 0) (h : ∀ F', RE np nl nb F' M → K 1 ap F' G C N U L B) : wp_X6_isSame q P nn V S O ap F G C N U L B K := by
  have h60 := hX.1.np3
  have hl5 := hk.nl5
  have hb5 := hk.nb5
  have hkb := hB.1
  have hk3 := hB.2.1
  refine ⟨by rw [hkb]; omega, ?_⟩
  refine i_13 hX hB hk hR hz (fun e7 he => ?_) np 0 fK (fun _ => 0) (-1) (by omega) (by rw [fK_eq]; omega) (fun k f x _ _ _ _ => ?_) (Or.inl rfl) rfl
  · refine i_206 hX hB hR he ?_ kb 0 4 (by omega) (by omega)
    refine i_309 hX hk hR hz hI.icp ?_ nl 0 8 0 (by omega) (by omega) rfl
    exact i_446 hX hkb hPT hk hz hI.inv hI.icp hC h nb 0 fK F (by omega) (by rw [fK_eq]; omega) hR
  · rw [show min 0 (f + x) - f = 0 by omega]
    rfl
end SAM
