/-! ===== the law's tunnel: air, breath, shafts, walking ===== -/
section ZF
variable {P Q : M2} {nn : Nat → Nat} {V S O N U L B M : M2} {np nl nb ns no : Nat} {T : Nat → List (Int32 × Int32)} {b : Nat} {K : M2 → M2 → M2 → M2 → Prop}
/-- how much the air at b's place is, behind its spoiling -/
def spA (M : M2) (b : Nat) : Int32 := mxv 0 (M 202 (M 209 b).toInt.toNat - 6)
/-- what the leggers of the first n boats have more -/
def MOR (Q M : M2) (nl n : Nat) (e : Nat → Int32) : Prop := (∀ l, l < nl → (∀ b, b < n → M 206 b = 1 → l ≠ kr0 Q b ∧ l ≠ kr1 Q b) → e l = 2) ∧ ∀ b, b < n → M 206 b = 1 → e (kr0 Q b) = inV (spA M b) ∧ e (kr1 Q b) = inV (spA M b)
theorem mxv_0 {a : Nat} (ha : a ≤ 1000) : mxv 0 (nI a - 6) = nI (a - 6) := by
  unfold mxv
  rw [show (6 : Int32) = nI 6 from rfl]
  by_cases c2 : a < 6
  · rw [if_neg (fun z => Int32.lt_asymm z (pk_sneg (by omega) c2)), show a - 6 = 0 by omega, nI_0]
  · rw [pk_sub (by omega)]
    by_cases c3 : 0 < nI (a - 6)
    · rw [if_pos c3]
    · rw [if_neg c3]
      rw [← nI_0, lt_nI (by omega) (by omega)] at c3
      rw [show a - 6 = 0 by omega, nI_0]
theorem inV_of {a : Nat} (ha : a ≤ 1000) : (40 - nI a ≤ 0 → inV (nI a) = 1) ∧ (¬ 40 - nI a ≤ 0 → inV (nI a) = -((40 - nI a) / 10 + 1)) := by
  have e : (40 - nI a ≤ 0) ↔ 40 ≤ a := by
    rw [show (40 : Int32) = nI 40 from rfl, Int32.le_iff_toInt_le, pk_sub_toInt (by omega) (by omega)]
    have : (0 : Int32).toInt = 0 := by decide
    omega
  unfold inV
  rw [e]
  refine ⟨fun z => ?_, fun z => ?_⟩
  · rw [if_pos]
    rw [show (40 : Int32) = nI 40 from rfl, le_nI (by omega) (by omega)]
    exact z
  · rw [if_neg, Int32.add_comm 1]
    rw [show (40 : Int32) = nI 40 from rfl, le_nI (by omega) (by omega)]
    exact z
theorem s_crewL {C198 : M2 → M2 → M2 → M2 → (Nat → Int32) → Int32 → Int32 → Prop} (hp : PR P Q np nl nb ns no) (hk : ZK nn V S O Q T np nl nb ns no) (hb : b < nb) (h7 : B b 7 = Q (310 + b) 0) (h8 : B b 8 = Q (310 + b) 1) {a : Nat} (ha : a ≤ 1000) {e : Nat → Int32} {v3 : Int32}
    (h : ∀ e', e' = upd (upd e (kr0 Q b) (inV (nI a))) (kr1 Q b) (inV (nI a)) → ∀ v : Int32, v = nI b + 1 → C198 N U L B e' v3 v) : wl_X6_pass_269 nn V S O C198 K fK N U L B e v3 (nI b) (nI b) (40 - nI a) 7 := by
  have h5 := hk.nb5
  have hl5 := hk.nl5
  have ib := hk.i4 hb
  have tb : (nI b).toInt.toNat = b := tn_nI (by omega)
  obtain ⟨k0, k1, _, _, ec1, _, ec2, _⟩ := hp.boat b hb
  have e7 : B b 7 = nI (kr0 Q b) := h7.trans ec1
  have e8 : B b 8 = nI (kr1 Q b) := h8.trans ec2
  have t7 : (7 : Int32).toInt.toNat = 7 := by decide
  have t8 : (8 : Int32).toInt.toNat = 8 := by decide
  have q0 : (nI (kr0 Q b)).toInt.toNat = kr0 Q b := tn_nI (by omega)
  have q1 : (nI (kr1 Q b)).toInt.toNat = kr1 Q b := tn_nI (by omega)
  obtain ⟨i1, i2⟩ := inV_of ha
  have last : ∀ e1 : Nat → Int32, e1 = upd e (kr0 Q b) (inV (nI a)) → wl_X6_pass_269 nn V S O C198 K (4093 + 1 + 1) N U L B e1 v3 (nI b) (nI b) (40 - nI a) 8 := fun e1 ee => by
    subst ee
    have fin : ∀ x : Int32, x = inV (nI a) → ∀ e2 : Nat → Int32, e2 = upd (upd e (kr0 Q b) (inV (nI a))) (kr1 Q b) x → ∀ v : Int32, v = 8 + 1 → wl_X6_pass_269 nn V S O C198 K (4093 + 1) N U L B e2 v3 (nI b) (nI b) (40 - nI a) v := fun x ex e2 ee v ev => by
      subst ev
      rw [ex] at ee
      exact And.intro (fun _ w ew => h e2 ee w ew) (fun c => absurd (by decide) c)
    refine And.intro (fun c => absurd c (by decide)) (fun _ => ⟨ib, by decide, ?_⟩)
    rw [tb, t8, e8, q1]
    exact And.intro (fun c => ⟨hk.i3 k1, fun e2 ee => fin 1 (i1 c).symm e2 ee⟩) (fun c => ⟨hk.i3 k1, fun e2 ee => fin _ (i2 c).symm e2 ee⟩)
  have fin : ∀ x : Int32, x = inV (nI a) → ∀ e2 : Nat → Int32, e2 = upd e (kr0 Q b) x → ∀ v : Int32, v = 7 + 1 → wl_X6_pass_269 nn V S O C198 K (4093 + 1 + 1) N U L B e2 v3 (nI b) (nI b) (40 - nI a) v := fun x ex e2 ee v ev => by
    subst ev
    rw [ex] at ee
    exact last e2 ee
  rw [fK3]
  refine And.intro (fun c => absurd c (by decide)) (fun _ => ⟨ib, by decide, ?_⟩)
  rw [tb, t7, e7, q0]
  exact And.intro (fun c => ⟨hk.i3 k0, fun e2 ee => fin 1 (i1 c).symm e2 ee⟩) (fun c => ⟨hk.i3 k0, fun e2 ee => fin _ (i2 c).symm e2 ee⟩)
theorem s_spoilL {C : M2 → (Nat → Int32) → Prop} (hp : PR P Q np nl nb ns no) (hk : ZK nn V S O Q T np nl nb ns no) (hI : INV Q M np nl nb nb) (hC : ∀ U e, C U e → wl_X6_pass_314 nn V S O K fK N U L B e 0) : ∀ (d j f : Nat) (U : M2) (e : Nat → Int32), j + d = nb → d < f → ZS Q (up2 M 202 (lfo (gSpoil M) j 0 (M 202))) N U L B np nl nb → MOR Q M nl j e → (∀ U' e', ZS Q (mSpoil M nb) N U' L B np nl nb → MOR Q M nl nb e' → C U' e') → wl_X6_pass_198 nn V S O K f N U L B e (nI nb) (nI j) := by
  intro d
  have h5 := hk.nb5
  have h60 := hp.np3
  induction d with
  | zero =>
    intro j f U e hj hf hz hm h
    obtain ⟨f, rfl, _⟩ := fuel hf
    have ej : j = nb := by omega
    subst ej
    exact And.intro (fun _ => hC _ _ (h U e hz hm)) (fun c => absurd (nI_le (by omega) (by omega)) c)
  | succ d ih =>
    intro j f U e hj hf hz hm h
    obtain ⟨f, rfl, _⟩ := fuel hf
    have hjn : j < nb := by omega
    have tj : (nI j).toInt.toNat = j := tn_nI (by omega)
    have ij := hk.i4 hjn
    refine And.intro (fun c => absurd c (nI_ge (by omega) (by omega))) (fun _ => ⟨ij, ij, ?_⟩)
    have e3 : B j 3 = M 206 j := (hz.b3 hjn).trans (congrFun (up2_n M _ (by decide)) j)
    have e4 : B j 4 = M 209 j := (hz.b4 hjn).trans (congrFun (up2_n M _ (by decide)) j)
    rw [tj, e3, e4]
    have step : lfo (gSpoil M) (j + 1) 0 (M 202) = gSpoil M j (lfo (gSpoil M) j 0 (M 202)) := by rw [lfo_succ, Nat.zero_add]
    refine And.intro (fun c => ⟨ij, ?_⟩) (fun c v ev => ?_)
    · obtain ⟨p, hpn, hat⟩ := spot_of hI hjn c
      have tp : (nI p).toInt.toNat = p := tn_nI (by omega)
      have ip := hk.i1 hpn h60
      obtain ⟨a, ha, ea⟩ := hI.1 p hpn
      have et : (M 209 j).toInt.toNat = p := by rw [hat, tp]
      have ej : lfo (gSpoil M) j 0 (M 202) p = nI a := by
        have := spoil_at hI h60 j (by omega) j hjn c
        rw [et, if_neg (Nat.lt_irrefl j), ea] at this
        exact this
      have eU : U p 1 = nI a := by
        rw [hz.u1 hpn, up2_s, ej]
      have esp : spA M j = nI (a - 6) := by
        unfold spA
        rw [et, ea, mxv_0 (by omega)]
      have fin : ∀ q0 : Int32, q0 = nI (a - 6) → wj_X6_pass_255 nn V S O (wl_X6_pass_198 nn V S O K f) K N U L B e (nI nb) (nI j) (nI j) (nI p) q0 1 (nI p) := fun q0 e0 => by
        subst e0
        refine ⟨ip, by decide, fun U1 eU1 => ⟨ip, fun v7 e7 => ?_⟩⟩
        rw [tp, z1] at eU1
        have eU1 : U1 = st2 U p 1 (nI (a - 6)) := eU1
        rw [tp, eU1, st2_s] at e7
        subst e7
        refine s_crewL hp hk hjn (hz.b7 hjn) (hz.b8 hjn) (by omega) (fun e' ee v ev => ?_)
        subst ev
        rw [nI_1]
        refine ih (j + 1) f U1 e' (by omega) (by omega) ?_ ?_ h
        · rw [step, gSpoil_eq, if_pos c, et, ej, mxv_0 (by omega), eU1]
          have := hz.pu p (nI (a - 6))
          rw [st2_up2] at this
          exact this
        · subst ee
          obtain ⟨k0, k1, hne, _⟩ := hp.boat j hjn
          refine ⟨fun l hl hno => ?_, fun b hb h1 => ?_⟩
          · obtain ⟨x1, x2⟩ := hno j (by omega) c
            rw [upd_n _ _ x2, upd_n _ _ x1]
            exact hm.1 l hl (fun b hb h1 => hno b (by omega) h1)
          · by_cases eb : b = j
            · subst eb
              rw [esp]
              exact ⟨by rw [upd_n _ _ hne, upd_s], upd_s _ _ _⟩
            · obtain ⟨x1, x2, x3, x4⟩ := hI.2.2.2.2.1 b j (by omega) hjn eb h1 c
              obtain ⟨y1, y2⟩ := hm.2 b (by omega) h1
              exact ⟨by rw [upd_n _ _ x2, upd_n _ _ x1]; exact y1, by rw [upd_n _ _ x4, upd_n _ _ x3]; exact y2⟩
      rw [hat]
      refine ⟨ip, fun v6 e6 => ?_⟩
      subst e6
      rw [tp, eU]
      refine ⟨ip, And.intro (fun c2 => ⟨ip, fin _ ?_⟩) (fun c2 => fin 0 ?_)⟩
      · rw [show (6 : Int32) = nI 6 from rfl, le_nI (by omega) (by omega)] at c2
        rw [show (6 : Int32) = nI 6 from rfl, pk_sub c2]
      · rw [show (6 : Int32) = nI 6 from rfl, le_nI (by omega) (by omega)] at c2
        rw [show a - 6 = 0 by omega, nI_0]
    · subst ev
      rw [nI_1]
      refine ih (j + 1) f U e (by omega) (by omega) ?_ ?_ h
      · rw [step, gSpoil_eq, if_neg c]
        exact hz
      · refine ⟨fun l hl hno => hm.1 l hl (fun b hb h1 => hno b (by omega) h1), fun b hb h1 => ?_⟩
        by_cases eb : b = j
        · subst eb
          exact absurd h1 c
        · exact hm.2 b (by omega) h1
/-- what the leggers have more is what the class reckons -/
theorem MOR.more (hp : PR P Q np nl nb ns no) (hI : INV Q M np nl nb nb) {e : Nat → Int32} (h : MOR Q M nl nb e) {l : Nat} (hl : l < nl) : e l = moreV Q (mSpoil M nb) nb l := by
  have h8 := hp.nb3
  have h6 := hp.nl3
  have eb2 : mBoatOf Q (mSpoil M nb) nb (nI l) = mBoatOf Q M nb (nI l) := boatOf_up 202 _ _ (by decide)
  unfold moreV
  rw [eb2]
  rcases boatOf_cases (M := M) hp (l := l) with z | ⟨b, hb, z, h1, hl2⟩
  · rw [if_pos z]
    have nn := boatOf_none h8 z
    refine h.1 l hl (fun b hb h1 => ?_)
    obtain ⟨_, _, _, _, e0, _, e1, _⟩ := hp.boat b hb
    obtain ⟨y0, y1⟩ := nn b hb h1
    rw [e0] at y0
    rw [e1] at y1
    exact ⟨fun z => y0 (by rw [z]), fun z => y1 (by rw [z])⟩
  · rw [if_neg (by rw [z]; exact nI_nm1 (by omega)), z, tn_nI (by omega)]
    have e9 : mSpoil M nb 209 b = M 209 b := by
      unfold mSpoil
      rw [up2_n _ _ (by decide)]
    have ea : mSpoil M nb 202 (M 209 b).toInt.toNat = spA M b := by
      unfold mSpoil spoilA spA
      rw [up2_s, spoil_at hI hp.np3 nb (Nat.le_refl _) b hb h1, if_pos hb]
    rw [e9, ea]
    obtain ⟨y0, y1⟩ := h.2 b hb h1
    rcases hl2 with y | y | y
    · rw [y]; exact y0
    · rw [y]; exact y1
    · omega
theorem clampV {x : Int32} {y : Nat} (hy : y ≤ 1000) : (if (if 0 ≤ x then x else 0) ≤ nI y then (if 0 ≤ x then x else 0) else nI y) = mxv 0 (mnv (nI y) x) := by
  unfold mxv mnv
  have hy0 := nI_pos' (n := y) (by omega)
  by_cases c : 0 ≤ x
  · rw [if_pos c]
    by_cases c2 : x ≤ nI y
    · rw [if_pos c2]
      by_cases c3 : x < nI y
      · rw [if_pos c3]
        by_cases c4 : 0 < x
        · rw [if_pos c4]
        · rw [if_neg c4]
          exact Int32.le_antisymm (Int32.not_lt.mp c4) c
      · rw [if_neg c3]
        have e : x = nI y := Int32.le_antisymm c2 (Int32.not_lt.mp c3)
        by_cases c4 : 0 < nI y
        · rw [if_pos c4, e]
        · rw [if_neg c4, e]
          exact Int32.le_antisymm (Int32.not_lt.mp c4) hy0
    · rw [if_neg c2, if_neg (fun z => c2 (Int32.le_of_lt z))]
      by_cases c4 : 0 < nI y
      · rw [if_pos c4]
      · rw [if_neg c4]
        exact Int32.le_antisymm (Int32.not_lt.mp c4) hy0
  · rw [if_neg c, if_pos hy0]
    have c' := Int32.not_le.mp c
    rw [if_pos (Int32.lt_of_lt_of_le c' hy0), if_neg (fun z => Int32.lt_asymm z c')]
theorem s_breatheL {C : M2 → Prop} (hp : PR P Q np nl nb ns no) (hk : ZK nn V S O Q T np nl nb ns no) (hB : IBR Q M nl) {e : Nat → Int32} (he : ∀ l, l < nl → e l = moreV Q M nb l) (hC : ∀ L, C L → ∀ v3_380, v3_380 = Int32.ofNat (nn 2) → wl_X6_pass_384 nn V S O K fK N U L B v3_380 0) : ∀ (d j f : Nat) (L : M2) (Bf : Nat → Int32), j + d = nl → d < f → ZS Q (up2 M 203 Bf) N U L B np nl nb → (∀ L', ZS Q (up2 M 203 (lfo (gBreath Q M nb) d j Bf)) N U L' B np nl nb → C L') → wl_X6_pass_314 nn V S O K f N U L B e (nI j) := by
  intro d
  have hl5 := hk.nl5
  induction d with
  | zero =>
    intro j f L Bf hj hf hz h
    obtain ⟨f, rfl, _⟩ := fuel hf
    exact And.intro (fun _ => hC L (h L hz)) (fun c => absurd (by rw [hk.n3]; exact nI_le (by omega) (by omega)) c)
  | succ d ih =>
    intro j f L Bf hj hf hz h
    obtain ⟨f, rfl, _⟩ := fuel hf
    have hl : j < nl := by omega
    have tj : (nI j).toInt.toNat = j := tn_nI (by omega)
    have il := hk.i3 hl
    obtain ⟨v, y, _, ey, hy, _⟩ := hB j hl
    unfold lfo at h
    rw [gBreath_eq] at h
    refine And.intro (fun c => absurd c (by rw [hk.n3]; exact nI_ge (by omega) (by omega))) (fun _ => ⟨il, il, il, il, fun L1 eL => ⟨il, ?_⟩⟩)
    rw [tj] at eL
    have e2 : L j 2 = Bf j := (hz.l2 hl).trans (congrFun (up2_s M 203 Bf) j)
    rw [e2, he j hl] at eL
    have eL : L1 = st2 L j 2 (Bf j + moreV Q M nb j) := eL
    have e10 : ∀ x, (10 * st2 L j 2 x j 1 : Int32) = nI (10 * y) := fun x => by
      rw [st2_o _ _ (Or.inr (by decide)), hz.l1 hl, ey, show (10 : Int32) = nI 10 from rfl, pk_mul]
    have nxt : ∀ L2, L2 = st2 L j 2 (mxv 0 (mnv (10 * Q 251 j) (Bf j + moreV Q M nb j))) → ∀ v : Int32, v = nI j + 1 → wl_X6_pass_314 nn V S O K f N U L2 B e v := fun L2 e2 v ev => by
      subst ev
      rw [nI_1]
      refine ih (j + 1) f L2 _ (by omega) (by omega) ?_ h
      have := hz.pl2 j (mxv 0 (mnv (10 * Q 251 j) (Bf j + moreV Q M nb j)))
      rw [st2_up2] at this
      rw [e2]
      exact this
    have eq10 : (10 * Q 251 j : Int32) = nI (10 * y) := by rw [ey, show (10 : Int32) = nI 10 from rfl, pk_mul]
    rw [eq10] at nxt
    have cl := clampV (x := Bf j + moreV Q M nb j) (y := 10 * y) (by omega)
    have fin : ∀ x L2, x = (if 0 ≤ Bf j + moreV Q M nb j then Bf j + moreV Q M nb j else 0) → L2 = st2 L j 2 x → wj_X6_pass_346 nn V S O (wl_X6_pass_314 nn V S O K f) K N U L2 B e (nI j) (nI j) := fun x L2 ex e2 => by
      refine ⟨il, il, ?_⟩
      rw [tj, e2, e10, st2_s]
      rw [← ex] at cl
      refine And.intro (fun c => ?_) (fun c => ⟨il, il, fun L3 e3 => ?_⟩)
      · rw [if_pos c] at cl
        exact nxt _ (by rw [← cl])
      · rw [if_neg c] at cl
        refine nxt L3 ?_
        rw [e3, ← cl]
        exact st2_st2 L j 2 x _
    rw [tj, eL, st2_s]
    refine And.intro (fun c => fin _ _ (by rw [if_pos c]) rfl) (fun c => ⟨il, fun L2 e2 => fin 0 L2 (by rw [if_neg c]) ?_⟩)
    rw [e2]
    exact st2_st2 L j 2 _ 0
/-! shafts -/
theorem s_riseL {C : M2 → Prop} (hp : PR P Q np nl nb ns no) (hk : ZK nn V S O Q T np nl nb ns no) {C384 : M2 → M2 → M2 → M2 → Int32 → Int32 → Prop} {C399 : M2 → M2 → M2 → M2 → Int32 → Int32 → Int32 → Int32 → Prop} {v3 v4 v5 : Int32} {q t : Nat} (hq : q < np) (ht : t ≤ 30) (hC : ∀ U, C U → ∀ v : Int32, v = nI q + 1 → C399 N U L B v3 v4 v5 v) : ∀ (g k f : Nat) (U : M2) (A : Nat → Int32) (x : Nat), k + g = t → g < f → x ≤ 100 → A q = nI x → ZS Q (up2 M 202 A) N U L B np nl nb → (∀ U', ZS Q (up2 M 202 (upd A q (nI (min 100 (x + g))))) N U' L B np nl nb → C U') → wl_X6_pass_452 nn V S O C384 C399 K f N U L B v3 v4 v5 (nI q) (nI t) (nI k) := by
  intro g
  have h60 := hp.np3
  have tq : (nI q).toInt.toNat = q := tn_nI (by omega)
  have iq := hk.i1 hq h60
  have same : ∀ (A : Nat → Int32) (x : Nat), A q = nI x → upd A q (nI x) = A := fun A x e => by
    funext j
    by_cases c : j = q
    · subst c
      rw [upd_s, e]
    · rw [upd_n _ _ c]
  induction g with
  | zero =>
    intro k f U A x hj hf hx hA hz h
    obtain ⟨f, rfl, _⟩ := fuel hf
    refine And.intro (fun _ v ev => hC U (h U ?_) v ev) (fun c => absurd (nI_le (by omega) (by omega)) c)
    rw [Nat.add_zero, Nat.min_eq_right (by omega), same A x hA]
    exact hz
  | succ g ih =>
    intro k f U A x hj hf hx hA hz h
    obtain ⟨f, rfl, _⟩ := fuel hf
    have eU : U q 1 = nI x := by rw [hz.u1 hq, up2_s, hA]
    refine And.intro (fun c => absurd c (nI_ge (by omega) (by omega))) (fun _ => ⟨iq, iq, ?_⟩)
    rw [tq, eU]
    refine And.intro (fun c v ev => hC U (h U ?_) v ev) (fun c => ⟨iq, iq, iq, fun U1 e1 v ev => ?_⟩)
    · rw [show (100 : Int32) = nI 100 from rfl, le_nI (by omega) (by omega)] at c
      rw [Nat.min_eq_left (by omega), show (100 : Nat) = x by omega, same A x hA]
      exact hz
    · rw [show (100 : Int32) = nI 100 from rfl, le_nI (by omega) (by omega)] at c
      subst ev
      rw [nI_1]
      rw [nI_1] at e1
      subst e1
      have hz1 := hz.pu q (nI (x + 1))
      rw [st2_up2] at hz1
      refine ih (k + 1) f _ _ (x + 1) (by omega) (by omega) (by omega) (upd_s _ _ _) hz1 (fun U' hz' => h U' ?_)
      have e : upd (upd A q (nI (x + 1))) q (nI (min 100 (x + 1 + g))) = upd A q (nI (min 100 (x + (g + 1)))) := by
        funext j
        by_cases c : j = q
        · subst c
          rw [upd_s, upd_s, show x + 1 + g = x + (g + 1) by omega]
        · rw [upd_n _ _ c, upd_n _ _ c, upd_n _ _ c]
      rw [e] at hz'
      exact hz'
theorem s_drawL {C : M2 → Prop} (hp : PR P Q np nl nb ns no) (hk : ZK nn V S O Q T np nl nb ns no) {C384 : M2 → M2 → M2 → M2 → Int32 → Int32 → Prop} {v3 : Int32} {s : Nat} (hs : s < ns) (hC : ∀ U, C U → ∀ v : Int32, v = nI s + 1 → C384 N U L B v3 v) : ∀ (d j f : Nat) (U : M2) (A : Nat → Int32), j + d = np → d < f → (∀ q, q < np → ∃ x, x ≤ 100 ∧ A q = nI x) → ZS Q (up2 M 202 A) N U L B np nl nb → (∀ U', ZS Q (up2 M 202 (lfo (gDraw Q s) d j A)) N U' L B np nl nb → C U') → wl_X6_pass_399 nn V S O C384 K f N U L B v3 (nI s) (nI s) (nI j) := by
  intro d
  have h60 := hp.np3
  have h4 := hp.ns3
  induction d with
  | zero =>
    intro j f U A hj hf hA hz h
    obtain ⟨f, rfl, _⟩ := fuel hf
    exact And.intro (fun _ v ev => hC U (h U hz) v ev) (fun c => absurd (by rw [hk.n1]; exact nI_le (by omega) (by omega)) c)
  | succ d ih =>
    intro j f U A hj hf hA hz h
    obtain ⟨f, rfl, _⟩ := fuel hf
    have hjn : j < np := by omega
    have ts : (nI s).toInt.toNat = s := tn_nI (by omega)
    have is4 := hk.i2 hs h4
    obtain ⟨x, hx, ex⟩ := hA j hjn
    obtain ⟨a, dr, ha, h1, h2, _, _, f3, f4, eb, hle, hgt⟩ := byV_nI hp hs hjn
    obtain ⟨eS0, eS1⟩ := hk.2.2.2.1 s hs
    have had : adf j a < 100 := by
      unfold adf
      split <;> omega
    unfold lfo at h
    rw [gDraw_eq] at h
    have nxt : ∀ A', A' = (if byV Q s j ≤ 0 then A else upd A j (mnv 100 (A j + byV Q s j))) → (∀ U', ZS Q (up2 M 202 A') N U' L B np nl nb → ∀ v : Int32, v = nI j + 1 → wl_X6_pass_399 nn V S O C384 K f N U' L B v3 (nI s) (nI s) v) := fun A' eA U' hz' v ev => by
      subst ev
      rw [nI_1]
      rw [← eA] at h
      refine ih (j + 1) f U' A' (by omega) (by omega) (fun q hq => ?_) hz' h
      rw [eA]
      by_cases c : byV Q s j ≤ 0
      · rw [if_pos c]
        exact hA q hq
      · rw [if_neg c, hgt (fun z => c (hle.mpr z)), ex, nI_add, mnv_100 (by omega)]
        by_cases e : q = j
        · subst e
          rw [upd_s]
          exact ⟨_, Nat.min_le_left _ _, rfl⟩
        · rw [upd_n _ _ e]
          exact hA q hq
    have fin : ∀ q0 : Int32, q0 = nI (adf j a) → wj_X6_pass_435 nn V S O C384 (wl_X6_pass_399 nn V S O C384 K f) K N U L B v3 (nI s) (nI s) (nI j) q0 := fun q0 e0 => by
      refine ⟨is4, fun v8 e8 => ?_⟩
      rw [ts, eS1, f4, e0, Int32.sub_sub, nI_add, show adf j a + adf j a = 2 * adf j a by omega, ← eb] at e8
      subst e8
      by_cases c : byV Q s j ≤ 0
      · rw [fK3]
        refine And.intro (fun _ v ev => nxt A (by rw [if_pos c]) U hz v ev) (fun z => absurd c z)
      · have c' : ¬ dr ≤ 2 * adf j a := fun z => c (hle.mpr z)
        rw [hgt c']
        refine s_riseL (C := fun U' => ZS Q (up2 M 202 (upd A j (nI (min 100 (x + (dr - 2 * adf j a)))))) N U' L B np nl nb) hp hk hjn (by omega) (fun U' hU' v ev => ?_) (dr - 2 * adf j a) 0 fK U A x (by omega) (by rw [fK_eq]; omega) hx ex hz (fun U' hz' => hz')
        refine nxt _ ?_ U' hU' v ev
        rw [if_neg c, hgt c', ex, nI_add, mnv_100 (by omega)]
    refine And.intro (fun c => absurd c (by rw [hk.n1]; exact nI_ge (by omega) (by omega))) (fun _ => ⟨is4, ?_⟩)
    rw [ts, eS0, f3]
    refine And.intro (fun c => ⟨is4, fin _ ?_⟩) (fun c => ⟨is4, fin _ ?_⟩)
    · rw [le_nI (by omega) (by omega)] at c
      unfold adf
      by_cases e : j < a
      · rw [if_pos e, pk_sub (by omega)]
      · rw [if_neg e, pk_sub (by omega)]
        rw [show a - j = j - a by omega]
    · rw [le_nI (by omega) (by omega)] at c
      unfold adf
      rw [if_neg (by omega), pk_sub (by omega)]
theorem s_drawAll {C : M2 → Prop} (hp : PR P Q np nl nb ns no) (hk : ZK nn V S O Q T np nl nb ns no) (hC : ∀ U, C U → ∀ v3_511, v3_511 = Int32.ofNat (nn 3) → wl_X6_pass_515 nn V S O K fK N U L B v3_511 0) : ∀ (d j f : Nat) (U M : M2), j + d = ns → d < f → ZS Q M N U L B np nl nb → INV Q M np nl nb nb → (∀ U', ZS Q (lfo (mDraw Q np) d j M) N U' L B np nl nb → C U') → wl_X6_pass_384 nn V S O K f N U L B (nI ns) (nI j) := by
  intro d
  have h4 := hp.ns3
  have h60 := hp.np3
  induction d with
  | zero =>
    intro j f U M hj hf hz hI h
    obtain ⟨f, rfl, _⟩ := fuel hf
    exact And.intro (fun _ v ev => hC U (h U hz) v ev) (fun c => absurd (nI_le (by omega) (by omega)) c)
  | succ d ih =>
    intro j f U M hj hf hz hI h
    obtain ⟨f, rfl, _⟩ := fuel hf
    refine And.intro (fun c => absurd c (nI_ge (by omega) (by omega))) (fun _ => ⟨hk.i2 (by omega) h4, ?_⟩)
    refine s_drawL (M := M) (C := fun U' => ZS Q (mDraw Q np j M) N U' L B np nl nb) hp hk (by omega) (fun U' hU' v ev => ?_) np 0 fK U (M 202) (by omega) (by rw [fK_eq]; omega) (fun q hq => hI.1 q hq) (by rw [up2_id]; exact hz) (fun U' hz' => hz')
    subst ev
    rw [nI_1]
    exact ih (j + 1) f U' _ (by omega) (by omega) hU' (hI.draw hp (by omega)) h
/-! walking -/
theorem s_walkL (hp : PR P Q np nl nb ns no) (hk : ZK nn V S O Q T np nl nb ns no) : ∀ (d j f : Nat) (L M : M2), j + d = nl → d < f → ZS Q M N U L B np nl nb → (∀ l, j ≤ l → l < nl → ∃ w, w ≤ 1000 ∧ M 205 l = nI w) → (∀ N' L', ZS Q (up2 (lfo gWalk d j M) 200 (fun _ => lfo gWalk d j M 200 0 + 1)) N' U L' B np nl nb → K N' U L' B) → wl_X6_pass_515 nn V S O K f N U L B (nI nl) (nI j) := by
  intro d
  have hl5 := hk.nl5
  induction d with
  | zero =>
    intro j f L M hj hf hz hw h
    obtain ⟨f, rfl, _⟩ := fuel hf
    refine And.intro (fun _ N' e => h N' L ?_) (fun c => absurd (nI_le (by omega) (by omega)) c)
    rw [e, hz.min]
    exact hz.pmin (M 200 0 + 1)
  | succ d ih =>
    intro j f L M hj hf hz hw h
    obtain ⟨f, rfl, _⟩ := fuel hf
    have hl : j < nl := by omega
    have tj : (nI j).toInt.toNat = j := tn_nI (by omega)
    have il := hk.i3 hl
    obtain ⟨w, hw1, ew⟩ := hw j (Nat.le_refl _) hl
    unfold lfo at h
    have nxt : ∀ L' : M2, L' = st2 L j 4 (mxv 0 (M 205 j - 1)) → ∀ v : Int32, v = nI j + 1 → wl_X6_pass_515 nn V S O K f N U L' B (nI nl) v := fun L' e v ev => by
      subst ev
      rw [nI_1]
      subst e
      refine ih (j + 1) f _ (gWalk j M) (by omega) (by omega) (hz.pl4 j _) (fun l h1 h2 => ?_) h
      obtain ⟨w, hw1, ew⟩ := hw l (by omega) h2
      exact ⟨w, hw1, by unfold gWalk; rw [st2_o _ _ (Or.inr (by omega))]; exact ew⟩
    refine And.intro (fun c => absurd c (nI_ge (by omega) (by omega))) (fun _ => ⟨il, il, ?_⟩)
    rw [tj, hz.l4 hl]
    refine And.intro (fun c => ⟨il, fun L' e => nxt L' ?_⟩) (fun c => ⟨il, il, fun L' e => nxt L' ?_⟩)
    · rw [ew, ← nI_0, le_nI (by omega) (by omega)] at c
      rw [ew, show w = 0 by omega, e]
      rfl
    · rw [ew, ← nI_0, le_nI (by omega) (by omega)] at c
      rw [e]
      have e2 : mxv 0 (M 205 j - 1) = M 205 j - 1 := by
        rw [ew, show (1 : Int32) = nI 1 from rfl, pk_sub (by omega)]
        unfold mxv
        by_cases c3 : 0 < nI (w - 1)
        · rw [if_pos c3]
        · rw [if_neg c3]
          rw [← nI_0, lt_nI (by omega) (by omega)] at c3
          rw [show w - 1 = 0 by omega, nI_0]
      rw [e2]
      rfl
/-! the minute -/
theorem s_pass (hp : PR P Q np nl nb ns no) (hk : ZK nn V S O Q T np nl nb ns no) (hz : ZS Q M N U L B np nl nb) (hI : INV Q M np nl nb nb) (hc : ICP M np nl) (hB : IBR Q M nl) (h : ∀ N' U' L' B', ZS Q (mMin T Q M np nl nb ns no) N' U' L' B' np nl nb → K N' U' L' B') : wp_X6_pass nn V S O N U L B K := by
  have hb5 := hk.nb5
  have hl5 := hk.nl5
  have h4 := hp.ns3
  have h16 := hp.no3
  obtain ⟨hI2, hI3⟩ := INV.five (T := T) hp hI
  have hI1 : INV Q (mTurn T Q M np nb no) np nl nb nb := hI.turnL no 0
  have hI4 := hI3.spoil hp.np3
  have hc1 : ICP (mTurn T Q M np nb no) np nl := hc.cong (mTurnL_n (by decide) no 0)
  have hc2 : ∀ (d j : Nat) (M : M2), ICP M np nl → ICP (lfo (gEnter T Q np nb no) d j M) np nl := by
    intro d
    induction d with
    | zero => exact fun _ _ h => h
    | succ d ih => exact fun j M h => ih (j + 1) _ (h.gEn hp)
  have e203 : lfo (gPush Q nb) nb 0 (lfo (gEnter T Q np nb no) nb 0 (mTurn T Q M np nb no)) 203 = M 203 := by
    rw [lfo_n (fun i M => gPush_n (by decide) (by decide) (by decide) (by decide) (by decide) (by decide)), lfo_n (fun i M => gEnter_n (by decide) (by decide) (by decide) (by decide))]
    exact mTurnL_n (by decide) no 0
  have e203' : lfo (gEnter T Q np nb no) nb 0 (mTurn T Q M np nb no) 203 = M 203 := by
    rw [lfo_n (fun i M => gEnter_n (by decide) (by decide) (by decide) (by decide))]
    exact mTurnL_n (by decide) no 0
  intro v2 e2
  subst e2
  rw [hk.n5]
  refine s_turnL (C := fun N' => ZS Q (mTurn T Q M np nb no) N' U L B np nl nb) hp hk hz hc (fun N1 hz1 => ?_) no 0 fK (by omega) (by rw [fK_eq]; omega) (fun N' hz' => hz')
  refine s_enterL (C := fun N U L B => ZS Q (lfo (gEnter T Q np nb no) nb 0 (mTurn T Q M np nb no)) N U L B np nl nb) hp hk (fun N2 U2 L2 B2 hz2 => ?_) nb 0 fK _ _ _ (by omega) (by rw [fK_eq]; omega) hz1 hI1 hc1 (fun L' B' hz' => hz')
  refine s_pushAll (C := fun N U L B => ZS Q (lfo (gPush Q nb) nb 0 (lfo (gEnter T Q np nb no) nb 0 (mTurn T Q M np nb no))) N U L B np nl nb) hp hk (fun N3 U3 L3 B3 hz3 => ⟨by rw [hk.1.2.2.2.1]; omega, fun e he v ev => ?_⟩) nb 0 fK _ _ _ (by omega) (by rw [fK_eq]; omega) hz2 hI2 (hc2 nb 0 _ hc1) (hB.cong e203') (fun L' B' hz' => hz')
  subst ev
  rw [hk.n4]
  refine s_spoilL (M := lfo (gPush Q nb) nb 0 (lfo (gEnter T Q np nb no) nb 0 (mTurn T Q M np nb no))) (C := fun U e => ZS Q (mSpoil (lfo (gPush Q nb) nb 0 (lfo (gEnter T Q np nb no) nb 0 (mTurn T Q M np nb no))) nb) N3 U L3 B3 np nl nb ∧ MOR Q (lfo (gPush Q nb) nb 0 (lfo (gEnter T Q np nb no) nb 0 (mTurn T Q M np nb no))) nl nb e) hp hk hI3 (fun U4 e4 hx => ?_) nb 0 fK U3 e (by omega) (by rw [fK_eq]; omega) (by rw [show lfo (gSpoil (lfo (gPush Q nb) nb 0 (lfo (gEnter T Q np nb no) nb 0 (mTurn T Q M np nb no)))) 0 0 (lfo (gPush Q nb) nb 0 (lfo (gEnter T Q np nb no) nb 0 (mTurn T Q M np nb no)) 202) = lfo (gPush Q nb) nb 0 (lfo (gEnter T Q np nb no) nb 0 (mTurn T Q M np nb no)) 202 from rfl, up2_id]; exact hz3) ⟨fun l hl _ => he l (by rw [hk.1.2.2.2.1]; exact hl), fun b hb => absurd hb (Nat.not_lt_zero _)⟩ (fun U' e' a b => ⟨a, b⟩)
  obtain ⟨hz4, hm4⟩ := hx
  have hB4 : IBR Q (mSpoil (lfo (gPush Q nb) nb 0 (lfo (gEnter T Q np nb no) nb 0 (mTurn T Q M np nb no))) nb) nl := hB.cong ((up2_n _ _ (by decide)).trans e203)
  have hI5 : INV Q (mBreathe Q (mSpoil (lfo (gPush Q nb) nb 0 (lfo (gEnter T Q np nb no) nb 0 (mTurn T Q M np nb no))) nb) nl nb) np nl nb nb := hI4.off (by decide) (by decide) (by decide) (by decide) (by decide) (by decide)
  refine s_breatheL (M := mSpoil (lfo (gPush Q nb) nb 0 (lfo (gEnter T Q np nb no) nb 0 (mTurn T Q M np nb no))) nb) (C := fun L => ZS Q (mBreathe Q (mSpoil (lfo (gPush Q nb) nb 0 (lfo (gEnter T Q np nb no) nb 0 (mTurn T Q M np nb no))) nb) nl nb) N3 U4 L B3 np nl nb) hp hk hB4 (fun l hl => hm4.more hp hI3 hl) (fun L5 hz5 v ev => ?_) nl 0 fK L3 _ (by omega) (by rw [fK_eq]; omega) (by rw [up2_id]; exact hz4) (fun L' hz' => hz')
  subst ev
  rw [hk.n2]
  refine s_drawAll (C := fun U => ZS Q (lfo (mDraw Q np) ns 0 (mBreathe Q (mSpoil (lfo (gPush Q nb) nb 0 (lfo (gEnter T Q np nb no) nb 0 (mTurn T Q M np nb no))) nb) nl nb)) N3 U L5 B3 np nl nb) hp hk (fun U6 hz6 v ev => ?_) ns 0 fK U4 _ (by omega) (by rw [fK_eq]; omega) hz5 hI5 (fun U' hz' => hz')
  subst ev
  rw [hk.n3]
  have hI6 := INV.drawAll hp ns 0 _ (by omega) hI5
  refine s_walkL hp hk nl 0 fK L5 _ (by omega) (by rw [fK_eq]; omega) hz6 (fun l _ hl => ?_) (fun N' L' hz' => h N' U6 L' B3 hz')
  obtain ⟨w, hw, ew⟩ := hI6.2.1 l hl
  exact ⟨w, by omega, ew⟩
end ZF
