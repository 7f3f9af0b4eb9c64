/-! ===== the law's checks, ahead of the minute: places, leggers ===== -/
section LAWC
variable {q : Nat → Nat} {P Q : M2} {nn : Nat → Nat} {V S O F G C N U L B M : M2} {ap kb np nl nb ns no t : Nat} {T : Nat → List (Int32 × Int32)} {xs : Nat → Int32} {Ln : Nat} {C60 : Nat → M2 → M2 → M2 → M2 → M2 → M2 → M2 → Int32 → Int32 → Int32 → Int32 → Prop} {K : Int32 → Prop} {e143 e137 : Nat → Int32} {e129 e119 : M2}
theorem y_745 {C687 : Nat → M2 → M2 → M2 → M2 → M2 → M2 → M2 → (Nat → Int32) → (Nat → Int32) → M2 → M2 → Int32 → Int32 → Int32 → Int32 → Int32 → Int32 → Int32 → Int32 → Int32 → Int32 → Int32 → Int32 → Prop} {v8 v13 v14 v15 v16 v17 q0 q1 : Int32} {j : Nat} (hX : PRX P Q kb np nl nb ns no) (hk : ZK nn V S O Q T np nl nb ns no) (hR : RE np nl nb F M) (hI : IX Q M np nl nb t) (hj : j < np) (he : ∀ p, p < np → e137 p = if p < j + 1 then M 202 p else 0) (h : ∀ v18 : Int32, v18 = q1 + q0 → ∀ v : Int32, v = nI j + 1 → C687 ap F G C N U L B e143 e137 e129 e119 (nI np) (nI nl) (nI nb) (nI t) v8 v13 v14 v15 v16 v17 v18 v) : wj_L_law_745 q P nn V S O xs Ln C60 C687 K ap F G C N U L B e143 e137 e129 e119 (nI np) (nI nl) (nI nb) (nI t) v8 v13 v14 v15 v16 v17 (nI j) q0 q1 := by
  have h60 := hX.1.np3
  have tj : (nI j).toInt.toNat = j := tn_nI (by omega)
  have ij := inn hj (by omega)
  obtain ⟨a, ha, ea⟩ := hI.inv.1 j hj
  obtain ⟨w, hw, ew, hmin⟩ := wF_spec (A := M 202) (np := np) np 0 (-1) (by omega) h60 hk.np0 (Or.inl ⟨rfl, rfl⟩)
  have tw : (nI w).toInt.toNat = w := tn_nI (by omega)
  intro v18 e18
  refine ⟨ij, ?_⟩
  rw [tj, he j hj, if_pos (by omega), ea]
  refine And.intro (fun c => absurd c (nI_pos (by omega))) (fun _ => ⟨ij, And.intro (fun c => absurd c ?_) (fun _ => ⟨ij, c_worst h60 hX.1.np1 hR ?_⟩)⟩)
  · rw [show (100 : Int32) = nI 100 from rfl, lt_nI (by omega) (by omega)]
    omega
  rw [ew, tw, he w hw]
  refine ⟨inn hw (by omega), And.intro (fun _ => h v18 e18) (fun c => absurd ?_ c)⟩
  by_cases c : w < j + 1
  · rw [if_pos c, ← ea]
    exact hmin j hj
  · rw [if_neg c]
    exact nI_pos' (by omega)
theorem y_687 {v8 v14 : Int32} (hX : PRX P Q kb np nl nb ns no) (hPT : PT P Q T nl nb no) (hk : ZK nn V S O Q T np nl nb ns no) (hR : RE np nl nb F M) (hz : ZS Q M N U L B np nl nb) (hI : IX Q M np nl nb t) (ht : t ≤ 1000) (hn : CAN M) (hC : C 91 0 = 0) (h14 : ¬ v14 = 3) (he3 : ∀ b, b < nb → ¬ e143 b = 0 → canP T Q M np nb no b) (he9 : ∀ l w, l < nl → w < 7 → e129 l w = leV Q M nb l w) (heb : ∀ b w, b < nb → w < 7 → e119 b w = baV Q M b w) (h : GOON T Q M C np nl nb ns no t C60) : ∀ (d j f : Nat) (e137 : Nat → Int32) (v16 v17 v18 : Int32), j + d = np → d < f → (∀ p, p < np → e137 p = if p < j then M 202 p else 0) → sfr (M 202) d j v16 = mAllAir M np → sfr (fun p => mCapsAt M nl (nI p)) d j v17 = nI nl - mCapsAt M nl (-1) → sfr (tkV M nb) d j v18 = mThose M nb 1 → wl_L_law_687 q P nn V S O xs Ln C60 K f ap F G C N U L B e143 e137 e129 e119 (nI np) (nI nl) (nI nb) (nI t) v8 (mThose M nb 1) v14 (nI nl - mCapsAt M nl (-1)) v16 v17 v18 (nI j) := by
  intro d
  have h60 := hX.1.np3
  have h8 := hX.1.nb3
  induction d with
  | zero =>
    intro j f e137 v16 v17 v18 hj hf he h16 h17 h18
    obtain ⟨f, rfl, _⟩ := fuel hf
    have ej : j = np := by omega
    subst ej
    have h16 : v16 = _ := h16
    have h17 : v17 = _ := h17
    have h18 : v18 = _ := h18
    subst h16 h17 h18
    have c9 : coV Q M j nl nb 0 9 = mThose M nb 1 := rfl
    have c8 : coV Q M j nl nb 0 8 = mThose M nb 0 := rfl
    have c10 : coV Q M j nl nb 0 10 = mThose M nb 2 := rfl
    have c11 : coV Q M j nl nb 0 11 = mAllAir M j := rfl
    have c12 : coV Q M j nl nb 0 12 = nI nl - mCapsAt M nl (-1) := rfl
    have hall : mThose M nb 0 + mThose M nb 1 + mThose M nb 2 = nI nb := those_all (fun b hb => hI.how hb) nb (Nat.le_refl _)
    refine And.intro (fun _ => And.intro (fun c => absurd c h14) (fun _ => And.intro (fun c => absurd rfl c) (fun _ => c_count (w := 9) hX hR hC (by decide) ?_))) (fun c => absurd (nI_le (by omega) (by omega)) c)
    rw [c9]
    refine And.intro (fun c => absurd rfl c) (fun _ => c_count (w := 8) hX hR hC (by decide) (c_count (w := 10) hX hR hC (by decide) ?_))
    rw [c8, c10, hall]
    refine And.intro (fun c => absurd rfl c) (fun _ => c_count (w := 11) hX hR hC (by decide) ?_)
    rw [c11]
    refine And.intro (fun c => absurd rfl c) (fun _ => c_count (w := 12) hX hR hC (by decide) ?_)
    rw [c12]
    refine And.intro (fun c => absurd rfl c) (fun _ => And.intro (fun _ => c_count (w := 1) hX hR hC (by decide) (c_count (w := 10) hX hR hC (by decide) (c_digest hX hR hC ?_))) (fun c => absurd rfl c))
    exact y_905 hX hPT hk hR hz hI ht hn hC ⟨he3, fun p hp => by rw [he p hp, if_pos hp], he9, heb⟩ h 5 8 fK ap G (fun _ => 0) (by decide) (by decide) (by rw [fK_eq]; decide) (fun w h1 h2 => by omega)
  | succ d ih =>
    intro j f e137 v16 v17 v18 hj hf he h16 h17 h18
    obtain ⟨f, rfl, _⟩ := fuel hf
    have hp : j < np := by omega
    have tj : (nI j).toInt.toNat = j := tn_nI (by omega)
    have ij := inn hp (by omega)
    unfold sfr at h16 h17 h18
    refine And.intro (fun c => absurd c (nI_ge (by omega) (by omega))) (fun _ => c_place (w := 1) hX hR hp (by decide) ⟨ij, fun e1 ee => ⟨ij, fun v16' e16 => c_place (w := 2) hX hR hp (by decide) (fun v17' e17 => c_place (w := 3) hX hR hp (by decide) ?_)⟩⟩)
    rw [tj] at ee e16
    have p1 : plV Q M nl nb j 1 = M 202 j := rfl
    have p2 : plV Q M nl nb j 2 = mCapsAt M nl (nI j) := rfl
    have p3 : plV Q M nl nb j 3 = mBoatAt M nb (nI j) := rfl
    rw [p1] at ee
    rw [p2] at e17
    rw [ee, upd_s] at e16
    have he' : ∀ p, p < np → e1 p = if p < j + 1 then M 202 p else 0 := fun p hpp => by
      rw [ee]
      by_cases e : p = j
      · rw [e, upd_s, if_pos (by omega)]
      · rw [upd_n _ _ e, he p hpp]
        by_cases c : p < j
        · rw [if_pos c, if_pos (by omega)]
        · rw [if_neg c, if_neg (by omega)]
    subst e16 e17
    have go : ∀ q0 : Int32, q0 = tkV M nb j → wj_L_law_745 q P nn V S O xs Ln C60 (wl_L_law_687 q P nn V S O xs Ln C60 K f) K ap F G C N U L B e143 e1 e129 e119 (nI np) (nI nl) (nI nb) (nI t) v8 (mThose M nb 1) v14 (nI nl - mCapsAt M nl (-1)) (v16 + M 202 j) (v17 + mCapsAt M nl (nI j)) (nI j) q0 v18 := fun q0 eq => y_745 hX hk hR hI hp he' (fun v18' e18 v ev => by
      subst ev
      rw [nI_1]
      refine ih (j + 1) f e1 _ _ v18' (by omega) (by omega) he' h16 h17 ?_
      rw [e18, eq]
      exact h18)
    rw [p3]
    refine And.intro (fun c => go 1 ?_) (fun c => go 0 ?_)
    · unfold tkV
      rw [if_neg (Int32.not_lt.mpr c)]
    · unfold tkV
      rw [if_pos (Int32.not_le.mp c)]
/-! leggers -/
theorem y_634 {C454 : Nat → M2 → M2 → M2 → M2 → M2 → M2 → M2 → (Nat → Int32) → (Nat → Int32) → M2 → M2 → Int32 → Int32 → Int32 → Int32 → Int32 → Int32 → Int32 → Int32 → Int32 → Prop} {v8 v13 v14 v15 : Int32} {j : Nat} (hX : PRX P Q kb np nl nb ns no) (hkb : nn 0 = kb) (hk : ZK nn V S O Q T np nl nb ns no) (hR : RE np nl nb F M) (hI : IX Q M np nl nb t) (hj : j < nl) (he : ∀ w, w < 7 → e129 j w = leV Q M nb j w) (h : ∀ v : Int32, v = nI j + 1 → C454 ap F G C N U L B e143 e137 e129 e119 (nI np) (nI nl) (nI nb) (nI t) v8 v13 v14 v15 v) : wj_L_law_634 q P nn V S O xs Ln C60 C454 K ap F G C N U L B e143 e137 e129 e119 (nI np) (nI nl) (nI nb) (nI t) v8 v13 v14 v15 (nI j) (nI j) := by
  have h60 := hX.1.np3
  have h6 := hX.1.nl3
  have tj : (nI j).toInt.toNat = j := tn_nI (by omega)
  have ij := inn hj (by omega)
  have e6 : leV Q M nb j 6 = M 204 j := rfl
  have e0 : leV Q M nb j 0 = Q 250 j := rfl
  refine ⟨ij, ?_⟩
  rw [tj, he 6 (by decide), he 0 (by decide), e6, e0]
  rcases hI.icl j hj with z | ⟨p, hpn, z, hlow⟩
  · rw [z]
    exact And.intro (fun _ => h) (fun c => absurd (by decide) c)
  · rw [z]
    refine And.intro (fun c => absurd c (nI_pos (by omega))) (fun _ => ⟨ij, c_place (w := 0) hX hR hpn (by decide) ?_⟩)
    obtain ⟨k, x, hkk, hx, ek, _, eq⟩ := hk.2.2.1 p hpn
    obtain ⟨y, y2, hy1, hy9, _, _, _, ey, _⟩ := hX.1.leg j hj
    have p0 : plV Q M nl nb p 0 = nI k := ek
    rw [p0]
    refine c_bore (w := 1) hX hR (by omega) (by decide) ⟨ij, ?_⟩
    have b1 : boV Q M k 1 = nI x := eq
    rw [b1, ey]
    refine And.intro (fun _ => h) (fun c => ?_)
    have low : lowV Q (nI p) = nI x := by
      unfold lowV
      rw [tn_nI (by omega), ek, tn_nI (by have := hk.n0; omega), eq]
    rw [low, ey, show (12 : Int32) = nI 12 from rfl, pk_sub (by omega), le_nI (by omega) (by omega)] at hlow
    rw [show (12 : Int32) = nI 12 from rfl, nI_add, lt_nI (by omega) (by omega)] at c
    omega
theorem boatOf_crew (hp : PR P Q np nl nb ns no) {l : Nat} (hl : l < nl) : mBoatOf Q M nb (nI l) = -1 ∨ ∃ b, b < nb ∧ mBoatOf Q M nb (nI l) = nI b ∧ M 206 b = 1 ∧ (l = kr0 Q b ∨ l = kr1 Q b) := by
  have h6 := hp.nl3
  rcases boatOf_cases (M := M) hp (l := l) with z | ⟨b, hb, e, h1, h⟩
  · exact Or.inl z
  · refine Or.inr ⟨b, hb, e, h1, ?_⟩
    rcases h with z | z | z
    · exact Or.inl z
    · exact Or.inr z
    · omega
theorem y_514 {C454 : Nat → M2 → M2 → M2 → M2 → M2 → M2 → M2 → (Nat → Int32) → (Nat → Int32) → M2 → M2 → Int32 → Int32 → Int32 → Int32 → Int32 → Int32 → Int32 → Int32 → Int32 → Prop} {v8 v13 v14 q0 q1 : Int32} {j : Nat} (hX : PRX P Q kb np nl nb ns no) (hkb : nn 0 = kb) (hk : ZK nn V S O Q T np nl nb ns no) (hR : RE np nl nb F M) (hI : IX Q M np nl nb t) (hj : j < nl) (he : ∀ w, w < 7 → e129 j w = leV Q M nb j w) (h : ∀ v15 : Int32, v15 = q1 + q0 → ∀ v : Int32, v = nI j + 1 → C454 ap F G C N U L B e143 e137 e129 e119 (nI np) (nI nl) (nI nb) (nI t) v8 v13 v14 v15 v) : wj_L_law_514 q P nn V S O xs Ln C60 C454 K ap F G C N U L B e143 e137 e129 e119 (nI np) (nI nl) (nI nb) (nI t) v8 v13 v14 (nI j) (nI j) q0 q1 := by
  have h60 := hX.1.np3
  have h6 := hX.1.nl3
  have h8 := hX.1.nb3
  have tj : (nI j).toInt.toNat = j := tn_nI (by omega)
  have ij := inn hj (by omega)
  have e1 : leV Q M nb j 1 = Q 251 j := rfl
  have e2 : leV Q M nb j 2 = M 203 j := rfl
  have e3 : leV Q M nb j 3 = if M 204 j = -1 then 1 else 0 := rfl
  have e4 : leV Q M nb j 4 = mBoatOf Q M nb (nI j) := rfl
  have e5 : leV Q M nb j 5 = M 205 j := rfl
  have e6 : leV Q M nb j 6 = M 204 j := rfl
  obtain ⟨v, y, ev, ey, hy, hv⟩ := hI.ibr j hj
  obtain ⟨w, hw, ew⟩ := hI.walk hj
  intro v15 e15
  have l634 := y_634 (q := q) (nn := nn) (V := V) (S := S) (O := O) (xs := xs) (Ln := Ln) (C60 := C60) (K := K) (ap := ap) (G := G) (C := C) (N := N) (U := U) (L := L) (B := B) (C454 := C454) (e143 := e143) (e137 := e137) (e119 := e119) (v8 := v8) (v13 := v13) (v14 := v14) (v15 := v15) hX hkb hk hR hI hj he (h v15 e15)
  have l597 : wj_L_law_597 q P nn V S O xs Ln C60 C454 K ap F G C N U L B e143 e137 e129 e119 (nI np) (nI nl) (nI nb) (nI t) v8 v13 v14 v15 (nI j) (nI j) := by
    refine ⟨ij, ?_⟩
    rw [tj, he 4 (by decide), e4]
    refine And.intro (fun _ => l634) (fun c => ⟨ij, ?_⟩)
    rcases boatOf_crew (M := M) hX.1 hj with z | ⟨b, hb, e, h1, hcr⟩
    · rw [z] at c
      exact absurd (by decide) c
    · rw [e]
      obtain ⟨_, _, _, _, ec1, _, ec2, _⟩ := hX.1.boat b hb
      refine c_crew (w := 0) hX hb (by decide) (And.intro (fun _ => l634) (fun c1 => ⟨ij, c_crew (w := 1) hX hb (by decide) (And.intro (fun _ => l634) (fun c2 => ?_))⟩))
      rw [ec1] at c1
      rw [ec2] at c2
      rcases hcr with r | r
      · exact c1 (by rw [r])
      · exact c2 (by rw [r])
  have l564 : ∀ x : Int32, wj_L_law_564 q P nn V S O xs Ln C60 C454 K ap F G C N U L B e143 e137 e129 e119 (nI np) (nI nl) (nI nb) (nI t) v8 v13 v14 v15 (nI j) (nI j) x x := fun x => by
    refine And.intro (fun c => absurd rfl c) (fun _ => ⟨ij, ?_⟩)
    rw [tj, he 5 (by decide), he 4 (by decide), e5, e4, ew]
    refine And.intro (fun c => absurd c (nI_pos (by omega))) (fun _ => ⟨ij, And.intro (fun c => absurd c ?_) (fun _ => ⟨ij, And.intro (fun _ => l597) (fun c => ⟨ij, And.intro (fun c2 => absurd c2 ?_) (fun _ => l597)⟩)⟩)⟩)
    · rw [show (9 : Int32) = nI 9 from rfl, lt_nI (by omega) (by omega)]
      omega
    · rcases boatOf_crew (M := M) hX.1 hj with z | ⟨b, hb, e, h1, hcr⟩
      · rw [z] at c
        exact absurd (by decide) c
      · obtain ⟨r0, r1⟩ := hI.rest hb h1
        have : M 205 j = 0 := by
          rcases hcr with r | r
          · rw [r]; exact r0
          · rw [r]; exact r1
        rw [ew] at this
        rw [this]
        decide
  refine ⟨ij, ?_⟩
  rw [tj, he 2 (by decide), he 1 (by decide), he 3 (by decide), he 6 (by decide), e1, e2, e3, e6, ev, ey]
  refine And.intro (fun c => absurd c (nI_pos (by omega))) (fun _ => ⟨ij, ij, And.intro (fun c => absurd c ?_) (fun _ => ⟨ij, ?_⟩)⟩)
  · rw [show (10 : Int32) = nI 10 from rfl, pk_mul, lt_nI (by omega) (by omega)]
    omega
  rcases hI.icp j hj with z | ⟨p, hpn, z⟩
  · rw [z, if_pos rfl]
    exact And.intro (fun c => absurd rfl c) (fun _ => ⟨ij, And.intro (fun c => absurd c (by decide)) (fun _ => l564 1)⟩)
  · rw [z, if_neg (nI_nm1 (by omega))]
    exact And.intro (fun _ => ⟨ij, And.intro (fun _ => l564 0) (fun c => absurd (nI_pos' (by omega)) c)⟩) (fun c => absurd c (by decide))
theorem y_464 {C454 : Nat → M2 → M2 → M2 → M2 → M2 → M2 → M2 → (Nat → Int32) → (Nat → Int32) → M2 → M2 → Int32 → Int32 → Int32 → Int32 → Int32 → Int32 → Int32 → Int32 → Int32 → Prop} {v8 v13 v14 v15 : Int32} {j : Nat} (hX : PRX P Q kb np nl nb ns no) (hkb : nn 0 = kb) (hk : ZK nn V S O Q T np nl nb ns no) (hR : RE np nl nb F M) (hI : IX Q M np nl nb t) (hj : j < nl) (h : ∀ e129' : M2, (∀ w, w < 7 → e129' j w = leV Q M nb j w) → (∀ l, l ≠ j → e129' l = e129 l) → ∀ v15' : Int32, v15' = v15 + (if ¬ M 204 j = -1 then 1 else 0) → ∀ v : Int32, v = nI j + 1 → C454 ap F G C N U L B e143 e137 e129' e119 (nI np) (nI nl) (nI nb) (nI t) v8 v13 v14 v15' v) : ∀ (d w f : Nat) (e : M2), w + d = 7 → d < f → (∀ x, x < w → e j x = leV Q M nb j x) → (∀ l, l ≠ j → e l = e129 l) → wl_L_law_464 q P nn V S O xs Ln C60 C454 K f ap F G C N U L B e143 e137 e e119 (nI np) (nI nl) (nI nb) (nI t) v8 v13 v14 v15 (nI j) (nI w) := by
  intro d
  have h6 := hX.1.nl3
  have tj : (nI j).toInt.toNat = j := tn_nI (by omega)
  have ij := inn hj (by omega)
  induction d with
  | zero =>
    intro w f e hw hf he ho
    obtain ⟨f, rfl, _⟩ := fuel hf
    have ew : w = 7 := by omega
    subst ew
    have e3 : leV Q M nb j 3 = if M 204 j = -1 then 1 else 0 := rfl
    refine And.intro (fun _ => ⟨ij, ij, ?_⟩) (fun c => absurd (by decide) c)
    rw [tj, he 3 (by decide), e3]
    refine And.intro (fun c => y_514 hX hkb hk hR hI hj he (fun v15' e15 => h e he ho v15' ?_)) (fun c => y_514 hX hkb hk hR hI hj he (fun v15' e15 => h e he ho v15' ?_))
    · by_cases z : M 204 j = -1
      · rw [e15, if_neg (fun y => y z)]
      · rw [if_neg z] at c
        exact absurd rfl c
    · by_cases z : M 204 j = -1
      · rw [if_pos z] at c
        exact absurd c (by decide)
      · rw [e15, if_pos z]
  | succ d ih =>
    intro w f e hw hf he ho
    obtain ⟨f, rfl, _⟩ := fuel hf
    have tw : (nI w).toInt.toNat = w := tn_nI (by omega)
    refine And.intro (fun c => absurd c (by rw [show (7 : Int32) = nI 7 from rfl]; exact nI_ge (by omega) (by omega))) (fun _ => ⟨ij, c_legger hX hR hj (by omega : w ≤ 6) ⟨ij, inb_nJ (by omega) (by decide), fun e1 ee v ev => ?_⟩⟩)
    subst ev
    rw [nI_1]
    rw [tj, tw] at ee
    refine ih (w + 1) f e1 (by omega) (by omega) (fun x hx => ?_) (fun l hl => ?_)
    · rw [ee, up2_s]
      by_cases c : x = w
      · rw [c, upd_s]
      · rw [upd_n _ _ c]
        exact he x (by omega)
    · rw [ee, up2_n _ _ hl]
      exact ho l hl
theorem y_454 {v8 v14 : Int32} (hX : PRX P Q kb np nl nb ns no) (hPT : PT P Q T nl nb no) (hkb : nn 0 = kb) (hk : ZK nn V S O Q T np nl nb ns no) (hR : RE np nl nb F M) (hz : ZS Q M N U L B np nl nb) (hI : IX Q M np nl nb t) (ht : t ≤ 1000) (hn : CAN M) (hC : C 91 0 = 0) (h14 : ¬ v14 = 3) (he3 : ∀ b, b < nb → ¬ e143 b = 0 → canP T Q M np nb no b) (heb : ∀ b w, b < nb → w < 7 → e119 b w = baV Q M b w) (h : GOON T Q M C np nl nb ns no t C60) : ∀ (d j f : Nat) (e129 : M2) (v15 : Int32), j + d = nl → d < f → (∀ l w, l < j → w < 7 → e129 l w = leV Q M nb l w) → cfr (fun i => ¬ M 204 i = -1) d j v15 = nI nl - mCapsAt M nl (-1) → wl_L_law_454 q P nn V S O xs Ln C60 K f ap F G C N U L B e143 (fun _ => 0) e129 e119 (nI np) (nI nl) (nI nb) (nI t) v8 (mThose M nb 1) v14 v15 (nI j) := by
  intro d
  have h60 := hX.1.np3
  have h6 := hX.1.nl3
  induction d with
  | zero =>
    intro j f e129 v15 hj hf he h15
    obtain ⟨f, rfl, _⟩ := fuel hf
    have ej : j = nl := by omega
    subst ej
    have h15 : v15 = _ := h15
    subst h15
    refine And.intro (fun _ => ?_) (fun c => absurd (nI_le (by omega) (by omega)) c)
    refine y_687 hX hPT hk hR hz hI ht hn hC h14 he3 he heb h np 0 fK (fun _ => 0) 0 0 0 (by omega) (by rw [fK_eq]; omega) (fun p _ => by rw [if_neg (Nat.not_lt_zero p)]) rfl ?_ ?_
    · exact cap_sum hX.1 hI.icp
    · exact tk_sum hX.1 hI.inv
  | succ d ih =>
    intro j f e129 v15 hj hf he h15
    obtain ⟨f, rfl, _⟩ := fuel hf
    have hl : j < nl := by omega
    have e15 : cfr (fun i => ¬ M 204 i = -1) d (j + 1) (if ¬ M 204 j = -1 then v15 + 1 else v15) = nI nl - mCapsAt M nl (-1) := h15
    refine And.intro (fun c => absurd c (nI_ge (by omega) (by omega))) (fun _ => y_464 (e129 := e129) hX hkb hk hR hI hl (fun e' h1 h2 v15' ev15 v ev => ?_) 7 0 fK e129 (by decide) (by rw [fK_eq]; decide) (fun x hx => absurd hx (Nat.not_lt_zero _)) (fun _ _ => rfl))
    subst ev
    rw [nI_1]
    refine ih (j + 1) f e' v15' (by omega) (by omega) (fun l w hl2 hw => ?_) ?_
    · by_cases c : l = j
      · rw [c]
        exact h1 w hw
      · rw [h2 l c]
        exact he l w (by omega) hw
    · by_cases c : M 204 j = -1
      · rw [if_neg (fun y => y c)] at ev15 e15
        rw [ev15, Int32.add_zero]
        exact e15
      · rw [if_pos c] at ev15 e15
        rw [ev15]
        exact e15
end LAWC
