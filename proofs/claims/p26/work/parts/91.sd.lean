/-! ===== the law's checks, ahead of the minute: boats; the loop ===== -/
section LAWD
variable {q : Nat → Nat} {P Q : M2} {nn : Nat → Nat} {V S O F G C N U L B M : M2} {ap kb np nl nb ns no t : Nat} {T : Nat → List (Int32 × Int32)} {xs : Nat → Int32} {Ln : Nat} {C60 : Nat → M2 → M2 → M2 → M2 → M2 → M2 → M2 → Int32 → Int32 → Int32 → Int32 → Prop} {K : Int32 → Prop} {e143 e137 : Nat → Int32} {e129 e119 : M2}
theorem boatAt_is (hp : PR P Q np nl nb ns no) (hI : INV Q M np nl nb nb) {b p : Nat} (hb : b < nb) (h1 : M 206 b = 1) (hat : M 209 b = nI p) : mBoatAt M nb (nI p) = nI b := by
  have h8 := hp.nb3
  unfold mBoatAt
  rcases ffr_spec (p := pBoatAt (M 206) (M 209) (nI p)) nb 0 with ⟨_, h2⟩ | ⟨i, _, hi, h3, h4, _⟩
  · exact absurd ⟨h1, hat⟩ (h2 b (by omega) (by omega))
  · rw [h4]
    have : i = b := Decidable.byContradiction (fun w => hI.2.2.2.1 i b (by omega) hb w h3.1 h1 (h3.2.trans hat.symm))
    rw [this]
theorem boatOf_is (hp : PR P Q np nl nb ns no) (hI : INV Q M np nl nb nb) {b l : Nat} (hb : b < nb) (h1 : M 206 b = 1) (hl : l = kr0 Q b ∨ l = kr1 Q b) (hln : l < nl) : mBoatOf Q M nb (nI l) = nI b := by
  have h8 := hp.nb3
  obtain ⟨_, _, _, _, ec1, _, ec2, _⟩ := hp.boat b hb
  rcases boatOf_crew (M := M) hp hln with z | ⟨c, hc, e, c1, hcr⟩
  · have := boatOf_none h8 z b hb h1
    rcases hl with rfl | rfl
    · exact absurd ec1 this.1
    · exact absurd ec2 this.2
  · have : c = b := Decidable.byContradiction (fun w => by
      obtain ⟨x1, x2, x3, x4⟩ := hI.2.2.2.2.1 c b hc hb w c1 h1
      rcases hl with rfl | rfl
      · rcases hcr with y | y
        · exact x1 y.symm
        · exact x3 y.symm
      · rcases hcr with y | y
        · exact x2 y.symm
        · exact x4 y.symm)
    rw [e, this]
/-- which ways those of the first j boats go that are inside -/
def WAY (M : M2) (nb j : Nat) (v : Int32) : Prop := (v = 0 ∧ ∀ c, c < j → ¬ M 206 c = 1) ∨ (v = 1 ∧ ∀ c, c < nb → M 206 c = 1 → M 207 c = 0) ∨ (v = 2 ∧ ∀ c, c < nb → M 206 c = 1 → M 207 c = 1)
theorem y_332 {C156 : Nat → M2 → M2 → M2 → M2 → M2 → M2 → M2 → (Nat → Int32) → (Nat → Int32) → M2 → M2 → Int32 → Int32 → Int32 → Int32 → Int32 → Int32 → Int32 → Int32 → Prop} {v8 v13 v14 q0 : Int32} {j : Nat} (hX : PRX P Q kb np nl nb ns no) (hR : RE np nl nb F M) (hI : IX Q M np nl nb t) (ht : t ≤ 1000) (hC : C 91 0 = 0) (hj : j < nb) (he : ∀ w, w < 7 → e119 j w = baV Q M j w) (hw : WAY M nb j v14) (h : ∀ v13' v14' : Int32, v13' = (if M 206 j = 1 then v13 + 1 else v13) → WAY M nb (j + 1) v14' → ∀ v : Int32, v = nI j + 1 → C156 ap F G C N U L B e143 e137 e129 e119 (nI np) (nI nl) (nI nb) (nI t) v8 v13' v14' v) : wj_L_law_332 q P nn V S O xs Ln C60 C156 K ap F G C N U L B e143 e137 e129 e119 (nI np) (nI nl) (nI nb) (nI t) v8 v13 v14 (nI j) (nI j) q0 q0 := by
  have h60 := hX.1.np3
  have h6 := hX.1.nl3
  have h8 := hX.1.nb3
  have tj : (nI j).toInt.toNat = j := tn_nI (by omega)
  have ij := inn hj (by omega)
  have e1 : baV Q M j 1 = M 207 j := rfl
  have e3 : baV Q M j 3 = M 206 j := rfl
  have e4 : baV Q M j 4 = M 209 j := rfl
  have e6 : baV Q M j 6 = M 211 j := rfl
  have c0 : coV Q M np nl nb 0 0 = M 200 0 := rfl
  obtain ⟨k0, k1, hne, _, ec1, _, ec2, _⟩ := hX.1.boat j hj
  refine And.intro (fun c => absurd rfl c) (fun _ => ⟨ij, c_count (w := 0) hX hR hC (by decide) ?_⟩)
  rw [tj, he 6 (by decide), he 3 (by decide), he 1 (by decide), he 4 (by decide), e6, e3, e1, e4, c0, hI.min]
  refine And.intro (fun c => absurd c ?_) (fun _ => c_crew (w := 0) hX hj (by decide) (c_crew (w := 1) hX hj (by decide) ?_))
  · by_cases z : M 206 j = 2
    · obtain ⟨u, hu, eu⟩ := hI.out hj z
      rw [eu, le_nI (by omega) (by omega)]
      omega
    · rw [hI.not_ hj z]
      intro y
      rw [Int32.le_iff_toInt_le, nI_toInt (by omega)] at y
      have : (-1 : Int32).toInt = -1 := by decide
      omega
  rw [ec1, ec2]
  refine And.intro (fun _ => ⟨ij, And.intro (fun c => ?_) (fun c => ?_)⟩) (fun c => absurd (nI_inj (by omega) (by omega) c) hne)
  · rw [if_pos c] at h
    obtain ⟨p, hpn, hat⟩ := spot_of hI.inv hj c
    intro v13' ev13
    refine ⟨ij, fun v14' ev14 => ⟨ij, ?_⟩⟩
    rw [hat]
    refine c_place (w := 3) hX hR hpn (by decide) ?_
    have p3 : plV Q M nl nb p 3 = nI j := boatAt_is hX.1 hI.inv hj c hat
    rw [p3]
    refine And.intro (fun z => absurd rfl z) (fun _ => c_crew (w := 0) hX hj (by decide) ?_)
    rw [ec1]
    refine c_legger (w := 4) hX hR k0 (by decide) ?_
    have l0 : leV Q M nb (kr0 Q j) 4 = nI j := boatOf_is hX.1 hI.inv hj c (Or.inl rfl) k0
    have l1 : leV Q M nb (kr1 Q j) 4 = nI j := boatOf_is hX.1 hI.inv hj c (Or.inr rfl) k1
    rw [l0]
    refine And.intro (fun z => absurd rfl z) (fun _ => c_crew (w := 1) hX hj (by decide) ?_)
    rw [ec2]
    refine c_legger (w := 4) hX hR k1 (by decide) ?_
    rw [l1]
    refine And.intro (fun _ => h v13' v14' ev13 ?_) (fun z => absurd rfl z)
    have all : ∀ x, nb ≥ 0 → x < nb → M 206 x = 1 → M 207 x = M 207 j := fun x _ hx hx1 => hI.way hx hj hx1 c
    rcases hI.inv.2.2.2.2.2 j hj with z | z
    · have e : v14' = v14 ||| 1 := by rw [ev14, z]; rfl
      refine Or.inr (Or.inl ⟨?_, fun x hx hx1 => (all x (Nat.zero_le _) hx hx1).trans z⟩)
      rcases hw with ⟨y, _⟩ | ⟨y, _⟩ | ⟨y, y2⟩
      · rw [e, y]; decide
      · rw [e, y]; decide
      · exact absurd ((y2 j hj c).symm.trans z) (by decide)
    · have e : v14' = v14 ||| 2 := by rw [ev14, z]; rfl
      refine Or.inr (Or.inr ⟨?_, fun x hx hx1 => (all x (Nat.zero_le _) hx hx1).trans z⟩)
      rcases hw with ⟨y, _⟩ | ⟨y, y2⟩ | ⟨y, _⟩
      · rw [e, y]; decide
      · exact absurd ((y2 j hj c).symm.trans z) (by decide)
      · rw [e, y]; decide
  · rw [if_neg c] at h
    refine h v13 v14 rfl ?_
    rcases hw with ⟨y, y2⟩ | y | y
    · refine Or.inl ⟨y, fun x hx => ?_⟩
      by_cases ex : x = j
      · rw [ex]; exact c
      · exact y2 x (by omega)
    · exact Or.inr (Or.inl y)
    · exact Or.inr (Or.inr y)
theorem y_253 {C156 : Nat → M2 → M2 → M2 → M2 → M2 → M2 → M2 → (Nat → Int32) → (Nat → Int32) → M2 → M2 → Int32 → Int32 → Int32 → Int32 → Int32 → Int32 → Int32 → Int32 → Prop} {v8 v13 v14 q0 : Int32} {j : Nat} (hX : PRX P Q kb np nl nb ns no) (hR : RE np nl nb F M) (hI : IX Q M np nl nb t) (ht : t ≤ 1000) (hC : C 91 0 = 0) (hj : j < nb) (he : ∀ w, w < 7 → e119 j w = baV Q M j w) (hw : WAY M nb j v14) (h : ∀ v13' v14' : Int32, v13' = (if M 206 j = 1 then v13 + 1 else v13) → WAY M nb (j + 1) v14' → ∀ v : Int32, v = nI j + 1 → C156 ap F G C N U L B e143 e137 e129 e119 (nI np) (nI nl) (nI nb) (nI t) v8 v13' v14' v) : wj_L_law_253 q P nn V S O xs Ln C60 C156 K ap F G C N U L B e143 e137 e129 e119 (nI np) (nI nl) (nI nb) (nI t) v8 v13 v14 (nI j) (nI j) q0 q0 := by
  have h60 := hX.1.np3
  have h8 := hX.1.nb3
  have tj : (nI j).toInt.toNat = j := tn_nI (by omega)
  have ij := inn hj (by omega)
  have e0 : baV Q M j 0 = Q 253 j := rfl
  have e3 : baV Q M j 3 = M 206 j := rfl
  have e4 : baV Q M j 4 = M 209 j := rfl
  have e5 : baV Q M j 5 = M 210 j := rfl
  have e6 : baV Q M j 6 = M 211 j := rfl
  have l332 := fun x : Int32 => y_332 (q := q) (nn := nn) (V := V) (S := S) (O := O) (xs := xs) (Ln := Ln) (C60 := C60) (K := K) (ap := ap) (G := G) (N := N) (U := U) (L := L) (B := B) (C156 := C156) (e143 := e143) (e137 := e137) (e129 := e129) (v8 := v8) (q0 := x) hX hR hI ht hC hj he hw h
  have l306 : wj_L_law_306 q P nn V S O xs Ln C60 C156 K ap F G C N U L B e143 e137 e129 e119 (nI np) (nI nl) (nI nb) (nI t) v8 v13 v14 (nI j) (nI j) := by
    refine ⟨ij, ?_⟩
    rw [tj, he 3 (by decide), he 6 (by decide), e3, e6]
    refine And.intro (fun c => ⟨ij, ?_⟩) (fun c => ⟨ij, ?_⟩)
    · rw [hI.not_ hj c]
      exact And.intro (fun _ => l332 0) (fun z => absurd (by decide) z)
    · obtain ⟨u, hu, eu⟩ := hI.out hj c
      rw [eu]
      exact And.intro (fun z => absurd z (nI_pos (by omega))) (fun _ => l332 1)
  refine And.intro (fun c => absurd rfl c) (fun _ => ⟨ij, ?_⟩)
  rw [tj, he 4 (by decide), he 5 (by decide), he 3 (by decide), e4, e5, e3]
  rcases hI.inv.2.2.1 j hj with ⟨h1, p, x, w, hpn, hat, hpu, hwe, w1, w60, hxw, hx⟩ | ⟨h1, hat, hpu⟩
  · rw [hat, hpu]
    refine And.intro (fun c => absurd c (nI_ge hpn (by omega))) (fun _ => ⟨ij, And.intro (fun c => absurd c (nI_pos (by omega))) (fun _ => ⟨ij, And.intro (fun _ => ⟨ij, ?_⟩) (fun c => absurd h1 c)⟩)⟩)
    rw [tj, he 3 (by decide), he 0 (by decide), he 5 (by decide), e3, e0, e5, hpu, hwe]
    have hlt := hxw (decide_eq_false (by omega))
    refine And.intro (fun c => absurd h1 c) (fun _ => ⟨ij, ij, And.intro (fun c => absurd c (nI_ge hlt (by omega))) (fun _ => l306)⟩)
  · rw [hat, hpu]
    have hl287 : wj_L_law_287 q P nn V S O xs Ln C60 C156 K ap F G C N U L B e143 e137 e129 e119 (nI np) (nI nl) (nI nb) (nI t) v8 v13 v14 (nI j) (nI j) := by
      refine ⟨ij, ?_⟩
      rw [tj, he 3 (by decide), e3]
      exact And.intro (fun _ => l306) (fun c => absurd c h1)
    refine And.intro (fun c => absurd c ?_) (fun _ => ⟨ij, And.intro (fun c => absurd c (by decide)) (fun _ => ⟨ij, And.intro (fun c => absurd c h1) (fun _ => ⟨ij, And.intro (fun c => absurd rfl c) (fun _ => hl287)⟩)⟩)⟩)
    intro y
    rw [Int32.le_iff_toInt_le, nI_toInt (by omega)] at y
    have : (-1 : Int32).toInt = -1 := by decide
    omega
theorem y_166 {C156 : Nat → M2 → M2 → M2 → M2 → M2 → M2 → M2 → (Nat → Int32) → (Nat → Int32) → M2 → M2 → Int32 → Int32 → Int32 → Int32 → Int32 → Int32 → Int32 → Int32 → Prop} {v8 v13 v14 : Int32} {j : Nat} (hX : PRX P Q kb np nl nb ns no) (hPT : PT P Q T nl nb no) (hR : RE np nl nb F M) (hI : IX Q M np nl nb t) (ht : t ≤ 1000) (hC : C 91 0 = 0) (hj : j < nb) (hw : WAY M nb j v14) (h : ∀ F', RE np nl nb F' M → ∀ (e143' : Nat → Int32) (e119' : M2), (¬ e143' j = 0 → canP T Q M np nb no j) → (∀ b, b ≠ j → e143' b = e143 b) → (∀ w, w < 7 → e119' j w = baV Q M j w) → (∀ b, b ≠ j → e119' b = e119 b) → ∀ v13' v14' : Int32, v13' = (if M 206 j = 1 then v13 + 1 else v13) → WAY M nb (j + 1) v14' → ∀ v : Int32, v = nI j + 1 → C156 ap F' G C N U L B e143' e137 e129 e119' (nI np) (nI nl) (nI nb) (nI t) v8 v13' v14' v) : ∀ (d w f : Nat) (e : M2), w + d = 7 → d < f → (∀ x, x < w → e j x = baV Q M j x) → (∀ b, b ≠ j → e b = e119 b) → wl_L_law_166 q P nn V S O xs Ln C60 C156 K f ap F G C N U L B e143 e137 e129 e (nI np) (nI nl) (nI nb) (nI t) v8 v13 v14 (nI j) (nI w) := by
  intro d
  have h8 := hX.1.nb3
  have tj : (nI j).toInt.toNat = j := tn_nI (by omega)
  have ij := inn hj (by omega)
  induction d with
  | zero =>
    intro w f e hw7 hf he ho
    obtain ⟨f, rfl, _⟩ := fuel hf
    have ew : w = 7 := by omega
    subst ew
    have e3 : baV Q M j 3 = M 206 j := rfl
    have e4 : baV Q M j 4 = M 209 j := rfl
    refine And.intro (fun _ => ⟨ij, cc_canEnter hX hPT hR hj (fun F' hr' => ⟨ij, fun e1 ee => ⟨ij, ?_⟩⟩)⟩) (fun c => absurd (by decide) c)
    rw [tj] at ee
    have l253 := fun x : Int32 => y_253 (q := q) (nn := nn) (V := V) (S := S) (O := O) (xs := xs) (Ln := Ln) (C60 := C60) (K := K) (ap := ap) (G := G) (N := N) (U := U) (L := L) (B := B) (C156 := C156) (e143 := e1) (e137 := e137) (e129 := e129) (v8 := v8) (q0 := x) hX hr' hI ht hC hj he hw (h F' hr' e1 e (fun z => by
      rw [ee, upd_s] at z
      by_cases c : canP T Q M np nb no j
      · exact c
      · rw [if_neg c] at z
        exact absurd (by decide) z) (fun b hb => by rw [ee, upd_n _ _ hb]) he ho)
    rw [tj, he 3 (by decide), he 4 (by decide), e3, e4]
    refine And.intro (fun c => absurd c ?_) (fun _ => ⟨ij, And.intro (fun c => absurd c ?_) (fun _ => ⟨ij, And.intro (fun c => ⟨ij, ?_⟩) (fun c => ⟨ij, ?_⟩)⟩)⟩)
    · rcases hI.how hj with z | z | z <;> rw [z] <;> decide
    · rcases hI.how hj with z | z | z <;> rw [z] <;> decide
    · rcases hI.inv.2.2.1 j hj with ⟨z, _⟩ | ⟨_, z, _⟩
      · exact absurd z c
      · rw [z]
        exact And.intro (fun _ => l253 0) (fun y => absurd (by decide) y)
    · obtain ⟨p, hpn, hat⟩ := spot_of hI.inv hj c
      rw [hat]
      exact And.intro (fun y => absurd y (nI_pos (by have := hX.1.np3; omega))) (fun _ => l253 1)
  | succ d ih =>
    intro w f e hw7 hf he ho
    obtain ⟨f, rfl, _⟩ := fuel hf
    have tw : (nI w).toInt.toNat = w := tn_nI (by omega)
    refine And.intro (fun c => absurd c (by rw [show (7 : Int32) = nI 7 from rfl]; exact nI_ge (by omega) (by omega))) (fun _ => ⟨ij, c_boat hX hR hj (by omega : w ≤ 6) ⟨ij, inb_nJ (by omega) (by decide), fun e1 ee v ev => ?_⟩⟩)
    subst ev
    rw [nI_1]
    rw [tj, tw] at ee
    refine ih (w + 1) f e1 (by omega) (by omega) (fun x hx => ?_) (fun b hb => ?_)
    · rw [ee, up2_s]
      by_cases c : x = w
      · rw [c, upd_s]
      · rw [upd_n _ _ c]
        exact he x (by omega)
    · rw [ee, up2_n _ _ hb]
      exact ho b hb
theorem y_156 {v8 : Int32} (hX : PRX P Q kb np nl nb ns no) (hPT : PT P Q T nl nb no) (hkb : nn 0 = kb) (hk : ZK nn V S O Q T np nl nb ns no) (hz : ZS Q M N U L B np nl nb) (hI : IX Q M np nl nb t) (ht : t ≤ 1000) (hn : CAN M) (hC : C 91 0 = 0) (h : GOON T Q M C np nl nb ns no t C60) : ∀ (d j f : Nat) (F : M2) (e143 : Nat → Int32) (e119 : M2) (v13 v14 : Int32), j + d = nb → d < f → RE np nl nb F M → (∀ b, b < j → ¬ e143 b = 0 → canP T Q M np nb no b) → (∀ b w, b < j → w < 7 → e119 b w = baV Q M b w) → cfr (pIs (M 206) 1) d j v13 = mThose M nb 1 → WAY M nb j v14 → wl_L_law_156 q P nn V S O xs Ln C60 K f ap F G C N U L B e143 (fun _ => 0) zM e119 (nI np) (nI nl) (nI nb) (nI t) v8 v13 v14 (nI j) := by
  intro d
  have h6 := hX.1.nl3
  have h8 := hX.1.nb3
  induction d with
  | zero =>
    intro j f F e143 e119 v13 v14 hj hf hR h3 h9 h13 hw
    obtain ⟨f, rfl, _⟩ := fuel hf
    have ej : j = nb := by omega
    subst ej
    have h13 : v13 = _ := h13
    subst h13
    refine And.intro (fun _ => ?_) (fun c => absurd (nI_le (by omega) (by omega)) c)
    refine y_454 hX hPT hkb hk hR hz hI ht hn hC ?_ h3 h9 h nl 0 fK zM 0 (by omega) (by rw [fK_eq]; omega) (fun l w hl => absurd hl (Nat.not_lt_zero _)) ?_
    · rcases hw with ⟨y, _⟩ | ⟨y, _⟩ | ⟨y, _⟩ <;> rw [y] <;> decide
    · exact cfr_not nl 0
  | succ d ih =>
    intro j f F e143 e119 v13 v14 hj hf hR h3 h9 h13 hw
    obtain ⟨f, rfl, _⟩ := fuel hf
    have hb : j < nb := by omega
    unfold cfr at h13
    refine And.intro (fun c => absurd c (nI_ge (by omega) (by omega))) (fun _ => y_166 (e143 := e143) (e119 := e119) hX hPT hR hI ht hC hb hw (fun F' hr' e143' e119' g1 g2 g3 g4 v13' v14' ev13 hw' v ev => ?_) 7 0 fK e119 (by decide) (by rw [fK_eq]; decide) (fun x hx => absurd hx (Nat.not_lt_zero _)) (fun _ _ => rfl))
    subst ev
    rw [nI_1]
    refine ih (j + 1) f F' e143' e119' v13' v14' (by omega) (by omega) hr' (fun b hbj => ?_) (fun b w hbj hw7 => ?_) ?_ hw'
    · by_cases c : b = j
      · rw [c]; exact g1
      · rw [g2 b c]
        exact h3 b (by omega)
    · by_cases c : b = j
      · rw [c]
        exact g3 w hw7
      · rw [g4 b c]
        exact h9 b w (by omega) hw7
    · rw [ev13]
      exact h13
theorem y_115 {v8 : Int32} (hX : PRX P Q kb np nl nb ns no) (hPT : PT P Q T nl nb no) (hkb : nn 0 = kb) (hk : ZK nn V S O Q T np nl nb ns no) (hR : RE np nl nb F M) (hz : ZS Q M N U L B np nl nb) (hI : IX Q M np nl nb t) (ht : t ≤ 1000) (hn : CAN M) (hC : C 91 0 = 0) (h : GOON T Q M C np nl nb ns no t C60) : wj_L_law_115 q P nn V S O xs Ln C60 K ap F G C N U L B (nI np) (nI nl) (nI nb) (nI t) v8 := by
  have h60 := hX.1.np3
  have h6 := hX.1.nl3
  have h8 := hX.1.nb3
  have tp : (nI np).toInt.toNat = np := tn_nI (by omega)
  have tl : (nI nl).toInt.toNat = nl := tn_nI (by omega)
  have tb : (nI nb).toInt.toNat = nb := tn_nI (by omega)
  unfold wj_L_law_115
  rw [tp, tl, tb]
  refine ⟨rfl, by omega, rfl, by omega, rfl, by omega, rfl, by omega, ?_⟩
  exact y_156 hX hPT hkb hk hz hI ht hn hC h nb 0 fK F (fun _ => 0) zM 0 0 (by omega) (by rw [fK_eq]; omega) hR (fun b hb => absurd hb (Nat.not_lt_zero _)) (fun b w hb => absurd hb (Nat.not_lt_zero _)) rfl (Or.inl ⟨rfl, fun c hc => absurd hc (Nat.not_lt_zero _)⟩)
/-- the law's loop -/
theorem y_60 (hX : PRX P Q kb np nl nb ns no) (hPT : PT P Q T nl nb no) (hB : ZB nn V Q kb np) (hk : ZK nn V S O Q T np nl nb ns no) (hs : ∀ o, o < no → Q 259 o = 17 → Q 260 o = 0 ∨ Q 260 o = 1) (hC : C 91 0 = 0) (hK : K 1) : ∀ (d t : Nat) (ap : Nat) (F G N U L B M : M2), t + d = 80 → RE np nl nb F M → ZS Q M N U L B np nl nb → IX Q M np nl nb t → CAN M → wl_L_law_60 q P nn V S O xs Ln K (d + 1) ap F G C N U L B (nI np) (nI nl) (nI nb) (nI t) := by
  intro d
  induction d with
  | zero =>
    intro t ap F G N U L B M ht hR hz hI hn
    have et : t = 80 := by omega
    subst et
    exact And.intro (fun _ => i_same hX hB hPT hk hR hz hI hC (fun F' _ => hK)) (fun c => absurd (by decide) c)
  | succ d ih =>
    intro t ap F G N U L B M ht hR hz hI hn
    have go : ∀ (ap : Nat) (F G N U L B M : M2) (v8 : Int32), RE np nl nb F M → ZS Q M N U L B np nl nb → IX Q M np nl nb t → CAN M → wj_L_law_115 q P nn V S O xs Ln (wl_L_law_60 q P nn V S O xs Ln K (d + 1)) K ap F G C N U L B (nI np) (nI nl) (nI nb) (nI t) v8 := fun ap F G N U L B M v8 hR hz hI hn => by
      refine y_115 hX hPT hB.1 hk hR hz hI (by omega) hn hC (fun ap' F' G' N' U' L' B' hr' hz' v ev => ?_)
      subst ev
      rw [nI_1]
      exact ih (t + 1) ap' F' G' N' U' L' B' _ (by omega) hr' hz' (hI.step hX.1 hs) hn.min
    refine And.intro (fun c => absurd c (by rw [show (80 : Int32) = nI 80 from rfl]; exact nI_ge (by omega) (by omega))) (fun _ => ⟨?_, fun v8 _ => And.intro (fun _ => go ap F G N U L B M v8 hR hz hI hn) (fun _ => a_act hX hk hR hz hI hn (by omega) _ (fun F' N' U' L' B' M' hr' hz' hi' hn' => And.intro (fun _ => go ap F' G N' U' L' B' M' v8 hr' hz' hi' hn') (fun c => absurd c (by decide))))⟩)
    rw [show (16 : Int32) = nI 16 from rfl, pk_rem (by omega) (by omega) (by omega)]
    exact nI_pos (by omega)
/-- the law, from the tunnel taught -/
theorem y_law (hX : PRX P Q kb np nl nb ns no) (hPT : PT P Q T nl nb no) (hB : ZB nn V Q kb np) (hk : ZK nn V S O Q T np nl nb ns no) (hs : ∀ o, o < no → Q 259 o = 17 → Q 260 o = 0 ∨ Q 260 o = 1) (hC : C 91 0 = 0) (hK : K 1) (hR : RE np nl nb F M) (hz : ZS Q M N U L B np nl nb) (hI : IX Q M np nl nb 0) (hn : CAN M) : wp_L_law q P nn V S O xs Ln ap F G C N U L B K := by
  refine c_count (w := 3) hX hR hC (by decide) (c_count (w := 5) hX hR hC (by decide) (c_count (w := 6) hX hR hC (by decide) ?_))
  have c3 : coV Q M np nl nb 0 3 = nI np := hX.1.np2
  have c5 : coV Q M np nl nb 0 5 = nI nl := hX.1.nl2
  have c6 : coV Q M np nl nb 0 6 = nI nb := hX.1.nb2
  rw [c3, c5, c6]
  exact y_60 hX hPT hB hk hs hC hK 80 0 ap F G N U L B M (by decide) hR hz hI hn
end LAWD
