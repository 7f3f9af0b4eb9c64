/-! ===== the law's checks, about the minute ===== -/
section LAWB
variable {q : Nat → Nat} {P Q : M2} {nn : Nat → Nat} {V S O F G C N U L B M : M2} {ap kb np nl nb ns no t : Nat} {T : Nat → List (Int32 × Int32)} {xs : Nat → Int32} {Ln : Nat} {C60 : Nat → M2 → M2 → M2 → M2 → M2 → M2 → M2 → Int32 → Int32 → Int32 → Int32 → Prop} {K : Int32 → Prop} {e897 e143 e137 : Nat → Int32} {e129 e119 : M2}
theorem lg_cmp_self (x : Int64) : lg_cmp x x = 0 := by
  unfold lg_cmp
  by_cases c2 : x > x
  · exact absurd c2 Int64.lt_irrefl
  · simp [c2]
/-- what was read of M -/
def RD0 (T : Nat → List (Int32 × Int32)) (Q M : M2) (np nl nb no : Nat) (e143 e137 : Nat → Int32) (e129 e119 : M2) : Prop := (∀ b, b < nb → ¬ e143 b = 0 → canP T Q M np nb no b) ∧ (∀ p, p < np → e137 p = M 202 p) ∧ (∀ l w, l < nl → w < 7 → e129 l w = leV Q M nb l w) ∧ ∀ b w, b < nb → w < 7 → e119 b w = baV Q M b w
/-- how the law goes on behind the minute -/
def GOON (T : Nat → List (Int32 × Int32)) (Q M C : M2) (np nl nb ns no t : Nat) (C60 : Nat → M2 → M2 → M2 → M2 → M2 → M2 → M2 → Int32 → Int32 → Int32 → Int32 → Prop) : Prop := ∀ ap F G N U L B, RE np nl nb F (mMin T Q M np nl nb ns no) → ZS Q (mMin T Q M np nl nb ns no) N U L B np nl nb → ∀ v : Int32, v = nI t + 1 → C60 ap F G C N U L B (nI np) (nI nl) (nI nb) v
theorem y_1148 {v19 : Int32} (hX : PRX P Q kb np nl nb ns no) (hR : RE np nl nb F (mMin T Q M np nl nb ns no)) (hz : ZS Q (mMin T Q M np nl nb ns no) N U L B np nl nb) (hI : IX Q M np nl nb t) (ht : t ≤ 1000) (hC : C 91 0 = 0) (hD : RD0 T Q M np nl nb no e143 e137 e129 e119) (h : GOON T Q M C np nl nb ns no t C60) : wj_L_law_1148 q P nn V S O xs Ln C60 K ap F G C N U L B e143 e137 e129 e119 (nI np) (nI nl) (nI nb) (nI t) v19 := by
  have h8 := hX.1.nb3
  refine c_count (w := 1) hX hR hC (by decide) (And.intro (fun _ => ?_) (fun z => absurd hz.turn z))
  exact y_1168 hX hR hI ht hC hD.2.2.2 hD.1 hD.2.1 hD.2.2.1 (h ap F G N U L B hR hz) nb 0 fK 0 (by omega) (by rw [fK_eq]; omega) (Or.inl ⟨rfl, fun c hc => absurd hc (Nat.not_lt_zero _)⟩)
theorem y_1087 {v19 v20 v28 : Int32} {b0 : Nat} (hX : PRX P Q kb np nl nb ns no) (hPT : PT P Q T nl nb no) (hR : RE np nl nb F (mMin T Q M np nl nb ns no)) (hz : ZS Q (mMin T Q M np nl nb ns no) N U L B np nl nb) (hI : IX Q M np nl nb t) (ht : t ≤ 1000) (hn : CAN M) (hC : C 91 0 = 0) (hD : RD0 T Q M np nl nb no e143 e137 e129 e119) (he : ∀ w, 8 ≤ w → w < 13 → e897 w = coV Q (mMin T Q M np nl nb ns no) np nl nb 0 w) (h20 : v20 + v28 = mThose (mMin T Q M np nl nb ns no) nb 2) (hb : b0 < nb) (h : GOON T Q M C np nl nb ns no t C60) : ∀ (d j f : Nat), j + d = 13 → 8 ≤ j → d < f → wl_L_law_1087 q P nn V S O xs Ln C60 K f ap F G C N U L B e897 e143 e137 e129 e119 (nI np) (nI nl) (nI nb) (nI t) v19 v20 (nI b0) (untV T Q np nl nb ns no b0 301 0 M) v28 (nI j) := by
  intro d
  induction d with
  | zero =>
    intro j f hj h8j hf
    obtain ⟨f, rfl, _⟩ := fuel hf
    have ej : j = 13 := by omega
    subst ej
    refine And.intro (fun _ => c_count (w := 10) hX hR hC (by decide) (And.intro (fun z => absurd h20.symm z) (fun _ => And.intro (fun _ => y_1148 hX hR hz hI ht hC hD h) (fun z => ?_)))) (fun c => absurd (by decide) c)
    refine cc_until hX hPT hR (hI.inv.minu hX.1) (by rw [k212M, hn.2.2]) hb (fun G' => And.intro (fun w => ?_) (fun _ => y_1148 hX hR hz hI ht hC hD h))
    rw [hn.min.ah] at w
    have e0 : untV T Q np nl nb ns no b0 301 0 M = if M 206 b0 = 2 then nI 0 else untV T Q np nl nb ns no b0 300 1 (mMin T Q M np nl nb ns no) := rfl
    by_cases c : M 206 b0 = 2
    · rw [e0, if_pos c] at z
      exact z (by decide)
    · rw [e0, if_neg c] at z w
      rcases unt_shift (T := T) (np := np) (nl := nl) (nb := nb) (ns := ns) (no := no) (b := b0) (U := Q) 300 0 (mMin T Q M np nl nb ns no) with y | ⟨j, _, _, h3, h4⟩
      · rw [y] at z
        exact z (by decide)
      · rw [h3, h4, nI_pred] at w
        exact w rfl
  | succ d ih =>
    intro j f hj h8j hf
    obtain ⟨f, rfl, _⟩ := fuel hf
    have tj : (nI j).toInt.toNat = j := tn_nI (by omega)
    refine And.intro (fun c => absurd c (by rw [show (13 : Int32) = nI 13 from rfl]; exact nI_ge (by omega) (by omega))) (fun _ => c_count hX hR hC (by omega : j ≤ 13) ⟨inb_nJ (by omega) (by decide), ?_⟩)
    rw [tj, he j h8j (by omega)]
    refine And.intro (fun _ v ev => ?_) (fun c => absurd rfl c)
    subst ev
    rw [nI_1]
    exact ih (j + 1) f (by omega) (by omega) (by omega)
theorem y_1067 {v19 : Int32} {b0 : Nat} {q0 : Int32} (hX : PRX P Q kb np nl nb ns no) (hPT : PT P Q T nl nb no) (hk : ZK nn V S O Q T np nl nb ns no) (hR : RE np nl nb F M) (hz : ZS Q M N U L B np nl nb) (hI : IX Q M np nl nb t) (ht : t ≤ 1000) (hn : CAN M) (hC : C 91 0 = 0) (hD : RD0 T Q M np nl nb no e143 e137 e129 e119) (he : ∀ w, 8 ≤ w → w < 13 → e897 w = coV Q (mMin T Q M np nl nb ns no) np nl nb 0 w) (hb : b0 < nb) (h : GOON T Q M C np nl nb ns no t C60) : wj_L_law_1067 q P nn V S O xs Ln C60 K ap F G C N U L B e897 e143 e137 e129 e119 (nI np) (nI nl) (nI nb) (nI t) v19 (mThose M nb 2) (nI b0) (untV T Q np nl nb ns no b0 301 0 M) q0 q0 := by
  refine And.intro (fun _ => cc_pass hX hPT hR hI.inv (fun F' hr' => s_pass hX.1 hk hz hI.inv hI.icp hI.ibr (fun N' U' L' B' hz' => ?_))) (fun c => absurd rfl c)
  refine y_1087 hX hPT hr' hz' hI ht hn hC hD he ?_ hb h 5 8 fK (by decide) (by decide) (by rw [fK_eq]; decide)
  rw [Int32.add_comm, Int32.sub_add_cancel]
theorem y_1006 {v19 v26 : Int32} {b0 k : Nat} (hX : PRX P Q kb np nl nb ns no) (hPT : PT P Q T nl nb no) (hk : ZK nn V S O Q T np nl nb ns no) (hR : RE np nl nb F M) (hz : ZS Q M N U L B np nl nb) (hI : IX Q M np nl nb t) (ht : t ≤ 1000) (hn : CAN M) (hC : C 91 0 = 0) (hD : RD0 T Q M np nl nb no e143 e137 e129 e119) (he : ∀ w, 8 ≤ w → w < 13 → e897 w = coV Q (mMin T Q M np nl nb ns no) np nl nb 0 w) (hb : b0 < nb) (h26 : v26 = 0 ∨ v26 = 1) (hkl : k < nl) (h : GOON T Q M C np nl nb ns no t C60) : wj_L_law_1006 q P nn V S O xs Ln C60 K ap F G C N U L B e897 e143 e137 e129 e119 (nI np) (nI nl) (nI nb) (nI t) v19 (mThose M nb 2) (dgV Q M kb np nl nb 0) (nI b0) (untV T Q np nl nb ns no b0 301 0 M) v26 (nI k) := by
  have h6 := hX.1.nl3
  have h8 := hX.1.nb3
  have tb : (nI b0).toInt.toNat = b0 := tn_nI (by omega)
  have ib := inn hb (by omega)
  refine c_digest hX hR hC (And.intro (fun c => absurd (lg_cmp_self _) c) (fun _ => And.intro (fun c => absurd c ?_) (fun _ => And.intro (fun c => absurd c ?_) (fun _ => And.intro (fun c => absurd c (nI_pos (by omega))) (fun _ => And.intro (fun c => absurd c (nI_ge hkl (by omega))) (fun _ => ?_))))))
  · rcases h26 with z | z <;> rw [z] <;> decide
  · rcases h26 with z | z <;> rw [z] <;> decide
  have e0 : untV T Q np nl nb ns no b0 301 0 M = if M 206 b0 = 2 then nI 0 else untV T Q np nl nb ns no b0 300 1 (mMin T Q M np nl nb ns no) := rfl
  have key : ∀ q0 : Int32, q0 = (if M 206 b0 = 2 then 1 else 0) → wj_L_law_1051 q P nn V S O xs Ln C60 K ap F G C N U L B e897 e143 e137 e129 e119 (nI np) (nI nl) (nI nb) (nI t) v19 (mThose M nb 2) (nI b0) (untV T Q np nl nb ns no b0 301 0 M) q0 := fun q0 eq => by
    refine ⟨ib, ib, ?_⟩
    have e3 : baV Q M b0 3 = M 206 b0 := rfl
    rw [tb, hD.2.2.2 b0 3 hb (by decide), e3]
    refine And.intro (fun c => ?_) (fun c => ?_)
    · rw [if_neg c] at eq
      rw [eq]
      exact y_1067 hX hPT hk hR hz hI ht hn hC hD he hb h
    · rw [if_pos c] at eq
      rw [eq]
      exact y_1067 hX hPT hk hR hz hI ht hn hC hD he hb h
  refine And.intro (fun c => key 0 ?_) (fun c => key 1 ?_)
  · by_cases z : M 206 b0 = 2
    · rw [e0, if_pos z] at c
      exact absurd (by decide) c
    · rw [if_neg z]
  · by_cases z : M 206 b0 = 2
    · rw [if_pos z]
    · rw [e0, if_neg z] at c
      rcases unt_shift (T := T) (np := np) (nl := nl) (nb := nb) (ns := ns) (no := no) (b := b0) (U := Q) 300 0 (mMin T Q M np nl nb ns no) with y | ⟨j, _, hj, h3, _⟩
      · rw [y] at c
        exact absurd c (by decide)
      · rw [h3] at c
        exact absurd c (nI_ne0 (by omega) (by omega))
theorem mins_nI (x : Int32) : ∃ d, 1 ≤ d ∧ d ≤ 120 ∧ (1 : Int32) + blw x 60 = nI d := by
  obtain ⟨k, hk, e⟩ := blw_nI x (n := 60) (by decide) (by decide)
  have e : blw x 60 = nI k := e
  exact ⟨1 + k, by omega, by omega, by rw [e, show (1 : Int32) = nI 1 from rfl, nI_add]⟩
theorem y_976 {v8 v19 q0 : Int32} {b0 : Nat} (hX : PRX P Q kb np nl nb ns no) (hPT : PT P Q T nl nb no) (hk : ZK nn V S O Q T np nl nb ns no) (hR : RE np nl nb F M) (hz : ZS Q M N U L B np nl nb) (hI : IX Q M np nl nb t) (ht : t ≤ 1000) (hn : CAN M) (hC : C 91 0 = 0) (hD : RD0 T Q M np nl nb no e143 e137 e129 e119) (he : ∀ w, 8 ≤ w → w < 13 → e897 w = coV Q (mMin T Q M np nl nb ns no) np nl nb 0 w) (hb : b0 < nb) (h26 : q0 = 0 ∨ q0 = 1) (h : GOON T Q M C np nl nb ns no t C60) : wj_L_law_976 q P nn V S O xs Ln C60 K ap F G C N U L B e897 e143 e137 e129 e119 (nI np) (nI nl) (nI nb) (nI t) v8 v19 (mThose M nb 2) (dgV Q M kb np nl nb 0) (nI b0) (untV T Q np nl nb ns no b0 301 0 M) q0 := by
  refine And.intro (fun _ => y_1006 (k := 0) hX hPT hk hR hz hI ht hn hC hD he hb h26 hk.nl0 h) (fun _ => ?_)
  obtain ⟨d, hd1, hd2, ed⟩ := mins_nI (v8 >>> ((4 : Int32) &&& 31))
  rw [ed]
  exact cc_missed hX hPT hR hI.inv (by rw [hn.2.2]) hd1 hd2 hk.nl0 (fun k ap' G' hkl => y_1006 (k := k) hX hPT hk hR hz hI ht hn hC hD he hb h26 hkl h)
theorem y_905 {v8 v19 : Int32} (hX : PRX P Q kb np nl nb ns no) (hPT : PT P Q T nl nb no) (hk : ZK nn V S O Q T np nl nb ns no) (hR : RE np nl nb F M) (hz : ZS Q M N U L B np nl nb) (hI : IX Q M np nl nb t) (ht : t ≤ 1000) (hn : CAN M) (hC : C 91 0 = 0) (hD : RD0 T Q M np nl nb no e143 e137 e129 e119) (h : GOON T Q M C np nl nb ns no t C60) : ∀ (d j f ap : Nat) (G : M2) (e897 : Nat → Int32), j + d = 13 → 8 ≤ j → d < f → (∀ w, 8 ≤ w → w < j → e897 w = coV Q (mMin T Q M np nl nb ns no) np nl nb 0 w) → wl_L_law_905 q P nn V S O xs Ln C60 K f ap F G C N U L B e897 e143 e137 e129 e119 (nI np) (nI nl) (nI nb) (nI t) v8 v19 (mThose M nb 2) (dgV Q M kb np nl nb 0) (nI j) := by
  intro d
  have hb5 := hk.nb5
  have hb0 := hk.nb0
  have h212 : M 212 0 = -1 := by rw [hn.2.2]
  induction d with
  | zero =>
    intro j f ap G e897 hj h8j hf he
    obtain ⟨f, rfl, _⟩ := fuel hf
    have ej : j = 13 := by omega
    subst ej
    refine And.intro (fun _ => ⟨nI_n0 hb0 hb5, fun v ev => ?_⟩) (fun c => absurd (by decide) c)
    obtain ⟨b0, hb, eb⟩ := blw_nI (v8 >>> ((3 : Int32) &&& 31)) (n := nb) hb0 (by omega)
    rw [eb] at ev
    subst ev
    refine cc_until hX hPT hR hI.inv h212 hb (fun G' => ?_)
    rw [hn.ah]
    refine And.intro (fun _ => y_976 hX hPT hk hR hz hI ht hn hC hD he hb (Or.inl rfl) h) (fun _ => ?_)
    obtain ⟨d, hd1, hd2, ed⟩ := mins_nI (v8 >>> ((4 : Int32) &&& 31))
    rw [ed]
    exact cc_advise hX hPT hR hI.inv h212 hd1 hd2 (fun v G'' hv => y_976 hX hPT hk hR hz hI ht hn hC hD he hb hv h)
  | succ d ih =>
    intro j f ap G e897 hj h8j hf he
    obtain ⟨f, rfl, _⟩ := fuel hf
    have tj : (nI j).toInt.toNat = j := tn_nI (by omega)
    refine And.intro (fun c => absurd c (by rw [show (13 : Int32) = nI 13 from rfl]; exact nI_ge (by omega) (by omega))) (fun _ => cc_foresee hX hPT hR hI.inv h212 h8j (by omega : j ≤ 12) 0 (fun G' => ⟨inb_nJ (by omega) (by decide), fun e1 ee v ev => ?_⟩))
    subst ev
    rw [nI_1]
    rw [tj, hn.ah] at ee
    refine ih (j + 1) f (q 20) G' e1 (by omega) (by omega) (by omega) (fun w h8w hw => ?_)
    rw [ee]
    by_cases e : w = j
    · rw [e, upd_s]
    · rw [upd_n _ _ e]
      exact he w h8w (by omega)
end LAWB
