/-! ===== the law's checks, behind the minute ===== -/
section LAWA
variable {q : Nat → Nat} {P Q : M2} {nn : Nat → Nat} {V S O F G C N U L B M : M2} {ap kb np nl nb ns no t : Nat} {T : Nat → List (Int32 × Int32)} {xs : Nat → Int32} {Ln : Nat} {C60 : Nat → M2 → M2 → M2 → M2 → M2 → M2 → M2 → Int32 → Int32 → Int32 → Int32 → Prop} {K : Int32 → Prop}
theorem inn {n j : Nat} (h : j < n) (hn : n ≤ 1000) : inb (nI j) ((nI n).toInt.toNat) := by
  rw [tn_nI (by omega)]
  exact inb_nJ h (by omega)
theorem y_1656 (hX : PRX P Q kb np nl nb ns no) (hR : RE np nl nb F (mMin T Q M np nl nb ns no)) (hI : IX Q M np nl nb t) {e137 : Nat → Int32} (he : ∀ p, p < np → e137 p = M 202 p) (h : ∀ v : Int32, v = nI t + 1 → C60 ap F G C N U L B (nI np) (nI nl) (nI nb) v) : ∀ (d j f : Nat), j + d = np → d < f → wl_L_law_1656 q P nn V S O xs Ln C60 K f ap F G C N U L B e137 (nI np) (nI nl) (nI nb) (nI t) (nI j) := by
  intro d
  have h60 := hX.1.np3
  have h8 := hX.1.nb3
  induction d with
  | zero =>
    intro j f hj hf
    obtain ⟨f, rfl, _⟩ := fuel hf
    exact And.intro (fun _ => h) (fun c => absurd (nI_le (by omega) (by omega)) c)
  | succ d ih =>
    intro j f hj hf
    obtain ⟨f, rfl, _⟩ := fuel hf
    have hp : j < np := by omega
    have tj : (nI j).toInt.toNat = j := tn_nI (by omega)
    have ij := inn hp (by omega)
    obtain ⟨a, c, ha, hc, ea, ec, hac, hfr⟩ := min_air (T := T) hX.1 hI hp
    have e1 : plV Q (mMin T Q M np nl nb ns no) nl nb j 1 = nI c := ec
    have nxt : ∀ v : Int32, v = nI j + 1 → wl_L_law_1656 q P nn V S O xs Ln C60 K f ap F G C N U L B e137 (nI np) (nI nl) (nI nb) (nI t) v := fun v ev => by
      subst ev
      rw [nI_1]
      exact ih (j + 1) f (by omega) (by omega)
    refine And.intro (fun z => absurd z (nI_ge (by omega) (by omega))) (fun _ => c_place (w := 1) hX hR hp (by decide) ⟨ij, ?_⟩)
    rw [tj, he j hp, e1, ea]
    refine And.intro (fun z => absurd z ?_) (fun _ => c_place (w := 1) hX hR hp (by decide) ⟨ij, ?_⟩)
    · rw [Int32.lt_iff_toInt_lt, show (6 : Int32) = nI 6 from rfl, pk_sub_toInt (by omega) (by omega), nI_toInt (by omega)]
      omega
    rw [e1]
    refine And.intro (fun _ => nxt) (fun z => c_place (w := 3) hX hR hp (by decide) (And.intro (fun _ => nxt) (fun w => absurd ?_ w)))
    rw [le_nI (by omega) (by omega)] at z
    have hne := hfr (by omega)
    exact Int32.not_lt.mp (fun y => hne ((at_neg h8).mp y))
theorem y_1599 {C1542 : Nat → M2 → M2 → M2 → M2 → M2 → M2 → M2 → (Nat → Int32) → M2 → Int32 → Int32 → Int32 → Int32 → Int32 → Prop} {e137 : Nat → Int32} {e129 : M2} (hX : PRX P Q kb np nl nb ns no) (hR : RE np nl nb F (mMin T Q M np nl nb ns no)) (hI : IX Q M np nl nb t) (he : ∀ l w, l < nl → w < 7 → e129 l w = leV Q M nb l w) {j : Nat} (hj : j < nl) (h : ∀ v : Int32, v = nI j + 1 → C1542 ap F G C N U L B e137 e129 (nI np) (nI nl) (nI nb) (nI t) v) : wj_L_law_1599 q P nn V S O xs Ln C60 C1542 K ap F G C N U L B e137 e129 (nI np) (nI nl) (nI nb) (nI t) (nI j) (nI j) := by
  have h6 := hX.1.nl3
  have tj : (nI j).toInt.toNat = j := tn_nI (by omega)
  have ij := inn hj (by omega)
  refine c_legger (w := 0) hX hR hj (by decide) ⟨ij, ?_⟩
  rw [tj, he j 0 hj (by decide), he j 5 hj (by decide)]
  have e5 : leV Q (mMin T Q M np nl nb ns no) nb j 5 = mMin T Q M np nl nb ns no 205 j := rfl
  have e5m : leV Q M nb j 5 = M 205 j := rfl
  refine And.intro (fun z => absurd rfl z) (fun _ => c_legger (w := 5) hX hR hj (by decide) (And.intro (fun _ => h) (fun z => c_legger (w := 5) hX hR hj (by decide) ⟨ij, And.intro (fun _ => h) (fun w => ?_)⟩)))
  rw [e5] at z w
  rw [e5m] at w
  exact (min_walk (T := T) hX.1 hI hj).1.elim z w
theorem y_1542 {e137 : Nat → Int32} {e129 : M2} (hX : PRX P Q kb np nl nb ns no) (hR : RE np nl nb F (mMin T Q M np nl nb ns no)) (hI : IX Q M np nl nb t) (he7 : ∀ p, p < np → e137 p = M 202 p) (he : ∀ l w, l < nl → w < 7 → e129 l w = leV Q M nb l w) (h : ∀ v : Int32, v = nI t + 1 → C60 ap F G C N U L B (nI np) (nI nl) (nI nb) v) : ∀ (d j f : Nat), j + d = nl → d < f → wl_L_law_1542 q P nn V S O xs Ln C60 K f ap F G C N U L B e137 e129 (nI np) (nI nl) (nI nb) (nI t) (nI j) := by
  intro d
  have h60 := hX.1.np3
  have h6 := hX.1.nl3
  have h8 := hX.1.nb3
  induction d with
  | zero =>
    intro j f hj hf
    obtain ⟨f, rfl, _⟩ := fuel hf
    exact And.intro (fun _ => y_1656 hX hR hI he7 h np 0 fK (by omega) (by rw [fK_eq]; omega)) (fun c => absurd (nI_le (by omega) (by omega)) c)
  | succ d ih =>
    intro j f hj hf
    obtain ⟨f, rfl, _⟩ := fuel hf
    have hl : j < nl := by omega
    have tj : (nI j).toInt.toNat = j := tn_nI (by omega)
    have ij := inn hl (by omega)
    obtain ⟨v, r, y, ev, _, hy, hv, hr, er, h5, h2, h1⟩ := min_breath (T := T) hX.1 hI hl
    have e2 : leV Q (mMin T Q M np nl nb ns no) nb j 2 = nI r := er
    have e2m : leV Q M nb j 2 = nI v := ev
    have go := y_1599 (q := q) (nn := nn) (V := V) (S := S) (O := O) (xs := xs) (Ln := Ln) (C60 := C60) (K := K) (ap := ap) (G := G) (C := C) (N := N) (U := U) (L := L) (B := B) (C1542 := wl_L_law_1542 q P nn V S O xs Ln C60 K f) (e137 := e137) hX hR hI he hl (fun v ev => by
      subst ev
      rw [nI_1]
      exact ih (j + 1) f (by omega) (by omega))
    refine And.intro (fun z => absurd z (nI_ge (by omega) (by omega))) (fun _ => ⟨ij, c_legger (w := 2) hX hR hl (by decide) ⟨ij, fun v32 e32 => ?_⟩⟩)
    rw [tj, he j 2 hl (by decide), e2, e2m] at e32
    have t32 : v32.toInt = (r : Int) - v := by rw [e32, pk_sub_toInt (by omega) (by omega)]
    refine And.intro (fun z => absurd z ?_) (fun _ => And.intro (fun z => absurd z ?_) (fun _ => c_legger (w := 4) hX hR hl (by decide) (And.intro (fun _ => go) (fun z => And.intro (fun w => absurd w ?_) (fun _ => go)))))
    · rw [Int32.lt_iff_toInt_lt, t32]
      have : (2 : Int32).toInt = 2 := by decide
      omega
    · rw [Int32.lt_iff_toInt_lt, t32]
      have : (-5 : Int32).toInt = -5 := by decide
      omega
    · have e4 : leV Q (mMin T Q M np nl nb ns no) nb j 4 = mBoatOf Q (mMin T Q M np nl nb ns no) nb (nI j) := rfl
      rw [e4] at z
      have := h1 (fun y => z (by rw [y]; decide))
      rw [Int32.lt_iff_toInt_lt, t32]
      have : (1 : Int32).toInt = 1 := by decide
      omega
theorem y_1492 {e143 e137 : Nat → Int32} {e129 : M2} {v19 v29 : Int32} (hX : PRX P Q kb np nl nb ns no) (hR : RE np nl nb F (mMin T Q M np nl nb ns no)) (hI : IX Q M np nl nb t) (he3 : ∀ b, b < nb → ¬ e143 b = 0 → canP T Q M np nb no b) (he7 : ∀ p, p < np → e137 p = M 202 p) (he : ∀ l w, l < nl → w < 7 → e129 l w = leV Q M nb l w) (hent : v29 = 0 → ∀ c, c < nb → M 206 c = 0 → mMin T Q M np nl nb ns no 206 c = 0) (hC : C 91 0 = 0) (h : ∀ v : Int32, v = nI t + 1 → C60 ap F G C N U L B (nI np) (nI nl) (nI nb) v) : ∀ (d j f : Nat), j + d = nb → d < f → wl_L_law_1492 q P nn V S O xs Ln C60 K f ap F G C N U L B e143 e137 e129 (nI np) (nI nl) (nI nb) (nI t) v19 v29 (nI j) := by
  intro d
  have h60 := hX.1.np3
  have h6 := hX.1.nl3
  have h8 := hX.1.nb3
  have h16 := hX.1.no3
  induction d with
  | zero =>
    intro j f hj hf
    obtain ⟨f, rfl, _⟩ := fuel hf
    exact And.intro (fun _ => y_1542 hX hR hI he7 he h nl 0 fK (by omega) (by rw [fK_eq]; omega)) (fun c => absurd (nI_le (by omega) (by omega)) c)
  | succ d ih =>
    intro j f hj hf
    obtain ⟨f, rfl, _⟩ := fuel hf
    have hb : j < nb := by omega
    have tj : (nI j).toInt.toNat = j := tn_nI (by omega)
    have ij := inn hb (by omega)
    have nxt : ∀ v : Int32, v = nI j + 1 → wl_L_law_1492 q P nn V S O xs Ln C60 K f ap F G C N U L B e143 e137 e129 (nI np) (nI nl) (nI nb) (nI t) v19 v29 v := fun v ev => by
      subst ev
      rw [nI_1]
      exact ih (j + 1) f (by omega) (by omega)
    refine And.intro (fun z => absurd z (nI_ge (by omega) (by omega))) (fun _ => ⟨ij, ?_⟩)
    rw [tj]
    refine And.intro (fun _ => nxt) (fun z1 => c_count (w := 1) hX hR hC (by decide) (And.intro (fun _ => nxt) (fun _ => And.intro (fun _ => nxt) (fun z3 => c_count (w := 7) hX hR hC (by decide) (And.intro (fun _ => nxt) (fun z4 => ?_))))))
    have e7 : coV Q (mMin T Q M np nl nb ns no) np nl nb 0 7 = Q 257 0 := rfl
    rw [e7, hX.1.no2, ← nI_0] at z4
    obtain ⟨c, hc, c0, c1⟩ := min_some (T := T) hX.1 hI (nI_inj (by omega) (by omega) z4) hb (he3 j hb z1)
    exact c1 (hent z3 c hc c0)
/-! boats, behind the minute -/
theorem y_1407 {C1168 : Nat → M2 → M2 → M2 → M2 → M2 → M2 → M2 → (Nat → Int32) → (Nat → Int32) → M2 → M2 → Int32 → Int32 → Int32 → Int32 → Int32 → Int32 → Int32 → Prop} {e143 e137 : Nat → Int32} {e129 e119 : M2} {v19 v29 : Int32} (hX : PRX P Q kb np nl nb ns no) (hR : RE np nl nb F (mMin T Q M np nl nb ns no)) (hI : IX Q M np nl nb t) (hC : C 91 0 = 0) {j : Nat} (hj : j < nb) (he : ∀ w, w < 7 → e119 j w = baV Q M j w) (h : ∀ v : Int32, v = nI j + 1 → C1168 ap F G C N U L B e143 e137 e129 e119 (nI np) (nI nl) (nI nb) (nI t) v19 v29 v) : wj_L_law_1407 q P nn V S O xs Ln C60 C1168 K ap F G C N U L B e143 e137 e129 e119 (nI np) (nI nl) (nI nb) (nI t) v19 v29 (nI j) (nI j) (mMin T Q M np nl nb ns no 206 j) := by
  have h6 := hX.1.nl3
  have h8 := hX.1.nb3
  have tj : (nI j).toInt.toNat = j := tn_nI (by omega)
  have ij := inn hj (by omega)
  obtain ⟨k0, k1, _, _, ec1, _, ec2, _⟩ := hX.1.boat j hj
  refine And.intro (fun _ => h) (fun z2 => ⟨ij, ?_⟩)
  rw [tj, he 3 (by decide)]
  have e3 : baV Q M j 3 = M 206 j := rfl
  rw [e3]
  refine And.intro (fun _ => h) (fun z3 => ?_)
  have ho : OUTN Q M (mMin T Q M np nl nb ns no) j := by
    obtain ⟨b2, b1, b0⟩ := min_boat (T := T) hX.1 hI hj
    rcases hI.how hj with z | z | z
    · rcases b0 z with w | ⟨_, w | w⟩
      · exact absurd (w.1.symm.trans z2) (by decide)
      · exact absurd (w.1.symm.trans z2) (by decide)
      · exact w
    · rcases b1 z with w | w
      · exact absurd (w.1.symm.trans z2) (by decide)
      · exact w
    · rw [z] at z3
      exact absurd (by decide) z3
  have g6 : baV Q (mMin T Q M np nl nb ns no) j 6 = M 200 0 := ho.2.1
  have g0 : coV Q (mMin T Q M np nl nb ns no) np nl nb 0 0 = M 200 0 + 1 := min_200
  refine c_boat (w := 6) hX hR hj (by decide) (c_count (w := 0) hX hR hC (by decide) ?_)
  rw [g6, g0, show M 200 0 + 1 - 1 = M 200 0 by rw [Int32.add_sub_cancel]]
  refine And.intro (fun z => absurd rfl z) (fun _ => c_crew (w := 0) hX hj (by decide) ?_)
  rw [ec1]
  refine c_legger (w := 5) hX hR k0 (by decide) (And.intro (fun z => absurd ho.2.2.1 z) (fun _ => c_crew (w := 1) hX hj (by decide) ?_))
  rw [ec2]
  exact c_legger (w := 5) hX hR k1 (by decide) (And.intro (fun _ => h) (fun z => absurd ho.2.2.2 z))
theorem y_1333 {C1168 : Nat → M2 → M2 → M2 → M2 → M2 → M2 → M2 → (Nat → Int32) → (Nat → Int32) → M2 → M2 → Int32 → Int32 → Int32 → Int32 → Int32 → Int32 → Int32 → Prop} {e143 e137 : Nat → Int32} {e129 e119 : M2} {v19 v29 : Int32} (hX : PRX P Q kb np nl nb ns no) (hR : RE np nl nb F (mMin T Q M np nl nb ns no)) (hI : IX Q M np nl nb t) (hC : C 91 0 = 0) {j : Nat} (hj : j < nb) (he : ∀ w, w < 7 → e119 j w = baV Q M j w) (h : ∀ v : Int32, v = nI j + 1 → C1168 ap F G C N U L B e143 e137 e129 e119 (nI np) (nI nl) (nI nb) (nI t) v19 v29 v) : wj_L_law_1333 q P nn V S O xs Ln C60 C1168 K ap F G C N U L B e143 e137 e129 e119 (nI np) (nI nl) (nI nb) (nI t) v19 v29 (nI j) (nI j) (mMin T Q M np nl nb ns no 206 j) := by
  have h8 := hX.1.nb3
  have tj : (nI j).toInt.toNat = j := tn_nI (by omega)
  have ij := inn hj (by omega)
  have last := y_1407 (q := q) (nn := nn) (V := V) (S := S) (O := O) (xs := xs) (Ln := Ln) (C60 := C60) (K := K) (ap := ap) (G := G) (C := C) (N := N) (U := U) (L := L) (B := B) (C1168 := C1168) (e143 := e143) (e137 := e137) (e129 := e129) (e119 := e119) (v19 := v19) (v29 := v29) hX hR hI hC hj he h
  obtain ⟨b2, b1, b0⟩ := min_boat (T := T) hX.1 hI hj
  have e3 : baV Q M j 3 = M 206 j := rfl
  have e1 : baV Q M j 1 = M 207 j := rfl
  have e4 : baV Q M j 4 = M 209 j := rfl
  have g4 : baV Q (mMin T Q M np nl nb ns no) j 4 = mMin T Q M np nl nb ns no 209 j := rfl
  have key : ∀ q0 : Int32, (mMin T Q M np nl nb ns no 206 j = 1 → adv (M 207 j) q0 (mMin T Q M np nl nb ns no 209 j)) → wj_L_law_1363 q P nn V S O xs Ln C60 C1168 K ap F G C N U L B e143 e137 e129 e119 (nI np) (nI nl) (nI nb) (nI t) v19 v29 (nI j) (nI j) (mMin T Q M np nl nb ns no 206 j) q0 := fun q0 hq => by
    refine And.intro (fun _ => last) (fun z => ⟨ij, ?_⟩)
    have ha := hq z
    rw [tj, he 1 (by decide), e1]
    refine And.intro (fun c => c_boat (w := 4) hX hR hj (by decide) ?_) (fun c => c_boat (w := 4) hX hR hj (by decide) ?_)
    · exact And.intro (fun _ => last) (fun w => absurd (ha.2 c) w)
    · exact And.intro (fun _ => last) (fun w => absurd (ha.1 c) w)
  refine ⟨ij, ?_⟩
  rw [tj, he 3 (by decide), he 1 (by decide), he 4 (by decide), e3, e1, e4]
  refine And.intro (fun c => ⟨ij, And.intro (fun c2 => key _ (fun z => ?_)) (fun c2 => key _ (fun z => ?_))⟩) (fun c => ⟨ij, key _ (fun z => ?_)⟩)
  · rcases hI.how hj with y | y | y
    · rcases b0 y with w | ⟨_, w | w⟩
      · exact absurd (w.1.symm.trans z) (by decide)
      · have := w.2.2
        unfold startV at this
        rw [if_neg c2, hX.1.np2] at this
        exact this
      · exact absurd (w.1.symm.trans z) (by decide)
    · exact absurd y c
    · exact absurd ((b2 y).1.symm.trans z) (by decide)
  · rcases hI.how hj with y | y | y
    · rcases b0 y with w | ⟨_, w | w⟩
      · exact absurd (w.1.symm.trans z) (by decide)
      · have := w.2.2
        unfold startV at this
        rw [if_pos c2] at this
        exact this
      · exact absurd (w.1.symm.trans z) (by decide)
    · exact absurd y c
    · exact absurd ((b2 y).1.symm.trans z) (by decide)
  · rcases b1 c with w | w
    · exact w.2.2
    · exact absurd (w.1.symm.trans z) (by decide)
/-- how many of the first j boats went in -/
def ENT (M M' : M2) (j : Nat) (v : Int32) : Prop := (v = 0 ∧ ∀ c, c < j → M 206 c = 0 → M' 206 c = 0) ∨ (v = 1 ∧ ∃ c, c < j ∧ M 206 c = 0 ∧ ¬ M' 206 c = 0)
theorem y_1168 {e143 e137 : Nat → Int32} {e129 e119 : M2} {v19 : Int32} (hX : PRX P Q kb np nl nb ns no) (hR : RE np nl nb F (mMin T Q M np nl nb ns no)) (hI : IX Q M np nl nb t) (ht : t ≤ 1000) (hC : C 91 0 = 0) (he9 : ∀ b w, b < nb → w < 7 → e119 b w = baV Q M b w) (he3 : ∀ b, b < nb → ¬ e143 b = 0 → canP T Q M np nb no b) (he7 : ∀ p, p < np → e137 p = M 202 p) (he : ∀ l w, l < nl → w < 7 → e129 l w = leV Q M nb l w) (h : ∀ v : Int32, v = nI t + 1 → C60 ap F G C N U L B (nI np) (nI nl) (nI nb) v) : ∀ (d j f : Nat) (v29 : Int32), j + d = nb → d < f → ENT M (mMin T Q M np nl nb ns no) j v29 → wl_L_law_1168 q P nn V S O xs Ln C60 K f ap F G C N U L B e143 e137 e129 e119 (nI np) (nI nl) (nI nb) (nI t) v19 v29 (nI j) := by
  intro d
  have h60 := hX.1.np3
  have h6 := hX.1.nl3
  have h8 := hX.1.nb3
  induction d with
  | zero =>
    intro j f v29 hj hf hE
    obtain ⟨f, rfl, _⟩ := fuel hf
    have ej : j = nb := by omega
    subst ej
    refine And.intro (fun _ => And.intro (fun _ => ?_) (fun c => absurd ?_ c)) (fun c => absurd (nI_le (by omega) (by omega)) c)
    · refine y_1492 hX hR hI he3 he7 he (fun z c hc => ?_) hC h j 0 fK (by omega) (by rw [fK_eq]; omega)
      rcases hE with ⟨_, y⟩ | ⟨y, _⟩
      · exact y c hc
      · exact absurd (y.symm.trans z) (by decide)
    · rcases hE with ⟨y, _⟩ | ⟨y, _⟩
      · rw [y]; decide
      · rw [y]; decide
  | succ d ih =>
    intro j f v29 hj hf hE
    obtain ⟨f, rfl, _⟩ := fuel hf
    have hb : j < nb := by omega
    have tj : (nI j).toInt.toNat = j := tn_nI (by omega)
    have ij := inn hb (by omega)
    obtain ⟨b2, b1, b0⟩ := min_boat (T := T) hX.1 hI hb
    have e0 : baV Q M j 0 = baV Q (mMin T Q M np nl nb ns no) j 0 := rfl
    have x7 : mMin T Q M np nl nb ns no 207 = M 207 := (min_n (by decide) (by decide) (by decide) (by decide)).trans (stP_n (by decide) (by decide) (by decide) (by decide) (by decide) (by decide) (by decide))
    have x8 : mMin T Q M np nl nb ns no 208 = M 208 := (min_n (by decide) (by decide) (by decide) (by decide)).trans (stP_n (by decide) (by decide) (by decide) (by decide) (by decide) (by decide) (by decide))
    have e1 : baV Q (mMin T Q M np nl nb ns no) j 1 = baV Q M j 1 := congrFun x7 j
    have e2 : baV Q (mMin T Q M np nl nb ns no) j 2 = baV Q M j 2 := congrFun x8 j
    have e3 : baV Q M j 3 = M 206 j := rfl
    have g3 : baV Q (mMin T Q M np nl nb ns no) j 3 = mMin T Q M np nl nb ns no 206 j := rfl
    have e6 : baV Q M j 6 = M 211 j := rfl
    have g6 : baV Q (mMin T Q M np nl nb ns no) j 6 = mMin T Q M np nl nb ns no 211 j := rfl
    have nxt : ∀ v29' : Int32, ENT M (mMin T Q M np nl nb ns no) (j + 1) v29' → ∀ v : Int32, v = nI j + 1 → wl_L_law_1168 q P nn V S O xs Ln C60 K f ap F G C N U L B e143 e137 e129 e119 (nI np) (nI nl) (nI nb) (nI t) v19 v29' v := fun v29' hE' v ev => by
      subst ev
      rw [nI_1]
      exact ih (j + 1) f v29' (by omega) (by omega) hE'
    have l1333 := fun (v29' : Int32) hE' => y_1333 (q := q) (nn := nn) (V := V) (S := S) (O := O) (xs := xs) (Ln := Ln) (C60 := C60) (K := K) (ap := ap) (G := G) (C := C) (N := N) (U := U) (L := L) (B := B) (C1168 := wl_L_law_1168 q P nn V S O xs Ln C60 K f) (e143 := e143) (e137 := e137) (e129 := e129) (e119 := e119) (v19 := v19) (v29 := v29') hX hR hI hC hb (fun w hw => he9 j w hb hw) (nxt v29' hE')
    have l1284 : (M 206 j = 0 → mMin T Q M np nl nb ns no 206 j = 0) → wj_L_law_1284 q P nn V S O xs Ln C60 (wl_L_law_1168 q P nn V S O xs Ln C60 K f) K ap F G C N U L B e143 e137 e129 e119 (nI np) (nI nl) (nI nb) (nI t) v19 v29 (nI j) (nI j) (mMin T Q M np nl nb ns no 206 j) := fun hs => by
      refine And.intro (fun _ v ev => And.intro (fun _ => ?_) (fun c => absurd rfl c)) (fun c => absurd rfl c)
      have ev : v = v29 := ev.trans (Int32.add_zero v29)
      subst ev
      refine l1333 _ ?_
      rcases hE with ⟨y, w⟩ | ⟨y, c, hc, w⟩
      · refine Or.inl ⟨y, fun c hc => ?_⟩
        by_cases ec : c = j
        · rw [ec]; exact hs
        · exact w c (by omega)
      · exact Or.inr ⟨y, c, by omega, w⟩
    have l1268 : wj_L_law_1268 q P nn V S O xs Ln C60 (wl_L_law_1168 q P nn V S O xs Ln C60 K f) K ap F G C N U L B e143 e137 e129 e119 (nI np) (nI nl) (nI nb) (nI t) v19 v29 (nI j) (nI j) (mMin T Q M np nl nb ns no 206 j) := by
      refine ⟨ij, ?_⟩
      rw [tj, he9 j 3 hb (by decide), e3]
      refine And.intro (fun c => l1284 (fun z => absurd z c)) (fun c => And.intro (fun c2 => l1284 (fun _ => ?_)) (fun c2 => And.intro (fun c3 => absurd c3 (by decide)) (fun _ v ev => ?_)))
      · rcases b0 c with w | ⟨_, w | w⟩
        · exact w.1
        · rw [w.1] at c2
          exact absurd c2 (by decide)
        · rw [w.1] at c2
          exact absurd c2 (by decide)
      · have hne : ¬ mMin T Q M np nl nb ns no 206 j = 0 := fun y => c2 (by rw [y]; decide)
        have hv : v29 = 0 := by
          rcases hE with ⟨y, _⟩ | ⟨_, x, hx, x0, x1⟩
          · exact y
          · have := min_one hX.1 hI (by omega) hb x0 c x1 hne
            omega
        have ev : v = 1 := by rw [ev, hv]; decide
        subst ev
        obtain ⟨hcan, _⟩ := (b0 c).resolve_left (fun w => hne w.1)
        have hE' : ENT M (mMin T Q M np nl nb ns no) (j + 1) 1 := Or.inr ⟨rfl, j, by omega, c, hne⟩
        refine And.intro (fun z => absurd z (by decide)) (fun _ => ⟨ij, c_count (w := 0) hX hR hC (by decide) ?_⟩)
        have g0 : coV Q (mMin T Q M np nl nb ns no) np nl nb 0 0 = M 200 0 + 1 := min_200
        have g1 : coV Q (mMin T Q M np nl nb ns no) np nl nb 0 1 = mTurn T Q M np nb no 201 0 := congrFun min_201 0
        have hdue := hcan.2.1
        have hside := hcan.2.2.1
        rw [turn_n (by decide), turn_n (by decide)] at hdue
        rw [turn_n (by decide)] at hside
        have m1 : baV Q M j 1 = M 207 j := rfl
        have m2 : baV Q M j 2 = M 208 j := rfl
        rw [tj, he9 j 2 hb (by decide), he9 j 1 hb (by decide), g0, m1, m2]
        refine And.intro (fun z => absurd z ?_) (fun _ => ⟨ij, c_count (w := 1) hX hR hC (by decide) ?_⟩)
        · rw [hI.min] at hdue ⊢
          rw [nI_1]
          intro z
          rw [Int32.le_iff_toInt_le] at z
          rw [Int32.lt_iff_toInt_lt] at hdue
          rw [nI_toInt (by omega)] at z hdue
          omega
        · rw [g1]
          exact And.intro (fun _ => l1333 1 hE') (fun z => absurd hside z)
    refine And.intro (fun z => absurd z (nI_ge (by omega) (by omega))) (fun _ => ⟨ij, c_boat (w := 3) hX hR hb (by decide) (c_boat (w := 0) hX hR hb (by decide) ⟨ij, ?_⟩)⟩)
    rw [tj, he9 j 0 hb (by decide), he9 j 1 hb (by decide), he9 j 2 hb (by decide), he9 j 3 hb (by decide), he9 j 6 hb (by decide), e0, e3, g3]
    refine And.intro (fun z => absurd rfl z) (fun _ => c_boat (w := 1) hX hR hb (by decide) ⟨ij, ?_⟩)
    rw [e1]
    refine And.intro (fun z => absurd rfl z) (fun _ => c_boat (w := 2) hX hR hb (by decide) ⟨ij, ?_⟩)
    rw [e2]
    refine And.intro (fun z => absurd rfl z) (fun _ => ⟨ij, And.intro (fun z => absurd z ?_) (fun _ => ⟨ij, And.intro (fun _ => l1268) (fun z => c_boat (w := 6) hX hR hb (by decide) ⟨ij, And.intro (fun _ => l1268) (fun w => ?_)⟩)⟩)⟩)
    · rcases hI.how hb with y | y | y
      · rw [y]
        rcases b0 y with w | ⟨_, w | w⟩ <;> rw [w.1] <;> decide
      · rw [y]
        rcases b1 y with w | w <;> rw [w.1] <;> decide
      · rw [y, (b2 y).1]
        decide
    · rw [g6, e6] at w
      exact w (b2 z).2
end LAWA
