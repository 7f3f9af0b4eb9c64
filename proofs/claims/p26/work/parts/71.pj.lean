/-! ===== orders, the turn, who is ready, who goes in ===== -/
def PT (P Q : M2) (T : Nat → List (Int32 × Int32)) (nl nb no : Nat) : Prop := ∀ o, o < no → ((P 41 o = 48 ∧ Q 259 o = 17) ∨ (P 41 o = 49 ∧ Q 259 o = 18)) ∧ P 42 o = Q 260 o ∧ ∃ s : Nat, P 43 o = nI s ∧ P 44 o = nI (s + (T o).length) ∧ s + (T o).length ≤ 400 ∧ (∀ j (hj : j < (T o).length), P 46 (s + j) = ((T o)[j]).1 ∧ P 47 (s + j) = ((T o)[j]).2) ∧ tc nl nb (T o) [] = some [true]
def hvV (T : Nat → List (Int32 × Int32)) (M : M2) (np nb o : Nat) : Int32 := (ev M np nb (T o) []).headD 0
theorem nor_one {p : Nat → Prop} [DecidablePred p] {d : Nat} : nor p d 0 = 1 ↔ ∀ i, i < d → ¬ p i := by
  rcases nor_spec (p := p) d 0 with ⟨h1, h2⟩ | ⟨h1, i, _, h2, h3⟩
  · exact ⟨fun _ i hi => h2 i (by omega) (by omega), fun _ => h1⟩
  · refine ⟨fun c => absurd (h1.symm.trans c) (by decide), fun c => absurd h3 (c i (by omega))⟩
theorem nor_01 {p : Nat → Prop} [DecidablePred p] (d j : Nat) : nor p d j = 0 ∨ nor p d j = 1 := by
  rcases nor_spec (p := p) d j with ⟨h1, _⟩ | ⟨h1, _⟩
  · exact Or.inr h1
  · exact Or.inl h1
section ORD
variable {P Q N F S M : M2} {np nl nb ns no : Nat} {b : Nat} {T : Nat → List (Int32 × Int32)}
theorem m_holds {K : Int32 → M2 → Prop} (hp : PR P Q np nl nb ns no) (hT : PT P Q T nl nb no) (hr : RE np nl nb F M) {o : Nat} (ho : o < no) (h : ∀ F', RE np nl nb F' M → (hvV T M np nb o = 0 ∨ hvV T M np nb o = 1) → K (hvV T M np nb o) F') : wp_X4_holds P F (nI o) K := by
  have h16 := hp.no3
  obtain ⟨_, _, s, e1, e2, e3, e7, e9⟩ := hT o ho
  intro v3 ev3 v5 ev5
  rw [atv_nI (by omega) (by decide), e2] at ev3
  rw [atv_nI (by omega) (by decide), e1] at ev5
  subst ev3 ev5
  refine m_holdsL e3 hp (T o) s fK F [] [] e7 rfl (by rw [fK_eq]; omega) (by simp; omega) hr e9 True.intro True.intro (fun F' v hr' hev hv => ?_)
  have e : hvV T M np nb o = v := by
    unfold hvV
    rw [hev]
    rfl
  rw [e] at h
  exact h F' hr' hv
/-! the turn -/
def mTurnL (T : Nat → List (Int32 × Int32)) (Q : M2) (np nb : Nat) : Nat → Nat → M2 → M2
  | 0, _, M => M
  | d + 1, j, M => if Q 259 j = 17 ∧ hvV T M np nb j = 1 then up2 M 201 (fun _ => Q 260 j) else mTurnL T Q np nb d (j + 1) M
theorem m_turnL {K : M2 → Prop} (hp : PR P Q np nl nb ns no) (hT : PT P Q T nl nb no) : ∀ (d j f : Nat) (F : M2), j + d = no → d < f → RE np nl nb F M → (∀ F', RE np nl nb F' (mTurnL T Q np nb d j M) → K F') → wl_X4_chooseTurn_10 P K f F (nI j) := by
  intro d
  have h16 := hp.no3
  induction d with
  | zero =>
    intro j f F hj hf hr h
    obtain ⟨f, rfl, _⟩ := fuel hf
    exact And.intro (fun _ => h F hr) (fun c => absurd (by rw [hp.no1]; exact nI_le (by omega) (by omega)) c)
  | succ d ih =>
    intro j f F hj hf hr h
    obtain ⟨f, rfl, _⟩ := fuel hf
    obtain ⟨hk, hw, _⟩ := hT j (by omega)
    have a41 : atv (P 41) 16 (nI j) = P 41 j := atv_nI (by omega) (by decide)
    have a42 : atv (P 42) 16 (nI j) = P 42 j := atv_nI (by omega) (by decide)
    unfold mTurnL at h
    refine And.intro (fun c => absurd c (by rw [hp.no1]; exact nI_ge (by omega) (by omega))) (fun _ => ?_)
    rw [a41, a42]
    rcases hk with ⟨k1, k2⟩ | ⟨k1, k2⟩
    · rw [k1]
      refine And.intro (fun c => absurd rfl c) (fun _ => m_holds hp hT hr (by omega) (fun F' hr' hv => And.intro (fun c v ev => ?_) (fun c F2 e2 => ?_)))
      · subst ev
        rw [nI_1]
        rw [if_neg (fun z => absurd (c.symm.trans z.2) (by decide))] at h
        exact ih (j + 1) f F' (by omega) (by omega) hr' h
      · subst e2
        rw [if_pos ⟨k2, hv.resolve_left c⟩] at h
        rw [hw]
        exact h _ (hr'.num (k := 2) (by decide) (by decide) rfl)
    · rw [k1]
      refine And.intro (fun _ v ev => ?_) (fun c => absurd c (by decide))
      subst ev
      rw [nI_1]
      rw [if_neg (fun z => absurd (k2.symm.trans z.1) (by decide))] at h
      exact ih (j + 1) f F (by omega) (by omega) hr h
def mTurn (T : Nat → List (Int32 × Int32)) (Q M : M2) (np nb no : Nat) : M2 := mTurnL T Q np nb no 0 M
theorem m_turn {K : M2 → Prop} (hp : PR P Q np nl nb ns no) (hT : PT P Q T nl nb no) (hr : RE np nl nb F M) (h : ∀ F', RE np nl nb F' (mTurn T Q M np nb no) → K F') : wp_X4_chooseTurn P F K := by
  have h16 := hp.no3
  exact m_turnL hp hT no 0 fK F (by omega) (by rw [fK_eq]; omega) hr h
theorem INV.off (h : INV Q M np nl nb b) {k : Nat} {g : Nat → Int32} (h1 : k ≠ 202) (h2 : k ≠ 205) (h3 : k ≠ 206) (h4 : k ≠ 207) (h5 : k ≠ 209) (h6 : k ≠ 210) : INV Q (up2 M k g) np nl nb b := by
  unfold INV IA IW IB ID IC IS isIn isOff at *
  rw [up2_n M g h1.symm, up2_n M g h2.symm, up2_n M g h3.symm, up2_n M g h4.symm, up2_n M g h5.symm, up2_n M g h6.symm]
  exact h
theorem INV.turnL (h : INV Q M np nl nb b) : ∀ d j, INV Q (mTurnL T Q np nb d j M) np nl nb b
  | 0, _ => h
  | d + 1, j => by
    unfold mTurnL
    by_cases c : Q 259 j = 17 ∧ hvV T M np nb j = 1
    · rw [if_pos c]
      exact h.off (by decide) (by decide) (by decide) (by decide) (by decide) (by decide)
    · rw [if_neg c]
      exact INV.turnL h d (j + 1)
/-! who is ready -/
abbrev rdyP (Q M : M2) (nb l : Nat) : Prop := mBoatOf Q M nb (nI l) = -1 ∧ M 205 l = 0 ∧ ¬ M 203 l < 20
abbrev restP (T : Nat → List (Int32 × Int32)) (Q M : M2) (np nb l o : Nat) : Prop := Q 259 o = 18 ∧ Q 260 o = nI l ∧ hvV T M np nb o = 1
abbrev rest2P (T : Nat → List (Int32 × Int32)) (Q M : M2) (np nb l m o : Nat) : Prop := Q 259 o = 18 ∧ (Q 260 o = nI l ∨ Q 260 o = nI m) ∧ hvV T M np nb o = 1
abbrev readyP (T : Nat → List (Int32 × Int32)) (Q M : M2) (np nb no l : Nat) : Prop := rdyP Q M nb l ∧ nor (restP T Q M np nb l) no 0 = 1
abbrev canP (T : Nat → List (Int32 × Int32)) (Q M : M2) (np nb no b : Nat) : Prop := M 206 b = 0 ∧ ¬ M 200 0 < M 208 b ∧ M 207 b = M 201 0 ∧ 0 < np ∧ mClear Q M nb (M 201 0) = 1 ∧ readyP T Q M np nb no (kr0 Q b) ∧ readyP T Q M np nb no (kr1 Q b)
theorem m_isReady {K : Int32 → Prop} (hp : PR P Q np nl nb ns no) (hr : RE np nl nb F M) {l : Nat} (hl : l < nl) (h : K (if rdyP Q M nb l then 1 else 0)) : wp_X4_isReady P F (nI l) K := by
  have h6 := hp.nl3
  have a6 : ∀ g : Nat → Int32, atv g 6 (nI l) = g l := fun g => atv_nI (by omega) (by decide)
  unfold wp_X4_isReady
  rw [a6, a6, hr.walk hl, hr.breath hl]
  refine m_boatOf hp hr ?_
  refine And.intro (fun c => ?_) (fun c => And.intro (fun c2 => ?_) (fun c2 => And.intro (fun c3 => ?_) (fun c3 => ?_)))
  · rw [if_neg (fun z => c z.1)] at h; exact h
  · rw [if_neg (fun z => c2 z.2.1)] at h; exact h
  · rw [if_neg (fun z => z.2.2 c3)] at h; exact h
  · rw [if_pos ⟨c, c2, c3⟩] at h; exact h
theorem m_crewRestsL {K : Int32 → M2 → Prop} (hp : PR P Q np nl nb ns no) (hT : PT P Q T nl nb no) (hb : b < nb) : ∀ (d j f : Nat) (F : M2), j + d = no → d < f → RE np nl nb F M → (∀ F', RE np nl nb F' M → K (if nor (rest2P T Q M np nb (kr0 Q b) (kr1 Q b)) d j = 1 then 0 else 1) F') → wl_X4_crewRests_10 P K f F (nI b) (nI j) := by
  intro d
  have h16 := hp.no3
  have h8 := hp.nb3
  obtain ⟨_, _, _, ec1, _, ec2, _⟩ := hp.boat b hb
  induction d with
  | zero =>
    intro j f F hj hf hr h
    obtain ⟨f, rfl, _⟩ := fuel hf
    exact And.intro (fun _ => h F hr) (fun c => absurd (by rw [hp.no1]; exact nI_le (by omega) (by omega)) c)
  | succ d ih =>
    intro j f F hj hf hr h
    obtain ⟨f, rfl, _⟩ := fuel hf
    obtain ⟨hk, hw, _⟩ := hT j (by omega)
    have a41 : atv (P 41) 16 (nI j) = P 41 j := atv_nI (by omega) (by decide)
    have a42 : atv (P 42) 16 (nI j) = P 42 j := atv_nI (by omega) (by decide)
    unfold nor at h
    have go : ∀ F', RE np nl nb F' M → ¬ rest2P T Q M np nb (kr0 Q b) (kr1 Q b) j → ∀ v : Int32, v = nI j + 1 → wl_X4_crewRests_10 P K f F' (nI b) v := fun F' hr' hn v ev => by
      subst ev
      rw [nI_1]
      rw [if_neg hn] at h
      exact ih (j + 1) f F' (by omega) (by omega) hr' h
    refine And.intro (fun c => absurd c (by rw [hp.no1]; exact nI_ge (by omega) (by omega))) (fun _ => ?_)
    rw [a41, a42]
    rcases hk with ⟨k1, k2⟩ | ⟨k1, k2⟩
    · rw [k1]
      exact And.intro (fun _ => go F hr (fun z => absurd (k2.symm.trans z.1) (by decide))) (fun c => absurd c (by decide))
    · rw [k1]
      refine And.intro (fun c => absurd rfl c) (fun _ => ?_)
      have crew : (P 36 b = Q 260 j ∨ P 37 b = Q 260 j) ↔ (Q 260 j = nI (kr0 Q b) ∨ Q 260 j = nI (kr1 Q b)) := by
        rw [ec1, ec2]
        exact ⟨fun z => z.elim (fun z => Or.inl z.symm) (fun z => Or.inr z.symm), fun z => z.elim (fun z => Or.inl z.symm) (fun z => Or.inr z.symm)⟩
      have no_ : ¬ (P 36 b = Q 260 j ∨ P 37 b = Q 260 j) → ¬ rest2P T Q M np nb (kr0 Q b) (kr1 Q b) j := fun c z => c (crew.mpr z.2.1)
      have yes : (P 36 b = Q 260 j ∨ P 37 b = Q 260 j) → wp_X4_holds P F (nI j) (fun r_52 F_52 => ((r_52 = 0 → (∀ v3_60 : Int32, v3_60 = nI j + 1 → wl_X4_crewRests_10 P K f F_52 (nI b) v3_60)) ∧ (¬ r_52 = 0 → K 1 F_52))) := fun hc => m_holds hp hT hr (by omega) (fun F' hr' hv => And.intro (fun c => go F' hr' (fun z => absurd (c.symm.trans z.2.2) (by decide))) (fun c => by
        have hz : rest2P T Q M np nb (kr0 Q b) (kr1 Q b) j := ⟨k2, crew.mp hc, hv.resolve_left c⟩
        rw [if_pos hz, if_neg (by decide)] at h
        exact h F' hr'))
      unfold wp_X1_isCrew
      rw [atv_nI (by omega) (by decide), atv_nI (by omega) (by decide), hw]
      refine And.intro (fun c => And.intro (fun z => absurd z (by decide)) (fun _ => yes (Or.inl c))) (fun c => And.intro (fun c2 => And.intro (fun _ => go F hr (no_ (fun z => z.elim c c2))) (fun z => absurd rfl z)) (fun c2 => And.intro (fun z => absurd z (by decide)) (fun _ => yes (Or.inr c2))))
theorem rest_split (hk : kr0 Q b ≠ kr1 Q b ∨ True) : nor (rest2P T Q M np nb (kr0 Q b) (kr1 Q b)) no 0 = 1 ↔ (nor (restP T Q M np nb (kr0 Q b)) no 0 = 1 ∧ nor (restP T Q M np nb (kr1 Q b)) no 0 = 1) := by
  rw [nor_one, nor_one, nor_one]
  constructor
  · exact fun h => ⟨fun i hi z => h i hi ⟨z.1, Or.inl z.2.1, z.2.2⟩, fun i hi z => h i hi ⟨z.1, Or.inr z.2.1, z.2.2⟩⟩
  · exact fun h i hi z => z.2.1.elim (fun y => h.1 i hi ⟨z.1, y, z.2.2⟩) (fun y => h.2 i hi ⟨z.1, y, z.2.2⟩)
theorem ite01 {c : Prop} [Decidable c] : (if c then (1 : Int32) else 0) = 0 ↔ ¬ c := by
  by_cases h : c
  · rw [if_pos h]; exact ⟨fun z => absurd z (by decide), fun z => absurd h z⟩
  · rw [if_neg h]; exact ⟨fun _ => h, fun _ => rfl⟩
theorem m_goesIn {K : Int32 → M2 → Prop} (hp : PR P Q np nl nb ns no) (hT : PT P Q T nl nb no) (hr : RE np nl nb F M) (hb : b < nb) (h : ∀ F', RE np nl nb F' M → K (if canP T Q M np nb no b then 1 else 0) F') : wp_X4_goesIn P F (nI b) K := by
  have h8 := hp.nb3
  have h16 := hp.no3
  have a8 : ∀ g : Nat → Int32, atv g 8 (nI b) = g b := fun g => atv_nI (by omega) (by decide)
  obtain ⟨k0, k1, _, ec1, _, ec2, _⟩ := hp.boat b hb
  have no_ : ¬ canP T Q M np nb no b → K 0 F := fun c => by
    have := h F hr
    rw [if_neg c] at this
    exact this
  unfold wp_X4_goesIn wp_X4_isDue
  rw [a8, a8, a8, a8, a8, ec1, ec2, hr.how hb, hr.due hb, hr.side hb, hr.min, hr.turn, hp.np1]
  refine And.intro (fun c => And.intro (fun _ => no_ (fun z => c z.1)) (fun z => absurd rfl z)) (fun c1 => And.intro (fun c => And.intro (fun _ => no_ (fun z => z.2.1 c)) (fun z => absurd rfl z)) (fun c2 => And.intro (fun z => absurd z (by decide)) (fun _ => ?_)))
  refine And.intro (fun c => no_ (fun z => c z.2.2.1)) (fun c3 => And.intro (fun c => no_ (fun z => ?_)) (fun c4 => ?_))
  · exact absurd c (by rw [← nI_0]; exact nI_ge z.2.2.2.1 (by have := hp.np3; omega))
  have c4 : 0 < np := by
    rcases Nat.eq_zero_or_pos np with h0 | h0
    · subst h0
      exact absurd (by decide) c4
    · exact h0
  refine m_clear hp hr ?_
  refine And.intro (fun c => no_ (fun z => absurd (c.symm.trans z.2.2.2.2.1) (by decide))) (fun c5 => ?_)
  have c5 : mClear Q M nb (M 201 0) = 1 := (nor_01 nb 0).resolve_left c5
  refine m_isReady hp hr k0 (And.intro (fun c => no_ (fun z => ite01.mp c z.2.2.2.2.2.1.1)) (fun c6 => ?_))
  have c6 : rdyP Q M nb (kr0 Q b) := Decidable.byContradiction (fun z => c6 (ite01.mpr z))
  refine m_isReady hp hr k1 (And.intro (fun c => no_ (fun z => ite01.mp c z.2.2.2.2.2.2.1)) (fun c7 => ?_))
  have c7 : rdyP Q M nb (kr1 Q b) := Decidable.byContradiction (fun z => c7 (ite01.mpr z))
  refine m_crewRestsL hp hT hb no 0 fK F (by omega) (by rw [fK_eq]; omega) hr (fun F' hr' => ?_)
  have hk := h F' hr'
  by_cases cr : nor (rest2P T Q M np nb (kr0 Q b) (kr1 Q b)) no 0 = 1
  · rw [if_pos cr]
    have cr := (rest_split (Or.inr trivial)).mp cr
    rw [if_pos ⟨c1, c2, c3, c4, c5, ⟨c6, cr.1⟩, ⟨c7, cr.2⟩⟩] at hk
    exact And.intro (fun z => absurd rfl z) (fun _ => hk)
  · rw [if_neg cr]
    rw [if_neg (fun z => cr ((rest_split (Or.inr trivial)).mpr ⟨z.2.2.2.2.2.1.2, z.2.2.2.2.2.2.2⟩))] at hk
    exact And.intro (fun _ => hk) (fun z => absurd z (by decide))
end ORD
