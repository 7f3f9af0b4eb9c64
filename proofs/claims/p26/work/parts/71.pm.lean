/-! ===== shafts, walking, the minute ===== -/
section DRAW
variable {P Q N F S M : M2} {np nl nb ns no : Nat} {b : Nat} {T : Nat → List (Int32 × Int32)}
def adf (q a : Nat) : Nat := if q < a then a - q else q - a
theorem abv_nI {q a : Nat} (hq : q < 1000) (ha : a < 1000) : abv (nI q - nI a) = nI (adf q a) := by
  unfold abv adf
  by_cases c : q < a
  · rw [if_neg (fun z => Int32.not_lt.mpr z (pk_sneg (by omega) c)), if_pos c]
    rw [Int32.sub_eq_add_neg, Int32.zero_add, Int32.neg_sub, pk_sub (by omega)]
  · rw [pk_sub (by omega), if_neg c, if_pos (nI_pos' (by omega))]
/-- how much better the air is at q, by a shaft at a with draught d -/
def byV (Q : M2) (s q : Nat) : Int32 := Q 248 s - 2 * abv (nI q - Q 247 s)
def gDraw (Q : M2) (s : Nat) (q : Nat) (A : Nat → Int32) : Nat → Int32 := if byV Q s q ≤ 0 then A else upd A q (mnv 100 (A q + byV Q s q))
theorem gDraw_eq (Q : M2) (s : Nat) (q : Nat) (A : Nat → Int32) : gDraw Q s q A = if byV Q s q ≤ 0 then A else upd A q (mnv 100 (A q + byV Q s q)) := rfl
def drawA (Q : M2) (np s : Nat) (A : Nat → Int32) : Nat → Int32 := lfo (gDraw Q s) np 0 A
def mDraw (Q : M2) (np : Nat) (s : Nat) (M : M2) : M2 := up2 M 202 (drawA Q np s (M 202))
theorem drawA_at (A : Nat → Int32) (s : Nat) : ∀ n q, lfo (gDraw Q s) n 0 A q = if q < n then (if byV Q s q ≤ 0 then A q else mnv 100 (A q + byV Q s q)) else A q := by
  intro n
  induction n with
  | zero => intro q; rfl
  | succ n ih =>
    intro q
    rw [lfo_succ, Nat.zero_add, gDraw_eq]
    by_cases c : byV Q s n ≤ 0
    · rw [if_pos c, ih]
      by_cases e : q = n
      · subst e
        rw [if_neg (Nat.lt_irrefl q), if_pos (Nat.lt_succ_self q), if_pos c]
      · by_cases c2 : q < n
        · rw [if_pos c2, if_pos (show q < n + 1 by omega)]
        · rw [if_neg c2, if_neg (show ¬ q < n + 1 by omega)]
    · rw [if_neg c]
      by_cases e : q = n
      · subst e
        rw [upd_s, ih, if_neg (Nat.lt_irrefl q), if_pos (Nat.lt_succ_self q), if_neg c]
      · rw [upd_n _ _ e, ih]
        by_cases c2 : q < n
        · rw [if_pos c2, if_pos (show q < n + 1 by omega)]
        · rw [if_neg c2, if_neg (show ¬ q < n + 1 by omega)]
theorem byV_nI (hp : PR P Q np nl nb ns no) {s q : Nat} (hs : s < ns) (hq : q < np) : ∃ a d, a < np ∧ 1 ≤ d ∧ d ≤ 30 ∧ P 29 s = nI a ∧ P 30 s = nI d ∧ Q 247 s = nI a ∧ Q 248 s = nI d ∧ byV Q s q = nI d - nI (2 * adf q a) ∧ (byV Q s q ≤ 0 ↔ d ≤ 2 * adf q a) ∧ (¬ d ≤ 2 * adf q a → byV Q s q = nI (d - 2 * adf q a)) := by
  have h60 := hp.np3
  obtain ⟨a, d, ha, h1, h2, e1, e2, e3, e4⟩ := hp.shaft s hs
  have eb : byV Q s q = nI d - nI (2 * adf q a) := by
    unfold byV
    rw [e4, e2, abv_nI (by omega) (by omega), show (2 : Int32) = nI 2 from rfl, pk_mul]
  have had : adf q a < 100 := by
    unfold adf
    split <;> omega
  refine ⟨a, d, ha, h1, h2, e1, e3, e2, e4, eb, ?_, fun c => by rw [eb, pk_sub (by omega)]⟩
  rw [eb]
  by_cases c : d ≤ 2 * adf q a
  · refine ⟨fun _ => c, fun _ => ?_⟩
    rw [Int32.le_iff_toInt_le, pk_sub_toInt (by omega) (by omega)]
    have : (0 : Int32).toInt = 0 := by decide
    omega
  · refine ⟨fun z => ?_, fun z => absurd z c⟩
    rw [Int32.le_iff_toInt_le, pk_sub_toInt (by omega) (by omega)] at z
    have : (0 : Int32).toInt = 0 := by decide
    omega
theorem mnv_100 {x : Nat} (hx : x ≤ 1000) : mnv 100 (nI x) = nI (min 100 x) := by
  unfold mnv
  rw [show (100 : Int32) = nI 100 from rfl]
  by_cases c : x < 100
  · rw [if_pos ((lt_nI (by omega) (by omega)).mpr c), Nat.min_eq_right (by omega)]
  · rw [if_neg (fun z => c ((lt_nI (by omega) (by omega)).mp z)), Nat.min_eq_left (by omega)]
/-- the class's loop writes where the draught is felt -/
theorem m_drawL {K : M2 → Prop} (hp : PR P Q np nl nb ns no) {s a d hi : Nat} (hs : s < ns) (hd : d ≤ 30) (ha : a < np) (hhi : hi ≤ 200) {x3 : Int32} (e3 : nI a + x3 = nI hi) : ∀ (n j f : Nat) (F : M2) (A : Nat → Int32), n = 61 - j → n < f → j ≤ 60 → RE np nl nb F (up2 M 202 A) → (∀ F' A', RE np nl nb F' (up2 M 202 A') → (∀ q, A' q = if j ≤ q ∧ q ≤ hi ∧ q < np then mnv 100 ((A q + nI d) - 2 * abv (nI q - nI a)) else A q) → K F') → wl_X4_bringAirBy_17 P K f F (nI a) (nI d) x3 (nI j) := by
  have h60 := hp.np3
  intro n
  induction n with
  | zero =>
    intro j f F A hn hf hj hr h
    omega
  | succ n ih =>
    intro j f F A hn hf hj hr h
    obtain ⟨f, rfl, _⟩ := fuel hf
    have done : (∀ q, ¬ (j ≤ q ∧ q ≤ hi ∧ q < np)) → K F := fun hq => h F A hr (fun q => by rw [if_neg (hq q)])
    refine And.intro (fun c => done (fun q z => ?_)) (fun c => And.intro (fun c2 => done (fun q z => ?_)) (fun c2 => And.intro (fun c3 => done (fun q z => ?_)) (fun c3 => ?_)))
    · rw [e3, lt_nI (by omega) (by omega)] at c
      omega
    · rw [hp.np1, le_nI (by omega) (by omega)] at c2
      omega
    · have c3 : nI 60 ≤ nI j := c3
      rw [le_nI (by omega) (by omega)] at c3
      omega
    rw [e3, lt_nI (by omega) (by omega)] at c
    rw [hp.np1, le_nI (by omega) (by omega)] at c2
    have tj : (nI j).toInt.toNat = j := tn_nI (by omega)
    have ij : inb (nI j) 60 := inb_nJ (by omega) (by decide)
    refine ⟨ij, ij, fun F1 e1 v ev => ?_⟩
    subst ev
    rw [nI_1]
    rw [tj, hr.air (by omega), up2_s] at e1
    subst e1
    refine ih (j + 1) f (st2 F 4 j (mnv 100 ((A j + nI d) - 2 * abv (nI j - nI a)))) (upd A j (mnv 100 ((A j + nI d) - 2 * abv (nI j - nI a)))) (by omega) (by omega) (by omega) ?_ (fun F' A' hr' hA' => h F' A' hr' (fun q => ?_))
    · rw [← st2_up2]
      exact hr.put (k := 4) (by decide) (by decide) j rfl
    · rw [hA' q]
      by_cases e : q = j
      · subst e
        rw [if_neg (by omega), upd_s, if_pos ⟨by omega, by omega, by omega⟩]
      · rw [upd_n _ _ e]
        by_cases c5 : j + 1 ≤ q ∧ q ≤ hi ∧ q < np
        · rw [if_pos c5, if_pos ⟨by omega, c5.2.1, c5.2.2⟩]
        · rw [if_neg c5, if_neg (fun z => c5 ⟨by omega, z.2.1, z.2.2⟩)]
theorem RE.air_any {A A' : Nat → Int32} (hr : RE np nl nb F (up2 M 202 A)) (h : ∀ q, q < np → A q = A' q) : RE np nl nb F (up2 M 202 A') := by
  intro k h1 h2 i hi
  rw [hr k h1 h2 i hi]
  by_cases e : k = 4
  · subst e
    show up2 M 202 A 202 i = up2 M 202 A' 202 i
    rw [up2_s, up2_s]
    exact h i hi
  · have e2 : km k ≠ 202 := fun z => e (km_inj h1 h2 (by decide) (by decide) (show km k = km 4 from z))
    rw [up2_n _ _ e2, up2_n _ _ e2]
theorem m_draw {K : M2 → Prop} (hp : PR P Q np nl nb ns no) {s : Nat} (hs : s < ns) (hA : IA M np) (hr : RE np nl nb F M) (h : ∀ F', RE np nl nb F' (mDraw Q np s M) → K F') : wp_X4_bringAirBy P F (atv (P 29) 4 (nI s)) (atv (P 30) 4 (nI s)) K := by
  have h60 := hp.np3
  have h4 := hp.ns3
  obtain ⟨a, d, ha, h1, h2, e1, e2, e3, e4⟩ := hp.shaft s hs
  rw [atv_nI (by omega) (by decide), atv_nI (by omega) (by decide), e1, e3]
  intro v3 ev3 v4 ev4
  rw [show (2 : Int32) = nI 2 from rfl, pk_div (by omega) (by omega) (by omega)] at ev3
  subst ev3
  have ev4 : v4 = nI (a - d / 2) := by
    rw [ev4]
    unfold mxv
    by_cases c : a < d / 2
    · rw [if_neg (fun z => Int32.lt_asymm z (pk_sneg (by omega) c))]
      rw [show a - d / 2 = 0 by omega, nI_0]
    · rw [pk_sub (by omega)]
      by_cases c2 : 0 < nI (a - d / 2)
      · rw [if_pos c2]
      · rw [if_neg c2]
        rw [← nI_0, lt_nI (by omega) (by omega)] at c2
        rw [show a - d / 2 = 0 by omega, nI_0]
  subst ev4
  refine m_drawL (M := M) hp hs h2 ha (by omega : a + d / 2 ≤ 200) (nI_add a (d / 2)) (61 - (a - d / 2)) (a - d / 2) fK F (M 202) rfl (by rw [fK_eq]; omega) (by omega) (by rw [up2_id]; exact hr) (fun F' A' hr' hA' => h F' ?_)
  unfold mDraw drawA
  refine RE.air_any hr' (fun q hq => ?_)
  rw [hA' q, drawA_at, if_pos hq]
  obtain ⟨a', d', _, _, _, f1, f2, _, _, eb, hle, hgt⟩ := byV_nI hp hs hq
  have ea : a' = a := nI_inj (by omega) (by omega) (f1.symm.trans e1)
  have ed : d' = d := nI_inj (by omega) (by omega) (f2.symm.trans e3)
  subst ea ed
  obtain ⟨x, hx, ex⟩ := hA q hq
  have has : (M 202 q + nI d') - 2 * abv (nI q - nI a') = M 202 q + byV Q s q := by
    rw [eb, abv_nI (by omega) (by omega), show (2 : Int32) = nI 2 from rfl, pk_mul, Int32.sub_eq_add_neg, Int32.sub_eq_add_neg, Int32.add_assoc]
  have hr2 : a' - d' / 2 ≤ q ∧ q ≤ a' + d' / 2 ↔ 2 * adf q a' ≤ 2 * (d' / 2) := by
    unfold adf
    by_cases c : q < a'
    · rw [if_pos c]
      omega
    · rw [if_neg c]
      omega
  rw [has]
  by_cases c : byV Q s q ≤ 0
  · rw [if_pos c]
    have c' := hle.mp c
    by_cases c2 : a' - d' / 2 ≤ q ∧ q ≤ a' + d' / 2
    · rw [if_pos ⟨c2.1, c2.2, hq⟩]
      have c3 := hr2.mp c2
      have e0 : byV Q s q = 0 := by
        rw [eb, show 2 * adf q a' = d' by omega, Int32.sub_self]
      rw [e0, Int32.add_zero, ex, mnv_100 (by omega), Nat.min_eq_right (by omega)]
    · rw [if_neg (fun z => c2 ⟨z.1, z.2.1⟩)]
  · rw [if_neg c]
    have c' : ¬ d' ≤ 2 * adf q a' := fun z => c (hle.mpr z)
    have c2 := hr2.mpr (by omega)
    rw [if_pos ⟨c2.1, c2.2, hq⟩]
theorem INV.draw (hp : PR P Q np nl nb ns no) (hI : INV Q M np nl nb b) {s : Nat} (hs : s < ns) : INV Q (mDraw Q np s M) np nl nb b := by
  have h60 := hp.np3
  have hA : IA (mDraw Q np s M) np := fun q hq => by
    unfold mDraw drawA
    rw [up2_s, drawA_at, if_pos hq]
    obtain ⟨x, hx, ex⟩ := hI.1 q hq
    obtain ⟨a', d', _, _, _, f1, f2, _, _, eb, hle, hgt⟩ := byV_nI hp hs hq
    by_cases c : byV Q s q ≤ 0
    · rw [if_pos c]
      exact ⟨x, hx, ex⟩
    · rw [if_neg c, hgt (fun z => c (hle.mpr z)), ex, nI_add, mnv_100 (by omega)]
      exact ⟨_, Nat.min_le_left _ _, rfl⟩
  refine ⟨hA, ?_⟩
  have h2 := hI.2
  unfold mDraw IW IB ID IC IS isIn isOff at *
  rw [up2_n M _ (by decide), up2_n M _ (by decide), up2_n M _ (by decide), up2_n M _ (by decide), up2_n M _ (by decide)]
  exact h2
theorem m_drawAll {K : M2 → Prop} (hp : PR P Q np nl nb ns no) : ∀ (d j f : Nat) (F M : M2), j + d = ns → d < f → RE np nl nb F M → INV Q M np nl nb nb → (∀ F', RE np nl nb F' (lfo (mDraw Q np) d j M) → K F') → wl_X4_bringAir_2 P K f F (nI j) := by
  intro d
  have h4 := hp.ns3
  induction d with
  | zero =>
    intro j f F M hj hf hr hI h
    obtain ⟨f, rfl, _⟩ := fuel hf
    exact And.intro (fun _ => h F hr) (fun c => absurd (by rw [hp.ns1]; exact nI_le (by omega) (by omega)) c)
  | succ d ih =>
    intro j f F M hj hf hr hI h
    obtain ⟨f, rfl, _⟩ := fuel hf
    refine And.intro (fun c => absurd c (by rw [hp.ns1]; exact nI_ge (by omega) (by omega))) (fun _ => m_draw hp (by omega) hI.1 hr (fun F1 hr1 v ev => ?_))
    subst ev
    rw [nI_1]
    exact ih (j + 1) f F1 _ (by omega) (by omega) hr1 (hI.draw hp (by omega)) h
/-! walking -/
def gWalk (l : Nat) (M : M2) : M2 := st2 M 205 l (mxv 0 (M 205 l - 1))
theorem m_walkL {K : M2 → Prop} (hp : PR P Q np nl nb ns no) : ∀ (d j f : Nat) (F M : M2), j + d = nl → d < f → RE np nl nb F M → (∀ F', RE np nl nb F' (lfo gWalk d j M) → K F') → wl_X4_walkBack_2 P K f F (nI j) := by
  intro d
  have h6 := hp.nl3
  induction d with
  | zero =>
    intro j f F M hj hf hr h
    obtain ⟨f, rfl, _⟩ := fuel hf
    exact And.intro (fun _ => h F hr) (fun c => absurd (by rw [hp.nl1]; exact nI_le (by omega) (by omega)) c)
  | succ d ih =>
    intro j f F M hj hf hr h
    obtain ⟨f, rfl, _⟩ := fuel hf
    refine And.intro (fun c => absurd c (by rw [hp.nl1]; exact nI_ge (by omega) (by omega))) (fun _ F1 e1 v ev => ?_)
    subst ev
    rw [nI_1]
    rw [put6 (by omega), atv_nI (by omega) (by decide), hr.walk (by omega)] at e1
    subst e1
    exact ih (j + 1) f _ _ (by omega) (by omega) (hr.put (k := 6) (by decide) (by decide) j rfl) h
theorem INV.walk (hI : INV Q M np nl nb b) (hn : nl ≤ 6) : INV Q (lfo gWalk nl 0 M) np nl nb b := by
  have key : ∀ n, n ≤ nl → (∀ k, k ≠ 205 → lfo gWalk n 0 M k = M k) ∧ ∀ l, l < nl → ∃ w, w ≤ 10 ∧ lfo gWalk n 0 M 205 l = nI w := by
    intro n
    induction n with
    | zero => exact fun _ => ⟨fun _ _ => rfl, hI.2.1⟩
    | succ n ih =>
      intro h
      obtain ⟨i1, i2⟩ := ih (by omega)
      rw [lfo_succ, Nat.zero_add]
      unfold gWalk at i1 i2 ⊢
      refine ⟨fun k hk => by rw [st2_n _ _ _ hk, i1 k hk], fun l hl => ?_⟩
      rw [st2_k]
      by_cases e : l = n
      · rw [if_pos e]
        obtain ⟨w, hw, ew⟩ := i2 n (by omega)
        refine ⟨w - 1, by omega, ?_⟩
        rw [ew]
        unfold mxv
        rcases Nat.eq_zero_or_pos w with h0 | h0
        · subst h0
          decide
        · rw [show (1 : Int32) = nI 1 from rfl, pk_sub (by omega)]
          by_cases c : 0 < nI (w - 1)
          · rw [if_pos c]
          · rw [if_neg c]
            rw [← nI_0, lt_nI (by omega) (by omega)] at c
            rw [show w - 1 = 0 by omega, nI_0]
      · rw [if_neg e]
        exact i2 l hl
  obtain ⟨i1, i2⟩ := key nl (Nat.le_refl _)
  obtain ⟨ha, hw', hB, hD, hC, hS⟩ := hI
  unfold INV IA IW IB ID IC IS isIn isOff at *
  rw [i1 202 (by decide), i1 206 (by decide), i1 207 (by decide), i1 209 (by decide), i1 210 (by decide)]
  exact ⟨ha, i2, hB, hD, hC, hS⟩
theorem INV.spoil (hI : INV Q M np nl nb nb) (hn : np ≤ 60) : INV Q (mSpoil M nb) np nl nb nb := by
  have key : ∀ n, n ≤ nb → ∀ q, q < np → ∃ a, a ≤ 100 ∧ lfo (gSpoil M) n 0 (M 202) q = nI a := by
    intro n
    induction n with
    | zero => exact fun _ => hI.1
    | succ n ih =>
      intro h q hq
      obtain ⟨a, ha, ea⟩ := ih (by omega) q hq
      rw [lfo_succ, Nat.zero_add, gSpoil_eq]
      by_cases c : M 206 n = 1
      · rw [if_pos c]
        by_cases e : q = (M 209 n).toInt.toNat
        · rw [← e, upd_s, ea]
          refine ⟨a - 6, by omega, ?_⟩
          unfold mxv
          rw [show (6 : Int32) = nI 6 from rfl]
          by_cases c2 : a < 6
          · rw [if_neg (fun z => Int32.lt_asymm z (pk_sneg (by omega) c2)), show a - 6 = 0 by omega, nI_0]
          · rw [pk_sub (by omega)]
            by_cases c3 : 0 < nI (a - 6)
            · rw [if_pos c3]
            · rw [if_neg c3]
              rw [← nI_0, lt_nI (by omega) (by omega)] at c3
              rw [show a - 6 = 0 by omega, nI_0]
        · rw [upd_n _ _ e]
          exact ⟨a, ha, ea⟩
      · rw [if_neg c]
        exact ⟨a, ha, ea⟩
  have h2 := hI.2
  refine ⟨fun q hq => ?_, ?_⟩
  · unfold mSpoil spoilA
    rw [up2_s]
    exact key nb (Nat.le_refl _) q hq
  · unfold mSpoil IW IB ID IC IS isIn isOff at *
    rw [up2_n M _ (by decide), up2_n M _ (by decide), up2_n M _ (by decide), up2_n M _ (by decide), up2_n M _ (by decide)]
    exact h2
/-! the minute -/
def mMin (T : Nat → List (Int32 × Int32)) (Q M : M2) (np nl nb ns no : Nat) : M2 :=
  up2 (lfo gWalk nl 0 (lfo (mDraw Q np) ns 0 (mBreathe Q (mSpoil (lfo (gPush Q nb) nb 0 (lfo (gEnter T Q np nb no) nb 0 (mTurn T Q M np nb no))) nb) nl nb))) 200 (fun _ => lfo gWalk nl 0 (lfo (mDraw Q np) ns 0 (mBreathe Q (mSpoil (lfo (gPush Q nb) nb 0 (lfo (gEnter T Q np nb no) nb 0 (mTurn T Q M np nb no))) nb) nl nb)) 200 0 + 1)
theorem INV.drawAll (hp : PR P Q np nl nb ns no) : ∀ (d j : Nat) (M : M2), j + d ≤ ns → INV Q M np nl nb nb → INV Q (lfo (mDraw Q np) d j M) np nl nb nb
  | 0, _, _, _, h => h
  | d + 1, j, M, hj, h => INV.drawAll hp d (j + 1) (mDraw Q np j M) (by omega) (h.draw hp (by omega))
theorem INV.five (hp : PR P Q np nl nb ns no) (hI : INV Q M np nl nb nb) : INV Q (lfo (gEnter T Q np nb no) nb 0 (mTurn T Q M np nb no)) np nl nb nb ∧ INV Q (lfo (gPush Q nb) nb 0 (lfo (gEnter T Q np nb no) nb 0 (mTurn T Q M np nb no))) np nl nb nb := by
  have h1 : INV Q (mTurn T Q M np nb no) np nl nb nb := hI.turnL no 0
  have h2 := INV.fold (gEnter T Q np nb no) (fun b M hb h => h.gEn hp hb) nb 0 _ (by omega) h1
  exact ⟨h2, INV.fold (gPush Q nb) (fun b M hb h => h.gPu hp hb) nb 0 _ (by omega) h2⟩
theorem INV.minu (hp : PR P Q np nl nb ns no) (hI : INV Q M np nl nb nb) : INV Q (mMin T Q M np nl nb ns no) np nl nb nb := by
  have h3 := (INV.five (T := T) hp hI).2
  have h4 : INV Q (mBreathe Q (mSpoil (lfo (gPush Q nb) nb 0 (lfo (gEnter T Q np nb no) nb 0 (mTurn T Q M np nb no))) nb) nl nb) np nl nb nb := (h3.spoil hp.np3).off (by decide) (by decide) (by decide) (by decide) (by decide) (by decide)
  have h5 := INV.drawAll hp ns 0 _ (by omega) h4
  exact (h5.walk hp.nl3).off (by decide) (by decide) (by decide) (by decide) (by decide) (by decide)
/-- so many minutes -/
def mRun (T : Nat → List (Int32 × Int32)) (Q : M2) (np nl nb ns no : Nat) : Nat → M2 → M2
  | 0, M => M
  | d + 1, M => mRun T Q np nl nb ns no d (mMin T Q M np nl nb ns no)
theorem INV.run (hp : PR P Q np nl nb ns no) : ∀ (d : Nat) (M : M2), INV Q M np nl nb nb → INV Q (mRun T Q np nl nb ns no d M) np nl nb nb
  | 0, _, h => h
  | d + 1, _, h => INV.run hp d _ (h.minu hp)
theorem m_runL {K : M2 → Prop} {n : Nat} (hn : n ≤ 4000) (hp : PR P Q np nl nb ns no) (hT : PT P Q T nl nb no) : ∀ (d j f : Nat) (F M : M2), j + d = n → d < f → RE np nl nb F M → INV Q M np nl nb nb → (∀ F', RE np nl nb F' (mRun T Q np nl nb ns no d M) → K F') → wl_X4_run_2 P K f F (nI n) (nI j) := by
  intro d
  have h8 := hp.nb3
  have h6 := hp.nl3
  have h4 := hp.ns3
  induction d with
  | zero =>
    intro j f F M hj hf hr hI h
    obtain ⟨f, rfl, _⟩ := fuel hf
    exact And.intro (fun _ => h F hr) (fun c => absurd (nI_le (by omega) (by omega)) c)
  | succ d ih =>
    intro j f F M hj hf hr hI h
    obtain ⟨f, rfl, _⟩ := fuel hf
    obtain ⟨hI2, hI3⟩ := INV.five (T := T) hp hI
    have hI1 : INV Q (mTurn T Q M np nb no) np nl nb nb := hI.turnL no 0
    have hI4 := hI3.spoil hp.np3
    have hI5 : INV Q (mBreathe Q (mSpoil (lfo (gPush Q nb) nb 0 (lfo (gEnter T Q np nb no) nb 0 (mTurn T Q M np nb no))) nb) nl nb) np nl nb nb := hI4.off (by decide) (by decide) (by decide) (by decide) (by decide) (by decide)
    refine And.intro (fun c => absurd c (nI_ge (by omega) (by omega))) (fun _ => m_turn hp hT hr (fun F1 hr1 => ?_))
    refine m_enterL hp hT nb 0 fK F1 _ (by omega) (by rw [fK_eq]; omega) hr1 hI1 (fun F2 hr2 => ?_)
    refine m_pushAll hp nb 0 fK F2 _ (by omega) (by rw [fK_eq]; omega) hr2 hI2 (fun F3 hr3 => ?_)
    refine m_spoil hp hI3 hr3 (fun F4 hr4 => m_breathe hp hI4 hr4 (fun F5 hr5 => ?_))
    refine m_drawAll hp ns 0 fK F5 _ (by omega) (by rw [fK_eq]; omega) hr5 hI5 (fun F6 hr6 => ?_)
    refine m_walkL hp nl 0 fK F6 _ (by omega) (by rw [fK_eq]; omega) hr6 (fun F7 hr7 F8 e8 v ev => ?_)
    subst ev
    rw [nI_1]
    rw [hr7.min] at e8
    subst e8
    exact ih (j + 1) f _ _ (by omega) (by omega) (hr7.num (k := 1) (by decide) (by decide) rfl) (hI.minu hp) h
theorem m_run {K : M2 → Prop} {n : Nat} (hn : n ≤ 4000) (hp : PR P Q np nl nb ns no) (hT : PT P Q T nl nb no) (hr : RE np nl nb F M) (hI : INV Q M np nl nb nb) (h : ∀ F', RE np nl nb F' (mRun T Q np nl nb ns no n M) → K F') : wp_X4_run P F (nI n) K := m_runL hn hp hT n 0 fK F M (by omega) (by rw [fK_eq]; omega) hr hI h
end DRAW
