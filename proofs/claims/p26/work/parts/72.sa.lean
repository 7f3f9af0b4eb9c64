/-! ===== the law's tunnel (its rows N U L B beside nn V S O) is M and Q ===== -/
/-- the operations of an order's test, as the class's reader tells them -/
def opsT (e2 n m l b : Nat) : List (Int32 × Int32) := match e2 with
  | 0 => [(5, 0), (4, nI (n % 7 + 1)), (18, 0), (4, nI (n % 7 + 1)), (17, 0), (5, 0), (21, 0)]
  | 1 => [(7, 1), (7, 0), (20, 0)]
  | 2 => [(7, 0), (4, 0), (21, 0), (10, nI b), (13, 0), (24, 0)]
  | 3 => [(4, nI n), (12, 0), (4, nI m), (19, 0)]
  | 4 => [(8, nI l), (4, nI m), (19, 0)]
  | 5 => [(11, nI l), (13, 0), (9, nI b), (4, nI n), (23, 0), (25, 0)]
  | 6 => [(6, 0), (4, 1), (21, 0), (5, 0), (4, nI n), (20, 0), (9, nI b), (12, 0), (4, nI m), (20, 0), (25, 0), (24, 0)]
  | _ => [(7, 0), (4, nI n), (26, 0), (7, 1), (16, 0), (4, 1), (19, 0)]
def ORD (O Q : M2) (T : Nat → List (Int32 × Int32)) (nl nb o : Nat) : Prop :=
  ((O o 0 = 0 ∧ Q 259 o = 17) ∨ (O o 0 = 1 ∧ Q 259 o = 18)) ∧ O o 1 = Q 260 o ∧ ∃ e n m x : Nat, e < 8 ∧ n < 40 ∧ m < 100 ∧ x < 30 ∧ O o 2 = nI e ∧ O o 3 = nI n ∧ O o 4 = nI m ∧ O o 5 = nI x ∧ T o = opsT e n m (x % nl) (x % nb)
/-- what of the law's tunnel never changes -/
def ZK (nn : Nat → Nat) (V S O Q : M2) (T : Nat → List (Int32 × Int32)) (np nl nb ns no : Nat) : Prop :=
  (nn 0 ≤ 5 ∧ nn 1 = np ∧ nn 2 = ns ∧ nn 3 = nl ∧ nn 4 = nb ∧ nn 5 = no) ∧ (0 < np ∧ 0 < nl ∧ nl ≤ 5 ∧ 0 < nb ∧ nb ≤ 5)
  ∧ (∀ p, p < np → ∃ k x, k < nn 0 ∧ x ≤ 9 ∧ Q 245 p = nI k ∧ V k 1 = nI x ∧ Q 243 k = nI x)
  ∧ (∀ s, s < ns → S s 0 = Q 247 s ∧ S s 1 = Q 248 s) ∧ ∀ o, o < no → ORD O Q T nl nb o
/-- the law's tunnel as it is -/
def ZS (Q M N U L B : M2) (np nl nb : Nat) : Prop :=
  (N 0 0 = M 200 0 ∧ N 1 0 = M 201 0 ∧ N 2 0 = -1 ∧ M 212 0 = -1)
  ∧ (∀ p, p < np → U p 0 = Q 245 p ∧ U p 1 = M 202 p)
  ∧ (∀ l, l < nl → L l 0 = Q 250 l ∧ L l 1 = Q 251 l ∧ L l 2 = M 203 l ∧ L l 3 = M 204 l ∧ L l 4 = M 205 l)
  ∧ ∀ b, b < nb → B b 0 = Q 253 b ∧ B b 1 = M 207 b ∧ B b 2 = M 208 b ∧ B b 3 = M 206 b ∧ B b 4 = M 209 b ∧ B b 5 = M 210 b ∧ B b 6 = M 211 b ∧ B b 7 = Q (310 + b) 0 ∧ B b 8 = Q (310 + b) 1
/-- where caps are -/
def ICP (M : M2) (np nl : Nat) : Prop := ∀ l, l < nl → M 204 l = -1 ∨ ∃ p, p < np ∧ M 204 l = nI p
section ZQ
variable {P Q : M2} {nn : Nat → Nat} {V S O N U L B M : M2} {np nl nb ns no : Nat} {T : Nat → List (Int32 × Int32)} {K : Int32 → Prop} {k : Int32}
theorem ZK.n0 (h : ZK nn V S O Q T np nl nb ns no) : nn 0 ≤ 5 := h.1.1
theorem ZK.n1 (h : ZK nn V S O Q T np nl nb ns no) : Int32.ofNat (nn 1) = nI np := by rw [h.1.2.1]; rfl
theorem ZK.n2 (h : ZK nn V S O Q T np nl nb ns no) : Int32.ofNat (nn 2) = nI ns := by rw [h.1.2.2.1]; rfl
theorem ZK.n3 (h : ZK nn V S O Q T np nl nb ns no) : Int32.ofNat (nn 3) = nI nl := by rw [h.1.2.2.2.1]; rfl
theorem ZK.n4 (h : ZK nn V S O Q T np nl nb ns no) : Int32.ofNat (nn 4) = nI nb := by rw [h.1.2.2.2.2.1]; rfl
theorem ZK.n5 (h : ZK nn V S O Q T np nl nb ns no) : Int32.ofNat (nn 5) = nI no := by rw [h.1.2.2.2.2.2]; rfl
theorem ZK.i1 (h : ZK nn V S O Q T np nl nb ns no) {i : Nat} (hi : i < np) (hb : np ≤ 60) : inb (nI i) (nn 1) := by rw [h.1.2.1]; exact inb_nJ hi (by omega)
theorem ZK.i2 (h : ZK nn V S O Q T np nl nb ns no) {i : Nat} (hi : i < ns) (hb : ns ≤ 4) : inb (nI i) (nn 2) := by rw [h.1.2.2.1]; exact inb_nJ hi (by omega)
theorem ZK.i3 (h : ZK nn V S O Q T np nl nb ns no) {i : Nat} (hi : i < nl) : inb (nI i) (nn 3) := by rw [h.1.2.2.2.1]; exact inb_nJ hi (by have := h.2.1.2.2.1; omega)
theorem ZK.i4 (h : ZK nn V S O Q T np nl nb ns no) {i : Nat} (hi : i < nb) : inb (nI i) (nn 4) := by rw [h.1.2.2.2.2.1]; exact inb_nJ hi (by have := h.2.1.2.2.2.2; omega)
theorem ZK.i5 (h : ZK nn V S O Q T np nl nb ns no) {i : Nat} (hi : i < no) (hb : no ≤ 16) : inb (nI i) (nn 5) := by rw [h.1.2.2.2.2.2]; exact inb_nJ hi (by omega)
theorem ZK.np0 (h : ZK nn V S O Q T np nl nb ns no) : 0 < np := h.2.1.1
theorem ZK.nl0 (h : ZK nn V S O Q T np nl nb ns no) : 0 < nl := h.2.1.2.1
theorem ZK.nl5 (h : ZK nn V S O Q T np nl nb ns no) : nl ≤ 5 := h.2.1.2.2.1
theorem ZK.nb0 (h : ZK nn V S O Q T np nl nb ns no) : 0 < nb := h.2.1.2.2.2.1
theorem ZK.nb5 (h : ZK nn V S O Q T np nl nb ns no) : nb ≤ 5 := h.2.1.2.2.2.2
theorem ZS.b0 (h : ZS Q M N U L B np nl nb) {b : Nat} (hb : b < nb) : B b 0 = Q 253 b := (h.2.2.2 b hb).1
theorem ZS.b1 (h : ZS Q M N U L B np nl nb) {b : Nat} (hb : b < nb) : B b 1 = M 207 b := (h.2.2.2 b hb).2.1
theorem ZS.b2 (h : ZS Q M N U L B np nl nb) {b : Nat} (hb : b < nb) : B b 2 = M 208 b := (h.2.2.2 b hb).2.2.1
theorem ZS.b3 (h : ZS Q M N U L B np nl nb) {b : Nat} (hb : b < nb) : B b 3 = M 206 b := (h.2.2.2 b hb).2.2.2.1
theorem ZS.b4 (h : ZS Q M N U L B np nl nb) {b : Nat} (hb : b < nb) : B b 4 = M 209 b := (h.2.2.2 b hb).2.2.2.2.1
theorem ZS.b5 (h : ZS Q M N U L B np nl nb) {b : Nat} (hb : b < nb) : B b 5 = M 210 b := (h.2.2.2 b hb).2.2.2.2.2.1
theorem ZS.b6 (h : ZS Q M N U L B np nl nb) {b : Nat} (hb : b < nb) : B b 6 = M 211 b := (h.2.2.2 b hb).2.2.2.2.2.2.1
theorem ZS.b7 (h : ZS Q M N U L B np nl nb) {b : Nat} (hb : b < nb) : B b 7 = Q (310 + b) 0 := (h.2.2.2 b hb).2.2.2.2.2.2.2.1
theorem ZS.b8 (h : ZS Q M N U L B np nl nb) {b : Nat} (hb : b < nb) : B b 8 = Q (310 + b) 1 := (h.2.2.2 b hb).2.2.2.2.2.2.2.2
theorem ZS.l0 (h : ZS Q M N U L B np nl nb) {l : Nat} (hl : l < nl) : L l 0 = Q 250 l := (h.2.2.1 l hl).1
theorem ZS.l1 (h : ZS Q M N U L B np nl nb) {l : Nat} (hl : l < nl) : L l 1 = Q 251 l := (h.2.2.1 l hl).2.1
theorem ZS.l2 (h : ZS Q M N U L B np nl nb) {l : Nat} (hl : l < nl) : L l 2 = M 203 l := (h.2.2.1 l hl).2.2.1
theorem ZS.l3 (h : ZS Q M N U L B np nl nb) {l : Nat} (hl : l < nl) : L l 3 = M 204 l := (h.2.2.1 l hl).2.2.2.1
theorem ZS.l4 (h : ZS Q M N U L B np nl nb) {l : Nat} (hl : l < nl) : L l 4 = M 205 l := (h.2.2.1 l hl).2.2.2.2
theorem ZS.u0 (h : ZS Q M N U L B np nl nb) {p : Nat} (hp : p < np) : U p 0 = Q 245 p := (h.2.1 p hp).1
theorem ZS.u1 (h : ZS Q M N U L B np nl nb) {p : Nat} (hp : p < np) : U p 1 = M 202 p := (h.2.1 p hp).2
theorem ZS.min (h : ZS Q M N U L B np nl nb) : N 0 0 = M 200 0 := h.1.1
theorem ZS.turn (h : ZS Q M N U L B np nl nb) : N 1 0 = M 201 0 := h.1.2.1
/-! loops that ask -/
theorem s_boatAtL (hk : ZK nn V S O Q T np nl nb ns no) (hz : ZS Q M N U L B np nl nb) : ∀ (d j f : Nat), j + d = nb → d < f → K (ffr (pBoatAt (M 206) (M 209) k) d j) → wl_X6_boatAt_2 nn V S O N U L B K f k (nI j) := by
  intro d
  have h5 := hk.nb5
  induction d with
  | zero =>
    intro j f hj hf h
    obtain ⟨f, rfl, _⟩ := fuel hf
    exact And.intro (fun _ => h) (fun c => absurd (by rw [hk.n4]; exact nI_le (by omega) (by omega)) c)
  | succ d ih =>
    intro j f hj hf h
    obtain ⟨f, rfl, _⟩ := fuel hf
    have hb : j < nb := by omega
    have tj : (nI j).toInt.toNat = j := tn_nI (by omega)
    have ij := hk.i4 hb
    unfold ffr at h
    have go : ¬ pBoatAt (M 206) (M 209) k j → ∀ v : Int32, v = nI j + 1 → wl_X6_boatAt_2 nn V S O N U L B K f k v := fun hn v ev => by
      subst ev
      rw [nI_1]
      rw [if_neg hn] at h
      exact ih (j + 1) f (by omega) (by omega) h
    refine And.intro (fun c => absurd c (by rw [hk.n4]; exact nI_ge (by omega) (by omega))) (fun _ => ⟨ij, ij, ?_⟩)
    rw [tj, hz.b3 hb, hz.b4 hb]
    refine And.intro (fun c => go (fun z => c z.1)) (fun c => ⟨ij, ij, And.intro (fun c2 => go (fun z => c2 z.2)) (fun c2 => ?_)⟩)
    rw [if_pos ⟨c, c2⟩] at h
    exact h
theorem s_boatAt (hk : ZK nn V S O Q T np nl nb ns no) (hz : ZS Q M N U L B np nl nb) (h : K (mBoatAt M nb k)) : wp_X6_boatAt nn V S O N U L B k K := s_boatAtL hk hz nb 0 fK (by omega) (by have := hk.nb5; rw [fK_eq]; omega) h
theorem s_boatOfL (hk : ZK nn V S O Q T np nl nb ns no) (hz : ZS Q M N U L B np nl nb) : ∀ (d j f : Nat), j + d = nb → d < f → K (ffr (pBoatOf (M 206) (fun i => Q (310 + i) 0) (fun i => Q (310 + i) 1) k) d j) → wl_X6_boatOf_2 nn V S O N U L B K f k (nI j) := by
  intro d
  have h5 := hk.nb5
  induction d with
  | zero =>
    intro j f hj hf h
    obtain ⟨f, rfl, _⟩ := fuel hf
    exact And.intro (fun _ => h) (fun c => absurd (by rw [hk.n4]; exact nI_le (by omega) (by omega)) c)
  | succ d ih =>
    intro j f hj hf h
    obtain ⟨f, rfl, _⟩ := fuel hf
    have hb : j < nb := by omega
    have tj : (nI j).toInt.toNat = j := tn_nI (by omega)
    have ij := hk.i4 hb
    unfold ffr at h
    have go : ¬ pBoatOf (M 206) (fun i => Q (310 + i) 0) (fun i => Q (310 + i) 1) k j → ∀ v : Int32, v = nI j + 1 → wl_X6_boatOf_2 nn V S O N U L B K f k v := fun hn v ev => by
      subst ev
      rw [nI_1]
      rw [if_neg hn] at h
      exact ih (j + 1) f (by omega) (by omega) h
    refine And.intro (fun c => absurd c (by rw [hk.n4]; exact nI_ge (by omega) (by omega))) (fun _ => ⟨ij, ij, ?_⟩)
    rw [tj, hz.b3 hb, hz.b7 hb, hz.b8 hb]
    refine And.intro (fun c => go (fun z => c z.1)) (fun c => ⟨ij, ij, And.intro (fun c2 => ?_) (fun c2 => ⟨ij, ij, And.intro (fun c3 => go (fun z => z.2.elim c2 c3)) (fun c3 => ?_)⟩)⟩)
    · rw [if_pos ⟨c, Or.inl c2⟩] at h
      exact h
    · rw [if_pos ⟨c, Or.inr c3⟩] at h
      exact h
theorem s_boatOf (hk : ZK nn V S O Q T np nl nb ns no) (hz : ZS Q M N U L B np nl nb) (h : K (mBoatOf Q M nb k)) : wp_X6_boatOf nn V S O N U L B k K := s_boatOfL hk hz nb 0 fK (by omega) (by have := hk.nb5; rw [fK_eq]; omega) h
theorem s_waitsL (hk : ZK nn V S O Q T np nl nb ns no) (hz : ZS Q M N U L B np nl nb) : ∀ (d j f : Nat) (a : Int32), j + d = nb → d < f → K (cfr (pWaits (M 206) (M 207) (M 208) k (M 200 0)) d j a) → wl_X6_waits_14 nn V S O N U L B K f k a (nI nb) (nI j) := by
  intro d
  have h5 := hk.nb5
  induction d with
  | zero =>
    intro j f a hj hf h
    obtain ⟨f, rfl, _⟩ := fuel hf
    exact And.intro (fun _ => h) (fun c => absurd (nI_le (by omega) (by omega)) c)
  | succ d ih =>
    intro j f a hj hf h
    obtain ⟨f, rfl, _⟩ := fuel hf
    have hb : j < nb := by omega
    have tj : (nI j).toInt.toNat = j := tn_nI (by omega)
    have ij := hk.i4 hb
    unfold cfr at h
    have go : ¬ pWaits (M 206) (M 207) (M 208) k (M 200 0) j → ∀ a' : Int32, a' = a + 0 → ∀ v : Int32, v = nI j + 1 → wl_X6_waits_14 nn V S O N U L B K f k a' (nI nb) v := fun hn a' ea v ev => by
      subst ev
      rw [nI_1, ea, Int32.add_zero]
      rw [if_neg hn] at h
      exact ih (j + 1) f a (by omega) (by omega) h
    refine And.intro (fun c => absurd c (nI_ge (by omega) (by omega))) (fun _ => ⟨ij, ij, ?_⟩)
    rw [tj, hz.b3 hb, hz.b1 hb, hz.b2 hb, hz.min]
    refine And.intro (fun c => go (fun z => c z.1)) (fun c => ⟨ij, And.intro (fun c2 => go (fun z => c2 z.2.1)) (fun c2 => ⟨ij, And.intro (fun c3 => go (fun z => z.2.2 c3)) (fun c3 a' ea v ev => ?_)⟩)⟩)
    subst ev
    rw [nI_1, ea]
    rw [if_pos ⟨c, c2, c3⟩] at h
    exact ih (j + 1) f _ (by omega) (by omega) h
theorem s_waits (hk : ZK nn V S O Q T np nl nb ns no) (hz : ZS Q M N U L B np nl nb) (h : K (mWaits M nb k)) : wp_X6_waits nn V S O N U L B k K := fun v ev => by
  subst ev
  rw [hk.n4]
  exact s_waitsL hk hz nb 0 fK 0 (by omega) (by have := hk.nb5; rw [fK_eq]; omega) h
theorem s_thoseL (hk : ZK nn V S O Q T np nl nb ns no) (hz : ZS Q M N U L B np nl nb) : ∀ (d j f : Nat) (a : Int32), j + d = nb → d < f → K (cfr (pIs (M 206) k) d j a) → wl_X6_those_14 nn V S O N U L B K f k a (nI nb) (nI j) := by
  intro d
  have h5 := hk.nb5
  induction d with
  | zero =>
    intro j f a hj hf h
    obtain ⟨f, rfl, _⟩ := fuel hf
    exact And.intro (fun _ => h) (fun c => absurd (nI_le (by omega) (by omega)) c)
  | succ d ih =>
    intro j f a hj hf h
    obtain ⟨f, rfl, _⟩ := fuel hf
    have hb : j < nb := by omega
    have tj : (nI j).toInt.toNat = j := tn_nI (by omega)
    have ij := hk.i4 hb
    unfold cfr at h
    refine And.intro (fun c => absurd c (nI_ge (by omega) (by omega))) (fun _ => ⟨ij, ij, ?_⟩)
    rw [tj, hz.b3 hb]
    refine And.intro (fun c a' ea v ev => ?_) (fun c a' ea v ev => ?_)
    · subst ev
      rw [nI_1, ea, Int32.add_zero]
      rw [if_neg c] at h
      exact ih (j + 1) f a (by omega) (by omega) h
    · subst ev
      rw [nI_1, ea]
      rw [if_pos c] at h
      exact ih (j + 1) f _ (by omega) (by omega) h
theorem s_those (hk : ZK nn V S O Q T np nl nb ns no) (hz : ZS Q M N U L B np nl nb) (h : K (mThose M nb k)) : wp_X6_those nn V S O N U L B k K := fun v ev => by
  subst ev
  rw [hk.n4]
  exact s_thoseL hk hz nb 0 fK 0 (by omega) (by have := hk.nb5; rw [fK_eq]; omega) h
theorem s_air (hk : ZK nn V S O Q T np nl nb ns no) (hz : ZS Q M N U L B np nl nb) (h60 : np ≤ 60) (h : K (airV M np k)) : wp_X6_air nn V S O N U L B k K := by
  unfold airV at h
  unfold wp_X6_air
  rw [hk.n1, hk.1.2.1]
  have t0 : (0 : Int32).toInt = 0 := by decide
  refine And.intro (fun c => ?_) (fun c => And.intro (fun c2 => ?_) (fun c2 => ?_))
  · rw [Int32.lt_iff_toInt_lt] at c
    rw [if_neg (fun z : inb k np => by have := z.1; omega)] at h
    exact h
  · rw [Int32.lt_iff_toInt_lt] at c c2
    rw [nI_toInt (by omega)] at c2
    have hi : inb k np := ⟨by omega, by omega⟩
    obtain ⟨p, hp, rfl⟩ := inb_oJ hi (by omega)
    rw [if_pos hi] at h
    rw [tn_nI (by omega)] at h ⊢
    rw [hz.u1 hp]
    exact ⟨hi, hi, h⟩
  · rw [Int32.lt_iff_toInt_lt, nI_toInt (by omega)] at c2
    rw [if_neg (fun z : inb k np => c2 z.2)] at h
    exact h
end ZQ
