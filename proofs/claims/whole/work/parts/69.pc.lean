/-! ===== the reference carries out its code ===== -/
theorem n_isIn {x lo hi : Int32} {K : Int32 → Prop} (h : K (if lo ≤ x ∧ x ≤ hi then 1 else 0)) : wp_X8_isIn x lo hi K := by
  refine And.intro (fun c => ?_) (fun c => And.intro (fun c2 => ?_) (fun c2 => ?_))
  · rw [if_neg (fun z => Int32.not_lt.mpr z.1 c)] at h
    exact h
  · rw [if_neg (fun z => Int32.not_lt.mpr z.2 c2)] at h
    exact h
  · rw [if_pos ⟨Int32.not_lt.mp c, Int32.not_lt.mp c2⟩] at h
    exact h
theorem n_isOf {x : Int32} {K : Int32 → Prop} (h : K (if 23 ≤ x ∧ x ≤ 27 then 1 else 0)) : wp_X8_isOf x K := by
  refine n_isIn ⟨?_, h⟩
  by_cases c : 23 ≤ x ∧ x ≤ 27
  · rw [if_pos c]
    decide
  · rw [if_neg c]
    decide
abbrev isP (x : Int32) : Prop := x = 32 ∨ x = 20 ∨ x = 21 ∨ (23 ≤ x ∧ x ≤ 27)
theorem n_isPushed {x : Int32} {K : Int32 → Prop} (h : K (if isP x then 1 else 0)) : wp_X8_isPushed x K := by
  by_cases c1 : x = 32
  · rw [if_pos (Or.inl c1)] at h
    exact And.intro (fun _ => h) (fun c => absurd c1 c)
  by_cases c2 : x = 20
  · rw [if_pos (Or.inr (Or.inl c2))] at h
    exact And.intro (fun c => absurd c c1) (fun _ => And.intro (fun _ => h) (fun c => absurd c2 c))
  by_cases c3 : x = 21
  · rw [if_pos (Or.inr (Or.inr (Or.inl c3)))] at h
    exact And.intro (fun c => absurd c c1) (fun _ => And.intro (fun c => absurd c c2) (fun _ => And.intro (fun _ => h) (fun c => absurd c3 c)))
  refine And.intro (fun c => absurd c c1) (fun _ => And.intro (fun c => absurd c c2) (fun _ => And.intro (fun c => absurd c c3) (fun _ => n_isOf ?_)))
  by_cases c4 : 23 ≤ x ∧ x ≤ 27
  · rw [if_pos (Or.inr (Or.inr (Or.inr c4)))] at h
    rw [if_pos c4]
    exact And.intro (fun z => absurd z (by decide)) (fun _ => h)
  · rw [if_neg (fun z => z.elim c1 (fun z => z.elim c2 (fun z => z.elim c3 c4)))] at h
    rw [if_neg c4]
    exact And.intro (fun _ => h) (fun z => absurd rfl z)
section EVN
variable {P Q N F S M : M2} {np nl nb ns no : Nat} {b : Nat}
theorem n_leaf {K : Int32 → Prop} (hp : PR P Q np nl nb ns no) (hq : QE S M) {op x : Int32} {ts u : List Bool} (ht : tcS nl nb (op, x) ts = some u) (hop : op ≤ 11) {y : Int32} (hy : y = x ∨ op = 5 ∨ op = 6) (h : K (leafV M nb op x)) : wp_X7_pushed N Q S (encV op) y K := by
  have h8 := hp.nb3
  have h6 := hp.nl3
  have e200 := hq.r 200 (by decide) (by decide)
  have e201 := hq.r 201 (by decide) (by decide)
  have e203 := hq.r 203 (by decide) (by decide)
  have e204 := hq.r 204 (by decide) (by decide)
  have e206 := hq.r 206 (by decide) (by decide)
  have e209 := hq.r 209 (by decide) (by decide)
  have il : inb x nl → inb x 6 := fun c => ⟨c.1, by have := c.2; omega⟩
  have ib : inb x nb → inb x 8 := fun c => ⟨c.1, by have := c.2; omega⟩
  unfold wp_X7_pushed
  rcases tcS_cases ht with ⟨c, rfl⟩ | ⟨rfl, c, rfl⟩ | ⟨rfl, c, rfl⟩ | ⟨rfl, c, rfl⟩ | ⟨rfl, c, rfl⟩ | ⟨c, r, rfl, rfl⟩ | ⟨rfl, r, rfl, rfl⟩ | ⟨c, r, rfl, rfl⟩ | ⟨c, r, rfl, rfl⟩ | ⟨c, r, rfl, rfl⟩
  · rcases c with rfl | rfl | rfl | rfl
    · have e : y = x := hy.elim id (fun z => z.elim (fun z => absurd z (by decide)) (fun z => absurd z (by decide)))
      subst e
      simp [leafV, encV] at h ⊢
      exact h
    · simp [leafV, encV] at h ⊢
      rw [e200]
      exact h
    · simp [leafV, encV] at h ⊢
      rw [e201]
      exact h
    · have e : y = x := hy.elim id (fun z => z.elim (fun z => absurd z (by decide)) (fun z => absurd z (by decide)))
      subst e
      simp [leafV, encV] at h ⊢
      exact n_waits hp hq h

  · have e : y = x := hy.elim id (fun z => z.elim (fun z => absurd z (by decide)) (fun z => absurd z (by decide)))
    subst e
    have c6 := eq_true (il c)
    have h : K (M 203 y.toInt.toNat) := h
    rw [show encV 8 = 23 by decide]
    refine ⟨fun z => absurd z (by decide), fun z => absurd z (by decide), fun _ => ⟨of_eq_true c6, ?_⟩, fun z => absurd z (by decide), fun z => absurd z (by decide), fun z => absurd z (by decide), fun z => absurd z (by decide), fun z20 z21 z23 z24 z25 z26 z32 => absurd rfl z23⟩
    rw [e203]
    exact h
  · have e : y = x := hy.elim id (fun z => z.elim (fun z => absurd z (by decide)) (fun z => absurd z (by decide)))
    subst e
    have c6 := eq_true (ib c)
    have h : K (M 209 y.toInt.toNat) := h
    rw [show encV 9 = 24 by decide]
    refine ⟨fun z => absurd z (by decide), fun z => absurd z (by decide), fun z => absurd z (by decide), fun _ => ⟨of_eq_true c6, ?_⟩, fun z => absurd z (by decide), fun z => absurd z (by decide), fun z => absurd z (by decide), fun z20 z21 z23 z24 z25 z26 z32 => absurd rfl z24⟩
    rw [e209]
    exact h
  · have e : y = x := hy.elim id (fun z => z.elim (fun z => absurd z (by decide)) (fun z => absurd z (by decide)))
    subst e
    have c6 := eq_true (ib c)
    have h : K (if M 206 y.toInt.toNat = 1 then 1 else 0) := h
    rw [show encV 10 = 26 by decide]
    refine ⟨fun z => absurd z (by decide), fun z => absurd z (by decide), fun z => absurd z (by decide), fun z => absurd z (by decide), fun z => absurd z (by decide), fun _ => ⟨of_eq_true c6, ?_⟩, fun z => absurd z (by decide), fun z20 z21 z23 z24 z25 z26 z32 => absurd rfl z26⟩
    rw [e206]
    exact And.intro (fun c => by rw [if_neg c] at h; exact h) (fun c => by rw [if_pos c] at h; exact h)
  · have e : y = x := hy.elim id (fun z => z.elim (fun z => absurd z (by decide)) (fun z => absurd z (by decide)))
    subst e
    have c6 := eq_true (il c)
    have h : K (if M 204 y.toInt.toNat = -1 then 1 else 0) := h
    rw [show encV 11 = 27 by decide]
    refine ⟨fun z => absurd z (by decide), fun z => absurd z (by decide), fun z => absurd z (by decide), fun z => absurd z (by decide), fun z => absurd z (by decide), fun z => absurd z (by decide), fun z => absurd z (by decide), fun _ _ _ _ _ _ _ => ⟨of_eq_true c6, ?_⟩⟩
    rw [e204]
    exact And.intro (fun c => by rw [if_neg c] at h; exact h) (fun c => by rw [if_pos c] at h; exact h)
  · rcases c with rfl | rfl <;> exact absurd hop (by decide)
  · exact absurd hop (by decide)
  · rcases c with rfl | rfl | rfl | rfl | rfl | rfl <;> exact absurd hop (by decide)
  · rcases c with rfl | rfl | rfl | rfl | rfl <;> exact absurd hop (by decide)
  · rcases c with rfl | rfl <;> exact absurd hop (by decide)
theorem n_airOf {K : Int32 → Prop} (hp : PR P Q np nl nb ns no) (hq : QE S M) {x : Int32} (h : K (airV M np x)) : wp_X7_airOf N Q S x K := by
  have h60 := hp.np3
  unfold wp_X7_airOf
  rw [hp.np2]
  refine n_isIn ?_
  unfold airV at h
  by_cases c : inb x np
  · rw [if_pos c] at h
    obtain ⟨p, hpn, rfl⟩ := inb_of c (by omega)
    have e : nI np - 1 = nI (np - 1) := by
      have := nI_pred (np - 1)
      rw [show np - 1 + 1 = np by omega] at this
      exact this
    rw [if_pos ⟨nI_pos' (by omega), by rw [e, le_nI (by omega) (by omega)]; omega⟩]
    refine And.intro (fun z => absurd z (by decide)) (fun _ => ⟨inb_nI (by omega) (by decide), ?_⟩)
    rw [Qr0 hq (by decide) (by decide)]
    exact h
  · rw [if_neg c] at h
    rw [if_neg ?_]
    · exact And.intro (fun _ => h) (fun z => absurd rfl z)
    · intro z
      refine c ⟨by have := Int32.le_iff_toInt_le.mp z.1; exact this, ?_⟩
      have z2 := Int32.le_iff_toInt_le.mp z.2
      have z1 : (0 : Int) ≤ x.toInt := Int32.le_iff_toInt_le.mp z.1
      rcases Nat.eq_zero_or_pos np with h0 | h0
      · subst h0
        have e : (nI 0 - 1).toInt = -1 := by decide
        omega
      · have e : nI np - 1 = nI (np - 1) := by
          have := nI_pred (np - 1)
          rw [show np - 1 + 1 = np by omega] at this
          exact this
        rw [e, nI_toInt (by omega)] at z2
        omega
theorem n_both {K : Int32 → Prop} {op x y : Int32} (hop : op = 15 ∨ op = 16 ∨ op = 17 ∨ op = 18 ∨ op = 19 ∨ op = 20 ∨ op = 21 ∨ op = 22 ∨ op = 23 ∨ op = 24 ∨ op = 25 ∨ op = 26 ∨ op = 27) (h : K (twoV op x y)) : wp_X8_both (encV op) x y K := by
  unfold wp_X8_both
  rcases hop with rfl | rfl | rfl | rfl | rfl | rfl | rfl | rfl | rfl | rfl | rfl | rfl | rfl
  · rw [show encV 15 = 34 by decide]
    exact ⟨fun z => absurd z (by decide), fun z => absurd z (by decide), fun z => absurd z (by decide), fun _ => h, fun z => absurd z (by decide), fun z => absurd z (by decide), fun z => absurd z (by decide), fun z => absurd z (by decide), fun z => absurd z (by decide), fun z => absurd z (by decide), fun z => absurd z (by decide), fun z => absurd z (by decide), fun z16 z30 z31 z34 z35 z36 z37 z38 z39 z42 z43 z44 => absurd rfl z34⟩
  · rw [show encV 16 = 35 by decide]
    exact ⟨fun z => absurd z (by decide), fun z => absurd z (by decide), fun z => absurd z (by decide), fun z => absurd z (by decide), fun _ => h, fun z => absurd z (by decide), fun z => absurd z (by decide), fun z => absurd z (by decide), fun z => absurd z (by decide), fun z => absurd z (by decide), fun z => absurd z (by decide), fun z => absurd z (by decide), fun z16 z30 z31 z34 z35 z36 z37 z38 z39 z42 z43 z44 => absurd rfl z35⟩
  · rw [show encV 17 = 36 by decide]
    exact ⟨fun z => absurd z (by decide), fun z => absurd z (by decide), fun z => absurd z (by decide), fun z => absurd z (by decide), fun z => absurd z (by decide), fun _ => h, fun z => absurd z (by decide), fun z => absurd z (by decide), fun z => absurd z (by decide), fun z => absurd z (by decide), fun z => absurd z (by decide), fun z => absurd z (by decide), fun z16 z30 z31 z34 z35 z36 z37 z38 z39 z42 z43 z44 => absurd rfl z36⟩
  · rw [show encV 18 = 37 by decide]
    have h : K (if y = 0 then 0 else x / y) := h
    exact ⟨fun z => absurd z (by decide), fun z => absurd z (by decide), fun z => absurd z (by decide), fun z => absurd z (by decide), fun z => absurd z (by decide), fun z => absurd z (by decide), fun _ => And.intro (fun c => ⟨c, by rw [if_neg c] at h; exact h⟩) (fun c => by rw [if_pos c] at h; exact h), fun z => absurd z (by decide), fun z => absurd z (by decide), fun z => absurd z (by decide), fun z => absurd z (by decide), fun z => absurd z (by decide), fun z16 z30 z31 z34 z35 z36 z37 z38 z39 z42 z43 z44 => absurd rfl z37⟩
  · rw [show encV 19 = 38 by decide]
    have h : K (if y ≤ x then 0 else 1) := h
    exact ⟨fun z => absurd z (by decide), fun z => absurd z (by decide), fun z => absurd z (by decide), fun z => absurd z (by decide), fun z => absurd z (by decide), fun z => absurd z (by decide), fun z => absurd z (by decide), fun _ => And.intro (fun c => by rw [if_pos c] at h; exact h) (fun c => by rw [if_neg c] at h; exact h), fun z => absurd z (by decide), fun z => absurd z (by decide), fun z => absurd z (by decide), fun z => absurd z (by decide), fun z16 z30 z31 z34 z35 z36 z37 z38 z39 z42 z43 z44 => absurd rfl z38⟩
  · rw [show encV 20 = 39 by decide]
    have h : K (if x ≤ y then 0 else 1) := h
    exact ⟨fun z => absurd z (by decide), fun z => absurd z (by decide), fun z => absurd z (by decide), fun z => absurd z (by decide), fun z => absurd z (by decide), fun z => absurd z (by decide), fun z => absurd z (by decide), fun z => absurd z (by decide), fun _ => And.intro (fun c => by rw [if_pos c] at h; exact h) (fun c => by rw [if_neg c] at h; exact h), fun z => absurd z (by decide), fun z => absurd z (by decide), fun z => absurd z (by decide), fun z16 z30 z31 z34 z35 z36 z37 z38 z39 z42 z43 z44 => absurd rfl z39⟩
  · rw [show encV 21 = 42 by decide]
    have h : K (if x = y then 1 else 0) := h
    exact ⟨fun z => absurd z (by decide), fun z => absurd z (by decide), fun z => absurd z (by decide), fun z => absurd z (by decide), fun z => absurd z (by decide), fun z => absurd z (by decide), fun z => absurd z (by decide), fun z => absurd z (by decide), fun z => absurd z (by decide), fun _ => And.intro (fun c => by rw [if_neg c] at h; exact h) (fun c => by rw [if_pos c] at h; exact h), fun z => absurd z (by decide), fun z => absurd z (by decide), fun z16 z30 z31 z34 z35 z36 z37 z38 z39 z42 z43 z44 => absurd rfl z42⟩
  · rw [show encV 22 = 43 by decide]
    have h : K (if y < x then 0 else 1) := h
    exact ⟨fun z => absurd z (by decide), fun z => absurd z (by decide), fun z => absurd z (by decide), fun z => absurd z (by decide), fun z => absurd z (by decide), fun z => absurd z (by decide), fun z => absurd z (by decide), fun z => absurd z (by decide), fun z => absurd z (by decide), fun z => absurd z (by decide), fun _ => And.intro (fun c => by rw [if_pos c] at h; exact h) (fun c => by rw [if_neg c] at h; exact h), fun z => absurd z (by decide), fun z16 z30 z31 z34 z35 z36 z37 z38 z39 z42 z43 z44 => absurd rfl z43⟩
  · rw [show encV 23 = 44 by decide]
    have h : K (if x < y then 0 else 1) := h
    exact ⟨fun z => absurd z (by decide), fun z => absurd z (by decide), fun z => absurd z (by decide), fun z => absurd z (by decide), fun z => absurd z (by decide), fun z => absurd z (by decide), fun z => absurd z (by decide), fun z => absurd z (by decide), fun z => absurd z (by decide), fun z => absurd z (by decide), fun z => absurd z (by decide), fun _ => And.intro (fun c => by rw [if_pos c] at h; exact h) (fun c => by rw [if_neg c] at h; exact h), fun z16 z30 z31 z34 z35 z36 z37 z38 z39 z42 z43 z44 => absurd rfl z44⟩
  · rw [show encV 24 = 16 by decide]
    exact ⟨fun _ => h, fun z => absurd z (by decide), fun z => absurd z (by decide), fun z => absurd z (by decide), fun z => absurd z (by decide), fun z => absurd z (by decide), fun z => absurd z (by decide), fun z => absurd z (by decide), fun z => absurd z (by decide), fun z => absurd z (by decide), fun z => absurd z (by decide), fun z => absurd z (by decide), fun z16 z30 z31 z34 z35 z36 z37 z38 z39 z42 z43 z44 => absurd rfl z16⟩
  · rw [show encV 25 = 29 by decide]
    exact ⟨fun z => absurd z (by decide), fun z => absurd z (by decide), fun z => absurd z (by decide), fun z => absurd z (by decide), fun z => absurd z (by decide), fun z => absurd z (by decide), fun z => absurd z (by decide), fun z => absurd z (by decide), fun z => absurd z (by decide), fun z => absurd z (by decide), fun z => absurd z (by decide), fun z => absurd z (by decide), fun _ _ _ _ _ _ _ _ _ _ _ _ => h⟩
  · rw [show encV 26 = 30 by decide]
    exact ⟨fun z => absurd z (by decide), fun _ => h, fun z => absurd z (by decide), fun z => absurd z (by decide), fun z => absurd z (by decide), fun z => absurd z (by decide), fun z => absurd z (by decide), fun z => absurd z (by decide), fun z => absurd z (by decide), fun z => absurd z (by decide), fun z => absurd z (by decide), fun z => absurd z (by decide), fun z16 z30 z31 z34 z35 z36 z37 z38 z39 z42 z43 z44 => absurd rfl z30⟩
  · rw [show encV 27 = 31 by decide]
    exact ⟨fun z => absurd z (by decide), fun z => absurd z (by decide), fun _ => h, fun z => absurd z (by decide), fun z => absurd z (by decide), fun z => absurd z (by decide), fun z => absurd z (by decide), fun z => absurd z (by decide), fun z => absurd z (by decide), fun z => absurd z (by decide), fun z => absurd z (by decide), fun z => absurd z (by decide), fun z16 z30 z31 z34 z35 z36 z37 z38 z39 z42 z43 z44 => absurd rfl z31⟩
/-- the code of operations, laid from place c on -/
def SEG (g : Nat → Int32) (c : Nat) (l : List Int32) : Prop := ∀ j (hj : j < l.length), g (c + j) = l[j]
theorem SEG.app {g : Nat → Int32} {c : Nat} {a b : List Int32} (h : SEG g c (a ++ b)) : SEG g c a ∧ SEG g (c + a.length) b := by
  refine ⟨fun j hj => ?_, fun j hj => ?_⟩
  · rw [h j (by rw [List.length_append]; omega), List.getElem_append_left hj]
  · rw [Nat.add_assoc, h (a.length + j) (by rw [List.length_append]; omega), List.getElem_append_right (by omega)]
    simp
theorem n_carryL {K : Int32 → M2 → Prop} {e : Nat} (he : e ≤ 800) (hp : PR P Q np nl nb ns no) : ∀ (ops : List (Int32 × Int32)) (c f : Nat) (S : M2) (st : List Int32) (ts : List Bool), SEG (Q 263) c (flat ops) → c + (flat ops).length = e → ops.length < f → st.length + ops.length ≤ 400 → QE S M → tc nl nb ops ts = some [true] → TY st ts → STK (S 213) st → (∀ S' v, QE S' M → ev M np nb ops st = [v] → (v = 0 ∨ v = 1) → K v S') → wl_X7_carryOut_5 N Q K f S (nI e) (topI st.length) (nI c) := by
  intro ops
  induction ops with
  | nil =>
    intro c f S st ts hs hi hf hl hq ht hT hS h
    obtain ⟨f, rfl, _⟩ := fuel hf
    have e1 : ts = [true] := Option.some.inj ht
    subst e1
    match st, hT, hS with
    | [v], hT, hS =>
      have hv := hT.1 rfl
      have hi : c = e := by simpa [flat] using hi
      subst hi
      refine And.intro (fun _ => ⟨by decide, ?_⟩) (fun z => absurd (nI_le (Nat.le_refl _) (by omega)) z)
      rw [z0]
      have : S 213 0 = v := hS.1
      rw [this]
      exact h S v hq rfl hv
    | [], hT, _ => exact False.elim hT
    | _ :: _ :: _, hT, _ => exact False.elim hT.2
  | cons q ops ih =>
    intro c f S st ts hs hi hf hl hq ht hT hS h
    obtain ⟨f, rfl, _⟩ := fuel hf
    simp only [List.length_cons] at hl hf
    have hfl : flat (q :: ops) = enc q ++ flat ops := rfl
    rw [hfl] at hs hi
    rw [List.length_append] at hi
    obtain ⟨hs0, hs'⟩ := hs.app
    obtain ⟨op, x⟩ := q
    obtain ⟨u, hu, ht'⟩ := Option.bind_eq_some_iff.mp (show (tcS nl nb (op, x) ts).bind (tc nl nb ops) = some [true] from ht)
    have hlen : 1 ≤ (enc (op, x)).length := by
      unfold enc
      split <;> simp
    have hc : Q 263 c = encV op := by
      have := hs0 0 (by omega)
      rw [Nat.add_zero] at this
      rw [this]
      unfold enc
      split <;> rfl
    have tcn : (nI c).toInt.toNat = c := tn_nI (by omega)
    have key : ∀ (S1 : M2) (st1 : List Int32), st1.length + ops.length ≤ 400 → QE S1 M → STK (S1 213) st1 → TY st1 u → st1 = evS M np nb (op, x) st → wl_X7_carryOut_5 N Q K f S1 (nI e) (topI st1.length) (nI (c + (enc (op, x)).length)) := fun S1 st1 k1 k2 k3 k4 k5 =>
      ih (c + (enc (op, x)).length) f S1 st1 u hs' (by omega) (by omega) k1 k2 ht' k4 k3 (fun S' v g1 g2 g3 => h S' v g1 (by
        show ev M np nb ops (evS M np nb (op, x) st) = [v]
        rw [← k5]
        exact g2) g3)
    refine And.intro (fun z => absurd z (nI_ge (by omega) (by omega))) (fun _ => ⟨inb_nI (by omega) (by omega), fun v5 e5 v4 e4 => ?_⟩)
    rw [tcn, hc] at e5
    rw [nI_1] at e4
    subst e4
    refine n_isPushed ?_
    rcases tcS_shape (np := np) (M := M) hu hT with ⟨hop, hT1⟩ | ⟨h11, hop, a, r, rfl, hT1, h13⟩ | ⟨h11, h14, b, a, r, rfl, hT1⟩
    · -- a leaf
      have hP : isP (encV op) ∧ ((op = 5 ∨ op = 6) ∨ ((op = 4 ∨ op = 7 ∨ op = 8 ∨ op = 9 ∨ op = 10 ∨ op = 11) ∧ (encV op = 32 ∨ (¬ encV op = 32 ∧ 23 ≤ encV op ∧ encV op ≤ 27)))) := by
        rcases tcS_cases hu with ⟨c, _⟩ | ⟨rfl, _⟩ | ⟨rfl, _⟩ | ⟨rfl, _⟩ | ⟨rfl, _⟩ | ⟨c, _⟩ | ⟨rfl, _⟩ | ⟨c, _⟩ | ⟨c, _⟩ | ⟨c, _⟩
        · rcases c with rfl | rfl | rfl | rfl <;> decide
        · decide
        · decide
        · decide
        · decide
        · rcases c with rfl | rfl <;> exact absurd hop (by decide)
        · exact absurd hop (by decide)
        · rcases c with rfl | rfl | rfl | rfl | rfl | rfl <;> exact absurd hop (by decide)
        · rcases c with rfl | rfl | rfl | rfl | rfl <;> exact absurd hop (by decide)
        · rcases c with rfl | rfl <;> exact absurd hop (by decide)
      rw [e5, if_pos hP.1]
      refine And.intro (fun z => absurd z (by decide)) (fun _ v3 e3 => ?_)
      rw [topI_succ] at e3
      subst e3
      have fin : ∀ (S1 : M2), S1 = up2 S 213 (upd (S 213) (nI st.length).toInt.toNat (leafV M nb op x)) → wl_X7_carryOut_5 N Q K f S1 (nI e) (nI st.length) (nI (c + (enc (op, x)).length)) := fun S1 e1 => by
        rw [tn_nI (by omega)] at e1
        subst e1
        refine key _ (leafV M nb op x :: st) (by simp; omega) (hq.off (by decide) _) ?_ hT1 ?_
        · rw [up2_s]
          exact hS.set
        · unfold evS
          rw [if_pos hop]
      rcases hP.2 with ho | ⟨ho, hE⟩
      · have hen : (enc (op, x)).length = 1 := by rcases ho with rfl | rfl <;> rfl
        have hn : ¬ encV op = 32 ∧ ¬ (23 ≤ encV op ∧ encV op ≤ 27) := by rcases ho with rfl | rfl <;> decide
        refine And.intro (fun z => absurd z hn.1) (fun _ => n_isOf ?_)
        rw [if_neg hn.2]
        refine And.intro (fun _ => And.intro (fun _ => ?_) (fun z => absurd rfl z)) (fun z => absurd rfl z)
        refine n_leaf hp hq hu hop (Or.inr ho) ⟨inb_nI (by omega) (by decide), fun S1 e1 => And.intro (fun _ v ev => ?_) (fun z => absurd rfl z)⟩
        rw [Int32.add_zero] at ev
        subst ev
        have := fin S1 e1
        rw [hen] at this
        exact this
      · have hen : enc (op, x) = [encV op, x] := by
          unfold enc
          exact if_pos ho
        have hx : Q 263 (c + 1) = x := by
          have := hs0 1 (by rw [hen]; simp)
          rw [this]
          simp [hen]
        have hl2 : (enc (op, x)).length = 2 := by rw [hen]; rfl
        have fin2 : wj_X7_carryOut_60 N Q (wl_X7_carryOut_5 N Q K f) K S (nI e) (nI st.length) (nI (c + 1)) (encV op) 1 := by
          refine And.intro (fun z => absurd z (by decide)) (fun _ => ⟨inb_nI (by omega) (by omega), ?_⟩)
          rw [tn_nI (by omega), hx]
          refine n_leaf hp hq hu hop (Or.inl rfl) ⟨inb_nI (by omega) (by decide), fun S1 e1 => And.intro (fun z => absurd z (by decide)) (fun _ v ev => ?_)⟩
          rw [nI_1] at ev
          subst ev
          have := fin S1 e1
          rw [hl2] at this
          exact this
        rcases hE with h32 | ⟨h32, h23⟩
        · exact And.intro (fun _ => fin2) (fun z => absurd h32 z)
        · refine And.intro (fun z => absurd z h32) (fun _ => n_isOf ?_)
          rw [if_pos h23]
          exact And.intro (fun z => absurd z (by decide)) (fun _ => fin2)
    · -- of one side
      simp only [List.length_cons] at hl ⊢
      have hO : op = 12 ∨ op = 13 ∨ op = 14 := by
        rcases tcS_cases hu with ⟨c, _⟩ | ⟨rfl, _⟩ | ⟨rfl, _⟩ | ⟨rfl, _⟩ | ⟨rfl, _⟩ | ⟨c, _⟩ | ⟨rfl, _⟩ | ⟨c, _⟩ | ⟨c, _⟩ | ⟨c, _⟩
        · rcases c with rfl | rfl | rfl | rfl <;> exact absurd (by decide) h11
        · exact absurd (by decide) h11
        · exact absurd (by decide) h11
        · exact absurd (by decide) h11
        · exact absurd (by decide) h11
        · rcases c with rfl | rfl <;> simp
        · simp
        · rcases c with rfl | rfl | rfl | rfl | rfl | rfl <;> exact absurd hop (by decide)
        · rcases c with rfl | rfl | rfl | rfl | rfl <;> exact absurd hop (by decide)
        · rcases c with rfl | rfl <;> exact absurd hop (by decide)
      have hen : (enc (op, x)).length = 1 := by rcases hO with rfl | rfl | rfl <;> rfl
      have hn : ¬ isP (encV op) := by rcases hO with rfl | rfl | rfl <;> decide
      rw [e5, if_neg hn]
      have ea : S 213 (topI (r.length + 1)).toInt.toNat = a := by
        show S 213 (nI r.length).toInt.toNat = a
        rw [tn_nI (by omega)]
        exact hS.1
      have it : inb (topI (r.length + 1)) 400 := by
        show inb (nI r.length) 400
        exact inb_nI (by omega) (by decide)
      have fin : ∀ (S1 : M2), S1 = up2 S 213 (upd (S 213) (topI (r.length + 1)).toInt.toNat (oneV M np op a)) → wl_X7_carryOut_5 N Q K f S1 (nI e) (topI (r.length + 1)) (nI (c + 1)) := fun S1 e1 => by
        change S1 = up2 S 213 (upd (S 213) (nI r.length).toInt.toNat (oneV M np op a)) at e1
        rw [tn_nI (by omega)] at e1
        subst e1
        have fk := key (up2 S 213 (upd (S 213) r.length (oneV M np op a))) (oneV M np op a :: r) (by simp; omega) (hq.off (by decide) _) ?_ hT1 ?_
        · rw [hen] at fk
          exact fk
        · rw [up2_s]
          exact STK.set hS.2
        · unfold evS
          rw [if_neg h11, if_pos hop]
      have fin2 : wj_X7_carryOut_135 N Q (wl_X7_carryOut_5 N Q K f) K S (nI e) (topI (r.length + 1)) (nI (c + 1)) (encV op) := by
        unfold wj_X7_carryOut_135
        rw [ea]
        rcases hO with rfl | rfl | rfl
        · rw [show encV 12 = 22 by decide]
          refine And.intro (fun _ => And.intro (fun _ => ⟨it, n_airOf hp hq ⟨it, fun S1 e1 => fin S1 e1⟩⟩) (fun z => absurd z (by decide))) (fun z => absurd z (by decide))
        · rw [show encV 13 = 28 by decide]
          refine And.intro (fun _ => And.intro (fun z => absurd rfl z) (fun _ => ⟨it, it, fun S1 e1 => fin S1 ?_⟩)) (fun z => absurd z (by decide))
          rw [e1]
          rcases h13 rfl with rfl | rfl <;> rfl
        · rw [show encV 14 = 33 by decide]
          exact And.intro (fun z => absurd rfl z) (fun _ => ⟨it, it, fun S1 e1 => fin S1 e1⟩)
      refine And.intro (fun _ => ?_) (fun z => absurd rfl z)
      refine And.intro (fun _ => fin2) (fun z33 => And.intro (fun _ => fin2) (fun z28 => And.intro (fun z22 => ?_) (fun _ => fin2)))
      rcases hO with rfl | rfl | rfl
      · exact absurd (by decide) z22
      · exact absurd (by decide) z28
      · exact absurd (by decide) z33
    · -- of two sides
      simp only [List.length_cons] at hl ⊢
      have hO : op = 15 ∨ op = 16 ∨ op = 17 ∨ op = 18 ∨ op = 19 ∨ op = 20 ∨ op = 21 ∨ op = 22 ∨ op = 23 ∨ op = 24 ∨ op = 25 ∨ op = 26 ∨ op = 27 := by
        rcases tcS_cases hu with ⟨c, _⟩ | ⟨rfl, _⟩ | ⟨rfl, _⟩ | ⟨rfl, _⟩ | ⟨rfl, _⟩ | ⟨c, _⟩ | ⟨rfl, _⟩ | ⟨c, _⟩ | ⟨c, _⟩ | ⟨c, _⟩
        · rcases c with rfl | rfl | rfl | rfl <;> exact absurd (by decide) h11
        · exact absurd (by decide) h11
        · exact absurd (by decide) h11
        · exact absurd (by decide) h11
        · exact absurd (by decide) h11
        · rcases c with rfl | rfl <;> exact absurd (by decide) h14
        · exact absurd (by decide) h14
        · rcases c with rfl | rfl | rfl | rfl | rfl | rfl <;> simp
        · rcases c with rfl | rfl | rfl | rfl | rfl <;> simp
        · rcases c with rfl | rfl <;> simp
      have hF : (enc (op, x)).length = 1 ∧ ¬ isP (encV op) ∧ ¬ encV op = 33 ∧ ¬ encV op = 28 ∧ ¬ encV op = 22 := by
        rcases hO with rfl | rfl | rfl | rfl | rfl | rfl | rfl | rfl | rfl | rfl | rfl | rfl | rfl <;> exact ⟨rfl, by decide⟩
      rw [e5, if_neg hF.2.1]
      refine And.intro (fun _ => ?_) (fun z => absurd rfl z)
      refine And.intro (fun z => absurd z hF.2.2.1) (fun _ => And.intro (fun z => absurd z hF.2.2.2.1) (fun _ => And.intro (fun _ v3 e3 => ?_) (fun z => absurd z hF.2.2.2.2)))
      rw [show r.length + 1 + 1 = r.length + 2 by omega, topI_pred] at e3
      subst e3
      have ea : S 213 (topI (r.length + 1)).toInt.toNat = a := by
        show S 213 (nI r.length).toInt.toNat = a
        rw [tn_nI (by omega)]
        exact hS.2.1
      have eb : S 213 (topI (r.length + 1) + 1).toInt.toNat = b := by
        rw [topI_succ, tn_nI (by omega)]
        exact hS.1
      have it : inb (topI (r.length + 1)) 400 := by
        show inb (nI r.length) 400
        exact inb_nI (by omega) (by decide)
      have it2 : inb (topI (r.length + 1) + 1) 400 := by
        rw [topI_succ]
        exact inb_nI (by omega) (by decide)
      rw [ea, eb]
      refine ⟨it, it2, n_both hO ⟨it, fun S1 e1 => ?_⟩⟩
      change S1 = up2 S 213 (upd (S 213) (nI r.length).toInt.toNat (twoV op a b)) at e1
      rw [tn_nI (by omega)] at e1
      subst e1
      have fk := key (up2 S 213 (upd (S 213) r.length (twoV op a b))) (twoV op a b :: r) (by simp; omega) (hq.off (by decide) _) ?_ hT1 ?_
      · rw [hF.1] at fk
        exact fk
      · rw [up2_s]
        exact STK.set hS.2.2
      · unfold evS
        rw [if_neg h11, if_neg h14]
end EVN
