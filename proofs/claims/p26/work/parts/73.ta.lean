/-! ===== what the class tells (out of whole's parts) ===== -/
def D1 (kb np : Nat) (f25 f26 f27 v242 v243 v244 : Nat → Int32) : Prop := ∀ k, k < kb → ∃ x f, 1 ≤ x ∧ x ≤ 12 ∧ f + x ≤ np ∧ f25 k = nI x ∧ v242 k = nI x ∧ f27 k = nI f ∧ v244 k = nI f ∧ f26 k = v243 k
def D2 (kb np : Nat) (f28 v245 : Nat → Int32) : Prop := ∀ q, q < np → ∃ k, k < kb ∧ f28 q = nI k ∧ v245 q = nI k
def D3 (ns np : Nat) (f29 f30 v247 v248 : Nat → Int32) : Prop := ∀ s, s < ns → ∃ a d, a < np ∧ 1 ≤ d ∧ d ≤ 30 ∧ f29 s = nI a ∧ v247 s = nI a ∧ f30 s = nI d ∧ v248 s = nI d
def D4 (nl : Nat) (f31 f32 v250 v251 : Nat → Int32) : Prop := ∀ l, l < nl → ∃ x y, 1 ≤ x ∧ x ≤ 9 ∧ 1 ≤ y ∧ y ≤ 9 ∧ f31 l = nI x ∧ v250 l = nI x ∧ f32 l = nI y ∧ v251 l = nI y
def D5 (nl nb : Nat) (f33 f34 f35 f36 f37 v253 v254 v255 : Nat → Int32) (c : Nat → Nat → Int32) : Prop := ∀ b, b < nb → ∃ k0 k1 w, k0 < nl ∧ k1 < nl ∧ k0 ≠ k1 ∧ 1 ≤ w ∧ w ≤ 60 ∧ f36 b = nI k0 ∧ c b 0 = nI k0 ∧ f37 b = nI k1 ∧ c b 1 = nI k1 ∧ f33 b = nI w ∧ v253 b = nI w ∧ f34 b = v254 b ∧ (v254 b = 0 ∨ v254 b = 1) ∧ f35 b = v255 b
def PRX (P Q : M2) (kb np nl nb ns no : Nat) : Prop := PR P Q np nl nb ns no ∧ (P 20 0 = nI kb ∧ Q 240 0 = nI kb ∧ kb ≤ 5) ∧ D1 kb np (P 25) (P 26) (P 27) (Q 242) (Q 243) (Q 244) ∧ D2 kb np (P 28) (Q 245) ∧ (∀ b, b < nb → P 34 b = Q 254 b ∧ (Q 254 b = 0 ∨ Q 254 b = 1) ∧ P 35 b = Q 255 b) ∧ ∃ T, PT P Q T nl nb no
section TOLD
variable {q : Nat → Nat} {ap : Nat} {P U T S C G : M2} {kb np nl nb ns no : Nat}
theorem ix_in {n j : Nat} (hn : n < 2147483648) (hj : j < n) : ¬ nI j < 0 ∧ nI j < nI n := ⟨nI_pos (by omega), nI_lt hj (by omega)⟩
def coV (U S : M2) (np nl nb : Nat) (z : Int32) (w : Nat) : Int32 := if w = 0 then S 200 0 else if w = 1 then S 201 0 else if w = 2 then U 240 0 else if w = 3 then U 241 0 else if w = 4 then U 246 0 else if w = 5 then U 249 0 else if w = 6 then U 252 0 else if w = 7 then U 257 0 else if w = 8 then mThose S nb 0 else if w = 9 then mThose S nb 1 else if w = 10 then mThose S nb 2 else if w = 11 then mAllAir S np else if w = 12 then nI nl - mCapsAt S nl (-1) else z
def plV (U S : M2) (nl nb p w : Nat) : Int32 := if w = 0 then U 245 p else if w = 1 then S 202 p else if w = 2 then mCapsAt S nl (nI p) else mBoatAt S nb (nI p)
def boV (U S : M2) (k w : Nat) : Int32 := if w = 0 then U 242 k else if w = 1 then U 243 k else if w = 2 then U 244 k else sfr (S 202) (U 242 k).toInt.toNat (U 244 k).toInt.toNat 0
def leV (U S : M2) (nb l w : Nat) : Int32 := if w = 0 then U 250 l else if w = 1 then U 251 l else if w = 2 then S 203 l else if w = 3 then (if S 204 l = -1 then 1 else 0) else if w = 4 then mBoatOf U S nb (nI l) else if w = 5 then S 205 l else S 204 l
def baV (U S : M2) (b w : Nat) : Int32 := if w = 0 then U 253 b else if w = 1 then S 207 b else if w = 2 then S 208 b else if w = 3 then S 206 b else if w = 4 then S 209 b else if w = 5 then S 210 b else S 211 b
theorem c_place (hX : PRX P U kb np nl nb ns no) (hR : RE np nl nb T S) {i w : Nat} (hi : i < np) (hw : w ≤ 3) {KX : Nat → Prop} {K : Int32 → Prop} (h : K (plV U S nl nb i w)) : wp_X5_place q P KX ap T G C (nI i) (nI w) K := by
  have hn := hX.1
  have h60 := hn.np3
  have h6 := hn.nl3
  have h8 := hn.nb3
  have h5 := hX.2.1.2.2
  have hb : ¬ nI i < 0 ∧ nI i < P 21 0 := by rw [hn.np1]; exact ix_in (by omega) hi
  refine ⟨fun _ _ => ?_, fun z => absurd z (fun z => z.elim hb.1 (fun y => y hb.2))⟩
  match w, hw, h with
  | 0, _, h =>
    have h : K (U 245 i) := h
    refine ⟨fun _ => ?_, fun e => absurd e (by decide), fun e => absurd e (by decide), fun e => absurd e (by decide), fun z0 z1 z2 z3 => absurd rfl z0⟩
    obtain ⟨k, _, e1, e2⟩ := hX.2.2.2.1 i hi
    rw [atv_nI (by omega) (by decide), e1, ← e2]
    exact h
  | 1, _, h =>
    have h : K (S 202 i) := h
    refine ⟨fun e => absurd e (by decide), fun _ => ?_, fun e => absurd e (by decide), fun e => absurd e (by decide), fun z0 z1 z2 z3 => absurd rfl z1⟩
    rw [atv_nI (by omega) (by decide), hR.air hi]
    exact h
  | 2, _, h =>
    have h : K (mCapsAt S nl (nI i)) := h
    refine ⟨fun e => absurd e (by decide), fun e => absurd e (by decide), fun _ => ?_, fun e => absurd e (by decide), fun z0 z1 z2 z3 => absurd rfl z2⟩
    exact m_capsAt hn hR h
  | 3, _, h =>
    have h : K (mBoatAt S nb (nI i)) := h
    refine ⟨fun e => absurd e (by decide), fun e => absurd e (by decide), fun e => absurd e (by decide), fun _ => ?_, fun z0 z1 z2 z3 => absurd rfl z3⟩
    exact m_boatAt hn hR h
theorem c_bore (hX : PRX P U kb np nl nb ns no) (hR : RE np nl nb T S) {i w : Nat} (hi : i < kb) (hw : w ≤ 3) {KX : Nat → Prop} {K : Int32 → Prop} (h : K (boV U S i w)) : wp_X5_bore q P KX ap T G C (nI i) (nI w) K := by
  have hn := hX.1
  have h60 := hn.np3
  have h6 := hn.nl3
  have h8 := hn.nb3
  have h5 := hX.2.1.2.2
  have hb : ¬ nI i < 0 ∧ nI i < P 20 0 := by rw [hX.2.1.1]; exact ix_in (by omega) hi
  refine ⟨fun _ _ => ?_, fun z => absurd z (fun z => z.elim hb.1 (fun y => y hb.2))⟩
  match w, hw, h with
  | 0, _, h =>
    have h : K (U 242 i) := h
    refine ⟨fun _ => ?_, fun e => absurd e (by decide), fun e => absurd e (by decide), fun e => absurd e (by decide), fun z0 z1 z2 z3 => absurd rfl z0⟩
    obtain ⟨x, f, _, _, _, e1, e2, e3, e4, e5⟩ := hX.2.2.1 i hi
    rw [atv_nI (by omega) (by decide), e1, ← e2]
    exact h
  | 1, _, h =>
    have h : K (U 243 i) := h
    refine ⟨fun e => absurd e (by decide), fun _ => ?_, fun e => absurd e (by decide), fun e => absurd e (by decide), fun z0 z1 z2 z3 => absurd rfl z1⟩
    obtain ⟨x, f, _, _, _, e1, e2, e3, e4, e5⟩ := hX.2.2.1 i hi
    rw [atv_nI (by omega) (by decide), e5]
    exact h
  | 2, _, h =>
    have h : K (U 244 i) := h
    refine ⟨fun e => absurd e (by decide), fun e => absurd e (by decide), fun _ => ?_, fun e => absurd e (by decide), fun z0 z1 z2 z3 => absurd rfl z2⟩
    obtain ⟨x, f, _, _, _, e1, e2, e3, e4, e5⟩ := hX.2.2.1 i hi
    rw [atv_nI (by omega) (by decide), e3, ← e4]
    exact h
  | 3, _, h =>
    have h : K (sfr (S 202) (U 242 i).toInt.toNat (U 244 i).toInt.toNat 0) := h
    refine ⟨fun e => absurd e (by decide), fun e => absurd e (by decide), fun e => absurd e (by decide), fun _ => ?_, fun z0 z1 z2 z3 => absurd rfl z3⟩
    obtain ⟨x, f, _, _, hf, e1, e2, e3, e4, e5⟩ := hX.2.2.1 i hi
    intro v ev
    rw [atv_nI (by omega) (by decide), e3] at ev
    subst ev
    rw [atv_nI (by omega) (by decide), e1, nI_add]
    rw [e2, e4, tn_nI (by omega), tn_nI (by omega)] at h
    refine l_X4_airOf (n := f + x) (by omega) x f fK 0 (by omega) (by rw [fK_eq]; omega) ?_
    rw [sfr_cong (q := S 202) (fun j h1 h2 => hR.air (by omega))]
    exact h
theorem c_legger (hX : PRX P U kb np nl nb ns no) (hR : RE np nl nb T S) {i w : Nat} (hi : i < nl) (hw : w ≤ 6) {KX : Nat → Prop} {K : Int32 → Prop} (h : K (leV U S nb i w)) : wp_X5_legger q P KX ap T G C (nI i) (nI w) K := by
  have hn := hX.1
  have h60 := hn.np3
  have h6 := hn.nl3
  have h8 := hn.nb3
  have h5 := hX.2.1.2.2
  have hb : ¬ nI i < 0 ∧ nI i < P 23 0 := by rw [hn.nl1]; exact ix_in (by omega) hi
  refine ⟨fun _ _ => ?_, fun z => absurd z (fun z => z.elim hb.1 (fun y => y hb.2))⟩
  match w, hw, h with
  | 0, _, h =>
    have h : K (U 250 i) := h
    refine ⟨fun _ => ?_, fun e => absurd e (by decide), fun e => absurd e (by decide), fun e => absurd e (by decide), fun e => absurd e (by decide), fun e => absurd e (by decide), fun e => absurd e (by decide), fun z0 z1 z2 z3 z4 z5 z6 => absurd rfl z0⟩
    obtain ⟨x, y, _, _, _, _, e1, e2, e3, e4⟩ := hn.leg i hi
    rw [atv_nI (by omega) (by decide), e1, ← e2]
    exact h
  | 1, _, h =>
    have h : K (U 251 i) := h
    refine ⟨fun e => absurd e (by decide), fun _ => ?_, fun e => absurd e (by decide), fun e => absurd e (by decide), fun e => absurd e (by decide), fun e => absurd e (by decide), fun e => absurd e (by decide), fun z0 z1 z2 z3 z4 z5 z6 => absurd rfl z1⟩
    obtain ⟨x, y, _, _, _, _, e1, e2, e3, e4⟩ := hn.leg i hi
    rw [atv_nI (by omega) (by decide), e3, ← e4]
    exact h
  | 2, _, h =>
    have h : K (S 203 i) := h
    refine ⟨fun e => absurd e (by decide), fun e => absurd e (by decide), fun _ => ?_, fun e => absurd e (by decide), fun e => absurd e (by decide), fun e => absurd e (by decide), fun e => absurd e (by decide), fun z0 z1 z2 z3 z4 z5 z6 => absurd rfl z2⟩
    rw [atv_nI (by omega) (by decide), hR.breath hi]
    exact h
  | 3, _, h =>
    have h : K ((if S 204 i = -1 then 1 else 0)) := h
    refine ⟨fun e => absurd e (by decide), fun e => absurd e (by decide), fun e => absurd e (by decide), fun _ => ?_, fun e => absurd e (by decide), fun e => absurd e (by decide), fun e => absurd e (by decide), fun z0 z1 z2 z3 z4 z5 z6 => absurd rfl z3⟩
    rw [atv_nI (by omega) (by decide), hR.cap hi]
    refine ⟨fun c => ?_, fun c => ?_⟩
    · rw [if_neg c] at h
      exact h
    · rw [if_pos c] at h
      exact h
  | 4, _, h =>
    have h : K (mBoatOf U S nb (nI i)) := h
    refine ⟨fun e => absurd e (by decide), fun e => absurd e (by decide), fun e => absurd e (by decide), fun e => absurd e (by decide), fun _ => ?_, fun e => absurd e (by decide), fun e => absurd e (by decide), fun z0 z1 z2 z3 z4 z5 z6 => absurd rfl z4⟩
    exact m_boatOf hn hR h
  | 5, _, h =>
    have h : K (S 205 i) := h
    refine ⟨fun e => absurd e (by decide), fun e => absurd e (by decide), fun e => absurd e (by decide), fun e => absurd e (by decide), fun e => absurd e (by decide), fun _ => ?_, fun e => absurd e (by decide), fun z0 z1 z2 z3 z4 z5 z6 => absurd rfl z5⟩
    rw [atv_nI (by omega) (by decide), hR.walk hi]
    exact h
  | 6, _, h =>
    have h : K (S 204 i) := h
    refine ⟨fun e => absurd e (by decide), fun e => absurd e (by decide), fun e => absurd e (by decide), fun e => absurd e (by decide), fun e => absurd e (by decide), fun e => absurd e (by decide), fun _ => ?_, fun z0 z1 z2 z3 z4 z5 z6 => absurd rfl z6⟩
    rw [atv_nI (by omega) (by decide), hR.cap hi]
    exact h
theorem c_boat (hX : PRX P U kb np nl nb ns no) (hR : RE np nl nb T S) {i w : Nat} (hi : i < nb) (hw : w ≤ 6) {KX : Nat → Prop} {K : Int32 → Prop} (h : K (baV U S i w)) : wp_X5_boat q P KX ap T G C (nI i) (nI w) K := by
  have hn := hX.1
  have h60 := hn.np3
  have h6 := hn.nl3
  have h8 := hn.nb3
  have h5 := hX.2.1.2.2
  have hb : ¬ nI i < 0 ∧ nI i < P 24 0 := by rw [hn.nb1]; exact ix_in (by omega) hi
  refine ⟨fun _ _ => ?_, fun z => absurd z (fun z => z.elim hb.1 (fun y => y hb.2))⟩
  match w, hw, h with
  | 0, _, h =>
    have h : K (U 253 i) := h
    refine ⟨fun _ => ?_, fun e => absurd e (by decide), fun e => absurd e (by decide), fun e => absurd e (by decide), fun e => absurd e (by decide), fun e => absurd e (by decide), fun e => absurd e (by decide), fun z0 z1 z2 z3 z4 z5 z6 => absurd rfl z0⟩
    obtain ⟨_, _, _, _, _, _, _, x, _, _, e1, e2⟩ := hn.boat i hi
    rw [atv_nI (by omega) (by decide), e1, ← e2]
    exact h
  | 1, _, h =>
    have h : K (S 207 i) := h
    refine ⟨fun e => absurd e (by decide), fun _ => ?_, fun e => absurd e (by decide), fun e => absurd e (by decide), fun e => absurd e (by decide), fun e => absurd e (by decide), fun e => absurd e (by decide), fun z0 z1 z2 z3 z4 z5 z6 => absurd rfl z1⟩
    rw [atv_nI (by omega) (by decide), hR.side hi]
    exact h
  | 2, _, h =>
    have h : K (S 208 i) := h
    refine ⟨fun e => absurd e (by decide), fun e => absurd e (by decide), fun _ => ?_, fun e => absurd e (by decide), fun e => absurd e (by decide), fun e => absurd e (by decide), fun e => absurd e (by decide), fun z0 z1 z2 z3 z4 z5 z6 => absurd rfl z2⟩
    rw [atv_nI (by omega) (by decide), hR.due hi]
    exact h
  | 3, _, h =>
    have h : K (S 206 i) := h
    refine ⟨fun e => absurd e (by decide), fun e => absurd e (by decide), fun e => absurd e (by decide), fun _ => ?_, fun e => absurd e (by decide), fun e => absurd e (by decide), fun e => absurd e (by decide), fun z0 z1 z2 z3 z4 z5 z6 => absurd rfl z3⟩
    rw [atv_nI (by omega) (by decide), hR.how hi]
    exact h
  | 4, _, h =>
    have h : K (S 209 i) := h
    refine ⟨fun e => absurd e (by decide), fun e => absurd e (by decide), fun e => absurd e (by decide), fun e => absurd e (by decide), fun _ => ?_, fun e => absurd e (by decide), fun e => absurd e (by decide), fun z0 z1 z2 z3 z4 z5 z6 => absurd rfl z4⟩
    rw [atv_nI (by omega) (by decide), hR.spot hi]
    exact h
  | 5, _, h =>
    have h : K (S 210 i) := h
    refine ⟨fun e => absurd e (by decide), fun e => absurd e (by decide), fun e => absurd e (by decide), fun e => absurd e (by decide), fun e => absurd e (by decide), fun _ => ?_, fun e => absurd e (by decide), fun z0 z1 z2 z3 z4 z5 z6 => absurd rfl z5⟩
    rw [atv_nI (by omega) (by decide), hR.pushed hi]
    exact h
  | 6, _, h =>
    have h : K (S 211 i) := h
    refine ⟨fun e => absurd e (by decide), fun e => absurd e (by decide), fun e => absurd e (by decide), fun e => absurd e (by decide), fun e => absurd e (by decide), fun e => absurd e (by decide), fun _ => ?_, fun z0 z1 z2 z3 z4 z5 z6 => absurd rfl z6⟩
    rw [atv_nI (by omega) (by decide), hR.out hi]
    exact h
theorem c_crew (hX : PRX P U kb np nl nb ns no) {i w : Nat} (hi : i < nb) (hw : w ≤ 1) {KX : Nat → Prop} {K : Int32 → Prop} (h : K (U (310 + i) w)) : wp_X5_crew q P KX ap T G C (nI i) (nI w) K := by
  have hn := hX.1
  have h8 := hn.nb3
  have hb : ¬ nI i < 0 ∧ nI i < P 24 0 := by rw [hn.nb1]; exact ix_in (by omega) hi
  obtain ⟨_, _, _, e1, e2, e3, e4, _⟩ := hn.boat i hi
  have hb2 : ¬ nI w < 0 ∧ nI w < 2 := ix_in (n := 2) (by decide) (by omega)
  refine ⟨fun _ _ => ⟨fun _ _ => ?_, fun z => absurd z (fun z => z.elim hb2.1 (fun y => y hb2.2))⟩, fun z => absurd z (fun z => z.elim hb.1 (fun y => y hb.2))⟩
  rw [atv_nI (by omega) (by decide), atv_nI (by omega) (by decide), e1, e3, ← e2, ← e4]
  match w, hw, h with
  | 0, _, h => exact ⟨fun z => absurd rfl z, fun _ => h⟩
  | 1, _, h => exact ⟨fun _ => h, fun z => absurd z (by decide)⟩
theorem c_count (hX : PRX P U kb np nl nb ns no) (hR : RE np nl nb T S) {z : Int32} (hz : C 91 0 = z) {w : Nat} (hw : w ≤ 13) {KX : Nat → Prop} {K : Int32 → Prop} (h : K (coV U S np nl nb z w)) : wp_X5_count q P KX ap T G C (nI w) K := by
  have hn := hX.1
  match w, hw, h with
  | 0, _, h =>
    have h : K (S 200 0) := h
    refine ⟨fun _ => ?_, fun e => absurd e (by decide), fun e => absurd e (by decide), fun e => absurd e (by decide), fun e => absurd e (by decide), fun e => absurd e (by decide), fun e => absurd e (by decide), fun e => absurd e (by decide), fun e => absurd e (by decide), fun e => absurd e (by decide), fun e => absurd e (by decide), fun e => absurd e (by decide), fun e => absurd e (by decide), fun e => absurd e (by decide), fun z0 z1 z2 z3 z4 z5 z6 z7 z8 z9 z10 z11 z12 z13 => absurd rfl z0⟩
    rw [hR.min]
    exact h
  | 1, _, h =>
    have h : K (S 201 0) := h
    refine ⟨fun e => absurd e (by decide), fun _ => ?_, fun e => absurd e (by decide), fun e => absurd e (by decide), fun e => absurd e (by decide), fun e => absurd e (by decide), fun e => absurd e (by decide), fun e => absurd e (by decide), fun e => absurd e (by decide), fun e => absurd e (by decide), fun e => absurd e (by decide), fun e => absurd e (by decide), fun e => absurd e (by decide), fun e => absurd e (by decide), fun z0 z1 z2 z3 z4 z5 z6 z7 z8 z9 z10 z11 z12 z13 => absurd rfl z1⟩
    rw [hR.turn]
    exact h
  | 2, _, h =>
    have h : K (U 240 0) := h
    refine ⟨fun e => absurd e (by decide), fun e => absurd e (by decide), fun _ => ?_, fun e => absurd e (by decide), fun e => absurd e (by decide), fun e => absurd e (by decide), fun e => absurd e (by decide), fun e => absurd e (by decide), fun e => absurd e (by decide), fun e => absurd e (by decide), fun e => absurd e (by decide), fun e => absurd e (by decide), fun e => absurd e (by decide), fun e => absurd e (by decide), fun z0 z1 z2 z3 z4 z5 z6 z7 z8 z9 z10 z11 z12 z13 => absurd rfl z2⟩
    rw [hX.2.1.1, ← hX.2.1.2.1]
    exact h
  | 3, _, h =>
    have h : K (U 241 0) := h
    refine ⟨fun e => absurd e (by decide), fun e => absurd e (by decide), fun e => absurd e (by decide), fun _ => ?_, fun e => absurd e (by decide), fun e => absurd e (by decide), fun e => absurd e (by decide), fun e => absurd e (by decide), fun e => absurd e (by decide), fun e => absurd e (by decide), fun e => absurd e (by decide), fun e => absurd e (by decide), fun e => absurd e (by decide), fun e => absurd e (by decide), fun z0 z1 z2 z3 z4 z5 z6 z7 z8 z9 z10 z11 z12 z13 => absurd rfl z3⟩
    rw [hn.np1, ← hn.np2]
    exact h
  | 4, _, h =>
    have h : K (U 246 0) := h
    refine ⟨fun e => absurd e (by decide), fun e => absurd e (by decide), fun e => absurd e (by decide), fun e => absurd e (by decide), fun _ => ?_, fun e => absurd e (by decide), fun e => absurd e (by decide), fun e => absurd e (by decide), fun e => absurd e (by decide), fun e => absurd e (by decide), fun e => absurd e (by decide), fun e => absurd e (by decide), fun e => absurd e (by decide), fun e => absurd e (by decide), fun z0 z1 z2 z3 z4 z5 z6 z7 z8 z9 z10 z11 z12 z13 => absurd rfl z4⟩
    rw [hn.ns1, ← hn.ns2]
    exact h
  | 5, _, h =>
    have h : K (U 249 0) := h
    refine ⟨fun e => absurd e (by decide), fun e => absurd e (by decide), fun e => absurd e (by decide), fun e => absurd e (by decide), fun e => absurd e (by decide), fun _ => ?_, fun e => absurd e (by decide), fun e => absurd e (by decide), fun e => absurd e (by decide), fun e => absurd e (by decide), fun e => absurd e (by decide), fun e => absurd e (by decide), fun e => absurd e (by decide), fun e => absurd e (by decide), fun z0 z1 z2 z3 z4 z5 z6 z7 z8 z9 z10 z11 z12 z13 => absurd rfl z5⟩
    rw [hn.nl1, ← hn.nl2]
    exact h
  | 6, _, h =>
    have h : K (U 252 0) := h
    refine ⟨fun e => absurd e (by decide), fun e => absurd e (by decide), fun e => absurd e (by decide), fun e => absurd e (by decide), fun e => absurd e (by decide), fun e => absurd e (by decide), fun _ => ?_, fun e => absurd e (by decide), fun e => absurd e (by decide), fun e => absurd e (by decide), fun e => absurd e (by decide), fun e => absurd e (by decide), fun e => absurd e (by decide), fun e => absurd e (by decide), fun z0 z1 z2 z3 z4 z5 z6 z7 z8 z9 z10 z11 z12 z13 => absurd rfl z6⟩
    rw [hn.nb1, ← hn.nb2]
    exact h
  | 7, _, h =>
    have h : K (U 257 0) := h
    refine ⟨fun e => absurd e (by decide), fun e => absurd e (by decide), fun e => absurd e (by decide), fun e => absurd e (by decide), fun e => absurd e (by decide), fun e => absurd e (by decide), fun e => absurd e (by decide), fun _ => ?_, fun e => absurd e (by decide), fun e => absurd e (by decide), fun e => absurd e (by decide), fun e => absurd e (by decide), fun e => absurd e (by decide), fun e => absurd e (by decide), fun z0 z1 z2 z3 z4 z5 z6 z7 z8 z9 z10 z11 z12 z13 => absurd rfl z7⟩
    rw [hn.no1, ← hn.no2]
    exact h
  | 8, _, h =>
    have h : K (mThose S nb 0) := h
    refine ⟨fun e => absurd e (by decide), fun e => absurd e (by decide), fun e => absurd e (by decide), fun e => absurd e (by decide), fun e => absurd e (by decide), fun e => absurd e (by decide), fun e => absurd e (by decide), fun e => absurd e (by decide), fun _ => ?_, fun e => absurd e (by decide), fun e => absurd e (by decide), fun e => absurd e (by decide), fun e => absurd e (by decide), fun e => absurd e (by decide), fun z0 z1 z2 z3 z4 z5 z6 z7 z8 z9 z10 z11 z12 z13 => absurd rfl z8⟩
    refine ⟨fun _ => ⟨fun _ => ?_, fun e => absurd e (by decide)⟩, fun e => absurd e (by decide)⟩
    rw [show (nI 8 - 8 : Int32) = 0 from by decide]
    exact m_those hn hR h
  | 9, _, h =>
    have h : K (mThose S nb 1) := h
    refine ⟨fun e => absurd e (by decide), fun e => absurd e (by decide), fun e => absurd e (by decide), fun e => absurd e (by decide), fun e => absurd e (by decide), fun e => absurd e (by decide), fun e => absurd e (by decide), fun e => absurd e (by decide), fun e => absurd e (by decide), fun _ => ?_, fun e => absurd e (by decide), fun e => absurd e (by decide), fun e => absurd e (by decide), fun e => absurd e (by decide), fun z0 z1 z2 z3 z4 z5 z6 z7 z8 z9 z10 z11 z12 z13 => absurd rfl z9⟩
    refine ⟨fun _ => ⟨fun _ => ?_, fun e => absurd e (by decide)⟩, fun e => absurd e (by decide)⟩
    rw [show (nI 9 - 8 : Int32) = 1 from by decide]
    exact m_those hn hR h
  | 10, _, h =>
    have h : K (mThose S nb 2) := h
    refine ⟨fun e => absurd e (by decide), fun e => absurd e (by decide), fun e => absurd e (by decide), fun e => absurd e (by decide), fun e => absurd e (by decide), fun e => absurd e (by decide), fun e => absurd e (by decide), fun e => absurd e (by decide), fun e => absurd e (by decide), fun e => absurd e (by decide), fun _ => ?_, fun e => absurd e (by decide), fun e => absurd e (by decide), fun e => absurd e (by decide), fun z0 z1 z2 z3 z4 z5 z6 z7 z8 z9 z10 z11 z12 z13 => absurd rfl z10⟩
    refine ⟨fun _ => ⟨fun _ => ?_, fun e => absurd e (by decide)⟩, fun e => absurd e (by decide)⟩
    rw [show (nI 10 - 8 : Int32) = 2 from by decide]
    exact m_those hn hR h
  | 11, _, h =>
    have h : K (mAllAir S np) := h
    refine ⟨fun e => absurd e (by decide), fun e => absurd e (by decide), fun e => absurd e (by decide), fun e => absurd e (by decide), fun e => absurd e (by decide), fun e => absurd e (by decide), fun e => absurd e (by decide), fun e => absurd e (by decide), fun e => absurd e (by decide), fun e => absurd e (by decide), fun e => absurd e (by decide), fun _ => ?_, fun e => absurd e (by decide), fun e => absurd e (by decide), fun z0 z1 z2 z3 z4 z5 z6 z7 z8 z9 z10 z11 z12 z13 => absurd rfl z11⟩
    exact ⟨fun e => absurd rfl e, fun _ => m_allAir hn hR h⟩
  | 12, _, h =>
    have h : K (nI nl - mCapsAt S nl (-1)) := h
    refine ⟨fun e => absurd e (by decide), fun e => absurd e (by decide), fun e => absurd e (by decide), fun e => absurd e (by decide), fun e => absurd e (by decide), fun e => absurd e (by decide), fun e => absurd e (by decide), fun e => absurd e (by decide), fun e => absurd e (by decide), fun e => absurd e (by decide), fun e => absurd e (by decide), fun e => absurd e (by decide), fun _ => ?_, fun e => absurd e (by decide), fun z0 z1 z2 z3 z4 z5 z6 z7 z8 z9 z10 z11 z12 z13 => absurd rfl z12⟩
    exact ⟨fun _ => ⟨fun e => absurd rfl e, fun _ => m_capsLie hn hR h⟩, fun e => absurd e (by decide)⟩
  | 13, _, h =>
    have h : K (z) := h
    refine ⟨fun e => absurd e (by decide), fun e => absurd e (by decide), fun e => absurd e (by decide), fun e => absurd e (by decide), fun e => absurd e (by decide), fun e => absurd e (by decide), fun e => absurd e (by decide), fun e => absurd e (by decide), fun e => absurd e (by decide), fun e => absurd e (by decide), fun e => absurd e (by decide), fun e => absurd e (by decide), fun e => absurd e (by decide), fun _ => ?_, fun z0 z1 z2 z3 z4 z5 z6 z7 z8 z9 z10 z11 z12 z13 => absurd rfl z13⟩
    rw [hz]
    exact h
def wF (A : Nat → Int32) : Nat → Nat → Int32 → Int32
  | 0, _, b => b
  | d + 1, p, b => wF A d (p + 1) (if b = -1 then nI p else if A b.toInt.toNat ≤ A p then b else nI p)
theorem c_worst {q : Nat → Nat} {ap : Nat} {P F M C G : M2} {np nl nb : Nat} (hnp : np ≤ 60) (h21 : P 21 0 = nI np) (hR : RE np nl nb F M) {K : Int32 → Prop} (hK : K (wF (M 202) np 0 (-1))) : wp_X5_worst q P ap F G C K := by
  have loop : ∀ (d p f : Nat) (b : Int32), p + d = np → d < f → (b = -1 ∨ ∃ j, j < p ∧ b = nI j) → K (wF (M 202) d p b) → wl_X5_worst_4 q P ap F G C K f b (nI p) := by
    intro d
    induction d with
    | zero =>
      intro p f b hp hf hb h
      obtain ⟨f, rfl, _⟩ := fuel hf
      exact And.intro (fun _ => h) (fun z => absurd (by rw [h21]; exact nI_le (by omega) (by omega)) z)
    | succ d ih =>
      intro p f b hp hf hb h
      obtain ⟨f, rfl, _⟩ := fuel (show 0 < f by omega)
      have ep : F 4 p = M 202 p := hR 4 (by decide) (by decide) p (by show p < np; omega)
      unfold wF at h
      refine And.intro (fun z => absurd z (by rw [h21]; exact nI_ge (by omega) (by omega))) (fun _ => And.intro (fun c v ev => ?_) (fun c => ?_))
      · rw [nI_1] at ev
        subst ev
        rw [if_pos c] at h
        exact ih (p + 1) f _ (by omega) (by omega) (Or.inr ⟨p, by omega, rfl⟩) h
      · obtain ⟨j, hj, e⟩ := hb.resolve_left c
        subst e
        have ej : F 4 j = M 202 j := hR 4 (by decide) (by decide) j (by show j < np; omega)
        rw [if_neg c, tn_nI (by omega)] at h
        rw [atv_nI (by omega) (by decide), atv_nI (by omega) (by decide), ep, ej]
        refine And.intro (fun g v ev => ?_) (fun g v ev => ?_)
        · rw [nI_1] at ev
          subst ev
          rw [if_pos g] at h
          exact ih (p + 1) f _ (by omega) (by omega) (Or.inr ⟨j, by omega, rfl⟩) h
        · rw [nI_1] at ev
          subst ev
          rw [if_neg g] at h
          exact ih (p + 1) f _ (by omega) (by omega) (Or.inr ⟨p, by omega, rfl⟩) h
  exact loop np 0 fK (-1) (by omega) (by rw [fK_eq]; omega) (Or.inl rfl) hK
theorem sfr_sub {c g : Nat → Int32} : ∀ (d j : Nat), sfr (fun i => c i - g i) d j 0 = sfr c d j 0 - sfr g d j 0
  | 0, j => by simp [sfr]
  | d + 1, j => by
    have e1 : sfr (fun i => c i - g i) (d + 1) j 0 = sfr (fun i => c i - g i) d (j + 1) (0 + (c j - g j)) := rfl
    have e2 : sfr c (d + 1) j 0 = sfr c d (j + 1) (0 + c j) := rfl
    have e3 : sfr g (d + 1) j 0 = sfr g d (j + 1) (0 + g j) := rfl
    rw [e1, e2, e3, sfr_add d (j + 1) (0 + (c j - g j)), sfr_add d (j + 1) (0 + c j), sfr_add d (j + 1) (0 + g j), sfr_sub d (j + 1)]
    simp only [Int32.zero_add, Int32.sub_eq_add_neg, Int32.neg_add]
    simp only [Int32.add_assoc]
    rw [← Int32.add_assoc (-g j) _ _, Int32.add_comm (-g j) _, Int32.add_assoc]
theorem c_air {q : Nat → Nat} {ap : Nat} {P F C GG : M2} {np : Nat} (hnp : np ≤ 60) (h21 : P 21 0 = nI np) {K : Int32 → Nat → M2 → M2 → M2 → Prop} (hK : ∀ F', (∀ k, k ≠ 4 → F' k = F k) → (∀ i, i < np → F' 4 i = 100) → K (sfr (fun i => 100 - F 4 i) np 0 0) ap F' GG C) : wp_X5_air q P ap F GG C K := by
  have loop : ∀ (d p f : Nat) (a : Int32) (G : M2), p + d = np → d < f → (∀ k, k ≠ 4 → G k = F k) → (∀ i, G 4 i = if i < p then 100 else F 4 i) → sfr (fun i => 100 - F 4 i) d p a = sfr (fun i => 100 - F 4 i) np 0 0 → wl_X5_air_4 q P K f ap G GG C a (nI p) := by
    intro d
    induction d with
    | zero =>
      intro p f a G hp hf h1 h2 h
      obtain ⟨f, rfl, _⟩ := fuel hf
      have h : a = _ := h
      subst h
      exact And.intro (fun _ => hK G h1 (fun i hi => by rw [h2, if_pos (by omega)])) (fun z => absurd (by rw [h21]; exact nI_le (by omega) (by omega)) z)
    | succ d ih =>
      intro p f a G hp hf h1 h2 h
      obtain ⟨f, rfl, _⟩ := fuel (show 0 < f by omega)
      refine And.intro (fun z => absurd z (by rw [h21]; exact nI_ge (by omega) (by omega))) (fun _ v1 e1 F1 e2 v2 e3 => ?_)
      rw [atv_nI (by omega) (by decide), h2, if_neg (by omega)] at e1
      rw [putv_nI (by omega) (by decide)] at e2
      rw [nI_1] at e3
      subst e1 e3
      refine ih (p + 1) f _ F1 (by omega) (by omega) (fun k hk => by rw [e2, up2_n _ _ hk]; exact h1 k hk) (fun i => ?_) h
      rw [e2, up2_s]
      by_cases e : i = p
      · subst e
        rw [upd_s, if_pos (by omega)]
      · rw [upd_n _ _ e, h2]
        by_cases g : i < p
        · rw [if_pos g, if_pos (by omega)]
        · rw [if_neg g, if_neg (by omega)]
  exact loop np 0 fK 0 F (by omega) (by rw [fK_eq]; omega) (fun _ _ => rfl) (fun i => by rw [if_neg (Nat.not_lt_zero _)]) rfl
theorem k212L {Q : M2} {nb b : Nat} : ∀ (d : Nat) (M : M2), mPushL Q nb b d M 212 = M 212
  | 0, _ => rfl
  | d + 1, M => by
    unfold mPushL
    split
    · rfl
    · split
      · unfold mLeave
        simp only [st2_n _ _ _ (by decide : (212 : Nat) ≠ 205), st2_n _ _ _ (by decide : (212 : Nat) ≠ 211), st2_n _ _ _ (by decide : (212 : Nat) ≠ 210), st2_n _ _ _ (by decide : (212 : Nat) ≠ 209), st2_n _ _ _ (by decide : (212 : Nat) ≠ 206)]
      · split
        · rw [k212L d]
          unfold mCome mCap
          simp only [st2_n _ _ _ (by decide : (212 : Nat) ≠ 204), st2_n _ _ _ (by decide : (212 : Nat) ≠ 210), st2_n _ _ _ (by decide : (212 : Nat) ≠ 209)]
        · exact st2_n _ _ _ (by decide)
theorem k212T {T : Nat → List (Int32 × Int32)} {Q : M2} {np nb : Nat} : ∀ (d j : Nat) (M : M2), mTurnL T Q np nb d j M 212 = M 212
  | 0, _, _ => rfl
  | d + 1, j, M => by
    unfold mTurnL
    split
    · exact up2_n _ _ (by decide)
    · exact k212T d (j + 1) M
theorem k212f {g : Nat → M2 → M2} (h : ∀ i M, g i M 212 = M 212) : ∀ (d j : Nat) (M : M2), lfo g d j M 212 = M 212
  | 0, _, _ => rfl
  | d + 1, j, M => by
    unfold lfo
    rw [k212f h d (j + 1), h]
theorem k212M {T : Nat → List (Int32 × Int32)} {Q M : M2} {np nl nb ns no : Nat} : mMin T Q M np nl nb ns no 212 = M 212 := by
  unfold mMin
  have w1 : ∀ (d j : Nat) (M : M2), lfo gWalk d j M 212 = M 212 := k212f (g := gWalk) (fun i M => st2_n _ _ _ (by decide))
  have w2 : ∀ (d j : Nat) (M : M2), lfo (mDraw Q np) d j M 212 = M 212 := k212f (g := mDraw Q np) (fun i M => up2_n _ _ (by decide))
  have w3 : ∀ (d j : Nat) (M : M2), lfo (gPush Q nb) d j M 212 = M 212 := k212f (g := gPush Q nb) (fun i M => by
    unfold gPush
    split
    · unfold mPush
      rw [k212L]
      exact st2_n _ _ _ (by decide)
    · rfl)
  have w4 : ∀ (d j : Nat) (M : M2), lfo (gEnter T Q np nb no) d j M 212 = M 212 := k212f (g := gEnter T Q np nb no) (fun i M => by
    unfold gEnter
    split
    · unfold mEnter mCome mCap
      simp only [st2_n _ _ _ (by decide : (212 : Nat) ≠ 204), st2_n _ _ _ (by decide : (212 : Nat) ≠ 210), st2_n _ _ _ (by decide : (212 : Nat) ≠ 209), st2_n _ _ _ (by decide : (212 : Nat) ≠ 206)]
    · rfl)
  rw [up2_n _ _ (by decide), w1, w2]
  unfold mBreathe mSpoil
  rw [up2_n _ _ (by decide), up2_n _ _ (by decide), w3, w4]
  exact k212T no 0 M
theorem k212R {T : Nat → List (Int32 × Int32)} {Q : M2} {np nl nb ns no : Nat} : ∀ (d : Nat) (M : M2), mRun T Q np nl nb ns no d M 212 = M 212
  | 0, _ => rfl
  | d + 1, M => by
    unfold mRun
    rw [k212R d, k212M]
def ahM (S : M2) : M2 := up2 (up2 (up2 S 200 (fun _ => S 200 0)) 201 (fun _ => S 201 0)) 212 (fun _ => -1)
theorem ahM_n {S : M2} {k : Nat} (h1 : k ≠ 200) (h2 : k ≠ 201) (h3 : k ≠ 212) : ahM S k = S k := by unfold ahM; rw [up2_n _ _ h3, up2_n _ _ h2, up2_n _ _ h1]
theorem ahM_0 {S : M2} : ahM S 200 = fun _ => S 200 0 := by unfold ahM; rw [up2_n _ _ (by decide), up2_n _ _ (by decide), up2_s]
theorem ahM_1 {S : M2} : ahM S 201 = fun _ => S 201 0 := by unfold ahM; rw [up2_n _ _ (by decide), up2_s]
theorem ahM_2 {S : M2} : ahM S 212 = fun _ => -1 := by unfold ahM; rw [up2_s]
theorem ahM_inv {Q S : M2} {np nl nb b : Nat} (h : INV Q S np nl nb b) : INV Q (ahM S) np nl nb b := ((h.off (by decide) (by decide) (by decide) (by decide) (by decide) (by decide)).off (by decide) (by decide) (by decide) (by decide) (by decide) (by decide)).off (by decide) (by decide) (by decide) (by decide) (by decide) (by decide)
theorem c_copy {q : Nat → Nat} {T G S : M2} {ap np nl nb : Nat} (hR : RE np nl nb T S) (h212 : S 212 0 = -1) {K : Nat → M2 → Prop} (hK : ∀ G', RE np nl nb G' (ahM S) → K (q 20) G') : wp_X4_copyFrom q T ap G K := by
  intro O1 e1 O2 e2 O3 e3 O4 e4 O5 e5 O6 e6 O7 e7 O8 e8 O9 e9 O10 e10 O11 e11 O12 e12 O13 e13
  refine hK O13 (fun k k1 k2 i hi => ?_)
  have f : ∀ j, 4 ≤ j → j ≤ 13 → O13 j = T j := by
    intro j h4 h5
    have hc : j = 4 ∨ j = 5 ∨ j = 6 ∨ j = 7 ∨ j = 8 ∨ j = 9 ∨ j = 10 ∨ j = 11 ∨ j = 12 ∨ j = 13 := by omega
    rw [e13, e12, e11, e10, e9, e8, e7, e6, e5, e4]
    rcases hc with rfl | rfl | rfl | rfl | rfl | rfl | rfl | rfl | rfl | rfl <;> simp [up2]
  by_cases h4 : 4 ≤ k
  · have hk : km k ≠ 200 ∧ km k ≠ 201 ∧ km k ≠ 212 := by
      have key : ∀ a : Fin 14, 4 ≤ a.val → km a.val ≠ 200 ∧ km a.val ≠ 201 ∧ km a.val ≠ 212 := by decide
      exact key ⟨k, by omega⟩ h4
    rw [f k h4 k2, ahM_n hk.1 hk.2.1 hk.2.2]
    exact hR k k1 k2 i hi
  · have hc : k = 1 ∨ k = 2 ∨ k = 3 := by omega
    rcases hc with rfl | rfl | rfl
    · have e : O13 1 = fun _ => T 1 0 := by
        rw [e13, e12, e11, e10, e9, e8, e7, e6, e5, e4, e3, e2, e1]
        simp [up2]
      rw [e]
      show T 1 0 = ahM S 200 i
      rw [ahM_0]
      exact hR.min
    · have e : O13 2 = fun _ => T 2 0 := by
        rw [e13, e12, e11, e10, e9, e8, e7, e6, e5, e4, e3, e2]
        simp [up2]
      rw [e]
      show T 2 0 = ahM S 201 i
      rw [ahM_1]
      exact hR.turn
    · have e : O13 3 = fun _ => T 3 0 := by
        rw [e13, e12, e11, e10, e9, e8, e7, e6, e5, e4, e3]
        simp [up2]
      rw [e]
      show T 3 0 = ahM S 212 i
      rw [ahM_2, hR.weak, h212]
theorem m_tally {P U F M : M2} {kb np nl nb ns no : Nat} (hX : PRX P U kb np nl nb ns no) (hR : RE np nl nb F M) {z : Int32} {w : Nat} (h8 : 8 ≤ w) (hw : w ≤ 12) {K : Int32 → Prop} (h : K (coV U M np nl nb z w)) : wp_X4_tally P F (nI w) K := by
  have hn := hX.1
  have hc : w = 8 ∨ w = 9 ∨ w = 10 ∨ w = 11 ∨ w = 12 := by omega
  rcases hc with rfl | rfl | rfl | rfl | rfl
  · refine ⟨fun _ => ⟨fun _ => ?_, fun e => absurd e (by decide)⟩, fun e => absurd e (by decide)⟩
    rw [show (nI 8 - 8 : Int32) = 0 from by decide]
    exact m_those hn hR h
  · refine ⟨fun _ => ⟨fun _ => ?_, fun e => absurd e (by decide)⟩, fun e => absurd e (by decide)⟩
    rw [show (nI 9 - 8 : Int32) = 1 from by decide]
    exact m_those hn hR h
  · refine ⟨fun _ => ⟨fun _ => ?_, fun e => absurd e (by decide)⟩, fun e => absurd e (by decide)⟩
    rw [show (nI 10 - 8 : Int32) = 2 from by decide]
    exact m_those hn hR h
  · exact ⟨fun e => absurd rfl e, fun _ => m_allAir hn hR h⟩
  · exact ⟨fun _ => ⟨fun e => absurd rfl e, fun _ => m_capsLie hn hR h⟩, fun e => absurd e (by decide)⟩
theorem m_out {P U F M : M2} {kb np nl nb ns no : Nat} (hX : PRX P U kb np nl nb ns no) (hR : RE np nl nb F M) {K : Int32 → Prop} (h : K (mThose M nb 2)) : wp_X4_tally P F 10 K := m_tally (z := 0) (w := 10) hX hR (by decide) (by decide) h
theorem cfr_n {p : Nat → Prop} [DecidablePred p] : ∀ (d j a : Nat), ∃ c, c ≤ a + d ∧ cfr p d j (nI a) = nI c
  | 0, _, a => ⟨a, by omega, rfl⟩
  | d + 1, j, a => by
    unfold cfr
    by_cases h : p j
    · rw [if_pos h, nI_1]
      obtain ⟨c, h1, h2⟩ := cfr_n (p := p) d (j + 1) (a + 1)
      exact ⟨c, by omega, h2⟩
    · rw [if_neg h]
      obtain ⟨c, h1, h2⟩ := cfr_n (p := p) d (j + 1) a
      exact ⟨c, by omega, h2⟩
theorem those_n {M : M2} {nb : Nat} {k : Int32} : ∃ c, c ≤ nb ∧ mThose M nb k = nI c := by
  obtain ⟨c, h1, h2⟩ := cfr_n (p := pIs (M 206) k) nb 0 0
  exact ⟨c, by omega, h2⟩
theorem RE.ext {np nl nb : Nat} {F M M' : M2} (h : RE np nl nb F M) (e : ∀ k, 200 ≤ k → k ≤ 212 → ∀ i, M k i = M' k i) : RE np nl nb F M' := by
  intro k k1 k2 i hi
  rw [h k k1 k2 i hi]
  have key : ∀ a : Fin 14, 1 ≤ a.val → 200 ≤ km a.val ∧ km a.val ≤ 212 := by decide
  obtain ⟨a, b⟩ := key ⟨k, by omega⟩ k1
  exact e _ a b i
theorem mi_in {n : Nat} (h1 : 1 ≤ n) (h2 : n ≤ 120) : ¬ nI n < 1 ∧ nI n ≤ 120 := by
  rw [show (1 : Int32) = nI 1 from rfl, show (120 : Int32) = nI 120 from rfl, lt_nI (by omega) (by omega), le_nI (by omega) (by omega)]
  omega
theorem again_rel {Q : M2} {kb np nl nb ns no i : Nat} {x : Int32} (hX : PRX P Q kb np nl nb ns no) (hR : RE np nl nb T S) (hI : INV Q S np nl nb nb) (hi : i < nb) (h2 : S 206 i = 2) (s : Int32) (hs : s = 0 ∨ s = 1) :
    RE np nl nb (st2 (st2 (st2 (st2 (st2 (st2 T 8 i s) 9 i x) 10 i 0) 11 i (-1)) 12 i 0) 13 i (-1)) (st2 (st2 (st2 (st2 S 206 i 0) 207 i s) 208 i x) 211 i (-1)) ∧ INV Q (st2 (st2 (st2 (st2 S 206 i 0) 207 i s) 208 i x) 211 i (-1)) np nl nb nb := by
  have hoff : isOff S i := (hI.2.2.1 i hi).resolve_left (fun z => absurd (z.1.symm.trans h2) (by decide))
  have g : ∀ k, k ≠ 206 → k ≠ 207 → k ≠ 208 → k ≠ 211 → (st2 (st2 (st2 (st2 S 206 i 0) 207 i s) 208 i x) 211 i (-1)) k = S k := fun k a b c d => by rw [st2_n _ _ _ d, st2_n _ _ _ c, st2_n _ _ _ b, st2_n _ _ _ a]
  have g206 : ∀ j, (st2 (st2 (st2 (st2 S 206 i 0) 207 i s) 208 i x) 211 i (-1)) 206 j = if j = i then 0 else S 206 j := fun j => by rw [st2_n _ _ _ (by decide), st2_n _ _ _ (by decide), st2_n _ _ _ (by decide), st2_k]
  have g207 : ∀ j, (st2 (st2 (st2 (st2 S 206 i 0) 207 i s) 208 i x) 211 i (-1)) 207 j = if j = i then s else S 207 j := fun j => by rw [st2_n _ _ _ (by decide), st2_n _ _ _ (by decide), st2_k, st2_n _ _ _ (by decide)]
  refine ⟨?_, ?_, ?_, ?_, ?_, ?_, ?_⟩
  · have r := ((((((hR.put (k := 8) (by decide) (by decide) i (rfl : s = s)).put (k := 9) (by decide) (by decide) i (rfl : x = x)).put (k := 10) (by decide) (by decide) i (rfl : (0 : Int32) = 0)).put (k := 11) (by decide) (by decide) i (rfl : (-1 : Int32) = -1)).put (k := 12) (by decide) (by decide) i (rfl : (0 : Int32) = 0)).put (k := 13) (by decide) (by decide) i (rfl : (-1 : Int32) = -1))
    refine r.ext (fun k _ _ j => ?_)
    show (st2 (st2 (st2 (st2 (st2 (st2 S 207 i s) 208 i x) 206 i 0) 209 i (-1)) 210 i 0) 211 i (-1)) k j = _
    obtain ⟨_, e1, e2⟩ := hoff
    by_cases a : k = 211
    · subst a
      rw [st2_k, st2_k, st2_n _ _ _ (by decide : (211 : Nat) ≠ 210), st2_n _ _ _ (by decide : (211 : Nat) ≠ 209), st2_n _ _ _ (by decide : (211 : Nat) ≠ 206), st2_n _ _ _ (by decide : (211 : Nat) ≠ 208), st2_n _ _ _ (by decide : (211 : Nat) ≠ 207), st2_n _ _ _ (by decide : (211 : Nat) ≠ 208), st2_n _ _ _ (by decide : (211 : Nat) ≠ 207), st2_n _ _ _ (by decide : (211 : Nat) ≠ 206)]
    · rw [st2_n _ _ _ a, st2_n _ _ _ a]
      by_cases b : k = 210
      · subst b
        rw [st2_k, st2_n _ _ _ (by decide : (210 : Nat) ≠ 209), st2_n _ _ _ (by decide : (210 : Nat) ≠ 206), st2_n _ _ _ (by decide : (210 : Nat) ≠ 208), st2_n _ _ _ (by decide : (210 : Nat) ≠ 207), st2_n _ _ _ (by decide : (210 : Nat) ≠ 208), st2_n _ _ _ (by decide : (210 : Nat) ≠ 207), st2_n _ _ _ (by decide : (210 : Nat) ≠ 206)]
        by_cases c : j = i
        · rw [if_pos c, c, e2]
        · rw [if_neg c]
      · rw [st2_n _ _ _ b]
        by_cases c : k = 209
        · subst c
          rw [st2_k, st2_n _ _ _ (by decide : (209 : Nat) ≠ 206), st2_n _ _ _ (by decide : (209 : Nat) ≠ 208), st2_n _ _ _ (by decide : (209 : Nat) ≠ 207), st2_n _ _ _ (by decide : (209 : Nat) ≠ 208), st2_n _ _ _ (by decide : (209 : Nat) ≠ 207), st2_n _ _ _ (by decide : (209 : Nat) ≠ 206)]
          by_cases c : j = i
          · rw [if_pos c, c, e1]
          · rw [if_neg c]
        · rw [st2_n _ _ _ c]
          by_cases d : k = 208
          · subst d
            rw [st2_n _ _ _ (by decide : (208 : Nat) ≠ 206), st2_k, st2_k, st2_n _ _ _ (by decide : (208 : Nat) ≠ 207), st2_n _ _ _ (by decide : (208 : Nat) ≠ 207), st2_n _ _ _ (by decide : (208 : Nat) ≠ 206)]
          · by_cases f : k = 207
            · subst f
              rw [st2_n _ _ _ (by decide : (207 : Nat) ≠ 206), st2_n _ _ _ (by decide : (207 : Nat) ≠ 208), st2_n _ _ _ (by decide : (207 : Nat) ≠ 208), st2_k, st2_k, st2_n _ _ _ (by decide : (207 : Nat) ≠ 206)]
            · by_cases f2 : k = 206
              · subst f2
                rw [st2_k, st2_n _ _ _ (by decide : (206 : Nat) ≠ 208), st2_n _ _ _ (by decide : (206 : Nat) ≠ 207), st2_n _ _ _ (by decide : (206 : Nat) ≠ 208), st2_n _ _ _ (by decide : (206 : Nat) ≠ 207), st2_k]
              · rw [st2_n _ _ _ f2, st2_n _ _ _ d, st2_n _ _ _ f, st2_n _ _ _ d, st2_n _ _ _ f, st2_n _ _ _ f2]
  · unfold IA
    rw [g 202 (by decide) (by decide) (by decide) (by decide)]
    exact hI.1
  · unfold IW
    rw [g 205 (by decide) (by decide) (by decide) (by decide)]
    exact hI.2.1
  · intro b hb
    have := hI.2.2.1 b hb
    unfold isIn isOff at *
    rw [g206, g 209 (by decide) (by decide) (by decide) (by decide), g 210 (by decide) (by decide) (by decide) (by decide)]
    by_cases c : b = i
    · subst c
      rw [if_pos rfl]
      exact Or.inr ⟨by decide, hoff.2⟩
    · rw [if_neg c]
      exact this
  · intro b c hb hc hbc h1 h3
    rw [g206] at h1 h3
    rw [g 209 (by decide) (by decide) (by decide) (by decide)]
    by_cases c1 : b = i
    · rw [if_pos c1] at h1; exact absurd h1 (by decide)
    · by_cases c2 : c = i
      · rw [if_pos c2] at h3; exact absurd h3 (by decide)
      · rw [if_neg c1] at h1
        rw [if_neg c2] at h3
        exact hI.2.2.2.1 b c hb hc hbc h1 h3
  · intro b c hb hc hbc h1 h3
    rw [g206] at h1 h3
    by_cases c1 : b = i
    · rw [if_pos c1] at h1; exact absurd h1 (by decide)
    · by_cases c2 : c = i
      · rw [if_pos c2] at h3; exact absurd h3 (by decide)
      · rw [if_neg c1] at h1
        rw [if_neg c2] at h3
        exact hI.2.2.2.2.1 b c hb hc hbc h1 h3
  · intro b hb
    rw [g207]
    by_cases c1 : b = i
    · rw [if_pos c1]; exact hs
    · rw [if_neg c1]; exact hI.2.2.2.2.2 b hb
def untV (Tt : Nat → List (Int32 × Int32)) (U : M2) (np nl nb ns no b : Nat) : Nat → Nat → M2 → Int32
  | 0, _, _ => -1
  | d + 1, i, M => if M 206 b = 2 then nI i else untV Tt U np nl nb ns no b d (i + 1) (mMin Tt U M np nl nb ns no)
theorem c_until {Tt : Nat → List (Int32 × Int32)} {kb np nl nb ns no b : Nat} (hX : PRX P U kb np nl nb ns no) (hPT : PT P U Tt nl nb no) (hb : b < nb) {KX : Nat → Prop} {K : Int32 → Nat → M2 → M2 → M2 → Prop} : ∀ (d i f : Nat) (G M : M2), i + d = 301 → d < f → RE np nl nb G M → INV U M np nl nb nb → (∀ G', K (untV Tt U np nl nb ns no b d i M) (q 20) T G' C) → wl_X5_until_27 q P KX K f T G C (nI b) (nI i) := by
  have hn := hX.1
  have h8 := hn.nb3
  have e300 : (300 : Int32) = nI 300 := rfl
  intro d
  induction d with
  | zero =>
    intro i f G M hi hf hR hI hK
    obtain ⟨f, rfl, _⟩ := fuel hf
    exact ⟨fun _ => hK G, fun z => absurd (by rw [e300, lt_nI (by omega) (by omega)]; omega) z⟩
  | succ d ih =>
    intro i f G M hi hf hR hI hK
    obtain ⟨f, rfl, _⟩ := fuel (show 0 < f by omega)
    refine ⟨fun z => absurd z (by rw [e300, lt_nI (by omega) (by omega)]; omega), fun _ => ?_⟩
    rw [atv_nI (by omega) (by decide), hR.how hb]
    unfold untV at hK
    refine ⟨fun c => m_run (n := 1) (by decide) hn hPT hR hI (fun G1 hR1 v ev => ?_), fun c => ?_⟩
    · rw [nI_1] at ev
      subst ev
      rw [if_neg c] at hK
      exact ih (i + 1) f G1 _ (by omega) (by omega) hR1 (INV.run hn 1 M hI) hK
    · rw [if_pos c] at hK
      exact hK G
def misV (W : Nat → Int32) : Nat → Nat → Int32 → Int32 → Int32
  | 0, _, b, _ => b
  | d + 1, l, b, f => if W l < f then misV W d (l + 1) (nI l) (W l) else misV W d (l + 1) b f
theorem c_missed {Tt : Nat → List (Int32 × Int32)} {kb np nl nb ns no n : Nat} (hX : PRX P U kb np nl nb ns no) (hPT : PT P U Tt nl nb no) (hR : RE np nl nb T S) (hI : INV U S np nl nb nb) (h212 : S 212 0 = -1) (hn2 : n ≤ 120) {W : Nat → Int32} (hW : ∀ l, W l = mThose (mRun Tt U np nl nb ns no n (up2 (ahM S) 212 (fun _ => nI l))) nb 2) {KX : Nat → Prop} {K : Int32 → Nat → M2 → M2 → M2 → Prop} : ∀ (d l f ap : Nat) (G : M2) (v x xc : Int32), l + d = nl → d < f → ((v = -1 ∧ x = 9) ∨ (¬ v = -1 ∧ xc = x)) → (∀ ap' G', K (misV W d l v x) ap' T G' C) → wl_X5_missed_11 q P KX K f ap T G C (nI n) v xc (nI l) := by
  have hn := hX.1
  have h8 := hn.nb3
  have h6 := hn.nl3
  intro d
  induction d with
  | zero =>
    intro l f ap G v x xc hl hf hv hK
    obtain ⟨f, rfl, _⟩ := fuel hf
    exact ⟨fun _ => hK ap G, fun z => absurd (by rw [hn.nl1, le_nI (by omega) (by omega)]; omega) z⟩
  | succ d ih =>
    intro l f ap G v x xc hl hf hv hK
    obtain ⟨f, rfl, _⟩ := fuel (show 0 < f by omega)
    refine ⟨fun z => absurd z (by rw [hn.nl1, le_nI (by omega) (by omega)]; omega), fun _ => c_copy hR h212 (fun G1 hG1 => ⟨rfl, fun G2 e2 => m_run (by omega) hn hPT (M := up2 (ahM S) 212 (fun _ => nI l)) (by rw [e2]; exact hG1.num (k := 3) (by decide) (by decide) rfl) ((ahM_inv hI).off (by decide) (by decide) (by decide) (by decide) (by decide) (by decide)) (fun G3 hG3 => m_out hX hG3 ?_)⟩)⟩
    rw [← hW l]
    unfold misV at hK
    obtain ⟨c, hc, ec⟩ := those_n (M := mRun Tt U np nl nb ns no n (up2 (ahM S) 212 (fun _ => nI l))) (nb := nb) (k := 2)
    rw [← hW l] at ec
    have hl1 : ¬ nI l = -1 := nI_nm1 (by omega)
    refine ⟨fun c1 v4 e4 => ?_, fun c1 => ⟨fun c2 v4 e4 => ?_, fun c2 v4 e4 => ?_⟩⟩
    · rw [nI_1] at e4
      subst e4
      have hx := (hv.resolve_right (fun z => z.1 c1)).2
      rw [if_pos (by rw [hx, ec, show (9 : Int32) = nI 9 from rfl, lt_nI (by omega) (by omega)]; omega)] at hK
      exact ih (l + 1) f _ G3 (nI l) (W l) (W l) (by omega) (by omega) (Or.inr ⟨hl1, rfl⟩) hK
    · rw [nI_1] at e4
      subst e4
      have hx := (hv.resolve_left (fun z => c1 z.1)).2
      rw [if_neg (by rw [← hx]; exact Int32.not_lt.mpr c2)] at hK
      exact ih (l + 1) f _ G3 v x xc (by omega) (by omega) hv hK
    · rw [nI_1] at e4
      subst e4
      have hx := (hv.resolve_left (fun z => c1 z.1)).2
      rw [if_pos (by rw [← hx]; exact Int32.not_le.mp c2)] at hK
      exact ih (l + 1) f _ G3 (nI l) (W l) (W l) (by omega) (by omega) (Or.inr ⟨hl1, rfl⟩) hK
def g31 (f : Nat → Int32) (j : Nat) (v : Int64) : Int64 := v * 31 + (f j).toInt64
def rowP (U S : M2) (nl nb i : Nat) (v : Int64) : Int64 := lfo (g31 (plV U S nl nb i)) 4 0 v
def rowB (U S : M2) (i : Nat) (v : Int64) : Int64 := lfo (g31 (boV U S i)) 4 0 v
def rowL (U S : M2) (nb i : Nat) (v : Int64) : Int64 := lfo (g31 (leV U S nb i)) 7 0 v
def rowT (U S : M2) (i : Nat) (v : Int64) : Int64 := ((lfo (g31 (baV U S i)) 7 0 v) * 31 + (U (310 + i) 0).toInt64) * 31 + (U (310 + i) 1).toInt64
theorem gt_nI {a b : Nat} (ha : a < 2147483648) (hb : b < 2147483648) : nI a < nI b ↔ a < b := lt_nI ha hb
theorem cd_boat_in (hX : PRX P U kb np nl nb ns no) (hR : RE np nl nb T S) {i : Nat} (hi : i < nb) {Cc : Int64 → Int32 → Prop} {K : Int64 → Prop} : ∀ (d j f : Nat) (v : Int64), j + d = 7 → d < f → Cc (((lfo (g31 (baV U S i)) d j v) * 31 + (U (310 + i) 0).toInt64) * 31 + (U (310 + i) 1).toInt64) (nI (i + 1)) → wl_X5_digest_207 q P ap T G C Cc K f v (nI i) (nI j) := by
  have hn := hX.1
  have h60 := hn.np3
  have h6 := hn.nl3
  have h8 := hn.nb3
  have h5 := hX.2.1.2.2
  intro d
  induction d with
  | zero =>
    intro j f v hj hf h
    obtain ⟨f, rfl, _⟩ := fuel hf
    refine ⟨fun _ => c_crew hX hi (w := 0) (by decide) (fun v1 e1 => c_crew hX hi (w := 1) (by decide) (fun v2 e2 v3 e3 => ?_)), fun z => absurd (by rw [(show (6 : Int32) = nI 6 from rfl), lt_nI (by omega) (by omega)]; omega) z⟩
    rw [nI_1] at e3
    subst e1 e2 e3
    exact h
  | succ d ih =>
    intro j f v hj hf h
    obtain ⟨f, rfl, _⟩ := fuel (show 0 < f by omega)
    refine ⟨fun z => absurd z (by rw [(show (6 : Int32) = nI 6 from rfl), lt_nI (by omega) (by omega)]; omega), fun _ => c_boat hX hR hi (by omega) (fun v1 e1 v4 e4 => ?_)⟩
    rw [nI_1] at e4
    subst e1 e4
    exact ih (j + 1) f _ (by omega) (by omega) h
theorem cd_legger_in (hX : PRX P U kb np nl nb ns no) (hR : RE np nl nb T S) {i : Nat} (hi : i < nl) {Cc : Int64 → Int32 → Prop} {K : Int64 → Prop} : ∀ (d j f : Nat) (v : Int64), j + d = 7 → d < f → Cc (lfo (g31 (leV U S nb i)) d j v) (nI (i + 1)) → wl_X5_digest_154 q P ap T G C Cc K f v (nI i) (nI j) := by
  have hn := hX.1
  have h60 := hn.np3
  have h6 := hn.nl3
  have h8 := hn.nb3
  have h5 := hX.2.1.2.2
  intro d
  induction d with
  | zero =>
    intro j f v hj hf h
    obtain ⟨f, rfl, _⟩ := fuel hf
    refine ⟨fun _ v3 e3 => ?_, fun z => absurd (by rw [(show (6 : Int32) = nI 6 from rfl), lt_nI (by omega) (by omega)]; omega) z⟩
    rw [nI_1] at e3
    subst e3
    exact h
  | succ d ih =>
    intro j f v hj hf h
    obtain ⟨f, rfl, _⟩ := fuel (show 0 < f by omega)
    refine ⟨fun z => absurd z (by rw [(show (6 : Int32) = nI 6 from rfl), lt_nI (by omega) (by omega)]; omega), fun _ => c_legger hX hR hi (by omega) (fun v1 e1 v4 e4 => ?_)⟩
    rw [nI_1] at e4
    subst e1 e4
    exact ih (j + 1) f _ (by omega) (by omega) h
theorem cd_bore_in (hX : PRX P U kb np nl nb ns no) (hR : RE np nl nb T S) {i : Nat} (hi : i < kb) {Cc : Int64 → Int32 → Prop} {K : Int64 → Prop} : ∀ (d j f : Nat) (v : Int64), j + d = 4 → d < f → Cc (lfo (g31 (boV U S i)) d j v) (nI (i + 1)) → wl_X5_digest_102 q P ap T G C Cc K f v (nI i) (nI j) := by
  have hn := hX.1
  have h60 := hn.np3
  have h6 := hn.nl3
  have h8 := hn.nb3
  have h5 := hX.2.1.2.2
  intro d
  induction d with
  | zero =>
    intro j f v hj hf h
    obtain ⟨f, rfl, _⟩ := fuel hf
    refine ⟨fun _ v3 e3 => ?_, fun z => absurd (by rw [(show (3 : Int32) = nI 3 from rfl), lt_nI (by omega) (by omega)]; omega) z⟩
    rw [nI_1] at e3
    subst e3
    exact h
  | succ d ih =>
    intro j f v hj hf h
    obtain ⟨f, rfl, _⟩ := fuel (show 0 < f by omega)
    refine ⟨fun z => absurd z (by rw [(show (3 : Int32) = nI 3 from rfl), lt_nI (by omega) (by omega)]; omega), fun _ => c_bore hX hR hi (by omega) (fun v1 e1 v4 e4 => ?_)⟩
    rw [nI_1] at e4
    subst e1 e4
    exact ih (j + 1) f _ (by omega) (by omega) h
theorem cd_place_in (hX : PRX P U kb np nl nb ns no) (hR : RE np nl nb T S) {i : Nat} (hi : i < np) {Cc : Int64 → Int32 → Prop} {K : Int64 → Prop} : ∀ (d j f : Nat) (v : Int64), j + d = 4 → d < f → Cc (lfo (g31 (plV U S nl nb i)) d j v) (nI (i + 1)) → wl_X5_digest_50 q P ap T G C Cc K f v (nI i) (nI j) := by
  have hn := hX.1
  have h60 := hn.np3
  have h6 := hn.nl3
  have h8 := hn.nb3
  have h5 := hX.2.1.2.2
  intro d
  induction d with
  | zero =>
    intro j f v hj hf h
    obtain ⟨f, rfl, _⟩ := fuel hf
    refine ⟨fun _ v3 e3 => ?_, fun z => absurd (by rw [(show (3 : Int32) = nI 3 from rfl), lt_nI (by omega) (by omega)]; omega) z⟩
    rw [nI_1] at e3
    subst e3
    exact h
  | succ d ih =>
    intro j f v hj hf h
    obtain ⟨f, rfl, _⟩ := fuel (show 0 < f by omega)
    refine ⟨fun z => absurd z (by rw [(show (3 : Int32) = nI 3 from rfl), lt_nI (by omega) (by omega)]; omega), fun _ => c_place hX hR hi (by omega) (fun v1 e1 v4 e4 => ?_)⟩
    rw [nI_1] at e4
    subst e1 e4
    exact ih (j + 1) f _ (by omega) (by omega) h
theorem cd_boat (hX : PRX P U kb np nl nb ns no) (hR : RE np nl nb T S) {K : Int64 → Prop} : ∀ (d i f : Nat) (v : Int64), i + d = nb → d < f → K (lfo (rowT U S) d i v) → wl_X5_digest_190 q P ap T G C K f v (nI i) := by
  have hn := hX.1
  have h60 := hn.np3
  have h6 := hn.nl3
  have h8 := hn.nb3
  have h5 := hX.2.1.2.2
  intro d
  induction d with
  | zero =>
    intro i f v hi hf h
    obtain ⟨f, rfl, _⟩ := fuel hf
    exact ⟨fun _ => h, fun z => absurd (by rw [hn.nb1, le_nI (by omega) (by omega)]; omega) z⟩
  | succ d ih =>
    intro i f v hi hf h
    obtain ⟨f, rfl, _⟩ := fuel (show 0 < f by omega)
    exact ⟨fun z => absurd z (by rw [hn.nb1, le_nI (by omega) (by omega)]; omega), fun _ => cd_boat_in hX hR (by omega) 7 0 fK v rfl (by rw [fK_eq]; decide) (ih (i + 1) f _ (by omega) (by omega) h)⟩
theorem cd_legger (hX : PRX P U kb np nl nb ns no) (hR : RE np nl nb T S) {K : Int64 → Prop} : ∀ (d i f : Nat) (v : Int64), i + d = nl → d < f → wl_X5_digest_190 q P ap T G C K fK (lfo (rowL U S nb) d i v) 0 → wl_X5_digest_137 q P ap T G C K f v (nI i) := by
  have hn := hX.1
  have h60 := hn.np3
  have h6 := hn.nl3
  have h8 := hn.nb3
  have h5 := hX.2.1.2.2
  intro d
  induction d with
  | zero =>
    intro i f v hi hf h
    obtain ⟨f, rfl, _⟩ := fuel hf
    exact ⟨fun _ => h, fun z => absurd (by rw [hn.nl1, le_nI (by omega) (by omega)]; omega) z⟩
  | succ d ih =>
    intro i f v hi hf h
    obtain ⟨f, rfl, _⟩ := fuel (show 0 < f by omega)
    exact ⟨fun z => absurd z (by rw [hn.nl1, le_nI (by omega) (by omega)]; omega), fun _ => cd_legger_in hX hR (by omega) 7 0 fK v rfl (by rw [fK_eq]; decide) (ih (i + 1) f _ (by omega) (by omega) h)⟩
theorem cd_bore (hX : PRX P U kb np nl nb ns no) (hR : RE np nl nb T S) {K : Int64 → Prop} : ∀ (d i f : Nat) (v : Int64), i + d = kb → d < f → wl_X5_digest_137 q P ap T G C K fK (lfo (rowB U S) d i v) 0 → wl_X5_digest_85 q P ap T G C K f v (nI i) := by
  have hn := hX.1
  have h60 := hn.np3
  have h6 := hn.nl3
  have h8 := hn.nb3
  have h5 := hX.2.1.2.2
  intro d
  induction d with
  | zero =>
    intro i f v hi hf h
    obtain ⟨f, rfl, _⟩ := fuel hf
    exact ⟨fun _ => h, fun z => absurd (by rw [hX.2.1.1, le_nI (by omega) (by omega)]; omega) z⟩
  | succ d ih =>
    intro i f v hi hf h
    obtain ⟨f, rfl, _⟩ := fuel (show 0 < f by omega)
    exact ⟨fun z => absurd z (by rw [hX.2.1.1, le_nI (by omega) (by omega)]; omega), fun _ => cd_bore_in hX hR (by omega) 4 0 fK v rfl (by rw [fK_eq]; decide) (ih (i + 1) f _ (by omega) (by omega) h)⟩
theorem cd_place (hX : PRX P U kb np nl nb ns no) (hR : RE np nl nb T S) {K : Int64 → Prop} : ∀ (d i f : Nat) (v : Int64), i + d = np → d < f → wl_X5_digest_85 q P ap T G C K fK (lfo (rowP U S nl nb) d i v) 0 → wl_X5_digest_33 q P ap T G C K f v (nI i) := by
  have hn := hX.1
  have h60 := hn.np3
  have h6 := hn.nl3
  have h8 := hn.nb3
  have h5 := hX.2.1.2.2
  intro d
  induction d with
  | zero =>
    intro i f v hi hf h
    obtain ⟨f, rfl, _⟩ := fuel hf
    exact ⟨fun _ => h, fun z => absurd (by rw [hn.np1, le_nI (by omega) (by omega)]; omega) z⟩
  | succ d ih =>
    intro i f v hi hf h
    obtain ⟨f, rfl, _⟩ := fuel (show 0 < f by omega)
    exact ⟨fun z => absurd z (by rw [hn.np1, le_nI (by omega) (by omega)]; omega), fun _ => cd_place_in hX hR (by omega) 4 0 fK v rfl (by rw [fK_eq]; decide) (ih (i + 1) f _ (by omega) (by omega) h)⟩
theorem cd_count (hX : PRX P U kb np nl nb ns no) (hR : RE np nl nb T S) {z : Int32} (hz : C 91 0 = z) {K : Int64 → Prop} : ∀ (d j f : Nat) (v : Int64), j + d = 14 → d < f → wl_X5_digest_33 q P ap T G C K fK (lfo (g31 (coV U S np nl nb z)) d j v) 0 → wl_X5_digest_6 q P ap T G C K f v (nI j) := by
  intro d
  induction d with
  | zero =>
    intro j f v hj hf h
    obtain ⟨f, rfl, _⟩ := fuel hf
    exact ⟨fun _ => h, fun z => absurd (by rw [(show (13 : Int32) = nI 13 from rfl), lt_nI (by omega) (by omega)]; omega) z⟩
  | succ d ih =>
    intro j f v hj hf h
    obtain ⟨f, rfl, _⟩ := fuel (show 0 < f by omega)
    refine ⟨fun z => absurd z (by rw [(show (13 : Int32) = nI 13 from rfl), lt_nI (by omega) (by omega)]; omega), fun _ => c_count hX hR hz (by omega) (fun v1 e1 v4 e4 => ?_)⟩
    rw [nI_1] at e4
    subst e1 e4
    exact ih (j + 1) f _ (by omega) (by omega) h
def dgV (U S : M2) (kb np nl nb : Nat) (z : Int32) : Int64 := lfo (rowT U S) nb 0 (lfo (rowL U S nb) nl 0 (lfo (rowB U S) kb 0 (lfo (rowP U S nl nb) np 0 (lfo (g31 (coV U S np nl nb z)) 14 0 857))))
theorem c_digest (hX : PRX P U kb np nl nb ns no) (hR : RE np nl nb T S) {z : Int32} (hz : C 91 0 = z) {K : Int64 → Prop} (h : K (dgV U S kb np nl nb z)) : wp_X5_digest q P ap T G C K := by
  have hn := hX.1
  have h60 := hn.np3
  have h6 := hn.nl3
  have h8 := hn.nb3
  have h5 := hX.2.1.2.2
  exact cd_count hX hR hz 14 0 fK 857 rfl (by rw [fK_eq]; decide) (cd_place hX hR np 0 fK _ (by omega) (by rw [fK_eq]; omega) (cd_bore hX hR kb 0 fK _ (by omega) (by rw [fK_eq]; omega) (cd_legger hX hR nl 0 fK _ (by omega) (by rw [fK_eq]; omega) (cd_boat hX hR nb 0 fK _ (by omega) (by rw [fK_eq]; omega) h))))
def suL (S : M2) (d j : Nat) (v : Int32) : Int32 := lfo (fun i a => a + S 203 i) d j v
def meV (S : M2) (nl : Nat) : UInt64 := FP.ddiv (FP.i2d (suL S nl 0 0)) (FP.i2d (nI nl))
theorem vf_of {x : UInt64} (h : FP.dIsNaN x = false) : vf_n64 x := by
  have h1 : ¬ 9218868437227405312 < x.toNat % 2 ^ 63 := fun z => by
    exact Bool.noConfusion (((Jvm.FP.Core.isNaN_bits x).mpr z).symm.trans h)
  unfold vf_n64
  rw [UInt64.le_iff_toNat_le, UInt64.toNat_and]
  have e : (0x7fffffffffffffff : UInt64).toNat = 2 ^ 63 - 1 := by decide
  rw [e, Nat.and_two_pow_sub_one_eq_mod]
  have e2 : (0x7ff0000000000000 : UInt64).toNat = 9218868437227405312 := by decide
  omega
theorem me_n (S : M2) {nl : Nat} (h0 : 0 < nl) (h6 : nl ≤ 6) : vf_n64 (meV S nl) := vf_of (Jvm.FP.Core.ddiv_out (Jvm.FP.Core.DFin.notNaN (Jvm.FP.Core.i2d_fin _)) (Jvm.FP.Core.i2d_fin _) (fun z => Jvm.FP.Core.i2d_ne_zero (fun e => nI_ne (a := nl) (b := 0) (by omega) (by decide) (by omega) e) ((Jvm.FP.Core.zero_bits2 _).mp z)))
theorem c_meanL (hX : PRX P U kb np nl nb ns no) (hR : RE np nl nb T S) {K : UInt64 → Nat → M2 → M2 → M2 → Prop} (h0 : 0 < nl) (hK : K (meV S nl) ap T G C) : ∀ (d j f : Nat) (v : Int32), j + d = nl → d < f → suL S d j v = suL S nl 0 0 → wl_X5_mean_21 q P K f ap T G C (nI nl) v (nI j) := by
  have hn := hX.1
  have h6 := hn.nl3
  intro d
  induction d with
  | zero =>
    intro j f v hj hf hs
    obtain ⟨f, rfl, _⟩ := fuel hf
    have hs : v = suL S nl 0 0 := hs
    subst hs
    exact ⟨fun _ => ⟨me_n S h0 h6, hK⟩, fun z => absurd (by rw [le_nI (by omega) (by omega)]; omega) z⟩
  | succ d ih =>
    intro j f v hj hf hs
    obtain ⟨f, rfl, _⟩ := fuel (show 0 < f by omega)
    refine ⟨fun z => absurd z (by rw [le_nI (by omega) (by omega)]; omega), fun _ v2 e2 v3 e3 => ?_⟩
    rw [atv_nI (by omega) (by decide), hR.breath (by omega)] at e2
    rw [nI_1] at e3
    subst e2 e3
    exact ih (j + 1) f _ (by omega) (by omega) hs
theorem c_mean (hX : PRX P U kb np nl nb ns no) (hR : RE np nl nb T S) {K : UInt64 → Nat → M2 → M2 → M2 → Prop} (hK : K (if nl = 0 then FP.dconst0 else meV S nl) ap T G C) : wp_X5_mean q P ap T G C K := by
  have hn := hX.1
  have h6 := hn.nl3
  intro v e
  rw [hn.nl1] at e
  subst e
  by_cases h0 : nl = 0
  · rw [if_pos h0] at hK
    exact ⟨fun z => absurd z (by rw [show (0 : Int32) = nI 0 from rfl, lt_nI (by omega) (by omega)]; omega), fun _ => hK⟩
  · rw [if_neg h0] at hK
    exact ⟨fun _ => c_meanL hX hR (by omega) hK nl 0 fK 0 (by omega) (by rw [fK_eq]; omega) rfl, fun z => absurd (by rw [show (0 : Int32) = nI 0 from rfl, lt_nI (by omega) (by omega)]; omega) z⟩
end TOLD
