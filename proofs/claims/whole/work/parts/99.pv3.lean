/-! ===== what is told, on both sides ===== -/
section TOLD
theorem isin1 {x lo hi : Int32} {K : Int32 → Prop} (h1 : ¬ x < lo) (h2 : ¬ hi < x) (h : K 1) : wp_X8_isIn x lo hi K := ⟨fun c => absurd c h1, fun _ => ⟨fun c => absurd c h2, fun _ => h⟩⟩
theorem isin0 {x lo hi : Int32} {K : Int32 → Prop} (h : x < lo ∨ hi < x) (hk : K 0) : wp_X8_isIn x lo hi K := ⟨fun _ => hk, fun c => ⟨fun _ => hk, fun c2 => h.elim (fun z => absurd z c) (fun z => absurd z c2)⟩⟩
theorem ix_cases (n : Nat) (hn : n < 2147483648) (y : Int32) : (∃ j, j < n ∧ y = nI j) ∨ (y < 0 ∨ ¬ y < nI n) := by
  by_cases h1 : y < 0
  · exact Or.inr (Or.inl h1)
  · by_cases h2 : y < nI n
    · refine Or.inl ?_
      rw [Int32.lt_iff_toInt_lt] at h1 h2
      rw [nI_toInt (by omega)] at h2
      have h1 : ¬ y.toInt < 0 := h1
      obtain ⟨b, hb, e⟩ := inb_of (x := y) (n := n) ⟨by omega, by omega⟩ (by omega)
      exact ⟨b, hb, e⟩
    · exact Or.inr (Or.inr h2)
theorem ix_in {n j : Nat} (hn : n < 2147483648) (hj : j < n) : ¬ nI j < 0 ∧ nI j < nI n := ⟨nI_pos (by omega), nI_lt hj (by omega)⟩
theorem isx1 {n j : Nat} {K : Int32 → Prop} (hn : n ≤ 1000) (hj : j < n) (h : K 1) : wp_X8_isIn (nI j) 0 (nI n - 1) K := by
  refine isin1 (nI_pos (by omega)) ?_ h
  obtain ⟨m, rfl⟩ : ∃ m, n = m + 1 := ⟨n - 1, by omega⟩
  rw [nI_pred, lt_nI (by omega) (by omega)]
  omega
theorem isx0 {n : Nat} {y : Int32} {K : Int32 → Prop} (hn : n ≤ 1000) (hy : y < 0 ∨ ¬ y < nI n) (h : K 0) : wp_X8_isIn y 0 (nI n - 1) K := by
  refine isin0 ?_ h
  by_cases h1 : y < 0
  · exact Or.inl h1
  · refine Or.inr ?_
    have h2 := hy.resolve_left h1
    rw [Int32.lt_iff_toInt_lt, nI_toInt (by omega)] at h2
    rw [Int32.lt_iff_toInt_lt] at h1
    have h1 : ¬ y.toInt < 0 := h1
    rw [Int32.lt_iff_toInt_lt]
    rcases Nat.eq_zero_or_pos n with h0 | h0
    · subst h0
      have e : (nI 0 - 1 : Int32).toInt = -1 := by decide
      rw [e]
      omega
    · obtain ⟨m, rfl⟩ : ∃ m, n = m + 1 := ⟨n - 1, by omega⟩
      rw [nI_pred, nI_toInt (by omega)]
      omega
theorem wh_cases (n : Nat) (hn : n ≤ 100) (y : Int32) : (∃ w, w ≤ n ∧ y = nI w) ∨ ((∀ w, w ≤ n → ¬ y = nI w) ∧ (y < 0 ∨ nI n < y)) := by
  rcases ix_cases (n + 1) (by omega) y with ⟨j, hj, e⟩ | h
  · exact Or.inl ⟨j, by omega, e⟩
  · refine Or.inr ⟨fun w hw e => ?_, ?_⟩
    · subst e
      rcases h with h | h
      · exact nI_pos (by omega) h
      · exact h (nI_lt (by omega) (by omega))
    · by_cases h1 : y < 0
      · exact Or.inl h1
      · have h2 := h.resolve_left h1
        refine Or.inr ?_
        rw [Int32.lt_iff_toInt_lt, nI_toInt (by omega)] at h2
        rw [Int32.lt_iff_toInt_lt, nI_toInt (by omega)]
        omega
def zN (N : M2) : M2 := up2 N 220 (fun _ => 0)
def zT (k : Int32) (N : M2) : M2 := up2 (up2 N 220 (fun _ => 0)) 220 (fun _ => k)
def coV (U S : M2) (np nl nb : Nat) (z : Int32) (w : Nat) : Int32 := if w = 0 then S 200 0 else if w = 1 then S 201 0 else if w = 2 then U 240 0 else if w = 3 then U 241 0 else if w = 4 then U 246 0 else if w = 5 then U 249 0 else if w = 6 then U 252 0 else if w = 7 then U 257 0 else if w = 8 then mThose S nb 0 else if w = 9 then mThose S nb 1 else if w = 10 then mThose S nb 2 else if w = 11 then mAllAir S np else if w = 12 then nI nl - mCapsAt S nl (-1) else z
def plV (U S : M2) (nl nb p w : Nat) : Int32 := if w = 0 then U 245 p else if w = 1 then S 202 p else if w = 2 then mCapsAt S nl (nI p) else mBoatAt S nb (nI p)
def boV (U S : M2) (k w : Nat) : Int32 := if w = 0 then U 242 k else if w = 1 then U 243 k else if w = 2 then U 244 k else sfr (S 202) (U 242 k).toInt.toNat (U 244 k).toInt.toNat 0
def leV (U S : M2) (nb l w : Nat) : Int32 := if w = 0 then U 250 l else if w = 1 then U 251 l else if w = 2 then S 203 l else if w = 3 then (if S 204 l = -1 then 1 else 0) else if w = 4 then mBoatOf U S nb (nI l) else if w = 5 then S 205 l else S 204 l
def baV (U S : M2) (b w : Nat) : Int32 := if w = 0 then U 253 b else if w = 1 then S 207 b else if w = 2 then S 208 b else if w = 3 then S 206 b else if w = 4 then S 209 b else if w = 5 then S 210 b else S 211 b
variable {P U T S C : M2} {kb np nl nb ns no : Nat}
theorem c_place (hX : PRX P U kb np nl nb ns no) (hR : RE np nl nb T S) {i w : Nat} (hi : i < np) (hw : w ≤ 3) {KX : Nat → Prop} {K : Int32 → Prop} (h : K (plV U S nl nb i w)) : wp_X5_place P KX T C (nI i) (nI w) K := by
  have hn := hX.1
  have h60 := hn.np3
  have h6 := hn.nl3
  have h8 := hn.nb3
  have h5 := hX.2.1.2.2
  have hb : ¬ nI i < 0 ∧ nI i < P 21 0 := by rw [hn.np1]; exact ix_in (by omega) hi
  refine ⟨fun _ _ => ?_, fun z => absurd z (fun z => z.elim hb.1 (fun y => y hb.2))⟩
  match w, hw, h with
  | 0, _, h =>
    have h : K (U 245 i) := h
    refine ⟨fun _ => ?_, fun e => absurd e (by decide), fun e => absurd e (by decide), fun e => absurd e (by decide), fun z0 z1 z2 z3 => absurd rfl z0⟩
    obtain ⟨k, _, e1, e2⟩ := hX.2.2.2.1 i hi
    rw [atv_nI (by omega) (by decide), e1, ← e2]
    exact h
  | 1, _, h =>
    have h : K (S 202 i) := h
    refine ⟨fun e => absurd e (by decide), fun _ => ?_, fun e => absurd e (by decide), fun e => absurd e (by decide), fun z0 z1 z2 z3 => absurd rfl z1⟩
    rw [atv_nI (by omega) (by decide), hR.air hi]
    exact h
  | 2, _, h =>
    have h : K (mCapsAt S nl (nI i)) := h
    refine ⟨fun e => absurd e (by decide), fun e => absurd e (by decide), fun _ => ?_, fun e => absurd e (by decide), fun z0 z1 z2 z3 => absurd rfl z2⟩
    exact m_capsAt hn hR h
  | 3, _, h =>
    have h : K (mBoatAt S nb (nI i)) := h
    refine ⟨fun e => absurd e (by decide), fun e => absurd e (by decide), fun e => absurd e (by decide), fun _ => ?_, fun z0 z1 z2 z3 => absurd rfl z3⟩
    exact m_boatAt hn hR h
theorem c_bore (hX : PRX P U kb np nl nb ns no) (hR : RE np nl nb T S) {i w : Nat} (hi : i < kb) (hw : w ≤ 3) {KX : Nat → Prop} {K : Int32 → Prop} (h : K (boV U S i w)) : wp_X5_bore P KX T C (nI i) (nI w) K := by
  have hn := hX.1
  have h60 := hn.np3
  have h6 := hn.nl3
  have h8 := hn.nb3
  have h5 := hX.2.1.2.2
  have hb : ¬ nI i < 0 ∧ nI i < P 20 0 := by rw [hX.2.1.1]; exact ix_in (by omega) hi
  refine ⟨fun _ _ => ?_, fun z => absurd z (fun z => z.elim hb.1 (fun y => y hb.2))⟩
  match w, hw, h with
  | 0, _, h =>
    have h : K (U 242 i) := h
    refine ⟨fun _ => ?_, fun e => absurd e (by decide), fun e => absurd e (by decide), fun e => absurd e (by decide), fun z0 z1 z2 z3 => absurd rfl z0⟩
    obtain ⟨x, f, _, _, _, e1, e2, e3, e4, e5⟩ := hX.2.2.1 i hi
    rw [atv_nI (by omega) (by decide), e1, ← e2]
    exact h
  | 1, _, h =>
    have h : K (U 243 i) := h
    refine ⟨fun e => absurd e (by decide), fun _ => ?_, fun e => absurd e (by decide), fun e => absurd e (by decide), fun z0 z1 z2 z3 => absurd rfl z1⟩
    obtain ⟨x, f, _, _, _, e1, e2, e3, e4, e5⟩ := hX.2.2.1 i hi
    rw [atv_nI (by omega) (by decide), e5]
    exact h
  | 2, _, h =>
    have h : K (U 244 i) := h
    refine ⟨fun e => absurd e (by decide), fun e => absurd e (by decide), fun _ => ?_, fun e => absurd e (by decide), fun z0 z1 z2 z3 => absurd rfl z2⟩
    obtain ⟨x, f, _, _, _, e1, e2, e3, e4, e5⟩ := hX.2.2.1 i hi
    rw [atv_nI (by omega) (by decide), e3, ← e4]
    exact h
  | 3, _, h =>
    have h : K (sfr (S 202) (U 242 i).toInt.toNat (U 244 i).toInt.toNat 0) := h
    refine ⟨fun e => absurd e (by decide), fun e => absurd e (by decide), fun e => absurd e (by decide), fun _ => ?_, fun z0 z1 z2 z3 => absurd rfl z3⟩
    obtain ⟨x, f, _, _, hf, e1, e2, e3, e4, e5⟩ := hX.2.2.1 i hi
    intro v ev
    rw [atv_nI (by omega) (by decide), e3] at ev
    subst ev
    rw [atv_nI (by omega) (by decide), e1, nI_add]
    rw [e2, e4, tn_nI (by omega), tn_nI (by omega)] at h
    refine l_X4_airOf (n := f + x) (by omega) x f fK 0 (by omega) (by rw [fK_eq]; omega) ?_
    rw [sfr_cong (q := S 202) (fun j h1 h2 => hR.air (by omega))]
    exact h
theorem c_legger (hX : PRX P U kb np nl nb ns no) (hR : RE np nl nb T S) {i w : Nat} (hi : i < nl) (hw : w ≤ 6) {KX : Nat → Prop} {K : Int32 → Prop} (h : K (leV U S nb i w)) : wp_X5_legger P KX T C (nI i) (nI w) K := by
  have hn := hX.1
  have h60 := hn.np3
  have h6 := hn.nl3
  have h8 := hn.nb3
  have h5 := hX.2.1.2.2
  have hb : ¬ nI i < 0 ∧ nI i < P 23 0 := by rw [hn.nl1]; exact ix_in (by omega) hi
  refine ⟨fun _ _ => ?_, fun z => absurd z (fun z => z.elim hb.1 (fun y => y hb.2))⟩
  match w, hw, h with
  | 0, _, h =>
    have h : K (U 250 i) := h
    refine ⟨fun _ => ?_, fun e => absurd e (by decide), fun e => absurd e (by decide), fun e => absurd e (by decide), fun e => absurd e (by decide), fun e => absurd e (by decide), fun e => absurd e (by decide), fun z0 z1 z2 z3 z4 z5 z6 => absurd rfl z0⟩
    obtain ⟨x, y, _, _, _, _, e1, e2, e3, e4⟩ := hn.leg i hi
    rw [atv_nI (by omega) (by decide), e1, ← e2]
    exact h
  | 1, _, h =>
    have h : K (U 251 i) := h
    refine ⟨fun e => absurd e (by decide), fun _ => ?_, fun e => absurd e (by decide), fun e => absurd e (by decide), fun e => absurd e (by decide), fun e => absurd e (by decide), fun e => absurd e (by decide), fun z0 z1 z2 z3 z4 z5 z6 => absurd rfl z1⟩
    obtain ⟨x, y, _, _, _, _, e1, e2, e3, e4⟩ := hn.leg i hi
    rw [atv_nI (by omega) (by decide), e3, ← e4]
    exact h
  | 2, _, h =>
    have h : K (S 203 i) := h
    refine ⟨fun e => absurd e (by decide), fun e => absurd e (by decide), fun _ => ?_, fun e => absurd e (by decide), fun e => absurd e (by decide), fun e => absurd e (by decide), fun e => absurd e (by decide), fun z0 z1 z2 z3 z4 z5 z6 => absurd rfl z2⟩
    rw [atv_nI (by omega) (by decide), hR.breath hi]
    exact h
  | 3, _, h =>
    have h : K ((if S 204 i = -1 then 1 else 0)) := h
    refine ⟨fun e => absurd e (by decide), fun e => absurd e (by decide), fun e => absurd e (by decide), fun _ => ?_, fun e => absurd e (by decide), fun e => absurd e (by decide), fun e => absurd e (by decide), fun z0 z1 z2 z3 z4 z5 z6 => absurd rfl z3⟩
    rw [atv_nI (by omega) (by decide), hR.cap hi]
    refine ⟨fun c => ?_, fun c => ?_⟩
    · rw [if_neg c] at h
      exact h
    · rw [if_pos c] at h
      exact h
  | 4, _, h =>
    have h : K (mBoatOf U S nb (nI i)) := h
    refine ⟨fun e => absurd e (by decide), fun e => absurd e (by decide), fun e => absurd e (by decide), fun e => absurd e (by decide), fun _ => ?_, fun e => absurd e (by decide), fun e => absurd e (by decide), fun z0 z1 z2 z3 z4 z5 z6 => absurd rfl z4⟩
    exact m_boatOf hn hR h
  | 5, _, h =>
    have h : K (S 205 i) := h
    refine ⟨fun e => absurd e (by decide), fun e => absurd e (by decide), fun e => absurd e (by decide), fun e => absurd e (by decide), fun e => absurd e (by decide), fun _ => ?_, fun e => absurd e (by decide), fun z0 z1 z2 z3 z4 z5 z6 => absurd rfl z5⟩
    rw [atv_nI (by omega) (by decide), hR.walk hi]
    exact h
  | 6, _, h =>
    have h : K (S 204 i) := h
    refine ⟨fun e => absurd e (by decide), fun e => absurd e (by decide), fun e => absurd e (by decide), fun e => absurd e (by decide), fun e => absurd e (by decide), fun e => absurd e (by decide), fun _ => ?_, fun z0 z1 z2 z3 z4 z5 z6 => absurd rfl z6⟩
    rw [atv_nI (by omega) (by decide), hR.cap hi]
    exact h
theorem c_boat (hX : PRX P U kb np nl nb ns no) (hR : RE np nl nb T S) {i w : Nat} (hi : i < nb) (hw : w ≤ 6) {KX : Nat → Prop} {K : Int32 → Prop} (h : K (baV U S i w)) : wp_X5_boat P KX T C (nI i) (nI w) K := by
  have hn := hX.1
  have h60 := hn.np3
  have h6 := hn.nl3
  have h8 := hn.nb3
  have h5 := hX.2.1.2.2
  have hb : ¬ nI i < 0 ∧ nI i < P 24 0 := by rw [hn.nb1]; exact ix_in (by omega) hi
  refine ⟨fun _ _ => ?_, fun z => absurd z (fun z => z.elim hb.1 (fun y => y hb.2))⟩
  match w, hw, h with
  | 0, _, h =>
    have h : K (U 253 i) := h
    refine ⟨fun _ => ?_, fun e => absurd e (by decide), fun e => absurd e (by decide), fun e => absurd e (by decide), fun e => absurd e (by decide), fun e => absurd e (by decide), fun e => absurd e (by decide), fun z0 z1 z2 z3 z4 z5 z6 => absurd rfl z0⟩
    obtain ⟨_, _, _, _, _, _, _, x, _, _, e1, e2⟩ := hn.boat i hi
    rw [atv_nI (by omega) (by decide), e1, ← e2]
    exact h
  | 1, _, h =>
    have h : K (S 207 i) := h
    refine ⟨fun e => absurd e (by decide), fun _ => ?_, fun e => absurd e (by decide), fun e => absurd e (by decide), fun e => absurd e (by decide), fun e => absurd e (by decide), fun e => absurd e (by decide), fun z0 z1 z2 z3 z4 z5 z6 => absurd rfl z1⟩
    rw [atv_nI (by omega) (by decide), hR.side hi]
    exact h
  | 2, _, h =>
    have h : K (S 208 i) := h
    refine ⟨fun e => absurd e (by decide), fun e => absurd e (by decide), fun _ => ?_, fun e => absurd e (by decide), fun e => absurd e (by decide), fun e => absurd e (by decide), fun e => absurd e (by decide), fun z0 z1 z2 z3 z4 z5 z6 => absurd rfl z2⟩
    rw [atv_nI (by omega) (by decide), hR.due hi]
    exact h
  | 3, _, h =>
    have h : K (S 206 i) := h
    refine ⟨fun e => absurd e (by decide), fun e => absurd e (by decide), fun e => absurd e (by decide), fun _ => ?_, fun e => absurd e (by decide), fun e => absurd e (by decide), fun e => absurd e (by decide), fun z0 z1 z2 z3 z4 z5 z6 => absurd rfl z3⟩
    rw [atv_nI (by omega) (by decide), hR.how hi]
    exact h
  | 4, _, h =>
    have h : K (S 209 i) := h
    refine ⟨fun e => absurd e (by decide), fun e => absurd e (by decide), fun e => absurd e (by decide), fun e => absurd e (by decide), fun _ => ?_, fun e => absurd e (by decide), fun e => absurd e (by decide), fun z0 z1 z2 z3 z4 z5 z6 => absurd rfl z4⟩
    rw [atv_nI (by omega) (by decide), hR.spot hi]
    exact h
  | 5, _, h =>
    have h : K (S 210 i) := h
    refine ⟨fun e => absurd e (by decide), fun e => absurd e (by decide), fun e => absurd e (by decide), fun e => absurd e (by decide), fun e => absurd e (by decide), fun _ => ?_, fun e => absurd e (by decide), fun z0 z1 z2 z3 z4 z5 z6 => absurd rfl z5⟩
    rw [atv_nI (by omega) (by decide), hR.pushed hi]
    exact h
  | 6, _, h =>
    have h : K (S 211 i) := h
    refine ⟨fun e => absurd e (by decide), fun e => absurd e (by decide), fun e => absurd e (by decide), fun e => absurd e (by decide), fun e => absurd e (by decide), fun e => absurd e (by decide), fun _ => ?_, fun z0 z1 z2 z3 z4 z5 z6 => absurd rfl z6⟩
    rw [atv_nI (by omega) (by decide), hR.out hi]
    exact h
theorem c_crew (hX : PRX P U kb np nl nb ns no) {i w : Nat} (hi : i < nb) (hw : w ≤ 1) {KX : Nat → Prop} {K : Int32 → Prop} (h : K (U (310 + i) w)) : wp_X5_crew P KX T C (nI i) (nI w) K := by
  have hn := hX.1
  have h8 := hn.nb3
  have hb : ¬ nI i < 0 ∧ nI i < P 24 0 := by rw [hn.nb1]; exact ix_in (by omega) hi
  obtain ⟨_, _, _, e1, e2, e3, e4, _⟩ := hn.boat i hi
  have hb2 : ¬ nI w < 0 ∧ nI w < 2 := ix_in (n := 2) (by decide) (by omega)
  refine ⟨fun _ _ => ⟨fun _ _ => ?_, fun z => absurd z (fun z => z.elim hb2.1 (fun y => y hb2.2))⟩, fun z => absurd z (fun z => z.elim hb.1 (fun y => y hb.2))⟩
  rw [atv_nI (by omega) (by decide), atv_nI (by omega) (by decide), e1, e3, ← e2, ← e4]
  match w, hw, h with
  | 0, _, h => exact ⟨fun z => absurd rfl z, fun _ => h⟩
  | 1, _, h => exact ⟨fun _ => h, fun z => absurd z (by decide)⟩
theorem c_count (hX : PRX P U kb np nl nb ns no) (hR : RE np nl nb T S) {z : Int32} (hz : C 91 0 = z) {w : Nat} (hw : w ≤ 13) {KX : Nat → Prop} {K : Int32 → Prop} (h : K (coV U S np nl nb z w)) : wp_X5_count P KX T C (nI w) K := by
  have hn := hX.1
  match w, hw, h with
  | 0, _, h =>
    have h : K (S 200 0) := h
    refine ⟨fun _ => ?_, fun e => absurd e (by decide), fun e => absurd e (by decide), fun e => absurd e (by decide), fun e => absurd e (by decide), fun e => absurd e (by decide), fun e => absurd e (by decide), fun e => absurd e (by decide), fun e => absurd e (by decide), fun e => absurd e (by decide), fun e => absurd e (by decide), fun e => absurd e (by decide), fun e => absurd e (by decide), fun e => absurd e (by decide), fun z0 z1 z2 z3 z4 z5 z6 z7 z8 z9 z10 z11 z12 z13 => absurd rfl z0⟩
    rw [hR.min]
    exact h
  | 1, _, h =>
    have h : K (S 201 0) := h
    refine ⟨fun e => absurd e (by decide), fun _ => ?_, fun e => absurd e (by decide), fun e => absurd e (by decide), fun e => absurd e (by decide), fun e => absurd e (by decide), fun e => absurd e (by decide), fun e => absurd e (by decide), fun e => absurd e (by decide), fun e => absurd e (by decide), fun e => absurd e (by decide), fun e => absurd e (by decide), fun e => absurd e (by decide), fun e => absurd e (by decide), fun z0 z1 z2 z3 z4 z5 z6 z7 z8 z9 z10 z11 z12 z13 => absurd rfl z1⟩
    rw [hR.turn]
    exact h
  | 2, _, h =>
    have h : K (U 240 0) := h
    refine ⟨fun e => absurd e (by decide), fun e => absurd e (by decide), fun _ => ?_, fun e => absurd e (by decide), fun e => absurd e (by decide), fun e => absurd e (by decide), fun e => absurd e (by decide), fun e => absurd e (by decide), fun e => absurd e (by decide), fun e => absurd e (by decide), fun e => absurd e (by decide), fun e => absurd e (by decide), fun e => absurd e (by decide), fun e => absurd e (by decide), fun z0 z1 z2 z3 z4 z5 z6 z7 z8 z9 z10 z11 z12 z13 => absurd rfl z2⟩
    rw [hX.2.1.1, ← hX.2.1.2.1]
    exact h
  | 3, _, h =>
    have h : K (U 241 0) := h
    refine ⟨fun e => absurd e (by decide), fun e => absurd e (by decide), fun e => absurd e (by decide), fun _ => ?_, fun e => absurd e (by decide), fun e => absurd e (by decide), fun e => absurd e (by decide), fun e => absurd e (by decide), fun e => absurd e (by decide), fun e => absurd e (by decide), fun e => absurd e (by decide), fun e => absurd e (by decide), fun e => absurd e (by decide), fun e => absurd e (by decide), fun z0 z1 z2 z3 z4 z5 z6 z7 z8 z9 z10 z11 z12 z13 => absurd rfl z3⟩
    rw [hn.np1, ← hn.np2]
    exact h
  | 4, _, h =>
    have h : K (U 246 0) := h
    refine ⟨fun e => absurd e (by decide), fun e => absurd e (by decide), fun e => absurd e (by decide), fun e => absurd e (by decide), fun _ => ?_, fun e => absurd e (by decide), fun e => absurd e (by decide), fun e => absurd e (by decide), fun e => absurd e (by decide), fun e => absurd e (by decide), fun e => absurd e (by decide), fun e => absurd e (by decide), fun e => absurd e (by decide), fun e => absurd e (by decide), fun z0 z1 z2 z3 z4 z5 z6 z7 z8 z9 z10 z11 z12 z13 => absurd rfl z4⟩
    rw [hn.ns1, ← hn.ns2]
    exact h
  | 5, _, h =>
    have h : K (U 249 0) := h
    refine ⟨fun e => absurd e (by decide), fun e => absurd e (by decide), fun e => absurd e (by decide), fun e => absurd e (by decide), fun e => absurd e (by decide), fun _ => ?_, fun e => absurd e (by decide), fun e => absurd e (by decide), fun e => absurd e (by decide), fun e => absurd e (by decide), fun e => absurd e (by decide), fun e => absurd e (by decide), fun e => absurd e (by decide), fun e => absurd e (by decide), fun z0 z1 z2 z3 z4 z5 z6 z7 z8 z9 z10 z11 z12 z13 => absurd rfl z5⟩
    rw [hn.nl1, ← hn.nl2]
    exact h
  | 6, _, h =>
    have h : K (U 252 0) := h
    refine ⟨fun e => absurd e (by decide), fun e => absurd e (by decide), fun e => absurd e (by decide), fun e => absurd e (by decide), fun e => absurd e (by decide), fun e => absurd e (by decide), fun _ => ?_, fun e => absurd e (by decide), fun e => absurd e (by decide), fun e => absurd e (by decide), fun e => absurd e (by decide), fun e => absurd e (by decide), fun e => absurd e (by decide), fun e => absurd e (by decide), fun z0 z1 z2 z3 z4 z5 z6 z7 z8 z9 z10 z11 z12 z13 => absurd rfl z6⟩
    rw [hn.nb1, ← hn.nb2]
    exact h
  | 7, _, h =>
    have h : K (U 257 0) := h
    refine ⟨fun e => absurd e (by decide), fun e => absurd e (by decide), fun e => absurd e (by decide), fun e => absurd e (by decide), fun e => absurd e (by decide), fun e => absurd e (by decide), fun e => absurd e (by decide), fun _ => ?_, fun e => absurd e (by decide), fun e => absurd e (by decide), fun e => absurd e (by decide), fun e => absurd e (by decide), fun e => absurd e (by decide), fun e => absurd e (by decide), fun z0 z1 z2 z3 z4 z5 z6 z7 z8 z9 z10 z11 z12 z13 => absurd rfl z7⟩
    rw [hn.no1, ← hn.no2]
    exact h
  | 8, _, h =>
    have h : K (mThose S nb 0) := h
    refine ⟨fun e => absurd e (by decide), fun e => absurd e (by decide), fun e => absurd e (by decide), fun e => absurd e (by decide), fun e => absurd e (by decide), fun e => absurd e (by decide), fun e => absurd e (by decide), fun e => absurd e (by decide), fun _ => ?_, fun e => absurd e (by decide), fun e => absurd e (by decide), fun e => absurd e (by decide), fun e => absurd e (by decide), fun e => absurd e (by decide), fun z0 z1 z2 z3 z4 z5 z6 z7 z8 z9 z10 z11 z12 z13 => absurd rfl z8⟩
    refine ⟨fun _ => ⟨fun _ => ?_, fun e => absurd e (by decide)⟩, fun e => absurd e (by decide)⟩
    rw [show (nI 8 - 8 : Int32) = 0 from by decide]
    exact m_those hn hR h
  | 9, _, h =>
    have h : K (mThose S nb 1) := h
    refine ⟨fun e => absurd e (by decide), fun e => absurd e (by decide), fun e => absurd e (by decide), fun e => absurd e (by decide), fun e => absurd e (by decide), fun e => absurd e (by decide), fun e => absurd e (by decide), fun e => absurd e (by decide), fun e => absurd e (by decide), fun _ => ?_, fun e => absurd e (by decide), fun e => absurd e (by decide), fun e => absurd e (by decide), fun e => absurd e (by decide), fun z0 z1 z2 z3 z4 z5 z6 z7 z8 z9 z10 z11 z12 z13 => absurd rfl z9⟩
    refine ⟨fun _ => ⟨fun _ => ?_, fun e => absurd e (by decide)⟩, fun e => absurd e (by decide)⟩
    rw [show (nI 9 - 8 : Int32) = 1 from by decide]
    exact m_those hn hR h
  | 10, _, h =>
    have h : K (mThose S nb 2) := h
    refine ⟨fun e => absurd e (by decide), fun e => absurd e (by decide), fun e => absurd e (by decide), fun e => absurd e (by decide), fun e => absurd e (by decide), fun e => absurd e (by decide), fun e => absurd e (by decide), fun e => absurd e (by decide), fun e => absurd e (by decide), fun e => absurd e (by decide), fun _ => ?_, fun e => absurd e (by decide), fun e => absurd e (by decide), fun e => absurd e (by decide), fun z0 z1 z2 z3 z4 z5 z6 z7 z8 z9 z10 z11 z12 z13 => absurd rfl z10⟩
    refine ⟨fun _ => ⟨fun _ => ?_, fun e => absurd e (by decide)⟩, fun e => absurd e (by decide)⟩
    rw [show (nI 10 - 8 : Int32) = 2 from by decide]
    exact m_those hn hR h
  | 11, _, h =>
    have h : K (mAllAir S np) := h
    refine ⟨fun e => absurd e (by decide), fun e => absurd e (by decide), fun e => absurd e (by decide), fun e => absurd e (by decide), fun e => absurd e (by decide), fun e => absurd e (by decide), fun e => absurd e (by decide), fun e => absurd e (by decide), fun e => absurd e (by decide), fun e => absurd e (by decide), fun e => absurd e (by decide), fun _ => ?_, fun e => absurd e (by decide), fun e => absurd e (by decide), fun z0 z1 z2 z3 z4 z5 z6 z7 z8 z9 z10 z11 z12 z13 => absurd rfl z11⟩
    exact ⟨fun e => absurd rfl e, fun _ => m_allAir hn hR h⟩
  | 12, _, h =>
    have h : K (nI nl - mCapsAt S nl (-1)) := h
    refine ⟨fun e => absurd e (by decide), fun e => absurd e (by decide), fun e => absurd e (by decide), fun e => absurd e (by decide), fun e => absurd e (by decide), fun e => absurd e (by decide), fun e => absurd e (by decide), fun e => absurd e (by decide), fun e => absurd e (by decide), fun e => absurd e (by decide), fun e => absurd e (by decide), fun e => absurd e (by decide), fun _ => ?_, fun e => absurd e (by decide), fun z0 z1 z2 z3 z4 z5 z6 z7 z8 z9 z10 z11 z12 z13 => absurd rfl z12⟩
    exact ⟨fun _ => ⟨fun e => absurd rfl e, fun _ => m_capsLie hn hR h⟩, fun e => absurd e (by decide)⟩
  | 13, _, h =>
    have h : K (z) := h
    refine ⟨fun e => absurd e (by decide), fun e => absurd e (by decide), fun e => absurd e (by decide), fun e => absurd e (by decide), fun e => absurd e (by decide), fun e => absurd e (by decide), fun e => absurd e (by decide), fun e => absurd e (by decide), fun e => absurd e (by decide), fun e => absurd e (by decide), fun e => absurd e (by decide), fun e => absurd e (by decide), fun e => absurd e (by decide), fun _ => ?_, fun z0 z1 z2 z3 z4 z5 z6 z7 z8 z9 z10 z11 z12 z13 => absurd rfl z13⟩
    rw [hz]
    exact h
theorem c_place_x (hX : PRX P U kb np nl nb ns no) {y1 y2 : Int32} (hb : (y1 < 0 ∨ ¬ y1 < nI np) ∨ ∀ w, w ≤ 3 → ¬ y2 = nI w) {KX : Nat → Prop} {K : Int32 → Prop} (h : KX 2) : wp_X5_place P KX T C y1 y2 K := by
  have hn := hX.1
  refine ⟨fun a1 a2 => ?_, fun _ => h⟩
  rw [hn.np1] at a2
  have hb := hb.resolve_left (fun z => z.elim a1 (fun y => y a2))
  exact ⟨fun e => absurd e (hb 0 (by decide)), fun e => absurd e (hb 1 (by decide)), fun e => absurd e (hb 2 (by decide)), fun e => absurd e (hb 3 (by decide)), fun _ _ _ _ => h⟩
theorem c_bore_x (hX : PRX P U kb np nl nb ns no) {y1 y2 : Int32} (hb : (y1 < 0 ∨ ¬ y1 < nI kb) ∨ ∀ w, w ≤ 3 → ¬ y2 = nI w) {KX : Nat → Prop} {K : Int32 → Prop} (h : KX 2) : wp_X5_bore P KX T C y1 y2 K := by
  have hn := hX.1
  refine ⟨fun a1 a2 => ?_, fun _ => h⟩
  rw [hX.2.1.1] at a2
  have hb := hb.resolve_left (fun z => z.elim a1 (fun y => y a2))
  exact ⟨fun e => absurd e (hb 0 (by decide)), fun e => absurd e (hb 1 (by decide)), fun e => absurd e (hb 2 (by decide)), fun e => absurd e (hb 3 (by decide)), fun _ _ _ _ => h⟩
theorem c_legger_x (hX : PRX P U kb np nl nb ns no) {y1 y2 : Int32} (hb : (y1 < 0 ∨ ¬ y1 < nI nl) ∨ ∀ w, w ≤ 6 → ¬ y2 = nI w) {KX : Nat → Prop} {K : Int32 → Prop} (h : KX 2) : wp_X5_legger P KX T C y1 y2 K := by
  have hn := hX.1
  refine ⟨fun a1 a2 => ?_, fun _ => h⟩
  rw [hn.nl1] at a2
  have hb := hb.resolve_left (fun z => z.elim a1 (fun y => y a2))
  exact ⟨fun e => absurd e (hb 0 (by decide)), fun e => absurd e (hb 1 (by decide)), fun e => absurd e (hb 2 (by decide)), fun e => absurd e (hb 3 (by decide)), fun e => absurd e (hb 4 (by decide)), fun e => absurd e (hb 5 (by decide)), fun e => absurd e (hb 6 (by decide)), fun _ _ _ _ _ _ _ => h⟩
theorem c_boat_x (hX : PRX P U kb np nl nb ns no) {y1 y2 : Int32} (hb : (y1 < 0 ∨ ¬ y1 < nI nb) ∨ ∀ w, w ≤ 6 → ¬ y2 = nI w) {KX : Nat → Prop} {K : Int32 → Prop} (h : KX 2) : wp_X5_boat P KX T C y1 y2 K := by
  have hn := hX.1
  refine ⟨fun a1 a2 => ?_, fun _ => h⟩
  rw [hn.nb1] at a2
  have hb := hb.resolve_left (fun z => z.elim a1 (fun y => y a2))
  exact ⟨fun e => absurd e (hb 0 (by decide)), fun e => absurd e (hb 1 (by decide)), fun e => absurd e (hb 2 (by decide)), fun e => absurd e (hb 3 (by decide)), fun e => absurd e (hb 4 (by decide)), fun e => absurd e (hb 5 (by decide)), fun e => absurd e (hb 6 (by decide)), fun _ _ _ _ _ _ _ => h⟩
theorem c_crew_x (hX : PRX P U kb np nl nb ns no) {y1 y2 : Int32} (hb : (y1 < 0 ∨ ¬ y1 < nI nb) ∨ (y2 < 0 ∨ ¬ y2 < 2)) {KX : Nat → Prop} {K : Int32 → Prop} (h : KX 2) : wp_X5_crew P KX T C y1 y2 K := by
  have hn := hX.1
  refine ⟨fun a1 a2 => ⟨fun b1 b2 => ?_, fun _ => h⟩, fun _ => h⟩
  rw [hn.nb1] at a2
  exact absurd hb (fun z => z.elim (fun z => z.elim a1 (fun y => y a2)) (fun z => z.elim b1 (fun y => y b2)))
theorem c_count_x {y : Int32} (hb : ∀ w, w ≤ 13 → ¬ y = nI w) {KX : Nat → Prop} {K : Int32 → Prop} (h : KX 2) : wp_X5_count P KX T C y K := ⟨fun e => absurd e (hb 0 (by decide)), fun e => absurd e (hb 1 (by decide)), fun e => absurd e (hb 2 (by decide)), fun e => absurd e (hb 3 (by decide)), fun e => absurd e (hb 4 (by decide)), fun e => absurd e (hb 5 (by decide)), fun e => absurd e (hb 6 (by decide)), fun e => absurd e (hb 7 (by decide)), fun e => absurd e (hb 8 (by decide)), fun e => absurd e (hb 9 (by decide)), fun e => absurd e (hb 10 (by decide)), fun e => absurd e (hb 11 (by decide)), fun e => absurd e (hb 12 (by decide)), fun e => absurd e (hb 13 (by decide)), fun _ _ _ _ _ _ _ _ _ _ _ _ _ _ => h⟩
theorem qS (S : M2) : QE S S := fun _ _ _ => rfl
theorem r_placeTold (hX : PRX P U kb np nl nb ns no) {N : M2} {i w : Nat} (hi : i < np) (hw : w ≤ 3) {K : Int32 → Prop} (h : K (plV U S nl nb i w)) : wp_X8_placeTold U S N (nI i) (nI w) K := by
  have hn := hX.1
  have h60 := hn.np3
  have hj : inb (nI i) 60 := inb_nI (by omega) (by decide)
  have tn : (nI i).toInt.toNat = i := tn_nI (by omega)
  match w, hw, h with
  | 0, _, h => exact ⟨fun z => absurd rfl z, fun _ => ⟨hj, by rw [tn]; exact h⟩⟩
  | 1, _, h => exact ⟨fun _ => ⟨fun z => absurd rfl z, fun _ => ⟨hj, by rw [tn]; exact h⟩⟩, fun z => absurd z (by decide)⟩
  | 2, _, h => exact ⟨fun _ => ⟨fun _ => ⟨fun z => absurd rfl z, fun _ => n_capsAt hn (qS S) h⟩, fun z => absurd z (by decide)⟩, fun z => absurd z (by decide)⟩
  | 3, _, h => exact ⟨fun _ => ⟨fun _ => ⟨fun _ => n_boatAt hn (qS S) h, fun z => absurd z (by decide)⟩, fun z => absurd z (by decide)⟩, fun z => absurd z (by decide)⟩
theorem r_boreTold (hX : PRX P U kb np nl nb ns no) {N : M2} {i w : Nat} (hi : i < kb) (hw : w ≤ 3) {K : Int32 → M2 → M2 → Prop} (h : K (boV U S i w) S N) : wp_X8_boreTold U S N (nI i) (nI w) K := by
  have hn := hX.1
  have h60 := hn.np3
  have h5 := hX.2.1.2.2
  have hj : inb (nI i) 5 := inb_nI (by omega) (by decide)
  have tn : (nI i).toInt.toNat = i := tn_nI (by omega)
  match w, hw, h with
  | 0, _, h => exact ⟨fun z => absurd z (by decide), fun _ => ⟨fun z => absurd rfl z, fun _ => ⟨hj, by rw [tn]; exact h⟩⟩⟩
  | 1, _, h => exact ⟨fun z => absurd z (by decide), fun _ => ⟨fun _ => ⟨fun z => absurd rfl z, fun _ => ⟨hj, by rw [tn]; exact h⟩⟩, fun z => absurd z (by decide)⟩⟩
  | 2, _, h => exact ⟨fun z => absurd z (by decide), fun _ => ⟨fun _ => ⟨fun _ => ⟨hj, by rw [tn]; exact h⟩, fun z => absurd z (by decide)⟩, fun z => absurd z (by decide)⟩⟩
  | 3, _, h =>
    refine ⟨fun _ => ?_, fun z => absurd (by decide) z⟩
    have h : K (sfr (S 202) (U 242 i).toInt.toNat (U 244 i).toInt.toNat 0) S N := h
    obtain ⟨x, f, _, _, hf, e1, e2, e3, e4, e5⟩ := hX.2.2.1 i hi
    rw [e2, e4, tn_nI (by omega), tn_nI (by omega)] at h
    have loop : ∀ (d j g : Nat) (a : Int32), j + d = x → d < g → K (sfr (S 202) d (f + j) a) S N → wl_X8_boreTold_53 U K g S N (nI i) a (nI j) := by
      intro d
      induction d with
      | zero =>
        intro j g a hj2 hg hk
        obtain ⟨g, rfl, _⟩ := fuel hg
        exact ⟨hj, fun _ => hk, fun z => absurd (by rw [tn, e2]; exact nI_le (by omega) (by omega)) z⟩
      | succ d ih =>
        intro j g a hj2 hg hk
        obtain ⟨g, rfl, _⟩ := fuel (show 0 < g by omega)
        refine ⟨hj, fun z => absurd z (by rw [tn, e2]; exact nI_ge (by omega) (by omega)), fun _ => ⟨hj, ?_⟩⟩
        rw [tn, e4, nI_add]
        refine ⟨inb_nI (by omega) (by decide), fun v1 e6 v2 e7 => ?_⟩
        rw [tn_nI (by omega)] at e6
        rw [nI_1] at e7
        subst e6 e7
        exact ih (j + 1) g _ (by omega) (by omega) hk
    exact loop x 0 fK 0 (by omega) (by rw [fK_eq]; omega) h
theorem r_leggerTold (hX : PRX P U kb np nl nb ns no) {N : M2} {i w : Nat} (hi : i < nl) (hw : w ≤ 6) {K : Int32 → M2 → M2 → Prop} (h : K (leV U S nb i w) S N) : wp_X8_leggerTold U S N (nI i) (nI w) K := by
  have hn := hX.1
  have h6 := hn.nl3
  have hj : inb (nI i) 6 := inb_nI (by omega) (by decide)
  have tn : (nI i).toInt.toNat = i := tn_nI (by omega)
  have tw : (nI w).toInt.toNat = w := tn_nI (by omega)
  have iw : inb (nI w) 7 := inb_nI (by omega) (by decide)
  have t0 : (0 : Int32).toInt.toNat = 0 := by decide
  have t1 : (1 : Int32).toInt.toNat = 1 := by decide
  have t2 : (2 : Int32).toInt.toNat = 2 := by decide
  have t3 : (3 : Int32).toInt.toNat = 3 := by decide
  have t4 : (4 : Int32).toInt.toNat = 4 := by decide
  have t5 : (5 : Int32).toInt.toNat = 5 := by decide
  have t6 : (6 : Int32).toInt.toNat = 6 := by decide
  refine ⟨hj, by decide, fun E1 e1 => ⟨hj, by decide, fun E2 e2 => ⟨hj, by decide, fun E3 e3 => ⟨hj, ?_⟩⟩⟩⟩
  have go : ∀ x : Int32, x = (if S 204 i = -1 then 1 else 0) → wj_X8_leggerToldT_60 U (fun r_ S_ N_ _ => K r_ S_ N_) S N E3 (nI i) (nI w) x 3 := fun x hx => by
    refine ⟨by decide, fun E4 e4 => n_boatOf hn (qS S) ⟨by decide, fun E5 e5 => ⟨hj, by decide, fun E6 e6 => ⟨hj, by decide, fun E7 e7 => ⟨iw, ?_⟩⟩⟩⟩⟩
    rw [tw]
    rw [tn, t0] at e1
    rw [tn, t1] at e2
    rw [tn, t2] at e3
    rw [t3] at e4
    rw [t4] at e5
    rw [tn, t5] at e6
    rw [tn, t6] at e7
    have e : E7 400 w = leV U S nb i w := by
      rw [e7, e6, e5, e4, e3, e2, e1]
      simp only [up2_s]
      match w, hw with
      | 0, _ => simp [upd, leV]
      | 1, _ => simp [upd, leV]
      | 2, _ => simp [upd, leV]
      | 3, _ => simp [upd, leV, hx]
      | 4, _ => simp [upd, leV]
      | 5, _ => simp [upd, leV]
      | 6, _ => simp [upd, leV]
    rw [e]
    exact h
  refine ⟨fun c => go 0 ?_, fun c => go 1 ?_⟩
  · rw [tn] at c
    rw [if_neg c]
  · rw [tn] at c
    rw [if_pos c]
theorem r_boatTold (hX : PRX P U kb np nl nb ns no) {N : M2} {i w : Nat} (hi : i < nb) (hw : w ≤ 6) {K : Int32 → M2 → M2 → Prop} (h : K (baV U S i w) S N) : wp_X8_boatTold U S N (nI i) (nI w) K := by
  have hn := hX.1
  have h8 := hn.nb3
  have hj : inb (nI i) 8 := inb_nI (by omega) (by decide)
  have tn : (nI i).toInt.toNat = i := tn_nI (by omega)
  have tw : (nI w).toInt.toNat = w := tn_nI (by omega)
  have iw : inb (nI w) 7 := inb_nI (by omega) (by decide)
  have t0 : (0 : Int32).toInt.toNat = 0 := by decide
  have t1 : (1 : Int32).toInt.toNat = 1 := by decide
  have t2 : (2 : Int32).toInt.toNat = 2 := by decide
  have t3 : (3 : Int32).toInt.toNat = 3 := by decide
  have t4 : (4 : Int32).toInt.toNat = 4 := by decide
  have t5 : (5 : Int32).toInt.toNat = 5 := by decide
  have t6 : (6 : Int32).toInt.toNat = 6 := by decide
  refine ⟨hj, by decide, fun E1 e1 => ⟨hj, by decide, fun E2 e2 => ⟨hj, by decide, fun E3 e3 => ⟨hj, by decide, fun E4 e4 => ⟨hj, by decide, fun E5 e5 => ⟨hj, by decide, fun E6 e6 => ⟨hj, by decide, fun E7 e7 => ⟨iw, ?_⟩⟩⟩⟩⟩⟩⟩⟩
  rw [tw]
  rw [tn, t0] at e1
  rw [tn, t1] at e2
  rw [tn, t2] at e3
  rw [tn, t3] at e4
  rw [tn, t4] at e5
  rw [tn, t5] at e6
  rw [tn, t6] at e7
  have e : E7 400 w = baV U S i w := by
    rw [e7, e6, e5, e4, e3, e2, e1]
    simp only [up2_s]
    match w, hw with
    | 0, _ => simp [upd, baV]
    | 1, _ => simp [upd, baV]
    | 2, _ => simp [upd, baV]
    | 3, _ => simp [upd, baV]
    | 4, _ => simp [upd, baV]
    | 5, _ => simp [upd, baV]
    | 6, _ => simp [upd, baV]
  rw [e]
  exact h
theorem r_counted (hX : PRX P U kb np nl nb ns no) {N : M2} {w : Nat} (hw : w ≤ 13) {K : Int32 → M2 → M2 → Prop} (h : K (coV U S np nl nb (N 222 0) w) S N) : wp_X8_counted U S N (nI w) K := by
  have hn := hX.1
  by_cases hc : 8 ≤ w ∧ w ≤ 12
  · refine isin1 (by rw [show (8 : Int32) = nI 8 from rfl, lt_nI (by omega) (by omega)]; omega) (by rw [show (12 : Int32) = nI 12 from rfl, lt_nI (by omega) (by omega)]; omega) ⟨fun z => absurd z (by decide), fun _ => ?_⟩
    have hcc : w = 8 ∨ w = 9 ∨ w = 10 ∨ w = 11 ∨ w = 12 := by omega
    rcases hcc with rfl | rfl | rfl | rfl | rfl
    · exact ⟨fun _ => n_those hn (qS S) h, fun e => absurd e (by decide), fun e => absurd e (by decide), fun e => absurd e (by decide), fun z0 z1 z2 z3 => absurd rfl z0⟩
    · exact ⟨fun e => absurd e (by decide), fun _ => n_those hn (qS S) h, fun e => absurd e (by decide), fun e => absurd e (by decide), fun z0 z1 z2 z3 => absurd rfl z1⟩
    · exact ⟨fun e => absurd e (by decide), fun e => absurd e (by decide), fun _ => n_those hn (qS S) h, fun e => absurd e (by decide), fun z0 z1 z2 z3 => absurd rfl z2⟩
    · exact ⟨fun e => absurd e (by decide), fun e => absurd e (by decide), fun e => absurd e (by decide), fun _ => n_allAir hn (qS S) h, fun z0 z1 z2 z3 => absurd rfl z3⟩
    · refine ⟨fun e => absurd e (by decide), fun e => absurd e (by decide), fun e => absurd e (by decide), fun e => absurd e (by decide), fun _ _ _ _ => n_capsAt hn (qS S) ?_⟩
      rw [hn.nl2]
      exact h
  · have t0 : (0 : Int32).toInt.toNat = 0 := by decide
    have t1 : (1 : Int32).toInt.toNat = 1 := by decide
    have t2 : (2 : Int32).toInt.toNat = 2 := by decide
    have t3 : (3 : Int32).toInt.toNat = 3 := by decide
    have t4 : (4 : Int32).toInt.toNat = 4 := by decide
    have t5 : (5 : Int32).toInt.toNat = 5 := by decide
    have t6 : (6 : Int32).toInt.toNat = 6 := by decide
    have t7 : (7 : Int32).toInt.toNat = 7 := by decide
    refine isin0 ?_ ⟨fun _ => ⟨by decide, fun E1 e1 => ⟨by decide, fun E2 e2 => ⟨by decide, fun E3 e3 => ⟨by decide, fun E4 e4 => ⟨by decide, fun E5 e5 => ⟨by decide, fun E6 e6 => ⟨by decide, fun E7 e7 => ⟨by decide, fun E8 e8 => ?_⟩⟩⟩⟩⟩⟩⟩⟩, fun z => absurd rfl z⟩
    · rw [show (8 : Int32) = nI 8 from rfl, show (12 : Int32) = nI 12 from rfl, lt_nI (by omega) (by omega), lt_nI (by omega) (by omega)]
      omega
    · rw [t0] at e1
      rw [t1] at e2
      rw [t2] at e3
      rw [t3] at e4
      rw [t4] at e5
      rw [t5] at e6
      rw [t6] at e7
      rw [t7] at e8
      rw [show (8 : Int32) = nI 8 from rfl, le_nI (by omega) (by omega)]
      refine ⟨fun c => ?_, fun c => ⟨inb_nI (by omega) (by decide), ?_⟩⟩
      · have e : w = 13 := by omega
        subst e
        exact h
      · rw [tn_nI (by omega)]
        have e : E8 400 w = coV U S np nl nb (N 222 0) w := by
          rw [e8, e7, e6, e5, e4, e3, e2, e1]
          simp only [up2_s]
          have hcc : w = 0 ∨ w = 1 ∨ w = 2 ∨ w = 3 ∨ w = 4 ∨ w = 5 ∨ w = 6 ∨ w = 7 := by omega
          rcases hcc with rfl | rfl | rfl | rfl | rfl | rfl | rfl | rfl <;> simp [upd, coV]
        rw [e]
        exact h
end TOLD
