/-! ===== the digest, the mean, the tape ===== -/
section CALLS3
def g31 (f : Nat → Int32) (j : Nat) (v : Int64) : Int64 := v * 31 + (f j).toInt64
def rowP (U S : M2) (nl nb i : Nat) (v : Int64) : Int64 := lfo (g31 (plV U S nl nb i)) 4 0 v
def rowB (U S : M2) (i : Nat) (v : Int64) : Int64 := lfo (g31 (boV U S i)) 4 0 v
def rowL (U S : M2) (nb i : Nat) (v : Int64) : Int64 := lfo (g31 (leV U S nb i)) 7 0 v
def rowT (U S : M2) (i : Nat) (v : Int64) : Int64 := ((lfo (g31 (baV U S i)) 7 0 v) * 31 + (U (310 + i) 0).toInt64) * 31 + (U (310 + i) 1).toInt64
variable {P U T S C N : M2} {kb np nl nb ns no : Nat}
theorem gt_nI {a b : Nat} (ha : a < 2147483648) (hb : b < 2147483648) : nI a < nI b ↔ a < b := lt_nI ha hb
theorem cd_boat_in (hX : PRX P U kb np nl nb ns no) (hR : RE np nl nb T S) {i : Nat} (hi : i < nb) {Cc : Int64 → Int32 → Prop} {K : Int64 → Prop} : ∀ (d j f : Nat) (v : Int64), j + d = 7 → d < f → Cc (((lfo (g31 (baV U S i)) d j v) * 31 + (U (310 + i) 0).toInt64) * 31 + (U (310 + i) 1).toInt64) (nI (i + 1)) → wl_X5_digest_207 P T C Cc K f v (nI i) (nI j) := by
  have hn := hX.1
  have h60 := hn.np3
  have h6 := hn.nl3
  have h8 := hn.nb3
  have h5 := hX.2.1.2.2
  intro d
  induction d with
  | zero =>
    intro j f v hj hf h
    obtain ⟨f, rfl, _⟩ := fuel hf
    refine ⟨fun _ => c_crew hX hi (w := 0) (by decide) (fun v1 e1 => c_crew hX hi (w := 1) (by decide) (fun v2 e2 v3 e3 => ?_)), fun z => absurd (by rw [(show (6 : Int32) = nI 6 from rfl), lt_nI (by omega) (by omega)]; omega) z⟩
    rw [nI_1] at e3
    subst e1 e2 e3
    exact h
  | succ d ih =>
    intro j f v hj hf h
    obtain ⟨f, rfl, _⟩ := fuel (show 0 < f by omega)
    refine ⟨fun z => absurd z (by rw [(show (6 : Int32) = nI 6 from rfl), lt_nI (by omega) (by omega)]; omega), fun _ => c_boat hX hR hi (by omega) (fun v1 e1 v4 e4 => ?_)⟩
    rw [nI_1] at e4
    subst e1 e4
    exact ih (j + 1) f _ (by omega) (by omega) h
theorem cd_legger_in (hX : PRX P U kb np nl nb ns no) (hR : RE np nl nb T S) {i : Nat} (hi : i < nl) {Cc : Int64 → Int32 → Prop} {K : Int64 → Prop} : ∀ (d j f : Nat) (v : Int64), j + d = 7 → d < f → Cc (lfo (g31 (leV U S nb i)) d j v) (nI (i + 1)) → wl_X5_digest_154 P T C Cc K f v (nI i) (nI j) := by
  have hn := hX.1
  have h60 := hn.np3
  have h6 := hn.nl3
  have h8 := hn.nb3
  have h5 := hX.2.1.2.2
  intro d
  induction d with
  | zero =>
    intro j f v hj hf h
    obtain ⟨f, rfl, _⟩ := fuel hf
    refine ⟨fun _ v3 e3 => ?_, fun z => absurd (by rw [(show (6 : Int32) = nI 6 from rfl), lt_nI (by omega) (by omega)]; omega) z⟩
    rw [nI_1] at e3
    subst e3
    exact h
  | succ d ih =>
    intro j f v hj hf h
    obtain ⟨f, rfl, _⟩ := fuel (show 0 < f by omega)
    refine ⟨fun z => absurd z (by rw [(show (6 : Int32) = nI 6 from rfl), lt_nI (by omega) (by omega)]; omega), fun _ => c_legger hX hR hi (by omega) (fun v1 e1 v4 e4 => ?_)⟩
    rw [nI_1] at e4
    subst e1 e4
    exact ih (j + 1) f _ (by omega) (by omega) h
theorem cd_bore_in (hX : PRX P U kb np nl nb ns no) (hR : RE np nl nb T S) {i : Nat} (hi : i < kb) {Cc : Int64 → Int32 → Prop} {K : Int64 → Prop} : ∀ (d j f : Nat) (v : Int64), j + d = 4 → d < f → Cc (lfo (g31 (boV U S i)) d j v) (nI (i + 1)) → wl_X5_digest_102 P T C Cc K f v (nI i) (nI j) := by
  have hn := hX.1
  have h60 := hn.np3
  have h6 := hn.nl3
  have h8 := hn.nb3
  have h5 := hX.2.1.2.2
  intro d
  induction d with
  | zero =>
    intro j f v hj hf h
    obtain ⟨f, rfl, _⟩ := fuel hf
    refine ⟨fun _ v3 e3 => ?_, fun z => absurd (by rw [(show (3 : Int32) = nI 3 from rfl), lt_nI (by omega) (by omega)]; omega) z⟩
    rw [nI_1] at e3
    subst e3
    exact h
  | succ d ih =>
    intro j f v hj hf h
    obtain ⟨f, rfl, _⟩ := fuel (show 0 < f by omega)
    refine ⟨fun z => absurd z (by rw [(show (3 : Int32) = nI 3 from rfl), lt_nI (by omega) (by omega)]; omega), fun _ => c_bore hX hR hi (by omega) (fun v1 e1 v4 e4 => ?_)⟩
    rw [nI_1] at e4
    subst e1 e4
    exact ih (j + 1) f _ (by omega) (by omega) h
theorem cd_place_in (hX : PRX P U kb np nl nb ns no) (hR : RE np nl nb T S) {i : Nat} (hi : i < np) {Cc : Int64 → Int32 → Prop} {K : Int64 → Prop} : ∀ (d j f : Nat) (v : Int64), j + d = 4 → d < f → Cc (lfo (g31 (plV U S nl nb i)) d j v) (nI (i + 1)) → wl_X5_digest_50 P T C Cc K f v (nI i) (nI j) := by
  have hn := hX.1
  have h60 := hn.np3
  have h6 := hn.nl3
  have h8 := hn.nb3
  have h5 := hX.2.1.2.2
  intro d
  induction d with
  | zero =>
    intro j f v hj hf h
    obtain ⟨f, rfl, _⟩ := fuel hf
    refine ⟨fun _ v3 e3 => ?_, fun z => absurd (by rw [(show (3 : Int32) = nI 3 from rfl), lt_nI (by omega) (by omega)]; omega) z⟩
    rw [nI_1] at e3
    subst e3
    exact h
  | succ d ih =>
    intro j f v hj hf h
    obtain ⟨f, rfl, _⟩ := fuel (show 0 < f by omega)
    refine ⟨fun z => absurd z (by rw [(show (3 : Int32) = nI 3 from rfl), lt_nI (by omega) (by omega)]; omega), fun _ => c_place hX hR hi (by omega) (fun v1 e1 v4 e4 => ?_)⟩
    rw [nI_1] at e4
    subst e1 e4
    exact ih (j + 1) f _ (by omega) (by omega) h
theorem cd_boat (hX : PRX P U kb np nl nb ns no) (hR : RE np nl nb T S) {K : Int64 → Prop} : ∀ (d i f : Nat) (v : Int64), i + d = nb → d < f → K (lfo (rowT U S) d i v) → wl_X5_digest_190 P T C K f v (nI i) := by
  have hn := hX.1
  have h60 := hn.np3
  have h6 := hn.nl3
  have h8 := hn.nb3
  have h5 := hX.2.1.2.2
  intro d
  induction d with
  | zero =>
    intro i f v hi hf h
    obtain ⟨f, rfl, _⟩ := fuel hf
    exact ⟨fun _ => h, fun z => absurd (by rw [hn.nb1, le_nI (by omega) (by omega)]; omega) z⟩
  | succ d ih =>
    intro i f v hi hf h
    obtain ⟨f, rfl, _⟩ := fuel (show 0 < f by omega)
    exact ⟨fun z => absurd z (by rw [hn.nb1, le_nI (by omega) (by omega)]; omega), fun _ => cd_boat_in hX hR (by omega) 7 0 fK v rfl (by rw [fK_eq]; decide) (ih (i + 1) f _ (by omega) (by omega) h)⟩
theorem cd_legger (hX : PRX P U kb np nl nb ns no) (hR : RE np nl nb T S) {K : Int64 → Prop} : ∀ (d i f : Nat) (v : Int64), i + d = nl → d < f → wl_X5_digest_190 P T C K fK (lfo (rowL U S nb) d i v) 0 → wl_X5_digest_137 P T C K f v (nI i) := by
  have hn := hX.1
  have h60 := hn.np3
  have h6 := hn.nl3
  have h8 := hn.nb3
  have h5 := hX.2.1.2.2
  intro d
  induction d with
  | zero =>
    intro i f v hi hf h
    obtain ⟨f, rfl, _⟩ := fuel hf
    exact ⟨fun _ => h, fun z => absurd (by rw [hn.nl1, le_nI (by omega) (by omega)]; omega) z⟩
  | succ d ih =>
    intro i f v hi hf h
    obtain ⟨f, rfl, _⟩ := fuel (show 0 < f by omega)
    exact ⟨fun z => absurd z (by rw [hn.nl1, le_nI (by omega) (by omega)]; omega), fun _ => cd_legger_in hX hR (by omega) 7 0 fK v rfl (by rw [fK_eq]; decide) (ih (i + 1) f _ (by omega) (by omega) h)⟩
theorem cd_bore (hX : PRX P U kb np nl nb ns no) (hR : RE np nl nb T S) {K : Int64 → Prop} : ∀ (d i f : Nat) (v : Int64), i + d = kb → d < f → wl_X5_digest_137 P T C K fK (lfo (rowB U S) d i v) 0 → wl_X5_digest_85 P T C K f v (nI i) := by
  have hn := hX.1
  have h60 := hn.np3
  have h6 := hn.nl3
  have h8 := hn.nb3
  have h5 := hX.2.1.2.2
  intro d
  induction d with
  | zero =>
    intro i f v hi hf h
    obtain ⟨f, rfl, _⟩ := fuel hf
    exact ⟨fun _ => h, fun z => absurd (by rw [hX.2.1.1, le_nI (by omega) (by omega)]; omega) z⟩
  | succ d ih =>
    intro i f v hi hf h
    obtain ⟨f, rfl, _⟩ := fuel (show 0 < f by omega)
    exact ⟨fun z => absurd z (by rw [hX.2.1.1, le_nI (by omega) (by omega)]; omega), fun _ => cd_bore_in hX hR (by omega) 4 0 fK v rfl (by rw [fK_eq]; decide) (ih (i + 1) f _ (by omega) (by omega) h)⟩
theorem cd_place (hX : PRX P U kb np nl nb ns no) (hR : RE np nl nb T S) {K : Int64 → Prop} : ∀ (d i f : Nat) (v : Int64), i + d = np → d < f → wl_X5_digest_85 P T C K fK (lfo (rowP U S nl nb) d i v) 0 → wl_X5_digest_33 P T C K f v (nI i) := by
  have hn := hX.1
  have h60 := hn.np3
  have h6 := hn.nl3
  have h8 := hn.nb3
  have h5 := hX.2.1.2.2
  intro d
  induction d with
  | zero =>
    intro i f v hi hf h
    obtain ⟨f, rfl, _⟩ := fuel hf
    exact ⟨fun _ => h, fun z => absurd (by rw [hn.np1, le_nI (by omega) (by omega)]; omega) z⟩
  | succ d ih =>
    intro i f v hi hf h
    obtain ⟨f, rfl, _⟩ := fuel (show 0 < f by omega)
    exact ⟨fun z => absurd z (by rw [hn.np1, le_nI (by omega) (by omega)]; omega), fun _ => cd_place_in hX hR (by omega) 4 0 fK v rfl (by rw [fK_eq]; decide) (ih (i + 1) f _ (by omega) (by omega) h)⟩
theorem cd_count (hX : PRX P U kb np nl nb ns no) (hR : RE np nl nb T S) {z : Int32} (hz : C 91 0 = z) {K : Int64 → Prop} : ∀ (d j f : Nat) (v : Int64), j + d = 14 → d < f → wl_X5_digest_33 P T C K fK (lfo (g31 (coV U S np nl nb z)) d j v) 0 → wl_X5_digest_6 P T C K f v (nI j) := by
  intro d
  induction d with
  | zero =>
    intro j f v hj hf h
    obtain ⟨f, rfl, _⟩ := fuel hf
    exact ⟨fun _ => h, fun z => absurd (by rw [(show (13 : Int32) = nI 13 from rfl), lt_nI (by omega) (by omega)]; omega) z⟩
  | succ d ih =>
    intro j f v hj hf h
    obtain ⟨f, rfl, _⟩ := fuel (show 0 < f by omega)
    refine ⟨fun z => absurd z (by rw [(show (13 : Int32) = nI 13 from rfl), lt_nI (by omega) (by omega)]; omega), fun _ => c_count hX hR hz (by omega) (fun v1 e1 v4 e4 => ?_)⟩
    rw [nI_1] at e4
    subst e1 e4
    exact ih (j + 1) f _ (by omega) (by omega) h
def dgV (U S : M2) (kb np nl nb : Nat) (z : Int32) : Int64 := lfo (rowT U S) nb 0 (lfo (rowL U S nb) nl 0 (lfo (rowB U S) kb 0 (lfo (rowP U S nl nb) np 0 (lfo (g31 (coV U S np nl nb z)) 14 0 857))))
theorem c_digest (hX : PRX P U kb np nl nb ns no) (hR : RE np nl nb T S) {z : Int32} (hz : C 91 0 = z) {K : Int64 → Prop} (h : K (dgV U S kb np nl nb z)) : wp_X5_digest P T C K := by
  have hn := hX.1
  have h60 := hn.np3
  have h6 := hn.nl3
  have h8 := hn.nb3
  have h5 := hX.2.1.2.2
  exact cd_count hX hR hz 14 0 fK 857 rfl (by rw [fK_eq]; decide) (cd_place hX hR np 0 fK _ (by omega) (by rw [fK_eq]; omega) (cd_bore hX hR kb 0 fK _ (by omega) (by rw [fK_eq]; omega) (cd_legger hX hR nl 0 fK _ (by omega) (by rw [fK_eq]; omega) (cd_boat hX hR nb 0 fK _ (by omega) (by rw [fK_eq]; omega) h))))
theorem rd_boat_in (hX : PRX P U kb np nl nb ns no) {i : Nat} (hi : i < nb) {Cc : M2 → M2 → Int64 → Int32 → Prop} {K : Int64 → M2 → M2 → Prop} : ∀ (d j f : Nat) (v : Int64), j + d = 7 → d < f → Cc S N (((lfo (g31 (baV U S i)) d j v) * 31 + (U (310 + i) 0).toInt64) * 31 + (U (310 + i) 1).toInt64) (nI (i + 1)) → wl_X8_digest_200 U Cc K f S N v (nI i) (nI j) := by
  have hn := hX.1
  have h60 := hn.np3
  have h6 := hn.nl3
  have h8 := hn.nb3
  have h5 := hX.2.1.2.2
  intro d
  induction d with
  | zero =>
    intro j f v hj hf h
    obtain ⟨f, rfl, _⟩ := fuel hf
    have inB : inb (nI i) 8 := inb_nI (by omega) (by decide)
    refine ⟨fun _ => ⟨inB, inB, by decide, inB, inB, by decide, fun v1 e1 v3 e3 => ?_⟩, fun z => absurd (by rw [(show (6 : Int32) = nI 6 from rfl), lt_nI (by omega) (by omega)]; omega) z⟩
    rw [tn_nI (by omega)] at e1
    rw [nI_1] at e3
    subst e1 e3
    exact h
  | succ d ih =>
    intro j f v hj hf h
    obtain ⟨f, rfl, _⟩ := fuel (show 0 < f by omega)
    refine ⟨fun z => absurd z (by rw [(show (6 : Int32) = nI 6 from rfl), lt_nI (by omega) (by omega)]; omega), fun _ => r_boatTold hX hi (by omega) (fun v1 e1 v4 e4 => ?_)⟩
    rw [nI_1] at e4
    subst e1 e4
    exact ih (j + 1) f _ (by omega) (by omega) h
theorem rd_legger_in (hX : PRX P U kb np nl nb ns no) {i : Nat} (hi : i < nl) {Cc : M2 → M2 → Int64 → Int32 → Prop} {K : Int64 → M2 → M2 → Prop} : ∀ (d j f : Nat) (v : Int64), j + d = 7 → d < f → Cc S N (lfo (g31 (leV U S nb i)) d j v) (nI (i + 1)) → wl_X8_digest_150 U Cc K f S N v (nI i) (nI j) := by
  have hn := hX.1
  have h60 := hn.np3
  have h6 := hn.nl3
  have h8 := hn.nb3
  have h5 := hX.2.1.2.2
  intro d
  induction d with
  | zero =>
    intro j f v hj hf h
    obtain ⟨f, rfl, _⟩ := fuel hf
    refine ⟨fun _ v3 e3 => ?_, fun z => absurd (by rw [(show (6 : Int32) = nI 6 from rfl), lt_nI (by omega) (by omega)]; omega) z⟩
    rw [nI_1] at e3
    subst e3
    exact h
  | succ d ih =>
    intro j f v hj hf h
    obtain ⟨f, rfl, _⟩ := fuel (show 0 < f by omega)
    refine ⟨fun z => absurd z (by rw [(show (6 : Int32) = nI 6 from rfl), lt_nI (by omega) (by omega)]; omega), fun _ => r_leggerTold hX hi (by omega) (fun v1 e1 v4 e4 => ?_)⟩
    rw [nI_1] at e4
    subst e1 e4
    exact ih (j + 1) f _ (by omega) (by omega) h
theorem rd_bore_in (hX : PRX P U kb np nl nb ns no) {i : Nat} (hi : i < kb) {Cc : M2 → M2 → Int64 → Int32 → Prop} {K : Int64 → M2 → M2 → Prop} : ∀ (d j f : Nat) (v : Int64), j + d = 4 → d < f → Cc S N (lfo (g31 (boV U S i)) d j v) (nI (i + 1)) → wl_X8_digest_101 U Cc K f S N v (nI i) (nI j) := by
  have hn := hX.1
  have h60 := hn.np3
  have h6 := hn.nl3
  have h8 := hn.nb3
  have h5 := hX.2.1.2.2
  intro d
  induction d with
  | zero =>
    intro j f v hj hf h
    obtain ⟨f, rfl, _⟩ := fuel hf
    refine ⟨fun _ v3 e3 => ?_, fun z => absurd (by rw [(show (3 : Int32) = nI 3 from rfl), lt_nI (by omega) (by omega)]; omega) z⟩
    rw [nI_1] at e3
    subst e3
    exact h
  | succ d ih =>
    intro j f v hj hf h
    obtain ⟨f, rfl, _⟩ := fuel (show 0 < f by omega)
    refine ⟨fun z => absurd z (by rw [(show (3 : Int32) = nI 3 from rfl), lt_nI (by omega) (by omega)]; omega), fun _ => r_boreTold hX hi (by omega) (fun v1 e1 v4 e4 => ?_)⟩
    rw [nI_1] at e4
    subst e1 e4
    exact ih (j + 1) f _ (by omega) (by omega) h
theorem rd_place_in (hX : PRX P U kb np nl nb ns no) {i : Nat} (hi : i < np) {Cc : M2 → M2 → Int64 → Int32 → Prop} {K : Int64 → M2 → M2 → Prop} : ∀ (d j f : Nat) (v : Int64), j + d = 4 → d < f → Cc S N (lfo (g31 (plV U S nl nb i)) d j v) (nI (i + 1)) → wl_X8_digest_52 U Cc K f S N v (nI i) (nI j) := by
  have hn := hX.1
  have h60 := hn.np3
  have h6 := hn.nl3
  have h8 := hn.nb3
  have h5 := hX.2.1.2.2
  intro d
  induction d with
  | zero =>
    intro j f v hj hf h
    obtain ⟨f, rfl, _⟩ := fuel hf
    refine ⟨fun _ v3 e3 => ?_, fun z => absurd (by rw [(show (3 : Int32) = nI 3 from rfl), lt_nI (by omega) (by omega)]; omega) z⟩
    rw [nI_1] at e3
    subst e3
    exact h
  | succ d ih =>
    intro j f v hj hf h
    obtain ⟨f, rfl, _⟩ := fuel (show 0 < f by omega)
    refine ⟨fun z => absurd z (by rw [(show (3 : Int32) = nI 3 from rfl), lt_nI (by omega) (by omega)]; omega), fun _ => r_placeTold hX hi (by omega) (fun v1 e1 v4 e4 => ?_)⟩
    rw [nI_1] at e4
    subst e1 e4
    exact ih (j + 1) f _ (by omega) (by omega) h
theorem rd_boat (hX : PRX P U kb np nl nb ns no) {K : Int64 → M2 → M2 → Prop} : ∀ (d i f : Nat) (v : Int64), i + d = nb → d < f → K (lfo (rowT U S) d i v) S N → wl_X8_digest_186 U K f S N v (nI i) := by
  have hn := hX.1
  have h60 := hn.np3
  have h6 := hn.nl3
  have h8 := hn.nb3
  have h5 := hX.2.1.2.2
  intro d
  induction d with
  | zero =>
    intro i f v hi hf h
    obtain ⟨f, rfl, _⟩ := fuel hf
    exact ⟨fun _ => h, fun z => absurd (by rw [hn.nb2, le_nI (by omega) (by omega)]; omega) z⟩
  | succ d ih =>
    intro i f v hi hf h
    obtain ⟨f, rfl, _⟩ := fuel (show 0 < f by omega)
    exact ⟨fun z => absurd z (by rw [hn.nb2, le_nI (by omega) (by omega)]; omega), fun _ => rd_boat_in hX (by omega) 7 0 8 v rfl (by first | decide | (rw [fK_eq]; decide)) (ih (i + 1) f _ (by omega) (by omega) h)⟩
theorem rd_legger (hX : PRX P U kb np nl nb ns no) {K : Int64 → M2 → M2 → Prop} : ∀ (d i f : Nat) (v : Int64), i + d = nl → d < f → wl_X8_digest_186 U K 9 S N (lfo (rowL U S nb) d i v) 0 → wl_X8_digest_136 U K f S N v (nI i) := by
  have hn := hX.1
  have h60 := hn.np3
  have h6 := hn.nl3
  have h8 := hn.nb3
  have h5 := hX.2.1.2.2
  intro d
  induction d with
  | zero =>
    intro i f v hi hf h
    obtain ⟨f, rfl, _⟩ := fuel hf
    exact ⟨fun _ => h, fun z => absurd (by rw [hn.nl2, le_nI (by omega) (by omega)]; omega) z⟩
  | succ d ih =>
    intro i f v hi hf h
    obtain ⟨f, rfl, _⟩ := fuel (show 0 < f by omega)
    exact ⟨fun z => absurd z (by rw [hn.nl2, le_nI (by omega) (by omega)]; omega), fun _ => rd_legger_in hX (by omega) 7 0 8 v rfl (by first | decide | (rw [fK_eq]; decide)) (ih (i + 1) f _ (by omega) (by omega) h)⟩
theorem rd_bore (hX : PRX P U kb np nl nb ns no) {K : Int64 → M2 → M2 → Prop} : ∀ (d i f : Nat) (v : Int64), i + d = kb → d < f → wl_X8_digest_136 U K 7 S N (lfo (rowB U S) d i v) 0 → wl_X8_digest_87 U K f S N v (nI i) := by
  have hn := hX.1
  have h60 := hn.np3
  have h6 := hn.nl3
  have h8 := hn.nb3
  have h5 := hX.2.1.2.2
  intro d
  induction d with
  | zero =>
    intro i f v hi hf h
    obtain ⟨f, rfl, _⟩ := fuel hf
    exact ⟨fun _ => h, fun z => absurd (by rw [hX.2.1.2.1, le_nI (by omega) (by omega)]; omega) z⟩
  | succ d ih =>
    intro i f v hi hf h
    obtain ⟨f, rfl, _⟩ := fuel (show 0 < f by omega)
    exact ⟨fun z => absurd z (by rw [hX.2.1.2.1, le_nI (by omega) (by omega)]; omega), fun _ => rd_bore_in hX (by omega) 4 0 fK v rfl (by first | decide | (rw [fK_eq]; decide)) (ih (i + 1) f _ (by omega) (by omega) h)⟩
theorem rd_place (hX : PRX P U kb np nl nb ns no) {K : Int64 → M2 → M2 → Prop} : ∀ (d i f : Nat) (v : Int64), i + d = np → d < f → wl_X8_digest_87 U K fK S N (lfo (rowP U S nl nb) d i v) 0 → wl_X8_digest_38 U K f S N v (nI i) := by
  have hn := hX.1
  have h60 := hn.np3
  have h6 := hn.nl3
  have h8 := hn.nb3
  have h5 := hX.2.1.2.2
  intro d
  induction d with
  | zero =>
    intro i f v hi hf h
    obtain ⟨f, rfl, _⟩ := fuel hf
    exact ⟨fun _ => h, fun z => absurd (by rw [hn.np2, le_nI (by omega) (by omega)]; omega) z⟩
  | succ d ih =>
    intro i f v hi hf h
    obtain ⟨f, rfl, _⟩ := fuel (show 0 < f by omega)
    exact ⟨fun z => absurd z (by rw [hn.np2, le_nI (by omega) (by omega)]; omega), fun _ => rd_place_in hX (by omega) 4 0 fK v rfl (by first | decide | (rw [fK_eq]; decide)) (ih (i + 1) f _ (by omega) (by omega) h)⟩
theorem rd_count (hX : PRX P U kb np nl nb ns no) {K : Int64 → M2 → M2 → Prop} : ∀ (d j f : Nat) (v : Int64), j + d = 14 → d < f → wl_X8_digest_38 U K fK S N (lfo (g31 (coV U S np nl nb (N 222 0))) d j v) 0 → wl_X8_digest_11 U K f S N v (nI j) := by
  intro d
  induction d with
  | zero =>
    intro j f v hj hf h
    obtain ⟨f, rfl, _⟩ := fuel hf
    exact ⟨fun _ => h, fun z => absurd (by rw [(show (13 : Int32) = nI 13 from rfl), lt_nI (by omega) (by omega)]; omega) z⟩
  | succ d ih =>
    intro j f v hj hf h
    obtain ⟨f, rfl, _⟩ := fuel (show 0 < f by omega)
    refine ⟨fun z => absurd z (by rw [(show (13 : Int32) = nI 13 from rfl), lt_nI (by omega) (by omega)]; omega), fun _ => r_counted hX (by omega) (fun v1 e1 v4 e4 => ?_)⟩
    rw [nI_1] at e4
    subst e1 e4
    exact ih (j + 1) f _ (by omega) (by omega) h
theorem r_digest (hX : PRX P U kb np nl nb ns no) {K : Int64 → M2 → M2 → Prop} (h : K (dgV U S kb np nl nb (N 222 0)) S (zN N)) : wp_X8_digest U S N K := by
  have hn := hX.1
  have h60 := hn.np3
  have h6 := hn.nl3
  have h8 := hn.nb3
  have h5 := hX.2.1.2.2
  intro N1 e1
  have e1 : N1 = zN N := e1
  subst e1
  rw [← show (zN N) 222 0 = N 222 0 by rw [zN_n (by decide)]] at h
  exact rd_count hX 14 0 15 857 rfl (by decide) (rd_place hX np 0 fK _ (by omega) (by rw [fK_eq]; omega) (rd_bore hX kb 0 fK _ (by omega) (by rw [fK_eq]; omega) (rd_legger hX nl 0 7 _ (by omega) (by omega) (rd_boat hX nb 0 9 _ (by omega) (by omega) h))))
/-! the mean -/
def suL (S : M2) (d j : Nat) (v : Int32) : Int32 := lfo (fun i a => a + S 203 i) d j v
def meV (S : M2) (nl : Nat) : UInt64 := FP.ddiv (FP.i2d (suL S nl 0 0)) (FP.i2d (nI nl))
theorem vf_of {x : UInt64} (h : FP.dIsNaN x = false) : vf_n64 x := by
  have h1 : ¬ 9218868437227405312 < x.toNat % 2 ^ 63 := fun z => by
    exact Bool.noConfusion (((Jvm.FP.Core.isNaN_bits x).mpr z).symm.trans h)
  unfold vf_n64
  rw [UInt64.le_iff_toNat_le, UInt64.toNat_and]
  have e : (0x7fffffffffffffff : UInt64).toNat = 2 ^ 63 - 1 := by decide
  rw [e, Nat.and_two_pow_sub_one_eq_mod]
  have e2 : (0x7ff0000000000000 : UInt64).toNat = 9218868437227405312 := by decide
  omega
theorem me_n (S : M2) {nl : Nat} (h0 : 0 < nl) (h6 : nl ≤ 6) : vf_n64 (meV S nl) := vf_of (Jvm.FP.Core.ddiv_out (Jvm.FP.Core.DFin.notNaN (Jvm.FP.Core.i2d_fin _)) (Jvm.FP.Core.i2d_fin _) (fun z => Jvm.FP.Core.i2d_ne_zero (fun e => nI_ne (a := nl) (b := 0) (by omega) (by decide) (by omega) e) ((Jvm.FP.Core.zero_bits2 _).mp z)))
theorem c_meanL (hX : PRX P U kb np nl nb ns no) (hR : RE np nl nb T S) {K : UInt64 → M2 → M2 → Prop} (h0 : 0 < nl) (hK : K (meV S nl) T C) : ∀ (d j f : Nat) (v : Int32), j + d = nl → d < f → suL S d j v = suL S nl 0 0 → wl_X5_mean_21 P K f T C (nI nl) v (nI j) := by
  have hn := hX.1
  have h6 := hn.nl3
  intro d
  induction d with
  | zero =>
    intro j f v hj hf hs
    obtain ⟨f, rfl, _⟩ := fuel hf
    have hs : v = suL S nl 0 0 := hs
    subst hs
    exact ⟨fun _ => ⟨me_n S h0 h6, hK⟩, fun z => absurd (by rw [le_nI (by omega) (by omega)]; omega) z⟩
  | succ d ih =>
    intro j f v hj hf hs
    obtain ⟨f, rfl, _⟩ := fuel (show 0 < f by omega)
    refine ⟨fun z => absurd z (by rw [le_nI (by omega) (by omega)]; omega), fun _ v2 e2 v3 e3 => ?_⟩
    rw [atv_nI (by omega) (by decide), hR.breath (by omega)] at e2
    rw [nI_1] at e3
    subst e2 e3
    exact ih (j + 1) f _ (by omega) (by omega) hs
theorem r_meanL (hX : PRX P U kb np nl nb ns no) {K : UInt64 → M2 → M2 → Prop} (hK : K (if nl = 0 then FP.dconst0 else meV S nl) S N) : ∀ (d j f : Nat) (v : Int32), j + d = nl → d < f → suL S d j v = suL S nl 0 0 → wl_X8_mean_9 U K f S N v (nI j) := by
  have hn := hX.1
  have h6 := hn.nl3
  intro d
  induction d with
  | zero =>
    intro j f v hj hf hs
    obtain ⟨f, rfl, _⟩ := fuel hf
    have hs : v = suL S nl 0 0 := hs
    subst hs
    unfold wl_X8_mean_9
    rw [hn.nl2]
    by_cases h0 : nl = 0
    · rw [if_pos h0] at hK
      exact ⟨fun _ => ⟨fun z => absurd (by rw [h0]; rfl) z, fun _ => hK⟩, fun z => absurd (by rw [le_nI (by omega) (by omega)]; omega) z⟩
    · rw [if_neg h0] at hK
      exact ⟨fun _ => ⟨fun _ => ⟨me_n S (by omega) h6, hK⟩, fun z => absurd z (nI_ne (a := nl) (b := 0) (by omega) (by decide) (by omega))⟩, fun z => absurd (by rw [le_nI (by omega) (by omega)]; omega) z⟩
  | succ d ih =>
    intro j f v hj hf hs
    obtain ⟨f, rfl, _⟩ := fuel (show 0 < f by omega)
    refine ⟨fun z => absurd z (by rw [hn.nl2, le_nI (by omega) (by omega)]; omega), fun _ => ⟨inb_nI (by omega) (by decide), fun v2 e2 v3 e3 => ?_⟩⟩
    rw [tn_nI (by omega)] at e2
    rw [nI_1] at e3
    subst e2 e3
    exact ih (j + 1) f _ (by omega) (by omega) hs
theorem c_mean (hX : PRX P U kb np nl nb ns no) (hR : RE np nl nb T S) {K : UInt64 → M2 → M2 → Prop} (hK : K (if nl = 0 then FP.dconst0 else meV S nl) T C) : wp_X5_mean P T C K := by
  have hn := hX.1
  have h6 := hn.nl3
  intro v e
  rw [hn.nl1] at e
  subst e
  by_cases h0 : nl = 0
  · rw [if_pos h0] at hK
    exact ⟨fun z => absurd z (by rw [show (0 : Int32) = nI 0 from rfl, lt_nI (by omega) (by omega)]; omega), fun _ => hK⟩
  · rw [if_neg h0] at hK
    exact ⟨fun _ => c_meanL hX hR (by omega) hK nl 0 fK 0 (by omega) (by rw [fK_eq]; omega) rfl, fun z => absurd (by rw [show (0 : Int32) = nI 0 from rfl, lt_nI (by omega) (by omega)]; omega) z⟩
theorem r_mean (hX : PRX P U kb np nl nb ns no) {K : UInt64 → M2 → M2 → Prop} (hK : K (if nl = 0 then FP.dconst0 else meV S nl) S (zN N)) : wp_X8_mean U S N K := by
  have hn := hX.1
  have h6 := hn.nl3
  intro N1 e1
  have e1 : N1 = zN N := e1
  subst e1
  exact r_meanL hX hK nl 0 fK 0 (by omega) (by rw [fK_eq]; omega) rfl
end CALLS3
/-! a word more on the tape -/
section CALLS4
theorem c_app1 {F C : M2} {x s : Int32} {m n : Nat} {K : M2 → M2 → Prop} (hm : m < 2000) (hC : C 91 0 = nI m) (hs : ¬ s < 0) (h : wl_X5_append_3 K n (up2 F 80 (upd (F 80) m (clB x s))) (up2 C 91 (fun _ => nI (m + 1))) x (s + (-8))) : wl_X5_append_3 K (n + 1) F C x s := by
  refine ⟨fun z => absurd z hs, fun _ => ⟨fun z => absurd z (by rw [hC]; exact nI_pos (by omega)), fun _ => ⟨fun z => absurd z (by rw [hC, show Int32.ofNat 2000 = nI 2000 from rfl, le_nI (by omega) (by omega)]; omega), fun _ => ⟨by rw [hC]; exact inb_nI hm (by decide), fun F1 e1 C1 e2 v e3 => ?_⟩⟩⟩⟩
  rw [hC, tn_nI (by omega)] at e1
  rw [hC, nI_1] at e2
  subst e1 e2 e3
  exact h
def fB (F : M2) (m : Nat) (x : Int32) : M2 := up2 F 80 (fun i => if i = m + 3 then clB x 0 else if i = m + 2 then clB x 8 else if i = m + 1 then clB x 16 else if i = m then clB x 24 else F 80 i)
def fC (C : M2) (m : Nat) : M2 := up2 C 91 (fun _ => nI (m + 4))
theorem c_app {F C : M2} {x : Int32} {m : Nat} {K : M2 → M2 → Prop} (hm : m + 4 ≤ 2000) (hC : C 91 0 = nI m) (h : K (fB F m x) (fC C m)) : wp_X5_append F C x K := by
  unfold wp_X5_append
  rw [fK_eq]
  refine c_app1 (n := 4095) (m := m) (by omega) hC (by decide) ?_
  refine c_app1 (n := 4094) (m := m + 1) (by omega) (by rw [up2_s]) (by decide) ?_
  refine c_app1 (n := 4093) (m := m + 2) (by omega) (by rw [up2_s]) (by decide) ?_
  refine c_app1 (n := 4092) (m := m + 3) (by omega) (by rw [up2_s]) (by decide) ?_
  refine ⟨fun _ => ?_, fun z => absurd (by decide) z⟩
  have e1 : ((24 : Int32) + (-8)) = 16 := by decide
  have e2 : ((16 : Int32) + (-8)) = 8 := by decide
  have e3 : ((8 : Int32) + (-8)) = 0 := by decide
  rw [e1, e2, e3]
  simp only [up2_up2, up2_s]
  have eF : up2 F 80 (upd (upd (upd (upd (F 80) m (clB x 24)) (m + 1) (clB x 16)) (m + 1 + 1) (clB x 8)) (m + 1 + 1 + 1) (clB x 0)) = fB F m x := by
    unfold fB upd
    rfl
  rw [eF]
  exact h
theorem fC_91 {C : M2} {m : Nat} : (fC C m) 91 0 = nI (m + 4) := by unfold fC; rw [up2_s]
theorem c_feed {B C : M2} {m : Nat} {y1 y2 y3 y4 y5 : Int32} {KX : Nat → Prop} {K : Int32 → M2 → M2 → Prop} (hm : m + 20 ≤ 2000) (hC : C 91 0 = nI m) (h : ∀ B' C', C' 91 0 = nI (m + 20) → C' 92 = C 92 → (∀ i, i < m → B' 80 i = B 80 i) → (∀ j, j < 20 → B' 80 (m + j) = clB (if j / 4 = 0 then y1 else if j / 4 = 1 then y2 else if j / 4 = 2 then y3 else if j / 4 = 3 then y4 else y5) (nI (24 - 8 * (j % 4)))) → K (nI (m + 20)) B' C') : wp_X5_feed KX B C y1 y2 y3 y4 y5 K := by
  have e20 : nI m + 20 = nI (m + 20) := by
    rw [show (20 : Int32) = nI 20 from rfl, nI_add]
  refine ⟨fun _ => ?_, fun z => absurd (by rw [hC, e20, show (2000 : Int32) = nI 2000 from rfl, le_nI (by omega) (by omega)]; omega) z⟩
  refine c_app (m := m) (by omega) hC (c_app (m := m + 4) (by omega) fC_91 (c_app (m := m + 8) (by omega) fC_91 (c_app (m := m + 12) (by omega) fC_91 (c_app (m := m + 16) (by omega) fC_91 ?_))))
  rw [fC_91]
  refine h _ _ fC_91 ?_ ?_ ?_
  · unfold fC
    rw [up2_n _ _ (by decide), up2_n _ _ (by decide), up2_n _ _ (by decide), up2_n _ _ (by decide), up2_n _ _ (by decide)]
  · intro i hi
    unfold fB
    simp only [up2_s]
    simp only [show ¬ i = m + 16 + 3 by omega, show ¬ i = m + 16 + 2 by omega, show ¬ i = m + 16 + 1 by omega, show ¬ i = m + 16 by omega, show ¬ i = m + 12 + 3 by omega, show ¬ i = m + 12 + 2 by omega, show ¬ i = m + 12 + 1 by omega, show ¬ i = m + 12 by omega, show ¬ i = m + 8 + 3 by omega, show ¬ i = m + 8 + 2 by omega, show ¬ i = m + 8 + 1 by omega, show ¬ i = m + 8 by omega, show ¬ i = m + 4 + 3 by omega, show ¬ i = m + 4 + 2 by omega, show ¬ i = m + 4 + 1 by omega, show ¬ i = m + 4 by omega, show ¬ i = m + 3 by omega, show ¬ i = m + 2 by omega, show ¬ i = m + 1 by omega, show ¬ i = m by omega, if_false]
  · intro j hj
    unfold fB
    simp only [up2_s]
    have hc : j = 0 ∨ j = 1 ∨ j = 2 ∨ j = 3 ∨ j = 4 ∨ j = 5 ∨ j = 6 ∨ j = 7 ∨ j = 8 ∨ j = 9 ∨ j = 10 ∨ j = 11 ∨ j = 12 ∨ j = 13 ∨ j = 14 ∨ j = 15 ∨ j = 16 ∨ j = 17 ∨ j = 18 ∨ j = 19 := by omega
    rcases hc with rfl | rfl | rfl | rfl | rfl | rfl | rfl | rfl | rfl | rfl | rfl | rfl | rfl | rfl | rfl | rfl | rfl | rfl | rfl | rfl <;> simp [Nat.add_assoc] <;> rfl
def fW (y1 y2 y3 y4 y5 : Int32) (k : Nat) : Int32 := if k = 0 then y1 else if k = 1 then y2 else if k = 2 then y3 else if k = 3 then y4 else y5
theorem r_feedL {N E : M2} {m : Nat} {y1 y2 y3 y4 y5 : Int32} {K : Int32 → M2 → M2 → M2 → Prop} (hm : m + 20 ≤ 2000) (hN : N 222 0 = nI m) (hE : ∀ k, k < 5 → E 400 k = fW y1 y2 y3 y4 y5 k) : ∀ (d j f : Nat) (V : M2), j + d = 20 → d < f → (∀ V', (∀ i, i < m + j → V' 221 i = V 221 i) → (∀ i, j ≤ i → i < 20 → V' 221 (m + i) = (fW y1 y2 y3 y4 y5 (i / 4) >>> nI (24 - 8 * (i % 4))) &&& 255) → K (nI (m + 20)) (up2 N 222 (fun _ => nI (m + 20))) V' E) → wl_X8_feedT_51 K f N V E (nI j) := by
  have e20 : nI m + 20 = nI (m + 20) := by
    rw [show (20 : Int32) = nI 20 from rfl, nI_add]
  intro d
  induction d with
  | zero =>
    intro j f V hj hf hK
    obtain ⟨f, rfl, _⟩ := fuel hf
    refine ⟨fun _ N1 e1 => ?_, fun z => absurd (by rw [show (20 : Int32) = nI 20 from rfl, le_nI (by omega) (by omega)]; omega) z⟩
    rw [hN, e20] at e1
    subst e1
    rw [up2_s]
    exact hK V (fun _ _ => rfl) (fun i h1 h2 => by omega)
  | succ d ih =>
    intro j f V hj hf hK
    obtain ⟨f, rfl, _⟩ := fuel (show 0 < f by omega)
    have e4 : nI j / 4 = nI (j / 4) := by
      have key : ∀ a : Fin 20, nI a.val / 4 = nI (a.val / 4) := by decide
      exact key ⟨j, by omega⟩
    have es : ((24 - (8 * (nI j - nI (j / 4) * 4))) &&& 31 : Int32) = nI (24 - 8 * (j % 4)) := by
      have key : ∀ a : Fin 20, ((24 - (8 * (nI a.val - nI (a.val / 4) * 4))) &&& 31 : Int32) = nI (24 - 8 * (a.val % 4)) := by decide
      exact key ⟨j, by omega⟩
    refine ⟨fun z => absurd z (by rw [show (20 : Int32) = nI 20 from rfl, le_nI (by omega) (by omega)]; omega), fun _ => ⟨by rw [e4]; exact inb_nI (by omega) (by decide), by rw [hN, nI_add]; exact inb_nI (by omega) (by decide), fun V1 e1 v e2 => ?_⟩⟩
    rw [hN, nI_add, tn_nI (by omega), e4, tn_nI (by omega), es, hE _ (by omega)] at e1
    rw [nI_1] at e2
    subst e1 e2
    refine ih (j + 1) f _ (by omega) (by omega) (fun V' g1 g2 => hK V' (fun i hi => ?_) (fun i h1 h2 => ?_))
    · rw [g1 i (by omega), up2_s]
      show (if i = m + j then _ else V 221 i) = _
      rw [if_neg (by omega)]
    · by_cases h : i = j
      · subst h
        rw [g1 _ (by omega), up2_s]
        show (if m + i = m + i then _ else V 221 (m + i)) = _
        rw [if_pos rfl]
      · exact g2 i (by omega) h2
theorem r_feed {N V : M2} {m : Nat} {y1 y2 y3 y4 y5 : Int32} {K : Int32 → M2 → M2 → Prop} (hm : m + 20 ≤ 2000) (hN : N 222 0 = nI m) (h : ∀ V', (∀ i, i < m → V' 221 i = V 221 i) → (∀ i, i < 20 → V' 221 (m + i) = (fW y1 y2 y3 y4 y5 (i / 4) >>> nI (24 - 8 * (i % 4))) &&& 255) → K (nI (m + 20)) (up2 (zN N) 222 (fun _ => nI (m + 20))) V') : wp_X8_feed N V y1 y2 y3 y4 y5 K := by
  intro N1 e1
  have e1 : N1 = zN N := e1
  subst e1
  have hN : (zN N) 222 0 = nI m := by rw [zN_n (by decide)]; exact hN
  refine ⟨fun _ => ⟨by decide, fun E1 e1 => ⟨by decide, fun E2 e2 => ⟨by decide, fun E3 e3 => ⟨by decide, fun E4 e4 => ⟨by decide, fun E5 e5 => ?_⟩⟩⟩⟩⟩, fun z => absurd (by rw [hN, show (1980 : Int32) = nI 1980 from rfl, le_nI (by omega) (by omega)]; omega) z⟩
  refine r_feedL hm hN (fun k hk => ?_) 20 0 fK V rfl (by rw [fK_eq]; decide) (fun V' g1 g2 => h V' g1 (fun i hi => g2 i (by omega) hi))
  subst e1 e2 e3 e4 e5
  have hc : k = 0 ∨ k = 1 ∨ k = 2 ∨ k = 3 ∨ k = 4 := by omega
  rcases hc with rfl | rfl | rfl | rfl | rfl <;> rfl
variable {q : Nat → Nat} {ap bp rp : Nat} {C T G P Y : M2} {L : L2} {B : M2} {X : L2} {S O N V J U : M2} {y1 y2 y3 y4 y5 : Int32}
theorem po_feed (h : IVL C T P Y L B S N V U) : wp_op_feed q ap bp rp C T G P Y L B X S O N V J U y1 y2 y3 y4 y5 KIV := by
  obtain ⟨kb, np, nl, nb, ns, no, n, hX, hR, hI, hW, hT, h92, h212⟩ := id h
  unfold wp_op_feed wp_L_feed
  by_cases hn : n + 20 ≤ 2000
  · refine c_feed hn hT.2.1 (fun B1 C1 c1 c2 c3 c4 => ⟨by decide, fun X1 e1 => ?_⟩)
    subst e1
    refine r_feed hn hT.2.2.1 (fun V1 v1 v2 => ?_)
    refine cmp_v (by rw [up2_n _ _ (by decide), zN_0]) rfl ?_
    refine IVL.act hX hR hI hW ⟨hn, c1, by rw [up2_s], fun i hi => ?_⟩ (by rw [c2, up2_n _ _ (by decide), zN_n (by decide)]; exact h92) h212
    by_cases hi2 : i < n
    · rw [c3 i hi2, v1 i hi2]
      exact hT.2.2.2 i hi2
    · obtain ⟨j, rfl⟩ : ∃ j, i = n + j := ⟨i - n, by omega⟩
      rw [v2 j (by omega), c4 j (by omega)]
      have key : ∀ x : Int32, (x >>> nI (24 - 8 * (j % 4))) &&& 255 = clB x (nI (24 - 8 * (j % 4))) &&& 255 := by
        intro x
        have hc : j % 4 = 0 ∨ j % 4 = 1 ∨ j % 4 = 2 ∨ j % 4 = 3 := by omega
        rcases hc with e | e | e | e <;> rw [e]
        · exact (clB_24 x).symm
        · exact (clB_16 x).symm
        · exact (clB_8 x).symm
        · exact (clB_0 x).symm
      exact key _
  · have hn2 := hT.1
    have e20 : nI n + 20 = nI (n + 20) := by
      rw [show (20 : Int32) = nI 20 from rfl, nI_add]
    refine ⟨fun z => absurd z (by rw [hT.2.1, e20, show (2000 : Int32) = nI 2000 from rfl, le_nI (by omega) (by omega)]; omega), fun _ => ⟨rfl, ?_⟩⟩
    intro N1 e1
    have e1 : N1 = zN N := e1
    subst e1
    refine ⟨fun z => absurd z (by rw [zN_n (by decide), hT.2.2.1, show (1980 : Int32) = nI 1980 from rfl, le_nI (by omega) (by omega)]; omega), fun _ N2 e2 => ?_⟩
    have e2 : N2 = zT 1 N := e2
    subst e2
    exact cmp_x (by decide) zT_0 h.toT
theorem po_digest (h : IVL C T P Y L B S N V U) : wp_op_digest q ap bp rp C T G P Y L B X S O N V J U KIV := by
  obtain ⟨kb, np, nl, nb, ns, no, n, hX, hR, hI, hW, hT, h92, h212⟩ := id h
  unfold wp_op_digest
  refine c_digest hX hR (z := N 222 0) (by rw [hT.2.1, hT.2.2.1]) (r_digest hX ?_)
  exact ⟨fun _ => h.toN, fun z => absurd (lg_cmp0.mpr rfl) z⟩
theorem po_mean (h : IVL C T P Y L B S N V U) : wp_op_mean q ap bp rp C T G P Y L B X S O N V J U KIV := by
  obtain ⟨kb, np, nl, nb, ns, no, n, hX, hR, hI, hW, hT, h92, h212⟩ := id h
  unfold wp_op_mean
  refine c_mean hX hR (r_mean hX ?_)
  exact ⟨fun _ => h.toN, fun a => ⟨fun b => absurd b a, fun _ => ⟨fun _ => h.toN, fun b => absurd b a⟩⟩⟩
end CALLS4
