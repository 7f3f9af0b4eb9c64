/-! ===== the same steps of the reference ===== -/
section NSTEPS
variable {P Q N F S M : M2} {np nl nb ns no : Nat} {K : M2 → Prop} {b : Nat}
theorem fK3 : fK = 4093 + 1 + 1 + 1 := rfl
theorem Q204 (hq : QE S M) (l : Nat) : S 204 l = M 204 l := by rw [hq.r 204 (by decide) (by decide)]
theorem n_wj (hp : PR P Q np nl nb ns no) (hq : QE S M) {l p : Nat} (hl : l < nl) (hpn : p < np) {C : M2 → Int32 → Int32 → Int32 → Int32 → Prop} {vb v4 v5 : Int32}
    (h : ∀ S', QE S' (if M 204 l = -1 then (if lowV Q (nI p) ≤ 12 - Q 250 l then M else st2 M 204 l (nI p)) else M) → C S' (nI p) vb v4 (v5 + 1)) : wj_X7_comeTo_59 N Q C K S (nI p) vb v4 v5 (nI l) := by
  have h6 := hp.nl3
  have h60 := hp.np3
  have tl : (nI l).toInt.toNat = l := tn_nI (by omega)
  have tp : (nI p).toInt.toNat = p := tn_nI (by omega)
  have il : inb (nI l) 6 := inb_nI (by omega) (by decide)
  obtain ⟨k, hk, _, e2, _⟩ := hp.bore p hpn
  unfold wj_X7_comeTo_59
  rw [tl, tp, Q204 hq, e2]
  have el : lowV Q (nI p) = Q 243 k := by
    unfold lowV
    rw [tp, e2, tn_nI (by omega)]
  have tk : (nI k).toInt.toNat = k := tn_nI (by omega)
  refine ⟨il, fun c v e => ?_, fun c => ⟨inb_nI (by omega) (by decide), inb_nI hk (by decide), il, fun c2 v e => ?_, fun c2 => ⟨il, fun S1 e1 v e => ?_⟩⟩⟩
  · subst e
    rw [if_neg c] at h
    exact h S hq
  · subst e
    rw [tk] at c2
    rw [if_pos c, el, if_pos c2] at h
    exact h S hq
  · subst e
    subst e1
    rw [tk] at c2
    rw [if_pos c, el, if_neg c2] at h
    exact h _ (hq.put (k := 204) (by decide) (by decide) l rfl)
theorem n_cap (hp : PR P Q np nl nb ns no) (hq : QE S M) {l p : Nat} (hl : l < nl) (hpn : p < np) {C : M2 → Int32 → Int32 → Int32 → Int32 → Prop} {vb v4 v5 : Int32}
    (h : ∀ S', QE S' (mCap Q M l (nI p)) → C S' (nI p) vb v4 (v5 + 1)) :
    inb (nI l) 6 ∧ ((¬ (S 204 (nI l).toInt.toNat) = nI p → wj_X7_comeTo_59 N Q C K S (nI p) vb v4 v5 (nI l)) ∧ ((S 204 (nI l).toInt.toNat) = nI p → (inb (nI l) 6 ∧ ∀ S_58 : M2, S_58 = up2 S 204 (upd (S 204) (nI l).toInt.toNat ((-1))) → wj_X7_comeTo_59 N Q C K S_58 (nI p) vb v4 v5 (nI l)))) := by
  have h6 := hp.nl3
  have h60 := hp.np3
  have tl : (nI l).toInt.toNat = l := tn_nI (by omega)
  have il : inb (nI l) 6 := inb_nI (by omega) (by decide)
  rw [tl, Q204 hq]
  refine ⟨il, fun c => n_wj hp hq hl hpn (fun S' h' => h S' ?_), fun c => ⟨il, fun S1 e1 => ?_⟩⟩
  · unfold mCap capV
    by_cases c1 : M 204 l = -1
    · rw [if_pos c1] at h'
      rw [if_pos (Or.inl c1)]
      by_cases c2 : lowV Q (nI p) ≤ 12 - Q 250 l
      · rw [if_pos c2] at h' ⊢
        rw [← c1, st2_same]
        exact h'
      · rw [if_neg c2] at h' ⊢
        exact h'
    · rw [if_neg c1] at h'
      rw [if_neg (fun z => z.elim c1 c), st2_same]
      exact h'
  · subst e1
    refine n_wj hp (hq.put (k := 204) (by decide) (by decide) l rfl) hl hpn (fun S' h' => h S' ?_)
    rw [st2_s, if_pos rfl, st2_st2] at h'
    unfold mCap capV
    rw [if_pos (Or.inr c)]
    by_cases c2 : lowV Q (nI p) ≤ 12 - Q 250 l
    · rw [if_pos c2] at h' ⊢
      exact h'
    · rw [if_neg c2] at h' ⊢
      exact h'
theorem n_comeTo (hp : PR P Q np nl nb ns no) (hq : QE S M) {p : Nat} (hb : b < nb) (hpn : p < np) (h : ∀ S', QE S' (mCome Q M b (nI p)) → K S') : wp_X7_comeTo N Q S (nI b) (nI p) K := by
  have h8 := hp.nb3
  have tb : (nI b).toInt.toNat = b := tn_nI (by omega)
  have ib : inb (nI b) 8 := inb_nI (by omega) (by decide)
  obtain ⟨k0, k1, _, _, e2, _, e4, _⟩ := hp.boat b hb
  refine ⟨ib, fun S1 e1 => ⟨ib, ib, fun v4 e4' => ?_⟩⟩
  rw [tb] at e1
  subst e1
  subst e4'
  rw [fK3]
  have hq1 := hq.put (k := 209) (by decide) (by decide) b (rfl : nI p = nI p)
  refine And.intro (fun c => absurd c (by decide)) (fun _ => ⟨ib, by decide, fun v6 e6 => ?_⟩)
  rw [tb, z0, e2] at e6
  subst e6
  refine n_cap hp hq1 k0 hpn (fun S2 hq2 => ?_)
  refine And.intro (fun c => absurd c (by decide)) (fun _ => ⟨ib, by decide, fun v6 e6 => ?_⟩)
  rw [tb, show ((0 : Int32) + 1).toInt.toNat = 1 by decide, e4] at e6
  subst e6
  refine n_cap hp hq2 k1 hpn (fun S3 hq3 => ?_)
  exact And.intro (fun _ => h S3 hq3) (fun c => absurd (by decide) c)
theorem n_leave (hp : PR P Q np nl nb ns no) (hq : QE S M) (hb : b < nb) (h : ∀ S', QE S' (mLeave Q M b) → K S') : wp_X7_leave N Q S (nI b) K := by
  have h8 := hp.nb3
  have h6 := hp.nl3
  have tb : (nI b).toInt.toNat = b := tn_nI (by omega)
  have ib : inb (nI b) 8 := inb_nI (by omega) (by decide)
  obtain ⟨k0, k1, _, _, e2, _, e4, _⟩ := hp.boat b hb
  have h1 := ((hq.put (k := 206) (by decide) (by decide) b (rfl : (2 : Int32) = 2)).put (k := 209) (by decide) (by decide) b (rfl : (-1 : Int32) = -1)).put (k := 210) (by decide) (by decide) b (rfl : (0 : Int32) = 0)
  have em : st2 (st2 (st2 S 206 b 2) 209 b (-1)) 210 b 0 200 0 = M 200 0 := by
    rw [st2_n _ _ _ (by decide), st2_n _ _ _ (by decide), st2_n _ _ _ (by decide), hq.r 200 (by decide) (by decide)]
  have h2 := h1.put (k := 211) (by decide) (by decide) b em
  refine ⟨ib, fun S1 e1 => ⟨ib, fun S2 e2' => ⟨ib, fun S3 e3 => ⟨ib, fun S4 e4' => ⟨ib, ib, fun v3 ev => ?_⟩⟩⟩⟩⟩
  rw [tb] at e1 e2' e3 e4'
  subst e1 e2' e3 e4' ev
  rw [fK3]
  refine And.intro (fun c => absurd c (by decide)) (fun _ => ⟨ib, by decide, fun v5 e5 => ?_⟩)
  rw [tb, z0, e2] at e5
  subst e5
  refine ⟨inb_nI (by omega) (by decide), fun S5 e5 v e => ?_⟩
  rw [tn_nI (by omega)] at e5
  subst e5
  subst e
  have h3 := h2.put (k := 205) (by decide) (by decide) (kr0 Q b) (rfl : (10 : Int32) = 10)
  refine And.intro (fun c => absurd c (by decide)) (fun _ => ⟨ib, by decide, fun v5 e5 => ?_⟩)
  rw [tb, show ((0 : Int32) + 1).toInt.toNat = 1 by decide, e4] at e5
  subst e5
  refine ⟨inb_nI (by omega) (by decide), fun S6 e6 v e => ?_⟩
  rw [tn_nI (by omega)] at e6
  subst e6
  subst e
  refine And.intro (fun _ => h _ ?_) (fun c => absurd (by decide) c)
  exact h3.put (k := 205) (by decide) (by decide) (kr1 Q b) (rfl : (10 : Int32) = 10)
end NSTEPS
