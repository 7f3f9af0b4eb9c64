/-! ===== the place with the worst air, on both sides ===== -/
section WORST
def wF (A : Nat → Int32) : Nat → Nat → Int32 → Int32
  | 0, _, b => b
  | d + 1, p, b => wF A d (p + 1) (if b = -1 then nI p else if A b.toInt.toNat ≤ A p then b else nI p)
theorem c_worst {P F M C : M2} {np nl nb : Nat} (hnp : np ≤ 60) (h21 : P 21 0 = nI np) (hR : RE np nl nb F M) {K : Int32 → Prop} (hK : K (wF (M 202) np 0 (-1))) : wp_X5_worst P F C K := by
  have loop : ∀ (d p f : Nat) (b : Int32), p + d = np → d < f → (b = -1 ∨ ∃ j, j < p ∧ b = nI j) → K (wF (M 202) d p b) → wl_X5_worst_4 P F C K f b (nI p) := by
    intro d
    induction d with
    | zero =>
      intro p f b hp hf hb h
      obtain ⟨f, rfl, _⟩ := fuel hf
      exact And.intro (fun _ => h) (fun z => absurd (by rw [h21]; exact nI_le (by omega) (by omega)) z)
    | succ d ih =>
      intro p f b hp hf hb h
      obtain ⟨f, rfl, _⟩ := fuel (show 0 < f by omega)
      have ep : F 4 p = M 202 p := hR 4 (by decide) (by decide) p (by show p < np; omega)
      unfold wF at h
      refine And.intro (fun z => absurd z (by rw [h21]; exact nI_ge (by omega) (by omega))) (fun _ => And.intro (fun c v ev => ?_) (fun c => ?_))
      · rw [nI_1] at ev
        subst ev
        rw [if_pos c] at h
        exact ih (p + 1) f _ (by omega) (by omega) (Or.inr ⟨p, by omega, rfl⟩) h
      · obtain ⟨j, hj, e⟩ := hb.resolve_left c
        subst e
        have ej : F 4 j = M 202 j := hR 4 (by decide) (by decide) j (by show j < np; omega)
        rw [if_neg c, tn_nI (by omega)] at h
        rw [atv_nI (by omega) (by decide), atv_nI (by omega) (by decide), ep, ej]
        refine And.intro (fun g v ev => ?_) (fun g v ev => ?_)
        · rw [nI_1] at ev
          subst ev
          rw [if_pos g] at h
          exact ih (p + 1) f _ (by omega) (by omega) (Or.inr ⟨j, by omega, rfl⟩) h
        · rw [nI_1] at ev
          subst ev
          rw [if_neg g] at h
          exact ih (p + 1) f _ (by omega) (by omega) (Or.inr ⟨p, by omega, rfl⟩) h
  exact loop np 0 fK (-1) (by omega) (by rw [fK_eq]; omega) (Or.inl rfl) hK
theorem r_worst {P S M N : M2} {np : Nat} (hnp : np ≤ 60) (h241 : P 241 0 = nI np) (hQ : QE S M) {K : Int32 → M2 → M2 → Prop} (hK : K (wF (M 202) np 0 (-1)) S (up2 N 220 (fun _ => 0))) : wp_X8_worst P S N K := by
  intro N1 e1
  subst e1
  have e202 : S 202 = M 202 := hQ 202 (by decide) (by decide)
  have loop : ∀ (d p f : Nat) (b : Int32), p + d = np → d < f → (b = -1 ∨ ∃ j, j < p ∧ b = nI j) → K (wF (M 202) d p b) S (up2 N 220 (fun _ => 0)) → wl_X8_worst_9 P K f S (up2 N 220 (fun _ => 0)) b (nI p) := by
    intro d
    induction d with
    | zero =>
      intro p f b hp hf hb h
      obtain ⟨f, rfl, _⟩ := fuel hf
      exact And.intro (fun _ => h) (fun z => absurd (by rw [h241]; exact nI_le (by omega) (by omega)) z)
    | succ d ih =>
      intro p f b hp hf hb h
      obtain ⟨f, rfl, _⟩ := fuel (show 0 < f by omega)
      unfold wF at h
      refine And.intro (fun z => absurd z (by rw [h241]; exact nI_ge (by omega) (by omega))) (fun _ => And.intro (fun c v ev => ?_) (fun c => ?_))
      · rw [nI_1] at ev
        subst ev
        rw [if_pos c] at h
        exact ih (p + 1) f _ (by omega) (by omega) (Or.inr ⟨p, by omega, rfl⟩) h
      · obtain ⟨j, hj, e⟩ := hb.resolve_left c
        subst e
        rw [if_neg c, tn_nI (by omega)] at h
        refine ⟨inb_nI (by omega) (by decide), inb_nI (by omega) (by decide), ?_⟩
        rw [tn_nI (by omega), tn_nI (by omega), e202]
        refine And.intro (fun g v ev => ?_) (fun g v ev => ?_)
        · rw [nI_1] at ev
          subst ev
          rw [if_pos g] at h
          exact ih (p + 1) f _ (by omega) (by omega) (Or.inr ⟨j, by omega, rfl⟩) h
        · rw [nI_1] at ev
          subst ev
          rw [if_neg g] at h
          exact ih (p + 1) f _ (by omega) (by omega) (Or.inr ⟨p, by omega, rfl⟩) h
  exact loop np 0 fK (-1) (by omega) (by rw [fK_eq]; omega) (Or.inl rfl) hK
end WORST
