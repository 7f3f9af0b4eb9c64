/-! ===== the digest, the mean, the tape ===== -/
section CALLS3
variable {P U T S C N : M2} {kb np nl nb ns no : Nat}
end CALLS3
/-! a word more on the tape -/
section CALLS4
theorem c_app1 {F C : M2} {x s : Int32} {m n : Nat} {K : M2 → M2 → Prop} (hm : m < 2000) (hC : C 91 0 = nI m) (hs : ¬ s < 0) (h : wl_X5_append_3 K n (up2 F 80 (upd (F 80) m (clB x s))) (up2 C 91 (fun _ => nI (m + 1))) x (s + (-8))) : wl_X5_append_3 K (n + 1) F C x s := by
  refine ⟨fun z => absurd z hs, fun _ => ⟨fun z => absurd z (by rw [hC]; exact nI_pos (by omega)), fun _ => ⟨fun z => absurd z (by rw [hC, show Int32.ofNat 2000 = nI 2000 from rfl, le_nI (by omega) (by omega)]; omega), fun _ => ⟨by rw [hC]; exact inb_nJ hm (by decide), fun F1 e1 C1 e2 v e3 => ?_⟩⟩⟩⟩
  rw [hC, tn_nI (by omega)] at e1
  rw [hC, nI_1] at e2
  subst e1 e2 e3
  exact h
def fB (F : M2) (m : Nat) (x : Int32) : M2 := up2 F 80 (fun i => if i = m + 3 then clB x 0 else if i = m + 2 then clB x 8 else if i = m + 1 then clB x 16 else if i = m then clB x 24 else F 80 i)
def fC (C : M2) (m : Nat) : M2 := up2 C 91 (fun _ => nI (m + 4))
theorem c_app {F C : M2} {x : Int32} {m : Nat} {K : M2 → M2 → Prop} (hm : m + 4 ≤ 2000) (hC : C 91 0 = nI m) (h : K (fB F m x) (fC C m)) : wp_X5_append F C x K := by
  unfold wp_X5_append
  rw [fK_eq]
  refine c_app1 (n := 4095) (m := m) (by omega) hC (by decide) ?_
  refine c_app1 (n := 4094) (m := m + 1) (by omega) (by rw [up2_s]) (by decide) ?_
  refine c_app1 (n := 4093) (m := m + 2) (by omega) (by rw [up2_s]) (by decide) ?_
  refine c_app1 (n := 4092) (m := m + 3) (by omega) (by rw [up2_s]) (by decide) ?_
  refine ⟨fun _ => ?_, fun z => absurd (by decide) z⟩
  have e1 : ((24 : Int32) + (-8)) = 16 := by decide
  have e2 : ((16 : Int32) + (-8)) = 8 := by decide
  have e3 : ((8 : Int32) + (-8)) = 0 := by decide
  rw [e1, e2, e3]
  simp only [up2_up2, up2_s]
  have eF : up2 F 80 (upd (upd (upd (upd (F 80) m (clB x 24)) (m + 1) (clB x 16)) (m + 1 + 1) (clB x 8)) (m + 1 + 1 + 1) (clB x 0)) = fB F m x := by
    unfold fB upd
    rfl
  rw [eF]
  exact h
theorem fC_91 {C : M2} {m : Nat} : (fC C m) 91 0 = nI (m + 4) := by unfold fC; rw [up2_s]
theorem c_feed {B C : M2} {m : Nat} {y1 y2 y3 y4 y5 : Int32} {KX : Nat → Prop} {K : Int32 → M2 → M2 → Prop} (hm : m + 20 ≤ 2000) (hC : C 91 0 = nI m) (h : ∀ B' C', C' 91 0 = nI (m + 20) → C' 92 = C 92 → (∀ i, i < m → B' 80 i = B 80 i) → (∀ j, j < 20 → B' 80 (m + j) = clB (if j / 4 = 0 then y1 else if j / 4 = 1 then y2 else if j / 4 = 2 then y3 else if j / 4 = 3 then y4 else y5) (nI (24 - 8 * (j % 4)))) → K (nI (m + 20)) B' C') : wp_X5_feed KX B C y1 y2 y3 y4 y5 K := by
  have e20 : nI m + 20 = nI (m + 20) := by
    rw [show (20 : Int32) = nI 20 from rfl, nI_add]
  refine ⟨fun _ => ?_, fun z => absurd (by rw [hC, e20, show (2000 : Int32) = nI 2000 from rfl, le_nI (by omega) (by omega)]; omega) z⟩
  refine c_app (m := m) (by omega) hC (c_app (m := m + 4) (by omega) fC_91 (c_app (m := m + 8) (by omega) fC_91 (c_app (m := m + 12) (by omega) fC_91 (c_app (m := m + 16) (by omega) fC_91 ?_))))
  rw [fC_91]
  refine h _ _ fC_91 ?_ ?_ ?_
  · unfold fC
    rw [up2_n _ _ (by decide), up2_n _ _ (by decide), up2_n _ _ (by decide), up2_n _ _ (by decide), up2_n _ _ (by decide)]
  · intro i hi
    unfold fB
    simp only [up2_s]
    simp only [show ¬ i = m + 16 + 3 by omega, show ¬ i = m + 16 + 2 by omega, show ¬ i = m + 16 + 1 by omega, show ¬ i = m + 16 by omega, show ¬ i = m + 12 + 3 by omega, show ¬ i = m + 12 + 2 by omega, show ¬ i = m + 12 + 1 by omega, show ¬ i = m + 12 by omega, show ¬ i = m + 8 + 3 by omega, show ¬ i = m + 8 + 2 by omega, show ¬ i = m + 8 + 1 by omega, show ¬ i = m + 8 by omega, show ¬ i = m + 4 + 3 by omega, show ¬ i = m + 4 + 2 by omega, show ¬ i = m + 4 + 1 by omega, show ¬ i = m + 4 by omega, show ¬ i = m + 3 by omega, show ¬ i = m + 2 by omega, show ¬ i = m + 1 by omega, show ¬ i = m by omega, if_false]
  · intro j hj
    unfold fB
    simp only [up2_s]
    have hc : j = 0 ∨ j = 1 ∨ j = 2 ∨ j = 3 ∨ j = 4 ∨ j = 5 ∨ j = 6 ∨ j = 7 ∨ j = 8 ∨ j = 9 ∨ j = 10 ∨ j = 11 ∨ j = 12 ∨ j = 13 ∨ j = 14 ∨ j = 15 ∨ j = 16 ∨ j = 17 ∨ j = 18 ∨ j = 19 := by omega
    rcases hc with rfl | rfl | rfl | rfl | rfl | rfl | rfl | rfl | rfl | rfl | rfl | rfl | rfl | rfl | rfl | rfl | rfl | rfl | rfl | rfl <;> simp [Nat.add_assoc] <;> rfl
variable {q : Nat → Nat} {ap bp rp : Nat} {C T G P Y : M2} {L : L2} {B : M2} {X : L2} {S O N V J U : M2} {y1 y2 y3 y4 y5 : Int32}
end CALLS4
