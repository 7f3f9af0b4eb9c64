/-! ===== a boat is pushed ===== -/
section PUSH2
variable {P Q N F S M : M2} {np nl nb ns no : Nat} {K : M2 → Prop} {b : Nat}
theorem strV_nI (hp : PR P Q np nl nb ns no) {l : Nat} (hl : l < nl) : ∃ s, s ≤ 9 ∧ strV Q M l = nI s := by
  obtain ⟨x, y, h1, h2, _, _, _, e2, _⟩ := hp.leg l hl
  unfold strV
  by_cases c : M 203 l ≤ 0
  · exact ⟨0, by omega, by rw [if_pos c, nI_0]⟩
  · rw [if_neg c]
    by_cases c2 : nI l = M 212 0
    · exact ⟨0, by omega, by rw [if_pos c2, nI_0]⟩
    · exact ⟨x, h2, by rw [if_neg c2, e2]⟩
/-- what a boat has pushed in this minute, added -/
theorem more_nI (hp : PR P Q np nl nb ns no) (hI : INV Q M np nl nb nb) (hb : b < nb) (h1 : M 206 b = 1) : ∃ p x w, p < np ∧ M 209 b = nI p ∧ Q 253 b = nI w ∧ w ≤ 60 ∧ x ≤ 1000 ∧ M 210 b + ((strV Q M (kr0 Q b) + strV Q M (kr1 Q b)) * M 202 (M 209 b).toInt.toNat) / 100 = nI x := by
  have h60 := hp.np3
  rcases hI.2.2.1 b hb with ⟨_, p, x, w, hpn, hat, hpu, hwe, w1, w60, hxw, hx⟩ | ⟨z, _⟩
  rotate_left
  · exact absurd h1 z
  obtain ⟨k0, k1, _⟩ := hp.boat b hb
  obtain ⟨s0, hs0, e0⟩ := strV_nI (M := M) hp k0
  obtain ⟨s1, hs1, e1⟩ := strV_nI (M := M) hp k1
  obtain ⟨a, ha, ea⟩ := hI.1 p hpn
  have hxw := hxw (decide_eq_false (by omega))
  have hm : (s0 + s1) * a ≤ 18 * 100 := Nat.mul_le_mul (by omega) ha
  refine ⟨p, x + (s0 + s1) * a / 100, w, hpn, hat, hwe, w60, ?_, ?_⟩
  · have : (s0 + s1) * a / 100 ≤ 18 := by omega
    omega
  · rw [hat, tn_nI (by omega), ea, e0, e1, nI_add, pk_mul, hpu, show (100 : Int32) = nI 100 from rfl, pk_div (by omega) (by omega) (by omega), nI_add]
theorem ahd_lt {p : Nat} (h : p < np) (hn : np ≤ 60) {x : Int32} : ahd (st2 M 210 b x) np b p < 61 := by
  unfold ahd
  by_cases c : st2 M 210 b x 207 b = 0
  · rw [if_pos c]
    omega
  · rw [if_neg c]
    omega
theorem m_push (hp : PR P Q np nl nb ns no) (hr : RE np nl nb F M) (hI : INV Q M np nl nb nb) (hb : b < nb) (h1 : M 206 b = 1) (h : ∀ F', RE np nl nb F' (mPush Q M nb b) → K F') : wp_X4_push P F (nI b) K := by
  have h8 := hp.nb3
  have h60 := hp.np3
  have b8 : b < 8 := by omega
  have a8 : ∀ g : Nat → Int32, atv g 8 (nI b) = g b := fun g => atv_nI b8 (by decide)
  obtain ⟨k0, k1, _, e1, _, e3, _, w, w1, w60, ew1, ew2⟩ := hp.boat b hb
  obtain ⟨p, x, w', hpn, hat, hwe, w60', hx, hmore⟩ := more_nI hp hI hb h1
  have hI2 : INV Q (st2 M 210 b (nI x)) np nl nb b := hI.push (Or.inr rfl) h1 ew2 w60 hx b (Or.inl rfl) hb
  unfold mPush at h
  rw [hmore] at h
  unfold wp_X4_push
  rw [a8, a8, a8, a8, e1, e3, hr.side hb, ew1]
  refine m_strengthFor hp hr k0 (m_strengthFor hp hr k1 (fun v2 ev2 v3 ev3 => ?_))
  subst ev2 ev3
  have fin : ∀ last step : Int32, (last = if M 207 b = 0 then nI np - 1 else 0) → step = stepV M b → wj_X4_push_86 P K F (nI b) (strV Q M (kr0 Q b) + strV Q M (kr1 Q b)) (nI w) last step := fun last step hlast hstep F1 eF => by
    rw [a8, a8, put8 b8, hr.pushed hb, hr.spot hb, hat, atv_nI (by omega) (by decide), hr.air hpn] at eF
    have em : M 210 b + ((strV Q M (kr0 Q b) + strV Q M (kr1 Q b)) * M 202 p) / 100 = nI x := by
      rw [← hmore, hat, tn_nI (by omega)]
    rw [em] at eF
    subst eF
    have hr1 : RE np nl nb (st2 F 12 b (nI x)) (st2 M 210 b (nI x)) := hr.put (k := 12) (by decide) (by decide) b rfl
    rw [← ew2, ← nI_0]
    refine m_pushL hp hb 61 0 fK _ _ (by omega) (by rw [fK_eq]; omega) hr1 hI2 ?_ ?_ ?_ ?_ h
    · rw [st2_n _ _ _ (by decide)]
      exact h1
    · exact fun p' _ hp' => ahd_lt hp' h60
    · rw [st2_n _ _ _ (by decide)]
      exact hlast
    · unfold stepV
      rw [st2_n _ _ _ (by decide)]
      exact hstep
  have fin2 : ∀ last : Int32, (last = if M 207 b = 0 then nI np - 1 else 0) → wj_X4_push_68 P K F (nI b) (strV Q M (kr0 Q b) + strV Q M (kr1 Q b)) (nI w) last := fun last hlast => by
    unfold wj_X4_push_68
    rw [a8, hr.side hb]
    exact And.intro (fun c => fin last _ hlast (if_neg c).symm) (fun c => fin last _ hlast (if_pos c).symm)
  rw [hp.np1]
  exact And.intro (fun c => fin2 _ (if_neg c).symm) (fun c => fin2 _ (if_pos c).symm)
theorem INV.mpush (hp : PR P Q np nl nb ns no) (hI : INV Q M np nl nb nb) (hb : b < nb) (h1 : M 206 b = 1) : INV Q (mPush Q M nb b) np nl nb nb := by
  obtain ⟨k0, k1, _, _, e2, _, e4, w, w1, w60, ew1, ew2⟩ := hp.boat b hb
  obtain ⟨p, x, w', hpn, hat, hwe, w60', hx, hmore⟩ := more_nI hp hI hb h1
  have hI2 : INV Q (st2 M 210 b (nI x)) np nl nb b := hI.push (Or.inr rfl) h1 ew2 w60 hx b (Or.inl rfl) hb
  unfold mPush
  rw [hmore]
  refine INV.pushL hp hb 61 _ hI2 ?_ (fun p' _ hp' => ahd_lt hp' hp.np3)
  rw [st2_n _ _ _ (by decide)]
  exact h1
end PUSH2
