/-! ===== lines: what they are made of ===== -/
section LINES
variable {κ : Nat → Int32} {m : Nat} {val : Nat → Int64} {N0 : M2}
theorem first_fail (M : Nat → Prop) : ∀ len : Nat, ∃ n, n ≤ len ∧ (∀ j, j < n → M j) ∧ (n < len → ¬ M n)
  | 0 => ⟨0, Nat.le_refl _, fun j h => absurd h (Nat.not_lt_zero _), fun h => absurd h (Nat.not_lt_zero _)⟩
  | len + 1 => by
    obtain ⟨n, h1, h2, h3⟩ := first_fail M len
    rcases Nat.lt_or_ge n len with h | h
    · exact ⟨n, by omega, h2, fun _ => h3 h⟩
    · have e : n = len := by omega
      subst e
      rcases Classical.em (M n) with hm | hm
      · refine ⟨n + 1, Nat.le_refl _, fun j hj => ?_, fun z => absurd z (Nat.lt_irrefl _)⟩
        rcases Nat.lt_or_ge j n with h5 | h5
        · exact h2 j h5
        · have : j = n := by omega
          rw [this]
          exact hm
      · exact ⟨n, by omega, h2, fun _ => hm⟩
def rol (l : List (Nat × Int32)) (g : Nat → Int32) : Nat → Int32 := l.foldl (fun g x => upd g x.1 x.2) g
/-- the reference within a line: token q, the roles l given since N -/
def LNS (κ : Nat → Int32) (m : Nat) (N0 N Nj P : M2) (q : Nat) (l : List (Nat × Int32)) : Prop := SN κ m N0 Nj P q 0 ∧ Nj 227 = rol l (N 227) ∧ ∀ k, (k ≤ 226 ∨ 230 < k) → Nj k = N k
theorem LNS.start {N P : M2} {q : Nat} (h : SN κ m N0 N P q 0) : LNS κ m N0 N N P q [] := ⟨h, rfl, fun _ _ => rfl⟩
theorem LNS.eat {N Nj P : M2} {q : Nat} {l : List (Nat × Int32)} (h : LNS κ m N0 N Nj P q l) (hq : q + 1 ≤ m) : LNS κ m N0 N (rT (q + 1) Nj) P (q + 1) l := by
  refine ⟨h.1.adv hq (by omega), ?_, fun k hk => ?_⟩
  · unfold rT
    rw [up2_n _ _ (by decide), h.2.1]
  · unfold rT
    rw [up2_n _ _ (by omega), h.2.2 k hk]
theorem LNS.role {N Nj P : M2} {q : Nat} {l : List (Nat × Int32)} (h : LNS κ m N0 N Nj P q l) (as : Int32) : LNS κ m N0 N (up2 Nj 227 (upd (Nj 227) q as)) P q (l ++ [(q, as)]) := by
  obtain ⟨⟨y1, y2, y3, y4, y5, y6⟩, h2, h3⟩ := h
  refine ⟨⟨by rw [up2_n _ _ (by decide), y1], by rw [up2_n _ _ (by decide), y2], ⟨by rw [up2_n _ _ (by decide), y3.1], by rw [up2_n _ _ (by decide), y3.2.1], by rw [up2_n _ _ (by decide), y3.2.2.1], by rw [up2_n _ _ (by decide), y3.2.2.2]⟩, y4, y5, y6⟩, ?_, fun k hk => ?_⟩
  · rw [up2_s, h2]
    unfold rol
    rw [List.foldl_append]
    rfl
  · rw [up2_n _ _ (by omega), h3 k hk]
theorem LNS.as {N Nj P : M2} {q : Nat} {l : List (Nat × Int32)} (h : LNS κ m N0 N Nj P q l) (hq : q + 1 ≤ m) (as : Int32) : LNS κ m N0 N (rT (q + 1) (up2 Nj 227 (upd (Nj 227) q as))) P (q + 1) (l ++ [(q, as)]) := (h.role as).eat hq
theorem LNS.fn {N Nj P : M2} {q : Nat} {l : List (Nat × Int32)} (h : LNS κ m N0 N Nj P q l) : FN N Nj q := ⟨by rw [h.1.1], h.2.2⟩
theorem r_isEnd {K : Int32 → M2 → M2 → Prop} {N P : M2} {q : Nat} (h : SN κ m N0 N P q 0) (hK : KIN κ m) {as : Int32} (h1 : ck (κ q) = 3 → K 1 (rT (q + 1) (up2 N 227 (upd (N 227) q as))) P) (h0 : ¬ ck (κ q) = 3 → K 0 (up2 N 227 (upd (N 227) q as)) P) : wp_X8_isEnd N P as K := by
  have hm := hK.1
  have hp := h.2.2.2.2.1
  have hv := hK.2.1 q hp
  obtain ⟨g1, g2⟩ := h.get hK
  refine ⟨g1, fun N1 e1 => ?_⟩
  rw [h.1] at e1
  dsimp only at e1
  rw [tn_nI (by omega)] at e1
  subst e1
  have hs := ((LNS.start h).role as).1
  refine r_eat hs hK (fun c => And.intro (fun _ => h1 ((ck_3 hv).mpr (Or.inl c))) (fun z => absurd z (by decide))) (fun c => And.intro (fun z => absurd rfl z) (fun _ => r_eat hs hK (fun c2 => And.intro (fun z => absurd z (by decide)) (fun _ => h1 ((ck_3 hv).mpr (Or.inr c2)))) (fun c2 => And.intro (fun _ => h0 (fun z => ((ck_3 hv).mp z).elim c c2)) (fun z => absurd rfl z))))
theorem l_all_BORE_LINE (hK : KIN κ m) {K : Int32 → M2 → L2 → Prop} {F : M2} {L : L2} {p n : Nat} (hn : n ≤ 6) (hM : ∀ j, j < n → ck (κ (p + j)) = kBORE_LINE j) (hF : n < 6 → ¬ ck (κ (p + n)) = kBORE_LINE n) (hpn : p + n ≤ m) (h : K (if n = 6 then 1 else 0) (cT (p + n) F) L) : ∀ (d j f : Nat), j + d = n → d + 1 < f → SC κ m val (cT (p + j) F) L (p + j) → wl_X2_takeAll_BORE_LINE_2 K f (cT (p + j) F) L (nI j) := by
  intro d
  have hm := hK.1
  induction d with
  | zero =>
    intro j f hj hf hc
    obtain ⟨f, rfl, _⟩ := fuel (show 0 < f by omega)
    have e : j = n := by omega
    subst e
    have e6 : Int32.ofNat 6 = nI 6 := rfl
    rw [wl_X2_takeAll_BORE_LINE_2, e6]
    refine And.intro (fun c => ?_) (fun c => ?_)
    · rw [le_nI (by omega) (by omega)] at c
      rw [if_pos (show j = 6 by omega)] at h
      exact h
    · rw [le_nI (by omega) (by omega)] at c
      rw [if_neg (show ¬ j = 6 by omega)] at h
      refine ⟨inb_nI (by omega) (by decide), ?_⟩
      rw [tn_nI (by omega)]
      exact c_take hc hK (fun z => absurd z (hF (by omega))) (fun _ => And.intro (fun z => absurd rfl z) (fun _ => h))
  | succ d ih =>
    intro j f hj hf hc
    obtain ⟨f, rfl, _⟩ := fuel (show 0 < f by omega)
    have e6 : Int32.ofNat 6 = nI 6 := rfl
    rw [wl_X2_takeAll_BORE_LINE_2, e6]
    refine And.intro (fun c => absurd c (nI_ge (by omega) (by omega))) (fun _ => ⟨inb_nI (by omega) (by decide), ?_⟩)
    rw [tn_nI (by omega)]
    refine c_take hc hK (fun _ => And.intro (fun _ v ev => ?_) (fun z => absurd z (by decide))) (fun z => absurd (hM j (by omega)) z)
    subst ev
    rw [nI_1, cT_cT]
    have hc1 := hc.adv (q := p + (j + 1)) (by omega)
    rw [cT_cT] at hc1
    exact ih (j + 1) f (by omega) (by omega) hc1
theorem c_all_BORE_LINE (hK : KIN κ m) {K : Int32 → M2 → L2 → Prop} {F : M2} {L : L2} {p n : Nat} (hc : SC κ m val F L p) (hn : n ≤ 6) (hM : ∀ j, j < n → ck (κ (p + j)) = kBORE_LINE j) (hF : n < 6 → ¬ ck (κ (p + n)) = kBORE_LINE n) (hpn : p + n ≤ m) (h : K (if n = 6 then 1 else 0) (cT (p + n) F) L) : wp_X2_takeAll_BORE_LINE F L K := by
  have hc0 := hc.adv (q := p + 0) (by omega)
  have := l_all_BORE_LINE hK hn hM hF hpn h n 0 fK (by omega) (by rw [fK_eq]; omega) hc0
  rw [Nat.add_zero, hc.self] at this
  exact this
theorem m_all_BORE_LINE (hK : KIN κ m) {p n : Nat} (hp : p ≤ m) (hn : n ≤ 6) (hM : ∀ j, j < n → ck (κ (p + j)) = kBORE_LINE j) : p + n ≤ m := by
  induction n with
  | zero => exact hp
  | succ n ih =>
    have h1 := ih (by omega) (fun j hj => hM j (by omega))
    have h2 := hM n (by omega)
    rcases Nat.lt_or_ge (p + n) m with h | h
    · omega
    · have e : p + n = m := by omega
      have hv := hK.2.1 (p + n) (by omega)
      have hz : ∀ j, j < 6 → ¬ kBORE_LINE j = 0 ∧ ¬ kBORE_LINE j = 1 := by decide
      have hz := hz n (by omega)
      have h9 : ¬ κ (p + n) < 900 := by rw [e]; exact hK.2.2.2
      have key : ∀ k ∈ vk, ¬ k < 900 → ck k = 0 ∨ ck k = 1 := by decide +kernel
      rcases key _ hv h9 with z | z
      · exact absurd (h2.symm.trans z) hz.1
      · exact absurd (h2.symm.trans z) hz.2
theorem sy_BORE_LINE (hK : KIN κ m) {F : M2} {L : L2} {N P : M2} {p : Nat} (hc : SC κ m val F L p) (hs : SN κ m N0 N P p 0) (hk0 : ck (κ p) = 34) :
    (∃ N', (∀ j, j < 6 → ck (κ (p + j)) = kBORE_LINE j) ∧ p + 6 ≤ m ∧ LNS κ m N0 N N' P (p + 6) [(p + 1, 1), (p + 1 + 1 + 1, 7), (p + 1 + 1 + 1 + 1 + 1, 8)] ∧ (∀ K, K 1 N' P → wp_X8_isBoreLine N P K) ∧ (∀ K, K 1 (cT (p + 6) F) L → wp_X2_takeAll_BORE_LINE F L K)) ∨ FAIL m (fun F L K => wp_X2_takeAll_BORE_LINE F L K) (fun N P K => wp_X8_isBoreLine N P K) F L N P := by
  have hm := hK.1
  have hpm := hc.2.1
  obtain ⟨n, hn, hM, hF⟩ := first_fail (fun j => ck (κ (p + j)) = kBORE_LINE j) 6
  have hpn := m_all_BORE_LINE hK hpm hn hM
  have hn0 : 0 < n := by
    rcases Nat.eq_zero_or_pos n with h | h
    · subst h
      exact absurd hk0 (hF (by decide))
    · exact h
  have hcl : ∀ K : Int32 → M2 → L2 → Prop, K (if n = 6 then 1 else 0) (cT (p + n) F) L → wp_X2_takeAll_BORE_LINE F L K := fun K h => c_all_BORE_LINE hK hc hn hM hF hpn h
  by_cases e1 : n = 1
  · subst e1
    have d1 : ¬ ck (κ (p + 1)) = 2 := hF (by decide)
    have n1 : ¬ κ (p + 1) = 40 := fun z => d1 ((ck_2 (hK.2.1 _ (by omega))).mpr z)
    have z1 := (LNS.start hs).eat (by omega)
    have z2 := z1.role 1
    refine Or.inr ⟨p + 1, cT (p + 1) F, up2 (rT (p + 1) N) 227 (upd ((rT (p + 1) N) 227) (p + 1) 1), P, by omega, FC.adv, z2.fn, fun K hk => hcl K ?_, fun K hk => ?_⟩
    · rw [if_neg (by decide)]
      exact hk
    · intro N1 e1
      rw [hs.inc] at e1
      subst e1
      have s1 := (LNS.start hs).eat (by omega)
      exact r_eatAs s1.1 hK (fun z => absurd z n1) (fun _ => And.intro (fun _ => hk) (fun z => absurd rfl z))
  by_cases e2 : n = 2
  · subst e2
    have c1 : ck (κ (p + 1)) = 2 := hM 1 (by omega)
    have h1 : κ (p + 1) = 40 := (ck_2 (hK.2.1 _ (by omega))).mp c1
    have d2 : ¬ ck (κ (p + 1 + 1)) = 35 := hF (by decide)
    have n2 : ¬ κ (p + 1 + 1) = 1 := fun z => d2 ((ck_35 (hK.2.1 _ (by omega))).mpr z)
    have z1 := (LNS.start hs).eat (by omega)
    have z2 := z1.as (by omega) 1
    refine Or.inr ⟨p + 2, cT (p + 2) F, (rT (p + 1 + 1) (up2 (rT (p + 1) N) 227 (upd ((rT (p + 1) N) 227) (p + 1) 1))), P, by omega, FC.adv, z2.fn, fun K hk => hcl K ?_, fun K hk => ?_⟩
    · rw [if_neg (by decide)]
      exact hk
    · intro N1 e1
      rw [hs.inc] at e1
      subst e1
      have s1 := (LNS.start hs).eat (by omega)
      refine r_eatAs s1.1 hK (fun _ => And.intro (fun z => absurd z (by decide)) (fun _ => ?_)) (fun z => absurd h1 z)
      have s2 := s1.as (by omega) 1
      exact r_eat s2.1 hK (fun z => absurd z n2) (fun _ => And.intro (fun _ => hk) (fun z => absurd rfl z))
  by_cases e3 : n = 3
  · subst e3
    have c1 : ck (κ (p + 1)) = 2 := hM 1 (by omega)
    have h1 : κ (p + 1) = 40 := (ck_2 (hK.2.1 _ (by omega))).mp c1
    have c2 : ck (κ (p + 1 + 1)) = 35 := hM 2 (by omega)
    have h2 : κ (p + 1 + 1) = 1 := (ck_35 (hK.2.1 _ (by omega))).mp c2
    have d3 : ¬ ck (κ (p + 1 + 1 + 1)) = 4 := hF (by decide)
    have n3 : ¬ κ (p + 1 + 1 + 1) = 41 := fun z => d3 ((ck_4 (hK.2.1 _ (by omega))).mpr z)
    have z1 := (LNS.start hs).eat (by omega)
    have z2 := z1.as (by omega) 1
    have z3 := z2.eat (by omega)
    have z4 := z3.role 7
    refine Or.inr ⟨p + 3, cT (p + 3) F, up2 (rT (p + 1 + 1 + 1) (rT (p + 1 + 1) (up2 (rT (p + 1) N) 227 (upd ((rT (p + 1) N) 227) (p + 1) 1)))) 227 (upd ((rT (p + 1 + 1 + 1) (rT (p + 1 + 1) (up2 (rT (p + 1) N) 227 (upd ((rT (p + 1) N) 227) (p + 1) 1)))) 227) (p + 1 + 1 + 1) 7), P, by omega, FC.adv, z4.fn, fun K hk => hcl K ?_, fun K hk => ?_⟩
    · rw [if_neg (by decide)]
      exact hk
    · intro N1 e1
      rw [hs.inc] at e1
      subst e1
      have s1 := (LNS.start hs).eat (by omega)
      refine r_eatAs s1.1 hK (fun _ => And.intro (fun z => absurd z (by decide)) (fun _ => ?_)) (fun z => absurd h1 z)
      have s2 := s1.as (by omega) 1
      refine r_eat s2.1 hK (fun _ => And.intro (fun z => absurd z (by decide)) (fun _ => ?_)) (fun z => absurd h2 z)
      have s3 := s2.eat (by omega)
      exact r_eatAs s3.1 hK (fun z => absurd z n3) (fun _ => And.intro (fun _ => hk) (fun z => absurd rfl z))
  by_cases e4 : n = 4
  · subst e4
    have c1 : ck (κ (p + 1)) = 2 := hM 1 (by omega)
    have h1 : κ (p + 1) = 40 := (ck_2 (hK.2.1 _ (by omega))).mp c1
    have c2 : ck (κ (p + 1 + 1)) = 35 := hM 2 (by omega)
    have h2 : κ (p + 1 + 1) = 1 := (ck_35 (hK.2.1 _ (by omega))).mp c2
    have c3 : ck (κ (p + 1 + 1 + 1)) = 4 := hM 3 (by omega)
    have h3 : κ (p + 1 + 1 + 1) = 41 := (ck_4 (hK.2.1 _ (by omega))).mp c3
    have d4 : ¬ ck (κ (p + 1 + 1 + 1 + 1)) = 36 := hF (by decide)
    have n4 : ¬ κ (p + 1 + 1 + 1 + 1) = 2 := fun z => d4 ((ck_36 (hK.2.1 _ (by omega))).mpr z)
    have z1 := (LNS.start hs).eat (by omega)
    have z2 := z1.as (by omega) 1
    have z3 := z2.eat (by omega)
    have z4 := z3.as (by omega) 7
    refine Or.inr ⟨p + 4, cT (p + 4) F, (rT (p + 1 + 1 + 1 + 1) (up2 (rT (p + 1 + 1 + 1) (rT (p + 1 + 1) (up2 (rT (p + 1) N) 227 (upd ((rT (p + 1) N) 227) (p + 1) 1)))) 227 (upd ((rT (p + 1 + 1 + 1) (rT (p + 1 + 1) (up2 (rT (p + 1) N) 227 (upd ((rT (p + 1) N) 227) (p + 1) 1)))) 227) (p + 1 + 1 + 1) 7))), P, by omega, FC.adv, z4.fn, fun K hk => hcl K ?_, fun K hk => ?_⟩
    · rw [if_neg (by decide)]
      exact hk
    · intro N1 e1
      rw [hs.inc] at e1
      subst e1
      have s1 := (LNS.start hs).eat (by omega)
      refine r_eatAs s1.1 hK (fun _ => And.intro (fun z => absurd z (by decide)) (fun _ => ?_)) (fun z => absurd h1 z)
      have s2 := s1.as (by omega) 1
      refine r_eat s2.1 hK (fun _ => And.intro (fun z => absurd z (by decide)) (fun _ => ?_)) (fun z => absurd h2 z)
      have s3 := s2.eat (by omega)
      refine r_eatAs s3.1 hK (fun _ => And.intro (fun z => absurd z (by decide)) (fun _ => ?_)) (fun z => absurd h3 z)
      have s4 := s3.as (by omega) 7
      exact r_eat s4.1 hK (fun z => absurd z n4) (fun _ => And.intro (fun _ => hk) (fun z => absurd rfl z))
  by_cases e5 : n = 5
  · subst e5
    have c1 : ck (κ (p + 1)) = 2 := hM 1 (by omega)
    have h1 : κ (p + 1) = 40 := (ck_2 (hK.2.1 _ (by omega))).mp c1
    have c2 : ck (κ (p + 1 + 1)) = 35 := hM 2 (by omega)
    have h2 : κ (p + 1 + 1) = 1 := (ck_35 (hK.2.1 _ (by omega))).mp c2
    have c3 : ck (κ (p + 1 + 1 + 1)) = 4 := hM 3 (by omega)
    have h3 : κ (p + 1 + 1 + 1) = 41 := (ck_4 (hK.2.1 _ (by omega))).mp c3
    have c4 : ck (κ (p + 1 + 1 + 1 + 1)) = 36 := hM 4 (by omega)
    have h4 : κ (p + 1 + 1 + 1 + 1) = 2 := (ck_36 (hK.2.1 _ (by omega))).mp c4
    have d5 : ¬ ck (κ (p + 1 + 1 + 1 + 1 + 1)) = 4 := hF (by decide)
    have n5 : ¬ κ (p + 1 + 1 + 1 + 1 + 1) = 41 := fun z => d5 ((ck_4 (hK.2.1 _ (by omega))).mpr z)
    have z1 := (LNS.start hs).eat (by omega)
    have z2 := z1.as (by omega) 1
    have z3 := z2.eat (by omega)
    have z4 := z3.as (by omega) 7
    have z5 := z4.eat (by omega)
    have z6 := z5.role 8
    refine Or.inr ⟨p + 5, cT (p + 5) F, up2 (rT (p + 1 + 1 + 1 + 1 + 1) (rT (p + 1 + 1 + 1 + 1) (up2 (rT (p + 1 + 1 + 1) (rT (p + 1 + 1) (up2 (rT (p + 1) N) 227 (upd ((rT (p + 1) N) 227) (p + 1) 1)))) 227 (upd ((rT (p + 1 + 1 + 1) (rT (p + 1 + 1) (up2 (rT (p + 1) N) 227 (upd ((rT (p + 1) N) 227) (p + 1) 1)))) 227) (p + 1 + 1 + 1) 7)))) 227 (upd ((rT (p + 1 + 1 + 1 + 1 + 1) (rT (p + 1 + 1 + 1 + 1) (up2 (rT (p + 1 + 1 + 1) (rT (p + 1 + 1) (up2 (rT (p + 1) N) 227 (upd ((rT (p + 1) N) 227) (p + 1) 1)))) 227 (upd ((rT (p + 1 + 1 + 1) (rT (p + 1 + 1) (up2 (rT (p + 1) N) 227 (upd ((rT (p + 1) N) 227) (p + 1) 1)))) 227) (p + 1 + 1 + 1) 7)))) 227) (p + 1 + 1 + 1 + 1 + 1) 8), P, by omega, FC.adv, z6.fn, fun K hk => hcl K ?_, fun K hk => ?_⟩
    · rw [if_neg (by decide)]
      exact hk
    · intro N1 e1
      rw [hs.inc] at e1
      subst e1
      have s1 := (LNS.start hs).eat (by omega)
      refine r_eatAs s1.1 hK (fun _ => And.intro (fun z => absurd z (by decide)) (fun _ => ?_)) (fun z => absurd h1 z)
      have s2 := s1.as (by omega) 1
      refine r_eat s2.1 hK (fun _ => And.intro (fun z => absurd z (by decide)) (fun _ => ?_)) (fun z => absurd h2 z)
      have s3 := s2.eat (by omega)
      refine r_eatAs s3.1 hK (fun _ => And.intro (fun z => absurd z (by decide)) (fun _ => ?_)) (fun z => absurd h3 z)
      have s4 := s3.as (by omega) 7
      refine r_eat s4.1 hK (fun _ => And.intro (fun z => absurd z (by decide)) (fun _ => ?_)) (fun z => absurd h4 z)
      have s5 := s4.eat (by omega)
      exact r_eatAs s5.1 hK (fun z => absurd z n5) (fun _ => And.intro (fun _ => hk) (fun z => absurd rfl z))
  have en : n = 6 := by omega
  subst en
  have c1 : ck (κ (p + 1)) = 2 := hM 1 (by omega)
  have h1 : κ (p + 1) = 40 := (ck_2 (hK.2.1 _ (by omega))).mp c1
  have c2 : ck (κ (p + 1 + 1)) = 35 := hM 2 (by omega)
  have h2 : κ (p + 1 + 1) = 1 := (ck_35 (hK.2.1 _ (by omega))).mp c2
  have c3 : ck (κ (p + 1 + 1 + 1)) = 4 := hM 3 (by omega)
  have h3 : κ (p + 1 + 1 + 1) = 41 := (ck_4 (hK.2.1 _ (by omega))).mp c3
  have c4 : ck (κ (p + 1 + 1 + 1 + 1)) = 36 := hM 4 (by omega)
  have h4 : κ (p + 1 + 1 + 1 + 1) = 2 := (ck_36 (hK.2.1 _ (by omega))).mp c4
  have c5 : ck (κ (p + 1 + 1 + 1 + 1 + 1)) = 4 := hM 5 (by omega)
  have h5 : κ (p + 1 + 1 + 1 + 1 + 1) = 41 := (ck_4 (hK.2.1 _ (by omega))).mp c5
  have z1 := (LNS.start hs).eat (by omega)
  have z2 := z1.as (by omega) 1
  have z3 := z2.eat (by omega)
  have z4 := z3.as (by omega) 7
  have z5 := z4.eat (by omega)
  have z6 := z5.as (by omega) 8
  refine Or.inl ⟨(rT (p + 1 + 1 + 1 + 1 + 1 + 1) (up2 (rT (p + 1 + 1 + 1 + 1 + 1) (rT (p + 1 + 1 + 1 + 1) (up2 (rT (p + 1 + 1 + 1) (rT (p + 1 + 1) (up2 (rT (p + 1) N) 227 (upd ((rT (p + 1) N) 227) (p + 1) 1)))) 227 (upd ((rT (p + 1 + 1 + 1) (rT (p + 1 + 1) (up2 (rT (p + 1) N) 227 (upd ((rT (p + 1) N) 227) (p + 1) 1)))) 227) (p + 1 + 1 + 1) 7)))) 227 (upd ((rT (p + 1 + 1 + 1 + 1 + 1) (rT (p + 1 + 1 + 1 + 1) (up2 (rT (p + 1 + 1 + 1) (rT (p + 1 + 1) (up2 (rT (p + 1) N) 227 (upd ((rT (p + 1) N) 227) (p + 1) 1)))) 227 (upd ((rT (p + 1 + 1 + 1) (rT (p + 1 + 1) (up2 (rT (p + 1) N) 227 (upd ((rT (p + 1) N) 227) (p + 1) 1)))) 227) (p + 1 + 1 + 1) 7)))) 227) (p + 1 + 1 + 1 + 1 + 1) 8))), hM, hpn, z6, fun K hk => ?_, fun K hk => hcl K ?_⟩
  · intro N1 e1
    rw [hs.inc] at e1
    subst e1
    have s1 := (LNS.start hs).eat (by omega)
    refine r_eatAs s1.1 hK (fun _ => And.intro (fun z => absurd z (by decide)) (fun _ => ?_)) (fun z => absurd h1 z)
    have s2 := s1.as (by omega) 1
    refine r_eat s2.1 hK (fun _ => And.intro (fun z => absurd z (by decide)) (fun _ => ?_)) (fun z => absurd h2 z)
    have s3 := s2.eat (by omega)
    refine r_eatAs s3.1 hK (fun _ => And.intro (fun z => absurd z (by decide)) (fun _ => ?_)) (fun z => absurd h3 z)
    have s4 := s3.as (by omega) 7
    refine r_eat s4.1 hK (fun _ => And.intro (fun z => absurd z (by decide)) (fun _ => ?_)) (fun z => absurd h4 z)
    have s5 := s4.eat (by omega)
    refine r_eatAs s5.1 hK (fun _ => And.intro (fun z => absurd z (by decide)) (fun _ => ?_)) (fun z => absurd h5 z)
    have s6 := s5.as (by omega) 8
    exact hk
  · rw [if_pos rfl]
    exact hk
theorem l_all_SHAFT_LINE (hK : KIN κ m) {K : Int32 → M2 → L2 → Prop} {F : M2} {L : L2} {p n : Nat} (hn : n ≤ 6) (hM : ∀ j, j < n → ck (κ (p + j)) = kSHAFT_LINE j) (hF : n < 6 → ¬ ck (κ (p + n)) = kSHAFT_LINE n) (hpn : p + n ≤ m) (h : K (if n = 6 then 1 else 0) (cT (p + n) F) L) : ∀ (d j f : Nat), j + d = n → d + 1 < f → SC κ m val (cT (p + j) F) L (p + j) → wl_X2_takeAll_SHAFT_LINE_2 K f (cT (p + j) F) L (nI j) := by
  intro d
  have hm := hK.1
  induction d with
  | zero =>
    intro j f hj hf hc
    obtain ⟨f, rfl, _⟩ := fuel (show 0 < f by omega)
    have e : j = n := by omega
    subst e
    have e6 : Int32.ofNat 6 = nI 6 := rfl
    rw [wl_X2_takeAll_SHAFT_LINE_2, e6]
    refine And.intro (fun c => ?_) (fun c => ?_)
    · rw [le_nI (by omega) (by omega)] at c
      rw [if_pos (show j = 6 by omega)] at h
      exact h
    · rw [le_nI (by omega) (by omega)] at c
      rw [if_neg (show ¬ j = 6 by omega)] at h
      refine ⟨inb_nI (by omega) (by decide), ?_⟩
      rw [tn_nI (by omega)]
      exact c_take hc hK (fun z => absurd z (hF (by omega))) (fun _ => And.intro (fun z => absurd rfl z) (fun _ => h))
  | succ d ih =>
    intro j f hj hf hc
    obtain ⟨f, rfl, _⟩ := fuel (show 0 < f by omega)
    have e6 : Int32.ofNat 6 = nI 6 := rfl
    rw [wl_X2_takeAll_SHAFT_LINE_2, e6]
    refine And.intro (fun c => absurd c (nI_ge (by omega) (by omega))) (fun _ => ⟨inb_nI (by omega) (by decide), ?_⟩)
    rw [tn_nI (by omega)]
    refine c_take hc hK (fun _ => And.intro (fun _ v ev => ?_) (fun z => absurd z (by decide))) (fun z => absurd (hM j (by omega)) z)
    subst ev
    rw [nI_1, cT_cT]
    have hc1 := hc.adv (q := p + (j + 1)) (by omega)
    rw [cT_cT] at hc1
    exact ih (j + 1) f (by omega) (by omega) hc1
theorem c_all_SHAFT_LINE (hK : KIN κ m) {K : Int32 → M2 → L2 → Prop} {F : M2} {L : L2} {p n : Nat} (hc : SC κ m val F L p) (hn : n ≤ 6) (hM : ∀ j, j < n → ck (κ (p + j)) = kSHAFT_LINE j) (hF : n < 6 → ¬ ck (κ (p + n)) = kSHAFT_LINE n) (hpn : p + n ≤ m) (h : K (if n = 6 then 1 else 0) (cT (p + n) F) L) : wp_X2_takeAll_SHAFT_LINE F L K := by
  have hc0 := hc.adv (q := p + 0) (by omega)
  have := l_all_SHAFT_LINE hK hn hM hF hpn h n 0 fK (by omega) (by rw [fK_eq]; omega) hc0
  rw [Nat.add_zero, hc.self] at this
  exact this
theorem m_all_SHAFT_LINE (hK : KIN κ m) {p n : Nat} (hp : p ≤ m) (hn : n ≤ 6) (hM : ∀ j, j < n → ck (κ (p + j)) = kSHAFT_LINE j) : p + n ≤ m := by
  induction n with
  | zero => exact hp
  | succ n ih =>
    have h1 := ih (by omega) (fun j hj => hM j (by omega))
    have h2 := hM n (by omega)
    rcases Nat.lt_or_ge (p + n) m with h | h
    · omega
    · have e : p + n = m := by omega
      have hv := hK.2.1 (p + n) (by omega)
      have hz : ∀ j, j < 6 → ¬ kSHAFT_LINE j = 0 ∧ ¬ kSHAFT_LINE j = 1 := by decide
      have hz := hz n (by omega)
      have h9 : ¬ κ (p + n) < 900 := by rw [e]; exact hK.2.2.2
      have key : ∀ k ∈ vk, ¬ k < 900 → ck k = 0 ∨ ck k = 1 := by decide +kernel
      rcases key _ hv h9 with z | z
      · exact absurd (h2.symm.trans z) hz.1
      · exact absurd (h2.symm.trans z) hz.2
theorem sy_SHAFT_LINE (hK : KIN κ m) {F : M2} {L : L2} {N P : M2} {p : Nat} (hc : SC κ m val F L p) (hs : SN κ m N0 N P p 0) (hk0 : ck (κ p) = 37) :
    (∃ N', (∀ j, j < 6 → ck (κ (p + j)) = kSHAFT_LINE j) ∧ p + 6 ≤ m ∧ LNS κ m N0 N N' P (p + 6) [(p + 1, 2), (p + 1 + 1 + 1, 9), (p + 1 + 1 + 1 + 1 + 1, 10)] ∧ (∀ K, K 1 N' P → wp_X8_isShaftLine N P K) ∧ (∀ K, K 1 (cT (p + 6) F) L → wp_X2_takeAll_SHAFT_LINE F L K)) ∨ FAIL m (fun F L K => wp_X2_takeAll_SHAFT_LINE F L K) (fun N P K => wp_X8_isShaftLine N P K) F L N P := by
  have hm := hK.1
  have hpm := hc.2.1
  obtain ⟨n, hn, hM, hF⟩ := first_fail (fun j => ck (κ (p + j)) = kSHAFT_LINE j) 6
  have hpn := m_all_SHAFT_LINE hK hpm hn hM
  have hn0 : 0 < n := by
    rcases Nat.eq_zero_or_pos n with h | h
    · subst h
      exact absurd hk0 (hF (by decide))
    · exact h
  have hcl : ∀ K : Int32 → M2 → L2 → Prop, K (if n = 6 then 1 else 0) (cT (p + n) F) L → wp_X2_takeAll_SHAFT_LINE F L K := fun K h => c_all_SHAFT_LINE hK hc hn hM hF hpn h
  by_cases e1 : n = 1
  · subst e1
    have d1 : ¬ ck (κ (p + 1)) = 2 := hF (by decide)
    have n1 : ¬ κ (p + 1) = 40 := fun z => d1 ((ck_2 (hK.2.1 _ (by omega))).mpr z)
    have z1 := (LNS.start hs).eat (by omega)
    have z2 := z1.role 2
    refine Or.inr ⟨p + 1, cT (p + 1) F, up2 (rT (p + 1) N) 227 (upd ((rT (p + 1) N) 227) (p + 1) 2), P, by omega, FC.adv, z2.fn, fun K hk => hcl K ?_, fun K hk => ?_⟩
    · rw [if_neg (by decide)]
      exact hk
    · intro N1 e1
      rw [hs.inc] at e1
      subst e1
      have s1 := (LNS.start hs).eat (by omega)
      exact r_eatAs s1.1 hK (fun z => absurd z n1) (fun _ => And.intro (fun _ => hk) (fun z => absurd rfl z))
  by_cases e2 : n = 2
  · subst e2
    have c1 : ck (κ (p + 1)) = 2 := hM 1 (by omega)
    have h1 : κ (p + 1) = 40 := (ck_2 (hK.2.1 _ (by omega))).mp c1
    have d2 : ¬ ck (κ (p + 1 + 1)) = 38 := hF (by decide)
    have n2 : ¬ κ (p + 1 + 1) = 4 := fun z => d2 ((ck_38 (hK.2.1 _ (by omega))).mpr z)
    have z1 := (LNS.start hs).eat (by omega)
    have z2 := z1.as (by omega) 2
    refine Or.inr ⟨p + 2, cT (p + 2) F, (rT (p + 1 + 1) (up2 (rT (p + 1) N) 227 (upd ((rT (p + 1) N) 227) (p + 1) 2))), P, by omega, FC.adv, z2.fn, fun K hk => hcl K ?_, fun K hk => ?_⟩
    · rw [if_neg (by decide)]
      exact hk
    · intro N1 e1
      rw [hs.inc] at e1
      subst e1
      have s1 := (LNS.start hs).eat (by omega)
      refine r_eatAs s1.1 hK (fun _ => And.intro (fun z => absurd z (by decide)) (fun _ => ?_)) (fun z => absurd h1 z)
      have s2 := s1.as (by omega) 2
      exact r_eat s2.1 hK (fun z => absurd z n2) (fun _ => And.intro (fun _ => hk) (fun z => absurd rfl z))
  by_cases e3 : n = 3
  · subst e3
    have c1 : ck (κ (p + 1)) = 2 := hM 1 (by omega)
    have h1 : κ (p + 1) = 40 := (ck_2 (hK.2.1 _ (by omega))).mp c1
    have c2 : ck (κ (p + 1 + 1)) = 38 := hM 2 (by omega)
    have h2 : κ (p + 1 + 1) = 4 := (ck_38 (hK.2.1 _ (by omega))).mp c2
    have d3 : ¬ ck (κ (p + 1 + 1 + 1)) = 4 := hF (by decide)
    have n3 : ¬ κ (p + 1 + 1 + 1) = 41 := fun z => d3 ((ck_4 (hK.2.1 _ (by omega))).mpr z)
    have z1 := (LNS.start hs).eat (by omega)
    have z2 := z1.as (by omega) 2
    have z3 := z2.eat (by omega)
    have z4 := z3.role 9
    refine Or.inr ⟨p + 3, cT (p + 3) F, up2 (rT (p + 1 + 1 + 1) (rT (p + 1 + 1) (up2 (rT (p + 1) N) 227 (upd ((rT (p + 1) N) 227) (p + 1) 2)))) 227 (upd ((rT (p + 1 + 1 + 1) (rT (p + 1 + 1) (up2 (rT (p + 1) N) 227 (upd ((rT (p + 1) N) 227) (p + 1) 2)))) 227) (p + 1 + 1 + 1) 9), P, by omega, FC.adv, z4.fn, fun K hk => hcl K ?_, fun K hk => ?_⟩
    · rw [if_neg (by decide)]
      exact hk
    · intro N1 e1
      rw [hs.inc] at e1
      subst e1
      have s1 := (LNS.start hs).eat (by omega)
      refine r_eatAs s1.1 hK (fun _ => And.intro (fun z => absurd z (by decide)) (fun _ => ?_)) (fun z => absurd h1 z)
      have s2 := s1.as (by omega) 2
      refine r_eat s2.1 hK (fun _ => And.intro (fun z => absurd z (by decide)) (fun _ => ?_)) (fun z => absurd h2 z)
      have s3 := s2.eat (by omega)
      exact r_eatAs s3.1 hK (fun z => absurd z n3) (fun _ => And.intro (fun _ => hk) (fun z => absurd rfl z))
  by_cases e4 : n = 4
  · subst e4
    have c1 : ck (κ (p + 1)) = 2 := hM 1 (by omega)
    have h1 : κ (p + 1) = 40 := (ck_2 (hK.2.1 _ (by omega))).mp c1
    have c2 : ck (κ (p + 1 + 1)) = 38 := hM 2 (by omega)
    have h2 : κ (p + 1 + 1) = 4 := (ck_38 (hK.2.1 _ (by omega))).mp c2
    have c3 : ck (κ (p + 1 + 1 + 1)) = 4 := hM 3 (by omega)
    have h3 : κ (p + 1 + 1 + 1) = 41 := (ck_4 (hK.2.1 _ (by omega))).mp c3
    have d4 : ¬ ck (κ (p + 1 + 1 + 1 + 1)) = 39 := hF (by decide)
    have n4 : ¬ κ (p + 1 + 1 + 1 + 1) = 5 := fun z => d4 ((ck_39 (hK.2.1 _ (by omega))).mpr z)
    have z1 := (LNS.start hs).eat (by omega)
    have z2 := z1.as (by omega) 2
    have z3 := z2.eat (by omega)
    have z4 := z3.as (by omega) 9
    refine Or.inr ⟨p + 4, cT (p + 4) F, (rT (p + 1 + 1 + 1 + 1) (up2 (rT (p + 1 + 1 + 1) (rT (p + 1 + 1) (up2 (rT (p + 1) N) 227 (upd ((rT (p + 1) N) 227) (p + 1) 2)))) 227 (upd ((rT (p + 1 + 1 + 1) (rT (p + 1 + 1) (up2 (rT (p + 1) N) 227 (upd ((rT (p + 1) N) 227) (p + 1) 2)))) 227) (p + 1 + 1 + 1) 9))), P, by omega, FC.adv, z4.fn, fun K hk => hcl K ?_, fun K hk => ?_⟩
    · rw [if_neg (by decide)]
      exact hk
    · intro N1 e1
      rw [hs.inc] at e1
      subst e1
      have s1 := (LNS.start hs).eat (by omega)
      refine r_eatAs s1.1 hK (fun _ => And.intro (fun z => absurd z (by decide)) (fun _ => ?_)) (fun z => absurd h1 z)
      have s2 := s1.as (by omega) 2
      refine r_eat s2.1 hK (fun _ => And.intro (fun z => absurd z (by decide)) (fun _ => ?_)) (fun z => absurd h2 z)
      have s3 := s2.eat (by omega)
      refine r_eatAs s3.1 hK (fun _ => And.intro (fun z => absurd z (by decide)) (fun _ => ?_)) (fun z => absurd h3 z)
      have s4 := s3.as (by omega) 9
      exact r_eat s4.1 hK (fun z => absurd z n4) (fun _ => And.intro (fun _ => hk) (fun z => absurd rfl z))
  by_cases e5 : n = 5
  · subst e5
    have c1 : ck (κ (p + 1)) = 2 := hM 1 (by omega)
    have h1 : κ (p + 1) = 40 := (ck_2 (hK.2.1 _ (by omega))).mp c1
    have c2 : ck (κ (p + 1 + 1)) = 38 := hM 2 (by omega)
    have h2 : κ (p + 1 + 1) = 4 := (ck_38 (hK.2.1 _ (by omega))).mp c2
    have c3 : ck (κ (p + 1 + 1 + 1)) = 4 := hM 3 (by omega)
    have h3 : κ (p + 1 + 1 + 1) = 41 := (ck_4 (hK.2.1 _ (by omega))).mp c3
    have c4 : ck (κ (p + 1 + 1 + 1 + 1)) = 39 := hM 4 (by omega)
    have h4 : κ (p + 1 + 1 + 1 + 1) = 5 := (ck_39 (hK.2.1 _ (by omega))).mp c4
    have d5 : ¬ ck (κ (p + 1 + 1 + 1 + 1 + 1)) = 4 := hF (by decide)
    have n5 : ¬ κ (p + 1 + 1 + 1 + 1 + 1) = 41 := fun z => d5 ((ck_4 (hK.2.1 _ (by omega))).mpr z)
    have z1 := (LNS.start hs).eat (by omega)
    have z2 := z1.as (by omega) 2
    have z3 := z2.eat (by omega)
    have z4 := z3.as (by omega) 9
    have z5 := z4.eat (by omega)
    have z6 := z5.role 10
    refine Or.inr ⟨p + 5, cT (p + 5) F, up2 (rT (p + 1 + 1 + 1 + 1 + 1) (rT (p + 1 + 1 + 1 + 1) (up2 (rT (p + 1 + 1 + 1) (rT (p + 1 + 1) (up2 (rT (p + 1) N) 227 (upd ((rT (p + 1) N) 227) (p + 1) 2)))) 227 (upd ((rT (p + 1 + 1 + 1) (rT (p + 1 + 1) (up2 (rT (p + 1) N) 227 (upd ((rT (p + 1) N) 227) (p + 1) 2)))) 227) (p + 1 + 1 + 1) 9)))) 227 (upd ((rT (p + 1 + 1 + 1 + 1 + 1) (rT (p + 1 + 1 + 1 + 1) (up2 (rT (p + 1 + 1 + 1) (rT (p + 1 + 1) (up2 (rT (p + 1) N) 227 (upd ((rT (p + 1) N) 227) (p + 1) 2)))) 227 (upd ((rT (p + 1 + 1 + 1) (rT (p + 1 + 1) (up2 (rT (p + 1) N) 227 (upd ((rT (p + 1) N) 227) (p + 1) 2)))) 227) (p + 1 + 1 + 1) 9)))) 227) (p + 1 + 1 + 1 + 1 + 1) 10), P, by omega, FC.adv, z6.fn, fun K hk => hcl K ?_, fun K hk => ?_⟩
    · rw [if_neg (by decide)]
      exact hk
    · intro N1 e1
      rw [hs.inc] at e1
      subst e1
      have s1 := (LNS.start hs).eat (by omega)
      refine r_eatAs s1.1 hK (fun _ => And.intro (fun z => absurd z (by decide)) (fun _ => ?_)) (fun z => absurd h1 z)
      have s2 := s1.as (by omega) 2
      refine r_eat s2.1 hK (fun _ => And.intro (fun z => absurd z (by decide)) (fun _ => ?_)) (fun z => absurd h2 z)
      have s3 := s2.eat (by omega)
      refine r_eatAs s3.1 hK (fun _ => And.intro (fun z => absurd z (by decide)) (fun _ => ?_)) (fun z => absurd h3 z)
      have s4 := s3.as (by omega) 9
      refine r_eat s4.1 hK (fun _ => And.intro (fun z => absurd z (by decide)) (fun _ => ?_)) (fun z => absurd h4 z)
      have s5 := s4.eat (by omega)
      exact r_eatAs s5.1 hK (fun z => absurd z n5) (fun _ => And.intro (fun _ => hk) (fun z => absurd rfl z))
  have en : n = 6 := by omega
  subst en
  have c1 : ck (κ (p + 1)) = 2 := hM 1 (by omega)
  have h1 : κ (p + 1) = 40 := (ck_2 (hK.2.1 _ (by omega))).mp c1
  have c2 : ck (κ (p + 1 + 1)) = 38 := hM 2 (by omega)
  have h2 : κ (p + 1 + 1) = 4 := (ck_38 (hK.2.1 _ (by omega))).mp c2
  have c3 : ck (κ (p + 1 + 1 + 1)) = 4 := hM 3 (by omega)
  have h3 : κ (p + 1 + 1 + 1) = 41 := (ck_4 (hK.2.1 _ (by omega))).mp c3
  have c4 : ck (κ (p + 1 + 1 + 1 + 1)) = 39 := hM 4 (by omega)
  have h4 : κ (p + 1 + 1 + 1 + 1) = 5 := (ck_39 (hK.2.1 _ (by omega))).mp c4
  have c5 : ck (κ (p + 1 + 1 + 1 + 1 + 1)) = 4 := hM 5 (by omega)
  have h5 : κ (p + 1 + 1 + 1 + 1 + 1) = 41 := (ck_4 (hK.2.1 _ (by omega))).mp c5
  have z1 := (LNS.start hs).eat (by omega)
  have z2 := z1.as (by omega) 2
  have z3 := z2.eat (by omega)
  have z4 := z3.as (by omega) 9
  have z5 := z4.eat (by omega)
  have z6 := z5.as (by omega) 10
  refine Or.inl ⟨(rT (p + 1 + 1 + 1 + 1 + 1 + 1) (up2 (rT (p + 1 + 1 + 1 + 1 + 1) (rT (p + 1 + 1 + 1 + 1) (up2 (rT (p + 1 + 1 + 1) (rT (p + 1 + 1) (up2 (rT (p + 1) N) 227 (upd ((rT (p + 1) N) 227) (p + 1) 2)))) 227 (upd ((rT (p + 1 + 1 + 1) (rT (p + 1 + 1) (up2 (rT (p + 1) N) 227 (upd ((rT (p + 1) N) 227) (p + 1) 2)))) 227) (p + 1 + 1 + 1) 9)))) 227 (upd ((rT (p + 1 + 1 + 1 + 1 + 1) (rT (p + 1 + 1 + 1 + 1) (up2 (rT (p + 1 + 1 + 1) (rT (p + 1 + 1) (up2 (rT (p + 1) N) 227 (upd ((rT (p + 1) N) 227) (p + 1) 2)))) 227 (upd ((rT (p + 1 + 1 + 1) (rT (p + 1 + 1) (up2 (rT (p + 1) N) 227 (upd ((rT (p + 1) N) 227) (p + 1) 2)))) 227) (p + 1 + 1 + 1) 9)))) 227) (p + 1 + 1 + 1 + 1 + 1) 10))), hM, hpn, z6, fun K hk => ?_, fun K hk => hcl K ?_⟩
  · intro N1 e1
    rw [hs.inc] at e1
    subst e1
    have s1 := (LNS.start hs).eat (by omega)
    refine r_eatAs s1.1 hK (fun _ => And.intro (fun z => absurd z (by decide)) (fun _ => ?_)) (fun z => absurd h1 z)
    have s2 := s1.as (by omega) 2
    refine r_eat s2.1 hK (fun _ => And.intro (fun z => absurd z (by decide)) (fun _ => ?_)) (fun z => absurd h2 z)
    have s3 := s2.eat (by omega)
    refine r_eatAs s3.1 hK (fun _ => And.intro (fun z => absurd z (by decide)) (fun _ => ?_)) (fun z => absurd h3 z)
    have s4 := s3.as (by omega) 9
    refine r_eat s4.1 hK (fun _ => And.intro (fun z => absurd z (by decide)) (fun _ => ?_)) (fun z => absurd h4 z)
    have s5 := s4.eat (by omega)
    refine r_eatAs s5.1 hK (fun _ => And.intro (fun z => absurd z (by decide)) (fun _ => ?_)) (fun z => absurd h5 z)
    have s6 := s5.as (by omega) 10
    exact hk
  · rw [if_pos rfl]
    exact hk
theorem l_all_LEGGER_LINE (hK : KIN κ m) {K : Int32 → M2 → L2 → Prop} {F : M2} {L : L2} {p n : Nat} (hn : n ≤ 6) (hM : ∀ j, j < n → ck (κ (p + j)) = kLEGGER_LINE j) (hF : n < 6 → ¬ ck (κ (p + n)) = kLEGGER_LINE n) (hpn : p + n ≤ m) (h : K (if n = 6 then 1 else 0) (cT (p + n) F) L) : ∀ (d j f : Nat), j + d = n → d + 1 < f → SC κ m val (cT (p + j) F) L (p + j) → wl_X2_takeAll_LEGGER_LINE_2 K f (cT (p + j) F) L (nI j) := by
  intro d
  have hm := hK.1
  induction d with
  | zero =>
    intro j f hj hf hc
    obtain ⟨f, rfl, _⟩ := fuel (show 0 < f by omega)
    have e : j = n := by omega
    subst e
    have e6 : Int32.ofNat 6 = nI 6 := rfl
    rw [wl_X2_takeAll_LEGGER_LINE_2, e6]
    refine And.intro (fun c => ?_) (fun c => ?_)
    · rw [le_nI (by omega) (by omega)] at c
      rw [if_pos (show j = 6 by omega)] at h
      exact h
    · rw [le_nI (by omega) (by omega)] at c
      rw [if_neg (show ¬ j = 6 by omega)] at h
      refine ⟨inb_nI (by omega) (by decide), ?_⟩
      rw [tn_nI (by omega)]
      exact c_take hc hK (fun z => absurd z (hF (by omega))) (fun _ => And.intro (fun z => absurd rfl z) (fun _ => h))
  | succ d ih =>
    intro j f hj hf hc
    obtain ⟨f, rfl, _⟩ := fuel (show 0 < f by omega)
    have e6 : Int32.ofNat 6 = nI 6 := rfl
    rw [wl_X2_takeAll_LEGGER_LINE_2, e6]
    refine And.intro (fun c => absurd c (nI_ge (by omega) (by omega))) (fun _ => ⟨inb_nI (by omega) (by decide), ?_⟩)
    rw [tn_nI (by omega)]
    refine c_take hc hK (fun _ => And.intro (fun _ v ev => ?_) (fun z => absurd z (by decide))) (fun z => absurd (hM j (by omega)) z)
    subst ev
    rw [nI_1, cT_cT]
    have hc1 := hc.adv (q := p + (j + 1)) (by omega)
    rw [cT_cT] at hc1
    exact ih (j + 1) f (by omega) (by omega) hc1
theorem c_all_LEGGER_LINE (hK : KIN κ m) {K : Int32 → M2 → L2 → Prop} {F : M2} {L : L2} {p n : Nat} (hc : SC κ m val F L p) (hn : n ≤ 6) (hM : ∀ j, j < n → ck (κ (p + j)) = kLEGGER_LINE j) (hF : n < 6 → ¬ ck (κ (p + n)) = kLEGGER_LINE n) (hpn : p + n ≤ m) (h : K (if n = 6 then 1 else 0) (cT (p + n) F) L) : wp_X2_takeAll_LEGGER_LINE F L K := by
  have hc0 := hc.adv (q := p + 0) (by omega)
  have := l_all_LEGGER_LINE hK hn hM hF hpn h n 0 fK (by omega) (by rw [fK_eq]; omega) hc0
  rw [Nat.add_zero, hc.self] at this
  exact this
theorem m_all_LEGGER_LINE (hK : KIN κ m) {p n : Nat} (hp : p ≤ m) (hn : n ≤ 6) (hM : ∀ j, j < n → ck (κ (p + j)) = kLEGGER_LINE j) : p + n ≤ m := by
  induction n with
  | zero => exact hp
  | succ n ih =>
    have h1 := ih (by omega) (fun j hj => hM j (by omega))
    have h2 := hM n (by omega)
    rcases Nat.lt_or_ge (p + n) m with h | h
    · omega
    · have e : p + n = m := by omega
      have hv := hK.2.1 (p + n) (by omega)
      have hz : ∀ j, j < 6 → ¬ kLEGGER_LINE j = 0 ∧ ¬ kLEGGER_LINE j = 1 := by decide
      have hz := hz n (by omega)
      have h9 : ¬ κ (p + n) < 900 := by rw [e]; exact hK.2.2.2
      have key : ∀ k ∈ vk, ¬ k < 900 → ck k = 0 ∨ ck k = 1 := by decide +kernel
      rcases key _ hv h9 with z | z
      · exact absurd (h2.symm.trans z) hz.1
      · exact absurd (h2.symm.trans z) hz.2
theorem sy_LEGGER_LINE (hK : KIN κ m) {F : M2} {L : L2} {N P : M2} {p : Nat} (hc : SC κ m val F L p) (hs : SN κ m N0 N P p 0) (hk0 : ck (κ p) = 40) :
    (∃ N', (∀ j, j < 6 → ck (κ (p + j)) = kLEGGER_LINE j) ∧ p + 6 ≤ m ∧ LNS κ m N0 N N' P (p + 6) [(p + 1, 3), (p + 1 + 1 + 1, 11), (p + 1 + 1 + 1 + 1 + 1, 12)] ∧ (∀ K, K 1 N' P → wp_X8_isLeggerLine N P K) ∧ (∀ K, K 1 (cT (p + 6) F) L → wp_X2_takeAll_LEGGER_LINE F L K)) ∨ FAIL m (fun F L K => wp_X2_takeAll_LEGGER_LINE F L K) (fun N P K => wp_X8_isLeggerLine N P K) F L N P := by
  have hm := hK.1
  have hpm := hc.2.1
  obtain ⟨n, hn, hM, hF⟩ := first_fail (fun j => ck (κ (p + j)) = kLEGGER_LINE j) 6
  have hpn := m_all_LEGGER_LINE hK hpm hn hM
  have hn0 : 0 < n := by
    rcases Nat.eq_zero_or_pos n with h | h
    · subst h
      exact absurd hk0 (hF (by decide))
    · exact h
  have hcl : ∀ K : Int32 → M2 → L2 → Prop, K (if n = 6 then 1 else 0) (cT (p + n) F) L → wp_X2_takeAll_LEGGER_LINE F L K := fun K h => c_all_LEGGER_LINE hK hc hn hM hF hpn h
  by_cases e1 : n = 1
  · subst e1
    have d1 : ¬ ck (κ (p + 1)) = 2 := hF (by decide)
    have n1 : ¬ κ (p + 1) = 40 := fun z => d1 ((ck_2 (hK.2.1 _ (by omega))).mpr z)
    have z1 := (LNS.start hs).eat (by omega)
    have z2 := z1.role 3
    refine Or.inr ⟨p + 1, cT (p + 1) F, up2 (rT (p + 1) N) 227 (upd ((rT (p + 1) N) 227) (p + 1) 3), P, by omega, FC.adv, z2.fn, fun K hk => hcl K ?_, fun K hk => ?_⟩
    · rw [if_neg (by decide)]
      exact hk
    · intro N1 e1
      rw [hs.inc] at e1
      subst e1
      have s1 := (LNS.start hs).eat (by omega)
      exact r_eatAs s1.1 hK (fun z => absurd z n1) (fun _ => And.intro (fun _ => hk) (fun z => absurd rfl z))
  by_cases e2 : n = 2
  · subst e2
    have c1 : ck (κ (p + 1)) = 2 := hM 1 (by omega)
    have h1 : κ (p + 1) = 40 := (ck_2 (hK.2.1 _ (by omega))).mp c1
    have d2 : ¬ ck (κ (p + 1 + 1)) = 41 := hF (by decide)
    have n2 : ¬ κ (p + 1 + 1) = 7 := fun z => d2 ((ck_41 (hK.2.1 _ (by omega))).mpr z)
    have z1 := (LNS.start hs).eat (by omega)
    have z2 := z1.as (by omega) 3
    refine Or.inr ⟨p + 2, cT (p + 2) F, (rT (p + 1 + 1) (up2 (rT (p + 1) N) 227 (upd ((rT (p + 1) N) 227) (p + 1) 3))), P, by omega, FC.adv, z2.fn, fun K hk => hcl K ?_, fun K hk => ?_⟩
    · rw [if_neg (by decide)]
      exact hk
    · intro N1 e1
      rw [hs.inc] at e1
      subst e1
      have s1 := (LNS.start hs).eat (by omega)
      refine r_eatAs s1.1 hK (fun _ => And.intro (fun z => absurd z (by decide)) (fun _ => ?_)) (fun z => absurd h1 z)
      have s2 := s1.as (by omega) 3
      exact r_eat s2.1 hK (fun z => absurd z n2) (fun _ => And.intro (fun _ => hk) (fun z => absurd rfl z))
  by_cases e3 : n = 3
  · subst e3
    have c1 : ck (κ (p + 1)) = 2 := hM 1 (by omega)
    have h1 : κ (p + 1) = 40 := (ck_2 (hK.2.1 _ (by omega))).mp c1
    have c2 : ck (κ (p + 1 + 1)) = 41 := hM 2 (by omega)
    have h2 : κ (p + 1 + 1) = 7 := (ck_41 (hK.2.1 _ (by omega))).mp c2
    have d3 : ¬ ck (κ (p + 1 + 1 + 1)) = 4 := hF (by decide)
    have n3 : ¬ κ (p + 1 + 1 + 1) = 41 := fun z => d3 ((ck_4 (hK.2.1 _ (by omega))).mpr z)
    have z1 := (LNS.start hs).eat (by omega)
    have z2 := z1.as (by omega) 3
    have z3 := z2.eat (by omega)
    have z4 := z3.role 11
    refine Or.inr ⟨p + 3, cT (p + 3) F, up2 (rT (p + 1 + 1 + 1) (rT (p + 1 + 1) (up2 (rT (p + 1) N) 227 (upd ((rT (p + 1) N) 227) (p + 1) 3)))) 227 (upd ((rT (p + 1 + 1 + 1) (rT (p + 1 + 1) (up2 (rT (p + 1) N) 227 (upd ((rT (p + 1) N) 227) (p + 1) 3)))) 227) (p + 1 + 1 + 1) 11), P, by omega, FC.adv, z4.fn, fun K hk => hcl K ?_, fun K hk => ?_⟩
    · rw [if_neg (by decide)]
      exact hk
    · intro N1 e1
      rw [hs.inc] at e1
      subst e1
      have s1 := (LNS.start hs).eat (by omega)
      refine r_eatAs s1.1 hK (fun _ => And.intro (fun z => absurd z (by decide)) (fun _ => ?_)) (fun z => absurd h1 z)
      have s2 := s1.as (by omega) 3
      refine r_eat s2.1 hK (fun _ => And.intro (fun z => absurd z (by decide)) (fun _ => ?_)) (fun z => absurd h2 z)
      have s3 := s2.eat (by omega)
      exact r_eatAs s3.1 hK (fun z => absurd z n3) (fun _ => And.intro (fun _ => hk) (fun z => absurd rfl z))
  by_cases e4 : n = 4
  · subst e4
    have c1 : ck (κ (p + 1)) = 2 := hM 1 (by omega)
    have h1 : κ (p + 1) = 40 := (ck_2 (hK.2.1 _ (by omega))).mp c1
    have c2 : ck (κ (p + 1 + 1)) = 41 := hM 2 (by omega)
    have h2 : κ (p + 1 + 1) = 7 := (ck_41 (hK.2.1 _ (by omega))).mp c2
    have c3 : ck (κ (p + 1 + 1 + 1)) = 4 := hM 3 (by omega)
    have h3 : κ (p + 1 + 1 + 1) = 41 := (ck_4 (hK.2.1 _ (by omega))).mp c3
    have d4 : ¬ ck (κ (p + 1 + 1 + 1 + 1)) = 42 := hF (by decide)
    have n4 : ¬ κ (p + 1 + 1 + 1 + 1) = 8 := fun z => d4 ((ck_42 (hK.2.1 _ (by omega))).mpr z)
    have z1 := (LNS.start hs).eat (by omega)
    have z2 := z1.as (by omega) 3
    have z3 := z2.eat (by omega)
    have z4 := z3.as (by omega) 11
    refine Or.inr ⟨p + 4, cT (p + 4) F, (rT (p + 1 + 1 + 1 + 1) (up2 (rT (p + 1 + 1 + 1) (rT (p + 1 + 1) (up2 (rT (p + 1) N) 227 (upd ((rT (p + 1) N) 227) (p + 1) 3)))) 227 (upd ((rT (p + 1 + 1 + 1) (rT (p + 1 + 1) (up2 (rT (p + 1) N) 227 (upd ((rT (p + 1) N) 227) (p + 1) 3)))) 227) (p + 1 + 1 + 1) 11))), P, by omega, FC.adv, z4.fn, fun K hk => hcl K ?_, fun K hk => ?_⟩
    · rw [if_neg (by decide)]
      exact hk
    · intro N1 e1
      rw [hs.inc] at e1
      subst e1
      have s1 := (LNS.start hs).eat (by omega)
      refine r_eatAs s1.1 hK (fun _ => And.intro (fun z => absurd z (by decide)) (fun _ => ?_)) (fun z => absurd h1 z)
      have s2 := s1.as (by omega) 3
      refine r_eat s2.1 hK (fun _ => And.intro (fun z => absurd z (by decide)) (fun _ => ?_)) (fun z => absurd h2 z)
      have s3 := s2.eat (by omega)
      refine r_eatAs s3.1 hK (fun _ => And.intro (fun z => absurd z (by decide)) (fun _ => ?_)) (fun z => absurd h3 z)
      have s4 := s3.as (by omega) 11
      exact r_eat s4.1 hK (fun z => absurd z n4) (fun _ => And.intro (fun _ => hk) (fun z => absurd rfl z))
  by_cases e5 : n = 5
  · subst e5
    have c1 : ck (κ (p + 1)) = 2 := hM 1 (by omega)
    have h1 : κ (p + 1) = 40 := (ck_2 (hK.2.1 _ (by omega))).mp c1
    have c2 : ck (κ (p + 1 + 1)) = 41 := hM 2 (by omega)
    have h2 : κ (p + 1 + 1) = 7 := (ck_41 (hK.2.1 _ (by omega))).mp c2
    have c3 : ck (κ (p + 1 + 1 + 1)) = 4 := hM 3 (by omega)
    have h3 : κ (p + 1 + 1 + 1) = 41 := (ck_4 (hK.2.1 _ (by omega))).mp c3
    have c4 : ck (κ (p + 1 + 1 + 1 + 1)) = 42 := hM 4 (by omega)
    have h4 : κ (p + 1 + 1 + 1 + 1) = 8 := (ck_42 (hK.2.1 _ (by omega))).mp c4
    have d5 : ¬ ck (κ (p + 1 + 1 + 1 + 1 + 1)) = 4 := hF (by decide)
    have n5 : ¬ κ (p + 1 + 1 + 1 + 1 + 1) = 41 := fun z => d5 ((ck_4 (hK.2.1 _ (by omega))).mpr z)
    have z1 := (LNS.start hs).eat (by omega)
    have z2 := z1.as (by omega) 3
    have z3 := z2.eat (by omega)
    have z4 := z3.as (by omega) 11
    have z5 := z4.eat (by omega)
    have z6 := z5.role 12
    refine Or.inr ⟨p + 5, cT (p + 5) F, up2 (rT (p + 1 + 1 + 1 + 1 + 1) (rT (p + 1 + 1 + 1 + 1) (up2 (rT (p + 1 + 1 + 1) (rT (p + 1 + 1) (up2 (rT (p + 1) N) 227 (upd ((rT (p + 1) N) 227) (p + 1) 3)))) 227 (upd ((rT (p + 1 + 1 + 1) (rT (p + 1 + 1) (up2 (rT (p + 1) N) 227 (upd ((rT (p + 1) N) 227) (p + 1) 3)))) 227) (p + 1 + 1 + 1) 11)))) 227 (upd ((rT (p + 1 + 1 + 1 + 1 + 1) (rT (p + 1 + 1 + 1 + 1) (up2 (rT (p + 1 + 1 + 1) (rT (p + 1 + 1) (up2 (rT (p + 1) N) 227 (upd ((rT (p + 1) N) 227) (p + 1) 3)))) 227 (upd ((rT (p + 1 + 1 + 1) (rT (p + 1 + 1) (up2 (rT (p + 1) N) 227 (upd ((rT (p + 1) N) 227) (p + 1) 3)))) 227) (p + 1 + 1 + 1) 11)))) 227) (p + 1 + 1 + 1 + 1 + 1) 12), P, by omega, FC.adv, z6.fn, fun K hk => hcl K ?_, fun K hk => ?_⟩
    · rw [if_neg (by decide)]
      exact hk
    · intro N1 e1
      rw [hs.inc] at e1
      subst e1
      have s1 := (LNS.start hs).eat (by omega)
      refine r_eatAs s1.1 hK (fun _ => And.intro (fun z => absurd z (by decide)) (fun _ => ?_)) (fun z => absurd h1 z)
      have s2 := s1.as (by omega) 3
      refine r_eat s2.1 hK (fun _ => And.intro (fun z => absurd z (by decide)) (fun _ => ?_)) (fun z => absurd h2 z)
      have s3 := s2.eat (by omega)
      refine r_eatAs s3.1 hK (fun _ => And.intro (fun z => absurd z (by decide)) (fun _ => ?_)) (fun z => absurd h3 z)
      have s4 := s3.as (by omega) 11
      refine r_eat s4.1 hK (fun _ => And.intro (fun z => absurd z (by decide)) (fun _ => ?_)) (fun z => absurd h4 z)
      have s5 := s4.eat (by omega)
      exact r_eatAs s5.1 hK (fun z => absurd z n5) (fun _ => And.intro (fun _ => hk) (fun z => absurd rfl z))
  have en : n = 6 := by omega
  subst en
  have c1 : ck (κ (p + 1)) = 2 := hM 1 (by omega)
  have h1 : κ (p + 1) = 40 := (ck_2 (hK.2.1 _ (by omega))).mp c1
  have c2 : ck (κ (p + 1 + 1)) = 41 := hM 2 (by omega)
  have h2 : κ (p + 1 + 1) = 7 := (ck_41 (hK.2.1 _ (by omega))).mp c2
  have c3 : ck (κ (p + 1 + 1 + 1)) = 4 := hM 3 (by omega)
  have h3 : κ (p + 1 + 1 + 1) = 41 := (ck_4 (hK.2.1 _ (by omega))).mp c3
  have c4 : ck (κ (p + 1 + 1 + 1 + 1)) = 42 := hM 4 (by omega)
  have h4 : κ (p + 1 + 1 + 1 + 1) = 8 := (ck_42 (hK.2.1 _ (by omega))).mp c4
  have c5 : ck (κ (p + 1 + 1 + 1 + 1 + 1)) = 4 := hM 5 (by omega)
  have h5 : κ (p + 1 + 1 + 1 + 1 + 1) = 41 := (ck_4 (hK.2.1 _ (by omega))).mp c5
  have z1 := (LNS.start hs).eat (by omega)
  have z2 := z1.as (by omega) 3
  have z3 := z2.eat (by omega)
  have z4 := z3.as (by omega) 11
  have z5 := z4.eat (by omega)
  have z6 := z5.as (by omega) 12
  refine Or.inl ⟨(rT (p + 1 + 1 + 1 + 1 + 1 + 1) (up2 (rT (p + 1 + 1 + 1 + 1 + 1) (rT (p + 1 + 1 + 1 + 1) (up2 (rT (p + 1 + 1 + 1) (rT (p + 1 + 1) (up2 (rT (p + 1) N) 227 (upd ((rT (p + 1) N) 227) (p + 1) 3)))) 227 (upd ((rT (p + 1 + 1 + 1) (rT (p + 1 + 1) (up2 (rT (p + 1) N) 227 (upd ((rT (p + 1) N) 227) (p + 1) 3)))) 227) (p + 1 + 1 + 1) 11)))) 227 (upd ((rT (p + 1 + 1 + 1 + 1 + 1) (rT (p + 1 + 1 + 1 + 1) (up2 (rT (p + 1 + 1 + 1) (rT (p + 1 + 1) (up2 (rT (p + 1) N) 227 (upd ((rT (p + 1) N) 227) (p + 1) 3)))) 227 (upd ((rT (p + 1 + 1 + 1) (rT (p + 1 + 1) (up2 (rT (p + 1) N) 227 (upd ((rT (p + 1) N) 227) (p + 1) 3)))) 227) (p + 1 + 1 + 1) 11)))) 227) (p + 1 + 1 + 1 + 1 + 1) 12))), hM, hpn, z6, fun K hk => ?_, fun K hk => hcl K ?_⟩
  · intro N1 e1
    rw [hs.inc] at e1
    subst e1
    have s1 := (LNS.start hs).eat (by omega)
    refine r_eatAs s1.1 hK (fun _ => And.intro (fun z => absurd z (by decide)) (fun _ => ?_)) (fun z => absurd h1 z)
    have s2 := s1.as (by omega) 3
    refine r_eat s2.1 hK (fun _ => And.intro (fun z => absurd z (by decide)) (fun _ => ?_)) (fun z => absurd h2 z)
    have s3 := s2.eat (by omega)
    refine r_eatAs s3.1 hK (fun _ => And.intro (fun z => absurd z (by decide)) (fun _ => ?_)) (fun z => absurd h3 z)
    have s4 := s3.as (by omega) 11
    refine r_eat s4.1 hK (fun _ => And.intro (fun z => absurd z (by decide)) (fun _ => ?_)) (fun z => absurd h4 z)
    have s5 := s4.eat (by omega)
    refine r_eatAs s5.1 hK (fun _ => And.intro (fun z => absurd z (by decide)) (fun _ => ?_)) (fun z => absurd h5 z)
    have s6 := s5.as (by omega) 12
    exact hk
  · rw [if_pos rfl]
    exact hk
theorem l_all_BOAT_LINE (hK : KIN κ m) {K : Int32 → M2 → L2 → Prop} {F : M2} {L : L2} {p n : Nat} (hn : n ≤ 12) (hM : ∀ j, j < n → ck (κ (p + j)) = kBOAT_LINE j) (hF : n < 12 → ¬ ck (κ (p + n)) = kBOAT_LINE n) (hpn : p + n ≤ m) (h : K (if n = 12 then 1 else 0) (cT (p + n) F) L) : ∀ (d j f : Nat), j + d = n → d + 1 < f → SC κ m val (cT (p + j) F) L (p + j) → wl_X2_takeAll_BOAT_LINE_2 K f (cT (p + j) F) L (nI j) := by
  intro d
  have hm := hK.1
  induction d with
  | zero =>
    intro j f hj hf hc
    obtain ⟨f, rfl, _⟩ := fuel (show 0 < f by omega)
    have e : j = n := by omega
    subst e
    have e6 : Int32.ofNat 12 = nI 12 := rfl
    rw [wl_X2_takeAll_BOAT_LINE_2, e6]
    refine And.intro (fun c => ?_) (fun c => ?_)
    · rw [le_nI (by omega) (by omega)] at c
      rw [if_pos (show j = 12 by omega)] at h
      exact h
    · rw [le_nI (by omega) (by omega)] at c
      rw [if_neg (show ¬ j = 12 by omega)] at h
      refine ⟨inb_nI (by omega) (by decide), ?_⟩
      rw [tn_nI (by omega)]
      exact c_take hc hK (fun z => absurd z (hF (by omega))) (fun _ => And.intro (fun z => absurd rfl z) (fun _ => h))
  | succ d ih =>
    intro j f hj hf hc
    obtain ⟨f, rfl, _⟩ := fuel (show 0 < f by omega)
    have e6 : Int32.ofNat 12 = nI 12 := rfl
    rw [wl_X2_takeAll_BOAT_LINE_2, e6]
    refine And.intro (fun c => absurd c (nI_ge (by omega) (by omega))) (fun _ => ⟨inb_nI (by omega) (by decide), ?_⟩)
    rw [tn_nI (by omega)]
    refine c_take hc hK (fun _ => And.intro (fun _ v ev => ?_) (fun z => absurd z (by decide))) (fun z => absurd (hM j (by omega)) z)
    subst ev
    rw [nI_1, cT_cT]
    have hc1 := hc.adv (q := p + (j + 1)) (by omega)
    rw [cT_cT] at hc1
    exact ih (j + 1) f (by omega) (by omega) hc1
theorem c_all_BOAT_LINE (hK : KIN κ m) {K : Int32 → M2 → L2 → Prop} {F : M2} {L : L2} {p n : Nat} (hc : SC κ m val F L p) (hn : n ≤ 12) (hM : ∀ j, j < n → ck (κ (p + j)) = kBOAT_LINE j) (hF : n < 12 → ¬ ck (κ (p + n)) = kBOAT_LINE n) (hpn : p + n ≤ m) (h : K (if n = 12 then 1 else 0) (cT (p + n) F) L) : wp_X2_takeAll_BOAT_LINE F L K := by
  have hc0 := hc.adv (q := p + 0) (by omega)
  have := l_all_BOAT_LINE hK hn hM hF hpn h n 0 fK (by omega) (by rw [fK_eq]; omega) hc0
  rw [Nat.add_zero, hc.self] at this
  exact this
theorem m_all_BOAT_LINE (hK : KIN κ m) {p n : Nat} (hp : p ≤ m) (hn : n ≤ 12) (hM : ∀ j, j < n → ck (κ (p + j)) = kBOAT_LINE j) : p + n ≤ m := by
  induction n with
  | zero => exact hp
  | succ n ih =>
    have h1 := ih (by omega) (fun j hj => hM j (by omega))
    have h2 := hM n (by omega)
    rcases Nat.lt_or_ge (p + n) m with h | h
    · omega
    · have e : p + n = m := by omega
      have hv := hK.2.1 (p + n) (by omega)
      have hz : ∀ j, j < 12 → ¬ kBOAT_LINE j = 0 ∧ ¬ kBOAT_LINE j = 1 := by decide
      have hz := hz n (by omega)
      have h9 : ¬ κ (p + n) < 900 := by rw [e]; exact hK.2.2.2
      have key : ∀ k ∈ vk, ¬ k < 900 → ck k = 0 ∨ ck k = 1 := by decide +kernel
      rcases key _ hv h9 with z | z
      · exact absurd (h2.symm.trans z) hz.1
      · exact absurd (h2.symm.trans z) hz.2
theorem sy_BOAT_LINE (hK : KIN κ m) {F : M2} {L : L2} {N P : M2} {p : Nat} (hc : SC κ m val F L p) (hs : SN κ m N0 N P p 0) (hk0 : ck (κ p) = 43) :
    (∃ N', (∀ j, j < 12 → ck (κ (p + j)) = kBOAT_LINE j) ∧ p + 12 ≤ m ∧ LNS κ m N0 N N' P (p + 12) [(p + 1, 4), (p + 1 + 1 + 1, 13), (p + 1 + 1 + 1 + 1 + 1, 14), (p + 1 + 1 + 1 + 1 + 1 + 1 + 1, 15), (p + 1 + 1 + 1 + 1 + 1 + 1 + 1 + 1 + 1, 16), (p + 1 + 1 + 1 + 1 + 1 + 1 + 1 + 1 + 1 + 1 + 1, 17)] ∧ (∀ K, K 1 N' P → wp_X8_isBoatLine N P K) ∧ (∀ K, K 1 (cT (p + 12) F) L → wp_X2_takeAll_BOAT_LINE F L K)) ∨ FAIL m (fun F L K => wp_X2_takeAll_BOAT_LINE F L K) (fun N P K => wp_X8_isBoatLine N P K) F L N P := by
  have hm := hK.1
  have hpm := hc.2.1
  obtain ⟨n, hn, hM, hF⟩ := first_fail (fun j => ck (κ (p + j)) = kBOAT_LINE j) 12
  have hpn := m_all_BOAT_LINE hK hpm hn hM
  have hn0 : 0 < n := by
    rcases Nat.eq_zero_or_pos n with h | h
    · subst h
      exact absurd hk0 (hF (by decide))
    · exact h
  have hcl : ∀ K : Int32 → M2 → L2 → Prop, K (if n = 12 then 1 else 0) (cT (p + n) F) L → wp_X2_takeAll_BOAT_LINE F L K := fun K h => c_all_BOAT_LINE hK hc hn hM hF hpn h
  by_cases e1 : n = 1
  · subst e1
    have d1 : ¬ ck (κ (p + 1)) = 2 := hF (by decide)
    have n1 : ¬ κ (p + 1) = 40 := fun z => d1 ((ck_2 (hK.2.1 _ (by omega))).mpr z)
    have z1 := (LNS.start hs).eat (by omega)
    have z2 := z1.role 4
    refine Or.inr ⟨p + 1, cT (p + 1) F, up2 (rT (p + 1) N) 227 (upd ((rT (p + 1) N) 227) (p + 1) 4), P, by omega, FC.adv, z2.fn, fun K hk => hcl K ?_, fun K hk => ?_⟩
    · rw [if_neg (by decide)]
      exact hk
    · intro N1 e1
      rw [hs.inc] at e1
      subst e1
      have s1 := (LNS.start hs).eat (by omega)
      exact r_eatAs s1.1 hK (fun z => absurd z n1) (fun _ => And.intro (fun _ => hk) (fun z => absurd rfl z))
  by_cases e2 : n = 2
  · subst e2
    have c1 : ck (κ (p + 1)) = 2 := hM 1 (by omega)
    have h1 : κ (p + 1) = 40 := (ck_2 (hK.2.1 _ (by omega))).mp c1
    have d2 : ¬ ck (κ (p + 1 + 1)) = 44 := hF (by decide)
    have n2 : ¬ κ (p + 1 + 1) = 10 := fun z => d2 ((ck_44 (hK.2.1 _ (by omega))).mpr z)
    have z1 := (LNS.start hs).eat (by omega)
    have z2 := z1.as (by omega) 4
    refine Or.inr ⟨p + 2, cT (p + 2) F, (rT (p + 1 + 1) (up2 (rT (p + 1) N) 227 (upd ((rT (p + 1) N) 227) (p + 1) 4))), P, by omega, FC.adv, z2.fn, fun K hk => hcl K ?_, fun K hk => ?_⟩
    · rw [if_neg (by decide)]
      exact hk
    · intro N1 e1
      rw [hs.inc] at e1
      subst e1
      have s1 := (LNS.start hs).eat (by omega)
      refine r_eatAs s1.1 hK (fun _ => And.intro (fun z => absurd z (by decide)) (fun _ => ?_)) (fun z => absurd h1 z)
      have s2 := s1.as (by omega) 4
      exact r_eat s2.1 hK (fun z => absurd z n2) (fun _ => And.intro (fun _ => hk) (fun z => absurd rfl z))
  by_cases e3 : n = 3
  · subst e3
    have c1 : ck (κ (p + 1)) = 2 := hM 1 (by omega)
    have h1 : κ (p + 1) = 40 := (ck_2 (hK.2.1 _ (by omega))).mp c1
    have c2 : ck (κ (p + 1 + 1)) = 44 := hM 2 (by omega)
    have h2 : κ (p + 1 + 1) = 10 := (ck_44 (hK.2.1 _ (by omega))).mp c2
    have d3 : ¬ ck (κ (p + 1 + 1 + 1)) = 4 := hF (by decide)
    have n3 : ¬ κ (p + 1 + 1 + 1) = 41 := fun z => d3 ((ck_4 (hK.2.1 _ (by omega))).mpr z)
    have z1 := (LNS.start hs).eat (by omega)
    have z2 := z1.as (by omega) 4
    have z3 := z2.eat (by omega)
    have z4 := z3.role 13
    refine Or.inr ⟨p + 3, cT (p + 3) F, up2 (rT (p + 1 + 1 + 1) (rT (p + 1 + 1) (up2 (rT (p + 1) N) 227 (upd ((rT (p + 1) N) 227) (p + 1) 4)))) 227 (upd ((rT (p + 1 + 1 + 1) (rT (p + 1 + 1) (up2 (rT (p + 1) N) 227 (upd ((rT (p + 1) N) 227) (p + 1) 4)))) 227) (p + 1 + 1 + 1) 13), P, by omega, FC.adv, z4.fn, fun K hk => hcl K ?_, fun K hk => ?_⟩
    · rw [if_neg (by decide)]
      exact hk
    · intro N1 e1
      rw [hs.inc] at e1
      subst e1
      have s1 := (LNS.start hs).eat (by omega)
      refine r_eatAs s1.1 hK (fun _ => And.intro (fun z => absurd z (by decide)) (fun _ => ?_)) (fun z => absurd h1 z)
      have s2 := s1.as (by omega) 4
      refine r_eat s2.1 hK (fun _ => And.intro (fun z => absurd z (by decide)) (fun _ => ?_)) (fun z => absurd h2 z)
      have s3 := s2.eat (by omega)
      exact r_eatAs s3.1 hK (fun z => absurd z n3) (fun _ => And.intro (fun _ => hk) (fun z => absurd rfl z))
  by_cases e4 : n = 4
  · subst e4
    have c1 : ck (κ (p + 1)) = 2 := hM 1 (by omega)
    have h1 : κ (p + 1) = 40 := (ck_2 (hK.2.1 _ (by omega))).mp c1
    have c2 : ck (κ (p + 1 + 1)) = 44 := hM 2 (by omega)
    have h2 : κ (p + 1 + 1) = 10 := (ck_44 (hK.2.1 _ (by omega))).mp c2
    have c3 : ck (κ (p + 1 + 1 + 1)) = 4 := hM 3 (by omega)
    have h3 : κ (p + 1 + 1 + 1) = 41 := (ck_4 (hK.2.1 _ (by omega))).mp c3
    have d4 : ¬ ck (κ (p + 1 + 1 + 1 + 1)) = 45 := hF (by decide)
    have n4 : ¬ κ (p + 1 + 1 + 1 + 1) = 11 := fun z => d4 ((ck_45 (hK.2.1 _ (by omega))).mpr z)
    have z1 := (LNS.start hs).eat (by omega)
    have z2 := z1.as (by omega) 4
    have z3 := z2.eat (by omega)
    have z4 := z3.as (by omega) 13
    refine Or.inr ⟨p + 4, cT (p + 4) F, (rT (p + 1 + 1 + 1 + 1) (up2 (rT (p + 1 + 1 + 1) (rT (p + 1 + 1) (up2 (rT (p + 1) N) 227 (upd ((rT (p + 1) N) 227) (p + 1) 4)))) 227 (upd ((rT (p + 1 + 1 + 1) (rT (p + 1 + 1) (up2 (rT (p + 1) N) 227 (upd ((rT (p + 1) N) 227) (p + 1) 4)))) 227) (p + 1 + 1 + 1) 13))), P, by omega, FC.adv, z4.fn, fun K hk => hcl K ?_, fun K hk => ?_⟩
    · rw [if_neg (by decide)]
      exact hk
    · intro N1 e1
      rw [hs.inc] at e1
      subst e1
      have s1 := (LNS.start hs).eat (by omega)
      refine r_eatAs s1.1 hK (fun _ => And.intro (fun z => absurd z (by decide)) (fun _ => ?_)) (fun z => absurd h1 z)
      have s2 := s1.as (by omega) 4
      refine r_eat s2.1 hK (fun _ => And.intro (fun z => absurd z (by decide)) (fun _ => ?_)) (fun z => absurd h2 z)
      have s3 := s2.eat (by omega)
      refine r_eatAs s3.1 hK (fun _ => And.intro (fun z => absurd z (by decide)) (fun _ => ?_)) (fun z => absurd h3 z)
      have s4 := s3.as (by omega) 13
      exact r_eat s4.1 hK (fun z => absurd z n4) (fun _ => And.intro (fun _ => hk) (fun z => absurd rfl z))
  by_cases e5 : n = 5
  · subst e5
    have c1 : ck (κ (p + 1)) = 2 := hM 1 (by omega)
    have h1 : κ (p + 1) = 40 := (ck_2 (hK.2.1 _ (by omega))).mp c1
    have c2 : ck (κ (p + 1 + 1)) = 44 := hM 2 (by omega)
    have h2 : κ (p + 1 + 1) = 10 := (ck_44 (hK.2.1 _ (by omega))).mp c2
    have c3 : ck (κ (p + 1 + 1 + 1)) = 4 := hM 3 (by omega)
    have h3 : κ (p + 1 + 1 + 1) = 41 := (ck_4 (hK.2.1 _ (by omega))).mp c3
    have c4 : ck (κ (p + 1 + 1 + 1 + 1)) = 45 := hM 4 (by omega)
    have h4 : κ (p + 1 + 1 + 1 + 1) = 11 := (ck_45 (hK.2.1 _ (by omega))).mp c4
    have d5 : ¬ ck (κ (p + 1 + 1 + 1 + 1 + 1)) = 3 := hF (by decide)
    have n5 := d5
    have z1 := (LNS.start hs).eat (by omega)
    have z2 := z1.as (by omega) 4
    have z3 := z2.eat (by omega)
    have z4 := z3.as (by omega) 13
    have z5 := z4.eat (by omega)
    have z6 := z5.role 14
    refine Or.inr ⟨p + 5, cT (p + 5) F, up2 (rT (p + 1 + 1 + 1 + 1 + 1) (rT (p + 1 + 1 + 1 + 1) (up2 (rT (p + 1 + 1 + 1) (rT (p + 1 + 1) (up2 (rT (p + 1) N) 227 (upd ((rT (p + 1) N) 227) (p + 1) 4)))) 227 (upd ((rT (p + 1 + 1 + 1) (rT (p + 1 + 1) (up2 (rT (p + 1) N) 227 (upd ((rT (p + 1) N) 227) (p + 1) 4)))) 227) (p + 1 + 1 + 1) 13)))) 227 (upd ((rT (p + 1 + 1 + 1 + 1 + 1) (rT (p + 1 + 1 + 1 + 1) (up2 (rT (p + 1 + 1 + 1) (rT (p + 1 + 1) (up2 (rT (p + 1) N) 227 (upd ((rT (p + 1) N) 227) (p + 1) 4)))) 227 (upd ((rT (p + 1 + 1 + 1) (rT (p + 1 + 1) (up2 (rT (p + 1) N) 227 (upd ((rT (p + 1) N) 227) (p + 1) 4)))) 227) (p + 1 + 1 + 1) 13)))) 227) (p + 1 + 1 + 1 + 1 + 1) 14), P, by omega, FC.adv, z6.fn, fun K hk => hcl K ?_, fun K hk => ?_⟩
    · rw [if_neg (by decide)]
      exact hk
    · intro N1 e1
      rw [hs.inc] at e1
      subst e1
      have s1 := (LNS.start hs).eat (by omega)
      refine r_eatAs s1.1 hK (fun _ => And.intro (fun z => absurd z (by decide)) (fun _ => ?_)) (fun z => absurd h1 z)
      have s2 := s1.as (by omega) 4
      refine r_eat s2.1 hK (fun _ => And.intro (fun z => absurd z (by decide)) (fun _ => ?_)) (fun z => absurd h2 z)
      have s3 := s2.eat (by omega)
      refine r_eatAs s3.1 hK (fun _ => And.intro (fun z => absurd z (by decide)) (fun _ => ?_)) (fun z => absurd h3 z)
      have s4 := s3.as (by omega) 13
      refine r_eat s4.1 hK (fun _ => And.intro (fun z => absurd z (by decide)) (fun _ => ?_)) (fun z => absurd h4 z)
      have s5 := s4.eat (by omega)
      exact r_isEnd s5.1 hK (fun z => absurd z n5) (fun _ => And.intro (fun _ => hk) (fun z => absurd rfl z))
  by_cases e6 : n = 6
  · subst e6
    have c1 : ck (κ (p + 1)) = 2 := hM 1 (by omega)
    have h1 : κ (p + 1) = 40 := (ck_2 (hK.2.1 _ (by omega))).mp c1
    have c2 : ck (κ (p + 1 + 1)) = 44 := hM 2 (by omega)
    have h2 : κ (p + 1 + 1) = 10 := (ck_44 (hK.2.1 _ (by omega))).mp c2
    have c3 : ck (κ (p + 1 + 1 + 1)) = 4 := hM 3 (by omega)
    have h3 : κ (p + 1 + 1 + 1) = 41 := (ck_4 (hK.2.1 _ (by omega))).mp c3
    have c4 : ck (κ (p + 1 + 1 + 1 + 1)) = 45 := hM 4 (by omega)
    have h4 : κ (p + 1 + 1 + 1 + 1) = 11 := (ck_45 (hK.2.1 _ (by omega))).mp c4
    have c5 : ck (κ (p + 1 + 1 + 1 + 1 + 1)) = 3 := hM 5 (by omega)
    have h5 := c5
    have d6 : ¬ ck (κ (p + 1 + 1 + 1 + 1 + 1 + 1)) = 46 := hF (by decide)
    have n6 : ¬ κ (p + 1 + 1 + 1 + 1 + 1 + 1) = 14 := fun z => d6 ((ck_46 (hK.2.1 _ (by omega))).mpr z)
    have z1 := (LNS.start hs).eat (by omega)
    have z2 := z1.as (by omega) 4
    have z3 := z2.eat (by omega)
    have z4 := z3.as (by omega) 13
    have z5 := z4.eat (by omega)
    have z6 := z5.as (by omega) 14
    refine Or.inr ⟨p + 6, cT (p + 6) F, (rT (p + 1 + 1 + 1 + 1 + 1 + 1) (up2 (rT (p + 1 + 1 + 1 + 1 + 1) (rT (p + 1 + 1 + 1 + 1) (up2 (rT (p + 1 + 1 + 1) (rT (p + 1 + 1) (up2 (rT (p + 1) N) 227 (upd ((rT (p + 1) N) 227) (p + 1) 4)))) 227 (upd ((rT (p + 1 + 1 + 1) (rT (p + 1 + 1) (up2 (rT (p + 1) N) 227 (upd ((rT (p + 1) N) 227) (p + 1) 4)))) 227) (p + 1 + 1 + 1) 13)))) 227 (upd ((rT (p + 1 + 1 + 1 + 1 + 1) (rT (p + 1 + 1 + 1 + 1) (up2 (rT (p + 1 + 1 + 1) (rT (p + 1 + 1) (up2 (rT (p + 1) N) 227 (upd ((rT (p + 1) N) 227) (p + 1) 4)))) 227 (upd ((rT (p + 1 + 1 + 1) (rT (p + 1 + 1) (up2 (rT (p + 1) N) 227 (upd ((rT (p + 1) N) 227) (p + 1) 4)))) 227) (p + 1 + 1 + 1) 13)))) 227) (p + 1 + 1 + 1 + 1 + 1) 14))), P, by omega, FC.adv, z6.fn, fun K hk => hcl K ?_, fun K hk => ?_⟩
    · rw [if_neg (by decide)]
      exact hk
    · intro N1 e1
      rw [hs.inc] at e1
      subst e1
      have s1 := (LNS.start hs).eat (by omega)
      refine r_eatAs s1.1 hK (fun _ => And.intro (fun z => absurd z (by decide)) (fun _ => ?_)) (fun z => absurd h1 z)
      have s2 := s1.as (by omega) 4
      refine r_eat s2.1 hK (fun _ => And.intro (fun z => absurd z (by decide)) (fun _ => ?_)) (fun z => absurd h2 z)
      have s3 := s2.eat (by omega)
      refine r_eatAs s3.1 hK (fun _ => And.intro (fun z => absurd z (by decide)) (fun _ => ?_)) (fun z => absurd h3 z)
      have s4 := s3.as (by omega) 13
      refine r_eat s4.1 hK (fun _ => And.intro (fun z => absurd z (by decide)) (fun _ => ?_)) (fun z => absurd h4 z)
      have s5 := s4.eat (by omega)
      refine r_isEnd s5.1 hK (fun _ => And.intro (fun z => absurd z (by decide)) (fun _ => ?_)) (fun z => absurd h5 z)
      have s6 := s5.as (by omega) 14
      exact r_eat s6.1 hK (fun z => absurd z n6) (fun _ => And.intro (fun _ => hk) (fun z => absurd rfl z))
  by_cases e7 : n = 7
  · subst e7
    have c1 : ck (κ (p + 1)) = 2 := hM 1 (by omega)
    have h1 : κ (p + 1) = 40 := (ck_2 (hK.2.1 _ (by omega))).mp c1
    have c2 : ck (κ (p + 1 + 1)) = 44 := hM 2 (by omega)
    have h2 : κ (p + 1 + 1) = 10 := (ck_44 (hK.2.1 _ (by omega))).mp c2
    have c3 : ck (κ (p + 1 + 1 + 1)) = 4 := hM 3 (by omega)
    have h3 : κ (p + 1 + 1 + 1) = 41 := (ck_4 (hK.2.1 _ (by omega))).mp c3
    have c4 : ck (κ (p + 1 + 1 + 1 + 1)) = 45 := hM 4 (by omega)
    have h4 : κ (p + 1 + 1 + 1 + 1) = 11 := (ck_45 (hK.2.1 _ (by omega))).mp c4
    have c5 : ck (κ (p + 1 + 1 + 1 + 1 + 1)) = 3 := hM 5 (by omega)
    have h5 := c5
    have c6 : ck (κ (p + 1 + 1 + 1 + 1 + 1 + 1)) = 46 := hM 6 (by omega)
    have h6 : κ (p + 1 + 1 + 1 + 1 + 1 + 1) = 14 := (ck_46 (hK.2.1 _ (by omega))).mp c6
    have d7 : ¬ ck (κ (p + 1 + 1 + 1 + 1 + 1 + 1 + 1)) = 4 := hF (by decide)
    have n7 : ¬ κ (p + 1 + 1 + 1 + 1 + 1 + 1 + 1) = 41 := fun z => d7 ((ck_4 (hK.2.1 _ (by omega))).mpr z)
    have z1 := (LNS.start hs).eat (by omega)
    have z2 := z1.as (by omega) 4
    have z3 := z2.eat (by omega)
    have z4 := z3.as (by omega) 13
    have z5 := z4.eat (by omega)
    have z6 := z5.as (by omega) 14
    have z7 := z6.eat (by omega)
    have z8 := z7.role 15
    refine Or.inr ⟨p + 7, cT (p + 7) F, up2 (rT (p + 1 + 1 + 1 + 1 + 1 + 1 + 1) (rT (p + 1 + 1 + 1 + 1 + 1 + 1) (up2 (rT (p + 1 + 1 + 1 + 1 + 1) (rT (p + 1 + 1 + 1 + 1) (up2 (rT (p + 1 + 1 + 1) (rT (p + 1 + 1) (up2 (rT (p + 1) N) 227 (upd ((rT (p + 1) N) 227) (p + 1) 4)))) 227 (upd ((rT (p + 1 + 1 + 1) (rT (p + 1 + 1) (up2 (rT (p + 1) N) 227 (upd ((rT (p + 1) N) 227) (p + 1) 4)))) 227) (p + 1 + 1 + 1) 13)))) 227 (upd ((rT (p + 1 + 1 + 1 + 1 + 1) (rT (p + 1 + 1 + 1 + 1) (up2 (rT (p + 1 + 1 + 1) (rT (p + 1 + 1) (up2 (rT (p + 1) N) 227 (upd ((rT (p + 1) N) 227) (p + 1) 4)))) 227 (upd ((rT (p + 1 + 1 + 1) (rT (p + 1 + 1) (up2 (rT (p + 1) N) 227 (upd ((rT (p + 1) N) 227) (p + 1) 4)))) 227) (p + 1 + 1 + 1) 13)))) 227) (p + 1 + 1 + 1 + 1 + 1) 14)))) 227 (upd ((rT (p + 1 + 1 + 1 + 1 + 1 + 1 + 1) (rT (p + 1 + 1 + 1 + 1 + 1 + 1) (up2 (rT (p + 1 + 1 + 1 + 1 + 1) (rT (p + 1 + 1 + 1 + 1) (up2 (rT (p + 1 + 1 + 1) (rT (p + 1 + 1) (up2 (rT (p + 1) N) 227 (upd ((rT (p + 1) N) 227) (p + 1) 4)))) 227 (upd ((rT (p + 1 + 1 + 1) (rT (p + 1 + 1) (up2 (rT (p + 1) N) 227 (upd ((rT (p + 1) N) 227) (p + 1) 4)))) 227) (p + 1 + 1 + 1) 13)))) 227 (upd ((rT (p + 1 + 1 + 1 + 1 + 1) (rT (p + 1 + 1 + 1 + 1) (up2 (rT (p + 1 + 1 + 1) (rT (p + 1 + 1) (up2 (rT (p + 1) N) 227 (upd ((rT (p + 1) N) 227) (p + 1) 4)))) 227 (upd ((rT (p + 1 + 1 + 1) (rT (p + 1 + 1) (up2 (rT (p + 1) N) 227 (upd ((rT (p + 1) N) 227) (p + 1) 4)))) 227) (p + 1 + 1 + 1) 13)))) 227) (p + 1 + 1 + 1 + 1 + 1) 14)))) 227) (p + 1 + 1 + 1 + 1 + 1 + 1 + 1) 15), P, by omega, FC.adv, z8.fn, fun K hk => hcl K ?_, fun K hk => ?_⟩
    · rw [if_neg (by decide)]
      exact hk
    · intro N1 e1
      rw [hs.inc] at e1
      subst e1
      have s1 := (LNS.start hs).eat (by omega)
      refine r_eatAs s1.1 hK (fun _ => And.intro (fun z => absurd z (by decide)) (fun _ => ?_)) (fun z => absurd h1 z)
      have s2 := s1.as (by omega) 4
      refine r_eat s2.1 hK (fun _ => And.intro (fun z => absurd z (by decide)) (fun _ => ?_)) (fun z => absurd h2 z)
      have s3 := s2.eat (by omega)
      refine r_eatAs s3.1 hK (fun _ => And.intro (fun z => absurd z (by decide)) (fun _ => ?_)) (fun z => absurd h3 z)
      have s4 := s3.as (by omega) 13
      refine r_eat s4.1 hK (fun _ => And.intro (fun z => absurd z (by decide)) (fun _ => ?_)) (fun z => absurd h4 z)
      have s5 := s4.eat (by omega)
      refine r_isEnd s5.1 hK (fun _ => And.intro (fun z => absurd z (by decide)) (fun _ => ?_)) (fun z => absurd h5 z)
      have s6 := s5.as (by omega) 14
      refine r_eat s6.1 hK (fun _ => And.intro (fun z => absurd z (by decide)) (fun _ => ?_)) (fun z => absurd h6 z)
      have s7 := s6.eat (by omega)
      exact r_eatAs s7.1 hK (fun z => absurd z n7) (fun _ => And.intro (fun _ => hk) (fun z => absurd rfl z))
  by_cases e8 : n = 8
  · subst e8
    have c1 : ck (κ (p + 1)) = 2 := hM 1 (by omega)
    have h1 : κ (p + 1) = 40 := (ck_2 (hK.2.1 _ (by omega))).mp c1
    have c2 : ck (κ (p + 1 + 1)) = 44 := hM 2 (by omega)
    have h2 : κ (p + 1 + 1) = 10 := (ck_44 (hK.2.1 _ (by omega))).mp c2
    have c3 : ck (κ (p + 1 + 1 + 1)) = 4 := hM 3 (by omega)
    have h3 : κ (p + 1 + 1 + 1) = 41 := (ck_4 (hK.2.1 _ (by omega))).mp c3
    have c4 : ck (κ (p + 1 + 1 + 1 + 1)) = 45 := hM 4 (by omega)
    have h4 : κ (p + 1 + 1 + 1 + 1) = 11 := (ck_45 (hK.2.1 _ (by omega))).mp c4
    have c5 : ck (κ (p + 1 + 1 + 1 + 1 + 1)) = 3 := hM 5 (by omega)
    have h5 := c5
    have c6 : ck (κ (p + 1 + 1 + 1 + 1 + 1 + 1)) = 46 := hM 6 (by omega)
    have h6 : κ (p + 1 + 1 + 1 + 1 + 1 + 1) = 14 := (ck_46 (hK.2.1 _ (by omega))).mp c6
    have c7 : ck (κ (p + 1 + 1 + 1 + 1 + 1 + 1 + 1)) = 4 := hM 7 (by omega)
    have h7 : κ (p + 1 + 1 + 1 + 1 + 1 + 1 + 1) = 41 := (ck_4 (hK.2.1 _ (by omega))).mp c7
    have d8 : ¬ ck (κ (p + 1 + 1 + 1 + 1 + 1 + 1 + 1 + 1)) = 47 := hF (by decide)
    have n8 : ¬ κ (p + 1 + 1 + 1 + 1 + 1 + 1 + 1 + 1) = 15 := fun z => d8 ((ck_47 (hK.2.1 _ (by omega))).mpr z)
    have z1 := (LNS.start hs).eat (by omega)
    have z2 := z1.as (by omega) 4
    have z3 := z2.eat (by omega)
    have z4 := z3.as (by omega) 13
    have z5 := z4.eat (by omega)
    have z6 := z5.as (by omega) 14
    have z7 := z6.eat (by omega)
    have z8 := z7.as (by omega) 15
    refine Or.inr ⟨p + 8, cT (p + 8) F, (rT (p + 1 + 1 + 1 + 1 + 1 + 1 + 1 + 1) (up2 (rT (p + 1 + 1 + 1 + 1 + 1 + 1 + 1) (rT (p + 1 + 1 + 1 + 1 + 1 + 1) (up2 (rT (p + 1 + 1 + 1 + 1 + 1) (rT (p + 1 + 1 + 1 + 1) (up2 (rT (p + 1 + 1 + 1) (rT (p + 1 + 1) (up2 (rT (p + 1) N) 227 (upd ((rT (p + 1) N) 227) (p + 1) 4)))) 227 (upd ((rT (p + 1 + 1 + 1) (rT (p + 1 + 1) (up2 (rT (p + 1) N) 227 (upd ((rT (p + 1) N) 227) (p + 1) 4)))) 227) (p + 1 + 1 + 1) 13)))) 227 (upd ((rT (p + 1 + 1 + 1 + 1 + 1) (rT (p + 1 + 1 + 1 + 1) (up2 (rT (p + 1 + 1 + 1) (rT (p + 1 + 1) (up2 (rT (p + 1) N) 227 (upd ((rT (p + 1) N) 227) (p + 1) 4)))) 227 (upd ((rT (p + 1 + 1 + 1) (rT (p + 1 + 1) (up2 (rT (p + 1) N) 227 (upd ((rT (p + 1) N) 227) (p + 1) 4)))) 227) (p + 1 + 1 + 1) 13)))) 227) (p + 1 + 1 + 1 + 1 + 1) 14)))) 227 (upd ((rT (p + 1 + 1 + 1 + 1 + 1 + 1 + 1) (rT (p + 1 + 1 + 1 + 1 + 1 + 1) (up2 (rT (p + 1 + 1 + 1 + 1 + 1) (rT (p + 1 + 1 + 1 + 1) (up2 (rT (p + 1 + 1 + 1) (rT (p + 1 + 1) (up2 (rT (p + 1) N) 227 (upd ((rT (p + 1) N) 227) (p + 1) 4)))) 227 (upd ((rT (p + 1 + 1 + 1) (rT (p + 1 + 1) (up2 (rT (p + 1) N) 227 (upd ((rT (p + 1) N) 227) (p + 1) 4)))) 227) (p + 1 + 1 + 1) 13)))) 227 (upd ((rT (p + 1 + 1 + 1 + 1 + 1) (rT (p + 1 + 1 + 1 + 1) (up2 (rT (p + 1 + 1 + 1) (rT (p + 1 + 1) (up2 (rT (p + 1) N) 227 (upd ((rT (p + 1) N) 227) (p + 1) 4)))) 227 (upd ((rT (p + 1 + 1 + 1) (rT (p + 1 + 1) (up2 (rT (p + 1) N) 227 (upd ((rT (p + 1) N) 227) (p + 1) 4)))) 227) (p + 1 + 1 + 1) 13)))) 227) (p + 1 + 1 + 1 + 1 + 1) 14)))) 227) (p + 1 + 1 + 1 + 1 + 1 + 1 + 1) 15))), P, by omega, FC.adv, z8.fn, fun K hk => hcl K ?_, fun K hk => ?_⟩
    · rw [if_neg (by decide)]
      exact hk
    · intro N1 e1
      rw [hs.inc] at e1
      subst e1
      have s1 := (LNS.start hs).eat (by omega)
      refine r_eatAs s1.1 hK (fun _ => And.intro (fun z => absurd z (by decide)) (fun _ => ?_)) (fun z => absurd h1 z)
      have s2 := s1.as (by omega) 4
      refine r_eat s2.1 hK (fun _ => And.intro (fun z => absurd z (by decide)) (fun _ => ?_)) (fun z => absurd h2 z)
      have s3 := s2.eat (by omega)
      refine r_eatAs s3.1 hK (fun _ => And.intro (fun z => absurd z (by decide)) (fun _ => ?_)) (fun z => absurd h3 z)
      have s4 := s3.as (by omega) 13
      refine r_eat s4.1 hK (fun _ => And.intro (fun z => absurd z (by decide)) (fun _ => ?_)) (fun z => absurd h4 z)
      have s5 := s4.eat (by omega)
      refine r_isEnd s5.1 hK (fun _ => And.intro (fun z => absurd z (by decide)) (fun _ => ?_)) (fun z => absurd h5 z)
      have s6 := s5.as (by omega) 14
      refine r_eat s6.1 hK (fun _ => And.intro (fun z => absurd z (by decide)) (fun _ => ?_)) (fun z => absurd h6 z)
      have s7 := s6.eat (by omega)
      refine r_eatAs s7.1 hK (fun _ => And.intro (fun z => absurd z (by decide)) (fun _ => ?_)) (fun z => absurd h7 z)
      have s8 := s7.as (by omega) 15
      exact r_eat s8.1 hK (fun z => absurd z n8) (fun _ => And.intro (fun _ => hk) (fun z => absurd rfl z))
  by_cases e9 : n = 9
  · subst e9
    have c1 : ck (κ (p + 1)) = 2 := hM 1 (by omega)
    have h1 : κ (p + 1) = 40 := (ck_2 (hK.2.1 _ (by omega))).mp c1
    have c2 : ck (κ (p + 1 + 1)) = 44 := hM 2 (by omega)
    have h2 : κ (p + 1 + 1) = 10 := (ck_44 (hK.2.1 _ (by omega))).mp c2
    have c3 : ck (κ (p + 1 + 1 + 1)) = 4 := hM 3 (by omega)
    have h3 : κ (p + 1 + 1 + 1) = 41 := (ck_4 (hK.2.1 _ (by omega))).mp c3
    have c4 : ck (κ (p + 1 + 1 + 1 + 1)) = 45 := hM 4 (by omega)
    have h4 : κ (p + 1 + 1 + 1 + 1) = 11 := (ck_45 (hK.2.1 _ (by omega))).mp c4
    have c5 : ck (κ (p + 1 + 1 + 1 + 1 + 1)) = 3 := hM 5 (by omega)
    have h5 := c5
    have c6 : ck (κ (p + 1 + 1 + 1 + 1 + 1 + 1)) = 46 := hM 6 (by omega)
    have h6 : κ (p + 1 + 1 + 1 + 1 + 1 + 1) = 14 := (ck_46 (hK.2.1 _ (by omega))).mp c6
    have c7 : ck (κ (p + 1 + 1 + 1 + 1 + 1 + 1 + 1)) = 4 := hM 7 (by omega)
    have h7 : κ (p + 1 + 1 + 1 + 1 + 1 + 1 + 1) = 41 := (ck_4 (hK.2.1 _ (by omega))).mp c7
    have c8 : ck (κ (p + 1 + 1 + 1 + 1 + 1 + 1 + 1 + 1)) = 47 := hM 8 (by omega)
    have h8 : κ (p + 1 + 1 + 1 + 1 + 1 + 1 + 1 + 1) = 15 := (ck_47 (hK.2.1 _ (by omega))).mp c8
    have d9 : ¬ ck (κ (p + 1 + 1 + 1 + 1 + 1 + 1 + 1 + 1 + 1)) = 2 := hF (by decide)
    have n9 : ¬ κ (p + 1 + 1 + 1 + 1 + 1 + 1 + 1 + 1 + 1) = 40 := fun z => d9 ((ck_2 (hK.2.1 _ (by omega))).mpr z)
    have z1 := (LNS.start hs).eat (by omega)
    have z2 := z1.as (by omega) 4
    have z3 := z2.eat (by omega)
    have z4 := z3.as (by omega) 13
    have z5 := z4.eat (by omega)
    have z6 := z5.as (by omega) 14
    have z7 := z6.eat (by omega)
    have z8 := z7.as (by omega) 15
    have z9 := z8.eat (by omega)
    have z10 := z9.role 16
    refine Or.inr ⟨p + 9, cT (p + 9) F, up2 (rT (p + 1 + 1 + 1 + 1 + 1 + 1 + 1 + 1 + 1) (rT (p + 1 + 1 + 1 + 1 + 1 + 1 + 1 + 1) (up2 (rT (p + 1 + 1 + 1 + 1 + 1 + 1 + 1) (rT (p + 1 + 1 + 1 + 1 + 1 + 1) (up2 (rT (p + 1 + 1 + 1 + 1 + 1) (rT (p + 1 + 1 + 1 + 1) (up2 (rT (p + 1 + 1 + 1) (rT (p + 1 + 1) (up2 (rT (p + 1) N) 227 (upd ((rT (p + 1) N) 227) (p + 1) 4)))) 227 (upd ((rT (p + 1 + 1 + 1) (rT (p + 1 + 1) (up2 (rT (p + 1) N) 227 (upd ((rT (p + 1) N) 227) (p + 1) 4)))) 227) (p + 1 + 1 + 1) 13)))) 227 (upd ((rT (p + 1 + 1 + 1 + 1 + 1) (rT (p + 1 + 1 + 1 + 1) (up2 (rT (p + 1 + 1 + 1) (rT (p + 1 + 1) (up2 (rT (p + 1) N) 227 (upd ((rT (p + 1) N) 227) (p + 1) 4)))) 227 (upd ((rT (p + 1 + 1 + 1) (rT (p + 1 + 1) (up2 (rT (p + 1) N) 227 (upd ((rT (p + 1) N) 227) (p + 1) 4)))) 227) (p + 1 + 1 + 1) 13)))) 227) (p + 1 + 1 + 1 + 1 + 1) 14)))) 227 (upd ((rT (p + 1 + 1 + 1 + 1 + 1 + 1 + 1) (rT (p + 1 + 1 + 1 + 1 + 1 + 1) (up2 (rT (p + 1 + 1 + 1 + 1 + 1) (rT (p + 1 + 1 + 1 + 1) (up2 (rT (p + 1 + 1 + 1) (rT (p + 1 + 1) (up2 (rT (p + 1) N) 227 (upd ((rT (p + 1) N) 227) (p + 1) 4)))) 227 (upd ((rT (p + 1 + 1 + 1) (rT (p + 1 + 1) (up2 (rT (p + 1) N) 227 (upd ((rT (p + 1) N) 227) (p + 1) 4)))) 227) (p + 1 + 1 + 1) 13)))) 227 (upd ((rT (p + 1 + 1 + 1 + 1 + 1) (rT (p + 1 + 1 + 1 + 1) (up2 (rT (p + 1 + 1 + 1) (rT (p + 1 + 1) (up2 (rT (p + 1) N) 227 (upd ((rT (p + 1) N) 227) (p + 1) 4)))) 227 (upd ((rT (p + 1 + 1 + 1) (rT (p + 1 + 1) (up2 (rT (p + 1) N) 227 (upd ((rT (p + 1) N) 227) (p + 1) 4)))) 227) (p + 1 + 1 + 1) 13)))) 227) (p + 1 + 1 + 1 + 1 + 1) 14)))) 227) (p + 1 + 1 + 1 + 1 + 1 + 1 + 1) 15)))) 227 (upd ((rT (p + 1 + 1 + 1 + 1 + 1 + 1 + 1 + 1 + 1) (rT (p + 1 + 1 + 1 + 1 + 1 + 1 + 1 + 1) (up2 (rT (p + 1 + 1 + 1 + 1 + 1 + 1 + 1) (rT (p + 1 + 1 + 1 + 1 + 1 + 1) (up2 (rT (p + 1 + 1 + 1 + 1 + 1) (rT (p + 1 + 1 + 1 + 1) (up2 (rT (p + 1 + 1 + 1) (rT (p + 1 + 1) (up2 (rT (p + 1) N) 227 (upd ((rT (p + 1) N) 227) (p + 1) 4)))) 227 (upd ((rT (p + 1 + 1 + 1) (rT (p + 1 + 1) (up2 (rT (p + 1) N) 227 (upd ((rT (p + 1) N) 227) (p + 1) 4)))) 227) (p + 1 + 1 + 1) 13)))) 227 (upd ((rT (p + 1 + 1 + 1 + 1 + 1) (rT (p + 1 + 1 + 1 + 1) (up2 (rT (p + 1 + 1 + 1) (rT (p + 1 + 1) (up2 (rT (p + 1) N) 227 (upd ((rT (p + 1) N) 227) (p + 1) 4)))) 227 (upd ((rT (p + 1 + 1 + 1) (rT (p + 1 + 1) (up2 (rT (p + 1) N) 227 (upd ((rT (p + 1) N) 227) (p + 1) 4)))) 227) (p + 1 + 1 + 1) 13)))) 227) (p + 1 + 1 + 1 + 1 + 1) 14)))) 227 (upd ((rT (p + 1 + 1 + 1 + 1 + 1 + 1 + 1) (rT (p + 1 + 1 + 1 + 1 + 1 + 1) (up2 (rT (p + 1 + 1 + 1 + 1 + 1) (rT (p + 1 + 1 + 1 + 1) (up2 (rT (p + 1 + 1 + 1) (rT (p + 1 + 1) (up2 (rT (p + 1) N) 227 (upd ((rT (p + 1) N) 227) (p + 1) 4)))) 227 (upd ((rT (p + 1 + 1 + 1) (rT (p + 1 + 1) (up2 (rT (p + 1) N) 227 (upd ((rT (p + 1) N) 227) (p + 1) 4)))) 227) (p + 1 + 1 + 1) 13)))) 227 (upd ((rT (p + 1 + 1 + 1 + 1 + 1) (rT (p + 1 + 1 + 1 + 1) (up2 (rT (p + 1 + 1 + 1) (rT (p + 1 + 1) (up2 (rT (p + 1) N) 227 (upd ((rT (p + 1) N) 227) (p + 1) 4)))) 227 (upd ((rT (p + 1 + 1 + 1) (rT (p + 1 + 1) (up2 (rT (p + 1) N) 227 (upd ((rT (p + 1) N) 227) (p + 1) 4)))) 227) (p + 1 + 1 + 1) 13)))) 227) (p + 1 + 1 + 1 + 1 + 1) 14)))) 227) (p + 1 + 1 + 1 + 1 + 1 + 1 + 1) 15)))) 227) (p + 1 + 1 + 1 + 1 + 1 + 1 + 1 + 1 + 1) 16), P, by omega, FC.adv, z10.fn, fun K hk => hcl K ?_, fun K hk => ?_⟩
    · rw [if_neg (by decide)]
      exact hk
    · intro N1 e1
      rw [hs.inc] at e1
      subst e1
      have s1 := (LNS.start hs).eat (by omega)
      refine r_eatAs s1.1 hK (fun _ => And.intro (fun z => absurd z (by decide)) (fun _ => ?_)) (fun z => absurd h1 z)
      have s2 := s1.as (by omega) 4
      refine r_eat s2.1 hK (fun _ => And.intro (fun z => absurd z (by decide)) (fun _ => ?_)) (fun z => absurd h2 z)
      have s3 := s2.eat (by omega)
      refine r_eatAs s3.1 hK (fun _ => And.intro (fun z => absurd z (by decide)) (fun _ => ?_)) (fun z => absurd h3 z)
      have s4 := s3.as (by omega) 13
      refine r_eat s4.1 hK (fun _ => And.intro (fun z => absurd z (by decide)) (fun _ => ?_)) (fun z => absurd h4 z)
      have s5 := s4.eat (by omega)
      refine r_isEnd s5.1 hK (fun _ => And.intro (fun z => absurd z (by decide)) (fun _ => ?_)) (fun z => absurd h5 z)
      have s6 := s5.as (by omega) 14
      refine r_eat s6.1 hK (fun _ => And.intro (fun z => absurd z (by decide)) (fun _ => ?_)) (fun z => absurd h6 z)
      have s7 := s6.eat (by omega)
      refine r_eatAs s7.1 hK (fun _ => And.intro (fun z => absurd z (by decide)) (fun _ => ?_)) (fun z => absurd h7 z)
      have s8 := s7.as (by omega) 15
      refine r_eat s8.1 hK (fun _ => And.intro (fun z => absurd z (by decide)) (fun _ => ?_)) (fun z => absurd h8 z)
      have s9 := s8.eat (by omega)
      exact r_eatAs s9.1 hK (fun z => absurd z n9) (fun _ => And.intro (fun _ => hk) (fun z => absurd rfl z))
  by_cases e10 : n = 10
  · subst e10
    have c1 : ck (κ (p + 1)) = 2 := hM 1 (by omega)
    have h1 : κ (p + 1) = 40 := (ck_2 (hK.2.1 _ (by omega))).mp c1
    have c2 : ck (κ (p + 1 + 1)) = 44 := hM 2 (by omega)
    have h2 : κ (p + 1 + 1) = 10 := (ck_44 (hK.2.1 _ (by omega))).mp c2
    have c3 : ck (κ (p + 1 + 1 + 1)) = 4 := hM 3 (by omega)
    have h3 : κ (p + 1 + 1 + 1) = 41 := (ck_4 (hK.2.1 _ (by omega))).mp c3
    have c4 : ck (κ (p + 1 + 1 + 1 + 1)) = 45 := hM 4 (by omega)
    have h4 : κ (p + 1 + 1 + 1 + 1) = 11 := (ck_45 (hK.2.1 _ (by omega))).mp c4
    have c5 : ck (κ (p + 1 + 1 + 1 + 1 + 1)) = 3 := hM 5 (by omega)
    have h5 := c5
    have c6 : ck (κ (p + 1 + 1 + 1 + 1 + 1 + 1)) = 46 := hM 6 (by omega)
    have h6 : κ (p + 1 + 1 + 1 + 1 + 1 + 1) = 14 := (ck_46 (hK.2.1 _ (by omega))).mp c6
    have c7 : ck (κ (p + 1 + 1 + 1 + 1 + 1 + 1 + 1)) = 4 := hM 7 (by omega)
    have h7 : κ (p + 1 + 1 + 1 + 1 + 1 + 1 + 1) = 41 := (ck_4 (hK.2.1 _ (by omega))).mp c7
    have c8 : ck (κ (p + 1 + 1 + 1 + 1 + 1 + 1 + 1 + 1)) = 47 := hM 8 (by omega)
    have h8 : κ (p + 1 + 1 + 1 + 1 + 1 + 1 + 1 + 1) = 15 := (ck_47 (hK.2.1 _ (by omega))).mp c8
    have c9 : ck (κ (p + 1 + 1 + 1 + 1 + 1 + 1 + 1 + 1 + 1)) = 2 := hM 9 (by omega)
    have h9 : κ (p + 1 + 1 + 1 + 1 + 1 + 1 + 1 + 1 + 1) = 40 := (ck_2 (hK.2.1 _ (by omega))).mp c9
    have d10 : ¬ ck (κ (p + 1 + 1 + 1 + 1 + 1 + 1 + 1 + 1 + 1 + 1)) = 24 := hF (by decide)
    have n10 : ¬ κ (p + 1 + 1 + 1 + 1 + 1 + 1 + 1 + 1 + 1 + 1) = 16 := fun z => d10 ((ck_24 (hK.2.1 _ (by omega))).mpr z)
    have z1 := (LNS.start hs).eat (by omega)
    have z2 := z1.as (by omega) 4
    have z3 := z2.eat (by omega)
    have z4 := z3.as (by omega) 13
    have z5 := z4.eat (by omega)
    have z6 := z5.as (by omega) 14
    have z7 := z6.eat (by omega)
    have z8 := z7.as (by omega) 15
    have z9 := z8.eat (by omega)
    have z10 := z9.as (by omega) 16
    refine Or.inr ⟨p + 10, cT (p + 10) F, (rT (p + 1 + 1 + 1 + 1 + 1 + 1 + 1 + 1 + 1 + 1) (up2 (rT (p + 1 + 1 + 1 + 1 + 1 + 1 + 1 + 1 + 1) (rT (p + 1 + 1 + 1 + 1 + 1 + 1 + 1 + 1) (up2 (rT (p + 1 + 1 + 1 + 1 + 1 + 1 + 1) (rT (p + 1 + 1 + 1 + 1 + 1 + 1) (up2 (rT (p + 1 + 1 + 1 + 1 + 1) (rT (p + 1 + 1 + 1 + 1) (up2 (rT (p + 1 + 1 + 1) (rT (p + 1 + 1) (up2 (rT (p + 1) N) 227 (upd ((rT (p + 1) N) 227) (p + 1) 4)))) 227 (upd ((rT (p + 1 + 1 + 1) (rT (p + 1 + 1) (up2 (rT (p + 1) N) 227 (upd ((rT (p + 1) N) 227) (p + 1) 4)))) 227) (p + 1 + 1 + 1) 13)))) 227 (upd ((rT (p + 1 + 1 + 1 + 1 + 1) (rT (p + 1 + 1 + 1 + 1) (up2 (rT (p + 1 + 1 + 1) (rT (p + 1 + 1) (up2 (rT (p + 1) N) 227 (upd ((rT (p + 1) N) 227) (p + 1) 4)))) 227 (upd ((rT (p + 1 + 1 + 1) (rT (p + 1 + 1) (up2 (rT (p + 1) N) 227 (upd ((rT (p + 1) N) 227) (p + 1) 4)))) 227) (p + 1 + 1 + 1) 13)))) 227) (p + 1 + 1 + 1 + 1 + 1) 14)))) 227 (upd ((rT (p + 1 + 1 + 1 + 1 + 1 + 1 + 1) (rT (p + 1 + 1 + 1 + 1 + 1 + 1) (up2 (rT (p + 1 + 1 + 1 + 1 + 1) (rT (p + 1 + 1 + 1 + 1) (up2 (rT (p + 1 + 1 + 1) (rT (p + 1 + 1) (up2 (rT (p + 1) N) 227 (upd ((rT (p + 1) N) 227) (p + 1) 4)))) 227 (upd ((rT (p + 1 + 1 + 1) (rT (p + 1 + 1) (up2 (rT (p + 1) N) 227 (upd ((rT (p + 1) N) 227) (p + 1) 4)))) 227) (p + 1 + 1 + 1) 13)))) 227 (upd ((rT (p + 1 + 1 + 1 + 1 + 1) (rT (p + 1 + 1 + 1 + 1) (up2 (rT (p + 1 + 1 + 1) (rT (p + 1 + 1) (up2 (rT (p + 1) N) 227 (upd ((rT (p + 1) N) 227) (p + 1) 4)))) 227 (upd ((rT (p + 1 + 1 + 1) (rT (p + 1 + 1) (up2 (rT (p + 1) N) 227 (upd ((rT (p + 1) N) 227) (p + 1) 4)))) 227) (p + 1 + 1 + 1) 13)))) 227) (p + 1 + 1 + 1 + 1 + 1) 14)))) 227) (p + 1 + 1 + 1 + 1 + 1 + 1 + 1) 15)))) 227 (upd ((rT (p + 1 + 1 + 1 + 1 + 1 + 1 + 1 + 1 + 1) (rT (p + 1 + 1 + 1 + 1 + 1 + 1 + 1 + 1) (up2 (rT (p + 1 + 1 + 1 + 1 + 1 + 1 + 1) (rT (p + 1 + 1 + 1 + 1 + 1 + 1) (up2 (rT (p + 1 + 1 + 1 + 1 + 1) (rT (p + 1 + 1 + 1 + 1) (up2 (rT (p + 1 + 1 + 1) (rT (p + 1 + 1) (up2 (rT (p + 1) N) 227 (upd ((rT (p + 1) N) 227) (p + 1) 4)))) 227 (upd ((rT (p + 1 + 1 + 1) (rT (p + 1 + 1) (up2 (rT (p + 1) N) 227 (upd ((rT (p + 1) N) 227) (p + 1) 4)))) 227) (p + 1 + 1 + 1) 13)))) 227 (upd ((rT (p + 1 + 1 + 1 + 1 + 1) (rT (p + 1 + 1 + 1 + 1) (up2 (rT (p + 1 + 1 + 1) (rT (p + 1 + 1) (up2 (rT (p + 1) N) 227 (upd ((rT (p + 1) N) 227) (p + 1) 4)))) 227 (upd ((rT (p + 1 + 1 + 1) (rT (p + 1 + 1) (up2 (rT (p + 1) N) 227 (upd ((rT (p + 1) N) 227) (p + 1) 4)))) 227) (p + 1 + 1 + 1) 13)))) 227) (p + 1 + 1 + 1 + 1 + 1) 14)))) 227 (upd ((rT (p + 1 + 1 + 1 + 1 + 1 + 1 + 1) (rT (p + 1 + 1 + 1 + 1 + 1 + 1) (up2 (rT (p + 1 + 1 + 1 + 1 + 1) (rT (p + 1 + 1 + 1 + 1) (up2 (rT (p + 1 + 1 + 1) (rT (p + 1 + 1) (up2 (rT (p + 1) N) 227 (upd ((rT (p + 1) N) 227) (p + 1) 4)))) 227 (upd ((rT (p + 1 + 1 + 1) (rT (p + 1 + 1) (up2 (rT (p + 1) N) 227 (upd ((rT (p + 1) N) 227) (p + 1) 4)))) 227) (p + 1 + 1 + 1) 13)))) 227 (upd ((rT (p + 1 + 1 + 1 + 1 + 1) (rT (p + 1 + 1 + 1 + 1) (up2 (rT (p + 1 + 1 + 1) (rT (p + 1 + 1) (up2 (rT (p + 1) N) 227 (upd ((rT (p + 1) N) 227) (p + 1) 4)))) 227 (upd ((rT (p + 1 + 1 + 1) (rT (p + 1 + 1) (up2 (rT (p + 1) N) 227 (upd ((rT (p + 1) N) 227) (p + 1) 4)))) 227) (p + 1 + 1 + 1) 13)))) 227) (p + 1 + 1 + 1 + 1 + 1) 14)))) 227) (p + 1 + 1 + 1 + 1 + 1 + 1 + 1) 15)))) 227) (p + 1 + 1 + 1 + 1 + 1 + 1 + 1 + 1 + 1) 16))), P, by omega, FC.adv, z10.fn, fun K hk => hcl K ?_, fun K hk => ?_⟩
    · rw [if_neg (by decide)]
      exact hk
    · intro N1 e1
      rw [hs.inc] at e1
      subst e1
      have s1 := (LNS.start hs).eat (by omega)
      refine r_eatAs s1.1 hK (fun _ => And.intro (fun z => absurd z (by decide)) (fun _ => ?_)) (fun z => absurd h1 z)
      have s2 := s1.as (by omega) 4
      refine r_eat s2.1 hK (fun _ => And.intro (fun z => absurd z (by decide)) (fun _ => ?_)) (fun z => absurd h2 z)
      have s3 := s2.eat (by omega)
      refine r_eatAs s3.1 hK (fun _ => And.intro (fun z => absurd z (by decide)) (fun _ => ?_)) (fun z => absurd h3 z)
      have s4 := s3.as (by omega) 13
      refine r_eat s4.1 hK (fun _ => And.intro (fun z => absurd z (by decide)) (fun _ => ?_)) (fun z => absurd h4 z)
      have s5 := s4.eat (by omega)
      refine r_isEnd s5.1 hK (fun _ => And.intro (fun z => absurd z (by decide)) (fun _ => ?_)) (fun z => absurd h5 z)
      have s6 := s5.as (by omega) 14
      refine r_eat s6.1 hK (fun _ => And.intro (fun z => absurd z (by decide)) (fun _ => ?_)) (fun z => absurd h6 z)
      have s7 := s6.eat (by omega)
      refine r_eatAs s7.1 hK (fun _ => And.intro (fun z => absurd z (by decide)) (fun _ => ?_)) (fun z => absurd h7 z)
      have s8 := s7.as (by omega) 15
      refine r_eat s8.1 hK (fun _ => And.intro (fun z => absurd z (by decide)) (fun _ => ?_)) (fun z => absurd h8 z)
      have s9 := s8.eat (by omega)
      refine r_eatAs s9.1 hK (fun _ => And.intro (fun z => absurd z (by decide)) (fun _ => ?_)) (fun z => absurd h9 z)
      have s10 := s9.as (by omega) 16
      exact r_eat s10.1 hK (fun z => absurd z n10) (fun _ => And.intro (fun _ => hk) (fun z => absurd rfl z))
  by_cases e11 : n = 11
  · subst e11
    have c1 : ck (κ (p + 1)) = 2 := hM 1 (by omega)
    have h1 : κ (p + 1) = 40 := (ck_2 (hK.2.1 _ (by omega))).mp c1
    have c2 : ck (κ (p + 1 + 1)) = 44 := hM 2 (by omega)
    have h2 : κ (p + 1 + 1) = 10 := (ck_44 (hK.2.1 _ (by omega))).mp c2
    have c3 : ck (κ (p + 1 + 1 + 1)) = 4 := hM 3 (by omega)
    have h3 : κ (p + 1 + 1 + 1) = 41 := (ck_4 (hK.2.1 _ (by omega))).mp c3
    have c4 : ck (κ (p + 1 + 1 + 1 + 1)) = 45 := hM 4 (by omega)
    have h4 : κ (p + 1 + 1 + 1 + 1) = 11 := (ck_45 (hK.2.1 _ (by omega))).mp c4
    have c5 : ck (κ (p + 1 + 1 + 1 + 1 + 1)) = 3 := hM 5 (by omega)
    have h5 := c5
    have c6 : ck (κ (p + 1 + 1 + 1 + 1 + 1 + 1)) = 46 := hM 6 (by omega)
    have h6 : κ (p + 1 + 1 + 1 + 1 + 1 + 1) = 14 := (ck_46 (hK.2.1 _ (by omega))).mp c6
    have c7 : ck (κ (p + 1 + 1 + 1 + 1 + 1 + 1 + 1)) = 4 := hM 7 (by omega)
    have h7 : κ (p + 1 + 1 + 1 + 1 + 1 + 1 + 1) = 41 := (ck_4 (hK.2.1 _ (by omega))).mp c7
    have c8 : ck (κ (p + 1 + 1 + 1 + 1 + 1 + 1 + 1 + 1)) = 47 := hM 8 (by omega)
    have h8 : κ (p + 1 + 1 + 1 + 1 + 1 + 1 + 1 + 1) = 15 := (ck_47 (hK.2.1 _ (by omega))).mp c8
    have c9 : ck (κ (p + 1 + 1 + 1 + 1 + 1 + 1 + 1 + 1 + 1)) = 2 := hM 9 (by omega)
    have h9 : κ (p + 1 + 1 + 1 + 1 + 1 + 1 + 1 + 1 + 1) = 40 := (ck_2 (hK.2.1 _ (by omega))).mp c9
    have c10 : ck (κ (p + 1 + 1 + 1 + 1 + 1 + 1 + 1 + 1 + 1 + 1)) = 24 := hM 10 (by omega)
    have h10 : κ (p + 1 + 1 + 1 + 1 + 1 + 1 + 1 + 1 + 1 + 1) = 16 := (ck_24 (hK.2.1 _ (by omega))).mp c10
    have d11 : ¬ ck (κ (p + 1 + 1 + 1 + 1 + 1 + 1 + 1 + 1 + 1 + 1 + 1)) = 2 := hF (by decide)
    have n11 : ¬ κ (p + 1 + 1 + 1 + 1 + 1 + 1 + 1 + 1 + 1 + 1 + 1) = 40 := fun z => d11 ((ck_2 (hK.2.1 _ (by omega))).mpr z)
    have z1 := (LNS.start hs).eat (by omega)
    have z2 := z1.as (by omega) 4
    have z3 := z2.eat (by omega)
    have z4 := z3.as (by omega) 13
    have z5 := z4.eat (by omega)
    have z6 := z5.as (by omega) 14
    have z7 := z6.eat (by omega)
    have z8 := z7.as (by omega) 15
    have z9 := z8.eat (by omega)
    have z10 := z9.as (by omega) 16
    have z11 := z10.eat (by omega)
    have z12 := z11.role 17
    refine Or.inr ⟨p + 11, cT (p + 11) F, up2 (rT (p + 1 + 1 + 1 + 1 + 1 + 1 + 1 + 1 + 1 + 1 + 1) (rT (p + 1 + 1 + 1 + 1 + 1 + 1 + 1 + 1 + 1 + 1) (up2 (rT (p + 1 + 1 + 1 + 1 + 1 + 1 + 1 + 1 + 1) (rT (p + 1 + 1 + 1 + 1 + 1 + 1 + 1 + 1) (up2 (rT (p + 1 + 1 + 1 + 1 + 1 + 1 + 1) (rT (p + 1 + 1 + 1 + 1 + 1 + 1) (up2 (rT (p + 1 + 1 + 1 + 1 + 1) (rT (p + 1 + 1 + 1 + 1) (up2 (rT (p + 1 + 1 + 1) (rT (p + 1 + 1) (up2 (rT (p + 1) N) 227 (upd ((rT (p + 1) N) 227) (p + 1) 4)))) 227 (upd ((rT (p + 1 + 1 + 1) (rT (p + 1 + 1) (up2 (rT (p + 1) N) 227 (upd ((rT (p + 1) N) 227) (p + 1) 4)))) 227) (p + 1 + 1 + 1) 13)))) 227 (upd ((rT (p + 1 + 1 + 1 + 1 + 1) (rT (p + 1 + 1 + 1 + 1) (up2 (rT (p + 1 + 1 + 1) (rT (p + 1 + 1) (up2 (rT (p + 1) N) 227 (upd ((rT (p + 1) N) 227) (p + 1) 4)))) 227 (upd ((rT (p + 1 + 1 + 1) (rT (p + 1 + 1) (up2 (rT (p + 1) N) 227 (upd ((rT (p + 1) N) 227) (p + 1) 4)))) 227) (p + 1 + 1 + 1) 13)))) 227) (p + 1 + 1 + 1 + 1 + 1) 14)))) 227 (upd ((rT (p + 1 + 1 + 1 + 1 + 1 + 1 + 1) (rT (p + 1 + 1 + 1 + 1 + 1 + 1) (up2 (rT (p + 1 + 1 + 1 + 1 + 1) (rT (p + 1 + 1 + 1 + 1) (up2 (rT (p + 1 + 1 + 1) (rT (p + 1 + 1) (up2 (rT (p + 1) N) 227 (upd ((rT (p + 1) N) 227) (p + 1) 4)))) 227 (upd ((rT (p + 1 + 1 + 1) (rT (p + 1 + 1) (up2 (rT (p + 1) N) 227 (upd ((rT (p + 1) N) 227) (p + 1) 4)))) 227) (p + 1 + 1 + 1) 13)))) 227 (upd ((rT (p + 1 + 1 + 1 + 1 + 1) (rT (p + 1 + 1 + 1 + 1) (up2 (rT (p + 1 + 1 + 1) (rT (p + 1 + 1) (up2 (rT (p + 1) N) 227 (upd ((rT (p + 1) N) 227) (p + 1) 4)))) 227 (upd ((rT (p + 1 + 1 + 1) (rT (p + 1 + 1) (up2 (rT (p + 1) N) 227 (upd ((rT (p + 1) N) 227) (p + 1) 4)))) 227) (p + 1 + 1 + 1) 13)))) 227) (p + 1 + 1 + 1 + 1 + 1) 14)))) 227) (p + 1 + 1 + 1 + 1 + 1 + 1 + 1) 15)))) 227 (upd ((rT (p + 1 + 1 + 1 + 1 + 1 + 1 + 1 + 1 + 1) (rT (p + 1 + 1 + 1 + 1 + 1 + 1 + 1 + 1) (up2 (rT (p + 1 + 1 + 1 + 1 + 1 + 1 + 1) (rT (p + 1 + 1 + 1 + 1 + 1 + 1) (up2 (rT (p + 1 + 1 + 1 + 1 + 1) (rT (p + 1 + 1 + 1 + 1) (up2 (rT (p + 1 + 1 + 1) (rT (p + 1 + 1) (up2 (rT (p + 1) N) 227 (upd ((rT (p + 1) N) 227) (p + 1) 4)))) 227 (upd ((rT (p + 1 + 1 + 1) (rT (p + 1 + 1) (up2 (rT (p + 1) N) 227 (upd ((rT (p + 1) N) 227) (p + 1) 4)))) 227) (p + 1 + 1 + 1) 13)))) 227 (upd ((rT (p + 1 + 1 + 1 + 1 + 1) (rT (p + 1 + 1 + 1 + 1) (up2 (rT (p + 1 + 1 + 1) (rT (p + 1 + 1) (up2 (rT (p + 1) N) 227 (upd ((rT (p + 1) N) 227) (p + 1) 4)))) 227 (upd ((rT (p + 1 + 1 + 1) (rT (p + 1 + 1) (up2 (rT (p + 1) N) 227 (upd ((rT (p + 1) N) 227) (p + 1) 4)))) 227) (p + 1 + 1 + 1) 13)))) 227) (p + 1 + 1 + 1 + 1 + 1) 14)))) 227 (upd ((rT (p + 1 + 1 + 1 + 1 + 1 + 1 + 1) (rT (p + 1 + 1 + 1 + 1 + 1 + 1) (up2 (rT (p + 1 + 1 + 1 + 1 + 1) (rT (p + 1 + 1 + 1 + 1) (up2 (rT (p + 1 + 1 + 1) (rT (p + 1 + 1) (up2 (rT (p + 1) N) 227 (upd ((rT (p + 1) N) 227) (p + 1) 4)))) 227 (upd ((rT (p + 1 + 1 + 1) (rT (p + 1 + 1) (up2 (rT (p + 1) N) 227 (upd ((rT (p + 1) N) 227) (p + 1) 4)))) 227) (p + 1 + 1 + 1) 13)))) 227 (upd ((rT (p + 1 + 1 + 1 + 1 + 1) (rT (p + 1 + 1 + 1 + 1) (up2 (rT (p + 1 + 1 + 1) (rT (p + 1 + 1) (up2 (rT (p + 1) N) 227 (upd ((rT (p + 1) N) 227) (p + 1) 4)))) 227 (upd ((rT (p + 1 + 1 + 1) (rT (p + 1 + 1) (up2 (rT (p + 1) N) 227 (upd ((rT (p + 1) N) 227) (p + 1) 4)))) 227) (p + 1 + 1 + 1) 13)))) 227) (p + 1 + 1 + 1 + 1 + 1) 14)))) 227) (p + 1 + 1 + 1 + 1 + 1 + 1 + 1) 15)))) 227) (p + 1 + 1 + 1 + 1 + 1 + 1 + 1 + 1 + 1) 16)))) 227 (upd ((rT (p + 1 + 1 + 1 + 1 + 1 + 1 + 1 + 1 + 1 + 1 + 1) (rT (p + 1 + 1 + 1 + 1 + 1 + 1 + 1 + 1 + 1 + 1) (up2 (rT (p + 1 + 1 + 1 + 1 + 1 + 1 + 1 + 1 + 1) (rT (p + 1 + 1 + 1 + 1 + 1 + 1 + 1 + 1) (up2 (rT (p + 1 + 1 + 1 + 1 + 1 + 1 + 1) (rT (p + 1 + 1 + 1 + 1 + 1 + 1) (up2 (rT (p + 1 + 1 + 1 + 1 + 1) (rT (p + 1 + 1 + 1 + 1) (up2 (rT (p + 1 + 1 + 1) (rT (p + 1 + 1) (up2 (rT (p + 1) N) 227 (upd ((rT (p + 1) N) 227) (p + 1) 4)))) 227 (upd ((rT (p + 1 + 1 + 1) (rT (p + 1 + 1) (up2 (rT (p + 1) N) 227 (upd ((rT (p + 1) N) 227) (p + 1) 4)))) 227) (p + 1 + 1 + 1) 13)))) 227 (upd ((rT (p + 1 + 1 + 1 + 1 + 1) (rT (p + 1 + 1 + 1 + 1) (up2 (rT (p + 1 + 1 + 1) (rT (p + 1 + 1) (up2 (rT (p + 1) N) 227 (upd ((rT (p + 1) N) 227) (p + 1) 4)))) 227 (upd ((rT (p + 1 + 1 + 1) (rT (p + 1 + 1) (up2 (rT (p + 1) N) 227 (upd ((rT (p + 1) N) 227) (p + 1) 4)))) 227) (p + 1 + 1 + 1) 13)))) 227) (p + 1 + 1 + 1 + 1 + 1) 14)))) 227 (upd ((rT (p + 1 + 1 + 1 + 1 + 1 + 1 + 1) (rT (p + 1 + 1 + 1 + 1 + 1 + 1) (up2 (rT (p + 1 + 1 + 1 + 1 + 1) (rT (p + 1 + 1 + 1 + 1) (up2 (rT (p + 1 + 1 + 1) (rT (p + 1 + 1) (up2 (rT (p + 1) N) 227 (upd ((rT (p + 1) N) 227) (p + 1) 4)))) 227 (upd ((rT (p + 1 + 1 + 1) (rT (p + 1 + 1) (up2 (rT (p + 1) N) 227 (upd ((rT (p + 1) N) 227) (p + 1) 4)))) 227) (p + 1 + 1 + 1) 13)))) 227 (upd ((rT (p + 1 + 1 + 1 + 1 + 1) (rT (p + 1 + 1 + 1 + 1) (up2 (rT (p + 1 + 1 + 1) (rT (p + 1 + 1) (up2 (rT (p + 1) N) 227 (upd ((rT (p + 1) N) 227) (p + 1) 4)))) 227 (upd ((rT (p + 1 + 1 + 1) (rT (p + 1 + 1) (up2 (rT (p + 1) N) 227 (upd ((rT (p + 1) N) 227) (p + 1) 4)))) 227) (p + 1 + 1 + 1) 13)))) 227) (p + 1 + 1 + 1 + 1 + 1) 14)))) 227) (p + 1 + 1 + 1 + 1 + 1 + 1 + 1) 15)))) 227 (upd ((rT (p + 1 + 1 + 1 + 1 + 1 + 1 + 1 + 1 + 1) (rT (p + 1 + 1 + 1 + 1 + 1 + 1 + 1 + 1) (up2 (rT (p + 1 + 1 + 1 + 1 + 1 + 1 + 1) (rT (p + 1 + 1 + 1 + 1 + 1 + 1) (up2 (rT (p + 1 + 1 + 1 + 1 + 1) (rT (p + 1 + 1 + 1 + 1) (up2 (rT (p + 1 + 1 + 1) (rT (p + 1 + 1) (up2 (rT (p + 1) N) 227 (upd ((rT (p + 1) N) 227) (p + 1) 4)))) 227 (upd ((rT (p + 1 + 1 + 1) (rT (p + 1 + 1) (up2 (rT (p + 1) N) 227 (upd ((rT (p + 1) N) 227) (p + 1) 4)))) 227) (p + 1 + 1 + 1) 13)))) 227 (upd ((rT (p + 1 + 1 + 1 + 1 + 1) (rT (p + 1 + 1 + 1 + 1) (up2 (rT (p + 1 + 1 + 1) (rT (p + 1 + 1) (up2 (rT (p + 1) N) 227 (upd ((rT (p + 1) N) 227) (p + 1) 4)))) 227 (upd ((rT (p + 1 + 1 + 1) (rT (p + 1 + 1) (up2 (rT (p + 1) N) 227 (upd ((rT (p + 1) N) 227) (p + 1) 4)))) 227) (p + 1 + 1 + 1) 13)))) 227) (p + 1 + 1 + 1 + 1 + 1) 14)))) 227 (upd ((rT (p + 1 + 1 + 1 + 1 + 1 + 1 + 1) (rT (p + 1 + 1 + 1 + 1 + 1 + 1) (up2 (rT (p + 1 + 1 + 1 + 1 + 1) (rT (p + 1 + 1 + 1 + 1) (up2 (rT (p + 1 + 1 + 1) (rT (p + 1 + 1) (up2 (rT (p + 1) N) 227 (upd ((rT (p + 1) N) 227) (p + 1) 4)))) 227 (upd ((rT (p + 1 + 1 + 1) (rT (p + 1 + 1) (up2 (rT (p + 1) N) 227 (upd ((rT (p + 1) N) 227) (p + 1) 4)))) 227) (p + 1 + 1 + 1) 13)))) 227 (upd ((rT (p + 1 + 1 + 1 + 1 + 1) (rT (p + 1 + 1 + 1 + 1) (up2 (rT (p + 1 + 1 + 1) (rT (p + 1 + 1) (up2 (rT (p + 1) N) 227 (upd ((rT (p + 1) N) 227) (p + 1) 4)))) 227 (upd ((rT (p + 1 + 1 + 1) (rT (p + 1 + 1) (up2 (rT (p + 1) N) 227 (upd ((rT (p + 1) N) 227) (p + 1) 4)))) 227) (p + 1 + 1 + 1) 13)))) 227) (p + 1 + 1 + 1 + 1 + 1) 14)))) 227) (p + 1 + 1 + 1 + 1 + 1 + 1 + 1) 15)))) 227) (p + 1 + 1 + 1 + 1 + 1 + 1 + 1 + 1 + 1) 16)))) 227) (p + 1 + 1 + 1 + 1 + 1 + 1 + 1 + 1 + 1 + 1 + 1) 17), P, by omega, FC.adv, z12.fn, fun K hk => hcl K ?_, fun K hk => ?_⟩
    · rw [if_neg (by decide)]
      exact hk
    · intro N1 e1
      rw [hs.inc] at e1
      subst e1
      have s1 := (LNS.start hs).eat (by omega)
      refine r_eatAs s1.1 hK (fun _ => And.intro (fun z => absurd z (by decide)) (fun _ => ?_)) (fun z => absurd h1 z)
      have s2 := s1.as (by omega) 4
      refine r_eat s2.1 hK (fun _ => And.intro (fun z => absurd z (by decide)) (fun _ => ?_)) (fun z => absurd h2 z)
      have s3 := s2.eat (by omega)
      refine r_eatAs s3.1 hK (fun _ => And.intro (fun z => absurd z (by decide)) (fun _ => ?_)) (fun z => absurd h3 z)
      have s4 := s3.as (by omega) 13
      refine r_eat s4.1 hK (fun _ => And.intro (fun z => absurd z (by decide)) (fun _ => ?_)) (fun z => absurd h4 z)
      have s5 := s4.eat (by omega)
      refine r_isEnd s5.1 hK (fun _ => And.intro (fun z => absurd z (by decide)) (fun _ => ?_)) (fun z => absurd h5 z)
      have s6 := s5.as (by omega) 14
      refine r_eat s6.1 hK (fun _ => And.intro (fun z => absurd z (by decide)) (fun _ => ?_)) (fun z => absurd h6 z)
      have s7 := s6.eat (by omega)
      refine r_eatAs s7.1 hK (fun _ => And.intro (fun z => absurd z (by decide)) (fun _ => ?_)) (fun z => absurd h7 z)
      have s8 := s7.as (by omega) 15
      refine r_eat s8.1 hK (fun _ => And.intro (fun z => absurd z (by decide)) (fun _ => ?_)) (fun z => absurd h8 z)
      have s9 := s8.eat (by omega)
      refine r_eatAs s9.1 hK (fun _ => And.intro (fun z => absurd z (by decide)) (fun _ => ?_)) (fun z => absurd h9 z)
      have s10 := s9.as (by omega) 16
      refine r_eat s10.1 hK (fun _ => And.intro (fun z => absurd z (by decide)) (fun _ => ?_)) (fun z => absurd h10 z)
      have s11 := s10.eat (by omega)
      exact r_eatAs s11.1 hK (fun z => absurd z n11) (fun _ => And.intro (fun _ => hk) (fun z => absurd rfl z))
  have en : n = 12 := by omega
  subst en
  have c1 : ck (κ (p + 1)) = 2 := hM 1 (by omega)
  have h1 : κ (p + 1) = 40 := (ck_2 (hK.2.1 _ (by omega))).mp c1
  have c2 : ck (κ (p + 1 + 1)) = 44 := hM 2 (by omega)
  have h2 : κ (p + 1 + 1) = 10 := (ck_44 (hK.2.1 _ (by omega))).mp c2
  have c3 : ck (κ (p + 1 + 1 + 1)) = 4 := hM 3 (by omega)
  have h3 : κ (p + 1 + 1 + 1) = 41 := (ck_4 (hK.2.1 _ (by omega))).mp c3
  have c4 : ck (κ (p + 1 + 1 + 1 + 1)) = 45 := hM 4 (by omega)
  have h4 : κ (p + 1 + 1 + 1 + 1) = 11 := (ck_45 (hK.2.1 _ (by omega))).mp c4
  have c5 : ck (κ (p + 1 + 1 + 1 + 1 + 1)) = 3 := hM 5 (by omega)
  have h5 := c5
  have c6 : ck (κ (p + 1 + 1 + 1 + 1 + 1 + 1)) = 46 := hM 6 (by omega)
  have h6 : κ (p + 1 + 1 + 1 + 1 + 1 + 1) = 14 := (ck_46 (hK.2.1 _ (by omega))).mp c6
  have c7 : ck (κ (p + 1 + 1 + 1 + 1 + 1 + 1 + 1)) = 4 := hM 7 (by omega)
  have h7 : κ (p + 1 + 1 + 1 + 1 + 1 + 1 + 1) = 41 := (ck_4 (hK.2.1 _ (by omega))).mp c7
  have c8 : ck (κ (p + 1 + 1 + 1 + 1 + 1 + 1 + 1 + 1)) = 47 := hM 8 (by omega)
  have h8 : κ (p + 1 + 1 + 1 + 1 + 1 + 1 + 1 + 1) = 15 := (ck_47 (hK.2.1 _ (by omega))).mp c8
  have c9 : ck (κ (p + 1 + 1 + 1 + 1 + 1 + 1 + 1 + 1 + 1)) = 2 := hM 9 (by omega)
  have h9 : κ (p + 1 + 1 + 1 + 1 + 1 + 1 + 1 + 1 + 1) = 40 := (ck_2 (hK.2.1 _ (by omega))).mp c9
  have c10 : ck (κ (p + 1 + 1 + 1 + 1 + 1 + 1 + 1 + 1 + 1 + 1)) = 24 := hM 10 (by omega)
  have h10 : κ (p + 1 + 1 + 1 + 1 + 1 + 1 + 1 + 1 + 1 + 1) = 16 := (ck_24 (hK.2.1 _ (by omega))).mp c10
  have c11 : ck (κ (p + 1 + 1 + 1 + 1 + 1 + 1 + 1 + 1 + 1 + 1 + 1)) = 2 := hM 11 (by omega)
  have h11 : κ (p + 1 + 1 + 1 + 1 + 1 + 1 + 1 + 1 + 1 + 1 + 1) = 40 := (ck_2 (hK.2.1 _ (by omega))).mp c11
  have z1 := (LNS.start hs).eat (by omega)
  have z2 := z1.as (by omega) 4
  have z3 := z2.eat (by omega)
  have z4 := z3.as (by omega) 13
  have z5 := z4.eat (by omega)
  have z6 := z5.as (by omega) 14
  have z7 := z6.eat (by omega)
  have z8 := z7.as (by omega) 15
  have z9 := z8.eat (by omega)
  have z10 := z9.as (by omega) 16
  have z11 := z10.eat (by omega)
  have z12 := z11.as (by omega) 17
  refine Or.inl ⟨(rT (p + 1 + 1 + 1 + 1 + 1 + 1 + 1 + 1 + 1 + 1 + 1 + 1) (up2 (rT (p + 1 + 1 + 1 + 1 + 1 + 1 + 1 + 1 + 1 + 1 + 1) (rT (p + 1 + 1 + 1 + 1 + 1 + 1 + 1 + 1 + 1 + 1) (up2 (rT (p + 1 + 1 + 1 + 1 + 1 + 1 + 1 + 1 + 1) (rT (p + 1 + 1 + 1 + 1 + 1 + 1 + 1 + 1) (up2 (rT (p + 1 + 1 + 1 + 1 + 1 + 1 + 1) (rT (p + 1 + 1 + 1 + 1 + 1 + 1) (up2 (rT (p + 1 + 1 + 1 + 1 + 1) (rT (p + 1 + 1 + 1 + 1) (up2 (rT (p + 1 + 1 + 1) (rT (p + 1 + 1) (up2 (rT (p + 1) N) 227 (upd ((rT (p + 1) N) 227) (p + 1) 4)))) 227 (upd ((rT (p + 1 + 1 + 1) (rT (p + 1 + 1) (up2 (rT (p + 1) N) 227 (upd ((rT (p + 1) N) 227) (p + 1) 4)))) 227) (p + 1 + 1 + 1) 13)))) 227 (upd ((rT (p + 1 + 1 + 1 + 1 + 1) (rT (p + 1 + 1 + 1 + 1) (up2 (rT (p + 1 + 1 + 1) (rT (p + 1 + 1) (up2 (rT (p + 1) N) 227 (upd ((rT (p + 1) N) 227) (p + 1) 4)))) 227 (upd ((rT (p + 1 + 1 + 1) (rT (p + 1 + 1) (up2 (rT (p + 1) N) 227 (upd ((rT (p + 1) N) 227) (p + 1) 4)))) 227) (p + 1 + 1 + 1) 13)))) 227) (p + 1 + 1 + 1 + 1 + 1) 14)))) 227 (upd ((rT (p + 1 + 1 + 1 + 1 + 1 + 1 + 1) (rT (p + 1 + 1 + 1 + 1 + 1 + 1) (up2 (rT (p + 1 + 1 + 1 + 1 + 1) (rT (p + 1 + 1 + 1 + 1) (up2 (rT (p + 1 + 1 + 1) (rT (p + 1 + 1) (up2 (rT (p + 1) N) 227 (upd ((rT (p + 1) N) 227) (p + 1) 4)))) 227 (upd ((rT (p + 1 + 1 + 1) (rT (p + 1 + 1) (up2 (rT (p + 1) N) 227 (upd ((rT (p + 1) N) 227) (p + 1) 4)))) 227) (p + 1 + 1 + 1) 13)))) 227 (upd ((rT (p + 1 + 1 + 1 + 1 + 1) (rT (p + 1 + 1 + 1 + 1) (up2 (rT (p + 1 + 1 + 1) (rT (p + 1 + 1) (up2 (rT (p + 1) N) 227 (upd ((rT (p + 1) N) 227) (p + 1) 4)))) 227 (upd ((rT (p + 1 + 1 + 1) (rT (p + 1 + 1) (up2 (rT (p + 1) N) 227 (upd ((rT (p + 1) N) 227) (p + 1) 4)))) 227) (p + 1 + 1 + 1) 13)))) 227) (p + 1 + 1 + 1 + 1 + 1) 14)))) 227) (p + 1 + 1 + 1 + 1 + 1 + 1 + 1) 15)))) 227 (upd ((rT (p + 1 + 1 + 1 + 1 + 1 + 1 + 1 + 1 + 1) (rT (p + 1 + 1 + 1 + 1 + 1 + 1 + 1 + 1) (up2 (rT (p + 1 + 1 + 1 + 1 + 1 + 1 + 1) (rT (p + 1 + 1 + 1 + 1 + 1 + 1) (up2 (rT (p + 1 + 1 + 1 + 1 + 1) (rT (p + 1 + 1 + 1 + 1) (up2 (rT (p + 1 + 1 + 1) (rT (p + 1 + 1) (up2 (rT (p + 1) N) 227 (upd ((rT (p + 1) N) 227) (p + 1) 4)))) 227 (upd ((rT (p + 1 + 1 + 1) (rT (p + 1 + 1) (up2 (rT (p + 1) N) 227 (upd ((rT (p + 1) N) 227) (p + 1) 4)))) 227) (p + 1 + 1 + 1) 13)))) 227 (upd ((rT (p + 1 + 1 + 1 + 1 + 1) (rT (p + 1 + 1 + 1 + 1) (up2 (rT (p + 1 + 1 + 1) (rT (p + 1 + 1) (up2 (rT (p + 1) N) 227 (upd ((rT (p + 1) N) 227) (p + 1) 4)))) 227 (upd ((rT (p + 1 + 1 + 1) (rT (p + 1 + 1) (up2 (rT (p + 1) N) 227 (upd ((rT (p + 1) N) 227) (p + 1) 4)))) 227) (p + 1 + 1 + 1) 13)))) 227) (p + 1 + 1 + 1 + 1 + 1) 14)))) 227 (upd ((rT (p + 1 + 1 + 1 + 1 + 1 + 1 + 1) (rT (p + 1 + 1 + 1 + 1 + 1 + 1) (up2 (rT (p + 1 + 1 + 1 + 1 + 1) (rT (p + 1 + 1 + 1 + 1) (up2 (rT (p + 1 + 1 + 1) (rT (p + 1 + 1) (up2 (rT (p + 1) N) 227 (upd ((rT (p + 1) N) 227) (p + 1) 4)))) 227 (upd ((rT (p + 1 + 1 + 1) (rT (p + 1 + 1) (up2 (rT (p + 1) N) 227 (upd ((rT (p + 1) N) 227) (p + 1) 4)))) 227) (p + 1 + 1 + 1) 13)))) 227 (upd ((rT (p + 1 + 1 + 1 + 1 + 1) (rT (p + 1 + 1 + 1 + 1) (up2 (rT (p + 1 + 1 + 1) (rT (p + 1 + 1) (up2 (rT (p + 1) N) 227 (upd ((rT (p + 1) N) 227) (p + 1) 4)))) 227 (upd ((rT (p + 1 + 1 + 1) (rT (p + 1 + 1) (up2 (rT (p + 1) N) 227 (upd ((rT (p + 1) N) 227) (p + 1) 4)))) 227) (p + 1 + 1 + 1) 13)))) 227) (p + 1 + 1 + 1 + 1 + 1) 14)))) 227) (p + 1 + 1 + 1 + 1 + 1 + 1 + 1) 15)))) 227) (p + 1 + 1 + 1 + 1 + 1 + 1 + 1 + 1 + 1) 16)))) 227 (upd ((rT (p + 1 + 1 + 1 + 1 + 1 + 1 + 1 + 1 + 1 + 1 + 1) (rT (p + 1 + 1 + 1 + 1 + 1 + 1 + 1 + 1 + 1 + 1) (up2 (rT (p + 1 + 1 + 1 + 1 + 1 + 1 + 1 + 1 + 1) (rT (p + 1 + 1 + 1 + 1 + 1 + 1 + 1 + 1) (up2 (rT (p + 1 + 1 + 1 + 1 + 1 + 1 + 1) (rT (p + 1 + 1 + 1 + 1 + 1 + 1) (up2 (rT (p + 1 + 1 + 1 + 1 + 1) (rT (p + 1 + 1 + 1 + 1) (up2 (rT (p + 1 + 1 + 1) (rT (p + 1 + 1) (up2 (rT (p + 1) N) 227 (upd ((rT (p + 1) N) 227) (p + 1) 4)))) 227 (upd ((rT (p + 1 + 1 + 1) (rT (p + 1 + 1) (up2 (rT (p + 1) N) 227 (upd ((rT (p + 1) N) 227) (p + 1) 4)))) 227) (p + 1 + 1 + 1) 13)))) 227 (upd ((rT (p + 1 + 1 + 1 + 1 + 1) (rT (p + 1 + 1 + 1 + 1) (up2 (rT (p + 1 + 1 + 1) (rT (p + 1 + 1) (up2 (rT (p + 1) N) 227 (upd ((rT (p + 1) N) 227) (p + 1) 4)))) 227 (upd ((rT (p + 1 + 1 + 1) (rT (p + 1 + 1) (up2 (rT (p + 1) N) 227 (upd ((rT (p + 1) N) 227) (p + 1) 4)))) 227) (p + 1 + 1 + 1) 13)))) 227) (p + 1 + 1 + 1 + 1 + 1) 14)))) 227 (upd ((rT (p + 1 + 1 + 1 + 1 + 1 + 1 + 1) (rT (p + 1 + 1 + 1 + 1 + 1 + 1) (up2 (rT (p + 1 + 1 + 1 + 1 + 1) (rT (p + 1 + 1 + 1 + 1) (up2 (rT (p + 1 + 1 + 1) (rT (p + 1 + 1) (up2 (rT (p + 1) N) 227 (upd ((rT (p + 1) N) 227) (p + 1) 4)))) 227 (upd ((rT (p + 1 + 1 + 1) (rT (p + 1 + 1) (up2 (rT (p + 1) N) 227 (upd ((rT (p + 1) N) 227) (p + 1) 4)))) 227) (p + 1 + 1 + 1) 13)))) 227 (upd ((rT (p + 1 + 1 + 1 + 1 + 1) (rT (p + 1 + 1 + 1 + 1) (up2 (rT (p + 1 + 1 + 1) (rT (p + 1 + 1) (up2 (rT (p + 1) N) 227 (upd ((rT (p + 1) N) 227) (p + 1) 4)))) 227 (upd ((rT (p + 1 + 1 + 1) (rT (p + 1 + 1) (up2 (rT (p + 1) N) 227 (upd ((rT (p + 1) N) 227) (p + 1) 4)))) 227) (p + 1 + 1 + 1) 13)))) 227) (p + 1 + 1 + 1 + 1 + 1) 14)))) 227) (p + 1 + 1 + 1 + 1 + 1 + 1 + 1) 15)))) 227 (upd ((rT (p + 1 + 1 + 1 + 1 + 1 + 1 + 1 + 1 + 1) (rT (p + 1 + 1 + 1 + 1 + 1 + 1 + 1 + 1) (up2 (rT (p + 1 + 1 + 1 + 1 + 1 + 1 + 1) (rT (p + 1 + 1 + 1 + 1 + 1 + 1) (up2 (rT (p + 1 + 1 + 1 + 1 + 1) (rT (p + 1 + 1 + 1 + 1) (up2 (rT (p + 1 + 1 + 1) (rT (p + 1 + 1) (up2 (rT (p + 1) N) 227 (upd ((rT (p + 1) N) 227) (p + 1) 4)))) 227 (upd ((rT (p + 1 + 1 + 1) (rT (p + 1 + 1) (up2 (rT (p + 1) N) 227 (upd ((rT (p + 1) N) 227) (p + 1) 4)))) 227) (p + 1 + 1 + 1) 13)))) 227 (upd ((rT (p + 1 + 1 + 1 + 1 + 1) (rT (p + 1 + 1 + 1 + 1) (up2 (rT (p + 1 + 1 + 1) (rT (p + 1 + 1) (up2 (rT (p + 1) N) 227 (upd ((rT (p + 1) N) 227) (p + 1) 4)))) 227 (upd ((rT (p + 1 + 1 + 1) (rT (p + 1 + 1) (up2 (rT (p + 1) N) 227 (upd ((rT (p + 1) N) 227) (p + 1) 4)))) 227) (p + 1 + 1 + 1) 13)))) 227) (p + 1 + 1 + 1 + 1 + 1) 14)))) 227 (upd ((rT (p + 1 + 1 + 1 + 1 + 1 + 1 + 1) (rT (p + 1 + 1 + 1 + 1 + 1 + 1) (up2 (rT (p + 1 + 1 + 1 + 1 + 1) (rT (p + 1 + 1 + 1 + 1) (up2 (rT (p + 1 + 1 + 1) (rT (p + 1 + 1) (up2 (rT (p + 1) N) 227 (upd ((rT (p + 1) N) 227) (p + 1) 4)))) 227 (upd ((rT (p + 1 + 1 + 1) (rT (p + 1 + 1) (up2 (rT (p + 1) N) 227 (upd ((rT (p + 1) N) 227) (p + 1) 4)))) 227) (p + 1 + 1 + 1) 13)))) 227 (upd ((rT (p + 1 + 1 + 1 + 1 + 1) (rT (p + 1 + 1 + 1 + 1) (up2 (rT (p + 1 + 1 + 1) (rT (p + 1 + 1) (up2 (rT (p + 1) N) 227 (upd ((rT (p + 1) N) 227) (p + 1) 4)))) 227 (upd ((rT (p + 1 + 1 + 1) (rT (p + 1 + 1) (up2 (rT (p + 1) N) 227 (upd ((rT (p + 1) N) 227) (p + 1) 4)))) 227) (p + 1 + 1 + 1) 13)))) 227) (p + 1 + 1 + 1 + 1 + 1) 14)))) 227) (p + 1 + 1 + 1 + 1 + 1 + 1 + 1) 15)))) 227) (p + 1 + 1 + 1 + 1 + 1 + 1 + 1 + 1 + 1) 16)))) 227) (p + 1 + 1 + 1 + 1 + 1 + 1 + 1 + 1 + 1 + 1 + 1) 17))), hM, hpn, z12, fun K hk => ?_, fun K hk => hcl K ?_⟩
  · intro N1 e1
    rw [hs.inc] at e1
    subst e1
    have s1 := (LNS.start hs).eat (by omega)
    refine r_eatAs s1.1 hK (fun _ => And.intro (fun z => absurd z (by decide)) (fun _ => ?_)) (fun z => absurd h1 z)
    have s2 := s1.as (by omega) 4
    refine r_eat s2.1 hK (fun _ => And.intro (fun z => absurd z (by decide)) (fun _ => ?_)) (fun z => absurd h2 z)
    have s3 := s2.eat (by omega)
    refine r_eatAs s3.1 hK (fun _ => And.intro (fun z => absurd z (by decide)) (fun _ => ?_)) (fun z => absurd h3 z)
    have s4 := s3.as (by omega) 13
    refine r_eat s4.1 hK (fun _ => And.intro (fun z => absurd z (by decide)) (fun _ => ?_)) (fun z => absurd h4 z)
    have s5 := s4.eat (by omega)
    refine r_isEnd s5.1 hK (fun _ => And.intro (fun z => absurd z (by decide)) (fun _ => ?_)) (fun z => absurd h5 z)
    have s6 := s5.as (by omega) 14
    refine r_eat s6.1 hK (fun _ => And.intro (fun z => absurd z (by decide)) (fun _ => ?_)) (fun z => absurd h6 z)
    have s7 := s6.eat (by omega)
    refine r_eatAs s7.1 hK (fun _ => And.intro (fun z => absurd z (by decide)) (fun _ => ?_)) (fun z => absurd h7 z)
    have s8 := s7.as (by omega) 15
    refine r_eat s8.1 hK (fun _ => And.intro (fun z => absurd z (by decide)) (fun _ => ?_)) (fun z => absurd h8 z)
    have s9 := s8.eat (by omega)
    refine r_eatAs s9.1 hK (fun _ => And.intro (fun z => absurd z (by decide)) (fun _ => ?_)) (fun z => absurd h9 z)
    have s10 := s9.as (by omega) 16
    refine r_eat s10.1 hK (fun _ => And.intro (fun z => absurd z (by decide)) (fun _ => ?_)) (fun z => absurd h10 z)
    have s11 := s10.eat (by omega)
    refine r_eatAs s11.1 hK (fun _ => And.intro (fun z => absurd z (by decide)) (fun _ => ?_)) (fun z => absurd h11 z)
    have s12 := s11.as (by omega) 17
    exact hk
  · rw [if_pos rfl]
    exact hk
theorem l_all_WHISTLE_HEAD (hK : KIN κ m) {K : Int32 → M2 → L2 → Prop} {F : M2} {L : L2} {p n : Nat} (hn : n ≤ 3) (hM : ∀ j, j < n → ck (κ (p + j)) = kWHISTLE_HEAD j) (hF : n < 3 → ¬ ck (κ (p + n)) = kWHISTLE_HEAD n) (hpn : p + n ≤ m) (h : K (if n = 3 then 1 else 0) (cT (p + n) F) L) : ∀ (d j f : Nat), j + d = n → d + 1 < f → SC κ m val (cT (p + j) F) L (p + j) → wl_X2_takeAll_WHISTLE_HEAD_2 K f (cT (p + j) F) L (nI j) := by
  intro d
  have hm := hK.1
  induction d with
  | zero =>
    intro j f hj hf hc
    obtain ⟨f, rfl, _⟩ := fuel (show 0 < f by omega)
    have e : j = n := by omega
    subst e
    have e6 : Int32.ofNat 3 = nI 3 := rfl
    rw [wl_X2_takeAll_WHISTLE_HEAD_2, e6]
    refine And.intro (fun c => ?_) (fun c => ?_)
    · rw [le_nI (by omega) (by omega)] at c
      rw [if_pos (show j = 3 by omega)] at h
      exact h
    · rw [le_nI (by omega) (by omega)] at c
      rw [if_neg (show ¬ j = 3 by omega)] at h
      refine ⟨inb_nI (by omega) (by decide), ?_⟩
      rw [tn_nI (by omega)]
      exact c_take hc hK (fun z => absurd z (hF (by omega))) (fun _ => And.intro (fun z => absurd rfl z) (fun _ => h))
  | succ d ih =>
    intro j f hj hf hc
    obtain ⟨f, rfl, _⟩ := fuel (show 0 < f by omega)
    have e6 : Int32.ofNat 3 = nI 3 := rfl
    rw [wl_X2_takeAll_WHISTLE_HEAD_2, e6]
    refine And.intro (fun c => absurd c (nI_ge (by omega) (by omega))) (fun _ => ⟨inb_nI (by omega) (by decide), ?_⟩)
    rw [tn_nI (by omega)]
    refine c_take hc hK (fun _ => And.intro (fun _ v ev => ?_) (fun z => absurd z (by decide))) (fun z => absurd (hM j (by omega)) z)
    subst ev
    rw [nI_1, cT_cT]
    have hc1 := hc.adv (q := p + (j + 1)) (by omega)
    rw [cT_cT] at hc1
    exact ih (j + 1) f (by omega) (by omega) hc1
theorem c_all_WHISTLE_HEAD (hK : KIN κ m) {K : Int32 → M2 → L2 → Prop} {F : M2} {L : L2} {p n : Nat} (hc : SC κ m val F L p) (hn : n ≤ 3) (hM : ∀ j, j < n → ck (κ (p + j)) = kWHISTLE_HEAD j) (hF : n < 3 → ¬ ck (κ (p + n)) = kWHISTLE_HEAD n) (hpn : p + n ≤ m) (h : K (if n = 3 then 1 else 0) (cT (p + n) F) L) : wp_X2_takeAll_WHISTLE_HEAD F L K := by
  have hc0 := hc.adv (q := p + 0) (by omega)
  have := l_all_WHISTLE_HEAD hK hn hM hF hpn h n 0 fK (by omega) (by rw [fK_eq]; omega) hc0
  rw [Nat.add_zero, hc.self] at this
  exact this
theorem m_all_WHISTLE_HEAD (hK : KIN κ m) {p n : Nat} (hp : p ≤ m) (hn : n ≤ 3) (hM : ∀ j, j < n → ck (κ (p + j)) = kWHISTLE_HEAD j) : p + n ≤ m := by
  induction n with
  | zero => exact hp
  | succ n ih =>
    have h1 := ih (by omega) (fun j hj => hM j (by omega))
    have h2 := hM n (by omega)
    rcases Nat.lt_or_ge (p + n) m with h | h
    · omega
    · have e : p + n = m := by omega
      have hv := hK.2.1 (p + n) (by omega)
      have hz : ∀ j, j < 3 → ¬ kWHISTLE_HEAD j = 0 ∧ ¬ kWHISTLE_HEAD j = 1 := by decide
      have hz := hz n (by omega)
      have h9 : ¬ κ (p + n) < 900 := by rw [e]; exact hK.2.2.2
      have key : ∀ k ∈ vk, ¬ k < 900 → ck k = 0 ∨ ck k = 1 := by decide +kernel
      rcases key _ hv h9 with z | z
      · exact absurd (h2.symm.trans z) hz.1
      · exact absurd (h2.symm.trans z) hz.2
theorem l_all_REST_HEAD (hK : KIN κ m) {K : Int32 → M2 → L2 → Prop} {F : M2} {L : L2} {p n : Nat} (hn : n ≤ 3) (hM : ∀ j, j < n → ck (κ (p + j)) = kREST_HEAD j) (hF : n < 3 → ¬ ck (κ (p + n)) = kREST_HEAD n) (hpn : p + n ≤ m) (h : K (if n = 3 then 1 else 0) (cT (p + n) F) L) : ∀ (d j f : Nat), j + d = n → d + 1 < f → SC κ m val (cT (p + j) F) L (p + j) → wl_X2_takeAll_REST_HEAD_2 K f (cT (p + j) F) L (nI j) := by
  intro d
  have hm := hK.1
  induction d with
  | zero =>
    intro j f hj hf hc
    obtain ⟨f, rfl, _⟩ := fuel (show 0 < f by omega)
    have e : j = n := by omega
    subst e
    have e6 : Int32.ofNat 3 = nI 3 := rfl
    rw [wl_X2_takeAll_REST_HEAD_2, e6]
    refine And.intro (fun c => ?_) (fun c => ?_)
    · rw [le_nI (by omega) (by omega)] at c
      rw [if_pos (show j = 3 by omega)] at h
      exact h
    · rw [le_nI (by omega) (by omega)] at c
      rw [if_neg (show ¬ j = 3 by omega)] at h
      refine ⟨inb_nI (by omega) (by decide), ?_⟩
      rw [tn_nI (by omega)]
      exact c_take hc hK (fun z => absurd z (hF (by omega))) (fun _ => And.intro (fun z => absurd rfl z) (fun _ => h))
  | succ d ih =>
    intro j f hj hf hc
    obtain ⟨f, rfl, _⟩ := fuel (show 0 < f by omega)
    have e6 : Int32.ofNat 3 = nI 3 := rfl
    rw [wl_X2_takeAll_REST_HEAD_2, e6]
    refine And.intro (fun c => absurd c (nI_ge (by omega) (by omega))) (fun _ => ⟨inb_nI (by omega) (by decide), ?_⟩)
    rw [tn_nI (by omega)]
    refine c_take hc hK (fun _ => And.intro (fun _ v ev => ?_) (fun z => absurd z (by decide))) (fun z => absurd (hM j (by omega)) z)
    subst ev
    rw [nI_1, cT_cT]
    have hc1 := hc.adv (q := p + (j + 1)) (by omega)
    rw [cT_cT] at hc1
    exact ih (j + 1) f (by omega) (by omega) hc1
theorem c_all_REST_HEAD (hK : KIN κ m) {K : Int32 → M2 → L2 → Prop} {F : M2} {L : L2} {p n : Nat} (hc : SC κ m val F L p) (hn : n ≤ 3) (hM : ∀ j, j < n → ck (κ (p + j)) = kREST_HEAD j) (hF : n < 3 → ¬ ck (κ (p + n)) = kREST_HEAD n) (hpn : p + n ≤ m) (h : K (if n = 3 then 1 else 0) (cT (p + n) F) L) : wp_X2_takeAll_REST_HEAD F L K := by
  have hc0 := hc.adv (q := p + 0) (by omega)
  have := l_all_REST_HEAD hK hn hM hF hpn h n 0 fK (by omega) (by rw [fK_eq]; omega) hc0
  rw [Nat.add_zero, hc.self] at this
  exact this
theorem m_all_REST_HEAD (hK : KIN κ m) {p n : Nat} (hp : p ≤ m) (hn : n ≤ 3) (hM : ∀ j, j < n → ck (κ (p + j)) = kREST_HEAD j) : p + n ≤ m := by
  induction n with
  | zero => exact hp
  | succ n ih =>
    have h1 := ih (by omega) (fun j hj => hM j (by omega))
    have h2 := hM n (by omega)
    rcases Nat.lt_or_ge (p + n) m with h | h
    · omega
    · have e : p + n = m := by omega
      have hv := hK.2.1 (p + n) (by omega)
      have hz : ∀ j, j < 3 → ¬ kREST_HEAD j = 0 ∧ ¬ kREST_HEAD j = 1 := by decide
      have hz := hz n (by omega)
      have h9 : ¬ κ (p + n) < 900 := by rw [e]; exact hK.2.2.2
      have key : ∀ k ∈ vk, ¬ k < 900 → ck k = 0 ∨ ck k = 1 := by decide +kernel
      rcases key _ hv h9 with z | z
      · exact absurd (h2.symm.trans z) hz.1
      · exact absurd (h2.symm.trans z) hz.2
end LINES
