/-! ===== the whole text as tokens ===== -/
section LTW
variable {T T0 : List Nat} {ts0 : List (Int32 × Option Int64)} {nl nb n : Nat} {V S W B O : M2}
theorem hd_app {A : List Nat} {x : Nat} : ∃ c b', A ++ [x] = c :: b' ∧ True := by
  cases A with
  | nil => exact ⟨x, [], rfl, trivial⟩
  | cons c A => exact ⟨c, A ++ [x], rfl, trivial⟩
theorem tx_tail {e n m l b : Nat} (he : e < 8) (hn : n < 100) (hm : m < 100) (hl : l < 6) (hb : b < 6) : LXc ([32] ++ ([119, 104, 101, 110] ++ ([32] ++ (testT e n m l b ++ [59])))) ([] ++ ([(50, none)] ++ ([] ++ (tkT e n m l b ++ [(32, none)])))) (fun _ => True) := by
  have w := LXc.app (lx_blank (c := 32) (Or.inl rfl)) (LXc.app lw_when (LXc.app (lx_blank (c := 32) (Or.inl rfl)) (LXc.app (tt_all he hn hm hl hb) (lx_sym (c := 59) (k := 32) (by decide) (by decide) (by decide) (by decide) (by decide +kernel) (by decide +kernel)) ⟨59, [], rfl, by decide⟩) hd_app) ⟨_, _, rfl, by decide⟩) ⟨_, _, rfl, trivial⟩
  exact w
theorem tx_order {r : Nat → Int32} (hnl : 1 ≤ nl ∧ nl ≤ 5) (hnb : 1 ≤ nb ∧ nb ≤ 5) (hr : oK nl r) : ∃ A, oA nl nb T r = T ++ A ∧ LXc A (kO nl nb r) (fun _ => True) ∧ ∃ c b', A = c :: b' ∧ True := by
  obtain ⟨s, i, e, n, k, x, hs1, hi, he, hn, hk, hx, e0, e1, e2, e3, e4, e5⟩ := hr
  have hxl := Nat.mod_lt x hnl.1
  have hxb := Nat.mod_lt x hnb.1
  have ht := tx_tail he (show n < 100 by omega) hk (show x % nl < 6 by omega) (show x % nb < 6 by omega)
  have htk : tkO nl nb r = tkT e n k (x % nl) (x % nb) := by
    unfold tkO
    rw [e2, e3, e4, e5, tn_nI (by omega), tn_nI (by omega), tn_nI (by omega), tn_nI (by omega)]
  unfold oA kO
  rw [htk, e2, e3, e4, e5, tn_nI (by omega), tn_nI (by omega), tn_nI (by omega), tn_nI (by omega)]
  have hs2 : s = 0 ∨ s = 1 := by omega
  rcases hs2 with rfl | rfl
  · have r0 : r 0 = 0 := e0
    have hi2 : i < 2 := by rw [if_pos rfl] at hi; exact hi
    have hh : hdO r = [(48, none), (3, vN (r 1))] := if_pos r0
    rw [if_pos r0, hh]
    have hi3 : i = 0 ∨ i = 1 := by omega
    rcases hi3 with rfl | rfl
    · have r1 : r 1 = 0 := e1
      refine ⟨[119, 104, 105, 115, 116, 108, 101] ++ ([32] ++ ([119, 101, 115, 116] ++ ([32] ++ ([119, 104, 101, 110] ++ ([32] ++ (testT e n k (x % nl) (x % nb) ++ [59])))))), ?_, ?_, _, _, rfl, trivial⟩
      · rw [if_pos r1, sl_39, sl_42, sl_23]
        simp only [List.append_assoc]
      · have w := LXc.app lw_whistle (LXc.app (lx_blank (c := 32) (Or.inl rfl)) (LXc.app lw_west ht ⟨_, _, rfl, by decide⟩) ⟨_, _, rfl, trivial⟩) ⟨_, _, rfl, by decide⟩
        rw [r1]
        exact w
    · have r1 : ¬ r 1 = 0 := by rw [e1]; decide
      refine ⟨[119, 104, 105, 115, 116, 108, 101] ++ ([32] ++ ([101, 97, 115, 116] ++ ([32] ++ ([119, 104, 101, 110] ++ ([32] ++ (testT e n k (x % nl) (x % nb) ++ [59])))))), ?_, ?_, _, _, rfl, trivial⟩
      · rw [if_neg r1, sl_40, sl_42, sl_23]
        simp only [List.append_assoc]
      · have w := LXc.app lw_whistle (LXc.app (lx_blank (c := 32) (Or.inl rfl)) (LXc.app lw_east ht ⟨_, _, rfl, by decide⟩) ⟨_, _, rfl, trivial⟩) ⟨_, _, rfl, by decide⟩
        rw [e1]
        exact w
  · have r0 : ¬ r 0 = 0 := by rw [e0]; decide
    have hi2 : i < nl := by rw [if_neg (by decide)] at hi; exact hi
    have hh : hdO r = [(49, none), (2, some (nmc 109 (r 1).toInt.toNat))] := if_neg r0
    rw [if_neg r0, hh, e1, tn_nI (by omega)]
    refine ⟨[114, 101, 115, 116] ++ ([32] ++ (([109] ++ decs i) ++ ([32] ++ ([119, 104, 101, 110] ++ ([32] ++ (testT e n k (x % nl) (x % nb) ++ [59])))))), ?_, ?_, _, _, rfl, trivial⟩
    · rw [sl_41, sl_42, sl_23]
      simp only [List.append_assoc, List.nil_append]
    · have w := LXc.app lw_rest (LXc.app (lx_blank (c := 32) (Or.inl rfl)) (LXc.app (lx_name (c := 109) (j := i) (by decide) (by omega)) ht ⟨_, _, rfl, by decide⟩) ⟨_, _, rfl, trivial⟩) ⟨_, _, rfl, by decide⟩
      exact w
theorem lt100 {x : Int32} {n : Nat} (e : x = nI n) (h : n < 100) : x.toInt.toNat < 100 := by rw [e, tn_nI (by omega)]; exact h
theorem lx_B : ∀ n, n ≤ 3 → (∀ k, k < n → bK V k (V k)) → LXc (tB V n) (ktB V n) (fun _ => True)
  | 0, _, _ => LXc.nil
  | n + 1, hn, h => by
    obtain ⟨x, w, x1, x2, w9, e0, e1, _⟩ := h n (by omega)
    show LXc (bA (tB V n) n (V n)) (ktB V n ++ kB n (V n)) _
    rw [te_bore]
    exact LXc.app (lx_B n (by omega) (fun k hk => h k (by omega))) (tx_bore (by omega) (lt100 e0 (by omega)) (lt100 e1 (by omega))) ⟨_, _, rfl, trivial⟩
theorem lx_S {np : Nat} (hnp : np ≤ 60) (h0 : LXc T0 ts0 (fun _ => True)) : ∀ n, n ≤ 2 → (∀ k, k < n → sK np (S k)) → LXc (tS T0 S n) (ktS ts0 S n) (fun _ => True)
  | 0, _, _ => h0
  | n + 1, hn, h => by
    obtain ⟨x, w, x1, w1, w2, e0, e1⟩ := h n (by omega)
    show LXc (sA (tS T0 S n) n (S n)) (ktS ts0 S n ++ kS n (S n)) _
    rw [te_shaft]
    exact LXc.app (lx_S hnp h0 n (by omega) (fun k hk => h k (by omega))) (tx_shaft (by omega) (lt100 e0 (by omega)) (lt100 e1 (by omega))) ⟨_, _, rfl, trivial⟩
theorem lx_L (h0 : LXc T0 ts0 (fun _ => True)) : ∀ n, n ≤ 5 → (∀ k, k < n → lK (W k)) → LXc (tL T0 W n) (ktL ts0 W n) (fun _ => True)
  | 0, _, _ => h0
  | n + 1, hn, h => by
    obtain ⟨x, w, x1, x2, w1, w2, e0, e1, _⟩ := h n (by omega)
    show LXc (lA (tL T0 W n) n (W n)) (ktL ts0 W n ++ kL n (W n)) _
    rw [te_legger]
    exact LXc.app (lx_L h0 n (by omega) (fun k hk => h k (by omega))) (tx_legger (by omega) (lt100 e0 (by omega)) (lt100 e1 (by omega))) ⟨_, _, rfl, trivial⟩
theorem lx_A (hnl : nl ≤ 5) (h0 : LXc T0 ts0 (fun _ => True)) : ∀ n, n ≤ 5 → (∀ k, k < n → aK nl (B k)) → LXc (tA T0 B n) (ktA ts0 B n) (fun _ => True)
  | 0, _, _ => h0
  | n + 1, hn, h => by
    obtain ⟨x, e, y, l1, l2, hx1, hx2, he, hy, hl1, hl2, hne, e0, e1, e2, _, _, _, _, e7, e8⟩ := h n (by omega)
    show LXc (aA (tA T0 B n) n (B n)) (ktA ts0 B n ++ kA n (B n)) _
    have he2 : e = 0 ∨ e = 1 := by omega
    rcases he2 with rfl | rfl
    · rw [te_boat_west e1]
      exact LXc.app (lx_A hnl h0 n (by omega) (fun k hk => h k (by omega))) (tx_boat_west (by omega) (lt100 e0 (by omega)) (lt100 e2 (by omega)) (by rw [e7, tn_nI (by omega)]; omega) (by rw [e8, tn_nI (by omega)]; omega) (by rw [e1]; rfl)) ⟨_, _, rfl, trivial⟩
    · rw [te_boat_east (by rw [e1]; decide)]
      exact LXc.app (lx_A hnl h0 n (by omega) (fun k hk => h k (by omega))) (tx_boat_east (by omega) (lt100 e0 (by omega)) (lt100 e2 (by omega)) (by rw [e7, tn_nI (by omega)]; omega) (by rw [e8, tn_nI (by omega)]; omega) (by rw [e1]; rfl)) ⟨_, _, rfl, trivial⟩
theorem lx_O (hnl : 1 ≤ nl ∧ nl ≤ 5) (hnb : 1 ≤ nb ∧ nb ≤ 5) (h0 : LXc T0 ts0 (fun _ => True)) : ∀ n, n ≤ 5 → (∀ k, k < n → oK nl (O k)) → LXc (tO nl nb T0 O n) (ktO nl nb ts0 O n) (fun _ => True)
  | 0, _, _ => h0
  | n + 1, hn, h => by
    obtain ⟨A, ea, ha, c, b', eb, _⟩ := tx_order (T := tO nl nb T0 O n) hnl hnb (h n (by omega))
    show LXc (oA nl nb (tO nl nb T0 O n) (O n)) (ktO nl nb ts0 O n ++ kO nl nb (O n)) _
    rw [ea]
    exact LXc.app (lx_O hnl hnb h0 n (by omega) (fun k hk => h k (by omega))) ha ⟨c, b', eb, trivial⟩
theorem ktB_l : ∀ n, (ktB V n).length = 7 * n
  | 0 => rfl
  | n + 1 => by
    show (ktB V n ++ kB n (V n)).length = _
    rw [List.length_append, ktB_l n]
    show 7 * n + 7 = _
    omega
theorem ktS_l : ∀ n, (ktS ts0 S n).length = ts0.length + 7 * n
  | 0 => rfl
  | n + 1 => by
    show (ktS ts0 S n ++ kS n (S n)).length = _
    rw [List.length_append, ktS_l n]
    show ts0.length + 7 * n + 7 = _
    omega
theorem ktL_l : ∀ n, (ktL ts0 W n).length = ts0.length + 7 * n
  | 0 => rfl
  | n + 1 => by
    show (ktL ts0 W n ++ kL n (W n)).length = _
    rw [List.length_append, ktL_l n]
    show ts0.length + 7 * n + 7 = _
    omega
theorem ktA_l : ∀ n, (ktA ts0 B n).length = ts0.length + 13 * n
  | 0 => rfl
  | n + 1 => by
    show (ktA ts0 B n ++ kA n (B n)).length = _
    rw [List.length_append, ktA_l n]
    show ts0.length + 13 * n + 13 = _
    omega
theorem kO_l (r : Nat → Int32) : (kO nl nb r).length ≤ 21 := by
  have hhd : (hdO r).length = 2 := by unfold hdO; split <;> rfl
  have ht : (tkO nl nb r).length ≤ 17 := by
    unfold tkO tkT
    split <;> simp
  have : (kO nl nb r).length = 2 + (1 + ((tkO nl nb r).length + 1)) := by
    unfold kO
    rw [List.length_append, List.length_append, List.length_append, hhd]
    rfl
  omega
theorem ktO_l : ∀ n, (ktO nl nb ts0 O n).length ≤ ts0.length + 21 * n
  | 0 => Nat.le_refl _
  | n + 1 => by
    show (ktO nl nb ts0 O n ++ kO nl nb (O n)).length ≤ _
    have a := ktO_l n
    have b := kO_l (nl := nl) (nb := nb) (O n)
    rw [List.length_append]
    omega
theorem lx_list {nn : Nat → Nat} {U : M2} (D : LDAT T nn V U S W B O) : LXc T (kts nn V S W B O) (fun _ => True) ∧ (kts nn V S W B O).length ≤ 240 := by
  obtain ⟨⟨h0, h1, h2, h3, h4, h5⟩, hV, _, hS, hW, hB, hO, hT⟩ := D
  have hbd := fo_bd (nn 0) hV
  refine ⟨?_, ?_⟩
  · rw [hT]
    exact lx_O ⟨by omega, h3.2⟩ h4 (lx_A h3.2 (lx_L (lx_S (np := nn 1) (by omega) (lx_B (nn 0) h0.2 hV) (nn 2) h2 hS) (nn 3) h3.2 hW) (nn 4) h4.2 hB) (nn 5) h5 hO
  · have a := ktO_l (nl := nn 3) (nb := nn 4) (ts0 := ktA (ktL (ktS (ktB V (nn 0)) S (nn 2)) W (nn 3)) B (nn 4)) (O := O) (nn 5)
    rw [ktA_l, ktL_l, ktS_l, ktB_l] at a
    show (ktO _ _ _ _ _).length ≤ 240
    omega
/-- the tokens that the class lays of the text -/
theorem tok_list {nn : Nat → Nat} {U : M2} {τ : Nat → Nat} (D : LDAT T nn V U S W B O) (hB : BYT τ 0 T) : LST τ T.length (kts nn V S W B O).length ∧ TOK (kT τ T.length) (vT τ T.length) 0 (kts nn V S W B O) ∧ ck (kT τ T.length (kts nn V S W B O).length) = 0 := by
  obtain ⟨h, hl⟩ := lx_list D
  have hA0 : AT τ T.length 0 0 := ⟨Nat.zero_le _, rfl⟩
  obtain ⟨k, hA⟩ := h τ T.length 0 0 (by omega) hB (fun z => trivial) hA0 (by omega)
  rw [Nat.zero_add, Nat.zero_add] at hA
  have eps : ps τ T.length (kts nn V S W B O).length = T.length := by
    rw [hA.2, Nat.sub_self]
    rfl
  have ek : kT τ T.length (kts nn V S W B O).length = 900 := by
    unfold kT
    rw [if_neg (by omega), eps]
    unfold tkd
    rw [if_pos (Nat.le_refl _)]
  refine ⟨⟨by omega, fun i hi => ?_, by rw [ek]; decide⟩, fun j hj => ?_, by rw [ek]; rfl⟩
  · have := (k i hi).1
    rwa [Nat.zero_add] at this
  · exact (k j hj).2
end LTW
