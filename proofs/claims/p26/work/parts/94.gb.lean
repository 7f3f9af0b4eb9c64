/-! ===== the eight tests that the list tells ===== -/
section EIGHT
variable {κ : Nat → Int32} {m : Nat} {val : Nat → Int64} {r dp p q q1 q2 q3 : Nat} {its i1 i2 i3 : List IT}
/-- the kinds of the tokens from p on -/
def TKD (κ : Nat → Int32) (p : Nat) (ks : List Int32) : Prop := ∀ j, j < ks.length → ck (κ (p + j)) = ks.getD j 0
def NS (κ : Nat → Int32) (q : Nat) : Prop := (¬ ck (κ q) = 17 ∧ ¬ ck (κ q) = 18) ∧ ¬ ck (κ q) = 15 ∧ ¬ ck (κ q) = 16
theorem NS.mk' {c : Int32} (h : ck (κ q) = c) (hc : (¬ c = 17 ∧ ¬ c = 18) ∧ ¬ c = 15 ∧ ¬ c = 16) : NS κ q := by unfold NS; rw [h]; exact hc
theorem s_of (hK : KIN κ m) (hv : PZ κ m val r 6 dp p q its) (h : NS κ q) : PZ κ m val (r + 2) 4 dp p q its := sum_one hK (product_one hK hv h.1.1 h.1.2) h.2.1 h.2.2
theorem NG.mk' {c : Int32} (h : ck (κ q) = c) (hc : ¬ c = 10 ∧ ¬ c = 11 ∧ ¬ c = 13 ∧ ¬ c = 30) : ¬ ck (κ q) = 10 ∧ ¬ ck (κ q) = 11 ∧ ¬ ck (κ q) = 13 ∧ ¬ ck (κ q) = 30 := by rw [h]; exact hc
theorem N1.mk' {c x : Int32} (h : ck (κ q) = c) (hc : ¬ c = x) : ¬ ck (κ q) = x := by rw [h]; exact hc
set_option maxHeartbeats 200000 in
theorem q_0 (hK : KIN κ m) (hp : p + 7 < m) (h : TKD κ p [5, 18, 4, 17, 4, 21, 5, 32]) : PZ κ m val 30 0 0 p (p + 7) [(5, 0), (4, p + 2), (18, 0), (4, p + 4), (17, 0), (5, 0), (21, 0)] := by
  have k0 : ck (κ (p + 0)) = 5 := h 0 (by decide)
  have k1 : ck (κ (p + 1)) = 18 := h 1 (by decide)
  have k2 : ck (κ (p + 2)) = 4 := h 2 (by decide)
  have k3 : ck (κ (p + 3)) = 17 := h 3 (by decide)
  have k4 : ck (κ (p + 4)) = 4 := h 4 (by decide)
  have k5 : ck (κ (p + 5)) = 21 := h 5 (by decide)
  have k6 : ck (κ (p + 6)) = 5 := h 6 (by decide)
  have k7 : ck (κ (p + 7)) = 32 := h 7 (by decide)
  have w := (test_one (dp := 0) hK (both_one hK (g_cmp hK (NG.mk' k0 (by decide)) (cmp_two hK (c := 21) (by decide) (sum_one hK (product_three hK (PZ.up (r' := 4) (v_minute (p := p + 0) (val := val) hK (by omega) k0) (by decide)) (by omega) k1 (PZ.up (r' := 4) (v_num (p := p + 2) (val := val) hK (by omega) k2) (by decide)) (by omega) k3 (PZ.up (r' := 4) (v_num (p := p + 4) (val := val) hK (by omega) k4) (by decide)) (N1.mk' k5 (by decide)) (N1.mk' k5 (by decide))) (N1.mk' k5 (by decide)) (N1.mk' k5 (by decide))) (by omega) k5 (s_of hK (PZ.up (r' := 4) (v_minute (p := p + 6) (val := val) hK (by omega) k6) (by decide)) (NS.mk' k7 (by decide))))) (N1.mk' k7 (by decide))) (N1.mk' k7 (by decide)))
  exact PZ.up w (by decide)
set_option maxHeartbeats 200000 in
theorem q_1 (hK : KIN κ m) (hp : p + 5 < m) (h : TKD κ p [7, 3, 20, 7, 3, 32]) : PZ κ m val 30 0 0 p (p + 5) [(7, p + 1), (7, p + 4), (20, 0)] := by
  have k0 : ck (κ (p + 0)) = 7 := h 0 (by decide)
  have k1 : ck (κ (p + 1)) = 3 := h 1 (by decide)
  have k2 : ck (κ (p + 2)) = 20 := h 2 (by decide)
  have k3 : ck (κ (p + 3)) = 7 := h 3 (by decide)
  have k4 : ck (κ (p + 4)) = 3 := h 4 (by decide)
  have k5 : ck (κ (p + 5)) = 32 := h 5 (by decide)
  have w := (test_one (dp := 0) hK (both_one hK (g_cmp hK (NG.mk' k0 (by decide)) (cmp_two hK (c := 20) (by decide) (s_of hK (PZ.up (r' := 4) (v_waits (p := p + 0) (val := val) hK (by omega) k0 k1) (by decide)) (NS.mk' k2 (by decide))) (by omega) k2 (s_of hK (PZ.up (r' := 4) (v_waits (p := p + 3) (val := val) hK (by omega) k3 k4) (by decide)) (NS.mk' k5 (by decide))))) (N1.mk' k5 (by decide))) (N1.mk' k5 (by decide)))
  exact PZ.up w (by decide)
set_option maxHeartbeats 200000 in
theorem q_2 (hK : KIN κ m) (hp : p + 8 < m) (h : TKD κ p [7, 3, 21, 4, 24, 13, 10, 2, 32]) : PZ κ m val 30 0 0 p (p + 8) [(7, p + 1), (4, p + 3), (21, 0), (10, p + 7), (13, 0), (24, 0)] := by
  have k0 : ck (κ (p + 0)) = 7 := h 0 (by decide)
  have k1 : ck (κ (p + 1)) = 3 := h 1 (by decide)
  have k2 : ck (κ (p + 2)) = 21 := h 2 (by decide)
  have k3 : ck (κ (p + 3)) = 4 := h 3 (by decide)
  have k4 : ck (κ (p + 4)) = 24 := h 4 (by decide)
  have k5 : ck (κ (p + 5)) = 13 := h 5 (by decide)
  have k6 : ck (κ (p + 6)) = 10 := h 6 (by decide)
  have k7 : ck (κ (p + 7)) = 2 := h 7 (by decide)
  have k8 : ck (κ (p + 8)) = 32 := h 8 (by decide)
  have w := (test_one (dp := 0) hK (both_two hK (g_cmp hK (NG.mk' k0 (by decide)) (cmp_two hK (c := 21) (by decide) (s_of hK (PZ.up (r' := 4) (v_waits (p := p + 0) (val := val) hK (by omega) k0 k1) (by decide)) (NS.mk' k2 (by decide))) (by omega) k2 (s_of hK (PZ.up (r' := 4) (v_num (p := p + 3) (val := val) hK (by omega) k3) (by decide)) (NS.mk' k4 (by decide))))) (by omega) k4 (g_not hK (by decide) (by omega) k5 (PZ.up (r' := 7) (g_inside (p := p + 6) (val := val) hK (by omega) k6 k7) (by decide))) (N1.mk' k8 (by decide))) (N1.mk' k8 (by decide)))
  exact PZ.up w (by decide)
set_option maxHeartbeats 200000 in
theorem q_3 (hK : KIN κ m) (hp : p + 6 < m) (h : TKD κ p [12, 28, 4, 29, 19, 4, 32]) : PZ κ m val 30 0 0 p (p + 6) [(4, p + 2), (12, 0), (4, p + 5), (19, 0)] := by
  have k0 : ck (κ (p + 0)) = 12 := h 0 (by decide)
  have k1 : ck (κ (p + 1)) = 28 := h 1 (by decide)
  have k2 : ck (κ (p + 2)) = 4 := h 2 (by decide)
  have k3 : ck (κ (p + 3)) = 29 := h 3 (by decide)
  have k4 : ck (κ (p + 4)) = 19 := h 4 (by decide)
  have k5 : ck (κ (p + 5)) = 4 := h 5 (by decide)
  have k6 : ck (κ (p + 6)) = 32 := h 6 (by decide)
  have w := (test_one (dp := 0) hK (both_one hK (g_cmp hK (NG.mk' k0 (by decide)) (cmp_two hK (c := 19) (by decide) (s_of hK (v_air hK (by omega) k0 (b_in hK (by decide) (by omega) k1 (s_of hK (PZ.up (r' := 4) (v_num (p := p + 2) (val := val) hK (by omega) k2) (by decide)) (NS.mk' k3 (by decide))) (by omega) k3)) (NS.mk' k4 (by decide))) (by omega) k4 (s_of hK (PZ.up (r' := 8) (v_num (p := p + 5) (val := val) hK (by omega) k5) (by decide)) (NS.mk' k6 (by decide))))) (N1.mk' k6 (by decide))) (N1.mk' k6 (by decide)))
  exact PZ.up w (by decide)
set_option maxHeartbeats 200000 in
theorem q_4 (hK : KIN κ m) (hp : p + 4 < m) (h : TKD κ p [8, 2, 19, 4, 32]) : PZ κ m val 30 0 0 p (p + 4) [(8, p + 1), (4, p + 3), (19, 0)] := by
  have k0 : ck (κ (p + 0)) = 8 := h 0 (by decide)
  have k1 : ck (κ (p + 1)) = 2 := h 1 (by decide)
  have k2 : ck (κ (p + 2)) = 19 := h 2 (by decide)
  have k3 : ck (κ (p + 3)) = 4 := h 3 (by decide)
  have k4 : ck (κ (p + 4)) = 32 := h 4 (by decide)
  have w := (test_one (dp := 0) hK (both_one hK (g_cmp hK (NG.mk' k0 (by decide)) (cmp_two hK (c := 19) (by decide) (s_of hK (PZ.up (r' := 4) (v_breath (p := p + 0) (val := val) hK (by omega) k0 k1) (by decide)) (NS.mk' k2 (by decide))) (by omega) k2 (s_of hK (PZ.up (r' := 4) (v_num (p := p + 3) (val := val) hK (by omega) k3) (by decide)) (NS.mk' k4 (by decide))))) (N1.mk' k4 (by decide))) (N1.mk' k4 (by decide)))
  exact PZ.up w (by decide)
set_option maxHeartbeats 200000 in
theorem q_5 (hK : KIN κ m) (hp : p + 8 < m) (h : TKD κ p [13, 11, 2, 25, 9, 2, 23, 4, 32]) : PZ κ m val 30 0 0 p (p + 8) [(11, p + 2), (13, 0), (9, p + 5), (4, p + 7), (23, 0), (25, 0)] := by
  have k0 : ck (κ (p + 0)) = 13 := h 0 (by decide)
  have k1 : ck (κ (p + 1)) = 11 := h 1 (by decide)
  have k2 : ck (κ (p + 2)) = 2 := h 2 (by decide)
  have k3 : ck (κ (p + 3)) = 25 := h 3 (by decide)
  have k4 : ck (κ (p + 4)) = 9 := h 4 (by decide)
  have k5 : ck (κ (p + 5)) = 2 := h 5 (by decide)
  have k6 : ck (κ (p + 6)) = 23 := h 6 (by decide)
  have k7 : ck (κ (p + 7)) = 4 := h 7 (by decide)
  have k8 : ck (κ (p + 8)) = 32 := h 8 (by decide)
  have w := (test_two (dp := 0) hK (both_one hK (g_not hK (by decide) (by omega) k0 (PZ.up (r' := 7) (g_capped (p := p + 1) (val := val) hK (by omega) k1 k2) (by decide))) (N1.mk' k3 (by decide))) (by omega) k3 (both_one hK (g_cmp hK (NG.mk' k4 (by decide)) (cmp_two hK (c := 23) (by decide) (s_of hK (PZ.up (r' := 4) (v_place (p := p + 4) (val := val) hK (by omega) k4 k5) (by decide)) (NS.mk' k6 (by decide))) (by omega) k6 (s_of hK (PZ.up (r' := 4) (v_num (p := p + 7) (val := val) hK (by omega) k7) (by decide)) (NS.mk' k8 (by decide))))) (N1.mk' k8 (by decide))) (N1.mk' k8 (by decide)))
  exact PZ.up w (by decide)
set_option maxHeartbeats 200000 in
theorem q_6 (hK : KIN κ m) (hp : p + 17 < m) (h : TKD κ p [6, 21, 4, 24, 30, 5, 20, 4, 25, 12, 28, 9, 2, 29, 20, 4, 31, 32]) : PZ κ m val 30 0 0 p (p + 17) [(6, 0), (4, p + 2), (21, 0), (5, 0), (4, p + 7), (20, 0), (9, p + 12), (12, 0), (4, p + 15), (20, 0), (25, 0), (24, 0)] := by
  have k0 : ck (κ (p + 0)) = 6 := h 0 (by decide)
  have k1 : ck (κ (p + 1)) = 21 := h 1 (by decide)
  have k2 : ck (κ (p + 2)) = 4 := h 2 (by decide)
  have k3 : ck (κ (p + 3)) = 24 := h 3 (by decide)
  have k4 : ck (κ (p + 4)) = 30 := h 4 (by decide)
  have k5 : ck (κ (p + 5)) = 5 := h 5 (by decide)
  have k6 : ck (κ (p + 6)) = 20 := h 6 (by decide)
  have k7 : ck (κ (p + 7)) = 4 := h 7 (by decide)
  have k8 : ck (κ (p + 8)) = 25 := h 8 (by decide)
  have k9 : ck (κ (p + 9)) = 12 := h 9 (by decide)
  have k10 : ck (κ (p + 10)) = 28 := h 10 (by decide)
  have k11 : ck (κ (p + 11)) = 9 := h 11 (by decide)
  have k12 : ck (κ (p + 12)) = 2 := h 12 (by decide)
  have k13 : ck (κ (p + 13)) = 29 := h 13 (by decide)
  have k14 : ck (κ (p + 14)) = 20 := h 14 (by decide)
  have k15 : ck (κ (p + 15)) = 4 := h 15 (by decide)
  have k16 : ck (κ (p + 16)) = 31 := h 16 (by decide)
  have k17 : ck (κ (p + 17)) = 32 := h 17 (by decide)
  have w := (test_one (dp := 0) hK (both_two hK (g_cmp hK (NG.mk' k0 (by decide)) (cmp_two hK (c := 21) (by decide) (s_of hK (PZ.up (r' := 11) (v_turn (p := p + 0) (val := val) hK (by omega) k0) (by decide)) (NS.mk' k1 (by decide))) (by omega) k1 (s_of hK (PZ.up (r' := 11) (v_num (p := p + 2) (val := val) hK (by omega) k2) (by decide)) (NS.mk' k3 (by decide))))) (by omega) k3 (g_brack hK (by decide) (by omega) k4 (test_two hK (both_one hK (g_cmp hK (NG.mk' k5 (by decide)) (cmp_two hK (c := 20) (by decide) (s_of hK (PZ.up (r' := 8) (v_minute (p := p + 5) (val := val) hK (by omega) k5) (by decide)) (NS.mk' k6 (by decide))) (by omega) k6 (s_of hK (PZ.up (r' := 8) (v_num (p := p + 7) (val := val) hK (by omega) k7) (by decide)) (NS.mk' k8 (by decide))))) (N1.mk' k8 (by decide))) (by omega) k8 (both_one hK (g_cmp hK (NG.mk' k9 (by decide)) (cmp_two hK (c := 20) (by decide) (s_of hK (v_air hK (by omega) k9 (b_in hK (by decide) (by omega) k10 (s_of hK (PZ.up (r' := 4) (v_place (p := p + 11) (val := val) hK (by omega) k11 k12) (by decide)) (NS.mk' k13 (by decide))) (by omega) k13)) (NS.mk' k14 (by decide))) (by omega) k14 (s_of hK (PZ.up (r' := 8) (v_num (p := p + 15) (val := val) hK (by omega) k15) (by decide)) (NS.mk' k16 (by decide))))) (N1.mk' k16 (by decide))) (N1.mk' k16 (by decide))) (by omega) k16) (N1.mk' k17 (by decide))) (N1.mk' k17 (by decide)))
  exact PZ.up w (by decide)
set_option maxHeartbeats 200000 in
theorem q_7 (hK : KIN κ m) (hp : p + 12 < m) (h : TKD κ p [26, 28, 7, 3, 33, 4, 29, 16, 7, 3, 19, 4, 32]) : PZ κ m val 30 0 0 p (p + 12) [(7, p + 3), (4, p + 5), (26, 0), (7, p + 9), (16, 0), (4, p + 11), (19, 0)] := by
  have k0 : ck (κ (p + 0)) = 26 := h 0 (by decide)
  have k1 : ck (κ (p + 1)) = 28 := h 1 (by decide)
  have k2 : ck (κ (p + 2)) = 7 := h 2 (by decide)
  have k3 : ck (κ (p + 3)) = 3 := h 3 (by decide)
  have k4 : ck (κ (p + 4)) = 33 := h 4 (by decide)
  have k5 : ck (κ (p + 5)) = 4 := h 5 (by decide)
  have k6 : ck (κ (p + 6)) = 29 := h 6 (by decide)
  have k7 : ck (κ (p + 7)) = 16 := h 7 (by decide)
  have k8 : ck (κ (p + 8)) = 7 := h 8 (by decide)
  have k9 : ck (κ (p + 9)) = 3 := h 9 (by decide)
  have k10 : ck (κ (p + 10)) = 19 := h 10 (by decide)
  have k11 : ck (κ (p + 11)) = 4 := h 11 (by decide)
  have k12 : ck (κ (p + 12)) = 32 := h 12 (by decide)
  have w := (test_one (dp := 0) hK (both_one hK (g_cmp hK (NG.mk' k0 (by decide)) (cmp_two hK (c := 19) (by decide) (sum_two hK (product_one hK (v_min hK (by omega) k0 (b_two hK (by decide) (by omega) k1 (s_of hK (PZ.up (r' := 4) (v_waits (p := p + 2) (val := val) hK (by omega) k2 k3) (by decide)) (NS.mk' k4 (by decide))) (by omega) k4 (s_of hK (PZ.up (r' := 4) (v_num (p := p + 5) (val := val) hK (by omega) k5) (by decide)) (NS.mk' k6 (by decide))) (by omega) k6)) (N1.mk' k7 (by decide)) (N1.mk' k7 (by decide))) (by omega) k7 (product_one hK (PZ.up (r' := 8) (v_waits (p := p + 8) (val := val) hK (by omega) k8 k9) (by decide)) (N1.mk' k10 (by decide)) (N1.mk' k10 (by decide))) (N1.mk' k10 (by decide)) (N1.mk' k10 (by decide))) (by omega) k10 (s_of hK (PZ.up (r' := 8) (v_num (p := p + 11) (val := val) hK (by omega) k11) (by decide)) (NS.mk' k12 (by decide))))) (N1.mk' k12 (by decide))) (N1.mk' k12 (by decide)))
  exact PZ.up w (by decide)
/-! what is emitted -/
def EMS (F : M2) (ops : List (Int32 × Int32)) : M2 := ops.foldl (fun F x => em F x.1 x.2) F
theorem cE_EMS {L : L2} : ∀ (its : List IT) (F G : M2), F 23 = G 23 → F 24 = G 24 → (∀ q ∈ its, isNm q.1 → ¬ opV val G L q = -1) → cE val L its F = EMS F (its.map (fun q => (q.1, opV val G L q)))
  | [], _, _, _, _, _ => rfl
  | q :: its, F, G, h1, h2, h => by
    have eo : opV val F L q = opV val G L q := by unfold opV; rw [h1, h2]
    have e1 : cE1 val L F q = em F q.1 (opV val G L q) := by
      unfold cE1
      rw [eo, if_neg (fun z => h q List.mem_cons_self z.1 z.2)]
    show cE val L its (cE1 val L F q) = EMS (em F q.1 (opV val G L q)) (its.map (fun q => (q.1, opV val G L q)))
    rw [e1]
    exact cE_EMS its _ G ((em_n _ _ _ (by decide) (by decide) (by decide)).trans h1) ((em_n _ _ _ (by decide) (by decide) (by decide)).trans h2) (fun x hx => h x (List.mem_cons_of_mem _ hx))
theorem EMS_n {k : Nat} (h1 : k ≠ 45) (h2 : k ≠ 46) (h3 : k ≠ 47) : ∀ (ops : List (Int32 × Int32)) (F : M2), EMS F ops k = F k
  | [], _ => rfl
  | x :: ops, F => (EMS_n h1 h2 h3 ops (em F x.1 x.2)).trans (em_n _ _ _ h1 h2 h3)
theorem EMS_r : ∀ (ops : List (Int32 × Int32)) (F : M2) (e : Nat), F 45 0 = nI e → e + ops.length ≤ 400 → EMS F ops 45 0 = nI (e + ops.length) ∧ (∀ i, i < e → EMS F ops 46 i = F 46 i ∧ EMS F ops 47 i = F 47 i) ∧ ∀ j (hj : j < ops.length), EMS F ops 46 (e + j) = (ops[j]).1 ∧ EMS F ops 47 (e + j) = (ops[j]).2
  | [], F, e, h, _ => ⟨h, fun i _ => ⟨rfl, rfl⟩, fun j hj => absurd hj (Nat.not_lt_zero _)⟩
  | x :: ops, F, e, h, hl => by
    have hl' : e + (ops.length + 1) ≤ 400 := hl
    have a : em F x.1 x.2 45 0 = nI (e + 1) := by unfold em; rw [up2_s, h, nI_1]
    have b6 : em F x.1 x.2 46 = upd (F 46) e x.1 := by unfold em; rw [up2_n _ _ (by decide), up2_n _ _ (by decide), up2_s, h, putv_nI (by omega) (by decide)]
    have b7 : em F x.1 x.2 47 = upd (F 47) e x.2 := by unfold em; rw [up2_n _ _ (by decide), up2_s, h, putv_nI (by omega) (by decide)]
    obtain ⟨c1, c2, c3⟩ := EMS_r ops (em F x.1 x.2) (e + 1) a (by omega)
    refine ⟨?_, fun i hi => ?_, fun j hj => ?_⟩
    · show EMS (em F x.1 x.2) ops 45 0 = nI (e + (ops.length + 1))
      rw [c1, show e + 1 + ops.length = e + (ops.length + 1) by omega]
    · show EMS (em F x.1 x.2) ops 46 i = _ ∧ EMS (em F x.1 x.2) ops 47 i = _
      rw [(c2 i (by omega)).1, (c2 i (by omega)).2, b6, b7, upd_n _ _ (by omega), upd_n _ _ (by omega)]
      exact ⟨rfl, rfl⟩
    · show EMS (em F x.1 x.2) ops 46 (e + j) = _ ∧ EMS (em F x.1 x.2) ops 47 (e + j) = _
      cases j with
      | zero =>
        rw [Nat.add_zero, (c2 e (by omega)).1, (c2 e (by omega)).2, b6, b7, upd_s, upd_s]
        exact ⟨rfl, rfl⟩
      | succ j =>
        have := c3 j (by simpa using hj)
        rw [show e + (j + 1) = e + 1 + j by omega]
        exact this
end EIGHT
