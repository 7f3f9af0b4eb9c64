/-! ===== the whole list read ===== -/
section RDA
variable {κ : Nat → Int32} {m : Nat} {val : Nat → Int64} {F : M2} {L : L2} {aa qq : Nat → Nat} {V S W B O : M2} {nl nb jb js jl ja jo n j : Nat} {T0 : List (Int32 × Option Int64)}
theorem kt_pre {kt line : Nat → List (Int32 × Option Int64)} (h : ∀ n, kt (n + 1) = kt n ++ line n) (j : Nat) : ∀ d, ∃ r, kt (j + d) = kt j ++ r
  | 0 => ⟨[], (List.append_nil _).symm⟩
  | d + 1 => by
    obtain ⟨r, e⟩ := kt_pre h j d
    refine ⟨r ++ line (j + d), ?_⟩
    show kt (j + d + 1) = _
    rw [h, e, List.append_assoc]
theorem kt_tok {kt line : Nat → List (Int32 × Option Int64)} (h : ∀ n, kt (n + 1) = kt n ++ line n) (hT : TOK κ val 0 (kt n)) (hj : j < n) : TOK κ val (kt j).length (line j) := by
  obtain ⟨r, e⟩ := kt_pre h (j + 1) (n - (j + 1))
  rw [show j + 1 + (n - (j + 1)) = n by omega, h] at e
  rw [e] at hT
  have a := hT.left.right
  rwa [Nat.zero_add] at a
theorem kt_len {kt line : Nat → List (Int32 × Option Int64)} (h : ∀ n, kt (n + 1) = kt n ++ line n) (hj : j ≤ n) : (kt j).length ≤ (kt n).length := by
  obtain ⟨r, e⟩ := kt_pre h j (n - j)
  rw [show j + (n - j) = n by omega] at e
  rw [e, List.length_append]
  omega
theorem kt_0 {kt line : Nat → List (Int32 × Option Int64)} (h : ∀ n, kt (n + 1) = kt n ++ line n) (hT : TOK κ val 0 (kt n)) : TOK κ val 0 (kt 0) := by
  obtain ⟨r, e⟩ := kt_pre h 0 n
  rw [Nat.zero_add] at e
  rw [e] at hT
  exact hT.left
def ktB (V : M2) : Nat → List (Int32 × Option Int64)
  | 0 => []
  | k + 1 => ktB V k ++ kB k (V k)
def ktS (T : List (Int32 × Option Int64)) (S : M2) : Nat → List (Int32 × Option Int64)
  | 0 => T
  | k + 1 => ktS T S k ++ kS k (S k)
def ktL (T : List (Int32 × Option Int64)) (W : M2) : Nat → List (Int32 × Option Int64)
  | 0 => T
  | k + 1 => ktL T W k ++ kL k (W k)
def ktA (T : List (Int32 × Option Int64)) (B : M2) : Nat → List (Int32 × Option Int64)
  | 0 => T
  | k + 1 => ktA T B k ++ kA k (B k)
def ktO (nl nb : Nat) (T : List (Int32 × Option Int64)) (O : M2) : Nat → List (Int32 × Option Int64)
  | 0 => T
  | k + 1 => ktO nl nb T O k ++ kO nl nb (O k)
theorem opsT_le (e n m l b : Nat) : (opsT e n m l b).length ≤ 12 := by
  unfold opsT
  split <;> simp
theorem oo_bd : ∀ n, oo nl nb O n ≤ 12 * n
  | 0 => Nat.le_refl _
  | n + 1 => by
    have a := oo_bd n
    have b : (opO nl nb (O n)).length ≤ 12 := opsT_le _ _ _ _ _
    show oo nl nb O n + (opO nl nb (O n)).length ≤ _
    omega
theorem rd_bores (hK : KIN κ m) (hn : n ≤ 3) (hV : ∀ k, k < n → bK V k (V k)) (hT : TOK κ val 0 (ktB V n)) (hm : (ktB V n).length ≤ m) (R : RST κ m val nl nb V S W B O F L (ktB V 0).length 0 js jl ja jo) : ∀ j, j ≤ n → ∃ F' L', RST κ m val nl nb V S W B O F' L' (ktB V j).length j js jl ja jo ∧ RDS aa qq F L F' L' j := by
  intro j
  induction j with
  | zero => exact fun _ => ⟨F, L, R, RDS.refl⟩
  | succ j ih =>
    intro hj
    obtain ⟨F1, L1, R1, D1⟩ := ih (by omega)
    have ht := kt_tok (κ := κ) (val := val) (kt := ktB V) (line := fun k => kB k (V k)) (fun _ => rfl) hT (show j < n by omega)
    have hl := kt_len (kt := ktB V) (line := fun k => kB k (V k)) (fun _ => rfl) hj
    have he : (ktB V (j + 1)).length = (ktB V j).length + 7 := List.length_append
    obtain ⟨F2, L3, R2, D2⟩ := rs_bore (aa := aa) (qq := qq) hK R1 (by omega) (hV j (by omega)) (by have := (fo_bd (V := V) (j + 1) (fun k hk => hV k (by omega))).1; omega) ht (by omega)
    rw [← he] at R2
    exact ⟨F2, L3, R2, D1.trans D2⟩
theorem rd_shafts (hK : KIN κ m) {np : Nat} (hn : n ≤ 2) (hnp : np < 60) (hf : fo V jb = np + 1) (hS : ∀ k, k < n → sK (np + 1) (S k)) (hT : TOK κ val 0 (ktS T0 S n)) (hm : (ktS T0 S n).length ≤ m) (R : RST κ m val nl nb V S W B O F L (ktS T0 S 0).length jb 0 jl ja jo) : ∀ j, j ≤ n → ∃ F' L', RST κ m val nl nb V S W B O F' L' (ktS T0 S j).length jb j jl ja jo ∧ RDS aa qq F L F' L' j := by
  intro j
  induction j with
  | zero => exact fun _ => ⟨F, L, R, RDS.refl⟩
  | succ j ih =>
    intro hj
    obtain ⟨F1, L1, R1, D1⟩ := ih (by omega)
    have ht := kt_tok (κ := κ) (val := val) (kt := ktS T0 S) (line := fun k => kS k (S k)) (fun _ => rfl) hT (show j < n by omega)
    have hl := kt_len (kt := ktS T0 S) (line := fun k => kS k (S k)) (fun _ => rfl) hj
    have he : (ktS T0 S (j + 1)).length = (ktS T0 S j).length + 7 := List.length_append
    obtain ⟨F2, L3, R2, D2⟩ := rs_shaft (aa := aa) (qq := qq) hK R1 (by omega) (hS j (by omega)) hnp hf ht (by omega)
    rw [← he] at R2
    exact ⟨F2, L3, R2, D1.trans D2⟩
theorem rd_leggers (hK : KIN κ m) (hn : n ≤ 5) (hW : ∀ k, k < n → lK (W k)) (hT : TOK κ val 0 (ktL T0 W n)) (hm : (ktL T0 W n).length ≤ m) (R : RST κ m val nl nb V S W B O F L (ktL T0 W 0).length jb js 0 ja jo) : ∀ j, j ≤ n → ∃ F' L', RST κ m val nl nb V S W B O F' L' (ktL T0 W j).length jb js j ja jo ∧ RDS aa qq F L F' L' j := by
  intro j
  induction j with
  | zero => exact fun _ => ⟨F, L, R, RDS.refl⟩
  | succ j ih =>
    intro hj
    obtain ⟨F1, L1, R1, D1⟩ := ih (by omega)
    have ht := kt_tok (κ := κ) (val := val) (kt := ktL T0 W) (line := fun k => kL k (W k)) (fun _ => rfl) hT (show j < n by omega)
    have hl := kt_len (kt := ktL T0 W) (line := fun k => kL k (W k)) (fun _ => rfl) hj
    have he : (ktL T0 W (j + 1)).length = (ktL T0 W j).length + 7 := List.length_append
    obtain ⟨F2, L3, R2, D2⟩ := rs_legger (aa := aa) (qq := qq) hK R1 (by omega) (hW j (by omega)) ht (by omega)
    rw [← he] at R2
    exact ⟨F2, L3, R2, D1.trans D2⟩
theorem rd_boats (hK : KIN κ m) (hn : n ≤ 5) (hjl : jl ≤ 5) (hB : ∀ k, k < n → aK jl (B k)) (hT : TOK κ val 0 (ktA T0 B n)) (hm : (ktA T0 B n).length ≤ m) (R : RST κ m val nl nb V S W B O F L (ktA T0 B 0).length jb js jl 0 jo) : ∀ j, j ≤ n → ∃ F' L', RST κ m val nl nb V S W B O F' L' (ktA T0 B j).length jb js jl j jo ∧ RDS aa qq F L F' L' j := by
  intro j
  induction j with
  | zero => exact fun _ => ⟨F, L, R, RDS.refl⟩
  | succ j ih =>
    intro hj
    obtain ⟨F1, L1, R1, D1⟩ := ih (by omega)
    have ht := kt_tok (κ := κ) (val := val) (kt := ktA T0 B) (line := fun k => kA k (B k)) (fun _ => rfl) hT (show j < n by omega)
    have hl := kt_len (kt := ktA T0 B) (line := fun k => kA k (B k)) (fun _ => rfl) hj
    have he : (ktA T0 B (j + 1)).length = (ktA T0 B j).length + 13 := List.length_append
    obtain ⟨F2, L3, R2, D2⟩ := rs_boat (aa := aa) (qq := qq) hK R1 (by omega) hjl (hB j (by omega)) ht (by omega)
    rw [← he] at R2
    exact ⟨F2, L3, R2, D1.trans D2⟩
theorem rd_orders (hK : KIN κ m) (hn : n ≤ 5) (hnl : 1 ≤ nl ∧ nl ≤ 5) (hnb : 1 ≤ nb ∧ nb ≤ 5) (hO : ∀ k, k < n → oK nl (O k)) (hT : TOK κ val 0 (ktO nl nb T0 O n)) (hm : (ktO nl nb T0 O n).length ≤ m) (R : RST κ m val nl nb V S W B O F L (ktO nl nb T0 O 0).length jb js nl nb 0) : ∀ j, j ≤ n → ∃ F' L', RST κ m val nl nb V S W B O F' L' (ktO nl nb T0 O j).length jb js nl nb j ∧ RDS aa qq F L F' L' j := by
  intro j
  induction j with
  | zero => exact fun _ => ⟨F, L, R, RDS.refl⟩
  | succ j ih =>
    intro hj
    obtain ⟨F1, L1, R1, D1⟩ := ih (by omega)
    have ht := kt_tok (κ := κ) (val := val) (kt := ktO nl nb T0 O) (line := fun k => kO nl nb (O k)) (fun _ => rfl) hT (show j < n by omega)
    have hl := kt_len (kt := ktO nl nb T0 O) (line := fun k => kO nl nb (O k)) (fun _ => rfl) hj
    have he : (ktO nl nb T0 O (j + 1)).length = (ktO nl nb T0 O j).length + (kO nl nb (O j)).length := List.length_append
    obtain ⟨F2, L3, R2, D2⟩ := rs_order (aa := aa) (qq := qq) hK R1 hnl hnb (by omega) (hO j (by omega)) (by have := oo_bd (O := O) (nl := nl) (nb := nb) (j + 1); omega) ht (by omega)
    rw [← he] at R2
    exact ⟨F2, L3, R2, D1.trans D2⟩
def kts (nn : Nat → Nat) (V S W B O : M2) : List (Int32 × Option Int64) := ktO (nn 3) (nn 4) (ktA (ktL (ktS (ktB V (nn 0)) S (nn 2)) W (nn 3)) B (nn 4)) O (nn 5)
theorem rd_list {nn : Nat → Nat} {U : M2} {T : List Nat} (hK : KIN κ m) (D : LDAT T nn V U S W B O) (hT : TOK κ val 0 (kts nn V S W B O)) (hm : (kts nn V S W B O).length ≤ m) (R : RST κ m val (nn 3) (nn 4) V S W B O F L 0 0 0 0 0 0) : ∃ F' L', RST κ m val (nn 3) (nn 4) V S W B O F' L' (kts nn V S W B O).length (nn 0) (nn 2) (nn 3) (nn 4) (nn 5) ∧ RDS aa qq F L F' L' (nn 0 + nn 2 + nn 3 + nn 4 + nn 5) := by
  obtain ⟨⟨h0, h1, h2, h3, h4, h5⟩, hV, _, hS, hW, hB, hO, _⟩ := D
  have hbd := fo_bd (nn 0) hV
  have tO := hT
  have tA := kt_0 (kt := ktO (nn 3) (nn 4) (ktA (ktL (ktS (ktB V (nn 0)) S (nn 2)) W (nn 3)) B (nn 4)) O) (line := fun k => kO (nn 3) (nn 4) (O k)) (fun _ => rfl) tO
  have mA := kt_len (kt := ktO (nn 3) (nn 4) (ktA (ktL (ktS (ktB V (nn 0)) S (nn 2)) W (nn 3)) B (nn 4)) O) (line := fun k => kO (nn 3) (nn 4) (O k)) (fun _ => rfl) (Nat.zero_le (nn 5))
  have tL := kt_0 (kt := ktA (ktL (ktS (ktB V (nn 0)) S (nn 2)) W (nn 3)) B) (line := fun k => kA k (B k)) (n := nn 4) (fun _ => rfl) tA
  have mL := kt_len (kt := ktA (ktL (ktS (ktB V (nn 0)) S (nn 2)) W (nn 3)) B) (line := fun k => kA k (B k)) (fun _ => rfl) (Nat.zero_le (nn 4))
  have tS := kt_0 (kt := ktL (ktS (ktB V (nn 0)) S (nn 2)) W) (line := fun k => kL k (W k)) (n := nn 3) (fun _ => rfl) tL
  have mS := kt_len (kt := ktL (ktS (ktB V (nn 0)) S (nn 2)) W) (line := fun k => kL k (W k)) (fun _ => rfl) (Nat.zero_le (nn 3))
  have tB := kt_0 (kt := ktS (ktB V (nn 0)) S) (line := fun k => kS k (S k)) (n := nn 2) (fun _ => rfl) tS
  have mB := kt_len (kt := ktS (ktB V (nn 0)) S) (line := fun k => kS k (S k)) (fun _ => rfl) (Nat.zero_le (nn 2))
  have hm : (ktO (nn 3) (nn 4) (ktA (ktL (ktS (ktB V (nn 0)) S (nn 2)) W (nn 3)) B (nn 4)) O (nn 5)).length ≤ m := hm
  have mA : (ktA (ktL (ktS (ktB V (nn 0)) S (nn 2)) W (nn 3)) B (nn 4)).length ≤ _ := mA
  have mL : (ktL (ktS (ktB V (nn 0)) S (nn 2)) W (nn 3)).length ≤ _ := mL
  have mS : (ktS (ktB V (nn 0)) S (nn 2)).length ≤ _ := mS
  have mB : (ktB V (nn 0)).length ≤ _ := mB
  obtain ⟨F1, L1, R1, D1⟩ := rd_bores (aa := aa) (qq := qq) hK h0.2 hV tB (by omega) R (nn 0) (Nat.le_refl _)
  obtain ⟨F2, L3, R2, D2⟩ := rd_shafts (aa := aa) (qq := qq) (T0 := ktB V (nn 0)) (np := fo V (nn 0) - 1) hK h2 (by omega) (by omega) (fun k hk => by rw [show fo V (nn 0) - 1 + 1 = fo V (nn 0) by omega, ← h1]; exact hS k hk) tS (by omega) R1 (nn 2) (Nat.le_refl _)
  obtain ⟨F3, L4, R3, D3⟩ := rd_leggers (aa := aa) (qq := qq) (T0 := ktS (ktB V (nn 0)) S (nn 2)) hK h3.2 hW tL (by omega) R2 (nn 3) (Nat.le_refl _)
  obtain ⟨F4, L5, R4, D4⟩ := rd_boats (aa := aa) (qq := qq) (T0 := ktL (ktS (ktB V (nn 0)) S (nn 2)) W (nn 3)) hK h4.2 h3.2 hB tA (by omega) R3 (nn 4) (Nat.le_refl _)
  obtain ⟨F5, L6, R5, D5⟩ := rd_orders (aa := aa) (qq := qq) (T0 := ktA (ktL (ktS (ktB V (nn 0)) S (nn 2)) W (nn 3)) B (nn 4)) hK h5 ⟨by omega, h3.2⟩ h4 hO tO hm R4 (nn 5) (Nat.le_refl _)
  exact ⟨F5, L6, R5, (((D1.trans D2).trans D3).trans D4).trans D5⟩
end RDA
