/-! ===== the list that cells choose: its rows and its text ===== -/
theorem ap {T A : List Nat} {n : Nat} (h : A.length ≤ n) : (T ++ A).length ≤ T.length + n := by rw [List.length_append]; omega
def fo (V : M2) : Nat → Nat
  | 0 => 0
  | k + 1 => fo V k + (V k 0).toInt.toNat
def bA (T : List Nat) (k : Nat) (r : Nat → Int32) : List Nat := T ++ lst 20 ++ decs k ++ lst 21 ++ decs (r 0).toInt.toNat ++ lst 22 ++ decs (r 1).toInt.toNat ++ lst 23
def sA (T : List Nat) (k : Nat) (r : Nat → Int32) : List Nat := T ++ lst 24 ++ decs k ++ lst 25 ++ decs (r 0).toInt.toNat ++ lst 26 ++ decs (r 1).toInt.toNat ++ lst 23
def lA (T : List Nat) (k : Nat) (r : Nat → Int32) : List Nat := T ++ lst 27 ++ decs k ++ lst 28 ++ decs (r 0).toInt.toNat ++ lst 29 ++ decs (r 1).toInt.toNat ++ lst 30
def aA (T : List Nat) (k : Nat) (r : Nat → Int32) : List Nat := T ++ lst 31 ++ decs k ++ lst 32 ++ decs (r 0).toInt.toNat ++ lst 33 ++ (if r 1 = 0 then lst 34 else lst 35) ++ lst 36 ++ decs (r 2).toInt.toNat ++ lst 37 ++ decs (r 7).toInt.toNat ++ lst 38 ++ decs (r 8).toInt.toNat ++ lst 23
def oA (nl nb : Nat) (T : List Nat) (r : Nat → Int32) : List Nat := T ++ (if r 0 = 0 then (if r 1 = 0 then lst 39 else lst 40) else [] ++ lst 41 ++ decs (r 1).toInt.toNat) ++ lst 42 ++ testT (r 2).toInt.toNat (r 3).toInt.toNat (r 4).toInt.toNat ((r 5).toInt.toNat % nl) ((r 5).toInt.toNat % nb) ++ lst 23
def tB (V : M2) : Nat → List Nat
  | 0 => []
  | k + 1 => bA (tB V k) k (V k)
def tS (T : List Nat) (S : M2) : Nat → List Nat
  | 0 => T
  | k + 1 => sA (tS T S k) k (S k)
def tL (T : List Nat) (L : M2) : Nat → List Nat
  | 0 => T
  | k + 1 => lA (tL T L k) k (L k)
def tA (T : List Nat) (B : M2) : Nat → List Nat
  | 0 => T
  | k + 1 => aA (tA T B k) k (B k)
def tO (nl nb : Nat) (T : List Nat) (O : M2) : Nat → List Nat
  | 0 => T
  | k + 1 => oA nl nb (tO nl nb T O k) (O k)
def bK (V : M2) (k : Nat) (r : Nat → Int32) : Prop := ∃ x w, 1 ≤ x ∧ x ≤ 12 ∧ w ≤ 9 ∧ r 0 = nI x ∧ r 1 = nI w ∧ r 2 = nI (fo V k)
def sK (np : Nat) (r : Nat → Int32) : Prop := ∃ a d, a < np ∧ 1 ≤ d ∧ d ≤ 30 ∧ r 0 = nI a ∧ r 1 = nI d
def lK (r : Nat → Int32) : Prop := ∃ x y, 1 ≤ x ∧ x ≤ 9 ∧ 2 ≤ y ∧ y ≤ 9 ∧ r 0 = nI x ∧ r 1 = nI y ∧ r 2 = nI (10 * y) ∧ r 3 = -1 ∧ r 4 = 0
def aK (nl : Nat) (r : Nat → Int32) : Prop := ∃ w e z c d, 1 ≤ w ∧ w ≤ 60 ∧ e ≤ 1 ∧ z < 20 ∧ c < nl ∧ d < nl ∧ c ≠ d ∧ r 0 = nI w ∧ r 1 = nI e ∧ r 2 = nI z ∧ r 3 = 0 ∧ r 4 = -1 ∧ r 5 = 0 ∧ r 6 = -1 ∧ r 7 = nI c ∧ r 8 = nI d
def oK (nl : Nat) (r : Nat → Int32) : Prop := ∃ s i e n m x, s ≤ 1 ∧ i < (if s = 0 then 2 else nl) ∧ e < 8 ∧ n < 40 ∧ m < 100 ∧ x < 30 ∧ r 0 = nI s ∧ r 1 = nI i ∧ r 2 = nI e ∧ r 3 = nI n ∧ r 4 = nI m ∧ r 5 = nI x
/-- section s of the list holds j rows, those ahead all theirs, those behind none -/
def KO (s j : Nat) (nn kk : Nat → Nat) : Prop := (∀ i, i < s → kk i = nn i) ∧ kk s = j ∧ (∀ i, s < i → kk i = 0) ∧ ∀ i, s < i → nn i = 0
theorem updN_s (f : Nat → Nat) (k x : Nat) : updN f k x k = x := if_pos rfl
theorem updN_n (f : Nat → Nat) {k j : Nat} (x : Nat) (h : j ≠ k) : updN f k x j = f j := if_neg h
theorem KO.next {s j : Nat} {nn kk : Nat → Nat} (h : KO s j nn kk) : KO s (j + 1) nn (updN kk s (j + 1)) := by
  refine ⟨fun i hi => ?_, updN_s _ _ _, fun i hi => ?_, h.2.2.2⟩
  · rw [updN_n _ _ (by omega)]; exact h.1 i hi
  · rw [updN_n _ _ (by omega)]; exact h.2.2.1 i hi
theorem KO.sec {s : Nat} {nn kk : Nat → Nat} (h : KO s (nn s) nn kk) (z : Nat) : KO (s + 1) 0 (updN nn (s + 1) z) kk := by
  refine ⟨fun i hi => ?_, h.2.2.1 _ (by omega), fun i hi => h.2.2.1 i (by omega), fun i hi => ?_⟩
  · rw [updN_n _ _ (by omega)]
    by_cases c : i = s
    · rw [c]; exact h.2.1
    · exact h.1 i (by omega)
  · rw [updN_n _ _ (by omega)]; exact h.2.2.2 i (by omega)
theorem KO.all {s : Nat} {nn kk : Nat → Nat} (h : KO s (nn s) nn kk) : kk = nn := by
  funext i
  by_cases c : i < s
  · exact h.1 i c
  · by_cases c2 : i = s
    · rw [c2]; exact h.2.1
    · rw [h.2.2.1 i (by omega), h.2.2.2 i (by omega)]
theorem fo_c {V V' : M2} : ∀ n, (∀ k, k < n → V k = V' k) → fo V n = fo V' n
  | 0, _ => rfl
  | n + 1, h => by
    show fo V n + (V n 0).toInt.toNat = fo V' n + (V' n 0).toInt.toNat
    rw [fo_c n (fun k hk => h k (by omega)), h n (by omega)]
theorem tB_c {V V' : M2} : ∀ n, (∀ k, k < n → V k = V' k) → tB V n = tB V' n
  | 0, _ => rfl
  | n + 1, h => by
    show bA (tB V n) n (V n) = bA (tB V' n) n (V' n)
    rw [tB_c n (fun k hk => h k (by omega)), h n (by omega)]
theorem tS_c {T : List Nat} {V V' : M2} : ∀ n, (∀ k, k < n → V k = V' k) → tS T V n = tS T V' n
  | 0, _ => rfl
  | n + 1, h => by
    show sA (tS T V n) n (V n) = sA (tS T V' n) n (V' n)
    rw [tS_c n (fun k hk => h k (by omega)), h n (by omega)]
theorem tL_c {T : List Nat} {V V' : M2} : ∀ n, (∀ k, k < n → V k = V' k) → tL T V n = tL T V' n
  | 0, _ => rfl
  | n + 1, h => by
    show lA (tL T V n) n (V n) = lA (tL T V' n) n (V' n)
    rw [tL_c n (fun k hk => h k (by omega)), h n (by omega)]
theorem tA_c {T : List Nat} {V V' : M2} : ∀ n, (∀ k, k < n → V k = V' k) → tA T V n = tA T V' n
  | 0, _ => rfl
  | n + 1, h => by
    show aA (tA T V n) n (V n) = aA (tA T V' n) n (V' n)
    rw [tA_c n (fun k hk => h k (by omega)), h n (by omega)]
theorem tO_c {nl nb : Nat} {T : List Nat} {V V' : M2} : ∀ n, (∀ k, k < n → V k = V' k) → tO nl nb T V n = tO nl nb T V' n
  | 0, _ => rfl
  | n + 1, h => by
    show oA nl nb (tO nl nb T V n) (V n) = oA nl nb (tO nl nb T V' n) (V' n)
    rw [tO_c n (fun k hk => h k (by omega)), h n (by omega)]
theorem up2_lt {V : M2} {r : Nat → Int32} {j : Nat} : ∀ k, k < j → V k = up2 V j r k := fun k hk => (up2_n V r (by omega)).symm
theorem testT_le (e n m l b : Nat) : (testT e n m l b).length ≤ 60 := by
  have hl : (legT l).length ≤ 3 := by
    unfold legT
    have := decs_le l
    have e0 : ([] ++ lst 0).length = 1 := by decide
    rw [List.length_append, e0]; omega
  have hb : (boaT b).length ≤ 3 := by
    unfold boaT
    have := decs_le b
    have e0 : ([] ++ lst 1).length = 1 := by decide
    rw [List.length_append, e0]; omega
  have d1 := decs_le (n % 7 + 1)
  have d2 := decs_le n
  have d3 := decs_le m
  have x2 : (lst 2).length = 7 := by decide
  have x3 : (lst 3).length = 1 := by decide
  have x4 : (lst 4).length = 7 := by decide
  have x5 : (lst 5).length = 21 := by decide
  have x6 : (lst 6).length = 28 := by decide
  have x7 : (lst 7).length = 4 := by decide
  have x8 : (lst 8).length = 2 := by decide
  have x9 : (lst 9).length = 7 := by decide
  have x10 : (lst 10).length = 1 := by decide
  have x11 : (lst 11).length = 11 := by decide
  have x12 : (lst 12).length = 10 := by decide
  have x13 : (lst 13).length = 2 := by decide
  have x14 : (lst 14).length = 19 := by decide
  have x15 : (lst 15).length = 14 := by decide
  have x16 : (lst 16).length = 2 := by decide
  have x17 : (lst 17).length = 1 := by decide
  have x18 : (lst 18).length = 15 := by decide
  have x19 : (lst 19).length = 16 := by decide
  unfold testT
  split <;> simp only [List.length_append, List.length_nil, x2, x3, x4, x5, x6, x7, x8, x9, x10, x11, x12, x13, x14, x15, x16, x17, x18, x19] <;> omega
section LROW
variable {xs : Nat → Int32} {Ln : Nat} {K : List Nat → (Nat → Nat) → (Nat → Nat) → M2 → M2 → M2 → M2 → M2 → M2 → Prop} {T : List Nat} {nn kk : Nat → Nat} {V U S L B O : M2}
theorem l_83 {C31 : List Nat → (Nat → Nat) → (Nat → Nat) → M2 → M2 → M2 → M2 → M2 → M2 → Int32 → Int32 → Prop} {a j c : Nat} {v5 : Int32} (hc : 0 < c ∧ c ≤ 12) (hkb : nn 0 ≤ 3) (hj : j < nn 0) (hkk : kk 0 = j) (hT : T.length ≤ 1400) (h : ∀ (r : Nat → Int32) (x w : Nat), 1 ≤ x → x ≤ 12 → w ≤ 9 → r 0 = nI x → r 1 = nI w → r 2 = nI a → ∀ T', T' = bA T j r → T'.length ≤ T.length + 24 → ∀ v3 : Int32, v3 = nI a + r 0 → ∀ v : Int32, v = nI j + 1 → C31 T' nn (updN kk 0 (j + 1)) (up2 V j r) U S L B O v3 v) : wj_L_list_83 xs Ln C31 K T nn kk V U S L B O (fun _ => 0) (nI a) (nI j) v5 (nI c) v5 1 0 (nI j) := by
  obtain ⟨x, hx, ex⟩ := blw_nI v5 (n := c) hc.1 (by omega)
  obtain ⟨w, hw, ew⟩ := blw_nI (v5 >>> ((4 : Int32) &&& 31)) (n := 10) (by decide) (by decide)
  have ew : blw (v5 >>> ((4 : Int32) &&& 31)) 10 = nI w := ew
  have tj : (nI j).toInt.toNat = j := tn_nI (by omega)
  have k0 : updN kk 0 (j + 1) 0 = j + 1 := updN_s _ _ _
  have ij : inb (nI j) (j + 1) := inb_nJ (by omega) (by omega)
  refine ⟨nI_ne0 hc.1 (by omega), by decide, fun a1 A1 => ⟨by decide, fun a2 A2 => ⟨by decide, fun r R => ⟨by rw [hkk]; rfl, by omega, by omega, fun kk' Hk V' HV => ?_⟩⟩⟩⟩
  have r0 : r 0 = nI (1 + x) := by
    have e : r 0 = 1 + blw v5 (nI c) := by subst R A2 A1; rfl
    rw [e, ex, ← nI_add]; rfl
  have r1 : r 1 = nI w := by
    have e : r 1 = blw (v5 >>> ((4 : Int32) &&& 31)) 10 := by subst R A2 A1; rfl
    rw [e, ew]
  have r2 : r 2 = nI a := by subst R A2 A1; rfl
  clear R A2 A1
  subst Hk HV
  rw [tj, hkk, up2_s, k0]
  refine ⟨by omega, ij, ij, fun v3 hv3 => ?_⟩
  have q1 : (T ++ lst 20).length ≤ T.length + 6 := ap (by decide)
  refine ⟨by omega, fun T1 t1 => ?_⟩
  rw [← t1] at q1
  have q2 : (T1 ++ decs (j)).length ≤ T1.length + 2 := ap (decs_le _)
  refine ⟨inb_nJ (by omega) (by omega), by omega, fun T2 t2 => ?_⟩
  rw [← t2] at q2
  have q3 : (T2 ++ lst 21).length ≤ T2.length + 6 := ap (by decide)
  refine ⟨by omega, fun T3 t3 => ?_⟩
  rw [← t3] at q3
  refine ⟨by omega, ij, ij, ?_⟩
  have q4 : (T3 ++ decs ((r 0).toInt.toNat)).length ≤ T3.length + 2 := ap (decs_le _)
  refine ⟨by rw [r0]; exact inb_nJ (by omega) (by omega), by omega, fun T4 t4 => ?_⟩
  rw [← t4] at q4
  have q5 : (T4 ++ lst 22).length ≤ T4.length + 5 := ap (by decide)
  refine ⟨by omega, fun T5 t5 => ?_⟩
  rw [← t5] at q5
  refine ⟨by omega, ij, ij, ?_⟩
  have q6 : (T5 ++ decs ((r 1).toInt.toNat)).length ≤ T5.length + 2 := ap (decs_le _)
  refine ⟨by rw [r1]; exact inb_nJ (by omega) (by omega), by omega, fun T6 t6 => ?_⟩
  rw [← t6] at q6
  have q7 : (T6 ++ lst 23).length ≤ T6.length + 1 := ap (by decide)
  refine ⟨by omega, fun T7 t7 => ?_⟩
  rw [← t7] at q7
  exact h r (1 + x) w (by omega) (by omega) (by omega) r0 r1 r2 T7 (by rw [t7, t6, t5, t4, t3, t2, t1]; rfl) (by omega) v3 hv3
theorem l_942t {C : List Nat → Int32 → Prop} {j e n m x : Nat} {r : Nat → Int32} (h3 : 0 < nn 3 ∧ nn 3 ≤ 5) (h4 : 0 < nn 4 ∧ nn 4 ≤ 5) (he : e < 8) (hn : n < 40) (hm : m < 100) (hx : x < 30) (r2 : r 2 = nI e) (r3 : r 3 = nI n) (r4 : r 4 = nI m) (r5 : r 5 = nI x) (hT : T.length ≤ 1420) (h : ∀ T', T' = T ++ lst 42 ++ (testT (r 2).toInt.toNat (r 3).toInt.toNat (r 4).toInt.toNat ((r 5).toInt.toNat % nn 3) ((r 5).toInt.toNat % nn 4)) ++ lst 23 → T'.length ≤ T.length + 67 → ∀ v : Int32, v = nI j + 1 → C T' v) : ((T ++ lst 42).length ≤ 1500 ∧ ∀ T1 : List Nat, T1 = T ++ lst 42 → (inb (r 2) 8 ∧ inb (r 3) 40 ∧ inb (r 4) 100 ∧ inb (r 5) 30 ∧ (0 < nn 3 ∧ nn 3 ≤ 5) ∧ (0 < nn 4 ∧ nn 4 ≤ 5) ∧ (T1 ++ (testT (r 2).toInt.toNat (r 3).toInt.toNat (r 4).toInt.toNat ((r 5).toInt.toNat % nn 3) ((r 5).toInt.toNat % nn 4))).length ≤ 1500 ∧ ∀ T2 : List Nat, T2 = T1 ++ (testT (r 2).toInt.toNat (r 3).toInt.toNat (r 4).toInt.toNat ((r 5).toInt.toNat % nn 3) ((r 5).toInt.toNat % nn 4)) → ((T2 ++ lst 23).length ≤ 1500 ∧ ∀ T3 : List Nat, T3 = T2 ++ lst 23 → (∀ v : Int32, v = nI j + 1 → C T3 v)))) := by
  have q1 : (T ++ lst 42).length ≤ T.length + 6 := ap (by decide)
  refine ⟨by omega, fun T1 t1 => ?_⟩
  rw [← t1] at q1
  have q2 : (T1 ++ (testT (r 2).toInt.toNat (r 3).toInt.toNat (r 4).toInt.toNat ((r 5).toInt.toNat % nn 3) ((r 5).toInt.toNat % nn 4))).length ≤ T1.length + 60 := ap (testT_le _ _ _ _ _)
  refine ⟨by rw [r2]; exact inb_nJ he (by omega), by rw [r3]; exact inb_nJ hn (by omega), by rw [r4]; exact inb_nJ hm (by omega), by rw [r5]; exact inb_nJ hx (by omega), h3, h4, by omega, fun T2 t2 => ?_⟩
  rw [← t2] at q2
  have q3 : (T2 ++ lst 23).length ≤ T2.length + 1 := ap (by decide)
  refine ⟨by omega, fun T3 t3 => ?_⟩
  rw [← t3] at q3
  exact h T3 (by rw [t3, t2, t1]) (by omega)
theorem l_942 {C857 : List Nat → (Nat → Nat) → (Nat → Nat) → M2 → M2 → M2 → M2 → M2 → M2 → Int32 → Prop} {v5 : Int32} {e : Nat → Int32} {j s i : Nat} (h3 : 2 ≤ nn 3 ∧ nn 3 ≤ 5) (h4 : 0 < nn 4 ∧ nn 4 ≤ 5) (h5 : nn 5 ≤ 5) (hj : j < nn 5) (hkk : kk 5 = j) (hs : s ≤ 1) (hi : i < (if s = 0 then 2 else nn 3)) (he : e 0 = nI s) (hT : T.length ≤ 1400) (h : ∀ r : Nat → Int32, oK (nn 3) r → ∀ T', T' = oA (nn 3) (nn 4) T r → T'.length ≤ T.length + 79 → ∀ v : Int32, v = nI j + 1 → C857 T' nn (updN kk 5 (j + 1)) V U S L B (up2 O j r) v) : wj_L_list_942 xs Ln C857 K T nn kk V U S L B O e (nI j) v5 (nI s) (nI i) 1 := by
  obtain ⟨x2, h2', e2⟩ := blw_nI v5 (n := 8) (by decide) (by decide)
  obtain ⟨x3, h3', e3⟩ := blw_nI (v5 >>> ((4 : Int32) &&& 31)) (n := 40) (by decide) (by decide)
  obtain ⟨x4, h4', e4⟩ := blw_nI (v5 >>> ((6 : Int32) &&& 31)) (n := 100) (by decide) (by decide)
  obtain ⟨x5, h5', e5⟩ := blw_nI (v5 >>> ((5 : Int32) &&& 31)) (n := 30) (by decide) (by decide)
  have e2 : blw v5 8 = nI x2 := e2
  have e3 : blw (v5 >>> ((4 : Int32) &&& 31)) 40 = nI x3 := e3
  have e4 : blw (v5 >>> ((6 : Int32) &&& 31)) 100 = nI x4 := e4
  have e5 : blw (v5 >>> ((5 : Int32) &&& 31)) 30 = nI x5 := e5
  have i5 : i < 5 := by split at hi <;> omega
  refine ⟨by decide, fun a1 A1 => ⟨by decide, fun a2 A2 => ⟨by decide, fun a3 A3 => ⟨by decide, fun a4 A4 => ⟨by decide, fun r R => ⟨by rw [hkk]; rfl, by omega, by omega, fun kk' Hk O' HO => ?_⟩⟩⟩⟩⟩⟩
  have r0 : r 0 = nI s := by subst R A4 A3 A2 A1; exact he
  have r1 : r 1 = nI i := by subst R A4 A3 A2 A1; rfl
  have r2 : r 2 = nI x2 := by rw [← e2]; subst R A4 A3 A2 A1; rfl
  have r3 : r 3 = nI x3 := by rw [← e3]; subst R A4 A3 A2 A1; rfl
  have r4 : r 4 = nI x4 := by rw [← e4]; subst R A4 A3 A2 A1; rfl
  have r5 : r 5 = nI x5 := by rw [← e5]; subst R A4 A3 A2 A1; rfl
  clear R A4 A3 A2 A1
  subst Hk HO
  rw [hkk]
  have hr : oK (nn 3) r := ⟨s, i, x2, x3, x4, x5, hs, hi, h2', h3', h4', h5', r0, r1, r2, r3, r4, r5⟩
  have h3p : 0 < nn 3 ∧ nn 3 ≤ 5 := ⟨by omega, h3.2⟩
  refine And.intro (fun z => ⟨by decide, by rw [r1]; exact inb_nJ (by omega) (by omega), ?_⟩) (fun z => ⟨by decide, And.intro (fun z1 => ?_) (fun z1 => ?_)⟩)
  · have w0 : (([] : List Nat) ++ lst 41 ++ decs (r 1).toInt.toNat).length ≤ 8 := by
      have d := decs_le (r 1).toInt.toNat
      have y : (([] : List Nat) ++ lst 41).length = 6 := by decide
      rw [List.length_append, y]; omega
    have w1 := ap (T := T) w0
    refine ⟨by omega, fun T1 t1 => l_942t (C := fun T' v => C857 T' nn (updN kk 5 (j + 1)) V U S L B (up2 O j r) v) h3p h4 h2' h3' h4' h5' r2 r3 r4 r5 (by rw [t1]; omega) (fun T' t' q => h r hr T' ?_ (by rw [t1] at q; omega))⟩
    rw [t', t1]
    unfold oA
    rw [if_neg (by rw [r0]; exact z)]
  · have w1 := ap (T := T) (show (lst 40).length ≤ 12 by decide)
    refine ⟨by omega, fun T1 t1 => l_942t (C := fun T' v => C857 T' nn (updN kk 5 (j + 1)) V U S L B (up2 O j r) v) h3p h4 h2' h3' h4' h5' r2 r3 r4 r5 (by rw [t1]; omega) (fun T' t' q => h r hr T' ?_ (by rw [t1] at q; omega))⟩
    rw [t', t1]
    unfold oA
    rw [if_pos (show r 0 = 0 by rw [r0]; exact z), if_neg z1]
  · have w1 := ap (T := T) (show (lst 39).length ≤ 12 by decide)
    refine ⟨by omega, fun T1 t1 => l_942t (C := fun T' v => C857 T' nn (updN kk 5 (j + 1)) V U S L B (up2 O j r) v) h3p h4 h2' h3' h4' h5' r2 r3 r4 r5 (by rw [t1]; omega) (fun T' t' q => h r hr T' ?_ (by rw [t1] at q; omega))⟩
    rw [t', t1]
    unfold oA
    rw [if_pos (show r 0 = 0 by rw [r0]; exact z), if_pos z1]
theorem l_673 {C569 : List Nat → (Nat → Nat) → (Nat → Nat) → M2 → M2 → M2 → M2 → M2 → M2 → Int32 → Prop} {v5 : Int32} {j q c d nl : Nat} (hq : 0 < q ∧ q ≤ 60) (hnl : nl ≤ 5) (h4 : nn 4 ≤ 5) (hj : j < nn 4) (hkk : kk 4 = j) (hc : c < nl) (hd : d < nl) (hcd : c ≠ d) (hT : T.length ≤ 1400) (h : ∀ r : Nat → Int32, aK nl r → ∀ T', T' = aA T j r → T'.length ≤ T.length + 51 → ∀ v : Int32, v = nI j + 1 → C569 T' nn (updN kk 4 (j + 1)) V U S L (up2 B j r) O v) : wj_L_list_673 xs Ln C569 K T nn kk V U S L B O (fun _ => 0) (nI j) v5 (nI c) (nI d) (nI q) v5 1 0 (nI j) := by
  obtain ⟨x0, h0', e0⟩ := blw_nI v5 (n := q) hq.1 (by omega)
  obtain ⟨x1, h1', e1⟩ := blw_nI (v5 >>> ((3 : Int32) &&& 31)) (n := 2) (by decide) (by decide)
  obtain ⟨x2, h2', e2⟩ := blw_nI (v5 >>> ((6 : Int32) &&& 31)) (n := 20) (by decide) (by decide)
  have e1 : blw (v5 >>> ((3 : Int32) &&& 31)) 2 = nI x1 := e1
  have e2 : blw (v5 >>> ((6 : Int32) &&& 31)) 20 = nI x2 := e2
  have tj : (nI j).toInt.toNat = j := tn_nI (by omega)
  have k0 : updN kk 4 (j + 1) 4 = j + 1 := updN_s _ _ _
  have ij : inb (nI j) (j + 1) := inb_nJ (by omega) (by omega)
  refine ⟨nI_ne0 hq.1 (by omega), by decide, fun a1 A1 => ⟨by decide, fun a2 A2 => ⟨by decide, fun a3 A3 => ⟨by decide, fun a4 A4 => ⟨by decide, fun a5 A5 => ⟨by decide, fun a6 A6 => ⟨by decide, fun a7 A7 => ⟨by decide, fun a8 A8 => ⟨by decide, fun r R => ⟨by rw [hkk]; rfl, by omega, by omega, fun kk' Hk B' HB => ?_⟩⟩⟩⟩⟩⟩⟩⟩⟩⟩
  have r0 : r 0 = nI (1 + x0) := by
    have e : r 0 = 1 + blw v5 (nI q) := by subst R A8 A7 A6 A5 A4 A3 A2 A1; rfl
    rw [e, e0, ← nI_add]; rfl
  have r1 : r 1 = nI x1 := by rw [← e1]; subst R A8 A7 A6 A5 A4 A3 A2 A1; rfl
  have r2 : r 2 = nI x2 := by rw [← e2]; subst R A8 A7 A6 A5 A4 A3 A2 A1; rfl
  have r3 : r 3 = 0 := by subst R A8 A7 A6 A5 A4 A3 A2 A1; rfl
  have r4 : r 4 = -1 := by subst R A8 A7 A6 A5 A4 A3 A2 A1; rfl
  have r5 : r 5 = 0 := by subst R A8 A7 A6 A5 A4 A3 A2 A1; rfl
  have r6 : r 6 = -1 := by subst R A8 A7 A6 A5 A4 A3 A2 A1; rfl
  have r7 : r 7 = nI c := by subst R A8 A7 A6 A5 A4 A3 A2 A1; rfl
  have r8 : r 8 = nI d := by subst R A8 A7 A6 A5 A4 A3 A2 A1; rfl
  clear R A8 A7 A6 A5 A4 A3 A2 A1
  subst Hk HB
  have hr : aK nl r := ⟨1 + x0, x1, x2, c, d, by omega, by omega, by omega, h2', hc, hd, hcd, r0, r1, r2, r3, r4, r5, r6, r7, r8⟩
  rw [tj, hkk, up2_s, k0]
  have q1 : (T ++ lst 31).length ≤ T.length + 6 := ap (by decide)
  refine ⟨by omega, fun T1 t1 => ?_⟩
  rw [← t1] at q1
  have q2 : (T1 ++ decs (j)).length ≤ T1.length + 2 := ap (decs_le _)
  refine ⟨inb_nJ (by omega) (by omega), by omega, fun T2 t2 => ?_⟩
  rw [← t2] at q2
  have q3 : (T2 ++ lst 32).length ≤ T2.length + 8 := ap (by decide)
  refine ⟨by omega, fun T3 t3 => ?_⟩
  rw [← t3] at q3
  refine ⟨by omega, ij, ij, ?_⟩
  have q4 : (T3 ++ decs ((r 0).toInt.toNat)).length ≤ T3.length + 2 := ap (decs_le _)
  refine ⟨by rw [r0]; exact inb_nJ (by omega) (by omega), by omega, fun T4 t4 => ?_⟩
  rw [← t4] at q4
  have q5 : (T4 ++ lst 33).length ≤ T4.length + 6 := ap (by decide)
  refine ⟨by omega, fun T5 t5 => ?_⟩
  rw [← t5] at q5
  refine ⟨by omega, ij, ij, And.intro (fun z => ?_) (fun z => ?_)⟩
  · have q6 : (T5 ++ lst 35).length ≤ T5.length + 4 := ap (by decide)
    refine ⟨by omega, fun T6 t6 => ?_⟩
    rw [← t6] at q6
    have q7 : (T6 ++ lst 36).length ≤ T6.length + 5 := ap (by decide)
    refine ⟨by omega, fun T7 t7 => ?_⟩
    rw [← t7] at q7
    refine ⟨by omega, ij, ij, ?_⟩
    have q8 : (T7 ++ decs ((r 2).toInt.toNat)).length ≤ T7.length + 2 := ap (decs_le _)
    refine ⟨by rw [r2]; exact inb_nJ (by omega) (by omega), by omega, fun T8 t8 => ?_⟩
    rw [← t8] at q8
    have q9 : (T8 ++ lst 37).length ≤ T8.length + 5 := ap (by decide)
    refine ⟨by omega, fun T9 t9 => ?_⟩
    rw [← t9] at q9
    have q10 : (T9 ++ decs ((nI c).toInt.toNat)).length ≤ T9.length + 2 := ap (decs_le _)
    refine ⟨inb_nJ (by omega) (by omega), by omega, fun T10 t10 => ?_⟩
    rw [← t10] at q10
    have q11 : (T10 ++ lst 38).length ≤ T10.length + 6 := ap (by decide)
    refine ⟨by omega, fun T11 t11 => ?_⟩
    rw [← t11] at q11
    have q12 : (T11 ++ decs ((nI d).toInt.toNat)).length ≤ T11.length + 2 := ap (decs_le _)
    refine ⟨inb_nJ (by omega) (by omega), by omega, fun T12 t12 => ?_⟩
    rw [← t12] at q12
    have q13 : (T12 ++ lst 23).length ≤ T12.length + 1 := ap (by decide)
    refine ⟨by omega, fun T13 t13 => ?_⟩
    rw [← t13] at q13
    refine h r hr T13 ?_ (by omega)
    rw [t13, t12, t11, t10, t9, t8, t7, t6, t5, t4, t3, t2, t1]
    unfold aA
    rw [if_neg z, r7, r8]
  · have q6 : (T5 ++ lst 34).length ≤ T5.length + 4 := ap (by decide)
    refine ⟨by omega, fun T6 t6 => ?_⟩
    rw [← t6] at q6
    have q7 : (T6 ++ lst 36).length ≤ T6.length + 5 := ap (by decide)
    refine ⟨by omega, fun T7 t7 => ?_⟩
    rw [← t7] at q7
    refine ⟨by omega, ij, ij, ?_⟩
    have q8 : (T7 ++ decs ((r 2).toInt.toNat)).length ≤ T7.length + 2 := ap (decs_le _)
    refine ⟨by rw [r2]; exact inb_nJ (by omega) (by omega), by omega, fun T8 t8 => ?_⟩
    rw [← t8] at q8
    have q9 : (T8 ++ lst 37).length ≤ T8.length + 5 := ap (by decide)
    refine ⟨by omega, fun T9 t9 => ?_⟩
    rw [← t9] at q9
    have q10 : (T9 ++ decs ((nI c).toInt.toNat)).length ≤ T9.length + 2 := ap (decs_le _)
    refine ⟨inb_nJ (by omega) (by omega), by omega, fun T10 t10 => ?_⟩
    rw [← t10] at q10
    have q11 : (T10 ++ lst 38).length ≤ T10.length + 6 := ap (by decide)
    refine ⟨by omega, fun T11 t11 => ?_⟩
    rw [← t11] at q11
    have q12 : (T11 ++ decs ((nI d).toInt.toNat)).length ≤ T11.length + 2 := ap (decs_le _)
    refine ⟨inb_nJ (by omega) (by omega), by omega, fun T12 t12 => ?_⟩
    rw [← t12] at q12
    have q13 : (T12 ++ lst 23).length ≤ T12.length + 1 := ap (by decide)
    refine ⟨by omega, fun T13 t13 => ?_⟩
    rw [← t13] at q13
    refine h r hr T13 ?_ (by omega)
    rw [t13, t12, t11, t10, t9, t8, t7, t6, t5, t4, t3, t2, t1]
    unfold aA
    rw [if_pos z, r7, r8]
end LROW
