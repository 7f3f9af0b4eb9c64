/-! ===== what holds at the law's entry ===== -/
section ENTRY
def nfl : List Cond := Jvm.Free.XT.flat (Jvm.Cond.and given_1 narrow_1)
def subq : List Cond → List Cond → Bool
  | [], _ => true
  | _ :: _, [] => false
  | x :: xs, y :: ys => if x = y then subq xs ys else subq (x :: xs) ys
theorem subq_mem : ∀ (xs ys : List Cond), subq xs ys = true → ∀ x ∈ xs, x ∈ ys
  | [], _, _, x, hx => nomatch hx
  | x :: xs, [], h, _, _ => by
    unfold subq at h
    exact Bool.noConfusion h
  | x :: xs, y :: ys, h, z, hz => by
    unfold subq at h
    split at h
    · rename_i e
      subst e
      rcases List.mem_cons.mp hz with e | e
      · subst e
        exact List.mem_cons_self
      · exact List.mem_cons_of_mem _ (subq_mem xs ys h z e)
    · exact List.mem_cons_of_mem _ (subq_mem (x :: xs) ys h z hz)
theorem in_tb {ws : List Cond} (ps : List Nat) (hp : ws = ps.filterMap (fun i => lw_tbl[i]?)) : ∀ w ∈ ws, w ∈ lw_tbl := by
  intro w hw
  rw [hp] at hw
  obtain ⟨i, -, hi⟩ := List.mem_filterMap.mp hw
  exact List.mem_of_getElem? hi
def STM : List (String × Nat) := [("TunnelLeggersModel", 412), ("TunnelLeggersModel", 414), ("TunnelLeggersModel", 416), ("TunnelLeggersModel", 417), ("TunnelLeggersModel", 419), ("TunnelLeggersModel", 420), ("TunnelLeggersModel", 421), ("TunnelLeggersModel", 423), ("TunnelLeggersModel", 424), ("TunnelLeggersModel", 425), ("TunnelLeggersModel", 427), ("TunnelLeggersModel", 428), ("TunnelLeggersModel", 429), ("TunnelLeggersModel", 431), ("TunnelLeggersModel", 433), ("TunnelLeggersModel", 434), ("TunnelLeggersModel", 436), ("TunnelLeggersModel", 438), ("TunnelLeggersModel", 440), ("TunnelLeggersModel", 442), ("TunnelLeggersModel", 444), ("TunnelLeggersModel", 445), ("TunnelLeggersModel", 446), ("TunnelLeggersModel", 447), ("TunnelLeggersModel", 448), ("TunnelLeggersModel", 450), ("TunnelLeggersModel", 452), ("TunnelLeggersModel", 454), ("TunnelLeggersModel", 456), ("TunnelLeggersModel", 458), ("TunnelLeggersModel", 460), ("TunnelLeggersModel", 461), ("TunnelLeggersModel", 105), ("TunnelLeggers$Tokens", 39), ("TunnelLeggers$Tokens", 45), ("TunnelLeggers$Tokens", 47), ("TunnelLeggers$Tokens", 49), ("TunnelLeggers$Tokens", 51), ("TunnelLeggers$Tokens", 53), ("TunnelLeggers$Tokens", 55), ("TunnelLeggers$Tokens", 57), ("TunnelLeggers$Tokens", 59), ("TunnelLeggers$Tokens", 61), ("TunnelLeggers$Tokens", 63), ("TunnelLeggers$Tokens", 65), ("TunnelLeggers$Tokens", 67), ("TunnelLeggers$Tokens", 69), ("TunnelLeggers$Tokens", 71), ("TunnelLeggers$Tokens", 73), ("TunnelLeggers$Tokens", 75), ("TunnelLeggers$Tokens", 77), ("TunnelLeggers$Tokens", 79), ("TunnelLeggers$Tokens", 81), ("TunnelLeggers$Tokens", 83), ("TunnelLeggers$Tokens", 85), ("TunnelLeggers$Tokens", 87), ("TunnelLeggers$Tokens", 89), ("TunnelLeggers$Tokens", 91), ("TunnelLeggers$Tokens", 93), ("TunnelLeggers$Tokens", 95), ("TunnelLeggers$Tokens", 97), ("TunnelLeggers$Tokens", 99), ("TunnelLeggers$Tokens", 101), ("TunnelLeggers$Tokens", 103), ("TunnelLeggers$Tokens", 105)]
def tmS (i : Nat) : Term := .string (STM.getD i ("", 0)).1 (STM.getD i ("", 0)).2
def fvS (i : Nat) : Term := .field (tmS i) "java/lang/String" "value" "[B"
def atS (i : Nat) : List Cond := [.exactly (tmS i) "java/lang/String", .eq (.field (tmS i) "java/lang/String" "coder" "B") (.int 0), .arrayOf (fvS i) .byte, .eq (.length (fvS i)) (.int (Int32.ofNat (sn i)))] ++ (List.range (sn i)).map (fun j => .eq (.elem (fvS i) (.int (Int32.ofNat j))) (.int (sb i j)))
def ordS : List Nat := [33, 34, 35, 36, 37, 38, 39, 40, 41, 42, 43, 44, 45, 46, 47, 48, 49, 50, 51, 52, 53, 54, 55, 56, 57, 58, 59, 60, 61, 62, 63, 64, 32, 0, 1, 2, 3, 4, 5, 6, 7, 8, 9, 10, 11, 12, 13, 14, 15, 16, 17, 18, 19, 20, 21, 22, 23, 24, 25, 26, 27, 28, 29, 30, 31]
theorem ordS_all : ∀ i, i < 65 → i ∈ ordS := by decide +kernel
theorem alS_ok : subq (ordS.flatMap atS) nfl = true := by decide +kernel
theorem atS_in {i : Nat} (hi : i < 65) : ∀ w ∈ atS i, w ∈ nfl := fun w hw => subq_mem _ _ alS_ok w (List.mem_flatMap.mpr ⟨i, ordS_all i hi, hw⟩)
def tmT (nm : String) : Term := .static "TunnelLeggers" nm "[I"
def atT (nm : String) (n : Nat) (k : Nat → Int32) : List Cond := [.arrayOf (tmT nm) .int, .eq (.length (tmT nm)) (.int (Int32.ofNat n))] ++ (List.range n).map (fun j => .eq (.elem (tmT nm) (.int (Int32.ofNat j))) (.int (k j)))
def tmW : Term := .static "TunnelLeggersModel" "WORDS" "[Ljava/lang/String;"
def atW : List Cond := [.arrayOf tmW (.object "java/lang/String"), .eq (.length tmW) (.int (Int32.ofNat 32))] ++ (List.range 32).map (fun j => .eq (.elem tmW (.int (Int32.ofNat j))) (tmS j))
theorem at_BORE_LINE : subq (atT "BORE_LINE" 6 kBORE_LINE) nfl = true := by decide +kernel
theorem at_SHAFT_LINE : subq (atT "SHAFT_LINE" 6 kSHAFT_LINE) nfl = true := by decide +kernel
theorem at_LEGGER_LINE : subq (atT "LEGGER_LINE" 6 kLEGGER_LINE) nfl = true := by decide +kernel
theorem at_BOAT_LINE : subq (atT "BOAT_LINE" 12 kBOAT_LINE) nfl = true := by decide +kernel
theorem at_WHISTLE_HEAD : subq (atT "WHISTLE_HEAD" 3 kWHISTLE_HEAD) nfl = true := by decide +kernel
theorem at_REST_HEAD : subq (atT "REST_HEAD" 3 kREST_HEAD) nfl = true := by decide +kernel
theorem atW_ok : subq atW nfl = true := by decide +kernel
theorem str_ex {args : Array Value} {s : State} {A : Nat → Prop} (hs : ∀ w ∈ nfl, w.before args s = true) (hA : ∀ a : Nat, a < s.heap.size → ¬ A a) : ∃ ka va : Nat → Nat, ∀ i, i < 65 → (tmS i).eval args s none [] s = some (.ref (ka i)) ∧ SE (ka i) (va i) (sn i) (sb i) A s s.heap := by
  have h0 : ∀ i : Nat, ∃ q : Nat × Nat, i < 65 → (tmS i).eval args s none [] s = some (.ref q.1) ∧ SE q.1 q.2 (sn i) (sb i) A s s.heap := by
    intro i
    by_cases hi : i < 65
    · have hw : ∀ w ∈ atS i, w.before args s = true := fun w hw => hs w (atS_in hi w hw)
      have m0 := hw (.exactly (tmS i) "java/lang/String") (List.mem_append_left _ List.mem_cons_self)
      have m1 := hw (.eq (.field (tmS i) "java/lang/String" "coder" "B") (.int 0)) (List.mem_append_left _ (List.mem_cons_of_mem _ List.mem_cons_self))
      have m2 := hw (.arrayOf (fvS i) .byte) (List.mem_append_left _ (List.mem_cons_of_mem _ (List.mem_cons_of_mem _ List.mem_cons_self)))
      have m3 := hw (.eq (.length (fvS i)) (.int (Int32.ofNat (sn i)))) (List.mem_append_left _ (List.mem_cons_of_mem _ (List.mem_cons_of_mem _ (List.mem_cons_of_mem _ List.mem_cons_self))))
      have m4 : ∀ j : Nat, j < sn i → (Cond.eq (.elem (fvS i) (.int (Int32.ofNat j))) (.int (sb i j))).before args s = true := fun j hj => hw _ (List.mem_append_right _ (List.mem_map.mpr ⟨j, List.mem_range.mpr hj, rfl⟩))
      obtain ⟨a, c, cA, kA, q1, q2, q3, q4, q5, q6, -⟩ := Cond.exactly_spec (args := args) (first := s) (o := none) (s := s) (idx := []) (t := tmS i) (cls := "java/lang/String") m0
      obtain ⟨t, ht, hT⟩ := va_Tof (f := fun j => .int (sb i j)) (A := A) (sn_small i hi) m2 (va_eqt m3) (fun j hj => va_eqt (m4 j hj)) hA
      exact ⟨(a, t), fun _ => ⟨q1, ⟨cA, q3, q5, by rw [q6]; exact q2, hA a (Array.getElem?_eq_some_iff.mp q3).1⟩, vk_OFof q1 (va_eqt m1) hA, vk_OFof q1 ht hA, hT⟩⟩
    · exact ⟨(0, 0), fun h => absurd h hi⟩
  obtain ⟨ad, had⟩ := Classical.axiomOfChoice h0
  exact ⟨fun i => (ad i).1, fun i => (ad i).2, fun i hi => had i hi⟩
theorem sta_ex {args : Array Value} {s : State} {A : Nat → Prop} {nm : String} {n : Nat} {k : Nat → Int32} (hs : ∀ w ∈ nfl, w.before args s = true) (hin : subq (atT nm n k) nfl = true) (hl : (Cond.laysStatic "TunnelLeggers" nm "[I").before args s = true) (hini : (Cond.initialized "TunnelLeggers").before args s = true) (hn : n < 2 ^ 31) (hA : ∀ a : Nat, a < s.heap.size → ¬ A a) : ∃ t : Nat, va_Z "TunnelLeggers" nm "[I" (.ref t) A s s.heap ∧ va_T .int t n (fun j => .int (k j)) A s s.heap := by
  have hw : ∀ w ∈ atT nm n k, w.before args s = true := fun w hw => hs w (subq_mem _ _ hin w hw)
  have m2 := hw (.arrayOf (tmT nm) .int) (List.mem_append_left _ List.mem_cons_self)
  have m3 := hw (.eq (.length (tmT nm)) (.int (Int32.ofNat n))) (List.mem_append_left _ (List.mem_cons_of_mem _ List.mem_cons_self))
  have m4 : ∀ j : Nat, j < n → (Cond.eq (.elem (tmT nm) (.int (Int32.ofNat j))) (.int (k j))).before args s = true := fun j hj => hw _ (List.mem_append_right _ (List.mem_map.mpr ⟨j, List.mem_range.mpr hj, rfl⟩))
  obtain ⟨t, ht, hT⟩ := va_Tof (f := fun j => .int (k j)) (A := A) hn m2 (va_eqt m3) (fun j hj => va_eqt (m4 j hj)) hA
  exact ⟨t, va_Zof hl hini ht hA, hT⟩
theorem wor_ex {args : Array Value} {s : State} {A : Nat → Prop} {ka : Nat → Nat} (hs : ∀ w ∈ nfl, w.before args s = true) (hl : (Cond.laysStatic "TunnelLeggersModel" "WORDS" "[Ljava/lang/String;").before args s = true) (hini : (Cond.initialized "TunnelLeggersModel").before args s = true) (hka : ∀ i, i < 65 → (tmS i).eval args s none [] s = some (.ref (ka i))) (hA : ∀ a : Nat, a < s.heap.size → ¬ A a) : ∃ t : Nat, va_Z "TunnelLeggersModel" "WORDS" "[Ljava/lang/String;" (.ref t) A s s.heap ∧ va_T (.object "java/lang/String") t 32 (fun j => .ref (ka j)) A s s.heap := by
  have hw : ∀ w ∈ atW, w.before args s = true := fun w hw => hs w (subq_mem _ _ atW_ok w hw)
  have m2 := hw (.arrayOf tmW (.object "java/lang/String")) (List.mem_append_left _ List.mem_cons_self)
  have m3 := hw (.eq (.length tmW) (.int (Int32.ofNat 32))) (List.mem_append_left _ (List.mem_cons_of_mem _ List.mem_cons_self))
  have m4 : ∀ j : Nat, j < 32 → (Cond.eq (.elem tmW (.int (Int32.ofNat j))) (tmS j)).before args s = true := fun j hj => hw _ (List.mem_append_right _ (List.mem_map.mpr ⟨j, List.mem_range.mpr hj, rfl⟩))
  obtain ⟨t, ht, hT⟩ := va_Tof (f := fun j => .ref (ka j)) (A := A) (by decide) m2 (va_eqt m3) (fun j hj => va_eqv (m4 j hj) (hka j (by omega))) hA
  exact ⟨t, va_Zof hl hini ht hA, hT⟩
theorem va_T.cong {ty : FieldType} {t N : Nat} {f g : Nat → Value} {A : Nat → Prop} {U : State} {H : Heap} (h : va_T ty t N f A U H) (e : ∀ j, j < N → g j = f j) : va_T ty t N g A U H := by
  obtain ⟨cell, h1, h2, h3, h4, h5, h6, h7⟩ := h
  exact ⟨cell, h1, h2, h3, h4, h5, fun j hj => by rw [e j hj]; exact h6 j hj, h7⟩
def enW : List Cond := [Cond.laysStatic "java/lang/String" "COMPACT_STRINGS" "Z", Cond.laysStatic "jdk/internal/util/Preconditions" "SIOOBE_FORMATTER" "Ljava/util/function/BiFunction;", Cond.laysStatic "TunnelLeggers" "BORE_LINE" "[I", Cond.laysStatic "TunnelLeggers" "SHAFT_LINE" "[I", Cond.laysStatic "TunnelLeggers" "LEGGER_LINE" "[I", Cond.laysStatic "TunnelLeggers" "BOAT_LINE" "[I", Cond.laysStatic "TunnelLeggers" "WHISTLE_HEAD" "[I", Cond.laysStatic "TunnelLeggers" "REST_HEAD" "[I", Cond.laysStatic "TunnelLeggersModel" "WORDS" "[Ljava/lang/String;", Cond.laysStatic "java/lang/Throwable" "UNASSIGNED_STACK" "[Ljava/lang/StackTraceElement;", Cond.laysStatic "java/lang/Throwable" "SUPPRESSED_SENTINEL" "Ljava/util/List;", Cond.initialized "java/lang/String", Cond.initialized "jdk/internal/util/Preconditions", Cond.initialized "TunnelLeggers", Cond.initialized "TunnelLeggersModel", Cond.initialized "java/lang/Throwable"]
theorem enW_in : ∀ w ∈ enW, w ∈ lw_tbl := in_tb [181, 198, 640, 680, 690, 700, 710, 773, 1516, 859, 861, 128, 130, 125, 135, 138] (by decide +kernel)
theorem srW_in : ∀ i, i < 33 → Cond.stringRef (LDCat i).1 (LDCat i).2.1 (LDCat i).2.2 ∈ lw_tbl := by
  have h := in_tb (ws := (List.range 33).map (fun i => Cond.stringRef (LDCat i).1 (LDCat i).2.1 (LDCat i).2.2)) [1519, 167, 236, 237, 238, 239, 240, 241, 242, 243, 244, 245, 246, 247, 248, 249, 250, 251, 252, 253, 254, 255, 256, 257, 258, 259, 260, 261, 262, 263, 264, 265, 266] (by decide +kernel)
  exact fun i hi => h _ (List.mem_map.mpr ⟨i, List.mem_range.mpr hi, rfl⟩)
theorem xrW_in : ∀ i, i < 13 → Cond.stringRef RX5 (XSat i).1 (XSat i).2 ∈ lw_tbl := by
  have h := in_tb (ws := (List.range 13).map (fun i => Cond.stringRef RX5 (XSat i).1 (XSat i).2)) [965, 993, 873, 915, 924, 938, 943, 1088, 1103, 1104, 1201, 906, 1119] (by decide +kernel)
  exact fun i hi => h _ (List.mem_map.mpr ⟨i, List.mem_range.mpr hi, rfl⟩)
def ordX : List Nat := [111, 255, 135, 149, 169, 192, 48, 59, 204, 210, 212, 257, 227]
theorem ordX_all : ∀ i, i < 13 → (XSat i).1 ∈ ordX := by decide +kernel
theorem atX_ok : subq (ordX.map (fun k => Cond.exactly (.string "TunnelLeggers" k) "java/lang/String")) nfl = true := by decide +kernel
theorem ldS : ∀ i, i < 33 → STM.getD (32 + i) ("", 0) = ((LDCat i).1, (LDCat i).2.1) := by decide +kernel
def rxE (ka va st xs : Nat → Nat) : Nat → Nat := fun j => if j < 65 then ka j else if j < 165 then va (j - 100) else if j < 207 then st (j - 200) else xs (j - 300)
theorem rx_ex {args : Array Value} {s : State} {A : Nat → Prop} (hts : ∀ w ∈ lw_tbl, w.before args s = true) (hs : ∀ w ∈ nfl, w.before args s = true) (hA : ∀ a : Nat, a < s.heap.size → ¬ A a) : ∃ rx : Nat → Nat, RXD rx A s s.heap := by
  have hen : ∀ w ∈ enW, w.before args s = true := fun w hw => hts w (enW_in w hw)
  obtain ⟨ka, va, hka⟩ := str_ex hs hA
  obtain ⟨t0, z0, y0⟩ := sta_ex (A := A) hs at_BORE_LINE (hen _ (by decide +kernel)) (hen _ (by decide +kernel)) (by decide) hA
  obtain ⟨t1, z1, y1⟩ := sta_ex (A := A) hs at_SHAFT_LINE (hen _ (by decide +kernel)) (hen _ (by decide +kernel)) (by decide) hA
  obtain ⟨t2, z2, y2⟩ := sta_ex (A := A) hs at_LEGGER_LINE (hen _ (by decide +kernel)) (hen _ (by decide +kernel)) (by decide) hA
  obtain ⟨t3, z3, y3⟩ := sta_ex (A := A) hs at_BOAT_LINE (hen _ (by decide +kernel)) (hen _ (by decide +kernel)) (by decide) hA
  obtain ⟨t4, z4, y4⟩ := sta_ex (A := A) hs at_WHISTLE_HEAD (hen _ (by decide +kernel)) (hen _ (by decide +kernel)) (by decide) hA
  obtain ⟨t5, z5, y5⟩ := sta_ex (A := A) hs at_REST_HEAD (hen _ (by decide +kernel)) (hen _ (by decide +kernel)) (by decide) hA
  obtain ⟨t6, z6, y6⟩ := wor_ex (A := A) hs (hen _ (by decide +kernel)) (hen _ (by decide +kernel)) (fun i hi => (hka i hi).1) hA
  have hx0 : ∀ i : Nat, ∃ a : Nat, i < 13 → vk_R RX5 (XSat i).1 (XSat i).2 a s := by
    intro i
    by_cases hi : i < 13
    · have m0 := hs _ (subq_mem _ _ atX_ok _ (List.mem_map.mpr ⟨(XSat i).1, ordX_all i hi, rfl⟩))
      obtain ⟨a, c, cA, kA, q1, -⟩ := Cond.exactly_spec (args := args) (first := s) (o := none) (s := s) (idx := []) (t := .string "TunnelLeggers" (XSat i).1) (cls := "java/lang/String") m0
      exact ⟨a, fun _ => vk_R.of (hts _ (xrW_in i hi)) q1⟩
    · exact ⟨0, fun h => absurd h hi⟩
  obtain ⟨xs, hxs⟩ := Classical.axiomOfChoice hx0
  obtain ⟨st, hst⟩ : ∃ st : Nat → Nat, st = fun j => if j = 0 then t0 else if j = 1 then t1 else if j = 2 then t2 else if j = 3 then t3 else if j = 4 then t4 else if j = 5 then t5 else t6 := ⟨_, rfl⟩
  have r1 : ∀ i, i < 65 → rxE ka va st xs i = ka i := fun i hi => if_pos hi
  have r2 : ∀ i, i < 65 → rxE ka va st xs (100 + i) = va i := fun i hi => by
    unfold rxE
    rw [if_neg (by omega), if_pos (by omega)]
    congr 1
    omega
  have r3 : ∀ i, rxE ka va st xs (300 + i) = xs i := fun i => by
    unfold rxE
    rw [if_neg (by omega), if_neg (by omega), if_neg (by omega), show 300 + i - 300 = i by omega]
  have s0 : rxE ka va st xs 200 = t0 := by rw [hst]; rfl
  have s1 : rxE ka va st xs 201 = t1 := by rw [hst]; rfl
  have s2 : rxE ka va st xs 202 = t2 := by rw [hst]; rfl
  have s3 : rxE ka va st xs 203 = t3 := by rw [hst]; rfl
  have s4 : rxE ka va st xs 204 = t4 := by rw [hst]; rfl
  have s5 : rxE ka va st xs 205 = t5 := by rw [hst]; rfl
  have s6 : rxE ka va st xs 206 = t6 := by rw [hst]; rfl
  refine ⟨rxE ka va st xs, ⟨⟨va_Zof (hen _ (by decide +kernel)) (hen _ (by decide +kernel)) (va_eqi (hs _ (by decide +kernel))) hA, va_Zqof (hen _ (by decide +kernel)) (hen _ (by decide +kernel)) (hs _ (by decide +kernel)) hA⟩, fun i hi => ?_, fun i hi => ?_, ?_, ?_, ?_, ?_, ?_, ?_, ?_, ?_, ?_, ?_, ?_, ?_, ?_, ?_⟩, fun i hi => ?_, ?_, ?_, ?_, ?_⟩
  · rw [r1 i hi, r2 i hi]
    exact (hka i hi).2
  · rw [r1 (32 + i) (by omega)]
    refine vk_R.of (hts _ (srW_in i hi)) ?_
    have h := (hka (32 + i) (by omega)).1
    unfold tmS at h
    rw [ldS i hi] at h
    exact h
  · rw [s6]
    exact z6
  · rw [s6]
    exact y6.cong (fun j hj => by rw [r1 j (by omega)])
  · rw [s0]
    exact z0
  · rw [s1]
    exact z1
  · rw [s2]
    exact z2
  · rw [s3]
    exact z3
  · rw [s4]
    exact z4
  · rw [s5]
    exact z5
  · rw [s0]
    exact y0
  · rw [s1]
    exact y1
  · rw [s2]
    exact y2
  · rw [s3]
    exact y3
  · rw [s4]
    exact y4
  · rw [s5]
    exact y5
  · rw [r3 i]
    exact hxs i hi
  · exact vx_Zqof (hen _ (by decide +kernel)) (hen _ (by decide +kernel)) (hs _ (by decide +kernel)) hA
  · exact vx_Zqof (hen _ (by decide +kernel)) (hen _ (by decide +kernel)) (hs _ (by decide +kernel)) hA
  · intro w hw
    have h1 := (List.mem_filter.mp hw).2
    have h2 := hts w (List.mem_filter.mp hw).1
    cases w <;> first | exact va_Nw.of rfl h2 | exact absurd h1 (by simp [isXw])
  · exact ⟨va_Nc.of (hs _ (by decide +kernel)), va_Nc.of (hs _ (by decide +kernel)), va_Nc.of (hs _ (by decide +kernel)), va_Nc.of (hs _ (by decide +kernel))⟩
theorem nw_ex {args : Array Value} {s : State} (hts : ∀ w ∈ lw_tbl, w.before args s = true) : NW s := by
  intro w hw
  have h1 := (List.mem_filter.mp hw).2
  have h2 := hts w (List.mem_filter.mp hw).1
  cases w <;> first | exact va_Nw.of rfl h2 | (rename_i t; have e : t = FieldType.array .int := of_decide_eq_true h1; subst e; first | exact va_Nw.of rfl h2 | exact h2) | (exact absurd h1 (by simp [isNest]))
theorem k_ex {args : Array Value} {s : State} (hts : ∀ w ∈ lw_tbl, w.before args s = true) : ∃ (D : va_G) (Z : Nat → ClassId), va_K D vwCl (tysG Z) s := by
  have hg : ∀ w ∈ lw_g, w.before args s = true := fun w hw => hts w (List.mem_filter.mp hw).1
  obtain ⟨c0, i0, k0⟩ := u_known (ws := lw_g) (C := RX0) (T := TX0) (N := 8) (n := 8) hg fi_X0 (hts _ (in_tb [305] (ws := [Cond.instantiable RX0 8]) (by decide +kernel) _ List.mem_cons_self))
  obtain ⟨c1, i1, k1⟩ := u_known (ws := lw_g) (C := RX1) (T := TX1) (N := 19) (n := 19) hg fi_X1 (hts _ (in_tb [299] (ws := [Cond.instantiable RX1 19]) (by decide +kernel) _ List.mem_cons_self))
  obtain ⟨c2, i2, k2⟩ := u_known (ws := lw_g) (C := RX2) (T := TX2) (N := 10) (n := 10) hg fi_X2 (hts _ (in_tb [156] (ws := [Cond.instantiable RX2 10]) (by decide +kernel) _ List.mem_cons_self))
  obtain ⟨c3, i3, k3⟩ := u_known (ws := lw_g) (C := RX3) (T := TX3) (N := 8) (n := 8) hg fi_X3 (hts _ (in_tb [162] (ws := [Cond.instantiable RX3 8]) (by decide +kernel) _ List.mem_cons_self))
  obtain ⟨c4, i4, k4⟩ := u_known (ws := lw_g) (C := RX4) (T := TX4) (N := 15) (n := 15) hg fi_X4 (hts _ (in_tb [477] (ws := [Cond.instantiable RX4 15]) (by decide +kernel) _ List.mem_cons_self))
  obtain ⟨c5, i5, k5⟩ := u_known (ws := lw_g) (C := RX5) (T := TX5) (N := 7) (n := 7) hg fi_X5 (hts _ (in_tb [148] (ws := [Cond.instantiable RX5 7]) (by decide +kernel) _ List.mem_cons_self))
  obtain ⟨c6, i6, k6⟩ := u_known (ws := lw_g) (C := RX6) (T := TX6) (N := 27) (n := 27) hg fi_X6 (hts _ (in_tb [1223] (ws := [Cond.instantiable RX6 27]) (by decide +kernel) _ List.mem_cons_self))
  obtain ⟨c7, i7, k7⟩ := u_known (ws := lw_g) (C := RX7) (T := TX7) (N := 15) (n := 15) hg fi_X7 (hts _ (in_tb [1351] (ws := [Cond.instantiable RX7 15]) (by decide +kernel) _ List.mem_cons_self))
  obtain ⟨c8, i8, k8⟩ := u_known (ws := lw_g) (C := RX8) (T := TX8) (N := 15) (n := 15) hg fi_X8 (hts _ (in_tb [1217] (ws := [Cond.instantiable RX8 15]) (by decide +kernel) _ List.mem_cons_self))
  obtain ⟨z_int, a_int, p_int, f_int, g_int, h_int⟩ := Cond.arrayClass_spec (hts _ (in_tb [297] (ws := [Cond.arrayClass .int]) (by decide +kernel) _ List.mem_cons_self))
  obtain ⟨z_long, a_long, p_long, f_long, g_long, h_long⟩ := Cond.arrayClass_spec (hts _ (in_tb [296] (ws := [Cond.arrayClass .long]) (by decide +kernel) _ List.mem_cons_self))
  obtain ⟨z_byte, a_byte, p_byte, f_byte, g_byte, h_byte⟩ := Cond.arrayClass_spec (hts _ (in_tb [295] (ws := [Cond.arrayClass .byte]) (by decide +kernel) _ List.mem_cons_self))
  obtain ⟨p_a, z_a, a_a, -, g_a, h_a, f_a⟩ := Cond.arrayOver_specA (t := .int) (hts _ (in_tb [1229] (ws := [Cond.arrayOver (.array .int)]) (by decide +kernel) _ List.mem_cons_self))
  refine ⟨(fun c => match c with | 0 => c0 | 1 => c1 | 2 => c2 | 3 => c3 | 4 => c4 | 5 => c5 | 6 => c6 | 7 => c7 | _ => c8, fun c => match c with | 0 => i0 | 1 => i1 | 2 => i2 | 3 => i3 | 4 => i4 | 5 => i5 | 6 => i6 | 7 => i7 | _ => i8), fun k => match k with | 0 => z_int | 1 => z_long | 2 => z_byte | _ => z_a, fun c q hq => ?_, fun k q hk => ?_⟩
  · have hc : c < 9 := (List.getElem?_eq_some_iff.mp hq).1
    have hcc : c = 0 ∨ c = 1 ∨ c = 2 ∨ c = 3 ∨ c = 4 ∨ c = 5 ∨ c = 6 ∨ c = 7 ∨ c = 8 := by omega
    rcases hcc with rfl | rfl | rfl | rfl | rfl | rfl | rfl | rfl | rfl
    · have e : (RX0, TX0, 8) = q := Option.some.inj hq
      subst e
      exact k0
    · have e : (RX1, TX1, 19) = q := Option.some.inj hq
      subst e
      exact k1
    · have e : (RX2, TX2, 10) = q := Option.some.inj hq
      subst e
      exact k2
    · have e : (RX3, TX3, 8) = q := Option.some.inj hq
      subst e
      exact k3
    · have e : (RX4, TX4, 15) = q := Option.some.inj hq
      subst e
      exact k4
    · have e : (RX5, TX5, 7) = q := Option.some.inj hq
      subst e
      exact k5
    · have e : (RX6, TX6, 27) = q := Option.some.inj hq
      subst e
      exact k6
    · have e : (RX7, TX7, 15) = q := Option.some.inj hq
      subst e
      exact k7
    · have e : (RX8, TX8, 15) = q := Option.some.inj hq
      subst e
      exact k8
  · have hc : k < 4 := (List.getElem?_eq_some_iff.mp hk).1
    have hcc : k = 0 ∨ k = 1 ∨ k = 2 ∨ k = 3 := by omega
    rcases hcc with rfl | rfl | rfl | rfl
    · have e : (z_int, (.int : FieldType)) = q := Option.some.inj hk
      subst e
      exact ⟨fun n z => ⟨(fun k h => by cases h), a_int, g_int, p_int, h_int⟩, f_int⟩
    · have e : (z_long, (.long : FieldType)) = q := Option.some.inj hk
      subst e
      exact ⟨fun n z => ⟨(fun k h => by cases h), a_long, g_long, p_long, h_long⟩, f_long⟩
    · have e : (z_byte, (.byte : FieldType)) = q := Option.some.inj hk
      subst e
      exact ⟨fun n z => ⟨(fun k h => by cases h), a_byte, g_byte, p_byte, h_byte⟩, f_byte⟩
    · have e : (z_a, (.array .int : FieldType)) = q := Option.some.inj hk
      subst e
      exact ⟨fun n z => ⟨(fun k h => by cases h), a_a, g_a, p_a, h_a⟩, f_a⟩
end ENTRY
