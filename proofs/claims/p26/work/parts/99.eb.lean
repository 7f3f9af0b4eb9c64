/-! ===== what holds at the law's entry ===== -/
section ENTRY
def nfl : List Cond := Jvm.Free.XT.flat (Jvm.Cond.and given_1 narrow_1)
def subq : List Cond → List Cond → Bool
  | [], _ => true
  | _ :: _, [] => false
  | x :: xs, y :: ys => if x = y then subq xs ys else subq (x :: xs) ys
theorem subq_mem : ∀ (xs ys : List Cond), subq xs ys = true → ∀ x ∈ xs, x ∈ ys
  | [], _, _, x, hx => nomatch hx
  | x :: xs, [], h, _, _ => by
    unfold subq at h
    exact Bool.noConfusion h
  | x :: xs, y :: ys, h, z, hz => by
    unfold subq at h
    split at h
    · rename_i e
      subst e
      rcases List.mem_cons.mp hz with e | e
      · subst e
        exact List.mem_cons_self
      · exact List.mem_cons_of_mem _ (subq_mem xs ys h z e)
    · exact List.mem_cons_of_mem _ (subq_mem (x :: xs) ys h z hz)
theorem in_tb {ws : List Cond} (ps : List Nat) (hp : ws = ps.filterMap (fun i => lw_tbl[i]?)) : ∀ w ∈ ws, w ∈ lw_tbl := by
  intro w hw
  rw [hp] at hw
  obtain ⟨i, -, hi⟩ := List.mem_filterMap.mp hw
  exact List.mem_of_getElem? hi
def STM : List (String × Nat) := [("TunnelLeggers$Tokens", 39), ("TunnelLeggers$Tokens", 45), ("TunnelLeggers$Tokens", 47), ("TunnelLeggers$Tokens", 49), ("TunnelLeggers$Tokens", 51), ("TunnelLeggers$Tokens", 53), ("TunnelLeggers$Tokens", 55), ("TunnelLeggers$Tokens", 57), ("TunnelLeggers$Tokens", 59), ("TunnelLeggers$Tokens", 61), ("TunnelLeggers$Tokens", 63), ("TunnelLeggers$Tokens", 65), ("TunnelLeggers$Tokens", 67), ("TunnelLeggers$Tokens", 69), ("TunnelLeggers$Tokens", 71), ("TunnelLeggers$Tokens", 73), ("TunnelLeggers$Tokens", 75), ("TunnelLeggers$Tokens", 77), ("TunnelLeggers$Tokens", 79), ("TunnelLeggers$Tokens", 81), ("TunnelLeggers$Tokens", 83), ("TunnelLeggers$Tokens", 85), ("TunnelLeggers$Tokens", 87), ("TunnelLeggers$Tokens", 89), ("TunnelLeggers$Tokens", 91), ("TunnelLeggers$Tokens", 93), ("TunnelLeggers$Tokens", 95), ("TunnelLeggers$Tokens", 97), ("TunnelLeggers$Tokens", 99), ("TunnelLeggers$Tokens", 101), ("TunnelLeggers$Tokens", 103), ("TunnelLeggers$Tokens", 105), ("TunnelLeggersLaw", 35), ("TunnelLeggersLaw", 54), ("TunnelLeggersLaw", 59), ("TunnelLeggersLaw", 61), ("TunnelLeggersLaw", 63), ("TunnelLeggersLaw", 65), ("TunnelLeggersLaw", 67), ("TunnelLeggersLaw", 69), ("TunnelLeggersLaw", 71), ("TunnelLeggersLaw", 73), ("TunnelLeggersLaw", 75), ("TunnelLeggersLaw", 77), ("TunnelLeggersLaw", 79), ("TunnelLeggersLaw", 81), ("TunnelLeggersLaw", 83), ("TunnelLeggersLaw", 85), ("TunnelLeggersLaw", 87), ("TunnelLeggersLaw", 89), ("TunnelLeggersLaw", 91), ("TunnelLeggersLaw", 93), ("TunnelLeggersLaw", 111), ("TunnelLeggersLaw", 113), ("TunnelLeggersLaw", 115), ("TunnelLeggersLaw", 117), ("TunnelLeggersLaw", 125), ("TunnelLeggersLaw", 127), ("TunnelLeggersLaw", 129), ("TunnelLeggersLaw", 131), ("TunnelLeggersLaw", 133), ("TunnelLeggersLaw", 135), ("TunnelLeggersLaw", 137), ("TunnelLeggersLaw", 139), ("TunnelLeggersLaw", 141), ("TunnelLeggersLaw", 143), ("TunnelLeggersLaw", 145), ("TunnelLeggersLaw", 147), ("TunnelLeggersLaw", 149), ("TunnelLeggersLaw", 151), ("TunnelLeggersLaw", 153), ("TunnelLeggersLaw", 158), ("TunnelLeggersLaw", 160), ("TunnelLeggersLaw", 162), ("TunnelLeggersLaw", 164)]
def snE (i : Nat) : Nat := if i < 32 then sn (33 + i) else lsn (i - 32)
def sbE (i : Nat) : Nat → Int32 := if i < 32 then sb (33 + i) else lsb (i - 32)
def tmS (i : Nat) : Term := .string (STM.getD i ("", 0)).1 (STM.getD i ("", 0)).2
def fvS (i : Nat) : Term := .field (tmS i) "java/lang/String" "value" "[B"
def atS (i : Nat) : List Cond := [.exactly (tmS i) "java/lang/String", .eq (.field (tmS i) "java/lang/String" "coder" "B") (.int 0), .arrayOf (fvS i) .byte, .eq (.length (fvS i)) (.int (Int32.ofNat (snE i)))] ++ (List.range (snE i)).map (fun j => .eq (.elem (fvS i) (.int (Int32.ofNat j))) (.int (sbE i j)))
def ordS : List Nat := [0, 1, 2, 3, 4, 5, 6, 7, 8, 9, 10, 11, 12, 13, 14, 15, 16, 17, 18, 19, 20, 21, 22, 23, 24, 25, 26, 27, 28, 29, 30, 31, 52, 53, 54, 55, 56, 57, 58, 59, 60, 61, 62, 63, 64, 65, 66, 67, 68, 69, 70, 71, 72, 73, 74, 32, 33, 34, 35, 36, 37, 38, 39, 40, 41, 42, 43, 44, 45, 46, 47, 48, 49, 50, 51]
theorem ordS_all : ∀ i, i < 75 → i ∈ ordS := by decide +kernel
theorem snE_small : ∀ i, i < 75 → snE i < 2 ^ 31 := by decide +kernel
theorem alS_ok : subq (ordS.flatMap atS) nfl = true := by decide +kernel
theorem atS_in {i : Nat} (hi : i < 75) : ∀ w ∈ atS i, w ∈ nfl := fun w hw => subq_mem _ _ alS_ok w (List.mem_flatMap.mpr ⟨i, ordS_all i hi, hw⟩)
def atT (cl nm ds : String) (ty : FieldType) (n : Nat) (k : Nat → Int32) : List Cond := [.arrayOf (.static cl nm ds) ty, .eq (.length (.static cl nm ds)) (.int (Int32.ofNat n))] ++ (List.range n).map (fun j => .eq (.elem (.static cl nm ds) (.int (Int32.ofNat j))) (.int (k j)))
theorem at_BORE_LINE : subq (atT "TunnelLeggers" "BORE_LINE" "[I" .int 6 kBORE_LINE) nfl = true := by decide +kernel
theorem at_SHAFT_LINE : subq (atT "TunnelLeggers" "SHAFT_LINE" "[I" .int 6 kSHAFT_LINE) nfl = true := by decide +kernel
theorem at_LEGGER_LINE : subq (atT "TunnelLeggers" "LEGGER_LINE" "[I" .int 6 kLEGGER_LINE) nfl = true := by decide +kernel
theorem at_BOAT_LINE : subq (atT "TunnelLeggers" "BOAT_LINE" "[I" .int 12 kBOAT_LINE) nfl = true := by decide +kernel
theorem at_WHISTLE_HEAD : subq (atT "TunnelLeggers" "WHISTLE_HEAD" "[I" .int 3 kWHISTLE_HEAD) nfl = true := by decide +kernel
theorem at_REST_HEAD : subq (atT "TunnelLeggers" "REST_HEAD" "[I" .int 3 kREST_HEAD) nfl = true := by decide +kernel
theorem at_DigitOnes : subq (atT "java/lang/Integer" "DigitOnes" "[B" .byte 100 kDigitOnes) nfl = true := by decide +kernel
theorem at_DigitTens : subq (atT "java/lang/Integer" "DigitTens" "[B" .byte 100 kDigitTens) nfl = true := by decide +kernel
theorem str_ex {args : Array Value} {s : State} {A : Nat → Prop} (hs : ∀ w ∈ nfl, w.before args s = true) (hA : ∀ a : Nat, a < s.heap.size → ¬ A a) : ∃ ka va : Nat → Nat, ∀ i, i < 75 → (tmS i).eval args s none [] s = some (.ref (ka i)) ∧ SE (ka i) (va i) (snE i) (sbE i) A s s.heap := by
  have h0 : ∀ i : Nat, ∃ q : Nat × Nat, i < 75 → (tmS i).eval args s none [] s = some (.ref q.1) ∧ SE q.1 q.2 (snE i) (sbE i) A s s.heap := by
    intro i
    by_cases hi : i < 75
    · have hw : ∀ w ∈ atS i, w.before args s = true := fun w hw => hs w (atS_in hi w hw)
      have m0 := hw (.exactly (tmS i) "java/lang/String") (List.mem_append_left _ List.mem_cons_self)
      have m1 := hw (.eq (.field (tmS i) "java/lang/String" "coder" "B") (.int 0)) (List.mem_append_left _ (List.mem_cons_of_mem _ List.mem_cons_self))
      have m2 := hw (.arrayOf (fvS i) .byte) (List.mem_append_left _ (List.mem_cons_of_mem _ (List.mem_cons_of_mem _ List.mem_cons_self)))
      have m3 := hw (.eq (.length (fvS i)) (.int (Int32.ofNat (snE i)))) (List.mem_append_left _ (List.mem_cons_of_mem _ (List.mem_cons_of_mem _ (List.mem_cons_of_mem _ List.mem_cons_self))))
      have m4 : ∀ j : Nat, j < snE i → (Cond.eq (.elem (fvS i) (.int (Int32.ofNat j))) (.int (sbE i j))).before args s = true := fun j hj => hw _ (List.mem_append_right _ (List.mem_map.mpr ⟨j, List.mem_range.mpr hj, rfl⟩))
      obtain ⟨a, c, cA, kA, q1, q2, q3, q4, q5, q6, -⟩ := Cond.exactly_spec (args := args) (first := s) (o := none) (s := s) (idx := []) (t := tmS i) (cls := "java/lang/String") m0
      obtain ⟨t, ht, hT⟩ := va_Tof (f := fun j => .int (sbE i j)) (A := A) (snE_small i hi) m2 (va_eqt m3) (fun j hj => va_eqt (m4 j hj)) hA
      exact ⟨(a, t), fun _ => ⟨q1, ⟨cA, q3, q5, by rw [q6]; exact q2, hA a (Array.getElem?_eq_some_iff.mp q3).1⟩, vk_OFof q1 (va_eqt m1) hA, vk_OFof q1 ht hA, hT⟩⟩
    · exact ⟨(0, 0), fun h => absurd h hi⟩
  obtain ⟨ad, had⟩ := Classical.axiomOfChoice h0
  exact ⟨fun i => (ad i).1, fun i => (ad i).2, fun i hi => had i hi⟩
theorem sta_ex {args : Array Value} {s : State} {A : Nat → Prop} {cl nm ds : String} {ty : FieldType} {n : Nat} {k : Nat → Int32} (hs : ∀ w ∈ nfl, w.before args s = true) (hin : subq (atT cl nm ds ty n k) nfl = true) (hl : (Cond.laysStatic cl nm ds).before args s = true) (hini : (Cond.initialized cl).before args s = true) (hn : n < 2 ^ 31) (hA : ∀ a : Nat, a < s.heap.size → ¬ A a) : ∃ t : Nat, va_Z cl nm ds (.ref t) A s s.heap ∧ va_T ty t n (fun j => .int (k j)) A s s.heap := by
  have hw : ∀ w ∈ atT cl nm ds ty n k, w.before args s = true := fun w hw => hs w (subq_mem _ _ hin w hw)
  have m2 := hw (.arrayOf (.static cl nm ds) ty) (List.mem_append_left _ List.mem_cons_self)
  have m3 := hw (.eq (.length (.static cl nm ds)) (.int (Int32.ofNat n))) (List.mem_append_left _ (List.mem_cons_of_mem _ List.mem_cons_self))
  have m4 : ∀ j : Nat, j < n → (Cond.eq (.elem (.static cl nm ds) (.int (Int32.ofNat j))) (.int (k j))).before args s = true := fun j hj => hw _ (List.mem_append_right _ (List.mem_map.mpr ⟨j, List.mem_range.mpr hj, rfl⟩))
  obtain ⟨t, ht, hT⟩ := va_Tof (f := fun j => .int (k j)) (A := A) hn m2 (va_eqt m3) (fun j hj => va_eqt (m4 j hj)) hA
  exact ⟨t, va_Zof hl hini ht hA, hT⟩
def enW : List Cond := [Cond.laysStatic "java/lang/String" "COMPACT_STRINGS" "Z", Cond.laysStatic "jdk/internal/util/Preconditions" "SIOOBE_FORMATTER" "Ljava/util/function/BiFunction;", Cond.laysStatic "TunnelLeggers" "BORE_LINE" "[I", Cond.laysStatic "TunnelLeggers" "SHAFT_LINE" "[I", Cond.laysStatic "TunnelLeggers" "LEGGER_LINE" "[I", Cond.laysStatic "TunnelLeggers" "BOAT_LINE" "[I", Cond.laysStatic "TunnelLeggers" "WHISTLE_HEAD" "[I", Cond.laysStatic "TunnelLeggers" "REST_HEAD" "[I", Cond.laysStatic "java/lang/Integer" "DigitOnes" "[B", Cond.laysStatic "java/lang/Integer" "DigitTens" "[B", Cond.laysStatic "java/lang/Throwable" "UNASSIGNED_STACK" "[Ljava/lang/StackTraceElement;", Cond.laysStatic "java/lang/Throwable" "SUPPRESSED_SENTINEL" "Ljava/util/List;", Cond.initialized "java/lang/String", Cond.initialized "jdk/internal/util/Preconditions", Cond.initialized "TunnelLeggers", Cond.initialized "java/lang/Integer", Cond.initialized "java/lang/Throwable"]
theorem enW_in : ∀ w ∈ enW, w ∈ lw_tbl := in_tb [124, 141, 1013, 1053, 1063, 1073, 1083, 1146, 1323, 1325, 557, 559, 67, 74, 78, 77, 84] (by decide +kernel)
theorem srW_in : ∀ i, i < 32 → Cond.stringRef (LDCat i).1 (LDCat i).2.1 (LDCat i).2.2 ∈ lw_tbl := by
  have h := in_tb (ws := (List.range 32).map (fun i => Cond.stringRef (LDCat i).1 (LDCat i).2.1 (LDCat i).2.2)) [110, 179, 180, 181, 182, 183, 184, 185, 186, 187, 188, 189, 190, 191, 192, 193, 194, 195, 196, 197, 198, 199, 200, 201, 202, 203, 204, 205, 206, 207, 208, 209] (by decide +kernel)
  exact fun i hi => h _ (List.mem_map.mpr ⟨i, List.mem_range.mpr hi, rfl⟩)
theorem slW_in : ∀ i, i < 43 → Cond.stringRef "TunnelLeggersLaw" (LLDat i).1 (LLDat i).2 ∈ lw_tbl := by
  have h := in_tb (ws := (List.range 43).map (fun i => Cond.stringRef "TunnelLeggersLaw" (LLDat i).1 (LLDat i).2)) [1437, 1438, 1439, 1440, 1441, 1442, 1443, 1444, 1445, 1446, 1447, 1448, 1449, 1450, 1451, 1452, 1453, 1454, 1455, 1456, 1202, 1334, 1335, 1336, 1337, 1338, 1339, 1340, 1341, 1342, 1343, 1344, 1345, 1346, 1347, 1348, 1349, 1350, 1351, 1352, 1353, 1375, 1433] (by decide +kernel)
  exact fun i hi => h _ (List.mem_map.mpr ⟨i, List.mem_range.mpr hi, rfl⟩)
theorem xrW_in : ∀ i, i < 13 → Cond.stringRef RX5 (XSat i).1 (XSat i).2 ∈ lw_tbl := by
  have h := in_tb (ws := (List.range 13).map (fun i => Cond.stringRef RX5 (XSat i).1 (XSat i).2)) [928, 912, 571, 614, 623, 637, 642, 1465, 1479, 1480, 807, 604, 721] (by decide +kernel)
  exact fun i hi => h _ (List.mem_map.mpr ⟨i, List.mem_range.mpr hi, rfl⟩)
def ordX : List Nat := [111, 255, 135, 149, 169, 192, 257, 227, 59, 48, 204, 210, 212]
end ENTRY
