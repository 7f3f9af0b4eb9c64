/-! ===== the riders at the law's entry ===== -/
section ENTRYR
theorem ordX_all : ∀ i, i < 13 → (XSat i).1 ∈ ordX := by decide +kernel
theorem atX_ok : subq (ordX.map (fun k => Cond.exactly (.string "TunnelLeggers" k) "java/lang/String")) nfl = true := by decide +kernel
theorem ldS : ∀ i, i < 32 → STM.getD i ("", 0) = ((LDCat i).1, (LDCat i).2.1) := by decide +kernel
theorem ldL : ∀ i, i < 43 → STM.getD (32 + i) ("", 0) = ("TunnelLeggersLaw", (LLDat i).1) := by decide +kernel
def wi (i : Nat) : Nat := if i < 32 then i else if i = 32 then 0 else i - 33
theorem wi_ok : ∀ i, i < 65 → wi i < 32 ∧ sbs.getD (33 + wi i) [] = sbs.getD i [] := by decide +kernel
def rxE (ka va st xs : Nat → Nat) : Nat → Nat := fun j => if j < 65 then ka (wi j) else if j < 165 then va (wi (j - 100)) else if j < 209 then st (j - 200) else if j < 500 then xs (j - 300) else if j < 543 then ka (32 + (j - 500)) else va (32 + (j - 600))
theorem rx_ex {args : Array Value} {s : State} {A : Nat → Prop} (hSel : SELP s) (hNC : XNC s) (hts : ∀ w ∈ lw_tbl, w.before args s = true) (hs : ∀ w ∈ nfl, w.before args s = true) (hA : ∀ a : Nat, a < s.heap.size → ¬ A a) : ∃ rx : Nat → Nat, RXD rx A s s.heap := by
  have hen : ∀ w ∈ enW, w.before args s = true := fun w hw => hts w (enW_in w hw)
  obtain ⟨ka, va, hka⟩ := str_ex hs hA
  obtain ⟨t0, z0, y0⟩ := sta_ex (A := A) hs at_BORE_LINE (hen _ (by decide +kernel)) (hen _ (by decide +kernel)) (by decide) hA
  obtain ⟨t1, z1, y1⟩ := sta_ex (A := A) hs at_SHAFT_LINE (hen _ (by decide +kernel)) (hen _ (by decide +kernel)) (by decide) hA
  obtain ⟨t2, z2, y2⟩ := sta_ex (A := A) hs at_LEGGER_LINE (hen _ (by decide +kernel)) (hen _ (by decide +kernel)) (by decide) hA
  obtain ⟨t3, z3, y3⟩ := sta_ex (A := A) hs at_BOAT_LINE (hen _ (by decide +kernel)) (hen _ (by decide +kernel)) (by decide) hA
  obtain ⟨t4, z4, y4⟩ := sta_ex (A := A) hs at_WHISTLE_HEAD (hen _ (by decide +kernel)) (hen _ (by decide +kernel)) (by decide) hA
  obtain ⟨t5, z5, y5⟩ := sta_ex (A := A) hs at_REST_HEAD (hen _ (by decide +kernel)) (hen _ (by decide +kernel)) (by decide) hA
  obtain ⟨t7, z7, y7⟩ := sta_ex (A := A) hs at_DigitOnes (hen _ (by decide +kernel)) (hen _ (by decide +kernel)) (by decide) hA
  obtain ⟨t8, z8, y8⟩ := sta_ex (A := A) hs at_DigitTens (hen _ (by decide +kernel)) (hen _ (by decide +kernel)) (by decide) hA
  have hx0 : ∀ i : Nat, ∃ a : Nat, i < 13 → vk_R RX5 (XSat i).1 (XSat i).2 a s := by
    intro i
    by_cases hi : i < 13
    · have m0 := hs _ (subq_mem _ _ atX_ok _ (List.mem_map.mpr ⟨(XSat i).1, ordX_all i hi, rfl⟩))
      obtain ⟨a, c, cA, kA, q1, -⟩ := Cond.exactly_spec (args := args) (first := s) (o := none) (s := s) (idx := []) (t := .string "TunnelLeggers" (XSat i).1) (cls := "java/lang/String") m0
      exact ⟨a, fun _ => vk_R.of (hts _ (xrW_in i hi)) q1⟩
    · exact ⟨0, fun h => absurd h hi⟩
  obtain ⟨xs, hxs⟩ := Classical.axiomOfChoice hx0
  obtain ⟨st, hst⟩ : ∃ st : Nat → Nat, st = fun j => if j = 0 then t0 else if j = 1 then t1 else if j = 2 then t2 else if j = 3 then t3 else if j = 4 then t4 else if j = 5 then t5 else if j = 7 then t7 else t8 := ⟨_, rfl⟩
  have r1 : ∀ i, i < 65 → rxE ka va st xs i = ka (wi i) := fun i hi => if_pos hi
  have r2 : ∀ i, i < 65 → rxE ka va st xs (100 + i) = va (wi i) := fun i hi => by
    unfold rxE
    rw [if_neg (by omega), if_pos (by omega), Nat.add_sub_cancel_left]
  have r3 : ∀ i, i < 100 → rxE ka va st xs (300 + i) = xs i := fun i hi => by
    unfold rxE
    rw [if_neg (by omega), if_neg (by omega), if_neg (by omega), if_pos (by omega), Nat.add_sub_cancel_left]
  have r5 : ∀ i, i < 43 → rxE ka va st xs (500 + i) = ka (32 + i) := fun i hi => by
    unfold rxE
    rw [if_neg (by omega), if_neg (by omega), if_neg (by omega), if_neg (by omega), if_pos (by omega), Nat.add_sub_cancel_left]
  have r6 : ∀ i, i < 43 → rxE ka va st xs (600 + i) = va (32 + i) := fun i hi => by
    unfold rxE
    rw [if_neg (by omega), if_neg (by omega), if_neg (by omega), if_neg (by omega), if_neg (by omega), Nat.add_sub_cancel_left]
  have s0 : rxE ka va st xs 200 = t0 := by rw [hst]; rfl
  have s1 : rxE ka va st xs 201 = t1 := by rw [hst]; rfl
  have s2 : rxE ka va st xs 202 = t2 := by rw [hst]; rfl
  have s3 : rxE ka va st xs 203 = t3 := by rw [hst]; rfl
  have s4 : rxE ka va st xs 204 = t4 := by rw [hst]; rfl
  have s5 : rxE ka va st xs 205 = t5 := by rw [hst]; rfl
  have s7 : rxE ka va st xs 207 = t7 := by rw [hst]; rfl
  have s8 : rxE ka va st xs 208 = t8 := by rw [hst]; rfl
  have w1 : ∀ i, i < 65 → snE (wi i) = sn i ∧ sbE (wi i) = sb i := fun i hi => by
    obtain ⟨a, b⟩ := wi_ok i hi
    refine ⟨?_, funext fun j => ?_⟩
    · unfold snE sn
      rw [if_pos a, b]
    · unfold sbE sb
      rw [if_pos a, b]
  have w2 : ∀ i, snE (32 + i) = lsn i ∧ sbE (32 + i) = lsb i := fun i => by
    refine ⟨?_, ?_⟩
    · unfold snE
      rw [if_neg (by omega), Nat.add_sub_cancel_left]
    · unfold sbE
      rw [if_neg (by omega), Nat.add_sub_cancel_left]
  refine ⟨rxE ka va st xs, ⟨⟨va_Zof (hen _ (by decide +kernel)) (hen _ (by decide +kernel)) (va_eqi (hs _ (by decide +kernel))) hA, va_Zqof (hen _ (by decide +kernel)) (hen _ (by decide +kernel)) (hs _ (by decide +kernel)) hA⟩, fun i hi => ?_, fun i hi => ?_, fun i hi => ?_, fun i hi => ?_, ?_, ?_, ?_, ?_, ?_, ?_, ?_, ?_, ?_, ?_, ?_, ?_, ?_, ?_, ?_, ?_, hSel⟩, fun i hi => ?_, ?_, ?_, ?_, ?_⟩
  · rw [r1 i hi, r2 i hi, ← (w1 i hi).1, ← (w1 i hi).2]
    exact (hka (wi i) (by have := (wi_ok i hi).1; omega)).2
  · have ew : wi (33 + i) = i := by
      unfold wi
      rw [if_neg (by omega), if_neg (by omega), Nat.add_sub_cancel_left]
    rw [r1 (33 + i) (by omega), ew]
    refine vk_R.of (hts _ (srW_in i hi)) ?_
    have h := (hka i (by omega)).1
    unfold tmS at h
    rw [ldS i hi] at h
    exact h
  · rw [r5 i hi, r6 i hi, ← (w2 i).1, ← (w2 i).2]
    exact (hka (32 + i) (by omega)).2
  · rw [r5 i hi]
    refine vk_R.of (hts _ (slW_in i hi)) ?_
    have h := (hka (32 + i) (by omega)).1
    unfold tmS at h
    rw [ldL i hi] at h
    exact h
  · rw [s0]; exact z0
  · rw [s1]; exact z1
  · rw [s2]; exact z2
  · rw [s3]; exact z3
  · rw [s4]; exact z4
  · rw [s5]; exact z5
  · rw [s0]; exact y0
  · rw [s1]; exact y1
  · rw [s2]; exact y2
  · rw [s3]; exact y3
  · rw [s4]; exact y4
  · rw [s5]; exact y5
  · rw [s7]; exact z7
  · rw [s8]; exact z8
  · rw [s7]; exact y7
  · rw [s8]; exact y8
  · rw [r3 i (by omega)]
    exact hxs i hi
  · exact vx_Zqof (hen _ (by decide +kernel)) (hen _ (by decide +kernel)) (hs _ (by decide +kernel)) hA
  · exact vx_Zqof (hen _ (by decide +kernel)) (hen _ (by decide +kernel)) (hs _ (by decide +kernel)) hA
  · intro w hw
    have h1 := (List.mem_filter.mp hw).2
    have h2 := hts w (List.mem_filter.mp hw).1
    cases w <;> first | exact va_Nw.of rfl h2 | exact absurd h1 (by simp [isXw])
  · exact hNC
theorem nw_ex {args : Array Value} {s : State} (hts : ∀ w ∈ lw_tbl, w.before args s = true) : NW s := by
  intro w hw
  have h1 := (List.mem_filter.mp hw).2
  have h2 := hts w (List.mem_filter.mp hw).1
  cases w <;> first | exact va_Nw.of rfl h2 | (rename_i t; have e : t = FieldType.array .int := of_decide_eq_true h1; subst e; first | exact va_Nw.of rfl h2 | exact h2) | (exact absurd h1 (by simp [isNest]))
end ENTRYR
