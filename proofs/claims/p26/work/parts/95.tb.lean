/-! ===== the list's lines as tokens ===== -/
section LTX
variable {T : List Nat} {nl nb : Nat}
theorem lw_bore : LXc [98, 111, 114, 101] [(34, none)] (fun c => sg c = 0) := lx_word (K := 0) (by decide) (by decide) (by decide) (by decide) rfl (by decide +kernel) (by decide) (fun x hx => nomatch hx)
theorem lw_long : LXc [108, 111, 110, 103] [(35, none)] (fun c => sg c = 0) := lx_word (K := 1) (by decide) (by decide) (by decide) (by decide) rfl (by decide +kernel) (by decide) (fun x hx => nomatch hx)
theorem lw_low : LXc [108, 111, 119] [(36, none)] (fun c => sg c = 0) := lx_word (K := 2) (by decide) (by decide) (by decide) (by decide) rfl (by decide +kernel) (by decide) (fun x hx => nomatch hx)
theorem lw_shaft : LXc [115, 104, 97, 102, 116] [(37, none)] (fun c => sg c = 0) := lx_word (K := 3) (by decide) (by decide) (by decide) (by decide) rfl (by decide +kernel) (by decide) (fun x hx => nomatch hx)
theorem lw_at : LXc [97, 116] [(38, none)] (fun c => sg c = 0) := lx_word (K := 4) (by decide) (by decide) (by decide) (by decide) rfl (by decide +kernel) (by decide) (fun x hx => nomatch hx)
theorem lw_draught : LXc [100, 114, 97, 117, 103, 104, 116] [(39, none)] (fun c => sg c = 0) := lx_word (K := 5) (by decide) (by decide) (by decide) (by decide) rfl (by decide +kernel) (by decide) (fun x hx => nomatch hx)
theorem lw_legger : LXc [108, 101, 103, 103, 101, 114] [(40, none)] (fun c => sg c = 0) := lx_word (K := 6) (by decide) (by decide) (by decide) (by decide) rfl (by decide +kernel) (by decide) (fun x hx => nomatch hx)
theorem lw_strength : LXc [115, 116, 114, 101, 110, 103, 116, 104] [(41, none)] (fun c => sg c = 0) := lx_word (K := 7) (by decide) (by decide) (by decide) (by decide) rfl (by decide +kernel) (by decide) (fun x hx => nomatch hx)
theorem lw_lungs : LXc [108, 117, 110, 103, 115] [(42, none)] (fun c => sg c = 0) := lx_word (K := 8) (by decide) (by decide) (by decide) (by decide) rfl (by decide +kernel) (by decide) (fun x hx => nomatch hx)
theorem lw_boat : LXc [98, 111, 97, 116] [(43, none)] (fun c => sg c = 0) := lx_word (K := 9) (by decide) (by decide) (by decide) (by decide) rfl (by decide +kernel) (by decide) (fun x hx => nomatch hx)
theorem lw_weight : LXc [119, 101, 105, 103, 104, 116] [(44, none)] (fun c => sg c = 0) := lx_word (K := 10) (by decide) (by decide) (by decide) (by decide) rfl (by decide +kernel) (by decide) (fun x hx => nomatch hx)
theorem lw_from : LXc [102, 114, 111, 109] [(45, none)] (fun c => sg c = 0) := lx_word (K := 11) (by decide) (by decide) (by decide) (by decide) rfl (by decide +kernel) (by decide) (fun x hx => nomatch hx)
theorem lw_west : LXc [119, 101, 115, 116] [(3, some (Int64.ofNat 0))] (fun c => sg c = 0) := lx_word (K := 12) (by decide) (by decide) (by decide) (by decide) rfl (by decide +kernel) (by decide) (fun x hx => by rw [← Option.some.inj hx]; decide)
theorem lw_east : LXc [101, 97, 115, 116] [(3, some (Int64.ofNat 1))] (fun c => sg c = 0) := lx_word (K := 13) (by decide) (by decide) (by decide) (by decide) rfl (by decide +kernel) (by decide) (fun x hx => by rw [← Option.some.inj hx]; decide)
theorem lw_due : LXc [100, 117, 101] [(46, none)] (fun c => sg c = 0) := lx_word (K := 14) (by decide) (by decide) (by decide) (by decide) rfl (by decide +kernel) (by decide) (fun x hx => nomatch hx)
theorem lw_by : LXc [98, 121] [(47, none)] (fun c => sg c = 0) := lx_word (K := 15) (by decide) (by decide) (by decide) (by decide) rfl (by decide +kernel) (by decide) (fun x hx => nomatch hx)
theorem lw_and : LXc [97, 110, 100] [(24, none)] (fun c => sg c = 0) := lx_word (K := 16) (by decide) (by decide) (by decide) (by decide) rfl (by decide +kernel) (by decide) (fun x hx => nomatch hx)
theorem lw_whistle : LXc [119, 104, 105, 115, 116, 108, 101] [(48, none)] (fun c => sg c = 0) := lx_word (K := 17) (by decide) (by decide) (by decide) (by decide) rfl (by decide +kernel) (by decide) (fun x hx => nomatch hx)
theorem lw_rest : LXc [114, 101, 115, 116] [(49, none)] (fun c => sg c = 0) := lx_word (K := 18) (by decide) (by decide) (by decide) (by decide) rfl (by decide +kernel) (by decide) (fun x hx => nomatch hx)
theorem lw_when : LXc [119, 104, 101, 110] [(50, none)] (fun c => sg c = 0) := lx_word (K := 19) (by decide) (by decide) (by decide) (by decide) rfl (by decide +kernel) (by decide) (fun x hx => nomatch hx)
theorem lw_minute : LXc [109, 105, 110, 117, 116, 101] [(5, none)] (fun c => sg c = 0) := lx_word (K := 20) (by decide) (by decide) (by decide) (by decide) rfl (by decide +kernel) (by decide) (fun x hx => nomatch hx)
theorem lw_turn : LXc [116, 117, 114, 110] [(6, none)] (fun c => sg c = 0) := lx_word (K := 21) (by decide) (by decide) (by decide) (by decide) rfl (by decide +kernel) (by decide) (fun x hx => nomatch hx)
theorem lw_air : LXc [97, 105, 114] [(12, none)] (fun c => sg c = 0) := lx_word (K := 22) (by decide) (by decide) (by decide) (by decide) rfl (by decide +kernel) (by decide) (fun x hx => nomatch hx)
theorem lw_breath : LXc [98, 114, 101, 97, 116, 104] [(8, none)] (fun c => sg c = 0) := lx_word (K := 23) (by decide) (by decide) (by decide) (by decide) rfl (by decide +kernel) (by decide) (fun x hx => nomatch hx)
theorem lw_place : LXc [112, 108, 97, 99, 101] [(9, none)] (fun c => sg c = 0) := lx_word (K := 24) (by decide) (by decide) (by decide) (by decide) rfl (by decide +kernel) (by decide) (fun x hx => nomatch hx)
theorem lw_waits : LXc [119, 97, 105, 116, 115] [(7, none)] (fun c => sg c = 0) := lx_word (K := 25) (by decide) (by decide) (by decide) (by decide) rfl (by decide +kernel) (by decide) (fun x hx => nomatch hx)
theorem lw_inside : LXc [105, 110, 115, 105, 100, 101] [(10, none)] (fun c => sg c = 0) := lx_word (K := 26) (by decide) (by decide) (by decide) (by decide) rfl (by decide +kernel) (by decide) (fun x hx => nomatch hx)
theorem lw_capped : LXc [99, 97, 112, 112, 101, 100] [(11, none)] (fun c => sg c = 0) := lx_word (K := 27) (by decide) (by decide) (by decide) (by decide) rfl (by decide +kernel) (by decide) (fun x hx => nomatch hx)
theorem lw_not : LXc [110, 111, 116] [(13, none)] (fun c => sg c = 0) := lx_word (K := 28) (by decide) (by decide) (by decide) (by decide) rfl (by decide +kernel) (by decide) (fun x hx => nomatch hx)
theorem lw_or : LXc [111, 114] [(25, none)] (fun c => sg c = 0) := lx_word (K := 29) (by decide) (by decide) (by decide) (by decide) rfl (by decide +kernel) (by decide) (fun x hx => nomatch hx)
theorem lw_min : LXc [109, 105, 110] [(26, none)] (fun c => sg c = 0) := lx_word (K := 30) (by decide) (by decide) (by decide) (by decide) rfl (by decide +kernel) (by decide) (fun x hx => nomatch hx)
theorem hd_dec {n : Nat} {X : List Nat} {C : Nat → Prop} (hn : n < 100) (h : ∀ c, 48 ≤ c → c ≤ 57 → C c) : ∃ c b', decs n ++ X = c :: b' ∧ C c := by
  unfold decs
  by_cases e : n < 10
  · rw [if_pos e]
    exact ⟨_, _, rfl, h _ (by omega) (by omega)⟩
  · rw [if_neg e]
    exact ⟨_, _, rfl, h _ (by omega) (by omega)⟩
theorem hd_dec' {n : Nat} {C : Nat → Prop} (hn : n < 100) (h : ∀ c, 48 ≤ c → c ≤ 57 → C c) : ∃ c b', decs n = c :: b' ∧ C c := by
  have := hd_dec (X := []) (C := C) hn h
  rwa [List.append_nil] at this
theorem sl_20 : lst 20 = [98, 111, 114, 101] ++ ([32] ++ ([97])) := by decide
theorem sl_21 : lst 21 = [32] ++ ([108, 111, 110, 103] ++ ([32])) := by decide
theorem sl_22 : lst 22 = [32] ++ ([108, 111, 119] ++ ([32])) := by decide
theorem sl_23 : lst 23 = [59] := by decide
theorem sl_24 : lst 24 = [115, 104, 97, 102, 116] ++ ([32] ++ ([97])) := by decide
theorem sl_25 : lst 25 = [32] ++ ([97, 116] ++ ([32])) := by decide
theorem sl_26 : lst 26 = [32] ++ ([100, 114, 97, 117, 103, 104, 116] ++ ([32])) := by decide
theorem sl_27 : lst 27 = [108, 101, 103, 103, 101, 114] ++ ([32] ++ ([109])) := by decide
theorem sl_28 : lst 28 = [32] ++ ([115, 116, 114, 101, 110, 103, 116, 104] ++ ([32])) := by decide
theorem sl_29 : lst 29 = [32] ++ ([108, 117, 110, 103, 115] ++ ([32])) := by decide
theorem sl_30 : lst 30 = [59] ++ ([10]) := by decide
theorem sl_31 : lst 31 = [98, 111, 97, 116] ++ ([32] ++ ([98])) := by decide
theorem sl_32 : lst 32 = [32] ++ ([119, 101, 105, 103, 104, 116] ++ ([32])) := by decide
theorem sl_33 : lst 33 = [32] ++ ([102, 114, 111, 109] ++ ([32])) := by decide
theorem sl_34 : lst 34 = [119, 101, 115, 116] := by decide
theorem sl_35 : lst 35 = [101, 97, 115, 116] := by decide
theorem sl_36 : lst 36 = [32] ++ ([100, 117, 101] ++ ([32])) := by decide
theorem sl_37 : lst 37 = [32] ++ ([98, 121] ++ ([32] ++ ([109]))) := by decide
theorem sl_38 : lst 38 = [32] ++ ([97, 110, 100] ++ ([32] ++ ([109]))) := by decide
theorem sl_39 : lst 39 = [119, 104, 105, 115, 116, 108, 101] ++ ([32] ++ ([119, 101, 115, 116])) := by decide
theorem sl_40 : lst 40 = [119, 104, 105, 115, 116, 108, 101] ++ ([32] ++ ([101, 97, 115, 116])) := by decide
theorem sl_41 : lst 41 = [114, 101, 115, 116] ++ ([32] ++ ([109])) := by decide
theorem sl_42 : lst 42 = [32] ++ ([119, 104, 101, 110] ++ ([32])) := by decide
theorem tx_bore {j : Nat} {r : Nat → Int32} (hj : j < 6) (h0 : (r 0).toInt.toNat < 100) (h1 : (r 1).toInt.toNat < 100) : LXc ([98, 111, 114, 101] ++ ([32] ++ (([97] ++ decs j) ++ ([32] ++ ([108, 111, 110, 103] ++ ([32] ++ (decs (r 0).toInt.toNat ++ ([32] ++ ([108, 111, 119] ++ ([32] ++ (decs (r 1).toInt.toNat ++ ([59])))))))))))) (kB j r) (fun _ => True) := by
  have w := (LXc.app lw_bore (LXc.app (lx_blank (c := 32) (Or.inl rfl)) (LXc.app (lx_name (c := 97) (by decide) hj) (LXc.app (lx_blank (c := 32) (Or.inl rfl)) (LXc.app lw_long (LXc.app (lx_blank (c := 32) (Or.inl rfl)) (LXc.app (lx_num (n := (r 0).toInt.toNat) h0) (LXc.app (lx_blank (c := 32) (Or.inl rfl)) (LXc.app lw_low (LXc.app (lx_blank (c := 32) (Or.inl rfl)) (LXc.app (lx_num (n := (r 1).toInt.toNat) h1) (lx_sym (c := 59) (k := 32) (by decide) (by decide) (by decide) (by decide) (by decide +kernel) (by decide +kernel)) ⟨_, _, rfl, by decide⟩) (hd_dec h1 (fun _ _ _ => trivial))) ⟨_, _, rfl, by decide⟩) ⟨_, _, rfl, trivial⟩) ⟨_, _, rfl, by decide⟩) (hd_dec h0 (fun _ _ _ => trivial))) ⟨_, _, rfl, by decide⟩) ⟨_, _, rfl, trivial⟩) ⟨_, _, rfl, by decide⟩) ⟨_, _, rfl, trivial⟩) ⟨_, _, rfl, by decide⟩)
  exact w
theorem te_bore {j : Nat} {r : Nat → Int32} : bA T j r = T ++ ([98, 111, 114, 101] ++ ([32] ++ (([97] ++ decs j) ++ ([32] ++ ([108, 111, 110, 103] ++ ([32] ++ (decs (r 0).toInt.toNat ++ ([32] ++ ([108, 111, 119] ++ ([32] ++ (decs (r 1).toInt.toNat ++ ([59])))))))))))) := by
  unfold bA
  rw [sl_20, sl_21, sl_22, sl_23]
  simp only [List.append_assoc]
theorem tx_shaft {j : Nat} {r : Nat → Int32} (hj : j < 6) (h0 : (r 0).toInt.toNat < 100) (h1 : (r 1).toInt.toNat < 100) : LXc ([115, 104, 97, 102, 116] ++ ([32] ++ (([97] ++ decs j) ++ ([32] ++ ([97, 116] ++ ([32] ++ (decs (r 0).toInt.toNat ++ ([32] ++ ([100, 114, 97, 117, 103, 104, 116] ++ ([32] ++ (decs (r 1).toInt.toNat ++ ([59])))))))))))) (kS j r) (fun _ => True) := by
  have w := (LXc.app lw_shaft (LXc.app (lx_blank (c := 32) (Or.inl rfl)) (LXc.app (lx_name (c := 97) (by decide) hj) (LXc.app (lx_blank (c := 32) (Or.inl rfl)) (LXc.app lw_at (LXc.app (lx_blank (c := 32) (Or.inl rfl)) (LXc.app (lx_num (n := (r 0).toInt.toNat) h0) (LXc.app (lx_blank (c := 32) (Or.inl rfl)) (LXc.app lw_draught (LXc.app (lx_blank (c := 32) (Or.inl rfl)) (LXc.app (lx_num (n := (r 1).toInt.toNat) h1) (lx_sym (c := 59) (k := 32) (by decide) (by decide) (by decide) (by decide) (by decide +kernel) (by decide +kernel)) ⟨_, _, rfl, by decide⟩) (hd_dec h1 (fun _ _ _ => trivial))) ⟨_, _, rfl, by decide⟩) ⟨_, _, rfl, trivial⟩) ⟨_, _, rfl, by decide⟩) (hd_dec h0 (fun _ _ _ => trivial))) ⟨_, _, rfl, by decide⟩) ⟨_, _, rfl, trivial⟩) ⟨_, _, rfl, by decide⟩) ⟨_, _, rfl, trivial⟩) ⟨_, _, rfl, by decide⟩)
  exact w
theorem te_shaft {j : Nat} {r : Nat → Int32} : sA T j r = T ++ ([115, 104, 97, 102, 116] ++ ([32] ++ (([97] ++ decs j) ++ ([32] ++ ([97, 116] ++ ([32] ++ (decs (r 0).toInt.toNat ++ ([32] ++ ([100, 114, 97, 117, 103, 104, 116] ++ ([32] ++ (decs (r 1).toInt.toNat ++ ([59])))))))))))) := by
  unfold sA
  rw [sl_24, sl_25, sl_26, sl_23]
  simp only [List.append_assoc]
theorem tx_legger {j : Nat} {r : Nat → Int32} (hj : j < 6) (h0 : (r 0).toInt.toNat < 100) (h1 : (r 1).toInt.toNat < 100) : LXc ([108, 101, 103, 103, 101, 114] ++ ([32] ++ (([109] ++ decs j) ++ ([32] ++ ([115, 116, 114, 101, 110, 103, 116, 104] ++ ([32] ++ (decs (r 0).toInt.toNat ++ ([32] ++ ([108, 117, 110, 103, 115] ++ ([32] ++ (decs (r 1).toInt.toNat ++ ([59] ++ ([10]))))))))))))) (kL j r) (fun _ => True) := by
  have w := (LXc.app lw_legger (LXc.app (lx_blank (c := 32) (Or.inl rfl)) (LXc.app (lx_name (c := 109) (by decide) hj) (LXc.app (lx_blank (c := 32) (Or.inl rfl)) (LXc.app lw_strength (LXc.app (lx_blank (c := 32) (Or.inl rfl)) (LXc.app (lx_num (n := (r 0).toInt.toNat) h0) (LXc.app (lx_blank (c := 32) (Or.inl rfl)) (LXc.app lw_lungs (LXc.app (lx_blank (c := 32) (Or.inl rfl)) (LXc.app (lx_num (n := (r 1).toInt.toNat) h1) (LXc.app (lx_sym (c := 59) (k := 32) (by decide) (by decide) (by decide) (by decide) (by decide +kernel) (by decide +kernel)) (lx_blank (c := 10) (Or.inr rfl)) ⟨_, _, rfl, trivial⟩) ⟨_, _, rfl, by decide⟩) (hd_dec h1 (fun _ _ _ => trivial))) ⟨_, _, rfl, by decide⟩) ⟨_, _, rfl, trivial⟩) ⟨_, _, rfl, by decide⟩) (hd_dec h0 (fun _ _ _ => trivial))) ⟨_, _, rfl, by decide⟩) ⟨_, _, rfl, trivial⟩) ⟨_, _, rfl, by decide⟩) ⟨_, _, rfl, trivial⟩) ⟨_, _, rfl, by decide⟩)
  exact w
theorem te_legger {j : Nat} {r : Nat → Int32} : lA T j r = T ++ ([108, 101, 103, 103, 101, 114] ++ ([32] ++ (([109] ++ decs j) ++ ([32] ++ ([115, 116, 114, 101, 110, 103, 116, 104] ++ ([32] ++ (decs (r 0).toInt.toNat ++ ([32] ++ ([108, 117, 110, 103, 115] ++ ([32] ++ (decs (r 1).toInt.toNat ++ ([59] ++ ([10]))))))))))))) := by
  unfold lA
  rw [sl_27, sl_28, sl_29, sl_30]
  simp only [List.append_assoc]
theorem tx_boat_west {j : Nat} {r : Nat → Int32} (hj : j < 6) (h0 : (r 0).toInt.toNat < 100) (h2 : (r 2).toInt.toNat < 100) (h7 : (r 7).toInt.toNat < 6) (h8 : (r 8).toInt.toNat < 6) (h1 : (r 1).toInt.toNat = 0) : LXc ([98, 111, 97, 116] ++ ([32] ++ (([98] ++ decs j) ++ ([32] ++ ([119, 101, 105, 103, 104, 116] ++ ([32] ++ (decs (r 0).toInt.toNat ++ ([32] ++ ([102, 114, 111, 109] ++ ([32] ++ ([119, 101, 115, 116] ++ ([32] ++ ([100, 117, 101] ++ ([32] ++ (decs (r 2).toInt.toNat ++ ([32] ++ ([98, 121] ++ ([32] ++ (([109] ++ decs (r 7).toInt.toNat) ++ ([32] ++ ([97, 110, 100] ++ ([32] ++ (([109] ++ decs (r 8).toInt.toNat) ++ ([59])))))))))))))))))))))))) (kA j r) (fun _ => True) := by
  have w := (LXc.app lw_boat (LXc.app (lx_blank (c := 32) (Or.inl rfl)) (LXc.app (lx_name (c := 98) (by decide) hj) (LXc.app (lx_blank (c := 32) (Or.inl rfl)) (LXc.app lw_weight (LXc.app (lx_blank (c := 32) (Or.inl rfl)) (LXc.app (lx_num (n := (r 0).toInt.toNat) h0) (LXc.app (lx_blank (c := 32) (Or.inl rfl)) (LXc.app lw_from (LXc.app (lx_blank (c := 32) (Or.inl rfl)) (LXc.app lw_west (LXc.app (lx_blank (c := 32) (Or.inl rfl)) (LXc.app lw_due (LXc.app (lx_blank (c := 32) (Or.inl rfl)) (LXc.app (lx_num (n := (r 2).toInt.toNat) h2) (LXc.app (lx_blank (c := 32) (Or.inl rfl)) (LXc.app lw_by (LXc.app (lx_blank (c := 32) (Or.inl rfl)) (LXc.app (lx_name (c := 109) (by decide) h7) (LXc.app (lx_blank (c := 32) (Or.inl rfl)) (LXc.app lw_and (LXc.app (lx_blank (c := 32) (Or.inl rfl)) (LXc.app (lx_name (c := 109) (by decide) h8) (lx_sym (c := 59) (k := 32) (by decide) (by decide) (by decide) (by decide) (by decide +kernel) (by decide +kernel)) ⟨_, _, rfl, by decide⟩) ⟨_, _, rfl, trivial⟩) ⟨_, _, rfl, by decide⟩) ⟨_, _, rfl, trivial⟩) ⟨_, _, rfl, by decide⟩) ⟨_, _, rfl, trivial⟩) ⟨_, _, rfl, by decide⟩) ⟨_, _, rfl, trivial⟩) ⟨_, _, rfl, by decide⟩) (hd_dec h2 (fun _ _ _ => trivial))) ⟨_, _, rfl, by decide⟩) ⟨_, _, rfl, trivial⟩) ⟨_, _, rfl, by decide⟩) ⟨_, _, rfl, trivial⟩) ⟨_, _, rfl, by decide⟩) ⟨_, _, rfl, trivial⟩) ⟨_, _, rfl, by decide⟩) (hd_dec h0 (fun _ _ _ => trivial))) ⟨_, _, rfl, by decide⟩) ⟨_, _, rfl, trivial⟩) ⟨_, _, rfl, by decide⟩) ⟨_, _, rfl, trivial⟩) ⟨_, _, rfl, by decide⟩)
  unfold kA vN
  rw [h1]
  exact w
theorem te_boat_west {j : Nat} {r : Nat → Int32} (h : r 1 = 0) : aA T j r = T ++ ([98, 111, 97, 116] ++ ([32] ++ (([98] ++ decs j) ++ ([32] ++ ([119, 101, 105, 103, 104, 116] ++ ([32] ++ (decs (r 0).toInt.toNat ++ ([32] ++ ([102, 114, 111, 109] ++ ([32] ++ ([119, 101, 115, 116] ++ ([32] ++ ([100, 117, 101] ++ ([32] ++ (decs (r 2).toInt.toNat ++ ([32] ++ ([98, 121] ++ ([32] ++ (([109] ++ decs (r 7).toInt.toNat) ++ ([32] ++ ([97, 110, 100] ++ ([32] ++ (([109] ++ decs (r 8).toInt.toNat) ++ ([59])))))))))))))))))))))))) := by
  unfold aA
  rw [if_pos h, sl_31, sl_32, sl_33, sl_34, sl_36, sl_37, sl_38, sl_23]
  simp only [List.append_assoc]
theorem tx_boat_east {j : Nat} {r : Nat → Int32} (hj : j < 6) (h0 : (r 0).toInt.toNat < 100) (h2 : (r 2).toInt.toNat < 100) (h7 : (r 7).toInt.toNat < 6) (h8 : (r 8).toInt.toNat < 6) (h1 : (r 1).toInt.toNat = 1) : LXc ([98, 111, 97, 116] ++ ([32] ++ (([98] ++ decs j) ++ ([32] ++ ([119, 101, 105, 103, 104, 116] ++ ([32] ++ (decs (r 0).toInt.toNat ++ ([32] ++ ([102, 114, 111, 109] ++ ([32] ++ ([101, 97, 115, 116] ++ ([32] ++ ([100, 117, 101] ++ ([32] ++ (decs (r 2).toInt.toNat ++ ([32] ++ ([98, 121] ++ ([32] ++ (([109] ++ decs (r 7).toInt.toNat) ++ ([32] ++ ([97, 110, 100] ++ ([32] ++ (([109] ++ decs (r 8).toInt.toNat) ++ ([59])))))))))))))))))))))))) (kA j r) (fun _ => True) := by
  have w := (LXc.app lw_boat (LXc.app (lx_blank (c := 32) (Or.inl rfl)) (LXc.app (lx_name (c := 98) (by decide) hj) (LXc.app (lx_blank (c := 32) (Or.inl rfl)) (LXc.app lw_weight (LXc.app (lx_blank (c := 32) (Or.inl rfl)) (LXc.app (lx_num (n := (r 0).toInt.toNat) h0) (LXc.app (lx_blank (c := 32) (Or.inl rfl)) (LXc.app lw_from (LXc.app (lx_blank (c := 32) (Or.inl rfl)) (LXc.app lw_east (LXc.app (lx_blank (c := 32) (Or.inl rfl)) (LXc.app lw_due (LXc.app (lx_blank (c := 32) (Or.inl rfl)) (LXc.app (lx_num (n := (r 2).toInt.toNat) h2) (LXc.app (lx_blank (c := 32) (Or.inl rfl)) (LXc.app lw_by (LXc.app (lx_blank (c := 32) (Or.inl rfl)) (LXc.app (lx_name (c := 109) (by decide) h7) (LXc.app (lx_blank (c := 32) (Or.inl rfl)) (LXc.app lw_and (LXc.app (lx_blank (c := 32) (Or.inl rfl)) (LXc.app (lx_name (c := 109) (by decide) h8) (lx_sym (c := 59) (k := 32) (by decide) (by decide) (by decide) (by decide) (by decide +kernel) (by decide +kernel)) ⟨_, _, rfl, by decide⟩) ⟨_, _, rfl, trivial⟩) ⟨_, _, rfl, by decide⟩) ⟨_, _, rfl, trivial⟩) ⟨_, _, rfl, by decide⟩) ⟨_, _, rfl, trivial⟩) ⟨_, _, rfl, by decide⟩) ⟨_, _, rfl, trivial⟩) ⟨_, _, rfl, by decide⟩) (hd_dec h2 (fun _ _ _ => trivial))) ⟨_, _, rfl, by decide⟩) ⟨_, _, rfl, trivial⟩) ⟨_, _, rfl, by decide⟩) ⟨_, _, rfl, trivial⟩) ⟨_, _, rfl, by decide⟩) ⟨_, _, rfl, trivial⟩) ⟨_, _, rfl, by decide⟩) (hd_dec h0 (fun _ _ _ => trivial))) ⟨_, _, rfl, by decide⟩) ⟨_, _, rfl, trivial⟩) ⟨_, _, rfl, by decide⟩) ⟨_, _, rfl, trivial⟩) ⟨_, _, rfl, by decide⟩)
  unfold kA vN
  rw [h1]
  exact w
theorem te_boat_east {j : Nat} {r : Nat → Int32} (h : ¬ r 1 = 0) : aA T j r = T ++ ([98, 111, 97, 116] ++ ([32] ++ (([98] ++ decs j) ++ ([32] ++ ([119, 101, 105, 103, 104, 116] ++ ([32] ++ (decs (r 0).toInt.toNat ++ ([32] ++ ([102, 114, 111, 109] ++ ([32] ++ ([101, 97, 115, 116] ++ ([32] ++ ([100, 117, 101] ++ ([32] ++ (decs (r 2).toInt.toNat ++ ([32] ++ ([98, 121] ++ ([32] ++ (([109] ++ decs (r 7).toInt.toNat) ++ ([32] ++ ([97, 110, 100] ++ ([32] ++ (([109] ++ decs (r 8).toInt.toNat) ++ ([59])))))))))))))))))))))))) := by
  unfold aA
  rw [if_neg h, sl_31, sl_32, sl_33, sl_35, sl_36, sl_37, sl_38, sl_23]
  simp only [List.append_assoc]
theorem tt_0 {n m l b : Nat} (hn : n < 100) (hm : m < 100) (hl : l < 6) (hb : b < 6) : LXc (testT 0 n m l b) (tkT 0 n m l b) (fun c => sg c = 0) := by
  have h7 : n % 7 + 1 < 100 := by omega
  have z0 : 0 < 100 := by decide
  have z1 : 1 < 100 := by decide
  have w := (LXc.app lw_minute (LXc.app (lx_sym (c := 47) (k := 18) (by decide) (by decide) (by decide) (by decide) (by decide +kernel) (by decide +kernel)) (LXc.app (lx_num (n := (n % 7 + 1)) h7) (LXc.app (lx_sym (c := 42) (k := 17) (by decide) (by decide) (by decide) (by decide) (by decide +kernel) (by decide +kernel)) (LXc.app (lx_num (n := (n % 7 + 1)) h7) (LXc.app (lx_sym (c := 61) (k := 21) (by decide) (by decide) (by decide) (by decide) (by decide +kernel) (by decide +kernel)) lw_minute ⟨_, _, rfl, trivial⟩) ⟨_, _, rfl, by decide⟩) (hd_dec h7 (fun _ _ _ => trivial))) ⟨_, _, rfl, by decide⟩) (hd_dec h7 (fun _ _ _ => trivial))) ⟨_, _, rfl, by decide⟩)
  have et : testT 0 n m l b = [109, 105, 110, 117, 116, 101] ++ ([47] ++ (decs (n % 7 + 1) ++ ([42] ++ (decs (n % 7 + 1) ++ ([61] ++ ([109, 105, 110, 117, 116, 101])))))) := by
    simp only [testT, legT, boaT, List.append_assoc, List.nil_append]
    rfl
  rw [et]
  exact w
theorem tt_1 {n m l b : Nat} (hn : n < 100) (hm : m < 100) (hl : l < 6) (hb : b < 6) : LXc (testT 1 n m l b) (tkT 1 n m l b) (fun c => sg c = 0) := by
  have h7 : n % 7 + 1 < 100 := by omega
  have z0 : 0 < 100 := by decide
  have z1 : 1 < 100 := by decide
  have w := (LXc.app lw_waits (LXc.app (lx_blank (c := 32) (Or.inl rfl)) (LXc.app lw_east (LXc.app (lx_lt (c := 62) (k := 20) (by decide) (by decide +kernel)) (LXc.app lw_waits (LXc.app (lx_blank (c := 32) (Or.inl rfl)) lw_west ⟨_, _, rfl, trivial⟩) ⟨_, _, rfl, by decide⟩) ⟨_, _, rfl, by decide⟩) ⟨_, _, rfl, by decide⟩) ⟨_, _, rfl, trivial⟩) ⟨_, _, rfl, by decide⟩)
  have et : testT 1 n m l b = [119, 97, 105, 116, 115] ++ ([32] ++ ([101, 97, 115, 116] ++ ([62] ++ ([119, 97, 105, 116, 115] ++ ([32] ++ ([119, 101, 115, 116])))))) := by
    rfl
  rw [et]
  exact w
theorem tt_2 {n m l b : Nat} (hn : n < 100) (hm : m < 100) (hl : l < 6) (hb : b < 6) : LXc (testT 2 n m l b) (tkT 2 n m l b) (fun c => sg c = 0) := by
  have h7 : n % 7 + 1 < 100 := by omega
  have z0 : 0 < 100 := by decide
  have z1 : 1 < 100 := by decide
  have w := (LXc.app lw_waits (LXc.app (lx_blank (c := 32) (Or.inl rfl)) (LXc.app lw_west (LXc.app (lx_sym (c := 61) (k := 21) (by decide) (by decide) (by decide) (by decide) (by decide +kernel) (by decide +kernel)) (LXc.app (lx_num (n := 0) z0) (LXc.app (lx_blank (c := 32) (Or.inl rfl)) (LXc.app lw_and (LXc.app (lx_blank (c := 32) (Or.inl rfl)) (LXc.app lw_not (LXc.app (lx_blank (c := 32) (Or.inl rfl)) (LXc.app lw_inside (LXc.app (lx_blank (c := 32) (Or.inl rfl)) (lx_name (c := 98) (by decide) hb) ⟨_, _, rfl, trivial⟩) ⟨_, _, rfl, by decide⟩) ⟨_, _, rfl, trivial⟩) ⟨_, _, rfl, by decide⟩) ⟨_, _, rfl, trivial⟩) ⟨_, _, rfl, by decide⟩) ⟨_, _, rfl, trivial⟩) ⟨_, _, rfl, by decide⟩) (hd_dec z0 (fun _ _ _ => trivial))) ⟨_, _, rfl, by decide⟩) ⟨_, _, rfl, trivial⟩) ⟨_, _, rfl, by decide⟩)
  have et : testT 2 n m l b = [119, 97, 105, 116, 115] ++ ([32] ++ ([119, 101, 115, 116] ++ ([61] ++ (decs 0 ++ ([32] ++ ([97, 110, 100] ++ ([32] ++ ([110, 111, 116] ++ ([32] ++ ([105, 110, 115, 105, 100, 101] ++ ([32] ++ (([98] ++ decs b))))))))))))) := by
    simp only [testT, legT, boaT, List.append_assoc, List.nil_append]
    rfl
  rw [et]
  exact w
theorem tt_3 {n m l b : Nat} (hn : n < 100) (hm : m < 100) (hl : l < 6) (hb : b < 6) : LXc (testT 3 n m l b) (tkT 3 n m l b) (fun c => sg c = 0) := by
  have h7 : n % 7 + 1 < 100 := by omega
  have z0 : 0 < 100 := by decide
  have z1 : 1 < 100 := by decide
  have w := (LXc.app lw_air (LXc.app (lx_sym (c := 40) (k := 28) (by decide) (by decide) (by decide) (by decide) (by decide +kernel) (by decide +kernel)) (LXc.app (lx_num (n := n) hn) (LXc.app (lx_sym (c := 41) (k := 29) (by decide) (by decide) (by decide) (by decide) (by decide +kernel) (by decide +kernel)) (LXc.app (lx_lt (c := 60) (k := 19) (by decide) (by decide +kernel)) (lx_num (n := m) hm) (hd_dec' hm (fun c h1 h2 => by omega))) ⟨_, _, rfl, trivial⟩) ⟨_, _, rfl, by decide⟩) (hd_dec hn (fun _ _ _ => trivial))) ⟨_, _, rfl, by decide⟩)
  have et : testT 3 n m l b = [97, 105, 114] ++ ([40] ++ (decs n ++ ([41] ++ ([60] ++ (decs m))))) := by
    simp only [testT, legT, boaT, List.append_assoc, List.nil_append]
    rfl
  rw [et]
  exact w
theorem tt_4 {n m l b : Nat} (hn : n < 100) (hm : m < 100) (hl : l < 6) (hb : b < 6) : LXc (testT 4 n m l b) (tkT 4 n m l b) (fun c => sg c = 0) := by
  have h7 : n % 7 + 1 < 100 := by omega
  have z0 : 0 < 100 := by decide
  have z1 : 1 < 100 := by decide
  have w := (LXc.app lw_breath (LXc.app (lx_blank (c := 32) (Or.inl rfl)) (LXc.app (lx_name (c := 109) (by decide) hl) (LXc.app (lx_lt (c := 60) (k := 19) (by decide) (by decide +kernel)) (lx_num (n := m) hm) (hd_dec' hm (fun c h1 h2 => by omega))) ⟨_, _, rfl, by decide⟩) ⟨_, _, rfl, trivial⟩) ⟨_, _, rfl, by decide⟩)
  have et : testT 4 n m l b = [98, 114, 101, 97, 116, 104] ++ ([32] ++ (([109] ++ decs l) ++ ([60] ++ (decs m)))) := by
    simp only [testT, legT, boaT, List.append_assoc, List.nil_append]
    rfl
  rw [et]
  exact w
theorem tt_5 {n m l b : Nat} (hn : n < 100) (hm : m < 100) (hl : l < 6) (hb : b < 6) : LXc (testT 5 n m l b) (tkT 5 n m l b) (fun c => sg c = 0) := by
  have h7 : n % 7 + 1 < 100 := by omega
  have z0 : 0 < 100 := by decide
  have z1 : 1 < 100 := by decide
  have w := (LXc.app lw_not (LXc.app (lx_blank (c := 32) (Or.inl rfl)) (LXc.app lw_capped (LXc.app (lx_blank (c := 32) (Or.inl rfl)) (LXc.app (lx_name (c := 109) (by decide) hl) (LXc.app (lx_blank (c := 32) (Or.inl rfl)) (LXc.app lw_or (LXc.app (lx_blank (c := 32) (Or.inl rfl)) (LXc.app lw_place (LXc.app (lx_blank (c := 32) (Or.inl rfl)) (LXc.app (lx_name (c := 98) (by decide) hb) (LXc.app lx_ge (lx_num (n := n) hn) (hd_dec' hn (fun _ _ _ => trivial))) ⟨_, _, rfl, by decide⟩) ⟨_, _, rfl, trivial⟩) ⟨_, _, rfl, by decide⟩) ⟨_, _, rfl, trivial⟩) ⟨_, _, rfl, by decide⟩) ⟨_, _, rfl, trivial⟩) ⟨_, _, rfl, by decide⟩) ⟨_, _, rfl, trivial⟩) ⟨_, _, rfl, by decide⟩) ⟨_, _, rfl, trivial⟩) ⟨_, _, rfl, by decide⟩)
  have et : testT 5 n m l b = [110, 111, 116] ++ ([32] ++ ([99, 97, 112, 112, 101, 100] ++ ([32] ++ (([109] ++ decs l) ++ ([32] ++ ([111, 114] ++ ([32] ++ ([112, 108, 97, 99, 101] ++ ([32] ++ (([98] ++ decs b) ++ ([62, 61] ++ (decs n)))))))))))) := by
    simp only [testT, legT, boaT, List.append_assoc, List.nil_append]
    rfl
  rw [et]
  exact w
theorem tt_6 {n m l b : Nat} (hn : n < 100) (hm : m < 100) (hl : l < 6) (hb : b < 6) : LXc (testT 6 n m l b) (tkT 6 n m l b) (fun c => sg c = 0) := by
  have h7 : n % 7 + 1 < 100 := by omega
  have z0 : 0 < 100 := by decide
  have z1 : 1 < 100 := by decide
  have w := (LXc.app lw_turn (LXc.app (lx_sym (c := 61) (k := 21) (by decide) (by decide) (by decide) (by decide) (by decide +kernel) (by decide +kernel)) (LXc.app (lx_num (n := 1) z1) (LXc.app (lx_blank (c := 32) (Or.inl rfl)) (LXc.app lw_and (LXc.app (lx_blank (c := 32) (Or.inl rfl)) (LXc.app (lx_sym (c := 91) (k := 30) (by decide) (by decide) (by decide) (by decide) (by decide +kernel) (by decide +kernel)) (LXc.app lw_minute (LXc.app (lx_lt (c := 62) (k := 20) (by decide) (by decide +kernel)) (LXc.app (lx_num (n := n) hn) (LXc.app (lx_blank (c := 32) (Or.inl rfl)) (LXc.app lw_or (LXc.app (lx_blank (c := 32) (Or.inl rfl)) (LXc.app lw_air (LXc.app (lx_sym (c := 40) (k := 28) (by decide) (by decide) (by decide) (by decide) (by decide +kernel) (by decide +kernel)) (LXc.app lw_place (LXc.app (lx_blank (c := 32) (Or.inl rfl)) (LXc.app (lx_name (c := 98) (by decide) hb) (LXc.app (lx_sym (c := 41) (k := 29) (by decide) (by decide) (by decide) (by decide) (by decide +kernel) (by decide +kernel)) (LXc.app (lx_lt (c := 62) (k := 20) (by decide) (by decide +kernel)) (LXc.app (lx_num (n := m) hm) (lx_sym (c := 93) (k := 31) (by decide) (by decide) (by decide) (by decide) (by decide +kernel) (by decide +kernel)) ⟨_, _, rfl, by decide⟩) (hd_dec hm (fun c h1 h2 => by omega))) ⟨_, _, rfl, trivial⟩) ⟨_, _, rfl, by decide⟩) ⟨_, _, rfl, trivial⟩) ⟨_, _, rfl, by decide⟩) ⟨_, _, rfl, trivial⟩) ⟨_, _, rfl, by decide⟩) ⟨_, _, rfl, trivial⟩) ⟨_, _, rfl, by decide⟩) ⟨_, _, rfl, trivial⟩) ⟨_, _, rfl, by decide⟩) (hd_dec hn (fun c h1 h2 => by omega))) ⟨_, _, rfl, by decide⟩) ⟨_, _, rfl, trivial⟩) ⟨_, _, rfl, trivial⟩) ⟨_, _, rfl, by decide⟩) ⟨_, _, rfl, trivial⟩) ⟨_, _, rfl, by decide⟩) (hd_dec z1 (fun _ _ _ => trivial))) ⟨_, _, rfl, by decide⟩)
  have et : testT 6 n m l b = [116, 117, 114, 110] ++ ([61] ++ (decs 1 ++ ([32] ++ ([97, 110, 100] ++ ([32] ++ ([91] ++ ([109, 105, 110, 117, 116, 101] ++ ([62] ++ (decs n ++ ([32] ++ ([111, 114] ++ ([32] ++ ([97, 105, 114] ++ ([40] ++ ([112, 108, 97, 99, 101] ++ ([32] ++ (([98] ++ decs b) ++ ([41] ++ ([62] ++ (decs m ++ ([93]))))))))))))))))))))) := by
    simp only [testT, legT, boaT, List.append_assoc, List.nil_append]
    rfl
  rw [et]
  exact w.weak (fun _ _ => trivial)
theorem tt_7 {n m l b : Nat} (hn : n < 100) (hm : m < 100) (hl : l < 6) (hb : b < 6) : LXc (testT 7 n m l b) (tkT 7 n m l b) (fun c => sg c = 0) := by
  have h7 : n % 7 + 1 < 100 := by omega
  have z0 : 0 < 100 := by decide
  have z1 : 1 < 100 := by decide
  have w := (LXc.app lw_min (LXc.app (lx_sym (c := 40) (k := 28) (by decide) (by decide) (by decide) (by decide) (by decide +kernel) (by decide +kernel)) (LXc.app lw_waits (LXc.app (lx_blank (c := 32) (Or.inl rfl)) (LXc.app lw_west (LXc.app (lx_sym (c := 44) (k := 33) (by decide) (by decide) (by decide) (by decide) (by decide +kernel) (by decide +kernel)) (LXc.app (lx_num (n := n) hn) (LXc.app (lx_sym (c := 41) (k := 29) (by decide) (by decide) (by decide) (by decide) (by decide +kernel) (by decide +kernel)) (LXc.app (lx_blank (c := 32) (Or.inl rfl)) (LXc.app (lx_sym (c := 45) (k := 16) (by decide) (by decide) (by decide) (by decide) (by decide +kernel) (by decide +kernel)) (LXc.app (lx_blank (c := 32) (Or.inl rfl)) (LXc.app lw_waits (LXc.app (lx_blank (c := 32) (Or.inl rfl)) (LXc.app lw_east (LXc.app (lx_lt (c := 60) (k := 19) (by decide) (by decide +kernel)) (lx_num (n := 1) z1) (hd_dec' z1 (fun c h1 h2 => by omega))) ⟨_, _, rfl, by decide⟩) ⟨_, _, rfl, trivial⟩) ⟨_, _, rfl, by decide⟩) ⟨_, _, rfl, trivial⟩) ⟨_, _, rfl, trivial⟩) ⟨_, _, rfl, trivial⟩) ⟨_, _, rfl, trivial⟩) ⟨_, _, rfl, by decide⟩) (hd_dec hn (fun _ _ _ => trivial))) ⟨_, _, rfl, by decide⟩) ⟨_, _, rfl, trivial⟩) ⟨_, _, rfl, by decide⟩) ⟨_, _, rfl, trivial⟩) ⟨_, _, rfl, by decide⟩)
  have et : testT 7 n m l b = [109, 105, 110] ++ ([40] ++ ([119, 97, 105, 116, 115] ++ ([32] ++ ([119, 101, 115, 116] ++ ([44] ++ (decs n ++ ([41] ++ ([32] ++ ([45] ++ ([32] ++ ([119, 97, 105, 116, 115] ++ ([32] ++ ([101, 97, 115, 116] ++ ([60] ++ (decs 1))))))))))))))) := by
    simp only [testT, legT, boaT, List.append_assoc, List.nil_append]
    rfl
  rw [et]
  exact w
theorem tt_all {e n m l b : Nat} (he : e < 8) (hn : n < 100) (hm : m < 100) (hl : l < 6) (hb : b < 6) : LXc (testT e n m l b) (tkT e n m l b) (fun c => sg c = 0) := by
  have hcs : e = 0 ∨ e = 1 ∨ e = 2 ∨ e = 3 ∨ e = 4 ∨ e = 5 ∨ e = 6 ∨ e = 7 := by omega
  rcases hcs with rfl | rfl | rfl | rfl | rfl | rfl | rfl | rfl
  · exact tt_0 hn hm hl hb
  · exact tt_1 hn hm hl hb
  · exact tt_2 hn hm hl hb
  · exact tt_3 hn hm hl hb
  · exact tt_4 hn hm hl hb
  · exact tt_5 hn hm hl hb
  · exact tt_6 hn hm hl hb
  · exact tt_7 hn hm hl hb
end LTX
