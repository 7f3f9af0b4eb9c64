theorem wq_1177 : Cond.fieldLink RX6 24 RX6 "boats" "[[I" ∈ lw_g := lw_g_mk (tb_5 (List.mem_of_getElem? (i := 153) rfl)) rfl
theorem wq_1165 : Cond.fieldLink RX6 34 RX6 "minute" "I" ∈ lw_g := lw_g_mk (tb_5 (List.mem_of_getElem? (i := 141) rfl)) rfl
theorem wq_1171 : Cond.fieldLink RX6 15 RX6 "places" "[[I" ∈ lw_g := lw_g_mk (tb_5 (List.mem_of_getElem? (i := 147) rfl)) rfl
theorem wq_1175 : Cond.fieldLink RX6 21 RX6 "leggers" "[[I" ∈ lw_g := lw_g_mk (tb_5 (List.mem_of_getElem? (i := 151) rfl)) rfl
theorem wq_836 : Cond.methodLink RX6 37 yX6_waits ∈ lw_g := lw_g_mk (tb_4 (List.mem_of_getElem? (i := 52) rfl)) rfl
theorem wq_840 : Cond.methodLink RX6 41 yX6_air ∈ lw_g := lw_g_mk (tb_4 (List.mem_of_getElem? (i := 56) rfl)) rfl
theorem wq_1167 : Cond.fieldLink RX6 44 RX6 "turn" "I" ∈ lw_g := lw_g_mk (tb_5 (List.mem_of_getElem? (i := 143) rfl)) rfl
theorem wq_844 : Cond.methodLink RX6 47 Lib.Math.min.name ∈ lw_g := lw_g_mk (tb_4 (List.mem_of_getElem? (i := 60) rfl)) rfl
theorem wq_857 : Cond.methodLink RX6 53 yX6_boatOf ∈ lw_g := lw_g_mk (tb_4 (List.mem_of_getElem? (i := 73) rfl)) rfl
theorem wq_1179 : Cond.fieldLink RX6 27 RX6 "orders" "[[I" ∈ lw_g := lw_g_mk (tb_5 (List.mem_of_getElem? (i := 155) rfl)) rfl
theorem wq_832 : Cond.methodLink RX6 56 yX6_holds ∈ lw_g := lw_g_mk (tb_4 (List.mem_of_getElem? (i := 48) rfl)) rfl
theorem wq_849 : Cond.methodLink RX6 60 yX6_boatAt ∈ lw_g := lw_g_mk (tb_4 (List.mem_of_getElem? (i := 65) rfl)) rfl
theorem wq_853 : Cond.methodLink RX6 63 yX6_isReady ∈ lw_g := lw_g_mk (tb_4 (List.mem_of_getElem? (i := 69) rfl)) rfl
theorem wq_1169 : Cond.fieldLink RX6 9 RX6 "bores" "[[I" ∈ lw_g := lw_g_mk (tb_5 (List.mem_of_getElem? (i := 145) rfl)) rfl
theorem wq_1181 : Cond.fieldLink RX6 30 RX6 "weak" "I" ∈ lw_g := lw_g_mk (tb_5 (List.mem_of_getElem? (i := 157) rfl)) rfl
theorem wq_861 : Cond.methodLink RX6 67 yX6_come ∈ lw_g := lw_g_mk (tb_4 (List.mem_of_getElem? (i := 77) rfl)) rfl
theorem wq_852 : Cond.code yX6_boatAt cX6_boatAt 3 (some .int) ∈ lw_g := lw_g_mk (tb_4 (List.mem_of_getElem? (i := 68) rfl)) rfl
theorem wq_69 : Cond.initialized RX6 ∈ lw_g := lw_g_mk (tb_1 (List.mem_of_getElem? (i := 5) rfl)) rfl
theorem wq_860 : Cond.code yX6_boatOf cX6_boatOf 3 (some .int) ∈ lw_g := lw_g_mk (tb_4 (List.mem_of_getElem? (i := 76) rfl)) rfl
theorem wq_839 : Cond.code yX6_waits cX6_waits 7 (some .int) ∈ lw_g := lw_g_mk (tb_4 (List.mem_of_getElem? (i := 55) rfl)) rfl
theorem wq_843 : Cond.code yX6_air cX6_air 2 (some .int) ∈ lw_g := lw_g_mk (tb_4 (List.mem_of_getElem? (i := 59) rfl)) rfl
theorem wq_890 : Cond.code yX6_those cX6_those 7 (some .int) ∈ lw_g := lw_g_mk (tb_4 (List.mem_of_getElem? (i := 106) rfl)) rfl
theorem wq_835 : Cond.code yX6_holds cX6_holds 6 (some .boolean) ∈ lw_g := lw_g_mk (tb_4 (List.mem_of_getElem? (i := 51) rfl)) rfl
theorem wq_856 : Cond.code yX6_isReady cX6_isReady 7 (some .boolean) ∈ lw_g := lw_g_mk (tb_4 (List.mem_of_getElem? (i := 72) rfl)) rfl
theorem wq_848 : Cond.code yX6_canEnter cX6_canEnter 7 (some .boolean) ∈ lw_g := lw_g_mk (tb_4 (List.mem_of_getElem? (i := 64) rfl)) rfl
theorem wq_865 : Cond.code yX6_come cX6_come 6 none ∈ lw_g := lw_g_mk (tb_4 (List.mem_of_getElem? (i := 81) rfl)) rfl
theorem wq_869 : Cond.code yX6_push cX6_push 5 none ∈ lw_g := lw_g_mk (tb_4 (List.mem_of_getElem? (i := 85) rfl)) rfl
theorem wq_850 : Cond.instanceMethod yX6_boatAt ∈ lw_g := lw_g_mk (tb_4 (List.mem_of_getElem? (i := 66) rfl)) rfl
theorem wq_851 : Cond.selects RX6 yX6_boatAt yX6_boatAt ∈ lw_g := lw_g_mk (tb_4 (List.mem_of_getElem? (i := 67) rfl)) rfl
theorem wq_858 : Cond.instanceMethod yX6_boatOf ∈ lw_g := lw_g_mk (tb_4 (List.mem_of_getElem? (i := 74) rfl)) rfl
theorem wq_859 : Cond.selects RX6 yX6_boatOf yX6_boatOf ∈ lw_g := lw_g_mk (tb_4 (List.mem_of_getElem? (i := 75) rfl)) rfl
theorem wq_837 : Cond.instanceMethod yX6_waits ∈ lw_g := lw_g_mk (tb_4 (List.mem_of_getElem? (i := 53) rfl)) rfl
theorem wq_838 : Cond.selects RX6 yX6_waits yX6_waits ∈ lw_g := lw_g_mk (tb_4 (List.mem_of_getElem? (i := 54) rfl)) rfl
theorem wq_841 : Cond.instanceMethod yX6_air ∈ lw_g := lw_g_mk (tb_4 (List.mem_of_getElem? (i := 57) rfl)) rfl
theorem wq_842 : Cond.selects RX6 yX6_air yX6_air ∈ lw_g := lw_g_mk (tb_4 (List.mem_of_getElem? (i := 58) rfl)) rfl
theorem wq_833 : Cond.instanceMethod yX6_holds ∈ lw_g := lw_g_mk (tb_4 (List.mem_of_getElem? (i := 49) rfl)) rfl
theorem wq_834 : Cond.selects RX6 yX6_holds yX6_holds ∈ lw_g := lw_g_mk (tb_4 (List.mem_of_getElem? (i := 50) rfl)) rfl
theorem wq_854 : Cond.instanceMethod yX6_isReady ∈ lw_g := lw_g_mk (tb_4 (List.mem_of_getElem? (i := 70) rfl)) rfl
theorem wq_855 : Cond.selects RX6 yX6_isReady yX6_isReady ∈ lw_g := lw_g_mk (tb_4 (List.mem_of_getElem? (i := 71) rfl)) rfl
theorem wq_863 : Cond.instanceMethod yX6_come ∈ lw_g := lw_g_mk (tb_4 (List.mem_of_getElem? (i := 79) rfl)) rfl
theorem wq_26 : Cond.selects RX6 yX6_come yX6_come ∈ lw_g := lw_g_mk (tb_0 (List.mem_of_getElem? (i := 26) rfl)) rfl
def smF (Z : Nat → ClassId) (sa : Nat) (o : Nat → Nat) (ro : Nat → Nat → Nat) (nn : Nat → Nat) (N : M2) : va_W := [(sa, .inr (6, [.int (N 0 0), .int (N 1 0), .ref (o 0), .ref (o 1), .ref (o 2), .ref (o 3), .ref (o 4), .ref (o 5), .int (N 2 0)])), (o 0, .inl (Z 3, nn 0, .inr (.inr (.inr (.inr (fun j => if j < nn 0 then some (ro 0 j) else none)))))), (o 1, .inl (Z 3, nn 1, .inr (.inr (.inr (.inr (fun j => if j < nn 1 then some (ro 1 j) else none)))))), (o 2, .inl (Z 3, nn 2, .inr (.inr (.inr (.inr (fun j => if j < nn 2 then some (ro 2 j) else none)))))), (o 3, .inl (Z 3, nn 3, .inr (.inr (.inr (.inr (fun j => if j < nn 3 then some (ro 3 j) else none)))))), (o 4, .inl (Z 3, nn 4, .inr (.inr (.inr (.inr (fun j => if j < nn 4 then some (ro 4 j) else none)))))), (o 5, .inl (Z 3, nn 5, .inr (.inr (.inr (.inr (fun j => if j < nn 5 then some (ro 5 j) else none))))))]
def SM (Z : Nat → ClassId) (sa : Nat) (o : Nat → Nat) (ro : Nat → Nat → Nat) (nn : Nat → Nat) (V S O : M2) (N U L B : M2) : va_W := [(sa, .inr (6, [.int (N 0 0), .int (N 1 0), .ref (o 0), .ref (o 1), .ref (o 2), .ref (o 3), .ref (o 4), .ref (o 5), .int (N 2 0)])), (o 0, .inl (Z 3, nn 0, .inr (.inr (.inr (.inr (fun j => if j < nn 0 then some (ro 0 j) else none)))))), (o 1, .inl (Z 3, nn 1, .inr (.inr (.inr (.inr (fun j => if j < nn 1 then some (ro 1 j) else none)))))), (o 2, .inl (Z 3, nn 2, .inr (.inr (.inr (.inr (fun j => if j < nn 2 then some (ro 2 j) else none)))))), (o 3, .inl (Z 3, nn 3, .inr (.inr (.inr (.inr (fun j => if j < nn 3 then some (ro 3 j) else none)))))), (o 4, .inl (Z 3, nn 4, .inr (.inr (.inr (.inr (fun j => if j < nn 4 then some (ro 4 j) else none)))))), (o 5, .inl (Z 3, nn 5, .inr (.inr (.inr (.inr (fun j => if j < nn 5 then some (ro 5 j) else none))))))] ++ (pool Z (ro 0) V 3 (nn 0) ++ (pool Z (ro 1) U 2 (nn 1) ++ (pool Z (ro 2) S 2 (nn 2) ++ (pool Z (ro 3) L 5 (nn 3) ++ (pool Z (ro 4) B 9 (nn 4) ++ (pool Z (ro 5) O 6 (nn 5)))))))
def smN (nn : Nat → Nat) : Nat := 7 + (nn 0 + (nn 1 + (nn 2 + (nn 3 + (nn 4 + nn 5)))))
theorem sm_len {Z : Nat → ClassId} {sa : Nat} {o : Nat → Nat} {ro : Nat → Nat → Nat} {nn : Nat → Nat} {V S O : M2} {N U L B : M2} : (SM Z sa o ro nn V S O N U L B).length = smN nn := by
  unfold SM smN
  simp only [List.length_append, pool_len, List.length_cons, List.length_nil]
theorem sm_0 (Z : Nat → ClassId) (sa : Nat) (o : Nat → Nat) (ro : Nat → Nat → Nat) (nn : Nat → Nat) (S O N U L B : M2) : ∃ wa wb : va_W, ∀ V : M2, SM Z sa o ro nn V S O N U L B = wa ++ (pool Z (ro 0) V 3 (nn 0) ++ wb) := ⟨([(sa, .inr (6, [.int (N 0 0), .int (N 1 0), .ref (o 0), .ref (o 1), .ref (o 2), .ref (o 3), .ref (o 4), .ref (o 5), .int (N 2 0)])), (o 0, .inl (Z 3, nn 0, .inr (.inr (.inr (.inr (fun j => if j < nn 0 then some (ro 0 j) else none)))))), (o 1, .inl (Z 3, nn 1, .inr (.inr (.inr (.inr (fun j => if j < nn 1 then some (ro 1 j) else none)))))), (o 2, .inl (Z 3, nn 2, .inr (.inr (.inr (.inr (fun j => if j < nn 2 then some (ro 2 j) else none)))))), (o 3, .inl (Z 3, nn 3, .inr (.inr (.inr (.inr (fun j => if j < nn 3 then some (ro 3 j) else none)))))), (o 4, .inl (Z 3, nn 4, .inr (.inr (.inr (.inr (fun j => if j < nn 4 then some (ro 4 j) else none)))))), (o 5, .inl (Z 3, nn 5, .inr (.inr (.inr (.inr (fun j => if j < nn 5 then some (ro 5 j) else none))))))]), pool Z (ro 1) U 2 (nn 1) ++ (pool Z (ro 2) S 2 (nn 2) ++ (pool Z (ro 3) L 5 (nn 3) ++ (pool Z (ro 4) B 9 (nn 4) ++ (pool Z (ro 5) O 6 (nn 5))))), fun V => by unfold SM; simp only [List.append_assoc, List.append_nil, List.cons_append, List.nil_append]⟩
theorem sm_1 (Z : Nat → ClassId) (sa : Nat) (o : Nat → Nat) (ro : Nat → Nat → Nat) (nn : Nat → Nat) (V S O N L B : M2) : ∃ wa wb : va_W, ∀ U : M2, SM Z sa o ro nn V S O N U L B = wa ++ (pool Z (ro 1) U 2 (nn 1) ++ wb) := ⟨([(sa, .inr (6, [.int (N 0 0), .int (N 1 0), .ref (o 0), .ref (o 1), .ref (o 2), .ref (o 3), .ref (o 4), .ref (o 5), .int (N 2 0)])), (o 0, .inl (Z 3, nn 0, .inr (.inr (.inr (.inr (fun j => if j < nn 0 then some (ro 0 j) else none)))))), (o 1, .inl (Z 3, nn 1, .inr (.inr (.inr (.inr (fun j => if j < nn 1 then some (ro 1 j) else none)))))), (o 2, .inl (Z 3, nn 2, .inr (.inr (.inr (.inr (fun j => if j < nn 2 then some (ro 2 j) else none)))))), (o 3, .inl (Z 3, nn 3, .inr (.inr (.inr (.inr (fun j => if j < nn 3 then some (ro 3 j) else none)))))), (o 4, .inl (Z 3, nn 4, .inr (.inr (.inr (.inr (fun j => if j < nn 4 then some (ro 4 j) else none)))))), (o 5, .inl (Z 3, nn 5, .inr (.inr (.inr (.inr (fun j => if j < nn 5 then some (ro 5 j) else none))))))] ++ pool Z (ro 0) V 3 (nn 0)), pool Z (ro 2) S 2 (nn 2) ++ (pool Z (ro 3) L 5 (nn 3) ++ (pool Z (ro 4) B 9 (nn 4) ++ (pool Z (ro 5) O 6 (nn 5)))), fun U => by unfold SM; simp only [List.append_assoc, List.append_nil, List.cons_append, List.nil_append]⟩
theorem sm_2 (Z : Nat → ClassId) (sa : Nat) (o : Nat → Nat) (ro : Nat → Nat → Nat) (nn : Nat → Nat) (V O N U L B : M2) : ∃ wa wb : va_W, ∀ S : M2, SM Z sa o ro nn V S O N U L B = wa ++ (pool Z (ro 2) S 2 (nn 2) ++ wb) := ⟨([(sa, .inr (6, [.int (N 0 0), .int (N 1 0), .ref (o 0), .ref (o 1), .ref (o 2), .ref (o 3), .ref (o 4), .ref (o 5), .int (N 2 0)])), (o 0, .inl (Z 3, nn 0, .inr (.inr (.inr (.inr (fun j => if j < nn 0 then some (ro 0 j) else none)))))), (o 1, .inl (Z 3, nn 1, .inr (.inr (.inr (.inr (fun j => if j < nn 1 then some (ro 1 j) else none)))))), (o 2, .inl (Z 3, nn 2, .inr (.inr (.inr (.inr (fun j => if j < nn 2 then some (ro 2 j) else none)))))), (o 3, .inl (Z 3, nn 3, .inr (.inr (.inr (.inr (fun j => if j < nn 3 then some (ro 3 j) else none)))))), (o 4, .inl (Z 3, nn 4, .inr (.inr (.inr (.inr (fun j => if j < nn 4 then some (ro 4 j) else none)))))), (o 5, .inl (Z 3, nn 5, .inr (.inr (.inr (.inr (fun j => if j < nn 5 then some (ro 5 j) else none))))))] ++ pool Z (ro 0) V 3 (nn 0) ++ pool Z (ro 1) U 2 (nn 1)), pool Z (ro 3) L 5 (nn 3) ++ (pool Z (ro 4) B 9 (nn 4) ++ (pool Z (ro 5) O 6 (nn 5))), fun S => by unfold SM; simp only [List.append_assoc, List.append_nil, List.cons_append, List.nil_append]⟩
theorem sm_3 (Z : Nat → ClassId) (sa : Nat) (o : Nat → Nat) (ro : Nat → Nat → Nat) (nn : Nat → Nat) (V S O N U B : M2) : ∃ wa wb : va_W, ∀ L : M2, SM Z sa o ro nn V S O N U L B = wa ++ (pool Z (ro 3) L 5 (nn 3) ++ wb) := ⟨([(sa, .inr (6, [.int (N 0 0), .int (N 1 0), .ref (o 0), .ref (o 1), .ref (o 2), .ref (o 3), .ref (o 4), .ref (o 5), .int (N 2 0)])), (o 0, .inl (Z 3, nn 0, .inr (.inr (.inr (.inr (fun j => if j < nn 0 then some (ro 0 j) else none)))))), (o 1, .inl (Z 3, nn 1, .inr (.inr (.inr (.inr (fun j => if j < nn 1 then some (ro 1 j) else none)))))), (o 2, .inl (Z 3, nn 2, .inr (.inr (.inr (.inr (fun j => if j < nn 2 then some (ro 2 j) else none)))))), (o 3, .inl (Z 3, nn 3, .inr (.inr (.inr (.inr (fun j => if j < nn 3 then some (ro 3 j) else none)))))), (o 4, .inl (Z 3, nn 4, .inr (.inr (.inr (.inr (fun j => if j < nn 4 then some (ro 4 j) else none)))))), (o 5, .inl (Z 3, nn 5, .inr (.inr (.inr (.inr (fun j => if j < nn 5 then some (ro 5 j) else none))))))] ++ pool Z (ro 0) V 3 (nn 0) ++ pool Z (ro 1) U 2 (nn 1) ++ pool Z (ro 2) S 2 (nn 2)), pool Z (ro 4) B 9 (nn 4) ++ (pool Z (ro 5) O 6 (nn 5)), fun L => by unfold SM; simp only [List.append_assoc, List.append_nil, List.cons_append, List.nil_append]⟩
theorem sm_4 (Z : Nat → ClassId) (sa : Nat) (o : Nat → Nat) (ro : Nat → Nat → Nat) (nn : Nat → Nat) (V S O N U L : M2) : ∃ wa wb : va_W, ∀ B : M2, SM Z sa o ro nn V S O N U L B = wa ++ (pool Z (ro 4) B 9 (nn 4) ++ wb) := ⟨([(sa, .inr (6, [.int (N 0 0), .int (N 1 0), .ref (o 0), .ref (o 1), .ref (o 2), .ref (o 3), .ref (o 4), .ref (o 5), .int (N 2 0)])), (o 0, .inl (Z 3, nn 0, .inr (.inr (.inr (.inr (fun j => if j < nn 0 then some (ro 0 j) else none)))))), (o 1, .inl (Z 3, nn 1, .inr (.inr (.inr (.inr (fun j => if j < nn 1 then some (ro 1 j) else none)))))), (o 2, .inl (Z 3, nn 2, .inr (.inr (.inr (.inr (fun j => if j < nn 2 then some (ro 2 j) else none)))))), (o 3, .inl (Z 3, nn 3, .inr (.inr (.inr (.inr (fun j => if j < nn 3 then some (ro 3 j) else none)))))), (o 4, .inl (Z 3, nn 4, .inr (.inr (.inr (.inr (fun j => if j < nn 4 then some (ro 4 j) else none)))))), (o 5, .inl (Z 3, nn 5, .inr (.inr (.inr (.inr (fun j => if j < nn 5 then some (ro 5 j) else none))))))] ++ pool Z (ro 0) V 3 (nn 0) ++ pool Z (ro 1) U 2 (nn 1) ++ pool Z (ro 2) S 2 (nn 2) ++ pool Z (ro 3) L 5 (nn 3)), pool Z (ro 5) O 6 (nn 5), fun B => by unfold SM; simp only [List.append_assoc, List.append_nil, List.cons_append, List.nil_append]⟩
theorem sm_5 (Z : Nat → ClassId) (sa : Nat) (o : Nat → Nat) (ro : Nat → Nat → Nat) (nn : Nat → Nat) (V S N U L B : M2) : ∃ wa wb : va_W, ∀ O : M2, SM Z sa o ro nn V S O N U L B = wa ++ (pool Z (ro 5) O 6 (nn 5) ++ wb) := ⟨([(sa, .inr (6, [.int (N 0 0), .int (N 1 0), .ref (o 0), .ref (o 1), .ref (o 2), .ref (o 3), .ref (o 4), .ref (o 5), .int (N 2 0)])), (o 0, .inl (Z 3, nn 0, .inr (.inr (.inr (.inr (fun j => if j < nn 0 then some (ro 0 j) else none)))))), (o 1, .inl (Z 3, nn 1, .inr (.inr (.inr (.inr (fun j => if j < nn 1 then some (ro 1 j) else none)))))), (o 2, .inl (Z 3, nn 2, .inr (.inr (.inr (.inr (fun j => if j < nn 2 then some (ro 2 j) else none)))))), (o 3, .inl (Z 3, nn 3, .inr (.inr (.inr (.inr (fun j => if j < nn 3 then some (ro 3 j) else none)))))), (o 4, .inl (Z 3, nn 4, .inr (.inr (.inr (.inr (fun j => if j < nn 4 then some (ro 4 j) else none)))))), (o 5, .inl (Z 3, nn 5, .inr (.inr (.inr (.inr (fun j => if j < nn 5 then some (ro 5 j) else none))))))] ++ pool Z (ro 0) V 3 (nn 0) ++ pool Z (ro 1) U 2 (nn 1) ++ pool Z (ro 2) S 2 (nn 2) ++ pool Z (ro 3) L 5 (nn 3) ++ pool Z (ro 4) B 9 (nn 4)), [], fun O => by unfold SM; simp only [List.append_assoc, List.append_nil, List.cons_append, List.nil_append]⟩
theorem Cut.self {S : Type} {wsF : S → va_W} {u0 : S} {N : Nat} (hN : ∀ u, (wsF u).length = N) : Cut (wsF u0) wsF u0 [] (List.range N) [] (List.range N) wsF := by
  have h : ∀ u, (List.range N).map (fun i => (wsF u)[i]?) = (wsF u).map some := fun u => by rw [← range_some, hN u]
  exact ⟨h u0, rfl, rfl, fun i hi => absurd hi List.not_mem_nil, range_nd N, h⟩
theorem sm_pre {f : M2 → va_W} {P : M2 → va_W} (h : ∃ wa wb : va_W, ∀ X : M2, f X = wa ++ (P X ++ wb)) (A : va_W) : ∃ wa wb : va_W, ∀ X : M2, A ++ f X = wa ++ (P X ++ wb) := by
  obtain ⟨wa, wb, h⟩ := h
  exact ⟨A ++ wa, wb, fun X => by rw [h X, List.append_assoc]⟩
theorem sm_suf {f : M2 → va_W} {P : M2 → va_W} (h : ∃ wa wb : va_W, ∀ X : M2, f X = wa ++ (P X ++ wb)) (A : va_W) : ∃ wa wb : va_W, ∀ X : M2, f X ++ A = wa ++ (P X ++ wb) := by
  obtain ⟨wa, wb, h⟩ := h
  exact ⟨wa, wb ++ A, fun X => by rw [h X, List.append_assoc, List.append_assoc]⟩
section ROWS3
variable {p : Program} {l : Launch} {e : Env} {s : State} {m : MethodId} {args : Array Value} {below : List Frame} {meth : Method} {c : Code} {H H0 : Heap} {locs : List Loc} {cells slots : Nat} {Q : State → Prop} {R : Room}
variable {pc : Nat} {ls : Array Slot} {rest st0 : List Value} {A : Nat → Prop} {D : va_G} {Z : Nat → ClassId} {a : Nat}
variable {cc : ByteArray} {nL index : Nat} {own : String}
theorem wr_ld {r : Nat → Nat} {len N jn : Nat} {i j : Int32} {f : M2 → va_W} {X : M2} (hf : ∃ wa wb : va_W, ∀ X : M2, f X = wa ++ (pool Z r X len N ++ wb)) (hC : CallFix p m c cc nL s args lw_g own) (hK : va_K D vwCl (tysG Z) s) (hP : va_P D vwCl (f X) H) (hi : inb i N) (hj : inb j len) (hjn : j.toInt.toNat = jn) (hdg : decode cc pc = .ok (.iaload, 1))
    (kk : W p l e R s m args below meth c H locs cells slots Q (F0 m (pc + 1) ls (.int (X i.toInt.toNat jn) :: rest))) : W p l e R s m args below meth c H locs cells slots Q (F0 m pc ls (.int j :: .ref (r i.toInt.toNat) :: rest)) := by
  subst hjn
  obtain ⟨wa, wb, hf⟩ := hf
  exact w_rld hC hK hP (hf X) hi hj hdg kk
theorem wr_st {r : Nat → Nat} {len N jn : Nat} {i j x : Int32} {f : M2 → va_W} {X : M2} (hf : ∃ wa wb : va_W, ∀ X : M2, f X = wa ++ (pool Z r X len N ++ wb)) (hC : CallFix p m c cc nL s args lw_g own) (hK : va_K D vwCl (tysG Z) s) (hT : TS vwCl D (f X) A H0 H locs) (hi : inb i N) (hj : inb j len) (hjn : j.toInt.toNat = jn) (hdg : decode cc pc = .ok (.iastore, 1))
    (kk : ∀ X1 : M2, X1 = up2 X i.toInt.toNat (upd (X i.toInt.toNat) jn x) → ∀ (H1 : Heap) (locs1 : List Loc), TS vwCl D (f X1) A H0 H1 locs1 → W p l e R s m args below meth c H1 locs1 cells slots Q (F0 m (pc + 1) ls rest)) : W p l e R s m args below meth c H locs cells slots Q (F0 m pc ls (.int x :: .int j :: .ref (r i.toInt.toNat) :: rest)) := by
  subst hjn
  obtain ⟨wa, wb, hf⟩ := hf
  exact w_rst hC hK hT (hf X) hi hj (hf _).symm hdg (fun H1 locs1 hT1 => kk _ rfl H1 locs1 hT1)
theorem wr_len {r : Nat → Nat} {len N : Nat} {i : Int32} {f : M2 → va_W} {X : M2} (hf : ∃ wa wb : va_W, ∀ X : M2, f X = wa ++ (pool Z r X len N ++ wb)) (hC : CallFix p m c cc nL s args lw_g own) (hK : va_K D vwCl (tysG Z) s) (hP : va_P D vwCl (f X) H) (hi : inb i N) (hdg : decode cc pc = .ok (.arraylength, 1))
    (kk : W p l e R s m args below meth c H locs cells slots Q (F0 m (pc + 1) ls (.int (Int32.ofNat len) :: rest))) : W p l e R s m args below meth c H locs cells slots Q (F0 m pc ls (.ref (r i.toInt.toNat) :: rest)) := by
  obtain ⟨wa, wb, hf⟩ := hf
  exact w_rlen hC hK hP (hf X) hi hdg kk
end ROWS3
section ROWSSM
variable {p : Program} {l : Launch} {e : Env} {s : State} {m : MethodId} {args : Array Value} {below : List Frame} {meth : Method} {c : Code} {H H0 : Heap} {locs : List Loc} {cells slots : Nat} {Q : State → Prop} {R : Room} {rn mcR msR : Nat}
variable {pc : Nat} {ls : Array Slot} {rest : List Value} {A : Nat → Prop} {D : va_G}
variable {cc : ByteArray} {nL index : Nat} {own host : String}
theorem gSM_sim_0 {Z : Nat → ClassId} {sa : Nat} {o : Nat → Nat} {ro : Nat → Nat → Nat} {nn : Nat → Nat} {V S O : M2} {N : M2} {U : M2} {L : M2} {B : M2} (hC : CallFix p m c cc nL s args lw_g own) (hK : va_K D vwCl (tysG Z) s) (hP : va_P D vwCl (SM Z sa o ro nn V S O N U L B) H) (hl : Cond.fieldLink own index RX6 "minute" "I" ∈ lw_g) (hdg : decode cc pc = .ok (.getfield index, 3)) (kk : W p l e R s m args below meth c H locs cells slots Q (F0 m (pc + 3) ls (.int (N 0 0) :: rest))) : W p l e R s m args below meth c H locs cells slots Q (F0 m pc ls (.ref (sa) :: rest)) :=
  w_get (C := RX6) (T := TX6) (N := 9) (ci := 6) (q0 := 0) (k := 0) hC hK hP fi_X6 rfl rfl rfl (by decide) rfl hl hdg kk
theorem gSM_sim_1 {Z : Nat → ClassId} {sa : Nat} {o : Nat → Nat} {ro : Nat → Nat → Nat} {nn : Nat → Nat} {V S O : M2} {N : M2} {U : M2} {L : M2} {B : M2} (hC : CallFix p m c cc nL s args lw_g own) (hK : va_K D vwCl (tysG Z) s) (hP : va_P D vwCl (SM Z sa o ro nn V S O N U L B) H) (hl : Cond.fieldLink own index RX6 "turn" "I" ∈ lw_g) (hdg : decode cc pc = .ok (.getfield index, 3)) (kk : W p l e R s m args below meth c H locs cells slots Q (F0 m (pc + 3) ls (.int (N 1 0) :: rest))) : W p l e R s m args below meth c H locs cells slots Q (F0 m pc ls (.ref (sa) :: rest)) :=
  w_get (C := RX6) (T := TX6) (N := 9) (ci := 6) (q0 := 0) (k := 1) hC hK hP fi_X6 rfl rfl rfl (by decide) rfl hl hdg kk
theorem gSM_sim_2 {Z : Nat → ClassId} {sa : Nat} {o : Nat → Nat} {ro : Nat → Nat → Nat} {nn : Nat → Nat} {V S O : M2} {N : M2} {U : M2} {L : M2} {B : M2} (hC : CallFix p m c cc nL s args lw_g own) (hK : va_K D vwCl (tysG Z) s) (hP : va_P D vwCl (SM Z sa o ro nn V S O N U L B) H) (hl : Cond.fieldLink own index RX6 "bores" "[[I" ∈ lw_g) (hdg : decode cc pc = .ok (.getfield index, 3)) (kk : W p l e R s m args below meth c H locs cells slots Q (F0 m (pc + 3) ls (.ref (o 0) :: rest))) : W p l e R s m args below meth c H locs cells slots Q (F0 m pc ls (.ref (sa) :: rest)) :=
  w_get (C := RX6) (T := TX6) (N := 9) (ci := 6) (q0 := 0) (k := 2) hC hK hP fi_X6 rfl rfl rfl (by decide) rfl hl hdg kk
theorem gSM_sim_3 {Z : Nat → ClassId} {sa : Nat} {o : Nat → Nat} {ro : Nat → Nat → Nat} {nn : Nat → Nat} {V S O : M2} {N : M2} {U : M2} {L : M2} {B : M2} (hC : CallFix p m c cc nL s args lw_g own) (hK : va_K D vwCl (tysG Z) s) (hP : va_P D vwCl (SM Z sa o ro nn V S O N U L B) H) (hl : Cond.fieldLink own index RX6 "places" "[[I" ∈ lw_g) (hdg : decode cc pc = .ok (.getfield index, 3)) (kk : W p l e R s m args below meth c H locs cells slots Q (F0 m (pc + 3) ls (.ref (o 1) :: rest))) : W p l e R s m args below meth c H locs cells slots Q (F0 m pc ls (.ref (sa) :: rest)) :=
  w_get (C := RX6) (T := TX6) (N := 9) (ci := 6) (q0 := 0) (k := 3) hC hK hP fi_X6 rfl rfl rfl (by decide) rfl hl hdg kk
theorem gSM_sim_5 {Z : Nat → ClassId} {sa : Nat} {o : Nat → Nat} {ro : Nat → Nat → Nat} {nn : Nat → Nat} {V S O : M2} {N : M2} {U : M2} {L : M2} {B : M2} (hC : CallFix p m c cc nL s args lw_g own) (hK : va_K D vwCl (tysG Z) s) (hP : va_P D vwCl (SM Z sa o ro nn V S O N U L B) H) (hl : Cond.fieldLink own index RX6 "leggers" "[[I" ∈ lw_g) (hdg : decode cc pc = .ok (.getfield index, 3)) (kk : W p l e R s m args below meth c H locs cells slots Q (F0 m (pc + 3) ls (.ref (o 3) :: rest))) : W p l e R s m args below meth c H locs cells slots Q (F0 m pc ls (.ref (sa) :: rest)) :=
  w_get (C := RX6) (T := TX6) (N := 9) (ci := 6) (q0 := 0) (k := 5) hC hK hP fi_X6 rfl rfl rfl (by decide) rfl hl hdg kk
theorem gSM_sim_6 {Z : Nat → ClassId} {sa : Nat} {o : Nat → Nat} {ro : Nat → Nat → Nat} {nn : Nat → Nat} {V S O : M2} {N : M2} {U : M2} {L : M2} {B : M2} (hC : CallFix p m c cc nL s args lw_g own) (hK : va_K D vwCl (tysG Z) s) (hP : va_P D vwCl (SM Z sa o ro nn V S O N U L B) H) (hl : Cond.fieldLink own index RX6 "boats" "[[I" ∈ lw_g) (hdg : decode cc pc = .ok (.getfield index, 3)) (kk : W p l e R s m args below meth c H locs cells slots Q (F0 m (pc + 3) ls (.ref (o 4) :: rest))) : W p l e R s m args below meth c H locs cells slots Q (F0 m pc ls (.ref (sa) :: rest)) :=
  w_get (C := RX6) (T := TX6) (N := 9) (ci := 6) (q0 := 0) (k := 6) hC hK hP fi_X6 rfl rfl rfl (by decide) rfl hl hdg kk
theorem gSM_sim_7 {Z : Nat → ClassId} {sa : Nat} {o : Nat → Nat} {ro : Nat → Nat → Nat} {nn : Nat → Nat} {V S O : M2} {N : M2} {U : M2} {L : M2} {B : M2} (hC : CallFix p m c cc nL s args lw_g own) (hK : va_K D vwCl (tysG Z) s) (hP : va_P D vwCl (SM Z sa o ro nn V S O N U L B) H) (hl : Cond.fieldLink own index RX6 "orders" "[[I" ∈ lw_g) (hdg : decode cc pc = .ok (.getfield index, 3)) (kk : W p l e R s m args below meth c H locs cells slots Q (F0 m (pc + 3) ls (.ref (o 5) :: rest))) : W p l e R s m args below meth c H locs cells slots Q (F0 m pc ls (.ref (sa) :: rest)) :=
  w_get (C := RX6) (T := TX6) (N := 9) (ci := 6) (q0 := 0) (k := 7) hC hK hP fi_X6 rfl rfl rfl (by decide) rfl hl hdg kk
theorem gSM_sim_8 {Z : Nat → ClassId} {sa : Nat} {o : Nat → Nat} {ro : Nat → Nat → Nat} {nn : Nat → Nat} {V S O : M2} {N : M2} {U : M2} {L : M2} {B : M2} (hC : CallFix p m c cc nL s args lw_g own) (hK : va_K D vwCl (tysG Z) s) (hP : va_P D vwCl (SM Z sa o ro nn V S O N U L B) H) (hl : Cond.fieldLink own index RX6 "weak" "I" ∈ lw_g) (hdg : decode cc pc = .ok (.getfield index, 3)) (kk : W p l e R s m args below meth c H locs cells slots Q (F0 m (pc + 3) ls (.int (N 2 0) :: rest))) : W p l e R s m args below meth c H locs cells slots Q (F0 m pc ls (.ref (sa) :: rest)) :=
  w_get (C := RX6) (T := TX6) (N := 9) (ci := 6) (q0 := 0) (k := 8) hC hK hP fi_X6 rfl rfl rfl (by decide) rfl hl hdg kk
end ROWSSM
theorem dX6_boatAt_0 : decode cX6_boatAt 0 = .ok (.iconst 0, 1) := by decide +kernel
theorem dX6_boatAt_1 : decode cX6_boatAt 1 = .ok (.istore_n 2, 1) := by decide +kernel
theorem dX6_boatAt_2 : decode cX6_boatAt 2 = .ok (.iload_n 2, 1) := by decide +kernel
theorem dX6_boatAt_3 : decode cX6_boatAt 3 = .ok (.aload_n 0, 1) := by decide +kernel
theorem dX6_boatAt_4 : decode cX6_boatAt 4 = .ok (.getfield 24, 3) := by decide +kernel
theorem dX6_boatAt_7 : decode cX6_boatAt 7 = .ok (.arraylength, 1) := by decide +kernel
theorem dX6_boatAt_8 : decode cX6_boatAt 8 = .ok (.if_icmp .ge 35, 3) := by decide +kernel
theorem dX6_boatAt_11 : decode cX6_boatAt 11 = .ok (.aload_n 0, 1) := by decide +kernel
theorem dX6_boatAt_12 : decode cX6_boatAt 12 = .ok (.getfield 24, 3) := by decide +kernel
theorem dX6_boatAt_15 : decode cX6_boatAt 15 = .ok (.iload_n 2, 1) := by decide +kernel
theorem dX6_boatAt_16 : decode cX6_boatAt 16 = .ok (.aaload, 1) := by decide +kernel
theorem dX6_boatAt_17 : decode cX6_boatAt 17 = .ok (.iconst 3, 1) := by decide +kernel
theorem dX6_boatAt_18 : decode cX6_boatAt 18 = .ok (.iaload, 1) := by decide +kernel
theorem dX6_boatAt_19 : decode cX6_boatAt 19 = .ok (.iconst 1, 1) := by decide +kernel
theorem dX6_boatAt_20 : decode cX6_boatAt 20 = .ok (.if_icmp .ne 17, 3) := by decide +kernel
theorem dX6_boatAt_23 : decode cX6_boatAt 23 = .ok (.aload_n 0, 1) := by decide +kernel
theorem dX6_boatAt_24 : decode cX6_boatAt 24 = .ok (.getfield 24, 3) := by decide +kernel
theorem dX6_boatAt_27 : decode cX6_boatAt 27 = .ok (.iload_n 2, 1) := by decide +kernel
theorem dX6_boatAt_28 : decode cX6_boatAt 28 = .ok (.aaload, 1) := by decide +kernel
theorem dX6_boatAt_29 : decode cX6_boatAt 29 = .ok (.iconst 4, 1) := by decide +kernel
theorem dX6_boatAt_30 : decode cX6_boatAt 30 = .ok (.iaload, 1) := by decide +kernel
theorem dX6_boatAt_31 : decode cX6_boatAt 31 = .ok (.iload_n 1, 1) := by decide +kernel
theorem dX6_boatAt_32 : decode cX6_boatAt 32 = .ok (.if_icmp .ne 5, 3) := by decide +kernel
theorem dX6_boatAt_35 : decode cX6_boatAt 35 = .ok (.iload_n 2, 1) := by decide +kernel
theorem dX6_boatAt_36 : decode cX6_boatAt 36 = .ok (.ireturn, 1) := by decide +kernel
theorem dX6_boatAt_37 : decode cX6_boatAt 37 = .ok (.iinc 2 1, 3) := by decide +kernel
theorem dX6_boatAt_40 : decode cX6_boatAt 40 = .ok (.goto (-38), 3) := by decide +kernel
theorem dX6_boatAt_43 : decode cX6_boatAt 43 = .ok (.iconst (-1), 1) := by decide +kernel
theorem dX6_boatAt_44 : decode cX6_boatAt 44 = .ok (.ireturn, 1) := by decide +kernel
theorem dX6_boatOf_0 : decode cX6_boatOf 0 = .ok (.iconst 0, 1) := by decide +kernel
theorem dX6_boatOf_1 : decode cX6_boatOf 1 = .ok (.istore_n 2, 1) := by decide +kernel
theorem dX6_boatOf_2 : decode cX6_boatOf 2 = .ok (.iload_n 2, 1) := by decide +kernel
theorem dX6_boatOf_3 : decode cX6_boatOf 3 = .ok (.aload_n 0, 1) := by decide +kernel
theorem dX6_boatOf_4 : decode cX6_boatOf 4 = .ok (.getfield 24, 3) := by decide +kernel
theorem dX6_boatOf_7 : decode cX6_boatOf 7 = .ok (.arraylength, 1) := by decide +kernel
theorem dX6_boatOf_8 : decode cX6_boatOf 8 = .ok (.if_icmp .ge 49, 3) := by decide +kernel
theorem dX6_boatOf_11 : decode cX6_boatOf 11 = .ok (.aload_n 0, 1) := by decide +kernel
theorem dX6_boatOf_12 : decode cX6_boatOf 12 = .ok (.getfield 24, 3) := by decide +kernel
theorem dX6_boatOf_15 : decode cX6_boatOf 15 = .ok (.iload_n 2, 1) := by decide +kernel
theorem dX6_boatOf_16 : decode cX6_boatOf 16 = .ok (.aaload, 1) := by decide +kernel
theorem dX6_boatOf_17 : decode cX6_boatOf 17 = .ok (.iconst 3, 1) := by decide +kernel
theorem dX6_boatOf_18 : decode cX6_boatOf 18 = .ok (.iaload, 1) := by decide +kernel
theorem dX6_boatOf_19 : decode cX6_boatOf 19 = .ok (.iconst 1, 1) := by decide +kernel
theorem dX6_boatOf_20 : decode cX6_boatOf 20 = .ok (.if_icmp .ne 31, 3) := by decide +kernel
theorem dX6_boatOf_23 : decode cX6_boatOf 23 = .ok (.aload_n 0, 1) := by decide +kernel
theorem dX6_boatOf_24 : decode cX6_boatOf 24 = .ok (.getfield 24, 3) := by decide +kernel
theorem dX6_boatOf_27 : decode cX6_boatOf 27 = .ok (.iload_n 2, 1) := by decide +kernel
theorem dX6_boatOf_28 : decode cX6_boatOf 28 = .ok (.aaload, 1) := by decide +kernel
theorem dX6_boatOf_29 : decode cX6_boatOf 29 = .ok (.bipush 7, 2) := by decide +kernel
theorem dX6_boatOf_31 : decode cX6_boatOf 31 = .ok (.iaload, 1) := by decide +kernel
theorem dX6_boatOf_32 : decode cX6_boatOf 32 = .ok (.iload_n 1, 1) := by decide +kernel
theorem dX6_boatOf_33 : decode cX6_boatOf 33 = .ok (.if_icmp .eq 16, 3) := by decide +kernel
theorem dX6_boatOf_36 : decode cX6_boatOf 36 = .ok (.aload_n 0, 1) := by decide +kernel
theorem dX6_boatOf_37 : decode cX6_boatOf 37 = .ok (.getfield 24, 3) := by decide +kernel
theorem dX6_boatOf_40 : decode cX6_boatOf 40 = .ok (.iload_n 2, 1) := by decide +kernel
theorem dX6_boatOf_41 : decode cX6_boatOf 41 = .ok (.aaload, 1) := by decide +kernel
theorem dX6_boatOf_42 : decode cX6_boatOf 42 = .ok (.bipush 8, 2) := by decide +kernel
theorem dX6_boatOf_44 : decode cX6_boatOf 44 = .ok (.iaload, 1) := by decide +kernel
theorem dX6_boatOf_45 : decode cX6_boatOf 45 = .ok (.iload_n 1, 1) := by decide +kernel
theorem dX6_boatOf_46 : decode cX6_boatOf 46 = .ok (.if_icmp .ne 5, 3) := by decide +kernel
theorem dX6_boatOf_49 : decode cX6_boatOf 49 = .ok (.iload_n 2, 1) := by decide +kernel
theorem dX6_boatOf_50 : decode cX6_boatOf 50 = .ok (.ireturn, 1) := by decide +kernel
theorem dX6_boatOf_51 : decode cX6_boatOf 51 = .ok (.iinc 2 1, 3) := by decide +kernel
theorem dX6_boatOf_54 : decode cX6_boatOf 54 = .ok (.goto (-52), 3) := by decide +kernel
theorem dX6_boatOf_57 : decode cX6_boatOf 57 = .ok (.iconst (-1), 1) := by decide +kernel
theorem dX6_boatOf_58 : decode cX6_boatOf 58 = .ok (.ireturn, 1) := by decide +kernel
theorem dX6_waits_0 : decode cX6_waits 0 = .ok (.iconst 0, 1) := by decide +kernel
theorem dX6_waits_1 : decode cX6_waits 1 = .ok (.istore_n 2, 1) := by decide +kernel
theorem dX6_waits_2 : decode cX6_waits 2 = .ok (.aload_n 0, 1) := by decide +kernel
theorem dX6_waits_3 : decode cX6_waits 3 = .ok (.getfield 24, 3) := by decide +kernel
theorem dX6_waits_6 : decode cX6_waits 6 = .ok (.astore_n 3, 1) := by decide +kernel
theorem dX6_waits_7 : decode cX6_waits 7 = .ok (.aload_n 3, 1) := by decide +kernel
theorem dX6_waits_8 : decode cX6_waits 8 = .ok (.arraylength, 1) := by decide +kernel
theorem dX6_waits_9 : decode cX6_waits 9 = .ok (.istore 4, 2) := by decide +kernel
theorem dX6_waits_11 : decode cX6_waits 11 = .ok (.iconst 0, 1) := by decide +kernel
theorem dX6_waits_12 : decode cX6_waits 12 = .ok (.istore 5, 2) := by decide +kernel
theorem dX6_waits_14 : decode cX6_waits 14 = .ok (.iload 5, 2) := by decide +kernel
theorem dX6_waits_16 : decode cX6_waits 16 = .ok (.iload 4, 2) := by decide +kernel
theorem dX6_waits_18 : decode cX6_waits 18 = .ok (.if_icmp .ge 49, 3) := by decide +kernel
theorem dX6_waits_21 : decode cX6_waits 21 = .ok (.aload_n 3, 1) := by decide +kernel
theorem dX6_waits_22 : decode cX6_waits 22 = .ok (.iload 5, 2) := by decide +kernel
theorem dX6_waits_24 : decode cX6_waits 24 = .ok (.aaload, 1) := by decide +kernel
theorem dX6_waits_25 : decode cX6_waits 25 = .ok (.astore 6, 2) := by decide +kernel
theorem dX6_waits_27 : decode cX6_waits 27 = .ok (.iload_n 2, 1) := by decide +kernel
theorem dX6_waits_28 : decode cX6_waits 28 = .ok (.aload 6, 2) := by decide +kernel
theorem dX6_waits_30 : decode cX6_waits 30 = .ok (.iconst 3, 1) := by decide +kernel
theorem dX6_waits_31 : decode cX6_waits 31 = .ok (.iaload, 1) := by decide +kernel
theorem dX6_waits_32 : decode cX6_waits 32 = .ok (.ifCond .ne 26, 3) := by decide +kernel
theorem dX6_waits_35 : decode cX6_waits 35 = .ok (.aload 6, 2) := by decide +kernel
theorem dX6_waits_37 : decode cX6_waits 37 = .ok (.iconst 1, 1) := by decide +kernel
theorem dX6_waits_38 : decode cX6_waits 38 = .ok (.iaload, 1) := by decide +kernel
theorem dX6_waits_39 : decode cX6_waits 39 = .ok (.iload_n 1, 1) := by decide +kernel
theorem dX6_waits_40 : decode cX6_waits 40 = .ok (.if_icmp .ne 18, 3) := by decide +kernel
theorem dX6_waits_43 : decode cX6_waits 43 = .ok (.aload_n 0, 1) := by decide +kernel
theorem dX6_waits_44 : decode cX6_waits 44 = .ok (.getfield 34, 3) := by decide +kernel
theorem dX6_waits_47 : decode cX6_waits 47 = .ok (.aload 6, 2) := by decide +kernel
theorem dX6_waits_49 : decode cX6_waits 49 = .ok (.iconst 2, 1) := by decide +kernel
theorem dX6_waits_50 : decode cX6_waits 50 = .ok (.iaload, 1) := by decide +kernel
theorem dX6_waits_51 : decode cX6_waits 51 = .ok (.if_icmp .lt 7, 3) := by decide +kernel
theorem dX6_waits_54 : decode cX6_waits 54 = .ok (.iconst 1, 1) := by decide +kernel
theorem dX6_waits_55 : decode cX6_waits 55 = .ok (.goto 4, 3) := by decide +kernel
theorem dX6_waits_58 : decode cX6_waits 58 = .ok (.iconst 0, 1) := by decide +kernel
theorem dX6_waits_59 : decode cX6_waits 59 = .ok (.iadd, 1) := by decide +kernel
theorem dX6_waits_60 : decode cX6_waits 60 = .ok (.istore_n 2, 1) := by decide +kernel
theorem dX6_waits_61 : decode cX6_waits 61 = .ok (.iinc 5 1, 3) := by decide +kernel
theorem dX6_waits_64 : decode cX6_waits 64 = .ok (.goto (-50), 3) := by decide +kernel
theorem dX6_waits_67 : decode cX6_waits 67 = .ok (.iload_n 2, 1) := by decide +kernel
theorem dX6_waits_68 : decode cX6_waits 68 = .ok (.ireturn, 1) := by decide +kernel
theorem dX6_air_0 : decode cX6_air 0 = .ok (.iload_n 1, 1) := by decide +kernel
theorem dX6_air_1 : decode cX6_air 1 = .ok (.ifCond .lt 12, 3) := by decide +kernel
theorem dX6_air_4 : decode cX6_air 4 = .ok (.iload_n 1, 1) := by decide +kernel
theorem dX6_air_5 : decode cX6_air 5 = .ok (.aload_n 0, 1) := by decide +kernel
theorem dX6_air_6 : decode cX6_air 6 = .ok (.getfield 15, 3) := by decide +kernel
theorem dX6_air_9 : decode cX6_air 9 = .ok (.arraylength, 1) := by decide +kernel
theorem dX6_air_10 : decode cX6_air 10 = .ok (.if_icmp .lt 7, 3) := by decide +kernel
theorem dX6_air_13 : decode cX6_air 13 = .ok (.iconst 0, 1) := by decide +kernel
theorem dX6_air_14 : decode cX6_air 14 = .ok (.goto 11, 3) := by decide +kernel
theorem dX6_air_17 : decode cX6_air 17 = .ok (.aload_n 0, 1) := by decide +kernel
theorem dX6_air_18 : decode cX6_air 18 = .ok (.getfield 15, 3) := by decide +kernel
theorem dX6_air_21 : decode cX6_air 21 = .ok (.iload_n 1, 1) := by decide +kernel
theorem dX6_air_22 : decode cX6_air 22 = .ok (.aaload, 1) := by decide +kernel
theorem dX6_air_23 : decode cX6_air 23 = .ok (.iconst 1, 1) := by decide +kernel
theorem dX6_air_24 : decode cX6_air 24 = .ok (.iaload, 1) := by decide +kernel
theorem dX6_air_25 : decode cX6_air 25 = .ok (.ireturn, 1) := by decide +kernel
theorem dX6_those_0 : decode cX6_those 0 = .ok (.iconst 0, 1) := by decide +kernel
theorem dX6_those_1 : decode cX6_those 1 = .ok (.istore_n 2, 1) := by decide +kernel
theorem dX6_those_2 : decode cX6_those 2 = .ok (.aload_n 0, 1) := by decide +kernel
theorem dX6_those_3 : decode cX6_those 3 = .ok (.getfield 24, 3) := by decide +kernel
theorem dX6_those_6 : decode cX6_those 6 = .ok (.astore_n 3, 1) := by decide +kernel
theorem dX6_those_7 : decode cX6_those 7 = .ok (.aload_n 3, 1) := by decide +kernel
theorem dX6_those_8 : decode cX6_those 8 = .ok (.arraylength, 1) := by decide +kernel
theorem dX6_those_9 : decode cX6_those 9 = .ok (.istore 4, 2) := by decide +kernel
theorem dX6_those_11 : decode cX6_those 11 = .ok (.iconst 0, 1) := by decide +kernel
theorem dX6_those_12 : decode cX6_those 12 = .ok (.istore 5, 2) := by decide +kernel
theorem dX6_those_14 : decode cX6_those 14 = .ok (.iload 5, 2) := by decide +kernel
theorem dX6_those_16 : decode cX6_those 16 = .ok (.iload 4, 2) := by decide +kernel
theorem dX6_those_18 : decode cX6_those 18 = .ok (.if_icmp .ge 31, 3) := by decide +kernel
theorem dX6_those_21 : decode cX6_those 21 = .ok (.aload_n 3, 1) := by decide +kernel
theorem dX6_those_22 : decode cX6_those 22 = .ok (.iload 5, 2) := by decide +kernel
theorem dX6_those_24 : decode cX6_those 24 = .ok (.aaload, 1) := by decide +kernel
theorem dX6_those_25 : decode cX6_those 25 = .ok (.astore 6, 2) := by decide +kernel
theorem dX6_those_27 : decode cX6_those 27 = .ok (.iload_n 2, 1) := by decide +kernel
theorem dX6_those_28 : decode cX6_those 28 = .ok (.aload 6, 2) := by decide +kernel
theorem dX6_those_30 : decode cX6_those 30 = .ok (.iconst 3, 1) := by decide +kernel
theorem dX6_those_31 : decode cX6_those 31 = .ok (.iaload, 1) := by decide +kernel
theorem dX6_those_32 : decode cX6_those 32 = .ok (.iload_n 1, 1) := by decide +kernel
theorem dX6_those_33 : decode cX6_those 33 = .ok (.if_icmp .ne 7, 3) := by decide +kernel
theorem dX6_those_36 : decode cX6_those 36 = .ok (.iconst 1, 1) := by decide +kernel
theorem dX6_those_37 : decode cX6_those 37 = .ok (.goto 4, 3) := by decide +kernel
theorem dX6_those_40 : decode cX6_those 40 = .ok (.iconst 0, 1) := by decide +kernel
theorem dX6_those_41 : decode cX6_those 41 = .ok (.iadd, 1) := by decide +kernel
theorem dX6_those_42 : decode cX6_those 42 = .ok (.istore_n 2, 1) := by decide +kernel
theorem dX6_those_43 : decode cX6_those 43 = .ok (.iinc 5 1, 3) := by decide +kernel
theorem dX6_those_46 : decode cX6_those 46 = .ok (.goto (-32), 3) := by decide +kernel
theorem dX6_those_49 : decode cX6_those 49 = .ok (.iload_n 2, 1) := by decide +kernel
theorem dX6_those_50 : decode cX6_those 50 = .ok (.ireturn, 1) := by decide +kernel
theorem dX6_holds_0 : decode cX6_holds 0 = .ok (.aload_n 1, 1) := by decide +kernel
theorem dX6_holds_1 : decode cX6_holds 1 = .ok (.iconst 3, 1) := by decide +kernel
theorem dX6_holds_2 : decode cX6_holds 2 = .ok (.iaload, 1) := by decide +kernel
theorem dX6_holds_3 : decode cX6_holds 3 = .ok (.istore_n 2, 1) := by decide +kernel
theorem dX6_holds_4 : decode cX6_holds 4 = .ok (.aload_n 1, 1) := by decide +kernel
theorem dX6_holds_5 : decode cX6_holds 5 = .ok (.iconst 4, 1) := by decide +kernel
theorem dX6_holds_6 : decode cX6_holds 6 = .ok (.iaload, 1) := by decide +kernel
theorem dX6_holds_7 : decode cX6_holds 7 = .ok (.istore_n 3, 1) := by decide +kernel
theorem dX6_holds_8 : decode cX6_holds 8 = .ok (.aload_n 0, 1) := by decide +kernel
theorem dX6_holds_9 : decode cX6_holds 9 = .ok (.getfield 21, 3) := by decide +kernel
theorem dX6_holds_12 : decode cX6_holds 12 = .ok (.aload_n 1, 1) := by decide +kernel
theorem dX6_holds_13 : decode cX6_holds 13 = .ok (.iconst 5, 1) := by decide +kernel
theorem dX6_holds_14 : decode cX6_holds 14 = .ok (.iaload, 1) := by decide +kernel
theorem dX6_holds_15 : decode cX6_holds 15 = .ok (.aload_n 0, 1) := by decide +kernel
theorem dX6_holds_16 : decode cX6_holds 16 = .ok (.getfield 21, 3) := by decide +kernel
theorem dX6_holds_19 : decode cX6_holds 19 = .ok (.arraylength, 1) := by decide +kernel
theorem dX6_holds_20 : decode cX6_holds 20 = .ok (.irem, 1) := by decide +kernel
theorem dX6_holds_21 : decode cX6_holds 21 = .ok (.aaload, 1) := by decide +kernel
theorem dX6_holds_22 : decode cX6_holds 22 = .ok (.astore 4, 2) := by decide +kernel
theorem dX6_holds_24 : decode cX6_holds 24 = .ok (.aload_n 0, 1) := by decide +kernel
theorem dX6_holds_25 : decode cX6_holds 25 = .ok (.getfield 24, 3) := by decide +kernel
theorem dX6_holds_28 : decode cX6_holds 28 = .ok (.aload_n 1, 1) := by decide +kernel
theorem dX6_holds_29 : decode cX6_holds 29 = .ok (.iconst 5, 1) := by decide +kernel
theorem dX6_holds_30 : decode cX6_holds 30 = .ok (.iaload, 1) := by decide +kernel
theorem dX6_holds_31 : decode cX6_holds 31 = .ok (.aload_n 0, 1) := by decide +kernel
theorem dX6_holds_32 : decode cX6_holds 32 = .ok (.getfield 24, 3) := by decide +kernel
theorem dX6_holds_35 : decode cX6_holds 35 = .ok (.arraylength, 1) := by decide +kernel
theorem dX6_holds_36 : decode cX6_holds 36 = .ok (.irem, 1) := by decide +kernel
theorem dX6_holds_37 : decode cX6_holds 37 = .ok (.aaload, 1) := by decide +kernel
theorem dX6_holds_38 : decode cX6_holds 38 = .ok (.astore 5, 2) := by decide +kernel
theorem dX6_holds_40 : decode cX6_holds 40 = .ok (.aload_n 1, 1) := by decide +kernel
theorem dX6_holds_41 : decode cX6_holds 41 = .ok (.iconst 2, 1) := by decide +kernel
theorem dX6_holds_42 : decode cX6_holds 42 = .ok (.iaload, 1) := by decide +kernel
theorem dX6_holds_43 : decode cX6_holds 43 = .ok (.tableswitch 186 0 6 #[41, 61, 80, 102, 117, 131, 152], 41) := by decide +kernel
theorem dX6_holds_84 : decode cX6_holds 84 = .ok (.aload_n 0, 1) := by decide +kernel
theorem dX6_holds_85 : decode cX6_holds 85 = .ok (.getfield 34, 3) := by decide +kernel
theorem dX6_holds_88 : decode cX6_holds 88 = .ok (.iload_n 2, 1) := by decide +kernel
theorem dX6_holds_89 : decode cX6_holds 89 = .ok (.bipush 7, 2) := by decide +kernel
theorem dX6_holds_91 : decode cX6_holds 91 = .ok (.irem, 1) := by decide +kernel
theorem dX6_holds_92 : decode cX6_holds 92 = .ok (.iconst 1, 1) := by decide +kernel
theorem dX6_holds_93 : decode cX6_holds 93 = .ok (.iadd, 1) := by decide +kernel
theorem dX6_holds_94 : decode cX6_holds 94 = .ok (.irem, 1) := by decide +kernel
theorem dX6_holds_95 : decode cX6_holds 95 = .ok (.ifCond .ne 7, 3) := by decide +kernel
theorem dX6_holds_98 : decode cX6_holds 98 = .ok (.iconst 1, 1) := by decide +kernel
theorem dX6_holds_99 : decode cX6_holds 99 = .ok (.goto 4, 3) := by decide +kernel
theorem dX6_holds_102 : decode cX6_holds 102 = .ok (.iconst 0, 1) := by decide +kernel
theorem dX6_holds_103 : decode cX6_holds 103 = .ok (.ireturn, 1) := by decide +kernel
theorem dX6_holds_104 : decode cX6_holds 104 = .ok (.aload_n 0, 1) := by decide +kernel
theorem dX6_holds_105 : decode cX6_holds 105 = .ok (.iconst 1, 1) := by decide +kernel
theorem dX6_holds_106 : decode cX6_holds 106 = .ok (.invokevirtual 37, 3) := by decide +kernel
theorem dX6_holds_109 : decode cX6_holds 109 = .ok (.aload_n 0, 1) := by decide +kernel
theorem dX6_holds_110 : decode cX6_holds 110 = .ok (.iconst 0, 1) := by decide +kernel
theorem dX6_holds_111 : decode cX6_holds 111 = .ok (.invokevirtual 37, 3) := by decide +kernel
theorem dX6_holds_114 : decode cX6_holds 114 = .ok (.if_icmp .le 7, 3) := by decide +kernel
theorem dX6_holds_117 : decode cX6_holds 117 = .ok (.iconst 1, 1) := by decide +kernel
theorem dX6_holds_118 : decode cX6_holds 118 = .ok (.goto 4, 3) := by decide +kernel
theorem dX6_holds_121 : decode cX6_holds 121 = .ok (.iconst 0, 1) := by decide +kernel
theorem dX6_holds_122 : decode cX6_holds 122 = .ok (.ireturn, 1) := by decide +kernel
theorem dX6_holds_123 : decode cX6_holds 123 = .ok (.aload_n 0, 1) := by decide +kernel
theorem dX6_holds_124 : decode cX6_holds 124 = .ok (.iconst 0, 1) := by decide +kernel
theorem dX6_holds_125 : decode cX6_holds 125 = .ok (.invokevirtual 37, 3) := by decide +kernel
theorem dX6_holds_128 : decode cX6_holds 128 = .ok (.ifCond .ne 15, 3) := by decide +kernel
theorem dX6_holds_131 : decode cX6_holds 131 = .ok (.aload 5, 2) := by decide +kernel
theorem dX6_holds_133 : decode cX6_holds 133 = .ok (.iconst 3, 1) := by decide +kernel
theorem dX6_holds_134 : decode cX6_holds 134 = .ok (.iaload, 1) := by decide +kernel
theorem dX6_holds_135 : decode cX6_holds 135 = .ok (.iconst 1, 1) := by decide +kernel
theorem dX6_holds_136 : decode cX6_holds 136 = .ok (.if_icmp .eq 7, 3) := by decide +kernel
theorem dX6_holds_139 : decode cX6_holds 139 = .ok (.iconst 1, 1) := by decide +kernel
theorem dX6_holds_140 : decode cX6_holds 140 = .ok (.goto 4, 3) := by decide +kernel
theorem dX6_holds_143 : decode cX6_holds 143 = .ok (.iconst 0, 1) := by decide +kernel
theorem dX6_holds_144 : decode cX6_holds 144 = .ok (.ireturn, 1) := by decide +kernel
theorem dX6_holds_145 : decode cX6_holds 145 = .ok (.aload_n 0, 1) := by decide +kernel
theorem dX6_holds_146 : decode cX6_holds 146 = .ok (.iload_n 2, 1) := by decide +kernel
theorem dX6_holds_147 : decode cX6_holds 147 = .ok (.invokevirtual 41, 3) := by decide +kernel
theorem dX6_holds_150 : decode cX6_holds 150 = .ok (.iload_n 3, 1) := by decide +kernel
theorem dX6_holds_151 : decode cX6_holds 151 = .ok (.if_icmp .ge 7, 3) := by decide +kernel
theorem dX6_holds_154 : decode cX6_holds 154 = .ok (.iconst 1, 1) := by decide +kernel
theorem dX6_holds_155 : decode cX6_holds 155 = .ok (.goto 4, 3) := by decide +kernel
theorem dX6_holds_158 : decode cX6_holds 158 = .ok (.iconst 0, 1) := by decide +kernel
theorem dX6_holds_159 : decode cX6_holds 159 = .ok (.ireturn, 1) := by decide +kernel
theorem dX6_holds_160 : decode cX6_holds 160 = .ok (.aload 4, 2) := by decide +kernel
theorem dX6_holds_162 : decode cX6_holds 162 = .ok (.iconst 2, 1) := by decide +kernel
theorem dX6_holds_163 : decode cX6_holds 163 = .ok (.iaload, 1) := by decide +kernel
theorem dX6_holds_164 : decode cX6_holds 164 = .ok (.iload_n 3, 1) := by decide +kernel
theorem dX6_holds_165 : decode cX6_holds 165 = .ok (.if_icmp .ge 7, 3) := by decide +kernel
theorem dX6_holds_168 : decode cX6_holds 168 = .ok (.iconst 1, 1) := by decide +kernel
theorem dX6_holds_169 : decode cX6_holds 169 = .ok (.goto 4, 3) := by decide +kernel
theorem dX6_holds_172 : decode cX6_holds 172 = .ok (.iconst 0, 1) := by decide +kernel
theorem dX6_holds_173 : decode cX6_holds 173 = .ok (.ireturn, 1) := by decide +kernel
theorem dX6_holds_174 : decode cX6_holds 174 = .ok (.aload 4, 2) := by decide +kernel
theorem dX6_holds_176 : decode cX6_holds 176 = .ok (.iconst 3, 1) := by decide +kernel
theorem dX6_holds_177 : decode cX6_holds 177 = .ok (.iaload, 1) := by decide +kernel
theorem dX6_holds_178 : decode cX6_holds 178 = .ok (.ifCond .ge 11, 3) := by decide +kernel
theorem dX6_holds_181 : decode cX6_holds 181 = .ok (.aload 5, 2) := by decide +kernel
theorem dX6_holds_183 : decode cX6_holds 183 = .ok (.iconst 4, 1) := by decide +kernel
theorem dX6_holds_184 : decode cX6_holds 184 = .ok (.iaload, 1) := by decide +kernel
theorem dX6_holds_185 : decode cX6_holds 185 = .ok (.iload_n 2, 1) := by decide +kernel
theorem dX6_holds_186 : decode cX6_holds 186 = .ok (.if_icmp .lt 7, 3) := by decide +kernel
theorem dX6_holds_189 : decode cX6_holds 189 = .ok (.iconst 1, 1) := by decide +kernel
theorem dX6_holds_190 : decode cX6_holds 190 = .ok (.goto 4, 3) := by decide +kernel
theorem dX6_holds_193 : decode cX6_holds 193 = .ok (.iconst 0, 1) := by decide +kernel
theorem dX6_holds_194 : decode cX6_holds 194 = .ok (.ireturn, 1) := by decide +kernel
theorem dX6_holds_195 : decode cX6_holds 195 = .ok (.aload_n 0, 1) := by decide +kernel
theorem dX6_holds_196 : decode cX6_holds 196 = .ok (.getfield 44, 3) := by decide +kernel
theorem dX6_holds_199 : decode cX6_holds 199 = .ok (.iconst 1, 1) := by decide +kernel
theorem dX6_holds_200 : decode cX6_holds 200 = .ok (.if_icmp .ne 27, 3) := by decide +kernel
theorem dX6_holds_203 : decode cX6_holds 203 = .ok (.aload_n 0, 1) := by decide +kernel
theorem dX6_holds_204 : decode cX6_holds 204 = .ok (.getfield 34, 3) := by decide +kernel
theorem dX6_holds_207 : decode cX6_holds 207 = .ok (.iload_n 2, 1) := by decide +kernel
theorem dX6_holds_208 : decode cX6_holds 208 = .ok (.if_icmp .gt 15, 3) := by decide +kernel
theorem dX6_holds_211 : decode cX6_holds 211 = .ok (.aload_n 0, 1) := by decide +kernel
theorem dX6_holds_212 : decode cX6_holds 212 = .ok (.aload 5, 2) := by decide +kernel
theorem dX6_holds_214 : decode cX6_holds 214 = .ok (.iconst 4, 1) := by decide +kernel
theorem dX6_holds_215 : decode cX6_holds 215 = .ok (.iaload, 1) := by decide +kernel
theorem dX6_holds_216 : decode cX6_holds 216 = .ok (.invokevirtual 41, 3) := by decide +kernel
theorem dX6_holds_219 : decode cX6_holds 219 = .ok (.iload_n 3, 1) := by decide +kernel
theorem dX6_holds_220 : decode cX6_holds 220 = .ok (.if_icmp .le 7, 3) := by decide +kernel
theorem dX6_holds_223 : decode cX6_holds 223 = .ok (.iconst 1, 1) := by decide +kernel
theorem dX6_holds_224 : decode cX6_holds 224 = .ok (.goto 4, 3) := by decide +kernel
theorem dX6_holds_227 : decode cX6_holds 227 = .ok (.iconst 0, 1) := by decide +kernel
theorem dX6_holds_228 : decode cX6_holds 228 = .ok (.ireturn, 1) := by decide +kernel
theorem dX6_holds_229 : decode cX6_holds 229 = .ok (.aload_n 0, 1) := by decide +kernel
theorem dX6_holds_230 : decode cX6_holds 230 = .ok (.iconst 0, 1) := by decide +kernel
theorem dX6_holds_231 : decode cX6_holds 231 = .ok (.invokevirtual 37, 3) := by decide +kernel
theorem dX6_holds_234 : decode cX6_holds 234 = .ok (.iload_n 2, 1) := by decide +kernel
theorem dX6_holds_235 : decode cX6_holds 235 = .ok (.invokestatic 47, 3) := by decide +kernel
theorem dX6_holds_238 : decode cX6_holds 238 = .ok (.aload_n 0, 1) := by decide +kernel
theorem dX6_holds_239 : decode cX6_holds 239 = .ok (.iconst 1, 1) := by decide +kernel
theorem dX6_holds_240 : decode cX6_holds 240 = .ok (.invokevirtual 37, 3) := by decide +kernel
theorem dX6_holds_243 : decode cX6_holds 243 = .ok (.isub, 1) := by decide +kernel
theorem dX6_holds_244 : decode cX6_holds 244 = .ok (.iconst 1, 1) := by decide +kernel
theorem dX6_holds_245 : decode cX6_holds 245 = .ok (.if_icmp .ge 7, 3) := by decide +kernel
theorem dX6_holds_248 : decode cX6_holds 248 = .ok (.iconst 1, 1) := by decide +kernel
theorem dX6_holds_249 : decode cX6_holds 249 = .ok (.goto 4, 3) := by decide +kernel
theorem dX6_holds_252 : decode cX6_holds 252 = .ok (.iconst 0, 1) := by decide +kernel
theorem dX6_holds_253 : decode cX6_holds 253 = .ok (.ireturn, 1) := by decide +kernel
theorem dX6_isReady_0 : decode cX6_isReady 0 = .ok (.aload_n 0, 1) := by decide +kernel
theorem dX6_isReady_1 : decode cX6_isReady 1 = .ok (.getfield 21, 3) := by decide +kernel
theorem dX6_isReady_4 : decode cX6_isReady 4 = .ok (.iload_n 1, 1) := by decide +kernel
theorem dX6_isReady_5 : decode cX6_isReady 5 = .ok (.aaload, 1) := by decide +kernel
theorem dX6_isReady_6 : decode cX6_isReady 6 = .ok (.astore_n 2, 1) := by decide +kernel
theorem dX6_isReady_7 : decode cX6_isReady 7 = .ok (.aload_n 2, 1) := by decide +kernel
theorem dX6_isReady_8 : decode cX6_isReady 8 = .ok (.iconst 4, 1) := by decide +kernel
theorem dX6_isReady_9 : decode cX6_isReady 9 = .ok (.iaload, 1) := by decide +kernel
theorem dX6_isReady_10 : decode cX6_isReady 10 = .ok (.ifCond .ne 19, 3) := by decide +kernel
theorem dX6_isReady_13 : decode cX6_isReady 13 = .ok (.aload_n 2, 1) := by decide +kernel
theorem dX6_isReady_14 : decode cX6_isReady 14 = .ok (.iconst 2, 1) := by decide +kernel
theorem dX6_isReady_15 : decode cX6_isReady 15 = .ok (.iaload, 1) := by decide +kernel
theorem dX6_isReady_16 : decode cX6_isReady 16 = .ok (.bipush 20, 2) := by decide +kernel
theorem dX6_isReady_18 : decode cX6_isReady 18 = .ok (.if_icmp .lt 11, 3) := by decide +kernel
theorem dX6_isReady_21 : decode cX6_isReady 21 = .ok (.aload_n 0, 1) := by decide +kernel
theorem dX6_isReady_22 : decode cX6_isReady 22 = .ok (.iload_n 1, 1) := by decide +kernel
theorem dX6_isReady_23 : decode cX6_isReady 23 = .ok (.invokevirtual 53, 3) := by decide +kernel
theorem dX6_isReady_26 : decode cX6_isReady 26 = .ok (.ifCond .lt 5, 3) := by decide +kernel
theorem dX6_isReady_29 : decode cX6_isReady 29 = .ok (.iconst 0, 1) := by decide +kernel
theorem dX6_isReady_30 : decode cX6_isReady 30 = .ok (.ireturn, 1) := by decide +kernel
theorem dX6_isReady_31 : decode cX6_isReady 31 = .ok (.aload_n 0, 1) := by decide +kernel
theorem dX6_isReady_32 : decode cX6_isReady 32 = .ok (.getfield 27, 3) := by decide +kernel
theorem dX6_isReady_35 : decode cX6_isReady 35 = .ok (.astore_n 3, 1) := by decide +kernel
theorem dX6_isReady_36 : decode cX6_isReady 36 = .ok (.aload_n 3, 1) := by decide +kernel
theorem dX6_isReady_37 : decode cX6_isReady 37 = .ok (.arraylength, 1) := by decide +kernel
theorem dX6_isReady_38 : decode cX6_isReady 38 = .ok (.istore 4, 2) := by decide +kernel
theorem dX6_isReady_40 : decode cX6_isReady 40 = .ok (.iconst 0, 1) := by decide +kernel
theorem dX6_isReady_41 : decode cX6_isReady 41 = .ok (.istore 5, 2) := by decide +kernel
theorem dX6_isReady_43 : decode cX6_isReady 43 = .ok (.iload 5, 2) := by decide +kernel
theorem dX6_isReady_45 : decode cX6_isReady 45 = .ok (.iload 4, 2) := by decide +kernel
theorem dX6_isReady_47 : decode cX6_isReady 47 = .ok (.if_icmp .ge 42, 3) := by decide +kernel
theorem dX6_isReady_50 : decode cX6_isReady 50 = .ok (.aload_n 3, 1) := by decide +kernel
theorem dX6_isReady_51 : decode cX6_isReady 51 = .ok (.iload 5, 2) := by decide +kernel
theorem dX6_isReady_53 : decode cX6_isReady 53 = .ok (.aaload, 1) := by decide +kernel
theorem dX6_isReady_54 : decode cX6_isReady 54 = .ok (.astore 6, 2) := by decide +kernel
theorem dX6_isReady_56 : decode cX6_isReady 56 = .ok (.aload 6, 2) := by decide +kernel
theorem dX6_isReady_58 : decode cX6_isReady 58 = .ok (.iconst 0, 1) := by decide +kernel
theorem dX6_isReady_59 : decode cX6_isReady 59 = .ok (.iaload, 1) := by decide +kernel
theorem dX6_isReady_60 : decode cX6_isReady 60 = .ok (.iconst 1, 1) := by decide +kernel
theorem dX6_isReady_61 : decode cX6_isReady 61 = .ok (.if_icmp .ne 22, 3) := by decide +kernel
theorem dX6_isReady_64 : decode cX6_isReady 64 = .ok (.aload 6, 2) := by decide +kernel
theorem dX6_isReady_66 : decode cX6_isReady 66 = .ok (.iconst 1, 1) := by decide +kernel
theorem dX6_isReady_67 : decode cX6_isReady 67 = .ok (.iaload, 1) := by decide +kernel
theorem dX6_isReady_68 : decode cX6_isReady 68 = .ok (.iload_n 1, 1) := by decide +kernel
theorem dX6_isReady_69 : decode cX6_isReady 69 = .ok (.if_icmp .ne 14, 3) := by decide +kernel
theorem dX6_isReady_72 : decode cX6_isReady 72 = .ok (.aload_n 0, 1) := by decide +kernel
theorem dX6_isReady_73 : decode cX6_isReady 73 = .ok (.aload 6, 2) := by decide +kernel
theorem dX6_isReady_75 : decode cX6_isReady 75 = .ok (.invokevirtual 56, 3) := by decide +kernel
theorem dX6_isReady_78 : decode cX6_isReady 78 = .ok (.ifCond .eq 5, 3) := by decide +kernel
theorem dX6_isReady_81 : decode cX6_isReady 81 = .ok (.iconst 0, 1) := by decide +kernel
theorem dX6_isReady_82 : decode cX6_isReady 82 = .ok (.ireturn, 1) := by decide +kernel
theorem dX6_isReady_83 : decode cX6_isReady 83 = .ok (.iinc 5 1, 3) := by decide +kernel
theorem dX6_isReady_86 : decode cX6_isReady 86 = .ok (.goto (-43), 3) := by decide +kernel
theorem dX6_isReady_89 : decode cX6_isReady 89 = .ok (.iconst 1, 1) := by decide +kernel
theorem dX6_isReady_90 : decode cX6_isReady 90 = .ok (.ireturn, 1) := by decide +kernel
theorem dX6_canEnter_0 : decode cX6_canEnter 0 = .ok (.aload_n 0, 1) := by decide +kernel
theorem dX6_canEnter_1 : decode cX6_canEnter 1 = .ok (.getfield 24, 3) := by decide +kernel
theorem dX6_canEnter_4 : decode cX6_canEnter 4 = .ok (.iload_n 1, 1) := by decide +kernel
theorem dX6_canEnter_5 : decode cX6_canEnter 5 = .ok (.aaload, 1) := by decide +kernel
theorem dX6_canEnter_6 : decode cX6_canEnter 6 = .ok (.astore_n 2, 1) := by decide +kernel
theorem dX6_canEnter_7 : decode cX6_canEnter 7 = .ok (.aload_n 2, 1) := by decide +kernel
theorem dX6_canEnter_8 : decode cX6_canEnter 8 = .ok (.iconst 3, 1) := by decide +kernel
theorem dX6_canEnter_9 : decode cX6_canEnter 9 = .ok (.iaload, 1) := by decide +kernel
theorem dX6_canEnter_10 : decode cX6_canEnter 10 = .ok (.ifCond .ne 31, 3) := by decide +kernel
theorem dX6_canEnter_13 : decode cX6_canEnter 13 = .ok (.aload_n 2, 1) := by decide +kernel
theorem dX6_canEnter_14 : decode cX6_canEnter 14 = .ok (.iconst 2, 1) := by decide +kernel
theorem dX6_canEnter_15 : decode cX6_canEnter 15 = .ok (.iaload, 1) := by decide +kernel
theorem dX6_canEnter_16 : decode cX6_canEnter 16 = .ok (.aload_n 0, 1) := by decide +kernel
theorem dX6_canEnter_17 : decode cX6_canEnter 17 = .ok (.getfield 34, 3) := by decide +kernel
theorem dX6_canEnter_20 : decode cX6_canEnter 20 = .ok (.if_icmp .gt 21, 3) := by decide +kernel
theorem dX6_canEnter_23 : decode cX6_canEnter 23 = .ok (.aload_n 2, 1) := by decide +kernel
theorem dX6_canEnter_24 : decode cX6_canEnter 24 = .ok (.iconst 1, 1) := by decide +kernel
theorem dX6_canEnter_25 : decode cX6_canEnter 25 = .ok (.iaload, 1) := by decide +kernel
theorem dX6_canEnter_26 : decode cX6_canEnter 26 = .ok (.aload_n 0, 1) := by decide +kernel
theorem dX6_canEnter_27 : decode cX6_canEnter 27 = .ok (.getfield 44, 3) := by decide +kernel
theorem dX6_canEnter_30 : decode cX6_canEnter 30 = .ok (.if_icmp .ne 11, 3) := by decide +kernel
theorem dX6_canEnter_33 : decode cX6_canEnter 33 = .ok (.aload_n 0, 1) := by decide +kernel
theorem dX6_canEnter_34 : decode cX6_canEnter 34 = .ok (.getfield 15, 3) := by decide +kernel
theorem dX6_canEnter_37 : decode cX6_canEnter 37 = .ok (.arraylength, 1) := by decide +kernel
theorem dX6_canEnter_38 : decode cX6_canEnter 38 = .ok (.ifCond .ne 5, 3) := by decide +kernel
theorem dX6_canEnter_41 : decode cX6_canEnter 41 = .ok (.iconst 0, 1) := by decide +kernel
theorem dX6_canEnter_42 : decode cX6_canEnter 42 = .ok (.ireturn, 1) := by decide +kernel
theorem dX6_canEnter_43 : decode cX6_canEnter 43 = .ok (.aload_n 0, 1) := by decide +kernel
theorem dX6_canEnter_44 : decode cX6_canEnter 44 = .ok (.getfield 24, 3) := by decide +kernel
theorem dX6_canEnter_47 : decode cX6_canEnter 47 = .ok (.astore_n 3, 1) := by decide +kernel
theorem dX6_canEnter_48 : decode cX6_canEnter 48 = .ok (.aload_n 3, 1) := by decide +kernel
theorem dX6_canEnter_49 : decode cX6_canEnter 49 = .ok (.arraylength, 1) := by decide +kernel
theorem dX6_canEnter_50 : decode cX6_canEnter 50 = .ok (.istore 4, 2) := by decide +kernel
theorem dX6_canEnter_52 : decode cX6_canEnter 52 = .ok (.iconst 0, 1) := by decide +kernel
theorem dX6_canEnter_53 : decode cX6_canEnter 53 = .ok (.istore 5, 2) := by decide +kernel
theorem dX6_canEnter_55 : decode cX6_canEnter 55 = .ok (.iload 5, 2) := by decide +kernel
theorem dX6_canEnter_57 : decode cX6_canEnter 57 = .ok (.iload 4, 2) := by decide +kernel
theorem dX6_canEnter_59 : decode cX6_canEnter 59 = .ok (.if_icmp .ge 35, 3) := by decide +kernel
theorem dX6_canEnter_62 : decode cX6_canEnter 62 = .ok (.aload_n 3, 1) := by decide +kernel
theorem dX6_canEnter_63 : decode cX6_canEnter 63 = .ok (.iload 5, 2) := by decide +kernel
theorem dX6_canEnter_65 : decode cX6_canEnter 65 = .ok (.aaload, 1) := by decide +kernel
theorem dX6_canEnter_66 : decode cX6_canEnter 66 = .ok (.astore 6, 2) := by decide +kernel
theorem dX6_canEnter_68 : decode cX6_canEnter 68 = .ok (.aload 6, 2) := by decide +kernel
theorem dX6_canEnter_70 : decode cX6_canEnter 70 = .ok (.iconst 3, 1) := by decide +kernel
theorem dX6_canEnter_71 : decode cX6_canEnter 71 = .ok (.iaload, 1) := by decide +kernel
theorem dX6_canEnter_72 : decode cX6_canEnter 72 = .ok (.iconst 1, 1) := by decide +kernel
theorem dX6_canEnter_73 : decode cX6_canEnter 73 = .ok (.if_icmp .ne 15, 3) := by decide +kernel
theorem dX6_canEnter_76 : decode cX6_canEnter 76 = .ok (.aload 6, 2) := by decide +kernel
theorem dX6_canEnter_78 : decode cX6_canEnter 78 = .ok (.iconst 1, 1) := by decide +kernel
theorem dX6_canEnter_79 : decode cX6_canEnter 79 = .ok (.iaload, 1) := by decide +kernel
theorem dX6_canEnter_80 : decode cX6_canEnter 80 = .ok (.aload_n 2, 1) := by decide +kernel
theorem dX6_canEnter_81 : decode cX6_canEnter 81 = .ok (.iconst 1, 1) := by decide +kernel
theorem dX6_canEnter_82 : decode cX6_canEnter 82 = .ok (.iaload, 1) := by decide +kernel
theorem dX6_canEnter_83 : decode cX6_canEnter 83 = .ok (.if_icmp .eq 5, 3) := by decide +kernel
theorem dX6_canEnter_86 : decode cX6_canEnter 86 = .ok (.iconst 0, 1) := by decide +kernel
theorem dX6_canEnter_87 : decode cX6_canEnter 87 = .ok (.ireturn, 1) := by decide +kernel
theorem dX6_canEnter_88 : decode cX6_canEnter 88 = .ok (.iinc 5 1, 3) := by decide +kernel
theorem dX6_canEnter_91 : decode cX6_canEnter 91 = .ok (.goto (-36), 3) := by decide +kernel
theorem dX6_canEnter_94 : decode cX6_canEnter 94 = .ok (.iconst 0, 1) := by decide +kernel
theorem dX6_canEnter_95 : decode cX6_canEnter 95 = .ok (.istore_n 3, 1) := by decide +kernel
theorem dX6_canEnter_96 : decode cX6_canEnter 96 = .ok (.iload_n 3, 1) := by decide +kernel
theorem dX6_canEnter_97 : decode cX6_canEnter 97 = .ok (.iconst 4, 1) := by decide +kernel
theorem dX6_canEnter_98 : decode cX6_canEnter 98 = .ok (.if_icmp .ge 46, 3) := by decide +kernel
theorem dX6_canEnter_101 : decode cX6_canEnter 101 = .ok (.iload_n 3, 1) := by decide +kernel
theorem dX6_canEnter_102 : decode cX6_canEnter 102 = .ok (.aload_n 0, 1) := by decide +kernel
theorem dX6_canEnter_103 : decode cX6_canEnter 103 = .ok (.getfield 15, 3) := by decide +kernel
theorem dX6_canEnter_106 : decode cX6_canEnter 106 = .ok (.arraylength, 1) := by decide +kernel
theorem dX6_canEnter_107 : decode cX6_canEnter 107 = .ok (.if_icmp .ge 37, 3) := by decide +kernel
theorem dX6_canEnter_110 : decode cX6_canEnter 110 = .ok (.aload_n 0, 1) := by decide +kernel
theorem dX6_canEnter_111 : decode cX6_canEnter 111 = .ok (.aload_n 2, 1) := by decide +kernel
theorem dX6_canEnter_112 : decode cX6_canEnter 112 = .ok (.iconst 1, 1) := by decide +kernel
theorem dX6_canEnter_113 : decode cX6_canEnter 113 = .ok (.iaload, 1) := by decide +kernel
theorem dX6_canEnter_114 : decode cX6_canEnter 114 = .ok (.ifCond .ne 7, 3) := by decide +kernel
theorem dX6_canEnter_117 : decode cX6_canEnter 117 = .ok (.iload_n 3, 1) := by decide +kernel
theorem dX6_canEnter_118 : decode cX6_canEnter 118 = .ok (.goto 12, 3) := by decide +kernel
theorem dX6_canEnter_121 : decode cX6_canEnter 121 = .ok (.aload_n 0, 1) := by decide +kernel
theorem dX6_canEnter_122 : decode cX6_canEnter 122 = .ok (.getfield 15, 3) := by decide +kernel
theorem dX6_canEnter_125 : decode cX6_canEnter 125 = .ok (.arraylength, 1) := by decide +kernel
theorem dX6_canEnter_126 : decode cX6_canEnter 126 = .ok (.iconst 1, 1) := by decide +kernel
theorem dX6_canEnter_127 : decode cX6_canEnter 127 = .ok (.isub, 1) := by decide +kernel
theorem dX6_canEnter_128 : decode cX6_canEnter 128 = .ok (.iload_n 3, 1) := by decide +kernel
theorem dX6_canEnter_129 : decode cX6_canEnter 129 = .ok (.isub, 1) := by decide +kernel
theorem dX6_canEnter_130 : decode cX6_canEnter 130 = .ok (.invokevirtual 60, 3) := by decide +kernel
theorem dX6_canEnter_133 : decode cX6_canEnter 133 = .ok (.ifCond .lt 5, 3) := by decide +kernel
theorem dX6_canEnter_136 : decode cX6_canEnter 136 = .ok (.iconst 0, 1) := by decide +kernel
theorem dX6_canEnter_137 : decode cX6_canEnter 137 = .ok (.ireturn, 1) := by decide +kernel
theorem dX6_canEnter_138 : decode cX6_canEnter 138 = .ok (.iinc 3 1, 3) := by decide +kernel
theorem dX6_canEnter_141 : decode cX6_canEnter 141 = .ok (.goto (-45), 3) := by decide +kernel
theorem dX6_canEnter_144 : decode cX6_canEnter 144 = .ok (.aload_n 0, 1) := by decide +kernel
theorem dX6_canEnter_145 : decode cX6_canEnter 145 = .ok (.aload_n 2, 1) := by decide +kernel
theorem dX6_canEnter_146 : decode cX6_canEnter 146 = .ok (.bipush 7, 2) := by decide +kernel
theorem dX6_canEnter_148 : decode cX6_canEnter 148 = .ok (.iaload, 1) := by decide +kernel
theorem dX6_canEnter_149 : decode cX6_canEnter 149 = .ok (.invokevirtual 63, 3) := by decide +kernel
theorem dX6_canEnter_152 : decode cX6_canEnter 152 = .ok (.ifCond .eq 18, 3) := by decide +kernel
theorem dX6_canEnter_155 : decode cX6_canEnter 155 = .ok (.aload_n 0, 1) := by decide +kernel
theorem dX6_canEnter_156 : decode cX6_canEnter 156 = .ok (.aload_n 2, 1) := by decide +kernel
theorem dX6_canEnter_157 : decode cX6_canEnter 157 = .ok (.bipush 8, 2) := by decide +kernel
theorem dX6_canEnter_159 : decode cX6_canEnter 159 = .ok (.iaload, 1) := by decide +kernel
theorem dX6_canEnter_160 : decode cX6_canEnter 160 = .ok (.invokevirtual 63, 3) := by decide +kernel
theorem dX6_canEnter_163 : decode cX6_canEnter 163 = .ok (.ifCond .eq 7, 3) := by decide +kernel
theorem dX6_canEnter_166 : decode cX6_canEnter 166 = .ok (.iconst 1, 1) := by decide +kernel
theorem dX6_canEnter_167 : decode cX6_canEnter 167 = .ok (.goto 4, 3) := by decide +kernel
theorem dX6_canEnter_170 : decode cX6_canEnter 170 = .ok (.iconst 0, 1) := by decide +kernel
theorem dX6_canEnter_171 : decode cX6_canEnter 171 = .ok (.ireturn, 1) := by decide +kernel
theorem dX6_come_0 : decode cX6_come 0 = .ok (.aload_n 1, 1) := by decide +kernel
theorem dX6_come_1 : decode cX6_come 1 = .ok (.iconst 4, 1) := by decide +kernel
theorem dX6_come_2 : decode cX6_come 2 = .ok (.iload_n 2, 1) := by decide +kernel
theorem dX6_come_3 : decode cX6_come 3 = .ok (.iastore, 1) := by decide +kernel
theorem dX6_come_4 : decode cX6_come 4 = .ok (.bipush 7, 2) := by decide +kernel
theorem dX6_come_6 : decode cX6_come 6 = .ok (.istore_n 3, 1) := by decide +kernel
theorem dX6_come_7 : decode cX6_come 7 = .ok (.iload_n 3, 1) := by decide +kernel
theorem dX6_come_8 : decode cX6_come 8 = .ok (.bipush 9, 2) := by decide +kernel
theorem dX6_come_10 : decode cX6_come 10 = .ok (.if_icmp .ge 83, 3) := by decide +kernel
theorem dX6_come_13 : decode cX6_come 13 = .ok (.aload_n 0, 1) := by decide +kernel
theorem dX6_come_14 : decode cX6_come 14 = .ok (.getfield 21, 3) := by decide +kernel
theorem dX6_come_17 : decode cX6_come 17 = .ok (.aload_n 1, 1) := by decide +kernel
theorem dX6_come_18 : decode cX6_come 18 = .ok (.iload_n 3, 1) := by decide +kernel
theorem dX6_come_19 : decode cX6_come 19 = .ok (.iaload, 1) := by decide +kernel
theorem dX6_come_20 : decode cX6_come 20 = .ok (.aaload, 1) := by decide +kernel
theorem dX6_come_21 : decode cX6_come 21 = .ok (.astore 4, 2) := by decide +kernel
theorem dX6_come_23 : decode cX6_come 23 = .ok (.aload 4, 2) := by decide +kernel
theorem dX6_come_25 : decode cX6_come 25 = .ok (.iconst 3, 1) := by decide +kernel
theorem dX6_come_26 : decode cX6_come 26 = .ok (.iaload, 1) := by decide +kernel
theorem dX6_come_27 : decode cX6_come 27 = .ok (.ifCond .lt 11, 3) := by decide +kernel
theorem dX6_come_30 : decode cX6_come 30 = .ok (.aload 4, 2) := by decide +kernel
theorem dX6_come_32 : decode cX6_come 32 = .ok (.iconst 3, 1) := by decide +kernel
theorem dX6_come_33 : decode cX6_come 33 = .ok (.iaload, 1) := by decide +kernel
theorem dX6_come_34 : decode cX6_come 34 = .ok (.iload_n 2, 1) := by decide +kernel
theorem dX6_come_35 : decode cX6_come 35 = .ok (.if_icmp .ne 7, 3) := by decide +kernel
theorem dX6_come_38 : decode cX6_come 38 = .ok (.iconst 1, 1) := by decide +kernel
theorem dX6_come_39 : decode cX6_come 39 = .ok (.goto 4, 3) := by decide +kernel
theorem dX6_come_42 : decode cX6_come 42 = .ok (.iconst 0, 1) := by decide +kernel
theorem dX6_come_43 : decode cX6_come 43 = .ok (.istore 5, 2) := by decide +kernel
theorem dX6_come_45 : decode cX6_come 45 = .ok (.iload 5, 2) := by decide +kernel
theorem dX6_come_47 : decode cX6_come 47 = .ok (.ifCond .ne 6, 3) := by decide +kernel
theorem dX6_come_50 : decode cX6_come 50 = .ok (.goto 37, 3) := by decide +kernel
theorem dX6_come_53 : decode cX6_come 53 = .ok (.aload 4, 2) := by decide +kernel
theorem dX6_come_55 : decode cX6_come 55 = .ok (.iconst 3, 1) := by decide +kernel
theorem dX6_come_56 : decode cX6_come 56 = .ok (.aload_n 0, 1) := by decide +kernel
theorem dX6_come_57 : decode cX6_come 57 = .ok (.getfield 9, 3) := by decide +kernel
theorem dX6_come_60 : decode cX6_come 60 = .ok (.aload_n 0, 1) := by decide +kernel
theorem dX6_come_61 : decode cX6_come 61 = .ok (.getfield 15, 3) := by decide +kernel
theorem dX6_come_64 : decode cX6_come 64 = .ok (.iload_n 2, 1) := by decide +kernel
theorem dX6_come_65 : decode cX6_come 65 = .ok (.aaload, 1) := by decide +kernel
theorem dX6_come_66 : decode cX6_come 66 = .ok (.iconst 0, 1) := by decide +kernel
theorem dX6_come_67 : decode cX6_come 67 = .ok (.iaload, 1) := by decide +kernel
theorem dX6_come_68 : decode cX6_come 68 = .ok (.aaload, 1) := by decide +kernel
theorem dX6_come_69 : decode cX6_come 69 = .ok (.iconst 1, 1) := by decide +kernel
theorem dX6_come_70 : decode cX6_come 70 = .ok (.iaload, 1) := by decide +kernel
theorem dX6_come_71 : decode cX6_come 71 = .ok (.aload 4, 2) := by decide +kernel
theorem dX6_come_73 : decode cX6_come 73 = .ok (.iconst 0, 1) := by decide +kernel
theorem dX6_come_74 : decode cX6_come 74 = .ok (.iaload, 1) := by decide +kernel
theorem dX6_come_75 : decode cX6_come 75 = .ok (.iadd, 1) := by decide +kernel
theorem dX6_come_76 : decode cX6_come 76 = .ok (.bipush 12, 2) := by decide +kernel
theorem dX6_come_78 : decode cX6_come 78 = .ok (.if_icmp .le 7, 3) := by decide +kernel
theorem dX6_come_81 : decode cX6_come 81 = .ok (.iload_n 2, 1) := by decide +kernel
theorem dX6_come_82 : decode cX6_come 82 = .ok (.goto 4, 3) := by decide +kernel
theorem dX6_come_85 : decode cX6_come 85 = .ok (.iconst (-1), 1) := by decide +kernel
theorem dX6_come_86 : decode cX6_come 86 = .ok (.iastore, 1) := by decide +kernel
theorem dX6_come_87 : decode cX6_come 87 = .ok (.iinc 3 1, 3) := by decide +kernel
theorem dX6_come_90 : decode cX6_come 90 = .ok (.goto (-83), 3) := by decide +kernel
theorem dX6_come_93 : decode cX6_come 93 = .ok (.return_, 1) := by decide +kernel
theorem dX6_push_0 : decode cX6_push 0 = .ok (.iconst 0, 1) := by decide +kernel
theorem dX6_push_1 : decode cX6_push 1 = .ok (.istore_n 2, 1) := by decide +kernel
theorem dX6_push_2 : decode cX6_push 2 = .ok (.bipush 7, 2) := by decide +kernel
theorem dX6_push_4 : decode cX6_push 4 = .ok (.istore_n 3, 1) := by decide +kernel
theorem dX6_push_5 : decode cX6_push 5 = .ok (.iload_n 3, 1) := by decide +kernel
theorem dX6_push_6 : decode cX6_push 6 = .ok (.bipush 9, 2) := by decide +kernel
theorem dX6_push_8 : decode cX6_push 8 = .ok (.if_icmp .ge 45, 3) := by decide +kernel
theorem dX6_push_11 : decode cX6_push 11 = .ok (.aload_n 0, 1) := by decide +kernel
theorem dX6_push_12 : decode cX6_push 12 = .ok (.getfield 21, 3) := by decide +kernel
theorem dX6_push_15 : decode cX6_push 15 = .ok (.aload_n 1, 1) := by decide +kernel
theorem dX6_push_16 : decode cX6_push 16 = .ok (.iload_n 3, 1) := by decide +kernel
theorem dX6_push_17 : decode cX6_push 17 = .ok (.iaload, 1) := by decide +kernel
theorem dX6_push_18 : decode cX6_push 18 = .ok (.aaload, 1) := by decide +kernel
theorem dX6_push_19 : decode cX6_push 19 = .ok (.iconst 2, 1) := by decide +kernel
theorem dX6_push_20 : decode cX6_push 20 = .ok (.iaload, 1) := by decide +kernel
theorem dX6_push_21 : decode cX6_push 21 = .ok (.ifCond .eq 26, 3) := by decide +kernel
theorem dX6_push_24 : decode cX6_push 24 = .ok (.aload_n 1, 1) := by decide +kernel
theorem dX6_push_25 : decode cX6_push 25 = .ok (.iload_n 3, 1) := by decide +kernel
theorem dX6_push_26 : decode cX6_push 26 = .ok (.iaload, 1) := by decide +kernel
theorem dX6_push_27 : decode cX6_push 27 = .ok (.aload_n 0, 1) := by decide +kernel
theorem dX6_push_28 : decode cX6_push 28 = .ok (.getfield 30, 3) := by decide +kernel
theorem dX6_push_31 : decode cX6_push 31 = .ok (.if_icmp .eq 16, 3) := by decide +kernel
theorem dX6_push_34 : decode cX6_push 34 = .ok (.iload_n 2, 1) := by decide +kernel
theorem dX6_push_35 : decode cX6_push 35 = .ok (.aload_n 0, 1) := by decide +kernel
theorem dX6_push_36 : decode cX6_push 36 = .ok (.getfield 21, 3) := by decide +kernel
theorem dX6_push_39 : decode cX6_push 39 = .ok (.aload_n 1, 1) := by decide +kernel
theorem dX6_push_40 : decode cX6_push 40 = .ok (.iload_n 3, 1) := by decide +kernel
theorem dX6_push_41 : decode cX6_push 41 = .ok (.iaload, 1) := by decide +kernel
theorem dX6_push_42 : decode cX6_push 42 = .ok (.aaload, 1) := by decide +kernel
theorem dX6_push_43 : decode cX6_push 43 = .ok (.iconst 0, 1) := by decide +kernel
theorem dX6_push_44 : decode cX6_push 44 = .ok (.iaload, 1) := by decide +kernel
theorem dX6_push_45 : decode cX6_push 45 = .ok (.iadd, 1) := by decide +kernel
theorem dX6_push_46 : decode cX6_push 46 = .ok (.istore_n 2, 1) := by decide +kernel
theorem dX6_push_47 : decode cX6_push 47 = .ok (.iinc 3 1, 3) := by decide +kernel
theorem dX6_push_50 : decode cX6_push 50 = .ok (.goto (-45), 3) := by decide +kernel
theorem dX6_push_53 : decode cX6_push 53 = .ok (.aload_n 1, 1) := by decide +kernel
theorem dX6_push_54 : decode cX6_push 54 = .ok (.iconst 5, 1) := by decide +kernel
theorem dX6_push_55 : decode cX6_push 55 = .ok (.dup2, 1) := by decide +kernel
theorem dX6_push_56 : decode cX6_push 56 = .ok (.iaload, 1) := by decide +kernel
theorem dX6_push_57 : decode cX6_push 57 = .ok (.iload_n 2, 1) := by decide +kernel
theorem dX6_push_58 : decode cX6_push 58 = .ok (.aload_n 0, 1) := by decide +kernel
theorem dX6_push_59 : decode cX6_push 59 = .ok (.getfield 15, 3) := by decide +kernel
theorem dX6_push_62 : decode cX6_push 62 = .ok (.aload_n 1, 1) := by decide +kernel
theorem dX6_push_63 : decode cX6_push 63 = .ok (.iconst 4, 1) := by decide +kernel
theorem dX6_push_64 : decode cX6_push 64 = .ok (.iaload, 1) := by decide +kernel
theorem dX6_push_65 : decode cX6_push 65 = .ok (.aaload, 1) := by decide +kernel
theorem dX6_push_66 : decode cX6_push 66 = .ok (.iconst 1, 1) := by decide +kernel
theorem dX6_push_67 : decode cX6_push 67 = .ok (.iaload, 1) := by decide +kernel
theorem dX6_push_68 : decode cX6_push 68 = .ok (.imul, 1) := by decide +kernel
theorem dX6_push_69 : decode cX6_push 69 = .ok (.bipush 100, 2) := by decide +kernel
theorem dX6_push_71 : decode cX6_push 71 = .ok (.idiv, 1) := by decide +kernel
theorem dX6_push_72 : decode cX6_push 72 = .ok (.iadd, 1) := by decide +kernel
theorem dX6_push_73 : decode cX6_push 73 = .ok (.iastore, 1) := by decide +kernel
theorem dX6_push_74 : decode cX6_push 74 = .ok (.aload_n 1, 1) := by decide +kernel
theorem dX6_push_75 : decode cX6_push 75 = .ok (.iconst 5, 1) := by decide +kernel
theorem dX6_push_76 : decode cX6_push 76 = .ok (.iaload, 1) := by decide +kernel
theorem dX6_push_77 : decode cX6_push 77 = .ok (.aload_n 1, 1) := by decide +kernel
theorem dX6_push_78 : decode cX6_push 78 = .ok (.iconst 0, 1) := by decide +kernel
theorem dX6_push_79 : decode cX6_push 79 = .ok (.iaload, 1) := by decide +kernel
theorem dX6_push_80 : decode cX6_push 80 = .ok (.if_icmp .lt 129, 3) := by decide +kernel
theorem dX6_push_83 : decode cX6_push 83 = .ok (.aload_n 1, 1) := by decide +kernel
theorem dX6_push_84 : decode cX6_push 84 = .ok (.iconst 1, 1) := by decide +kernel
theorem dX6_push_85 : decode cX6_push 85 = .ok (.iaload, 1) := by decide +kernel
theorem dX6_push_86 : decode cX6_push 86 = .ok (.ifCond .ne 13, 3) := by decide +kernel
theorem dX6_push_89 : decode cX6_push 89 = .ok (.aload_n 0, 1) := by decide +kernel
theorem dX6_push_90 : decode cX6_push 90 = .ok (.getfield 15, 3) := by decide +kernel
theorem dX6_push_93 : decode cX6_push 93 = .ok (.arraylength, 1) := by decide +kernel
theorem dX6_push_94 : decode cX6_push 94 = .ok (.iconst 1, 1) := by decide +kernel
theorem dX6_push_95 : decode cX6_push 95 = .ok (.isub, 1) := by decide +kernel
theorem dX6_push_96 : decode cX6_push 96 = .ok (.goto 4, 3) := by decide +kernel
theorem dX6_push_99 : decode cX6_push 99 = .ok (.iconst 0, 1) := by decide +kernel
theorem dX6_push_100 : decode cX6_push 100 = .ok (.istore_n 3, 1) := by decide +kernel
theorem dX6_push_101 : decode cX6_push 101 = .ok (.aload_n 1, 1) := by decide +kernel
theorem dX6_push_102 : decode cX6_push 102 = .ok (.iconst 4, 1) := by decide +kernel
theorem dX6_push_103 : decode cX6_push 103 = .ok (.iaload, 1) := by decide +kernel
theorem dX6_push_104 : decode cX6_push 104 = .ok (.iload_n 3, 1) := by decide +kernel
theorem dX6_push_105 : decode cX6_push 105 = .ok (.if_icmp .ne 50, 3) := by decide +kernel
theorem dX6_push_108 : decode cX6_push 108 = .ok (.aload_n 1, 1) := by decide +kernel
theorem dX6_push_109 : decode cX6_push 109 = .ok (.iconst 3, 1) := by decide +kernel
theorem dX6_push_110 : decode cX6_push 110 = .ok (.iconst 2, 1) := by decide +kernel
theorem dX6_push_111 : decode cX6_push 111 = .ok (.iastore, 1) := by decide +kernel
theorem dX6_push_112 : decode cX6_push 112 = .ok (.aload_n 1, 1) := by decide +kernel
theorem dX6_push_113 : decode cX6_push 113 = .ok (.iconst 4, 1) := by decide +kernel
theorem dX6_push_114 : decode cX6_push 114 = .ok (.iconst (-1), 1) := by decide +kernel
theorem dX6_push_115 : decode cX6_push 115 = .ok (.iastore, 1) := by decide +kernel
theorem dX6_push_116 : decode cX6_push 116 = .ok (.aload_n 1, 1) := by decide +kernel
theorem dX6_push_117 : decode cX6_push 117 = .ok (.iconst 5, 1) := by decide +kernel
theorem dX6_push_118 : decode cX6_push 118 = .ok (.iconst 0, 1) := by decide +kernel
theorem dX6_push_119 : decode cX6_push 119 = .ok (.iastore, 1) := by decide +kernel
theorem dX6_push_120 : decode cX6_push 120 = .ok (.aload_n 1, 1) := by decide +kernel
theorem dX6_push_121 : decode cX6_push 121 = .ok (.bipush 6, 2) := by decide +kernel
theorem dX6_push_123 : decode cX6_push 123 = .ok (.aload_n 0, 1) := by decide +kernel
theorem dX6_push_124 : decode cX6_push 124 = .ok (.getfield 34, 3) := by decide +kernel
theorem dX6_push_127 : decode cX6_push 127 = .ok (.iastore, 1) := by decide +kernel
theorem dX6_push_128 : decode cX6_push 128 = .ok (.aload_n 0, 1) := by decide +kernel
theorem dX6_push_129 : decode cX6_push 129 = .ok (.getfield 21, 3) := by decide +kernel
theorem dX6_push_132 : decode cX6_push 132 = .ok (.aload_n 1, 1) := by decide +kernel
theorem dX6_push_133 : decode cX6_push 133 = .ok (.bipush 7, 2) := by decide +kernel
theorem dX6_push_135 : decode cX6_push 135 = .ok (.iaload, 1) := by decide +kernel
theorem dX6_push_136 : decode cX6_push 136 = .ok (.aaload, 1) := by decide +kernel
theorem dX6_push_137 : decode cX6_push 137 = .ok (.iconst 4, 1) := by decide +kernel
theorem dX6_push_138 : decode cX6_push 138 = .ok (.bipush 10, 2) := by decide +kernel
theorem dX6_push_140 : decode cX6_push 140 = .ok (.iastore, 1) := by decide +kernel
theorem dX6_push_141 : decode cX6_push 141 = .ok (.aload_n 0, 1) := by decide +kernel
theorem dX6_push_142 : decode cX6_push 142 = .ok (.getfield 21, 3) := by decide +kernel
theorem dX6_push_145 : decode cX6_push 145 = .ok (.aload_n 1, 1) := by decide +kernel
theorem dX6_push_146 : decode cX6_push 146 = .ok (.bipush 8, 2) := by decide +kernel
theorem dX6_push_148 : decode cX6_push 148 = .ok (.iaload, 1) := by decide +kernel
theorem dX6_push_149 : decode cX6_push 149 = .ok (.aaload, 1) := by decide +kernel
theorem dX6_push_150 : decode cX6_push 150 = .ok (.iconst 4, 1) := by decide +kernel
theorem dX6_push_151 : decode cX6_push 151 = .ok (.bipush 10, 2) := by decide +kernel
theorem dX6_push_153 : decode cX6_push 153 = .ok (.iastore, 1) := by decide +kernel
theorem dX6_push_154 : decode cX6_push 154 = .ok (.return_, 1) := by decide +kernel
theorem dX6_push_155 : decode cX6_push 155 = .ok (.aload_n 1, 1) := by decide +kernel
theorem dX6_push_156 : decode cX6_push 156 = .ok (.iconst 1, 1) := by decide +kernel
theorem dX6_push_157 : decode cX6_push 157 = .ok (.iaload, 1) := by decide +kernel
theorem dX6_push_158 : decode cX6_push 158 = .ok (.ifCond .ne 11, 3) := by decide +kernel
theorem dX6_push_161 : decode cX6_push 161 = .ok (.aload_n 1, 1) := by decide +kernel
theorem dX6_push_162 : decode cX6_push 162 = .ok (.iconst 4, 1) := by decide +kernel
theorem dX6_push_163 : decode cX6_push 163 = .ok (.iaload, 1) := by decide +kernel
theorem dX6_push_164 : decode cX6_push 164 = .ok (.iconst 1, 1) := by decide +kernel
theorem dX6_push_165 : decode cX6_push 165 = .ok (.iadd, 1) := by decide +kernel
theorem dX6_push_166 : decode cX6_push 166 = .ok (.goto 8, 3) := by decide +kernel
theorem dX6_push_169 : decode cX6_push 169 = .ok (.aload_n 1, 1) := by decide +kernel
theorem dX6_push_170 : decode cX6_push 170 = .ok (.iconst 4, 1) := by decide +kernel
theorem dX6_push_171 : decode cX6_push 171 = .ok (.iaload, 1) := by decide +kernel
theorem dX6_push_172 : decode cX6_push 172 = .ok (.iconst 1, 1) := by decide +kernel
theorem dX6_push_173 : decode cX6_push 173 = .ok (.isub, 1) := by decide +kernel
theorem dX6_push_174 : decode cX6_push 174 = .ok (.istore 4, 2) := by decide +kernel
theorem dX6_push_176 : decode cX6_push 176 = .ok (.aload_n 0, 1) := by decide +kernel
theorem dX6_push_177 : decode cX6_push 177 = .ok (.iload 4, 2) := by decide +kernel
theorem dX6_push_179 : decode cX6_push 179 = .ok (.invokevirtual 60, 3) := by decide +kernel
theorem dX6_push_182 : decode cX6_push 182 = .ok (.ifCond .lt 8, 3) := by decide +kernel
theorem dX6_push_185 : decode cX6_push 185 = .ok (.aload_n 1, 1) := by decide +kernel
theorem dX6_push_186 : decode cX6_push 186 = .ok (.iconst 5, 1) := by decide +kernel
theorem dX6_push_187 : decode cX6_push 187 = .ok (.iconst 0, 1) := by decide +kernel
theorem dX6_push_188 : decode cX6_push 188 = .ok (.iastore, 1) := by decide +kernel
theorem dX6_push_189 : decode cX6_push 189 = .ok (.return_, 1) := by decide +kernel
theorem dX6_push_190 : decode cX6_push 190 = .ok (.aload_n 1, 1) := by decide +kernel
theorem dX6_push_191 : decode cX6_push 191 = .ok (.iconst 5, 1) := by decide +kernel
theorem dX6_push_192 : decode cX6_push 192 = .ok (.dup2, 1) := by decide +kernel
theorem dX6_push_193 : decode cX6_push 193 = .ok (.iaload, 1) := by decide +kernel
theorem dX6_push_194 : decode cX6_push 194 = .ok (.aload_n 1, 1) := by decide +kernel
theorem dX6_push_195 : decode cX6_push 195 = .ok (.iconst 0, 1) := by decide +kernel
theorem dX6_push_196 : decode cX6_push 196 = .ok (.iaload, 1) := by decide +kernel
theorem dX6_push_197 : decode cX6_push 197 = .ok (.isub, 1) := by decide +kernel
theorem dX6_push_198 : decode cX6_push 198 = .ok (.iastore, 1) := by decide +kernel
theorem dX6_push_199 : decode cX6_push 199 = .ok (.aload_n 0, 1) := by decide +kernel
theorem dX6_push_200 : decode cX6_push 200 = .ok (.aload_n 1, 1) := by decide +kernel
theorem dX6_push_201 : decode cX6_push 201 = .ok (.iload 4, 2) := by decide +kernel
theorem dX6_push_203 : decode cX6_push 203 = .ok (.invokevirtual 67, 3) := by decide +kernel
theorem dX6_push_206 : decode cX6_push 206 = .ok (.goto (-132), 3) := by decide +kernel
theorem dX6_push_209 : decode cX6_push 209 = .ok (.return_, 1) := by decide +kernel
theorem mi_X6_boatAt : MInfo yX6_boatAt cX6_boatAt 3 (some .int) 1 := ⟨wq_852, wq_69, by decide, ⟨by decide +kernel, by decide +kernel, by decide +kernel⟩, by decide +kernel⟩
theorem mi_X6_boatOf : MInfo yX6_boatOf cX6_boatOf 3 (some .int) 1 := ⟨wq_860, wq_69, by decide, ⟨by decide +kernel, by decide +kernel, by decide +kernel⟩, by decide +kernel⟩
theorem mi_X6_waits : MInfo yX6_waits cX6_waits 7 (some .int) 1 := ⟨wq_839, wq_69, by decide, ⟨by decide +kernel, by decide +kernel, by decide +kernel⟩, by decide +kernel⟩
theorem mi_X6_air : MInfo yX6_air cX6_air 2 (some .int) 1 := ⟨wq_843, wq_69, by decide, ⟨by decide +kernel, by decide +kernel, by decide +kernel⟩, by decide +kernel⟩
theorem mi_X6_those : MInfo yX6_those cX6_those 7 (some .int) 1 := ⟨wq_890, wq_69, by decide, ⟨by decide +kernel, by decide +kernel, by decide +kernel⟩, by decide +kernel⟩
theorem mi_X6_holds : MInfo yX6_holds cX6_holds 6 (some .boolean) 1 := ⟨wq_835, wq_69, by decide, ⟨by decide +kernel, by decide +kernel, by decide +kernel⟩, by decide +kernel⟩
theorem mi_X6_isReady : MInfo yX6_isReady cX6_isReady 7 (some .boolean) 1 := ⟨wq_856, wq_69, by decide, ⟨by decide +kernel, by decide +kernel, by decide +kernel⟩, by decide +kernel⟩
theorem mi_X6_canEnter : MInfo yX6_canEnter cX6_canEnter 7 (some .boolean) 1 := ⟨wq_848, wq_69, by decide, ⟨by decide +kernel, by decide +kernel, by decide +kernel⟩, by decide +kernel⟩
theorem mi_X6_come : MInfo yX6_come cX6_come 6 none 2 := ⟨wq_865, wq_69, by decide, ⟨by decide +kernel, by decide +kernel, by decide +kernel⟩, by decide +kernel⟩
theorem mi_X6_push : MInfo yX6_push cX6_push 5 none 1 := ⟨wq_869, wq_69, by decide, ⟨by decide +kernel, by decide +kernel, by decide +kernel⟩, by decide +kernel⟩
def wl_X6_boatAt_2 (nn : Nat → Nat) (V : M2) (S : M2) (O : M2) (N : M2) (U : M2) (L : M2) (B : M2) (K : Int32 → Prop) : Nat → Int32 → Int32 → Prop
  | 0, _, _ => False
  | n + 1, v1, v2 => (((Int32.ofNat (nn 4)) ≤ v2 → K ((-1))) ∧ (¬ (Int32.ofNat (nn 4)) ≤ v2 → (inb v2 (nn 4) ∧ (inb v2 (nn 4) ∧ ((¬ (B v2.toInt.toNat 3) = 1 → (∀ v2_37 : Int32, v2_37 = v2 + 1 → wl_X6_boatAt_2 nn V S O N U L B K n v1 v2_37)) ∧ ((B v2.toInt.toNat 3) = 1 → (inb v2 (nn 4) ∧ (inb v2 (nn 4) ∧ ((¬ (B v2.toInt.toNat 4) = v1 → (∀ v2_37 : Int32, v2_37 = v2 + 1 → wl_X6_boatAt_2 nn V S O N U L B K n v1 v2_37)) ∧ ((B v2.toInt.toNat 4) = v1 → K v2))))))))))
def wp_X6_boatAt (nn : Nat → Nat) (V : M2) (S : M2) (O : M2) (N : M2) (U : M2) (L : M2) (B : M2) (x1 : Int32) (K : Int32 → Prop) : Prop := wl_X6_boatAt_2 nn V S O N U L B K fK x1 0
set_option maxRecDepth 100000 in
set_option maxHeartbeats 4000000 in
theorem c_X6_boatAt (l : Launch) (D : va_G) (Z : Nat → ClassId) (sa : Nat) (o : Nat → Nat) (ro : Nat → Nat → Nat) (nn : Nat → Nat) (V S O : M2) (N : M2) (U : M2) (L : M2) (B : M2) (sz : Nat) (x1 : Int32) (K : Int32 → Prop) (hm : wp_X6_boatAt nn V S O N U L B x1 K) : Met l yX6_boatAt (wy yX6_boatAt cX6_boatAt 3 (some .int)) (rk 1 0 0) (pre vwCl D Z (SM Z sa o ro nn V S O N U L B) sz [.ref (sa), .int x1]) (vp_Si K) 0 0 (fun _ => False) := by
  refine ro_of (ty := .int) (by decide +kernel) (Nat.le_of_ble_eq_true rfl) rfl ?_
  intro p e s m args below meth c Q hC hN hsz hP hD hK hret ls hl
  have hx := hC.1
  have hb := hC.2.1
  have hl : lv_has ls 3 [(0, .ref (sa)), (1, .int x1)] := hl
  have L2 : ∀ (n2 : Nat), ∀ (v1 : Int32) (v2 : Int32) (ls : Array Slot), wl_X6_boatAt_2 nn V S O N U L B K n2 v1 v2 → lv_has ls 3 [(0, .ref (sa)), (1, .int v1), (2, .int v2)] → W p l e (rk 1 0 0) s m args below meth c s.heap [] 0 0 Q (F0 m 2 ls []) := by
    intro n2
    induction n2 with
    | zero =>
      intro v1 v2 ls hm hl
      exact False.elim hm
    | succ n2 ih2 =>
      intro v1 v2 ls hm hl
      refine lv_iload_n hx hb dX6_boatAt_2 rfl (lv_at hl 2 rfl) ?_
      refine lv_aload_n hx hb dX6_boatAt_3 rfl (lv_at hl 0 rfl) ?_
      refine gSM_sim_6 hC hK hP wq_1177 dX6_boatAt_4 ?_
      refine w_alen (q0 := 5) (t0 := 3) hC hK hP rfl rfl dX6_boatAt_7 ?_
      refine lv_icmp_ge (tgt := 43) hx hb dX6_boatAt_8 (by decide) (fun c_8 => ?_) (fun c_8 => ?_)
      · have hm := hm.1 c_8
        refine lv_iconst (v := (-1)) hx hb dX6_boatAt_43 (by decide) ?_
        exact hret 44 _ _ hm rfl dX6_boatAt_44
      · have hm := hm.2 c_8
        refine lv_aload_n hx hb dX6_boatAt_11 rfl (lv_at hl 0 rfl) ?_
        refine gSM_sim_6 hC hK hP wq_1177 dX6_boatAt_12 ?_
        refine lv_iload_n hx hb dX6_boatAt_15 rfl (lv_at hl 2 rfl) ?_
        refine w_aaldR (q0 := 5) hC hK hP rfl hm.1 dX6_boatAt_16 ?_
        have hm := hm.2
        refine lv_iconst (v := 3) hx hb dX6_boatAt_17 (by decide) ?_
        refine wr_ld (jn := 3) (f := (fun X => SM Z sa o ro nn V S O N U L X)) (sm_4 Z sa o ro nn V S O N U L) hC hK hP hm.1 (by decide) rfl dX6_boatAt_18 ?_
        have hm := hm.2
        refine lv_iconst (v := 1) hx hb dX6_boatAt_19 (by decide) ?_
        refine lv_icmp_ne (tgt := 37) hx hb dX6_boatAt_20 (by decide) (fun c_20 => ?_) (fun c_20 => ?_)
        · have hm := hm.1 c_20
          obtain ⟨v2_37, ev2_37⟩ : ∃ y : Int32, y = v2 + 1 := ⟨_, rfl⟩
          have hm := hm v2_37 ev2_37
          refine lv_iinc (v := v2_37) (lv' := [(2, .int v2_37), (0, .ref (sa)), (1, .int v1)]) hx hb dX6_boatAt_37 hl (k := 2) rfl (by rw [ev2_37]; rfl) (by decide) rfl (fun ls hl => ?_)
          refine lv_goto (tgt := 2) hx hb dX6_boatAt_40 (by decide) ?_
          exact ih2 _ _ _ hm (lv_sub hl [1, 2, 0] rfl)
        · have hm := hm.2 c_20
          refine lv_aload_n hx hb dX6_boatAt_23 rfl (lv_at hl 0 rfl) ?_
          refine gSM_sim_6 hC hK hP wq_1177 dX6_boatAt_24 ?_
          refine lv_iload_n hx hb dX6_boatAt_27 rfl (lv_at hl 2 rfl) ?_
          refine w_aaldR (q0 := 5) hC hK hP rfl hm.1 dX6_boatAt_28 ?_
          have hm := hm.2
          refine lv_iconst (v := 4) hx hb dX6_boatAt_29 (by decide) ?_
          refine wr_ld (jn := 4) (f := (fun X => SM Z sa o ro nn V S O N U L X)) (sm_4 Z sa o ro nn V S O N U L) hC hK hP hm.1 (by decide) rfl dX6_boatAt_30 ?_
          have hm := hm.2
          refine lv_iload_n hx hb dX6_boatAt_31 rfl (lv_at hl 1 rfl) ?_
          refine lv_icmp_ne (tgt := 37) hx hb dX6_boatAt_32 (by decide) (fun c_32 => ?_) (fun c_32 => ?_)
          · have hm := hm.1 c_32
            obtain ⟨v2_37, ev2_37⟩ : ∃ y : Int32, y = v2 + 1 := ⟨_, rfl⟩
            have hm := hm v2_37 ev2_37
            refine lv_iinc (v := v2_37) (lv' := [(2, .int v2_37), (0, .ref (sa)), (1, .int v1)]) hx hb dX6_boatAt_37 hl (k := 2) rfl (by rw [ev2_37]; rfl) (by decide) rfl (fun ls hl => ?_)
            refine lv_goto (tgt := 2) hx hb dX6_boatAt_40 (by decide) ?_
            exact ih2 _ _ _ hm (lv_sub hl [1, 2, 0] rfl)
          · have hm := hm.2 c_32
            refine lv_iload_n hx hb dX6_boatAt_35 rfl (lv_at hl 2 rfl) ?_
            exact hret 36 _ _ hm rfl dX6_boatAt_36
  refine lv_iconst (v := 0) hx hb dX6_boatAt_0 (by decide) ?_
  refine lv_istore_n (lv' := [(2, .int 0), (0, .ref (sa)), (1, .int x1)]) hx hb dX6_boatAt_1 rfl hl (by decide) rfl (fun ls hl => ?_)
  exact L2 _ _ _ _ hm (lv_sub hl [1, 2, 0] rfl)
section KX6_boatAt
variable {p : Program} {l : Launch} {e : Env} {s : State} {m : MethodId} {args : Array Value} {below : List Frame} {meth : Method} {c : Code} {H H0 : Heap} {locs : List Loc} {cells slots : Nat} {Q : State → Prop} {R : Room} {rn mcR msR : Nat}
variable {pc : Nat} {ls : Array Slot} {rest : List Value} {A : Nat → Prop} {D : va_G}
variable {cc : ByteArray} {nL index : Nat} {own host : String}
theorem k_X6_boatAt {Z : Nat → ClassId} {sa : Nat} {o : Nat → Nat} {ro : Nat → Nat → Nat} {nn : Nat → Nat} {V S O : M2} {N : M2} {U : M2} {L : M2} {B : M2} {x1 : Int32} {K : Int32 → Prop} (hC : CallFix p m c cc nL s args lw_g own) (hN : NW s) (hK : va_K D vwCl (tysG Z) s) (hP : va_P D vwCl (SM Z sa o ro nn V S O N U L B) H) (hD : va_D (fun _ => True) (SM Z sa o ro nn V S O N U L B)) (hm : wp_X6_boatAt nn V S O N U L B x1 K) (hl : Cond.methodLink own index yX6_boatAt ∈ lw_g) (hlt : 1 < rn) (hsize : ls.size = nL) (hW : (rest.map fun v => v.category).sum ≤ 8) (hf : cells + 0 ≤ mcR ∧ slots + 0 ≤ msR) (hdg : decode cc pc = .ok (.invokevirtual index, 3)) (kk : ∀ r : Int32, K r → W p l e (rk rn mcR msR) s m args below meth c H locs cells slots Q (F0 m (pc + 3) ls (.int r :: rest))) : W p l e (rk rn mcR msR) s m args below meth c H locs cells slots Q (F0 m pc ls (.int x1 :: .ref (sa) :: rest)) :=
  ro_go (runV (As := [.int x1]) hC hN (c_X6_boatAt l D Z sa o ro nn V S O N U L B H.size x1 K hm) mi_X6_boatAt hl wq_850 wq_851 hlt hP hD hK (q0 := 0) rfl rfl rfl hsize rfl hW hdg hf) kk
end KX6_boatAt
def wl_X6_boatOf_2 (nn : Nat → Nat) (V : M2) (S : M2) (O : M2) (N : M2) (U : M2) (L : M2) (B : M2) (K : Int32 → Prop) : Nat → Int32 → Int32 → Prop
  | 0, _, _ => False
  | n + 1, v1, v2 => (((Int32.ofNat (nn 4)) ≤ v2 → K ((-1))) ∧ (¬ (Int32.ofNat (nn 4)) ≤ v2 → (inb v2 (nn 4) ∧ (inb v2 (nn 4) ∧ ((¬ (B v2.toInt.toNat 3) = 1 → (∀ v2_51 : Int32, v2_51 = v2 + 1 → wl_X6_boatOf_2 nn V S O N U L B K n v1 v2_51)) ∧ ((B v2.toInt.toNat 3) = 1 → (inb v2 (nn 4) ∧ (inb v2 (nn 4) ∧ (((B v2.toInt.toNat 7) = v1 → K v2) ∧ (¬ (B v2.toInt.toNat 7) = v1 → (inb v2 (nn 4) ∧ (inb v2 (nn 4) ∧ ((¬ (B v2.toInt.toNat 8) = v1 → (∀ v2_51 : Int32, v2_51 = v2 + 1 → wl_X6_boatOf_2 nn V S O N U L B K n v1 v2_51)) ∧ ((B v2.toInt.toNat 8) = v1 → K v2))))))))))))))
def wp_X6_boatOf (nn : Nat → Nat) (V : M2) (S : M2) (O : M2) (N : M2) (U : M2) (L : M2) (B : M2) (x1 : Int32) (K : Int32 → Prop) : Prop := wl_X6_boatOf_2 nn V S O N U L B K fK x1 0
set_option maxRecDepth 100000 in
set_option maxHeartbeats 4000000 in
theorem c_X6_boatOf (l : Launch) (D : va_G) (Z : Nat → ClassId) (sa : Nat) (o : Nat → Nat) (ro : Nat → Nat → Nat) (nn : Nat → Nat) (V S O : M2) (N : M2) (U : M2) (L : M2) (B : M2) (sz : Nat) (x1 : Int32) (K : Int32 → Prop) (hm : wp_X6_boatOf nn V S O N U L B x1 K) : Met l yX6_boatOf (wy yX6_boatOf cX6_boatOf 3 (some .int)) (rk 1 0 0) (pre vwCl D Z (SM Z sa o ro nn V S O N U L B) sz [.ref (sa), .int x1]) (vp_Si K) 0 0 (fun _ => False) := by
  refine ro_of (ty := .int) (by decide +kernel) (Nat.le_of_ble_eq_true rfl) rfl ?_
  intro p e s m args below meth c Q hC hN hsz hP hD hK hret ls hl
  have hx := hC.1
  have hb := hC.2.1
  have hl : lv_has ls 3 [(0, .ref (sa)), (1, .int x1)] := hl
  have L2 : ∀ (n2 : Nat), ∀ (v1 : Int32) (v2 : Int32) (ls : Array Slot), wl_X6_boatOf_2 nn V S O N U L B K n2 v1 v2 → lv_has ls 3 [(0, .ref (sa)), (1, .int v1), (2, .int v2)] → W p l e (rk 1 0 0) s m args below meth c s.heap [] 0 0 Q (F0 m 2 ls []) := by
    intro n2
    induction n2 with
    | zero =>
      intro v1 v2 ls hm hl
      exact False.elim hm
    | succ n2 ih2 =>
      intro v1 v2 ls hm hl
      refine lv_iload_n hx hb dX6_boatOf_2 rfl (lv_at hl 2 rfl) ?_
      refine lv_aload_n hx hb dX6_boatOf_3 rfl (lv_at hl 0 rfl) ?_
      refine gSM_sim_6 hC hK hP wq_1177 dX6_boatOf_4 ?_
      refine w_alen (q0 := 5) (t0 := 3) hC hK hP rfl rfl dX6_boatOf_7 ?_
      refine lv_icmp_ge (tgt := 57) hx hb dX6_boatOf_8 (by decide) (fun c_8 => ?_) (fun c_8 => ?_)
      · have hm := hm.1 c_8
        refine lv_iconst (v := (-1)) hx hb dX6_boatOf_57 (by decide) ?_
        exact hret 58 _ _ hm rfl dX6_boatOf_58
      · have hm := hm.2 c_8
        refine lv_aload_n hx hb dX6_boatOf_11 rfl (lv_at hl 0 rfl) ?_
        refine gSM_sim_6 hC hK hP wq_1177 dX6_boatOf_12 ?_
        refine lv_iload_n hx hb dX6_boatOf_15 rfl (lv_at hl 2 rfl) ?_
        refine w_aaldR (q0 := 5) hC hK hP rfl hm.1 dX6_boatOf_16 ?_
        have hm := hm.2
        refine lv_iconst (v := 3) hx hb dX6_boatOf_17 (by decide) ?_
        refine wr_ld (jn := 3) (f := (fun X => SM Z sa o ro nn V S O N U L X)) (sm_4 Z sa o ro nn V S O N U L) hC hK hP hm.1 (by decide) rfl dX6_boatOf_18 ?_
        have hm := hm.2
        refine lv_iconst (v := 1) hx hb dX6_boatOf_19 (by decide) ?_
        refine lv_icmp_ne (tgt := 51) hx hb dX6_boatOf_20 (by decide) (fun c_20 => ?_) (fun c_20 => ?_)
        · have hm := hm.1 c_20
          obtain ⟨v2_51, ev2_51⟩ : ∃ y : Int32, y = v2 + 1 := ⟨_, rfl⟩
          have hm := hm v2_51 ev2_51
          refine lv_iinc (v := v2_51) (lv' := [(2, .int v2_51), (0, .ref (sa)), (1, .int v1)]) hx hb dX6_boatOf_51 hl (k := 2) rfl (by rw [ev2_51]; rfl) (by decide) rfl (fun ls hl => ?_)
          refine lv_goto (tgt := 2) hx hb dX6_boatOf_54 (by decide) ?_
          exact ih2 _ _ _ hm (lv_sub hl [1, 2, 0] rfl)
        · have hm := hm.2 c_20
          refine lv_aload_n hx hb dX6_boatOf_23 rfl (lv_at hl 0 rfl) ?_
          refine gSM_sim_6 hC hK hP wq_1177 dX6_boatOf_24 ?_
          refine lv_iload_n hx hb dX6_boatOf_27 rfl (lv_at hl 2 rfl) ?_
          refine w_aaldR (q0 := 5) hC hK hP rfl hm.1 dX6_boatOf_28 ?_
          have hm := hm.2
          refine lv_bipush (v := 7) hx hb dX6_boatOf_29 (by decide) ?_
          refine wr_ld (jn := 7) (f := (fun X => SM Z sa o ro nn V S O N U L X)) (sm_4 Z sa o ro nn V S O N U L) hC hK hP hm.1 (by decide) rfl dX6_boatOf_31 ?_
          have hm := hm.2
          refine lv_iload_n hx hb dX6_boatOf_32 rfl (lv_at hl 1 rfl) ?_
          refine lv_icmp_eq (tgt := 49) hx hb dX6_boatOf_33 (by decide) (fun c_33 => ?_) (fun c_33 => ?_)
          · have hm := hm.1 c_33
            refine lv_iload_n hx hb dX6_boatOf_49 rfl (lv_at hl 2 rfl) ?_
            exact hret 50 _ _ hm rfl dX6_boatOf_50
          · have hm := hm.2 c_33
            refine lv_aload_n hx hb dX6_boatOf_36 rfl (lv_at hl 0 rfl) ?_
            refine gSM_sim_6 hC hK hP wq_1177 dX6_boatOf_37 ?_
            refine lv_iload_n hx hb dX6_boatOf_40 rfl (lv_at hl 2 rfl) ?_
            refine w_aaldR (q0 := 5) hC hK hP rfl hm.1 dX6_boatOf_41 ?_
            have hm := hm.2
            refine lv_bipush (v := 8) hx hb dX6_boatOf_42 (by decide) ?_
            refine wr_ld (jn := 8) (f := (fun X => SM Z sa o ro nn V S O N U L X)) (sm_4 Z sa o ro nn V S O N U L) hC hK hP hm.1 (by decide) rfl dX6_boatOf_44 ?_
            have hm := hm.2
            refine lv_iload_n hx hb dX6_boatOf_45 rfl (lv_at hl 1 rfl) ?_
            refine lv_icmp_ne (tgt := 51) hx hb dX6_boatOf_46 (by decide) (fun c_46 => ?_) (fun c_46 => ?_)
            · have hm := hm.1 c_46
              obtain ⟨v2_51, ev2_51⟩ : ∃ y : Int32, y = v2 + 1 := ⟨_, rfl⟩
              have hm := hm v2_51 ev2_51
              refine lv_iinc (v := v2_51) (lv' := [(2, .int v2_51), (0, .ref (sa)), (1, .int v1)]) hx hb dX6_boatOf_51 hl (k := 2) rfl (by rw [ev2_51]; rfl) (by decide) rfl (fun ls hl => ?_)
              refine lv_goto (tgt := 2) hx hb dX6_boatOf_54 (by decide) ?_
              exact ih2 _ _ _ hm (lv_sub hl [1, 2, 0] rfl)
            · have hm := hm.2 c_46
              refine lv_iload_n hx hb dX6_boatOf_49 rfl (lv_at hl 2 rfl) ?_
              exact hret 50 _ _ hm rfl dX6_boatOf_50
  refine lv_iconst (v := 0) hx hb dX6_boatOf_0 (by decide) ?_
  refine lv_istore_n (lv' := [(2, .int 0), (0, .ref (sa)), (1, .int x1)]) hx hb dX6_boatOf_1 rfl hl (by decide) rfl (fun ls hl => ?_)
  exact L2 _ _ _ _ hm (lv_sub hl [1, 2, 0] rfl)
section KX6_boatOf
variable {p : Program} {l : Launch} {e : Env} {s : State} {m : MethodId} {args : Array Value} {below : List Frame} {meth : Method} {c : Code} {H H0 : Heap} {locs : List Loc} {cells slots : Nat} {Q : State → Prop} {R : Room} {rn mcR msR : Nat}
variable {pc : Nat} {ls : Array Slot} {rest : List Value} {A : Nat → Prop} {D : va_G}
variable {cc : ByteArray} {nL index : Nat} {own host : String}
theorem k_X6_boatOf {Z : Nat → ClassId} {sa : Nat} {o : Nat → Nat} {ro : Nat → Nat → Nat} {nn : Nat → Nat} {V S O : M2} {N : M2} {U : M2} {L : M2} {B : M2} {x1 : Int32} {K : Int32 → Prop} (hC : CallFix p m c cc nL s args lw_g own) (hN : NW s) (hK : va_K D vwCl (tysG Z) s) (hP : va_P D vwCl (SM Z sa o ro nn V S O N U L B) H) (hD : va_D (fun _ => True) (SM Z sa o ro nn V S O N U L B)) (hm : wp_X6_boatOf nn V S O N U L B x1 K) (hl : Cond.methodLink own index yX6_boatOf ∈ lw_g) (hlt : 1 < rn) (hsize : ls.size = nL) (hW : (rest.map fun v => v.category).sum ≤ 8) (hf : cells + 0 ≤ mcR ∧ slots + 0 ≤ msR) (hdg : decode cc pc = .ok (.invokevirtual index, 3)) (kk : ∀ r : Int32, K r → W p l e (rk rn mcR msR) s m args below meth c H locs cells slots Q (F0 m (pc + 3) ls (.int r :: rest))) : W p l e (rk rn mcR msR) s m args below meth c H locs cells slots Q (F0 m pc ls (.int x1 :: .ref (sa) :: rest)) :=
  ro_go (runV (As := [.int x1]) hC hN (c_X6_boatOf l D Z sa o ro nn V S O N U L B H.size x1 K hm) mi_X6_boatOf hl wq_858 wq_859 hlt hP hD hK (q0 := 0) rfl rfl rfl hsize rfl hW hdg hf) kk
end KX6_boatOf
def wl_X6_waits_14 (nn : Nat → Nat) (V : M2) (S : M2) (O : M2) (N : M2) (U : M2) (L : M2) (B : M2) (K : Int32 → Prop) : Nat → Int32 → Int32 → Int32 → Int32 → Prop
  | 0, _, _, _, _ => False
  | n + 1, v1, v2, v4, v5 => ((v4 ≤ v5 → K v2) ∧ (¬ v4 ≤ v5 → (inb v5 (nn 4) ∧ (inb v5 (nn 4) ∧ ((¬ (B v5.toInt.toNat 3) = 0 → (∀ v2_60, v2_60 = v2 + 0 → (∀ v5_61 : Int32, v5_61 = v5 + 1 → wl_X6_waits_14 nn V S O N U L B K n v1 v2_60 v4 v5_61))) ∧ ((B v5.toInt.toNat 3) = 0 → (inb v5 (nn 4) ∧ ((¬ (B v5.toInt.toNat 1) = v1 → (∀ v2_60, v2_60 = v2 + 0 → (∀ v5_61 : Int32, v5_61 = v5 + 1 → wl_X6_waits_14 nn V S O N U L B K n v1 v2_60 v4 v5_61))) ∧ ((B v5.toInt.toNat 1) = v1 → (inb v5 (nn 4) ∧ (((N 0 0) < (B v5.toInt.toNat 2) → (∀ v2_60, v2_60 = v2 + 0 → (∀ v5_61 : Int32, v5_61 = v5 + 1 → wl_X6_waits_14 nn V S O N U L B K n v1 v2_60 v4 v5_61))) ∧ (¬ (N 0 0) < (B v5.toInt.toNat 2) → (∀ v2_60, v2_60 = v2 + 1 → (∀ v5_61 : Int32, v5_61 = v5 + 1 → wl_X6_waits_14 nn V S O N U L B K n v1 v2_60 v4 v5_61))))))))))))))
def wp_X6_waits (nn : Nat → Nat) (V : M2) (S : M2) (O : M2) (N : M2) (U : M2) (L : M2) (B : M2) (x1 : Int32) (K : Int32 → Prop) : Prop := (∀ v4_9, v4_9 = Int32.ofNat (nn 4) → wl_X6_waits_14 nn V S O N U L B K fK x1 0 v4_9 0)
set_option maxRecDepth 100000 in
set_option maxHeartbeats 4000000 in
theorem c_X6_waits (l : Launch) (D : va_G) (Z : Nat → ClassId) (sa : Nat) (o : Nat → Nat) (ro : Nat → Nat → Nat) (nn : Nat → Nat) (V S O : M2) (N : M2) (U : M2) (L : M2) (B : M2) (sz : Nat) (x1 : Int32) (K : Int32 → Prop) (hm : wp_X6_waits nn V S O N U L B x1 K) : Met l yX6_waits (wy yX6_waits cX6_waits 7 (some .int)) (rk 1 0 0) (pre vwCl D Z (SM Z sa o ro nn V S O N U L B) sz [.ref (sa), .int x1]) (vp_Si K) 0 0 (fun _ => False) := by
  refine ro_of (ty := .int) (by decide +kernel) (Nat.le_of_ble_eq_true rfl) rfl ?_
  intro p e s m args below meth c Q hC hN hsz hP hD hK hret ls hl
  have hx := hC.1
  have hb := hC.2.1
  have hl : lv_has ls 7 [(0, .ref (sa)), (1, .int x1)] := hl
  have L14 : ∀ (n14 : Nat), ∀ (v1 : Int32) (v2 : Int32) (v4 : Int32) (v5 : Int32) (ls : Array Slot), wl_X6_waits_14 nn V S O N U L B K n14 v1 v2 v4 v5 → lv_has ls 7 [(0, .ref (sa)), (1, .int v1), (2, .int v2), (3, .ref (o 4)), (4, .int v4), (5, .int v5)] → W p l e (rk 1 0 0) s m args below meth c s.heap [] 0 0 Q (F0 m 14 ls []) := by
    intro n14
    induction n14 with
    | zero =>
      intro v1 v2 v4 v5 ls hm hl
      exact False.elim hm
    | succ n14 ih14 =>
      intro v1 v2 v4 v5 ls hm hl
      refine lv_iload hx hb dX6_waits_14 (lv_at hl 5 rfl) ?_
      refine lv_iload hx hb dX6_waits_16 (lv_at hl 4 rfl) ?_
      refine lv_icmp_ge (tgt := 67) hx hb dX6_waits_18 (by decide) (fun c_18 => ?_) (fun c_18 => ?_)
      · have hm := hm.1 c_18
        refine lv_iload_n hx hb dX6_waits_67 rfl (lv_at hl 2 rfl) ?_
        exact hret 68 _ _ hm rfl dX6_waits_68
      · have hm := hm.2 c_18
        refine lv_aload_n hx hb dX6_waits_21 rfl (lv_at hl 3 rfl) ?_
        refine lv_iload hx hb dX6_waits_22 (lv_at hl 5 rfl) ?_
        refine w_aaldR (q0 := 5) hC hK hP rfl hm.1 dX6_waits_24 ?_
        have hm := hm.2
        refine lv_astore (lv' := [(6, .ref (ro 4 v5.toInt.toNat)), (0, .ref (sa)), (1, .int v1), (2, .int v2), (3, .ref (o 4)), (4, .int v4), (5, .int v5)]) hx hb dX6_waits_25 hl (by decide) rfl (fun ls hl => ?_)
        refine lv_iload_n hx hb dX6_waits_27 rfl (lv_at hl 3 rfl) ?_
        refine lv_aload hx hb dX6_waits_28 (lv_at hl 0 rfl) ?_
        refine lv_iconst (v := 3) hx hb dX6_waits_30 (by decide) ?_
        refine wr_ld (jn := 3) (f := (fun X => SM Z sa o ro nn V S O N U L X)) (sm_4 Z sa o ro nn V S O N U L) hC hK hP hm.1 (by decide) rfl dX6_waits_31 ?_
        have hm := hm.2
        refine lv_if_ne (tgt := 58) hx hb dX6_waits_32 (by decide) (fun c_32 => ?_) (fun c_32 => ?_)
        · have hm := hm.1 c_32
          refine lv_iconst (v := 0) hx hb dX6_waits_58 (by decide) ?_
          refine lv_iadd hx hb dX6_waits_59 ?_
          refine lv_topi (fun v2_60 ev2_60 => ?_)
          have hm := hm v2_60 ev2_60
          refine lv_istore_n (lv' := [(2, .int v2_60), (6, .ref (ro 4 v5.toInt.toNat)), (0, .ref (sa)), (1, .int v1), (3, .ref (o 4)), (4, .int v4), (5, .int v5)]) hx hb dX6_waits_60 rfl hl (by decide) rfl (fun ls hl => ?_)
          obtain ⟨v5_61, ev5_61⟩ : ∃ y : Int32, y = v5 + 1 := ⟨_, rfl⟩
          have hm := hm v5_61 ev5_61
          refine lv_iinc (v := v5_61) (lv' := [(5, .int v5_61), (2, .int v2_60), (6, .ref (ro 4 v5.toInt.toNat)), (0, .ref (sa)), (1, .int v1), (3, .ref (o 4)), (4, .int v4)]) hx hb dX6_waits_61 hl (k := 6) rfl (by rw [ev5_61]; rfl) (by decide) rfl (fun ls hl => ?_)
          refine lv_goto (tgt := 14) hx hb dX6_waits_64 (by decide) ?_
          exact ih14 _ _ _ _ _ hm (lv_sub hl [3, 4, 1, 5, 6, 0] rfl)
        · have hm := hm.2 c_32
          refine lv_aload hx hb dX6_waits_35 (lv_at hl 0 rfl) ?_
          refine lv_iconst (v := 1) hx hb dX6_waits_37 (by decide) ?_
          refine wr_ld (jn := 1) (f := (fun X => SM Z sa o ro nn V S O N U L X)) (sm_4 Z sa o ro nn V S O N U L) hC hK hP hm.1 (by decide) rfl dX6_waits_38 ?_
          have hm := hm.2
          refine lv_iload_n hx hb dX6_waits_39 rfl (lv_at hl 2 rfl) ?_
          refine lv_icmp_ne (tgt := 58) hx hb dX6_waits_40 (by decide) (fun c_40 => ?_) (fun c_40 => ?_)
          · have hm := hm.1 c_40
            refine lv_iconst (v := 0) hx hb dX6_waits_58 (by decide) ?_
            refine lv_iadd hx hb dX6_waits_59 ?_
            refine lv_topi (fun v2_60 ev2_60 => ?_)
            have hm := hm v2_60 ev2_60
            refine lv_istore_n (lv' := [(2, .int v2_60), (6, .ref (ro 4 v5.toInt.toNat)), (0, .ref (sa)), (1, .int v1), (3, .ref (o 4)), (4, .int v4), (5, .int v5)]) hx hb dX6_waits_60 rfl hl (by decide) rfl (fun ls hl => ?_)
            obtain ⟨v5_61, ev5_61⟩ : ∃ y : Int32, y = v5 + 1 := ⟨_, rfl⟩
            have hm := hm v5_61 ev5_61
            refine lv_iinc (v := v5_61) (lv' := [(5, .int v5_61), (2, .int v2_60), (6, .ref (ro 4 v5.toInt.toNat)), (0, .ref (sa)), (1, .int v1), (3, .ref (o 4)), (4, .int v4)]) hx hb dX6_waits_61 hl (k := 6) rfl (by rw [ev5_61]; rfl) (by decide) rfl (fun ls hl => ?_)
            refine lv_goto (tgt := 14) hx hb dX6_waits_64 (by decide) ?_
            exact ih14 _ _ _ _ _ hm (lv_sub hl [3, 4, 1, 5, 6, 0] rfl)
          · have hm := hm.2 c_40
            refine lv_aload_n hx hb dX6_waits_43 rfl (lv_at hl 1 rfl) ?_
            refine gSM_sim_0 hC hK hP wq_1165 dX6_waits_44 ?_
            refine lv_aload hx hb dX6_waits_47 (lv_at hl 0 rfl) ?_
            refine lv_iconst (v := 2) hx hb dX6_waits_49 (by decide) ?_
            refine wr_ld (jn := 2) (f := (fun X => SM Z sa o ro nn V S O N U L X)) (sm_4 Z sa o ro nn V S O N U L) hC hK hP hm.1 (by decide) rfl dX6_waits_50 ?_
            have hm := hm.2
            refine lv_icmp_lt (tgt := 58) hx hb dX6_waits_51 (by decide) (fun c_51 => ?_) (fun c_51 => ?_)
            · have hm := hm.1 c_51
              refine lv_iconst (v := 0) hx hb dX6_waits_58 (by decide) ?_
              refine lv_iadd hx hb dX6_waits_59 ?_
              refine lv_topi (fun v2_60 ev2_60 => ?_)
              have hm := hm v2_60 ev2_60
              refine lv_istore_n (lv' := [(2, .int v2_60), (6, .ref (ro 4 v5.toInt.toNat)), (0, .ref (sa)), (1, .int v1), (3, .ref (o 4)), (4, .int v4), (5, .int v5)]) hx hb dX6_waits_60 rfl hl (by decide) rfl (fun ls hl => ?_)
              obtain ⟨v5_61, ev5_61⟩ : ∃ y : Int32, y = v5 + 1 := ⟨_, rfl⟩
              have hm := hm v5_61 ev5_61
              refine lv_iinc (v := v5_61) (lv' := [(5, .int v5_61), (2, .int v2_60), (6, .ref (ro 4 v5.toInt.toNat)), (0, .ref (sa)), (1, .int v1), (3, .ref (o 4)), (4, .int v4)]) hx hb dX6_waits_61 hl (k := 6) rfl (by rw [ev5_61]; rfl) (by decide) rfl (fun ls hl => ?_)
              refine lv_goto (tgt := 14) hx hb dX6_waits_64 (by decide) ?_
              exact ih14 _ _ _ _ _ hm (lv_sub hl [3, 4, 1, 5, 6, 0] rfl)
            · have hm := hm.2 c_51
              refine lv_iconst (v := 1) hx hb dX6_waits_54 (by decide) ?_
              refine lv_goto (tgt := 59) hx hb dX6_waits_55 (by decide) ?_
              refine lv_iadd hx hb dX6_waits_59 ?_
              refine lv_topi (fun v2_60 ev2_60 => ?_)
              have hm := hm v2_60 ev2_60
              refine lv_istore_n (lv' := [(2, .int v2_60), (6, .ref (ro 4 v5.toInt.toNat)), (0, .ref (sa)), (1, .int v1), (3, .ref (o 4)), (4, .int v4), (5, .int v5)]) hx hb dX6_waits_60 rfl hl (by decide) rfl (fun ls hl => ?_)
              obtain ⟨v5_61, ev5_61⟩ : ∃ y : Int32, y = v5 + 1 := ⟨_, rfl⟩
              have hm := hm v5_61 ev5_61
              refine lv_iinc (v := v5_61) (lv' := [(5, .int v5_61), (2, .int v2_60), (6, .ref (ro 4 v5.toInt.toNat)), (0, .ref (sa)), (1, .int v1), (3, .ref (o 4)), (4, .int v4)]) hx hb dX6_waits_61 hl (k := 6) rfl (by rw [ev5_61]; rfl) (by decide) rfl (fun ls hl => ?_)
              refine lv_goto (tgt := 14) hx hb dX6_waits_64 (by decide) ?_
              exact ih14 _ _ _ _ _ hm (lv_sub hl [3, 4, 1, 5, 6, 0] rfl)
  refine lv_iconst (v := 0) hx hb dX6_waits_0 (by decide) ?_
  refine lv_istore_n (lv' := [(2, .int 0), (0, .ref (sa)), (1, .int x1)]) hx hb dX6_waits_1 rfl hl (by decide) rfl (fun ls hl => ?_)
  refine lv_aload_n hx hb dX6_waits_2 rfl (lv_at hl 1 rfl) ?_
  refine gSM_sim_6 hC hK hP wq_1177 dX6_waits_3 ?_
  refine lv_astore_n (lv' := [(3, .ref (o 4)), (2, .int 0), (0, .ref (sa)), (1, .int x1)]) hx hb dX6_waits_6 rfl hl (by decide) rfl (fun ls hl => ?_)
  refine lv_aload_n hx hb dX6_waits_7 rfl (lv_at hl 0 rfl) ?_
  refine w_alen (q0 := 5) (t0 := 3) hC hK hP rfl rfl dX6_waits_8 ?_
  refine lv_topi (fun v4_9 ev4_9 => ?_)
  have hm := hm v4_9 ev4_9
  refine lv_istore (lv' := [(4, .int v4_9), (3, .ref (o 4)), (2, .int 0), (0, .ref (sa)), (1, .int x1)]) hx hb dX6_waits_9 hl (by decide) rfl (fun ls hl => ?_)
  refine lv_iconst (v := 0) hx hb dX6_waits_11 (by decide) ?_
  refine lv_istore (lv' := [(5, .int 0), (4, .int v4_9), (3, .ref (o 4)), (2, .int 0), (0, .ref (sa)), (1, .int x1)]) hx hb dX6_waits_12 hl (by decide) rfl (fun ls hl => ?_)
  exact L14 _ _ _ _ _ _ hm (lv_sub hl [4, 5, 3, 2, 1, 0] rfl)
section KX6_waits
variable {p : Program} {l : Launch} {e : Env} {s : State} {m : MethodId} {args : Array Value} {below : List Frame} {meth : Method} {c : Code} {H H0 : Heap} {locs : List Loc} {cells slots : Nat} {Q : State → Prop} {R : Room} {rn mcR msR : Nat}
variable {pc : Nat} {ls : Array Slot} {rest : List Value} {A : Nat → Prop} {D : va_G}
variable {cc : ByteArray} {nL index : Nat} {own host : String}
theorem k_X6_waits {Z : Nat → ClassId} {sa : Nat} {o : Nat → Nat} {ro : Nat → Nat → Nat} {nn : Nat → Nat} {V S O : M2} {N : M2} {U : M2} {L : M2} {B : M2} {x1 : Int32} {K : Int32 → Prop} (hC : CallFix p m c cc nL s args lw_g own) (hN : NW s) (hK : va_K D vwCl (tysG Z) s) (hP : va_P D vwCl (SM Z sa o ro nn V S O N U L B) H) (hD : va_D (fun _ => True) (SM Z sa o ro nn V S O N U L B)) (hm : wp_X6_waits nn V S O N U L B x1 K) (hl : Cond.methodLink own index yX6_waits ∈ lw_g) (hlt : 1 < rn) (hsize : ls.size = nL) (hW : (rest.map fun v => v.category).sum ≤ 8) (hf : cells + 0 ≤ mcR ∧ slots + 0 ≤ msR) (hdg : decode cc pc = .ok (.invokevirtual index, 3)) (kk : ∀ r : Int32, K r → W p l e (rk rn mcR msR) s m args below meth c H locs cells slots Q (F0 m (pc + 3) ls (.int r :: rest))) : W p l e (rk rn mcR msR) s m args below meth c H locs cells slots Q (F0 m pc ls (.int x1 :: .ref (sa) :: rest)) :=
  ro_go (runV (As := [.int x1]) hC hN (c_X6_waits l D Z sa o ro nn V S O N U L B H.size x1 K hm) mi_X6_waits hl wq_837 wq_838 hlt hP hD hK (q0 := 0) rfl rfl rfl hsize rfl hW hdg hf) kk
end KX6_waits
def wp_X6_air (nn : Nat → Nat) (V : M2) (S : M2) (O : M2) (N : M2) (U : M2) (L : M2) (B : M2) (x1 : Int32) (K : Int32 → Prop) : Prop := ((x1 < 0 → K 0) ∧ (¬ x1 < 0 → ((x1 < (Int32.ofNat (nn 1)) → (inb x1 (nn 1) ∧ (inb x1 (nn 1) ∧ K (U x1.toInt.toNat 1)))) ∧ (¬ x1 < (Int32.ofNat (nn 1)) → K 0))))
set_option maxRecDepth 100000 in
set_option maxHeartbeats 4000000 in
theorem c_X6_air (l : Launch) (D : va_G) (Z : Nat → ClassId) (sa : Nat) (o : Nat → Nat) (ro : Nat → Nat → Nat) (nn : Nat → Nat) (V S O : M2) (N : M2) (U : M2) (L : M2) (B : M2) (sz : Nat) (x1 : Int32) (K : Int32 → Prop) (hm : wp_X6_air nn V S O N U L B x1 K) : Met l yX6_air (wy yX6_air cX6_air 2 (some .int)) (rk 1 0 0) (pre vwCl D Z (SM Z sa o ro nn V S O N U L B) sz [.ref (sa), .int x1]) (vp_Si K) 0 0 (fun _ => False) := by
  refine ro_of (ty := .int) (by decide +kernel) (Nat.le_of_ble_eq_true rfl) rfl ?_
  intro p e s m args below meth c Q hC hN hsz hP hD hK hret ls hl
  have hx := hC.1
  have hb := hC.2.1
  have hl : lv_has ls 2 [(0, .ref (sa)), (1, .int x1)] := hl
  refine lv_iload_n hx hb dX6_air_0 rfl (lv_at hl 1 rfl) ?_
  refine lv_if_lt (tgt := 13) hx hb dX6_air_1 (by decide) (fun c_1 => ?_) (fun c_1 => ?_)
  · have hm := hm.1 c_1
    refine lv_iconst (v := 0) hx hb dX6_air_13 (by decide) ?_
    refine lv_goto (tgt := 25) hx hb dX6_air_14 (by decide) ?_
    exact hret 25 _ _ hm rfl dX6_air_25
  · have hm := hm.2 c_1
    refine lv_iload_n hx hb dX6_air_4 rfl (lv_at hl 1 rfl) ?_
    refine lv_aload_n hx hb dX6_air_5 rfl (lv_at hl 0 rfl) ?_
    refine gSM_sim_3 hC hK hP wq_1171 dX6_air_6 ?_
    refine w_alen (q0 := 2) (t0 := 3) hC hK hP rfl rfl dX6_air_9 ?_
    refine lv_icmp_lt (tgt := 17) hx hb dX6_air_10 (by decide) (fun c_10 => ?_) (fun c_10 => ?_)
    · have hm := hm.1 c_10
      refine lv_aload_n hx hb dX6_air_17 rfl (lv_at hl 0 rfl) ?_
      refine gSM_sim_3 hC hK hP wq_1171 dX6_air_18 ?_
      refine lv_iload_n hx hb dX6_air_21 rfl (lv_at hl 1 rfl) ?_
      refine w_aaldR (q0 := 2) hC hK hP rfl hm.1 dX6_air_22 ?_
      have hm := hm.2
      refine lv_iconst (v := 1) hx hb dX6_air_23 (by decide) ?_
      refine wr_ld (jn := 1) (f := (fun X => SM Z sa o ro nn V S O N X L B)) (sm_1 Z sa o ro nn V S O N L B) hC hK hP hm.1 (by decide) rfl dX6_air_24 ?_
      have hm := hm.2
      exact hret 25 _ _ hm rfl dX6_air_25
    · have hm := hm.2 c_10
      refine lv_iconst (v := 0) hx hb dX6_air_13 (by decide) ?_
      refine lv_goto (tgt := 25) hx hb dX6_air_14 (by decide) ?_
      exact hret 25 _ _ hm rfl dX6_air_25
section KX6_air
variable {p : Program} {l : Launch} {e : Env} {s : State} {m : MethodId} {args : Array Value} {below : List Frame} {meth : Method} {c : Code} {H H0 : Heap} {locs : List Loc} {cells slots : Nat} {Q : State → Prop} {R : Room} {rn mcR msR : Nat}
variable {pc : Nat} {ls : Array Slot} {rest : List Value} {A : Nat → Prop} {D : va_G}
variable {cc : ByteArray} {nL index : Nat} {own host : String}
theorem k_X6_air {Z : Nat → ClassId} {sa : Nat} {o : Nat → Nat} {ro : Nat → Nat → Nat} {nn : Nat → Nat} {V S O : M2} {N : M2} {U : M2} {L : M2} {B : M2} {x1 : Int32} {K : Int32 → Prop} (hC : CallFix p m c cc nL s args lw_g own) (hN : NW s) (hK : va_K D vwCl (tysG Z) s) (hP : va_P D vwCl (SM Z sa o ro nn V S O N U L B) H) (hD : va_D (fun _ => True) (SM Z sa o ro nn V S O N U L B)) (hm : wp_X6_air nn V S O N U L B x1 K) (hl : Cond.methodLink own index yX6_air ∈ lw_g) (hlt : 1 < rn) (hsize : ls.size = nL) (hW : (rest.map fun v => v.category).sum ≤ 8) (hf : cells + 0 ≤ mcR ∧ slots + 0 ≤ msR) (hdg : decode cc pc = .ok (.invokevirtual index, 3)) (kk : ∀ r : Int32, K r → W p l e (rk rn mcR msR) s m args below meth c H locs cells slots Q (F0 m (pc + 3) ls (.int r :: rest))) : W p l e (rk rn mcR msR) s m args below meth c H locs cells slots Q (F0 m pc ls (.int x1 :: .ref (sa) :: rest)) :=
  ro_go (runV (As := [.int x1]) hC hN (c_X6_air l D Z sa o ro nn V S O N U L B H.size x1 K hm) mi_X6_air hl wq_841 wq_842 hlt hP hD hK (q0 := 0) rfl rfl rfl hsize rfl hW hdg hf) kk
end KX6_air
def wl_X6_those_14 (nn : Nat → Nat) (V : M2) (S : M2) (O : M2) (N : M2) (U : M2) (L : M2) (B : M2) (K : Int32 → Prop) : Nat → Int32 → Int32 → Int32 → Int32 → Prop
  | 0, _, _, _, _ => False
  | n + 1, v1, v2, v4, v5 => ((v4 ≤ v5 → K v2) ∧ (¬ v4 ≤ v5 → (inb v5 (nn 4) ∧ (inb v5 (nn 4) ∧ ((¬ (B v5.toInt.toNat 3) = v1 → (∀ v2_42, v2_42 = v2 + 0 → (∀ v5_43 : Int32, v5_43 = v5 + 1 → wl_X6_those_14 nn V S O N U L B K n v1 v2_42 v4 v5_43))) ∧ ((B v5.toInt.toNat 3) = v1 → (∀ v2_42, v2_42 = v2 + 1 → (∀ v5_43 : Int32, v5_43 = v5 + 1 → wl_X6_those_14 nn V S O N U L B K n v1 v2_42 v4 v5_43))))))))
def wp_X6_those (nn : Nat → Nat) (V : M2) (S : M2) (O : M2) (N : M2) (U : M2) (L : M2) (B : M2) (x1 : Int32) (K : Int32 → Prop) : Prop := (∀ v4_9, v4_9 = Int32.ofNat (nn 4) → wl_X6_those_14 nn V S O N U L B K fK x1 0 v4_9 0)
set_option maxRecDepth 100000 in
set_option maxHeartbeats 4000000 in
theorem c_X6_those (l : Launch) (D : va_G) (Z : Nat → ClassId) (sa : Nat) (o : Nat → Nat) (ro : Nat → Nat → Nat) (nn : Nat → Nat) (V S O : M2) (N : M2) (U : M2) (L : M2) (B : M2) (sz : Nat) (x1 : Int32) (K : Int32 → Prop) (hm : wp_X6_those nn V S O N U L B x1 K) : Met l yX6_those (wy yX6_those cX6_those 7 (some .int)) (rk 1 0 0) (pre vwCl D Z (SM Z sa o ro nn V S O N U L B) sz [.ref (sa), .int x1]) (vp_Si K) 0 0 (fun _ => False) := by
  refine ro_of (ty := .int) (by decide +kernel) (Nat.le_of_ble_eq_true rfl) rfl ?_
  intro p e s m args below meth c Q hC hN hsz hP hD hK hret ls hl
  have hx := hC.1
  have hb := hC.2.1
  have hl : lv_has ls 7 [(0, .ref (sa)), (1, .int x1)] := hl
  have L14 : ∀ (n14 : Nat), ∀ (v1 : Int32) (v2 : Int32) (v4 : Int32) (v5 : Int32) (ls : Array Slot), wl_X6_those_14 nn V S O N U L B K n14 v1 v2 v4 v5 → lv_has ls 7 [(1, .int v1), (2, .int v2), (3, .ref (o 4)), (4, .int v4), (5, .int v5)] → W p l e (rk 1 0 0) s m args below meth c s.heap [] 0 0 Q (F0 m 14 ls []) := by
    intro n14
    induction n14 with
    | zero =>
      intro v1 v2 v4 v5 ls hm hl
      exact False.elim hm
    | succ n14 ih14 =>
      intro v1 v2 v4 v5 ls hm hl
      refine lv_iload hx hb dX6_those_14 (lv_at hl 4 rfl) ?_
      refine lv_iload hx hb dX6_those_16 (lv_at hl 3 rfl) ?_
      refine lv_icmp_ge (tgt := 49) hx hb dX6_those_18 (by decide) (fun c_18 => ?_) (fun c_18 => ?_)
      · have hm := hm.1 c_18
        refine lv_iload_n hx hb dX6_those_49 rfl (lv_at hl 1 rfl) ?_
        exact hret 50 _ _ hm rfl dX6_those_50
      · have hm := hm.2 c_18
        refine lv_aload_n hx hb dX6_those_21 rfl (lv_at hl 2 rfl) ?_
        refine lv_iload hx hb dX6_those_22 (lv_at hl 4 rfl) ?_
        refine w_aaldR (q0 := 5) hC hK hP rfl hm.1 dX6_those_24 ?_
        have hm := hm.2
        refine lv_astore (lv' := [(6, .ref (ro 4 v5.toInt.toNat)), (1, .int v1), (2, .int v2), (3, .ref (o 4)), (4, .int v4), (5, .int v5)]) hx hb dX6_those_25 hl (by decide) rfl (fun ls hl => ?_)
        refine lv_iload_n hx hb dX6_those_27 rfl (lv_at hl 2 rfl) ?_
        refine lv_aload hx hb dX6_those_28 (lv_at hl 0 rfl) ?_
        refine lv_iconst (v := 3) hx hb dX6_those_30 (by decide) ?_
        refine wr_ld (jn := 3) (f := (fun X => SM Z sa o ro nn V S O N U L X)) (sm_4 Z sa o ro nn V S O N U L) hC hK hP hm.1 (by decide) rfl dX6_those_31 ?_
        have hm := hm.2
        refine lv_iload_n hx hb dX6_those_32 rfl (lv_at hl 1 rfl) ?_
        refine lv_icmp_ne (tgt := 40) hx hb dX6_those_33 (by decide) (fun c_33 => ?_) (fun c_33 => ?_)
        · have hm := hm.1 c_33
          refine lv_iconst (v := 0) hx hb dX6_those_40 (by decide) ?_
          refine lv_iadd hx hb dX6_those_41 ?_
          refine lv_topi (fun v2_42 ev2_42 => ?_)
          have hm := hm v2_42 ev2_42
          refine lv_istore_n (lv' := [(2, .int v2_42), (6, .ref (ro 4 v5.toInt.toNat)), (1, .int v1), (3, .ref (o 4)), (4, .int v4), (5, .int v5)]) hx hb dX6_those_42 rfl hl (by decide) rfl (fun ls hl => ?_)
          obtain ⟨v5_43, ev5_43⟩ : ∃ y : Int32, y = v5 + 1 := ⟨_, rfl⟩
          have hm := hm v5_43 ev5_43
          refine lv_iinc (v := v5_43) (lv' := [(5, .int v5_43), (2, .int v2_42), (6, .ref (ro 4 v5.toInt.toNat)), (1, .int v1), (3, .ref (o 4)), (4, .int v4)]) hx hb dX6_those_43 hl (k := 5) rfl (by rw [ev5_43]; rfl) (by decide) rfl (fun ls hl => ?_)
          refine lv_goto (tgt := 14) hx hb dX6_those_46 (by decide) ?_
          exact ih14 _ _ _ _ _ hm (lv_sub hl [3, 1, 4, 5, 0] rfl)
        · have hm := hm.2 c_33
          refine lv_iconst (v := 1) hx hb dX6_those_36 (by decide) ?_
          refine lv_goto (tgt := 41) hx hb dX6_those_37 (by decide) ?_
          refine lv_iadd hx hb dX6_those_41 ?_
          refine lv_topi (fun v2_42 ev2_42 => ?_)
          have hm := hm v2_42 ev2_42
          refine lv_istore_n (lv' := [(2, .int v2_42), (6, .ref (ro 4 v5.toInt.toNat)), (1, .int v1), (3, .ref (o 4)), (4, .int v4), (5, .int v5)]) hx hb dX6_those_42 rfl hl (by decide) rfl (fun ls hl => ?_)
          obtain ⟨v5_43, ev5_43⟩ : ∃ y : Int32, y = v5 + 1 := ⟨_, rfl⟩
          have hm := hm v5_43 ev5_43
          refine lv_iinc (v := v5_43) (lv' := [(5, .int v5_43), (2, .int v2_42), (6, .ref (ro 4 v5.toInt.toNat)), (1, .int v1), (3, .ref (o 4)), (4, .int v4)]) hx hb dX6_those_43 hl (k := 5) rfl (by rw [ev5_43]; rfl) (by decide) rfl (fun ls hl => ?_)
          refine lv_goto (tgt := 14) hx hb dX6_those_46 (by decide) ?_
          exact ih14 _ _ _ _ _ hm (lv_sub hl [3, 1, 4, 5, 0] rfl)
  refine lv_iconst (v := 0) hx hb dX6_those_0 (by decide) ?_
  refine lv_istore_n (lv' := [(2, .int 0), (0, .ref (sa)), (1, .int x1)]) hx hb dX6_those_1 rfl hl (by decide) rfl (fun ls hl => ?_)
  refine lv_aload_n hx hb dX6_those_2 rfl (lv_at hl 1 rfl) ?_
  refine gSM_sim_6 hC hK hP wq_1177 dX6_those_3 ?_
  refine lv_astore_n (lv' := [(3, .ref (o 4)), (2, .int 0), (0, .ref (sa)), (1, .int x1)]) hx hb dX6_those_6 rfl hl (by decide) rfl (fun ls hl => ?_)
  refine lv_aload_n hx hb dX6_those_7 rfl (lv_at hl 0 rfl) ?_
  refine w_alen (q0 := 5) (t0 := 3) hC hK hP rfl rfl dX6_those_8 ?_
  refine lv_topi (fun v4_9 ev4_9 => ?_)
  have hm := hm v4_9 ev4_9
  refine lv_istore (lv' := [(4, .int v4_9), (3, .ref (o 4)), (2, .int 0), (0, .ref (sa)), (1, .int x1)]) hx hb dX6_those_9 hl (by decide) rfl (fun ls hl => ?_)
  refine lv_iconst (v := 0) hx hb dX6_those_11 (by decide) ?_
  refine lv_istore (lv' := [(5, .int 0), (4, .int v4_9), (3, .ref (o 4)), (2, .int 0), (0, .ref (sa)), (1, .int x1)]) hx hb dX6_those_12 hl (by decide) rfl (fun ls hl => ?_)
  exact L14 _ _ _ _ _ _ hm (lv_sub hl [5, 3, 2, 1, 0] rfl)
section KX6_those
variable {p : Program} {l : Launch} {e : Env} {s : State} {m : MethodId} {args : Array Value} {below : List Frame} {meth : Method} {c : Code} {H H0 : Heap} {locs : List Loc} {cells slots : Nat} {Q : State → Prop} {R : Room} {rn mcR msR : Nat}
variable {pc : Nat} {ls : Array Slot} {rest : List Value} {A : Nat → Prop} {D : va_G}
variable {cc : ByteArray} {nL index : Nat} {own host : String}
end KX6_those
def wp_X6_holds (nn : Nat → Nat) (V : M2) (S : M2) (O : M2) (N : M2) (U : M2) (L : M2) (B : M2) (x1 : Int32) (K : Int32 → Prop) : Prop := (inb x1 (nn 5) ∧ (∀ v2_3, v2_3 = O x1.toInt.toNat 3 → (inb x1 (nn 5) ∧ (∀ v3_7, v3_7 = O x1.toInt.toNat 4 → (inb x1 (nn 5) ∧ (¬ (Int32.ofNat (nn 3)) = 0 ∧ (inb ((O x1.toInt.toNat 5) - (O x1.toInt.toNat 5) / (Int32.ofNat (nn 3)) * (Int32.ofNat (nn 3))) (nn 3) ∧ (∀ v4_22 : Int32, v4_22 = (O x1.toInt.toNat 5) - (O x1.toInt.toNat 5) / (Int32.ofNat (nn 3)) * (Int32.ofNat (nn 3)) → (inb x1 (nn 5) ∧ (¬ (Int32.ofNat (nn 4)) = 0 ∧ (inb ((O x1.toInt.toNat 5) - (O x1.toInt.toNat 5) / (Int32.ofNat (nn 4)) * (Int32.ofNat (nn 4))) (nn 4) ∧ (∀ v5_38 : Int32, v5_38 = (O x1.toInt.toNat 5) - (O x1.toInt.toNat 5) / (Int32.ofNat (nn 4)) * (Int32.ofNat (nn 4)) → (inb x1 (nn 5) ∧ (((O x1.toInt.toNat 2) = 0 → (¬ ((v2_3 - v2_3 / 7 * 7) + 1) = 0 ∧ ((¬ ((N 0 0) - (N 0 0) / ((v2_3 - v2_3 / 7 * 7) + 1) * ((v2_3 - v2_3 / 7 * 7) + 1)) = 0 → K 0) ∧ (((N 0 0) - (N 0 0) / ((v2_3 - v2_3 / 7 * 7) + 1) * ((v2_3 - v2_3 / 7 * 7) + 1)) = 0 → K 1)))) ∧ ((O x1.toInt.toNat 2) = 1 → wp_X6_waits nn V S O N U L B 1 (fun r_106 => wp_X6_waits nn V S O N U L B 0 (fun r_111 => ((r_106 ≤ r_111 → K 0) ∧ (¬ r_106 ≤ r_111 → K 1))))) ∧ ((O x1.toInt.toNat 2) = 2 → wp_X6_waits nn V S O N U L B 0 (fun r_125 => ((¬ r_125 = 0 → K 0) ∧ (r_125 = 0 → (inb v5_38 (nn 4) ∧ (((B v5_38.toInt.toNat 3) = 1 → K 0) ∧ (¬ (B v5_38.toInt.toNat 3) = 1 → K 1))))))) ∧ ((O x1.toInt.toNat 2) = 3 → wp_X6_air nn V S O N U L B v2_3 (fun r_147 => ((v3_7 ≤ r_147 → K 0) ∧ (¬ v3_7 ≤ r_147 → K 1)))) ∧ ((O x1.toInt.toNat 2) = 4 → (inb v4_22 (nn 3) ∧ ((v3_7 ≤ (L v4_22.toInt.toNat 2) → K 0) ∧ (¬ v3_7 ≤ (L v4_22.toInt.toNat 2) → K 1)))) ∧ ((O x1.toInt.toNat 2) = 5 → (inb v4_22 (nn 3) ∧ ((0 ≤ (L v4_22.toInt.toNat 3) → K 1) ∧ (¬ 0 ≤ (L v4_22.toInt.toNat 3) → (inb v5_38 (nn 4) ∧ (((B v5_38.toInt.toNat 4) < v2_3 → K 0) ∧ (¬ (B v5_38.toInt.toNat 4) < v2_3 → K 1))))))) ∧ ((O x1.toInt.toNat 2) = 6 → ((¬ (N 1 0) = 1 → K 0) ∧ ((N 1 0) = 1 → ((v2_3 < (N 0 0) → K 1) ∧ (¬ v2_3 < (N 0 0) → (inb v5_38 (nn 4) ∧ wp_X6_air nn V S O N U L B (B v5_38.toInt.toNat 4) (fun r_216 => ((r_216 ≤ v3_7 → K 0) ∧ (¬ r_216 ≤ v3_7 → K 1))))))))) ∧ (¬ (O x1.toInt.toNat 2) = 0 → ¬ (O x1.toInt.toNat 2) = 1 → ¬ (O x1.toInt.toNat 2) = 2 → ¬ (O x1.toInt.toNat 2) = 3 → ¬ (O x1.toInt.toNat 2) = 4 → ¬ (O x1.toInt.toNat 2) = 5 → ¬ (O x1.toInt.toNat 2) = 6 → wp_X6_waits nn V S O N U L B 0 (fun r_231 => wp_X6_waits nn V S O N U L B 1 (fun r_240 => ((1 ≤ ((mnv r_231 v2_3) - r_240) → K 0) ∧ (¬ 1 ≤ ((mnv r_231 v2_3) - r_240) → K 1)))))))))))))))))))
set_option maxRecDepth 100000 in
set_option maxHeartbeats 4000000 in
theorem c_X6_holds (l : Launch) (D : va_G) (Z : Nat → ClassId) (sa : Nat) (o : Nat → Nat) (ro : Nat → Nat → Nat) (nn : Nat → Nat) (V S O : M2) (N : M2) (U : M2) (L : M2) (B : M2) (sz : Nat) (x1 : Int32) (K : Int32 → Prop) (hm : wp_X6_holds nn V S O N U L B x1 K) : Met l yX6_holds (wy yX6_holds cX6_holds 6 (some .boolean)) (rk 2 0 0) (pre vwCl D Z (SM Z sa o ro nn V S O N U L B) sz [.ref (sa), .ref (ro 5 x1.toInt.toNat)]) (vp_Si K) 0 0 (fun _ => False) := by
  refine ro_of (ty := .boolean) (by decide +kernel) (Nat.le_of_ble_eq_true rfl) rfl ?_
  intro p e s m args below meth c Q hC hN hsz hP hD hK hret ls hl
  have hx := hC.1
  have hb := hC.2.1
  have hl : lv_has ls 6 [(0, .ref (sa)), (1, .ref (ro 5 x1.toInt.toNat))] := hl
  refine lv_aload_n hx hb dX6_holds_0 rfl (lv_at hl 1 rfl) ?_
  refine lv_iconst (v := 3) hx hb dX6_holds_1 (by decide) ?_
  refine wr_ld (jn := 3) (f := (fun X => SM Z sa o ro nn V S X N U L B)) (sm_5 Z sa o ro nn V S N U L B) hC hK hP hm.1 (by decide) rfl dX6_holds_2 ?_
  have hm := hm.2
  refine lv_topi (fun v2_3 ev2_3 => ?_)
  have hm := hm v2_3 ev2_3
  refine lv_istore_n (lv' := [(2, .int v2_3), (0, .ref (sa)), (1, .ref (ro 5 x1.toInt.toNat))]) hx hb dX6_holds_3 rfl hl (by decide) rfl (fun ls hl => ?_)
  refine lv_aload_n hx hb dX6_holds_4 rfl (lv_at hl 2 rfl) ?_
  refine lv_iconst (v := 4) hx hb dX6_holds_5 (by decide) ?_
  refine wr_ld (jn := 4) (f := (fun X => SM Z sa o ro nn V S X N U L B)) (sm_5 Z sa o ro nn V S N U L B) hC hK hP hm.1 (by decide) rfl dX6_holds_6 ?_
  have hm := hm.2
  refine lv_topi (fun v3_7 ev3_7 => ?_)
  have hm := hm v3_7 ev3_7
  refine lv_istore_n (lv' := [(3, .int v3_7), (2, .int v2_3), (0, .ref (sa)), (1, .ref (ro 5 x1.toInt.toNat))]) hx hb dX6_holds_7 rfl hl (by decide) rfl (fun ls hl => ?_)
  refine lv_aload_n hx hb dX6_holds_8 rfl (lv_at hl 2 rfl) ?_
  refine gSM_sim_5 hC hK hP wq_1175 dX6_holds_9 ?_
  refine lv_aload_n hx hb dX6_holds_12 rfl (lv_at hl 3 rfl) ?_
  refine lv_iconst (v := 5) hx hb dX6_holds_13 (by decide) ?_
  refine wr_ld (jn := 5) (f := (fun X => SM Z sa o ro nn V S X N U L B)) (sm_5 Z sa o ro nn V S N U L B) hC hK hP hm.1 (by decide) rfl dX6_holds_14 ?_
  have hm := hm.2
  refine lv_aload_n hx hb dX6_holds_15 rfl (lv_at hl 2 rfl) ?_
  refine gSM_sim_5 hC hK hP wq_1175 dX6_holds_16 ?_
  refine w_alen (q0 := 4) (t0 := 3) hC hK hP rfl rfl dX6_holds_19 ?_
  refine lv_irem hx hb dX6_holds_20 hm.1 ?_
  have hm := hm.2
  refine w_aaldR (q0 := 4) hC hK hP rfl hm.1 dX6_holds_21 ?_
  have hm := hm.2
  obtain ⟨v4_22, ev4_22⟩ : ∃ y : Int32, y = (O x1.toInt.toNat 5) - (O x1.toInt.toNat 5) / (Int32.ofNat (nn 3)) * (Int32.ofNat (nn 3)) := ⟨_, rfl⟩
  rw [← ev4_22]
  have hm := hm v4_22 ev4_22
  refine lv_astore (lv' := [(4, .ref (ro 3 v4_22.toInt.toNat)), (3, .int v3_7), (2, .int v2_3), (0, .ref (sa)), (1, .ref (ro 5 x1.toInt.toNat))]) hx hb dX6_holds_22 hl (by decide) rfl (fun ls hl => ?_)
  refine lv_aload_n hx hb dX6_holds_24 rfl (lv_at hl 3 rfl) ?_
  refine gSM_sim_6 hC hK hP wq_1177 dX6_holds_25 ?_
  refine lv_aload_n hx hb dX6_holds_28 rfl (lv_at hl 4 rfl) ?_
  refine lv_iconst (v := 5) hx hb dX6_holds_29 (by decide) ?_
  refine wr_ld (jn := 5) (f := (fun X => SM Z sa o ro nn V S X N U L B)) (sm_5 Z sa o ro nn V S N U L B) hC hK hP hm.1 (by decide) rfl dX6_holds_30 ?_
  have hm := hm.2
  refine lv_aload_n hx hb dX6_holds_31 rfl (lv_at hl 3 rfl) ?_
  refine gSM_sim_6 hC hK hP wq_1177 dX6_holds_32 ?_
  refine w_alen (q0 := 5) (t0 := 3) hC hK hP rfl rfl dX6_holds_35 ?_
  refine lv_irem hx hb dX6_holds_36 hm.1 ?_
  have hm := hm.2
  refine w_aaldR (q0 := 5) hC hK hP rfl hm.1 dX6_holds_37 ?_
  have hm := hm.2
  obtain ⟨v5_38, ev5_38⟩ : ∃ y : Int32, y = (O x1.toInt.toNat 5) - (O x1.toInt.toNat 5) / (Int32.ofNat (nn 4)) * (Int32.ofNat (nn 4)) := ⟨_, rfl⟩
  rw [← ev5_38]
  have hm := hm v5_38 ev5_38
  refine lv_astore (lv' := [(5, .ref (ro 4 v5_38.toInt.toNat)), (4, .ref (ro 3 v4_22.toInt.toNat)), (3, .int v3_7), (2, .int v2_3), (0, .ref (sa)), (1, .ref (ro 5 x1.toInt.toNat))]) hx hb dX6_holds_38 hl (by decide) rfl (fun ls hl => ?_)
  refine lv_aload_n hx hb dX6_holds_40 rfl (lv_at hl 5 rfl) ?_
  refine lv_iconst (v := 2) hx hb dX6_holds_41 (by decide) ?_
  refine wr_ld (jn := 2) (f := (fun X => SM Z sa o ro nn V S X N U L B)) (sm_5 Z sa o ro nn V S N U L B) hC hK hP hm.1 (by decide) rfl dX6_holds_42 ?_
  have hm := hm.2
  by_cases s43_0 : (O x1.toInt.toNat 2) = 0
  · have hm := hm.1 s43_0
    refine w_swi (off := 41) (tgt := 84) 0 hx hb dX6_holds_43 s43_0 (by decide) (by decide) (by decide) (by decide) ?_
    refine lv_aload_n hx hb dX6_holds_84 rfl (lv_at hl 4 rfl) ?_
    refine gSM_sim_0 hC hK hP wq_1165 dX6_holds_85 ?_
    refine lv_iload_n hx hb dX6_holds_88 rfl (lv_at hl 3 rfl) ?_
    refine lv_bipush (v := 7) hx hb dX6_holds_89 (by decide) ?_
    refine lv_irem hx hb dX6_holds_91 (by decide) ?_
    refine lv_iconst (v := 1) hx hb dX6_holds_92 (by decide) ?_
    refine lv_iadd hx hb dX6_holds_93 ?_
    refine lv_irem hx hb dX6_holds_94 hm.1 ?_
    have hm := hm.2
    refine lv_if_ne (tgt := 102) hx hb dX6_holds_95 (by decide) (fun c_95 => ?_) (fun c_95 => ?_)
    · have hm := hm.1 c_95
      refine lv_iconst (v := 0) hx hb dX6_holds_102 (by decide) ?_
      exact hret 103 _ _ hm rfl dX6_holds_103
    · have hm := hm.2 c_95
      refine lv_iconst (v := 1) hx hb dX6_holds_98 (by decide) ?_
      refine lv_goto (tgt := 103) hx hb dX6_holds_99 (by decide) ?_
      exact hret 103 _ _ hm rfl dX6_holds_103
  have hm := hm.2
  by_cases s43_1 : (O x1.toInt.toNat 2) = 1
  · have hm := hm.1 s43_1
    refine w_swi (off := 61) (tgt := 104) 1 hx hb dX6_holds_43 s43_1 (by decide) (by decide) (by decide) (by decide) ?_
    refine lv_aload_n hx hb dX6_holds_104 rfl (lv_at hl 4 rfl) ?_
    refine lv_iconst (v := 1) hx hb dX6_holds_105 (by decide) ?_
    refine k_X6_waits hC hN hK hP hD hm wq_836 (by decide) hl.1 (Nat.le_of_ble_eq_true rfl) ⟨Nat.le_refl _, Nat.le_refl _⟩ dX6_holds_106 (fun r_106 hm => ?_)
    refine lv_aload_n hx hb dX6_holds_109 rfl (lv_at hl 4 rfl) ?_
    refine lv_iconst (v := 0) hx hb dX6_holds_110 (by decide) ?_
    refine k_X6_waits hC hN hK hP hD hm wq_836 (by decide) hl.1 (Nat.le_of_ble_eq_true rfl) ⟨Nat.le_refl _, Nat.le_refl _⟩ dX6_holds_111 (fun r_111 hm => ?_)
    refine lv_icmp_le (tgt := 121) hx hb dX6_holds_114 (by decide) (fun c_114 => ?_) (fun c_114 => ?_)
    · have hm := hm.1 c_114
      refine lv_iconst (v := 0) hx hb dX6_holds_121 (by decide) ?_
      exact hret 122 _ _ hm rfl dX6_holds_122
    · have hm := hm.2 c_114
      refine lv_iconst (v := 1) hx hb dX6_holds_117 (by decide) ?_
      refine lv_goto (tgt := 122) hx hb dX6_holds_118 (by decide) ?_
      exact hret 122 _ _ hm rfl dX6_holds_122
  have hm := hm.2
  by_cases s43_2 : (O x1.toInt.toNat 2) = 2
  · have hm := hm.1 s43_2
    refine w_swi (off := 80) (tgt := 123) 2 hx hb dX6_holds_43 s43_2 (by decide) (by decide) (by decide) (by decide) ?_
    refine lv_aload_n hx hb dX6_holds_123 rfl (lv_at hl 4 rfl) ?_
    refine lv_iconst (v := 0) hx hb dX6_holds_124 (by decide) ?_
    refine k_X6_waits hC hN hK hP hD hm wq_836 (by decide) hl.1 (Nat.le_of_ble_eq_true rfl) ⟨Nat.le_refl _, Nat.le_refl _⟩ dX6_holds_125 (fun r_125 hm => ?_)
    refine lv_if_ne (tgt := 143) hx hb dX6_holds_128 (by decide) (fun c_128 => ?_) (fun c_128 => ?_)
    · have hm := hm.1 c_128
      refine lv_iconst (v := 0) hx hb dX6_holds_143 (by decide) ?_
      exact hret 144 _ _ hm rfl dX6_holds_144
    · have hm := hm.2 c_128
      refine lv_aload hx hb dX6_holds_131 (lv_at hl 0 rfl) ?_
      refine lv_iconst (v := 3) hx hb dX6_holds_133 (by decide) ?_
      refine wr_ld (jn := 3) (f := (fun X => SM Z sa o ro nn V S O N U L X)) (sm_4 Z sa o ro nn V S O N U L) hC hK hP hm.1 (by decide) rfl dX6_holds_134 ?_
      have hm := hm.2
      refine lv_iconst (v := 1) hx hb dX6_holds_135 (by decide) ?_
      refine lv_icmp_eq (tgt := 143) hx hb dX6_holds_136 (by decide) (fun c_136 => ?_) (fun c_136 => ?_)
      · have hm := hm.1 c_136
        refine lv_iconst (v := 0) hx hb dX6_holds_143 (by decide) ?_
        exact hret 144 _ _ hm rfl dX6_holds_144
      · have hm := hm.2 c_136
        refine lv_iconst (v := 1) hx hb dX6_holds_139 (by decide) ?_
        refine lv_goto (tgt := 144) hx hb dX6_holds_140 (by decide) ?_
        exact hret 144 _ _ hm rfl dX6_holds_144
  have hm := hm.2
  by_cases s43_3 : (O x1.toInt.toNat 2) = 3
  · have hm := hm.1 s43_3
    refine w_swi (off := 102) (tgt := 145) 3 hx hb dX6_holds_43 s43_3 (by decide) (by decide) (by decide) (by decide) ?_
    refine lv_aload_n hx hb dX6_holds_145 rfl (lv_at hl 4 rfl) ?_
    refine lv_iload_n hx hb dX6_holds_146 rfl (lv_at hl 3 rfl) ?_
    refine k_X6_air hC hN hK hP hD hm wq_840 (by decide) hl.1 (Nat.le_of_ble_eq_true rfl) ⟨Nat.le_refl _, Nat.le_refl _⟩ dX6_holds_147 (fun r_147 hm => ?_)
    refine lv_iload_n hx hb dX6_holds_150 rfl (lv_at hl 2 rfl) ?_
    refine lv_icmp_ge (tgt := 158) hx hb dX6_holds_151 (by decide) (fun c_151 => ?_) (fun c_151 => ?_)
    · have hm := hm.1 c_151
      refine lv_iconst (v := 0) hx hb dX6_holds_158 (by decide) ?_
      exact hret 159 _ _ hm rfl dX6_holds_159
    · have hm := hm.2 c_151
      refine lv_iconst (v := 1) hx hb dX6_holds_154 (by decide) ?_
      refine lv_goto (tgt := 159) hx hb dX6_holds_155 (by decide) ?_
      exact hret 159 _ _ hm rfl dX6_holds_159
  have hm := hm.2
  by_cases s43_4 : (O x1.toInt.toNat 2) = 4
  · have hm := hm.1 s43_4
    refine w_swi (off := 117) (tgt := 160) 4 hx hb dX6_holds_43 s43_4 (by decide) (by decide) (by decide) (by decide) ?_
    refine lv_aload hx hb dX6_holds_160 (lv_at hl 1 rfl) ?_
    refine lv_iconst (v := 2) hx hb dX6_holds_162 (by decide) ?_
    refine wr_ld (jn := 2) (f := (fun X => SM Z sa o ro nn V S O N U X B)) (sm_3 Z sa o ro nn V S O N U B) hC hK hP hm.1 (by decide) rfl dX6_holds_163 ?_
    have hm := hm.2
    refine lv_iload_n hx hb dX6_holds_164 rfl (lv_at hl 2 rfl) ?_
    refine lv_icmp_ge (tgt := 172) hx hb dX6_holds_165 (by decide) (fun c_165 => ?_) (fun c_165 => ?_)
    · have hm := hm.1 c_165
      refine lv_iconst (v := 0) hx hb dX6_holds_172 (by decide) ?_
      exact hret 173 _ _ hm rfl dX6_holds_173
    · have hm := hm.2 c_165
      refine lv_iconst (v := 1) hx hb dX6_holds_168 (by decide) ?_
      refine lv_goto (tgt := 173) hx hb dX6_holds_169 (by decide) ?_
      exact hret 173 _ _ hm rfl dX6_holds_173
  have hm := hm.2
  by_cases s43_5 : (O x1.toInt.toNat 2) = 5
  · have hm := hm.1 s43_5
    refine w_swi (off := 131) (tgt := 174) 5 hx hb dX6_holds_43 s43_5 (by decide) (by decide) (by decide) (by decide) ?_
    refine lv_aload hx hb dX6_holds_174 (lv_at hl 1 rfl) ?_
    refine lv_iconst (v := 3) hx hb dX6_holds_176 (by decide) ?_
    refine wr_ld (jn := 3) (f := (fun X => SM Z sa o ro nn V S O N U X B)) (sm_3 Z sa o ro nn V S O N U B) hC hK hP hm.1 (by decide) rfl dX6_holds_177 ?_
    have hm := hm.2
    refine lv_if_ge (tgt := 189) hx hb dX6_holds_178 (by decide) (fun c_178 => ?_) (fun c_178 => ?_)
    · have hm := hm.1 c_178
      refine lv_iconst (v := 1) hx hb dX6_holds_189 (by decide) ?_
      refine lv_goto (tgt := 194) hx hb dX6_holds_190 (by decide) ?_
      exact hret 194 _ _ hm rfl dX6_holds_194
    · have hm := hm.2 c_178
      refine lv_aload hx hb dX6_holds_181 (lv_at hl 0 rfl) ?_
      refine lv_iconst (v := 4) hx hb dX6_holds_183 (by decide) ?_
      refine wr_ld (jn := 4) (f := (fun X => SM Z sa o ro nn V S O N U L X)) (sm_4 Z sa o ro nn V S O N U L) hC hK hP hm.1 (by decide) rfl dX6_holds_184 ?_
      have hm := hm.2
      refine lv_iload_n hx hb dX6_holds_185 rfl (lv_at hl 3 rfl) ?_
      refine lv_icmp_lt (tgt := 193) hx hb dX6_holds_186 (by decide) (fun c_186 => ?_) (fun c_186 => ?_)
      · have hm := hm.1 c_186
        refine lv_iconst (v := 0) hx hb dX6_holds_193 (by decide) ?_
        exact hret 194 _ _ hm rfl dX6_holds_194
      · have hm := hm.2 c_186
        refine lv_iconst (v := 1) hx hb dX6_holds_189 (by decide) ?_
        refine lv_goto (tgt := 194) hx hb dX6_holds_190 (by decide) ?_
        exact hret 194 _ _ hm rfl dX6_holds_194
  have hm := hm.2
  by_cases s43_6 : (O x1.toInt.toNat 2) = 6
  · have hm := hm.1 s43_6
    refine w_swi (off := 152) (tgt := 195) 6 hx hb dX6_holds_43 s43_6 (by decide) (by decide) (by decide) (by decide) ?_
    refine lv_aload_n hx hb dX6_holds_195 rfl (lv_at hl 4 rfl) ?_
    refine gSM_sim_1 hC hK hP wq_1167 dX6_holds_196 ?_
    refine lv_iconst (v := 1) hx hb dX6_holds_199 (by decide) ?_
    refine lv_icmp_ne (tgt := 227) hx hb dX6_holds_200 (by decide) (fun c_200 => ?_) (fun c_200 => ?_)
    · have hm := hm.1 c_200
      refine lv_iconst (v := 0) hx hb dX6_holds_227 (by decide) ?_
      exact hret 228 _ _ hm rfl dX6_holds_228
    · have hm := hm.2 c_200
      refine lv_aload_n hx hb dX6_holds_203 rfl (lv_at hl 4 rfl) ?_
      refine gSM_sim_0 hC hK hP wq_1165 dX6_holds_204 ?_
      refine lv_iload_n hx hb dX6_holds_207 rfl (lv_at hl 3 rfl) ?_
      refine lv_icmp_gt (tgt := 223) hx hb dX6_holds_208 (by decide) (fun c_208 => ?_) (fun c_208 => ?_)
      · have hm := hm.1 c_208
        refine lv_iconst (v := 1) hx hb dX6_holds_223 (by decide) ?_
        refine lv_goto (tgt := 228) hx hb dX6_holds_224 (by decide) ?_
        exact hret 228 _ _ hm rfl dX6_holds_228
      · have hm := hm.2 c_208
        refine lv_aload_n hx hb dX6_holds_211 rfl (lv_at hl 4 rfl) ?_
        refine lv_aload hx hb dX6_holds_212 (lv_at hl 0 rfl) ?_
        refine lv_iconst (v := 4) hx hb dX6_holds_214 (by decide) ?_
        refine wr_ld (jn := 4) (f := (fun X => SM Z sa o ro nn V S O N U L X)) (sm_4 Z sa o ro nn V S O N U L) hC hK hP hm.1 (by decide) rfl dX6_holds_215 ?_
        have hm := hm.2
        refine k_X6_air hC hN hK hP hD hm wq_840 (by decide) hl.1 (Nat.le_of_ble_eq_true rfl) ⟨Nat.le_refl _, Nat.le_refl _⟩ dX6_holds_216 (fun r_216 hm => ?_)
        refine lv_iload_n hx hb dX6_holds_219 rfl (lv_at hl 2 rfl) ?_
        refine lv_icmp_le (tgt := 227) hx hb dX6_holds_220 (by decide) (fun c_220 => ?_) (fun c_220 => ?_)
        · have hm := hm.1 c_220
          refine lv_iconst (v := 0) hx hb dX6_holds_227 (by decide) ?_
          exact hret 228 _ _ hm rfl dX6_holds_228
        · have hm := hm.2 c_220
          refine lv_iconst (v := 1) hx hb dX6_holds_223 (by decide) ?_
          refine lv_goto (tgt := 228) hx hb dX6_holds_224 (by decide) ?_
          exact hret 228 _ _ hm rfl dX6_holds_228
  have hm := hm.2
  have hm := hm s43_0 s43_1 s43_2 s43_3 s43_4 s43_5 s43_6
  refine w_swd (tgt := 229) [0, 1, 2, 3, 4, 5, 6] hx hb dX6_holds_43 (by decide) (by decide) (fun k hk => ?_) (by decide) ?_
  · simp only [List.mem_cons, List.not_mem_nil, or_false] at hk
    rcases hk with rfl | rfl | rfl | rfl | rfl | rfl | rfl
    · exact eq_toInt s43_0
    · exact eq_toInt s43_1
    · exact eq_toInt s43_2
    · exact eq_toInt s43_3
    · exact eq_toInt s43_4
    · exact eq_toInt s43_5
    · exact eq_toInt s43_6
  · refine lv_aload_n hx hb dX6_holds_229 rfl (lv_at hl 4 rfl) ?_
    refine lv_iconst (v := 0) hx hb dX6_holds_230 (by decide) ?_
    refine k_X6_waits hC hN hK hP hD hm wq_836 (by decide) hl.1 (Nat.le_of_ble_eq_true rfl) ⟨Nat.le_refl _, Nat.le_refl _⟩ dX6_holds_231 (fun r_231 hm => ?_)
    refine lv_iload_n hx hb dX6_holds_234 rfl (lv_at hl 3 rfl) ?_
    refine w_min hC wq_844 (by decide) (Nat.le_of_ble_eq_true rfl) hl.1 ⟨Nat.le_refl _, Nat.le_refl _⟩ dX6_holds_235 ?_
    refine lv_aload_n hx hb dX6_holds_238 rfl (lv_at hl 4 rfl) ?_
    refine lv_iconst (v := 1) hx hb dX6_holds_239 (by decide) ?_
    refine k_X6_waits hC hN hK hP hD hm wq_836 (by decide) hl.1 (Nat.le_of_ble_eq_true rfl) ⟨Nat.le_refl _, Nat.le_refl _⟩ dX6_holds_240 (fun r_240 hm => ?_)
    refine lv_isub hx hb dX6_holds_243 ?_
    refine lv_iconst (v := 1) hx hb dX6_holds_244 (by decide) ?_
    refine lv_icmp_ge (tgt := 252) hx hb dX6_holds_245 (by decide) (fun c_245 => ?_) (fun c_245 => ?_)
    · have hm := hm.1 c_245
      refine lv_iconst (v := 0) hx hb dX6_holds_252 (by decide) ?_
      exact hret 253 _ _ hm rfl dX6_holds_253
    · have hm := hm.2 c_245
      refine lv_iconst (v := 1) hx hb dX6_holds_248 (by decide) ?_
      refine lv_goto (tgt := 253) hx hb dX6_holds_249 (by decide) ?_
      exact hret 253 _ _ hm rfl dX6_holds_253
section KX6_holds
variable {p : Program} {l : Launch} {e : Env} {s : State} {m : MethodId} {args : Array Value} {below : List Frame} {meth : Method} {c : Code} {H H0 : Heap} {locs : List Loc} {cells slots : Nat} {Q : State → Prop} {R : Room} {rn mcR msR : Nat}
variable {pc : Nat} {ls : Array Slot} {rest : List Value} {A : Nat → Prop} {D : va_G}
variable {cc : ByteArray} {nL index : Nat} {own host : String}
theorem k_X6_holds {Z : Nat → ClassId} {sa : Nat} {o : Nat → Nat} {ro : Nat → Nat → Nat} {nn : Nat → Nat} {V S O : M2} {N : M2} {U : M2} {L : M2} {B : M2} {x1 : Int32} {K : Int32 → Prop} (hC : CallFix p m c cc nL s args lw_g own) (hN : NW s) (hK : va_K D vwCl (tysG Z) s) (hP : va_P D vwCl (SM Z sa o ro nn V S O N U L B) H) (hD : va_D (fun _ => True) (SM Z sa o ro nn V S O N U L B)) (hm : wp_X6_holds nn V S O N U L B x1 K) (hl : Cond.methodLink own index yX6_holds ∈ lw_g) (hlt : 2 < rn) (hsize : ls.size = nL) (hW : (rest.map fun v => v.category).sum ≤ 8) (hf : cells + 0 ≤ mcR ∧ slots + 0 ≤ msR) (hdg : decode cc pc = .ok (.invokevirtual index, 3)) (kk : ∀ r : Int32, K r → W p l e (rk rn mcR msR) s m args below meth c H locs cells slots Q (F0 m (pc + 3) ls (.int r :: rest))) : W p l e (rk rn mcR msR) s m args below meth c H locs cells slots Q (F0 m pc ls (.ref (ro 5 x1.toInt.toNat) :: .ref (sa) :: rest)) :=
  ro_go (runV (As := [.ref (ro 5 x1.toInt.toNat)]) hC hN (c_X6_holds l D Z sa o ro nn V S O N U L B H.size x1 K hm) mi_X6_holds hl wq_833 wq_834 hlt hP hD hK (q0 := 0) rfl rfl rfl hsize rfl hW hdg hf) kk
end KX6_holds
def wl_X6_isReady_43 (nn : Nat → Nat) (V : M2) (S : M2) (O : M2) (N : M2) (U : M2) (L : M2) (B : M2) (K : Int32 → Prop) : Nat → Int32 → Int32 → Int32 → Prop
  | 0, _, _, _ => False
  | n + 1, v1, v4, v5 => ((v4 ≤ v5 → K 1) ∧ (¬ v4 ≤ v5 → (inb v5 (nn 5) ∧ (inb v5 (nn 5) ∧ ((¬ (O v5.toInt.toNat 0) = 1 → (∀ v5_83 : Int32, v5_83 = v5 + 1 → wl_X6_isReady_43 nn V S O N U L B K n v1 v4 v5_83)) ∧ ((O v5.toInt.toNat 0) = 1 → (inb v5 (nn 5) ∧ ((¬ (O v5.toInt.toNat 1) = v1 → (∀ v5_83 : Int32, v5_83 = v5 + 1 → wl_X6_isReady_43 nn V S O N U L B K n v1 v4 v5_83)) ∧ ((O v5.toInt.toNat 1) = v1 → wp_X6_holds nn V S O N U L B v5 (fun r_75 => ((r_75 = 0 → (∀ v5_83 : Int32, v5_83 = v5 + 1 → wl_X6_isReady_43 nn V S O N U L B K n v1 v4 v5_83)) ∧ (¬ r_75 = 0 → K 0))))))))))))
def wp_X6_isReady (nn : Nat → Nat) (V : M2) (S : M2) (O : M2) (N : M2) (U : M2) (L : M2) (B : M2) (x1 : Int32) (K : Int32 → Prop) : Prop := (inb x1 (nn 3) ∧ (inb x1 (nn 3) ∧ ((¬ (L x1.toInt.toNat 4) = 0 → K 0) ∧ ((L x1.toInt.toNat 4) = 0 → (inb x1 (nn 3) ∧ (((L x1.toInt.toNat 2) < 20 → K 0) ∧ (¬ (L x1.toInt.toNat 2) < 20 → wp_X6_boatOf nn V S O N U L B x1 (fun r_23 => ((r_23 < 0 → (∀ v4_38, v4_38 = Int32.ofNat (nn 5) → wl_X6_isReady_43 nn V S O N U L B K fK x1 v4_38 0)) ∧ (¬ r_23 < 0 → K 0))))))))))
set_option maxRecDepth 100000 in
set_option maxHeartbeats 4000000 in
theorem c_X6_isReady (l : Launch) (D : va_G) (Z : Nat → ClassId) (sa : Nat) (o : Nat → Nat) (ro : Nat → Nat → Nat) (nn : Nat → Nat) (V S O : M2) (N : M2) (U : M2) (L : M2) (B : M2) (sz : Nat) (x1 : Int32) (K : Int32 → Prop) (hm : wp_X6_isReady nn V S O N U L B x1 K) : Met l yX6_isReady (wy yX6_isReady cX6_isReady 7 (some .boolean)) (rk 3 0 0) (pre vwCl D Z (SM Z sa o ro nn V S O N U L B) sz [.ref (sa), .int x1]) (vp_Si K) 0 0 (fun _ => False) := by
  refine ro_of (ty := .boolean) (by decide +kernel) (Nat.le_of_ble_eq_true rfl) rfl ?_
  intro p e s m args below meth c Q hC hN hsz hP hD hK hret ls hl
  have hx := hC.1
  have hb := hC.2.1
  have hl : lv_has ls 7 [(0, .ref (sa)), (1, .int x1)] := hl
  have L43 : ∀ (n43 : Nat), ∀ (v1 : Int32) (v4 : Int32) (v5 : Int32) (ls : Array Slot), wl_X6_isReady_43 nn V S O N U L B K n43 v1 v4 v5 → lv_has ls 7 [(0, .ref (sa)), (1, .int v1), (3, .ref (o 5)), (4, .int v4), (5, .int v5)] → W p l e (rk 3 0 0) s m args below meth c s.heap [] 0 0 Q (F0 m 43 ls []) := by
    intro n43
    induction n43 with
    | zero =>
      intro v1 v4 v5 ls hm hl
      exact False.elim hm
    | succ n43 ih43 =>
      intro v1 v4 v5 ls hm hl
      refine lv_iload hx hb dX6_isReady_43 (lv_at hl 4 rfl) ?_
      refine lv_iload hx hb dX6_isReady_45 (lv_at hl 3 rfl) ?_
      refine lv_icmp_ge (tgt := 89) hx hb dX6_isReady_47 (by decide) (fun c_47 => ?_) (fun c_47 => ?_)
      · have hm := hm.1 c_47
        refine lv_iconst (v := 1) hx hb dX6_isReady_89 (by decide) ?_
        exact hret 90 _ _ hm rfl dX6_isReady_90
      · have hm := hm.2 c_47
        refine lv_aload_n hx hb dX6_isReady_50 rfl (lv_at hl 2 rfl) ?_
        refine lv_iload hx hb dX6_isReady_51 (lv_at hl 4 rfl) ?_
        refine w_aaldR (q0 := 6) hC hK hP rfl hm.1 dX6_isReady_53 ?_
        have hm := hm.2
        refine lv_astore (lv' := [(6, .ref (ro 5 v5.toInt.toNat)), (0, .ref (sa)), (1, .int v1), (3, .ref (o 5)), (4, .int v4), (5, .int v5)]) hx hb dX6_isReady_54 hl (by decide) rfl (fun ls hl => ?_)
        refine lv_aload hx hb dX6_isReady_56 (lv_at hl 0 rfl) ?_
        refine lv_iconst (v := 0) hx hb dX6_isReady_58 (by decide) ?_
        refine wr_ld (jn := 0) (f := (fun X => SM Z sa o ro nn V S X N U L B)) (sm_5 Z sa o ro nn V S N U L B) hC hK hP hm.1 (by decide) rfl dX6_isReady_59 ?_
        have hm := hm.2
        refine lv_iconst (v := 1) hx hb dX6_isReady_60 (by decide) ?_
        refine lv_icmp_ne (tgt := 83) hx hb dX6_isReady_61 (by decide) (fun c_61 => ?_) (fun c_61 => ?_)
        · have hm := hm.1 c_61
          obtain ⟨v5_83, ev5_83⟩ : ∃ y : Int32, y = v5 + 1 := ⟨_, rfl⟩
          have hm := hm v5_83 ev5_83
          refine lv_iinc (v := v5_83) (lv' := [(5, .int v5_83), (6, .ref (ro 5 v5.toInt.toNat)), (0, .ref (sa)), (1, .int v1), (3, .ref (o 5)), (4, .int v4)]) hx hb dX6_isReady_83 hl (k := 5) rfl (by rw [ev5_83]; rfl) (by decide) rfl (fun ls hl => ?_)
          refine lv_goto (tgt := 43) hx hb dX6_isReady_86 (by decide) ?_
          exact ih43 _ _ _ _ hm (lv_sub hl [2, 3, 4, 5, 0] rfl)
        · have hm := hm.2 c_61
          refine lv_aload hx hb dX6_isReady_64 (lv_at hl 0 rfl) ?_
          refine lv_iconst (v := 1) hx hb dX6_isReady_66 (by decide) ?_
          refine wr_ld (jn := 1) (f := (fun X => SM Z sa o ro nn V S X N U L B)) (sm_5 Z sa o ro nn V S N U L B) hC hK hP hm.1 (by decide) rfl dX6_isReady_67 ?_
          have hm := hm.2
          refine lv_iload_n hx hb dX6_isReady_68 rfl (lv_at hl 2 rfl) ?_
          refine lv_icmp_ne (tgt := 83) hx hb dX6_isReady_69 (by decide) (fun c_69 => ?_) (fun c_69 => ?_)
          · have hm := hm.1 c_69
            obtain ⟨v5_83, ev5_83⟩ : ∃ y : Int32, y = v5 + 1 := ⟨_, rfl⟩
            have hm := hm v5_83 ev5_83
            refine lv_iinc (v := v5_83) (lv' := [(5, .int v5_83), (6, .ref (ro 5 v5.toInt.toNat)), (0, .ref (sa)), (1, .int v1), (3, .ref (o 5)), (4, .int v4)]) hx hb dX6_isReady_83 hl (k := 5) rfl (by rw [ev5_83]; rfl) (by decide) rfl (fun ls hl => ?_)
            refine lv_goto (tgt := 43) hx hb dX6_isReady_86 (by decide) ?_
            exact ih43 _ _ _ _ hm (lv_sub hl [2, 3, 4, 5, 0] rfl)
          · have hm := hm.2 c_69
            refine lv_aload_n hx hb dX6_isReady_72 rfl (lv_at hl 1 rfl) ?_
            refine lv_aload hx hb dX6_isReady_73 (lv_at hl 0 rfl) ?_
            refine k_X6_holds hC hN hK hP hD hm wq_832 (by decide) hl.1 (Nat.le_of_ble_eq_true rfl) ⟨Nat.le_refl _, Nat.le_refl _⟩ dX6_isReady_75 (fun r_75 hm => ?_)
            refine lv_if_eq (tgt := 83) hx hb dX6_isReady_78 (by decide) (fun c_78 => ?_) (fun c_78 => ?_)
            · have hm := hm.1 c_78
              obtain ⟨v5_83, ev5_83⟩ : ∃ y : Int32, y = v5 + 1 := ⟨_, rfl⟩
              have hm := hm v5_83 ev5_83
              refine lv_iinc (v := v5_83) (lv' := [(5, .int v5_83), (6, .ref (ro 5 v5.toInt.toNat)), (0, .ref (sa)), (1, .int v1), (3, .ref (o 5)), (4, .int v4)]) hx hb dX6_isReady_83 hl (k := 5) rfl (by rw [ev5_83]; rfl) (by decide) rfl (fun ls hl => ?_)
              refine lv_goto (tgt := 43) hx hb dX6_isReady_86 (by decide) ?_
              exact ih43 _ _ _ _ hm (lv_sub hl [2, 3, 4, 5, 0] rfl)
            · have hm := hm.2 c_78
              refine lv_iconst (v := 0) hx hb dX6_isReady_81 (by decide) ?_
              exact hret 82 _ _ hm rfl dX6_isReady_82
  refine lv_aload_n hx hb dX6_isReady_0 rfl (lv_at hl 0 rfl) ?_
  refine gSM_sim_5 hC hK hP wq_1175 dX6_isReady_1 ?_
  refine lv_iload_n hx hb dX6_isReady_4 rfl (lv_at hl 1 rfl) ?_
  refine w_aaldR (q0 := 4) hC hK hP rfl hm.1 dX6_isReady_5 ?_
  have hm := hm.2
  refine lv_astore_n (lv' := [(2, .ref (ro 3 x1.toInt.toNat)), (0, .ref (sa)), (1, .int x1)]) hx hb dX6_isReady_6 rfl hl (by decide) rfl (fun ls hl => ?_)
  refine lv_aload_n hx hb dX6_isReady_7 rfl (lv_at hl 0 rfl) ?_
  refine lv_iconst (v := 4) hx hb dX6_isReady_8 (by decide) ?_
  refine wr_ld (jn := 4) (f := (fun X => SM Z sa o ro nn V S O N U X B)) (sm_3 Z sa o ro nn V S O N U B) hC hK hP hm.1 (by decide) rfl dX6_isReady_9 ?_
  have hm := hm.2
  refine lv_if_ne (tgt := 29) hx hb dX6_isReady_10 (by decide) (fun c_10 => ?_) (fun c_10 => ?_)
  · have hm := hm.1 c_10
    refine lv_iconst (v := 0) hx hb dX6_isReady_29 (by decide) ?_
    exact hret 30 _ _ hm rfl dX6_isReady_30
  · have hm := hm.2 c_10
    refine lv_aload_n hx hb dX6_isReady_13 rfl (lv_at hl 0 rfl) ?_
    refine lv_iconst (v := 2) hx hb dX6_isReady_14 (by decide) ?_
    refine wr_ld (jn := 2) (f := (fun X => SM Z sa o ro nn V S O N U X B)) (sm_3 Z sa o ro nn V S O N U B) hC hK hP hm.1 (by decide) rfl dX6_isReady_15 ?_
    have hm := hm.2
    refine lv_bipush (v := 20) hx hb dX6_isReady_16 (by decide) ?_
    refine lv_icmp_lt (tgt := 29) hx hb dX6_isReady_18 (by decide) (fun c_18 => ?_) (fun c_18 => ?_)
    · have hm := hm.1 c_18
      refine lv_iconst (v := 0) hx hb dX6_isReady_29 (by decide) ?_
      exact hret 30 _ _ hm rfl dX6_isReady_30
    · have hm := hm.2 c_18
      refine lv_aload_n hx hb dX6_isReady_21 rfl (lv_at hl 1 rfl) ?_
      refine lv_iload_n hx hb dX6_isReady_22 rfl (lv_at hl 2 rfl) ?_
      refine k_X6_boatOf hC hN hK hP hD hm wq_857 (by decide) hl.1 (Nat.le_of_ble_eq_true rfl) ⟨Nat.le_refl _, Nat.le_refl _⟩ dX6_isReady_23 (fun r_23 hm => ?_)
      refine lv_if_lt (tgt := 31) hx hb dX6_isReady_26 (by decide) (fun c_26 => ?_) (fun c_26 => ?_)
      · have hm := hm.1 c_26
        refine lv_aload_n hx hb dX6_isReady_31 rfl (lv_at hl 1 rfl) ?_
        refine gSM_sim_7 hC hK hP wq_1179 dX6_isReady_32 ?_
        refine lv_astore_n (lv' := [(3, .ref (o 5)), (2, .ref (ro 3 x1.toInt.toNat)), (0, .ref (sa)), (1, .int x1)]) hx hb dX6_isReady_35 rfl hl (by decide) rfl (fun ls hl => ?_)
        refine lv_aload_n hx hb dX6_isReady_36 rfl (lv_at hl 0 rfl) ?_
        refine w_alen (q0 := 6) (t0 := 3) hC hK hP rfl rfl dX6_isReady_37 ?_
        refine lv_topi (fun v4_38 ev4_38 => ?_)
        have hm := hm v4_38 ev4_38
        refine lv_istore (lv' := [(4, .int v4_38), (3, .ref (o 5)), (2, .ref (ro 3 x1.toInt.toNat)), (0, .ref (sa)), (1, .int x1)]) hx hb dX6_isReady_38 hl (by decide) rfl (fun ls hl => ?_)
        refine lv_iconst (v := 0) hx hb dX6_isReady_40 (by decide) ?_
        refine lv_istore (lv' := [(5, .int 0), (4, .int v4_38), (3, .ref (o 5)), (2, .ref (ro 3 x1.toInt.toNat)), (0, .ref (sa)), (1, .int x1)]) hx hb dX6_isReady_41 hl (by decide) rfl (fun ls hl => ?_)
        exact L43 _ _ _ _ _ hm (lv_sub hl [4, 5, 2, 1, 0] rfl)
      · have hm := hm.2 c_26
        refine lv_iconst (v := 0) hx hb dX6_isReady_29 (by decide) ?_
        exact hret 30 _ _ hm rfl dX6_isReady_30
section KX6_isReady
variable {p : Program} {l : Launch} {e : Env} {s : State} {m : MethodId} {args : Array Value} {below : List Frame} {meth : Method} {c : Code} {H H0 : Heap} {locs : List Loc} {cells slots : Nat} {Q : State → Prop} {R : Room} {rn mcR msR : Nat}
variable {pc : Nat} {ls : Array Slot} {rest : List Value} {A : Nat → Prop} {D : va_G}
variable {cc : ByteArray} {nL index : Nat} {own host : String}
theorem k_X6_isReady {Z : Nat → ClassId} {sa : Nat} {o : Nat → Nat} {ro : Nat → Nat → Nat} {nn : Nat → Nat} {V S O : M2} {N : M2} {U : M2} {L : M2} {B : M2} {x1 : Int32} {K : Int32 → Prop} (hC : CallFix p m c cc nL s args lw_g own) (hN : NW s) (hK : va_K D vwCl (tysG Z) s) (hP : va_P D vwCl (SM Z sa o ro nn V S O N U L B) H) (hD : va_D (fun _ => True) (SM Z sa o ro nn V S O N U L B)) (hm : wp_X6_isReady nn V S O N U L B x1 K) (hl : Cond.methodLink own index yX6_isReady ∈ lw_g) (hlt : 3 < rn) (hsize : ls.size = nL) (hW : (rest.map fun v => v.category).sum ≤ 8) (hf : cells + 0 ≤ mcR ∧ slots + 0 ≤ msR) (hdg : decode cc pc = .ok (.invokevirtual index, 3)) (kk : ∀ r : Int32, K r → W p l e (rk rn mcR msR) s m args below meth c H locs cells slots Q (F0 m (pc + 3) ls (.int r :: rest))) : W p l e (rk rn mcR msR) s m args below meth c H locs cells slots Q (F0 m pc ls (.int x1 :: .ref (sa) :: rest)) :=
  ro_go (runV (As := [.int x1]) hC hN (c_X6_isReady l D Z sa o ro nn V S O N U L B H.size x1 K hm) mi_X6_isReady hl wq_854 wq_855 hlt hP hD hK (q0 := 0) rfl rfl rfl hsize rfl hW hdg hf) kk
end KX6_isReady
def wj_X6_canEnter_144 (nn : Nat → Nat) (V : M2) (S : M2) (O : M2) (N : M2) (U : M2) (L : M2) (B : M2) (K : Int32 → Prop) (v2 : Int32) : Prop := (inb v2 (nn 4) ∧ wp_X6_isReady nn V S O N U L B (B v2.toInt.toNat 7) (fun r_149 => ((r_149 = 0 → K 0) ∧ (¬ r_149 = 0 → (inb v2 (nn 4) ∧ wp_X6_isReady nn V S O N U L B (B v2.toInt.toNat 8) (fun r_160 => ((r_160 = 0 → K 0) ∧ (¬ r_160 = 0 → K 1))))))))
def wl_X6_canEnter_96 (nn : Nat → Nat) (V : M2) (S : M2) (O : M2) (N : M2) (U : M2) (L : M2) (B : M2) (K : Int32 → Prop) : Nat → Int32 → Int32 → Prop
  | 0, _, _ => False
  | n + 1, v2, v3 => ((4 ≤ v3 → wj_X6_canEnter_144 nn V S O N U L B K v2) ∧ (¬ 4 ≤ v3 → (((Int32.ofNat (nn 1)) ≤ v3 → wj_X6_canEnter_144 nn V S O N U L B K v2) ∧ (¬ (Int32.ofNat (nn 1)) ≤ v3 → (inb v2 (nn 4) ∧ ((¬ (B v2.toInt.toNat 1) = 0 → wp_X6_boatAt nn V S O N U L B (((Int32.ofNat (nn 1)) - 1) - v3) (fun r_130 => ((r_130 < 0 → (∀ v3_138 : Int32, v3_138 = v3 + 1 → wl_X6_canEnter_96 nn V S O N U L B K n v2 v3_138)) ∧ (¬ r_130 < 0 → K 0)))) ∧ ((B v2.toInt.toNat 1) = 0 → wp_X6_boatAt nn V S O N U L B v3 (fun r_130 => ((r_130 < 0 → (∀ v3_138 : Int32, v3_138 = v3 + 1 → wl_X6_canEnter_96 nn V S O N U L B K n v2 v3_138)) ∧ (¬ r_130 < 0 → K 0))))))))))
def wl_X6_canEnter_55 (nn : Nat → Nat) (V : M2) (S : M2) (O : M2) (N : M2) (U : M2) (L : M2) (B : M2) (K : Int32 → Prop) : Nat → Int32 → Int32 → Int32 → Prop
  | 0, _, _, _ => False
  | n + 1, v2, v4, v5 => ((v4 ≤ v5 → wl_X6_canEnter_96 nn V S O N U L B K fK v2 0) ∧ (¬ v4 ≤ v5 → (inb v5 (nn 4) ∧ (inb v5 (nn 4) ∧ ((¬ (B v5.toInt.toNat 3) = 1 → (∀ v5_88 : Int32, v5_88 = v5 + 1 → wl_X6_canEnter_55 nn V S O N U L B K n v2 v4 v5_88)) ∧ ((B v5.toInt.toNat 3) = 1 → (inb v5 (nn 4) ∧ (inb v2 (nn 4) ∧ (((B v5.toInt.toNat 1) = (B v2.toInt.toNat 1) → (∀ v5_88 : Int32, v5_88 = v5 + 1 → wl_X6_canEnter_55 nn V S O N U L B K n v2 v4 v5_88)) ∧ (¬ (B v5.toInt.toNat 1) = (B v2.toInt.toNat 1) → K 0))))))))))
def wp_X6_canEnter (nn : Nat → Nat) (V : M2) (S : M2) (O : M2) (N : M2) (U : M2) (L : M2) (B : M2) (x1 : Int32) (K : Int32 → Prop) : Prop := (inb x1 (nn 4) ∧ (inb x1 (nn 4) ∧ ((¬ (B x1.toInt.toNat 3) = 0 → K 0) ∧ ((B x1.toInt.toNat 3) = 0 → (inb x1 (nn 4) ∧ (((N 0 0) < (B x1.toInt.toNat 2) → K 0) ∧ (¬ (N 0 0) < (B x1.toInt.toNat 2) → (inb x1 (nn 4) ∧ ((¬ (B x1.toInt.toNat 1) = (N 1 0) → K 0) ∧ ((B x1.toInt.toNat 1) = (N 1 0) → ((¬ (Int32.ofNat (nn 1)) = 0 → (∀ v4_50, v4_50 = Int32.ofNat (nn 4) → wl_X6_canEnter_55 nn V S O N U L B K fK x1 v4_50 0)) ∧ ((Int32.ofNat (nn 1)) = 0 → K 0))))))))))))
set_option maxRecDepth 100000 in
set_option maxHeartbeats 4000000 in
theorem c_X6_canEnter (l : Launch) (D : va_G) (Z : Nat → ClassId) (sa : Nat) (o : Nat → Nat) (ro : Nat → Nat → Nat) (nn : Nat → Nat) (V S O : M2) (N : M2) (U : M2) (L : M2) (B : M2) (sz : Nat) (x1 : Int32) (K : Int32 → Prop) (hm : wp_X6_canEnter nn V S O N U L B x1 K) : Met l yX6_canEnter (wy yX6_canEnter cX6_canEnter 7 (some .boolean)) (rk 4 0 0) (pre vwCl D Z (SM Z sa o ro nn V S O N U L B) sz [.ref (sa), .int x1]) (vp_Si K) 0 0 (fun _ => False) := by
  refine ro_of (ty := .boolean) (by decide +kernel) (Nat.le_of_ble_eq_true rfl) rfl ?_
  intro p e s m args below meth c Q hC hN hsz hP hD hK hret ls hl
  have hx := hC.1
  have hb := hC.2.1
  have hl : lv_has ls 7 [(0, .ref (sa)), (1, .int x1)] := hl
  have L144 : ∀ (v2 : Int32) (ls : Array Slot), wj_X6_canEnter_144 nn V S O N U L B K v2 → lv_has ls 7 [(0, .ref (sa)), (2, .ref (ro 4 v2.toInt.toNat))] → W p l e (rk 4 0 0) s m args below meth c s.heap [] 0 0 Q (F0 m 144 ls []) := by
    intro v2 ls hm hl
    refine lv_aload_n hx hb dX6_canEnter_144 rfl (lv_at hl 0 rfl) ?_
    refine lv_aload_n hx hb dX6_canEnter_145 rfl (lv_at hl 1 rfl) ?_
    refine lv_bipush (v := 7) hx hb dX6_canEnter_146 (by decide) ?_
    refine wr_ld (jn := 7) (f := (fun X => SM Z sa o ro nn V S O N U L X)) (sm_4 Z sa o ro nn V S O N U L) hC hK hP hm.1 (by decide) rfl dX6_canEnter_148 ?_
    have hm := hm.2
    refine k_X6_isReady hC hN hK hP hD hm wq_853 (by decide) hl.1 (Nat.le_of_ble_eq_true rfl) ⟨Nat.le_refl _, Nat.le_refl _⟩ dX6_canEnter_149 (fun r_149 hm => ?_)
    refine lv_if_eq (tgt := 170) hx hb dX6_canEnter_152 (by decide) (fun c_152 => ?_) (fun c_152 => ?_)
    · have hm := hm.1 c_152
      refine lv_iconst (v := 0) hx hb dX6_canEnter_170 (by decide) ?_
      exact hret 171 _ _ hm rfl dX6_canEnter_171
    · have hm := hm.2 c_152
      refine lv_aload_n hx hb dX6_canEnter_155 rfl (lv_at hl 0 rfl) ?_
      refine lv_aload_n hx hb dX6_canEnter_156 rfl (lv_at hl 1 rfl) ?_
      refine lv_bipush (v := 8) hx hb dX6_canEnter_157 (by decide) ?_
      refine wr_ld (jn := 8) (f := (fun X => SM Z sa o ro nn V S O N U L X)) (sm_4 Z sa o ro nn V S O N U L) hC hK hP hm.1 (by decide) rfl dX6_canEnter_159 ?_
      have hm := hm.2
      refine k_X6_isReady hC hN hK hP hD hm wq_853 (by decide) hl.1 (Nat.le_of_ble_eq_true rfl) ⟨Nat.le_refl _, Nat.le_refl _⟩ dX6_canEnter_160 (fun r_160 hm => ?_)
      refine lv_if_eq (tgt := 170) hx hb dX6_canEnter_163 (by decide) (fun c_163 => ?_) (fun c_163 => ?_)
      · have hm := hm.1 c_163
        refine lv_iconst (v := 0) hx hb dX6_canEnter_170 (by decide) ?_
        exact hret 171 _ _ hm rfl dX6_canEnter_171
      · have hm := hm.2 c_163
        refine lv_iconst (v := 1) hx hb dX6_canEnter_166 (by decide) ?_
        refine lv_goto (tgt := 171) hx hb dX6_canEnter_167 (by decide) ?_
        exact hret 171 _ _ hm rfl dX6_canEnter_171
  have L96 : ∀ (n96 : Nat), ∀ (v2 : Int32) (v3 : Int32) (ls : Array Slot), wl_X6_canEnter_96 nn V S O N U L B K n96 v2 v3 → lv_has ls 7 [(0, .ref (sa)), (2, .ref (ro 4 v2.toInt.toNat)), (3, .int v3)] → W p l e (rk 4 0 0) s m args below meth c s.heap [] 0 0 Q (F0 m 96 ls []) := by
    intro n96
    induction n96 with
    | zero =>
      intro v2 v3 ls hm hl
      exact False.elim hm
    | succ n96 ih96 =>
      intro v2 v3 ls hm hl
      refine lv_iload_n hx hb dX6_canEnter_96 rfl (lv_at hl 2 rfl) ?_
      refine lv_iconst (v := 4) hx hb dX6_canEnter_97 (by decide) ?_
      refine lv_icmp_ge (tgt := 144) hx hb dX6_canEnter_98 (by decide) (fun c_98 => ?_) (fun c_98 => ?_)
      · have hm := hm.1 c_98
        exact L144 _ _ hm (lv_sub hl [0, 1] rfl)
      · have hm := hm.2 c_98
        refine lv_iload_n hx hb dX6_canEnter_101 rfl (lv_at hl 2 rfl) ?_
        refine lv_aload_n hx hb dX6_canEnter_102 rfl (lv_at hl 0 rfl) ?_
        refine gSM_sim_3 hC hK hP wq_1171 dX6_canEnter_103 ?_
        refine w_alen (q0 := 2) (t0 := 3) hC hK hP rfl rfl dX6_canEnter_106 ?_
        refine lv_icmp_ge (tgt := 144) hx hb dX6_canEnter_107 (by decide) (fun c_107 => ?_) (fun c_107 => ?_)
        · have hm := hm.1 c_107
          exact L144 _ _ hm (lv_sub hl [0, 1] rfl)
        · have hm := hm.2 c_107
          refine lv_aload_n hx hb dX6_canEnter_110 rfl (lv_at hl 0 rfl) ?_
          refine lv_aload_n hx hb dX6_canEnter_111 rfl (lv_at hl 1 rfl) ?_
          refine lv_iconst (v := 1) hx hb dX6_canEnter_112 (by decide) ?_
          refine wr_ld (jn := 1) (f := (fun X => SM Z sa o ro nn V S O N U L X)) (sm_4 Z sa o ro nn V S O N U L) hC hK hP hm.1 (by decide) rfl dX6_canEnter_113 ?_
          have hm := hm.2
          refine lv_if_ne (tgt := 121) hx hb dX6_canEnter_114 (by decide) (fun c_114 => ?_) (fun c_114 => ?_)
          · have hm := hm.1 c_114
            refine lv_aload_n hx hb dX6_canEnter_121 rfl (lv_at hl 0 rfl) ?_
            refine gSM_sim_3 hC hK hP wq_1171 dX6_canEnter_122 ?_
            refine w_alen (q0 := 2) (t0 := 3) hC hK hP rfl rfl dX6_canEnter_125 ?_
            refine lv_iconst (v := 1) hx hb dX6_canEnter_126 (by decide) ?_
            refine lv_isub hx hb dX6_canEnter_127 ?_
            refine lv_iload_n hx hb dX6_canEnter_128 rfl (lv_at hl 2 rfl) ?_
            refine lv_isub hx hb dX6_canEnter_129 ?_
            refine k_X6_boatAt hC hN hK hP hD hm wq_849 (by decide) hl.1 (Nat.le_of_ble_eq_true rfl) ⟨Nat.le_refl _, Nat.le_refl _⟩ dX6_canEnter_130 (fun r_130 hm => ?_)
            refine lv_if_lt (tgt := 138) hx hb dX6_canEnter_133 (by decide) (fun c_133 => ?_) (fun c_133 => ?_)
            · have hm := hm.1 c_133
              obtain ⟨v3_138, ev3_138⟩ : ∃ y : Int32, y = v3 + 1 := ⟨_, rfl⟩
              have hm := hm v3_138 ev3_138
              refine lv_iinc (v := v3_138) (lv' := [(3, .int v3_138), (0, .ref (sa)), (2, .ref (ro 4 v2.toInt.toNat))]) hx hb dX6_canEnter_138 hl (k := 2) rfl (by rw [ev3_138]; rfl) (by decide) rfl (fun ls hl => ?_)
              refine lv_goto (tgt := 96) hx hb dX6_canEnter_141 (by decide) ?_
              exact ih96 _ _ _ hm (lv_sub hl [1, 2, 0] rfl)
            · have hm := hm.2 c_133
              refine lv_iconst (v := 0) hx hb dX6_canEnter_136 (by decide) ?_
              exact hret 137 _ _ hm rfl dX6_canEnter_137
          · have hm := hm.2 c_114
            refine lv_iload_n hx hb dX6_canEnter_117 rfl (lv_at hl 2 rfl) ?_
            refine lv_goto (tgt := 130) hx hb dX6_canEnter_118 (by decide) ?_
            refine k_X6_boatAt hC hN hK hP hD hm wq_849 (by decide) hl.1 (Nat.le_of_ble_eq_true rfl) ⟨Nat.le_refl _, Nat.le_refl _⟩ dX6_canEnter_130 (fun r_130 hm => ?_)
            refine lv_if_lt (tgt := 138) hx hb dX6_canEnter_133 (by decide) (fun c_133 => ?_) (fun c_133 => ?_)
            · have hm := hm.1 c_133
              obtain ⟨v3_138, ev3_138⟩ : ∃ y : Int32, y = v3 + 1 := ⟨_, rfl⟩
              have hm := hm v3_138 ev3_138
              refine lv_iinc (v := v3_138) (lv' := [(3, .int v3_138), (0, .ref (sa)), (2, .ref (ro 4 v2.toInt.toNat))]) hx hb dX6_canEnter_138 hl (k := 2) rfl (by rw [ev3_138]; rfl) (by decide) rfl (fun ls hl => ?_)
              refine lv_goto (tgt := 96) hx hb dX6_canEnter_141 (by decide) ?_
              exact ih96 _ _ _ hm (lv_sub hl [1, 2, 0] rfl)
            · have hm := hm.2 c_133
              refine lv_iconst (v := 0) hx hb dX6_canEnter_136 (by decide) ?_
              exact hret 137 _ _ hm rfl dX6_canEnter_137
  have L55 : ∀ (n55 : Nat), ∀ (v2 : Int32) (v4 : Int32) (v5 : Int32) (ls : Array Slot), wl_X6_canEnter_55 nn V S O N U L B K n55 v2 v4 v5 → lv_has ls 7 [(0, .ref (sa)), (2, .ref (ro 4 v2.toInt.toNat)), (3, .ref (o 4)), (4, .int v4), (5, .int v5)] → W p l e (rk 4 0 0) s m args below meth c s.heap [] 0 0 Q (F0 m 55 ls []) := by
    intro n55
    induction n55 with
    | zero =>
      intro v2 v4 v5 ls hm hl
      exact False.elim hm
    | succ n55 ih55 =>
      intro v2 v4 v5 ls hm hl
      refine lv_iload hx hb dX6_canEnter_55 (lv_at hl 4 rfl) ?_
      refine lv_iload hx hb dX6_canEnter_57 (lv_at hl 3 rfl) ?_
      refine lv_icmp_ge (tgt := 94) hx hb dX6_canEnter_59 (by decide) (fun c_59 => ?_) (fun c_59 => ?_)
      · have hm := hm.1 c_59
        refine lv_iconst (v := 0) hx hb dX6_canEnter_94 (by decide) ?_
        refine lv_istore_n (lv' := [(3, .int 0), (0, .ref (sa)), (2, .ref (ro 4 v2.toInt.toNat)), (4, .int v4), (5, .int v5)]) hx hb dX6_canEnter_95 rfl hl (by decide) rfl (fun ls hl => ?_)
        exact L96 _ _ _ _ hm (lv_sub hl [1, 2, 0] rfl)
      · have hm := hm.2 c_59
        refine lv_aload_n hx hb dX6_canEnter_62 rfl (lv_at hl 2 rfl) ?_
        refine lv_iload hx hb dX6_canEnter_63 (lv_at hl 4 rfl) ?_
        refine w_aaldR (q0 := 5) hC hK hP rfl hm.1 dX6_canEnter_65 ?_
        have hm := hm.2
        refine lv_astore (lv' := [(6, .ref (ro 4 v5.toInt.toNat)), (0, .ref (sa)), (2, .ref (ro 4 v2.toInt.toNat)), (3, .ref (o 4)), (4, .int v4), (5, .int v5)]) hx hb dX6_canEnter_66 hl (by decide) rfl (fun ls hl => ?_)
        refine lv_aload hx hb dX6_canEnter_68 (lv_at hl 0 rfl) ?_
        refine lv_iconst (v := 3) hx hb dX6_canEnter_70 (by decide) ?_
        refine wr_ld (jn := 3) (f := (fun X => SM Z sa o ro nn V S O N U L X)) (sm_4 Z sa o ro nn V S O N U L) hC hK hP hm.1 (by decide) rfl dX6_canEnter_71 ?_
        have hm := hm.2
        refine lv_iconst (v := 1) hx hb dX6_canEnter_72 (by decide) ?_
        refine lv_icmp_ne (tgt := 88) hx hb dX6_canEnter_73 (by decide) (fun c_73 => ?_) (fun c_73 => ?_)
        · have hm := hm.1 c_73
          obtain ⟨v5_88, ev5_88⟩ : ∃ y : Int32, y = v5 + 1 := ⟨_, rfl⟩
          have hm := hm v5_88 ev5_88
          refine lv_iinc (v := v5_88) (lv' := [(5, .int v5_88), (6, .ref (ro 4 v5.toInt.toNat)), (0, .ref (sa)), (2, .ref (ro 4 v2.toInt.toNat)), (3, .ref (o 4)), (4, .int v4)]) hx hb dX6_canEnter_88 hl (k := 5) rfl (by rw [ev5_88]; rfl) (by decide) rfl (fun ls hl => ?_)
          refine lv_goto (tgt := 55) hx hb dX6_canEnter_91 (by decide) ?_
          exact ih55 _ _ _ _ hm (lv_sub hl [2, 3, 4, 5, 0] rfl)
        · have hm := hm.2 c_73
          refine lv_aload hx hb dX6_canEnter_76 (lv_at hl 0 rfl) ?_
          refine lv_iconst (v := 1) hx hb dX6_canEnter_78 (by decide) ?_
          refine wr_ld (jn := 1) (f := (fun X => SM Z sa o ro nn V S O N U L X)) (sm_4 Z sa o ro nn V S O N U L) hC hK hP hm.1 (by decide) rfl dX6_canEnter_79 ?_
          have hm := hm.2
          refine lv_aload_n hx hb dX6_canEnter_80 rfl (lv_at hl 2 rfl) ?_
          refine lv_iconst (v := 1) hx hb dX6_canEnter_81 (by decide) ?_
          refine wr_ld (jn := 1) (f := (fun X => SM Z sa o ro nn V S O N U L X)) (sm_4 Z sa o ro nn V S O N U L) hC hK hP hm.1 (by decide) rfl dX6_canEnter_82 ?_
          have hm := hm.2
          refine lv_icmp_eq (tgt := 88) hx hb dX6_canEnter_83 (by decide) (fun c_83 => ?_) (fun c_83 => ?_)
          · have hm := hm.1 c_83
            obtain ⟨v5_88, ev5_88⟩ : ∃ y : Int32, y = v5 + 1 := ⟨_, rfl⟩
            have hm := hm v5_88 ev5_88
            refine lv_iinc (v := v5_88) (lv' := [(5, .int v5_88), (6, .ref (ro 4 v5.toInt.toNat)), (0, .ref (sa)), (2, .ref (ro 4 v2.toInt.toNat)), (3, .ref (o 4)), (4, .int v4)]) hx hb dX6_canEnter_88 hl (k := 5) rfl (by rw [ev5_88]; rfl) (by decide) rfl (fun ls hl => ?_)
            refine lv_goto (tgt := 55) hx hb dX6_canEnter_91 (by decide) ?_
            exact ih55 _ _ _ _ hm (lv_sub hl [2, 3, 4, 5, 0] rfl)
          · have hm := hm.2 c_83
            refine lv_iconst (v := 0) hx hb dX6_canEnter_86 (by decide) ?_
            exact hret 87 _ _ hm rfl dX6_canEnter_87
  refine lv_aload_n hx hb dX6_canEnter_0 rfl (lv_at hl 0 rfl) ?_
  refine gSM_sim_6 hC hK hP wq_1177 dX6_canEnter_1 ?_
  refine lv_iload_n hx hb dX6_canEnter_4 rfl (lv_at hl 1 rfl) ?_
  refine w_aaldR (q0 := 5) hC hK hP rfl hm.1 dX6_canEnter_5 ?_
  have hm := hm.2
  refine lv_astore_n (lv' := [(2, .ref (ro 4 x1.toInt.toNat)), (0, .ref (sa)), (1, .int x1)]) hx hb dX6_canEnter_6 rfl hl (by decide) rfl (fun ls hl => ?_)
  refine lv_aload_n hx hb dX6_canEnter_7 rfl (lv_at hl 0 rfl) ?_
  refine lv_iconst (v := 3) hx hb dX6_canEnter_8 (by decide) ?_
  refine wr_ld (jn := 3) (f := (fun X => SM Z sa o ro nn V S O N U L X)) (sm_4 Z sa o ro nn V S O N U L) hC hK hP hm.1 (by decide) rfl dX6_canEnter_9 ?_
  have hm := hm.2
  refine lv_if_ne (tgt := 41) hx hb dX6_canEnter_10 (by decide) (fun c_10 => ?_) (fun c_10 => ?_)
  · have hm := hm.1 c_10
    refine lv_iconst (v := 0) hx hb dX6_canEnter_41 (by decide) ?_
    exact hret 42 _ _ hm rfl dX6_canEnter_42
  · have hm := hm.2 c_10
    refine lv_aload_n hx hb dX6_canEnter_13 rfl (lv_at hl 0 rfl) ?_
    refine lv_iconst (v := 2) hx hb dX6_canEnter_14 (by decide) ?_
    refine wr_ld (jn := 2) (f := (fun X => SM Z sa o ro nn V S O N U L X)) (sm_4 Z sa o ro nn V S O N U L) hC hK hP hm.1 (by decide) rfl dX6_canEnter_15 ?_
    have hm := hm.2
    refine lv_aload_n hx hb dX6_canEnter_16 rfl (lv_at hl 1 rfl) ?_
    refine gSM_sim_0 hC hK hP wq_1165 dX6_canEnter_17 ?_
    refine lv_icmp_gt (tgt := 41) hx hb dX6_canEnter_20 (by decide) (fun c_20 => ?_) (fun c_20 => ?_)
    · have hm := hm.1 c_20
      refine lv_iconst (v := 0) hx hb dX6_canEnter_41 (by decide) ?_
      exact hret 42 _ _ hm rfl dX6_canEnter_42
    · have hm := hm.2 c_20
      refine lv_aload_n hx hb dX6_canEnter_23 rfl (lv_at hl 0 rfl) ?_
      refine lv_iconst (v := 1) hx hb dX6_canEnter_24 (by decide) ?_
      refine wr_ld (jn := 1) (f := (fun X => SM Z sa o ro nn V S O N U L X)) (sm_4 Z sa o ro nn V S O N U L) hC hK hP hm.1 (by decide) rfl dX6_canEnter_25 ?_
      have hm := hm.2
      refine lv_aload_n hx hb dX6_canEnter_26 rfl (lv_at hl 1 rfl) ?_
      refine gSM_sim_1 hC hK hP wq_1167 dX6_canEnter_27 ?_
      refine lv_icmp_ne (tgt := 41) hx hb dX6_canEnter_30 (by decide) (fun c_30 => ?_) (fun c_30 => ?_)
      · have hm := hm.1 c_30
        refine lv_iconst (v := 0) hx hb dX6_canEnter_41 (by decide) ?_
        exact hret 42 _ _ hm rfl dX6_canEnter_42
      · have hm := hm.2 c_30
        refine lv_aload_n hx hb dX6_canEnter_33 rfl (lv_at hl 1 rfl) ?_
        refine gSM_sim_3 hC hK hP wq_1171 dX6_canEnter_34 ?_
        refine w_alen (q0 := 2) (t0 := 3) hC hK hP rfl rfl dX6_canEnter_37 ?_
        refine lv_if_ne (tgt := 43) hx hb dX6_canEnter_38 (by decide) (fun c_38 => ?_) (fun c_38 => ?_)
        · have hm := hm.1 c_38
          refine lv_aload_n hx hb dX6_canEnter_43 rfl (lv_at hl 1 rfl) ?_
          refine gSM_sim_6 hC hK hP wq_1177 dX6_canEnter_44 ?_
          refine lv_astore_n (lv' := [(3, .ref (o 4)), (2, .ref (ro 4 x1.toInt.toNat)), (0, .ref (sa)), (1, .int x1)]) hx hb dX6_canEnter_47 rfl hl (by decide) rfl (fun ls hl => ?_)
          refine lv_aload_n hx hb dX6_canEnter_48 rfl (lv_at hl 0 rfl) ?_
          refine w_alen (q0 := 5) (t0 := 3) hC hK hP rfl rfl dX6_canEnter_49 ?_
          refine lv_topi (fun v4_50 ev4_50 => ?_)
          have hm := hm v4_50 ev4_50
          refine lv_istore (lv' := [(4, .int v4_50), (3, .ref (o 4)), (2, .ref (ro 4 x1.toInt.toNat)), (0, .ref (sa)), (1, .int x1)]) hx hb dX6_canEnter_50 hl (by decide) rfl (fun ls hl => ?_)
          refine lv_iconst (v := 0) hx hb dX6_canEnter_52 (by decide) ?_
          refine lv_istore (lv' := [(5, .int 0), (4, .int v4_50), (3, .ref (o 4)), (2, .ref (ro 4 x1.toInt.toNat)), (0, .ref (sa)), (1, .int x1)]) hx hb dX6_canEnter_53 hl (by decide) rfl (fun ls hl => ?_)
          exact L55 _ _ _ _ _ hm (lv_sub hl [4, 3, 2, 1, 0] rfl)
        · have hm := hm.2 c_38
          refine lv_iconst (v := 0) hx hb dX6_canEnter_41 (by decide) ?_
          exact hret 42 _ _ hm rfl dX6_canEnter_42
section KX6_canEnter
variable {p : Program} {l : Launch} {e : Env} {s : State} {m : MethodId} {args : Array Value} {below : List Frame} {meth : Method} {c : Code} {H H0 : Heap} {locs : List Loc} {cells slots : Nat} {Q : State → Prop} {R : Room} {rn mcR msR : Nat}
variable {pc : Nat} {ls : Array Slot} {rest : List Value} {A : Nat → Prop} {D : va_G}
variable {cc : ByteArray} {nL index : Nat} {own host : String}
end KX6_canEnter
def wj_X6_come_43 (nn : Nat → Nat) (V : M2) (S : M2) (O : M2) (C7 : M2 → M2 → M2 → M2 → Int32 → Int32 → Int32 → Prop) (K : M2 → M2 → M2 → M2 → Prop) (N : M2) (U : M2) (L : M2) (B : M2) (v1 : Int32) (v2 : Int32) (v3 : Int32) (v4 : Int32) (q0 : Int32) : Prop := ((¬ q0 = 0 → (inb v2 (nn 1) ∧ (inb v2 (nn 1) ∧ (inb (U v2.toInt.toNat 0) (nn 0) ∧ (inb (U v2.toInt.toNat 0) (nn 0) ∧ (inb v4 (nn 3) ∧ ((((V (U v2.toInt.toNat 0).toInt.toNat 1) + (L v4.toInt.toNat 0)) ≤ 12 → (inb v4 (nn 3) ∧ ∀ L_86 : M2, L_86 = up2 L v4.toInt.toNat (upd (L v4.toInt.toNat) 3 ((-1))) → (∀ v3_87 : Int32, v3_87 = v3 + 1 → C7 N U L_86 B v1 v2 v3_87))) ∧ (¬ ((V (U v2.toInt.toNat 0).toInt.toNat 1) + (L v4.toInt.toNat 0)) ≤ 12 → (inb v4 (nn 3) ∧ ∀ L_86 : M2, L_86 = up2 L v4.toInt.toNat (upd (L v4.toInt.toNat) 3 v2) → (∀ v3_87 : Int32, v3_87 = v3 + 1 → C7 N U L_86 B v1 v2 v3_87)))))))))) ∧ (q0 = 0 → (∀ v3_87 : Int32, v3_87 = v3 + 1 → C7 N U L B v1 v2 v3_87)))
def wl_X6_come_7 (nn : Nat → Nat) (V : M2) (S : M2) (O : M2) (K : M2 → M2 → M2 → M2 → Prop) : Nat → M2 → M2 → M2 → M2 → Int32 → Int32 → Int32 → Prop
  | 0, _, _, _, _, _, _, _ => False
  | n + 1, N, U, L, B, v1, v2, v3 => ((9 ≤ v3 → K N U L B) ∧ (¬ 9 ≤ v3 → (inb v1 (nn 4) ∧ inb v3 9 ∧ (inb (B v1.toInt.toNat v3.toInt.toNat) (nn 3) ∧ (∀ v4_21 : Int32, v4_21 = B v1.toInt.toNat v3.toInt.toNat → (inb v4_21 (nn 3) ∧ (((L v4_21.toInt.toNat 3) < 0 → wj_X6_come_43 nn V S O (wl_X6_come_7 nn V S O K n) K N U L B v1 v2 v3 v4_21 1) ∧ (¬ (L v4_21.toInt.toNat 3) < 0 → (inb v4_21 (nn 3) ∧ ((¬ (L v4_21.toInt.toNat 3) = v2 → wj_X6_come_43 nn V S O (wl_X6_come_7 nn V S O K n) K N U L B v1 v2 v3 v4_21 0) ∧ ((L v4_21.toInt.toNat 3) = v2 → wj_X6_come_43 nn V S O (wl_X6_come_7 nn V S O K n) K N U L B v1 v2 v3 v4_21 1)))))))))))
def wp_X6_come (nn : Nat → Nat) (V : M2) (S : M2) (O : M2) (N : M2) (U : M2) (L : M2) (B : M2) (x1 : Int32) (x2 : Int32) (K : M2 → M2 → M2 → M2 → Prop) : Prop := (inb x1 (nn 4) ∧ ∀ B_3 : M2, B_3 = up2 B x1.toInt.toNat (upd (B x1.toInt.toNat) 4 x2) → wl_X6_come_7 nn V S O K fK N U L B_3 x1 x2 7)
set_option maxRecDepth 100000 in
set_option maxHeartbeats 4000000 in
theorem c_X6_come (l : Launch) (D : va_G) (Z : Nat → ClassId) (sa : Nat) (o : Nat → Nat) (ro : Nat → Nat → Nat) (nn : Nat → Nat) (V S O : M2) (N : M2) (U : M2) (L : M2) (B : M2) (sz : Nat) (x1 : Int32) (x2 : Int32) (K : M2 → M2 → M2 → M2 → Prop) (hm : wp_X6_come nn V S O N U L B x1 x2 K) : Met l yX6_come (wy yX6_come cX6_come 6 none) (rk 1 0 0) (pre vwCl D Z (SM Z sa o ro nn V S O N U L B) sz [.ref (sa), .ref (ro 4 x1.toInt.toNat), .int x2]) (poV vwCl D Z (fun u : M2 × M2 × M2 × M2 => SM Z sa o ro nn V S O u.1 u.2.1 u.2.2.1 u.2.2.2) (N, U, L, B) sz (fun (u : M2 × M2 × M2 × M2) => K u.1 u.2.1 u.2.2.1 u.2.2.2)) 0 0 (va_A (SM Z sa o ro nn V S O N U L B) sz) := by
  refine rwv_of (wsF := (fun u : M2 × M2 × M2 × M2 => SM Z sa o ro nn V S O u.1 u.2.1 u.2.2.1 u.2.2.2)) (u0 := (N, U, L, B)) (by decide +kernel) (Nat.le_of_ble_eq_true rfl) rfl ?_
  intro p e s m args below meth c Q A hC hN hsz hnm hT hK hret ls hl
  have hx := hC.1
  have hb := hC.2.1
  have hl : lv_has ls 6 [(0, .ref (sa)), (1, .ref (ro 4 x1.toInt.toNat)), (2, .int x2)] := hl
  have hT : TS vwCl D (SM Z sa o ro nn V S O N U L B) A s.heap s.heap [] := hT
  have L7 : ∀ (n7 : Nat), ∀ (N : M2) (U : M2) (L : M2) (B : M2) (v1 : Int32) (v2 : Int32) (v3 : Int32) (H : Heap) (locs : List Loc) (ls : Array Slot), wl_X6_come_7 nn V S O K n7 N U L B v1 v2 v3 → TS vwCl D (SM Z sa o ro nn V S O N U L B) A s.heap H locs → lv_has ls 6 [(0, .ref (sa)), (1, .ref (ro 4 v1.toInt.toNat)), (2, .int v2), (3, .int v3)] → W p l e (rk 1 0 0) s m args below meth c H locs 0 0 Q (F0 m 7 ls []) := by
    intro n7
    induction n7 with
    | zero =>
      intro N U L B v1 v2 v3 H locs ls hm hT hl
      exact False.elim hm
    | succ n7 ih7 =>
      have L43 : ∀ (N : M2) (U : M2) (L : M2) (B : M2) (v1 : Int32) (v2 : Int32) (v3 : Int32) (v4 : Int32) (q0 : Int32) (H : Heap) (locs : List Loc) (ls : Array Slot), wj_X6_come_43 nn V S O (wl_X6_come_7 nn V S O K n7) K N U L B v1 v2 v3 v4 q0 → TS vwCl D (SM Z sa o ro nn V S O N U L B) A s.heap H locs → lv_has ls 6 [(0, .ref (sa)), (1, .ref (ro 4 v1.toInt.toNat)), (2, .int v2), (3, .int v3), (4, .ref (ro 3 v4.toInt.toNat))] → W p l e (rk 1 0 0) s m args below meth c H locs 0 0 Q (F0 m 43 ls [.int q0]) := by
        intro N U L B v1 v2 v3 v4 q0 H locs ls hm hT hl
        refine lv_istore (lv' := [(5, .int q0), (0, .ref (sa)), (1, .ref (ro 4 v1.toInt.toNat)), (2, .int v2), (3, .int v3), (4, .ref (ro 3 v4.toInt.toNat))]) hx hb dX6_come_43 hl (by decide) rfl (fun ls hl => ?_)
        refine lv_iload hx hb dX6_come_45 (lv_at hl 0 rfl) ?_
        refine lv_if_ne (tgt := 53) hx hb dX6_come_47 (by decide) (fun c_47 => ?_) (fun c_47 => ?_)
        · have hm := hm.1 c_47
          refine lv_aload hx hb dX6_come_53 (lv_at hl 5 rfl) ?_
          refine lv_iconst (v := 3) hx hb dX6_come_55 (by decide) ?_
          refine lv_aload_n hx hb dX6_come_56 rfl (lv_at hl 1 rfl) ?_
          refine gSM_sim_2 hC hK hT.1 wq_1169 dX6_come_57 ?_
          refine lv_aload_n hx hb dX6_come_60 rfl (lv_at hl 1 rfl) ?_
          refine gSM_sim_3 hC hK hT.1 wq_1171 dX6_come_61 ?_
          refine lv_iload_n hx hb dX6_come_64 rfl (lv_at hl 3 rfl) ?_
          refine w_aaldR (q0 := 2) hC hK hT.1 rfl hm.1 dX6_come_65 ?_
          have hm := hm.2
          refine lv_iconst (v := 0) hx hb dX6_come_66 (by decide) ?_
          refine wr_ld (jn := 0) (f := (fun X => SM Z sa o ro nn V S O N X L B)) (sm_1 Z sa o ro nn V S O N L B) hC hK hT.1 hm.1 (by decide) rfl dX6_come_67 ?_
          have hm := hm.2
          refine w_aaldR (q0 := 1) hC hK hT.1 rfl hm.1 dX6_come_68 ?_
          have hm := hm.2
          refine lv_iconst (v := 1) hx hb dX6_come_69 (by decide) ?_
          refine wr_ld (jn := 1) (f := (fun X => SM Z sa o ro nn X S O N U L B)) (sm_0 Z sa o ro nn S O N U L B) hC hK hT.1 hm.1 (by decide) rfl dX6_come_70 ?_
          have hm := hm.2
          refine lv_aload hx hb dX6_come_71 (lv_at hl 5 rfl) ?_
          refine lv_iconst (v := 0) hx hb dX6_come_73 (by decide) ?_
          refine wr_ld (jn := 0) (f := (fun X => SM Z sa o ro nn V S O N U X B)) (sm_3 Z sa o ro nn V S O N U B) hC hK hT.1 hm.1 (by decide) rfl dX6_come_74 ?_
          have hm := hm.2
          refine lv_iadd hx hb dX6_come_75 ?_
          refine lv_bipush (v := 12) hx hb dX6_come_76 (by decide) ?_
          refine lv_icmp_le (tgt := 85) hx hb dX6_come_78 (by decide) (fun c_78 => ?_) (fun c_78 => ?_)
          · have hm := hm.1 c_78
            refine lv_iconst (v := (-1)) hx hb dX6_come_85 (by decide) ?_
            refine wr_st (jn := 3) (f := (fun X => SM Z sa o ro nn V S O N U X B)) (sm_3 Z sa o ro nn V S O N U B) hC hK hT hm.1 (by decide) rfl dX6_come_86 (fun L_86 eL_86 H locs hT => ?_)
            have hm := hm.2 L_86 eL_86
            obtain ⟨v3_87, ev3_87⟩ : ∃ y : Int32, y = v3 + 1 := ⟨_, rfl⟩
            have hm := hm v3_87 ev3_87
            refine lv_iinc (v := v3_87) (lv' := [(3, .int v3_87), (5, .int q0), (0, .ref (sa)), (1, .ref (ro 4 v1.toInt.toNat)), (2, .int v2), (4, .ref (ro 3 v4.toInt.toNat))]) hx hb dX6_come_87 hl (k := 4) rfl (by rw [ev3_87]; rfl) (by decide) rfl (fun ls hl => ?_)
            refine lv_goto (tgt := 7) hx hb dX6_come_90 (by decide) ?_
            exact ih7 _ _ _ _ _ _ _ _ _ _ hm hT (lv_sub hl [2, 3, 4, 0] rfl)
          · have hm := hm.2 c_78
            refine lv_iload_n hx hb dX6_come_81 rfl (lv_at hl 3 rfl) ?_
            refine lv_goto (tgt := 86) hx hb dX6_come_82 (by decide) ?_
            refine wr_st (jn := 3) (f := (fun X => SM Z sa o ro nn V S O N U X B)) (sm_3 Z sa o ro nn V S O N U B) hC hK hT hm.1 (by decide) rfl dX6_come_86 (fun L_86 eL_86 H locs hT => ?_)
            have hm := hm.2 L_86 eL_86
            obtain ⟨v3_87, ev3_87⟩ : ∃ y : Int32, y = v3 + 1 := ⟨_, rfl⟩
            have hm := hm v3_87 ev3_87
            refine lv_iinc (v := v3_87) (lv' := [(3, .int v3_87), (5, .int q0), (0, .ref (sa)), (1, .ref (ro 4 v1.toInt.toNat)), (2, .int v2), (4, .ref (ro 3 v4.toInt.toNat))]) hx hb dX6_come_87 hl (k := 4) rfl (by rw [ev3_87]; rfl) (by decide) rfl (fun ls hl => ?_)
            refine lv_goto (tgt := 7) hx hb dX6_come_90 (by decide) ?_
            exact ih7 _ _ _ _ _ _ _ _ _ _ hm hT (lv_sub hl [2, 3, 4, 0] rfl)
        · have hm := hm.2 c_47
          refine lv_goto (tgt := 87) hx hb dX6_come_50 (by decide) ?_
          obtain ⟨v3_87, ev3_87⟩ : ∃ y : Int32, y = v3 + 1 := ⟨_, rfl⟩
          have hm := hm v3_87 ev3_87
          refine lv_iinc (v := v3_87) (lv' := [(3, .int v3_87), (5, .int q0), (0, .ref (sa)), (1, .ref (ro 4 v1.toInt.toNat)), (2, .int v2), (4, .ref (ro 3 v4.toInt.toNat))]) hx hb dX6_come_87 hl (k := 4) rfl (by rw [ev3_87]; rfl) (by decide) rfl (fun ls hl => ?_)
          refine lv_goto (tgt := 7) hx hb dX6_come_90 (by decide) ?_
          exact ih7 _ _ _ _ _ _ _ _ _ _ hm hT (lv_sub hl [2, 3, 4, 0] rfl)
      intro N U L B v1 v2 v3 H locs ls hm hT hl
      refine lv_iload_n hx hb dX6_come_7 rfl (lv_at hl 3 rfl) ?_
      refine lv_bipush (v := 9) hx hb dX6_come_8 (by decide) ?_
      refine lv_icmp_ge (tgt := 93) hx hb dX6_come_10 (by decide) (fun c_10 => ?_) (fun c_10 => ?_)
      · have hm := hm.1 c_10
        exact hret 93 _ _ _ (N, U, L, B) hm hT dX6_come_93
      · have hm := hm.2 c_10
        refine lv_aload_n hx hb dX6_come_13 rfl (lv_at hl 0 rfl) ?_
        refine gSM_sim_5 hC hK hT.1 wq_1175 dX6_come_14 ?_
        refine lv_aload_n hx hb dX6_come_17 rfl (lv_at hl 1 rfl) ?_
        refine lv_iload_n hx hb dX6_come_18 rfl (lv_at hl 3 rfl) ?_
        refine wr_ld (jn := v3.toInt.toNat) (f := (fun X => SM Z sa o ro nn V S O N U L X)) (sm_4 Z sa o ro nn V S O N U L) hC hK hT.1 hm.1 hm.2.1 rfl dX6_come_19 ?_
        have hm := hm.2.2
        refine w_aaldR (q0 := 4) hC hK hT.1 rfl hm.1 dX6_come_20 ?_
        have hm := hm.2
        obtain ⟨v4_21, ev4_21⟩ : ∃ y : Int32, y = B v1.toInt.toNat v3.toInt.toNat := ⟨_, rfl⟩
        rw [← ev4_21]
        have hm := hm v4_21 ev4_21
        refine lv_astore (lv' := [(4, .ref (ro 3 v4_21.toInt.toNat)), (0, .ref (sa)), (1, .ref (ro 4 v1.toInt.toNat)), (2, .int v2), (3, .int v3)]) hx hb dX6_come_21 hl (by decide) rfl (fun ls hl => ?_)
        refine lv_aload hx hb dX6_come_23 (lv_at hl 0 rfl) ?_
        refine lv_iconst (v := 3) hx hb dX6_come_25 (by decide) ?_
        refine wr_ld (jn := 3) (f := (fun X => SM Z sa o ro nn V S O N U X B)) (sm_3 Z sa o ro nn V S O N U B) hC hK hT.1 hm.1 (by decide) rfl dX6_come_26 ?_
        have hm := hm.2
        refine lv_if_lt (tgt := 38) hx hb dX6_come_27 (by decide) (fun c_27 => ?_) (fun c_27 => ?_)
        · have hm := hm.1 c_27
          refine lv_iconst (v := 1) hx hb dX6_come_38 (by decide) ?_
          refine lv_goto (tgt := 43) hx hb dX6_come_39 (by decide) ?_
          exact L43 _ _ _ _ _ _ _ _ _ _ _ _ hm hT (lv_sub hl [1, 2, 3, 4, 0] rfl)
        · have hm := hm.2 c_27
          refine lv_aload hx hb dX6_come_30 (lv_at hl 0 rfl) ?_
          refine lv_iconst (v := 3) hx hb dX6_come_32 (by decide) ?_
          refine wr_ld (jn := 3) (f := (fun X => SM Z sa o ro nn V S O N U X B)) (sm_3 Z sa o ro nn V S O N U B) hC hK hT.1 hm.1 (by decide) rfl dX6_come_33 ?_
          have hm := hm.2
          refine lv_iload_n hx hb dX6_come_34 rfl (lv_at hl 3 rfl) ?_
          refine lv_icmp_ne (tgt := 42) hx hb dX6_come_35 (by decide) (fun c_35 => ?_) (fun c_35 => ?_)
          · have hm := hm.1 c_35
            refine lv_iconst (v := 0) hx hb dX6_come_42 (by decide) ?_
            exact L43 _ _ _ _ _ _ _ _ _ _ _ _ hm hT (lv_sub hl [1, 2, 3, 4, 0] rfl)
          · have hm := hm.2 c_35
            refine lv_iconst (v := 1) hx hb dX6_come_38 (by decide) ?_
            refine lv_goto (tgt := 43) hx hb dX6_come_39 (by decide) ?_
            exact L43 _ _ _ _ _ _ _ _ _ _ _ _ hm hT (lv_sub hl [1, 2, 3, 4, 0] rfl)
  refine lv_aload_n hx hb dX6_come_0 rfl (lv_at hl 1 rfl) ?_
  refine lv_iconst (v := 4) hx hb dX6_come_1 (by decide) ?_
  refine lv_iload_n hx hb dX6_come_2 rfl (lv_at hl 2 rfl) ?_
  refine wr_st (jn := 4) (f := (fun X => SM Z sa o ro nn V S O N U L X)) (sm_4 Z sa o ro nn V S O N U L) hC hK hT hm.1 (by decide) rfl dX6_come_3 (fun B_3 eB_3 H locs hT => ?_)
  have hm := hm.2 B_3 eB_3
  refine lv_bipush (v := 7) hx hb dX6_come_4 (by decide) ?_
  refine lv_istore_n (lv' := [(3, .int 7), (0, .ref (sa)), (1, .ref (ro 4 x1.toInt.toNat)), (2, .int x2)]) hx hb dX6_come_6 rfl hl (by decide) rfl (fun ls hl => ?_)
  exact L7 _ _ _ _ _ _ _ _ _ _ _ hm hT (lv_sub hl [1, 2, 3, 0] rfl)
section KX6_come
variable {p : Program} {l : Launch} {e : Env} {s : State} {m : MethodId} {args : Array Value} {below : List Frame} {meth : Method} {c : Code} {H H0 : Heap} {locs : List Loc} {cells slots : Nat} {Q : State → Prop} {R : Room} {rn mcR msR : Nat}
variable {pc : Nat} {ls : Array Slot} {rest : List Value} {A : Nat → Prop} {D : va_G}
variable {cc : ByteArray} {nL index : Nat} {own host : String}
theorem k_X6_come {Z : Nat → ClassId} {sa : Nat} {o : Nat → Nat} {ro : Nat → Nat → Nat} {nn : Nat → Nat} {V S O : M2} {N : M2} {U : M2} {L : M2} {B : M2} {x1 : Int32} {x2 : Int32} {K : M2 → M2 → M2 → M2 → Prop} (hC : CallFix p m c cc nL s args lw_g own) (hN : NW s) (hK : va_K D vwCl (tysG Z) s) (hT : TS vwCl D (SM Z sa o ro nn V S O N U L B) A H0 H locs) (hm : wp_X6_come nn V S O N U L B x1 x2 K) (hl : Cond.methodLink own index yX6_come ∈ lw_g) (hlt : 1 < rn) (hsize : ls.size = nL) (hW : (rest.map fun v => v.category).sum ≤ 8) (hf : cells + 0 ≤ mcR ∧ slots + 0 ≤ msR) (hdg : decode cc pc = .ok (.invokevirtual index, 3)) (kk : ∀ (N1 : M2) (U1 : M2) (L1 : M2) (B1 : M2) (H1 : Heap) (locs1 : List Loc), K N1 U1 L1 B1 → TS vwCl D (SM Z sa o ro nn V S O N1 U1 L1 B1) A H0 H1 locs1 → W p l e (rk rn mcR msR) s m args below meth c H1 locs1 cells slots Q (F0 m (pc + 3) ls (rest))) : W p l e (rk rn mcR msR) s m args below meth c H locs cells slots Q (F0 m pc ls (.int x2 :: .ref (ro 4 x1.toInt.toNat) :: .ref (sa) :: rest)) :=
  rwv_go (wsF := (fun u : M2 × M2 × M2 × M2 => SM Z sa o ro nn V S O u.1 u.2.1 u.2.2.1 u.2.2.2)) (u0 := (N, U, L, B)) (wr := []) (isC := List.range (smN nn)) (isR := []) (pm := List.range (smN nn)) (ws' := (fun u : M2 × M2 × M2 × M2 => SM Z sa o ro nn V S O u.1 u.2.1 u.2.2.1 u.2.2.2)) (runV (As := [.ref (ro 4 x1.toInt.toNat), .int x2]) hC hN (c_X6_come l D Z sa o ro nn V S O N U L B H.size x1 x2 K hm) mi_X6_come hl wq_863 wq_26 hlt hT.1 hT.D' hK (q0 := 0) rfl rfl rfl hsize rfl hW hdg hf) (Cut.self (fun _ => sm_len)) hT (fun u H1 locs1 hk hT1 => kk u.1 u.2.1 u.2.2.1 u.2.2.2 H1 locs1 hk hT1)
end KX6_come
def wj_X6_push_174 (nn : Nat → Nat) (V : M2) (S : M2) (O : M2) (C74 : M2 → M2 → M2 → M2 → Int32 → Prop) (K : M2 → M2 → M2 → M2 → Prop) (N : M2) (U : M2) (L : M2) (B : M2) (v1 : Int32) (q0 : Int32) : Prop := wp_X6_boatAt nn V S O N U L B q0 (fun r_179 => ((r_179 < 0 → (inb v1 (nn 4) ∧ (inb v1 (nn 4) ∧ (inb v1 (nn 4) ∧ ∀ B_198 : M2, B_198 = up2 B v1.toInt.toNat (upd (B v1.toInt.toNat) 5 ((B v1.toInt.toNat 5) - (B v1.toInt.toNat 0))) → wp_X6_come nn V S O N U L B_198 v1 q0 (fun N_203 U_203 L_203 B_203 => C74 N_203 U_203 L_203 B_203 v1))))) ∧ (¬ r_179 < 0 → (inb v1 (nn 4) ∧ ∀ B_188 : M2, B_188 = up2 B v1.toInt.toNat (upd (B v1.toInt.toNat) 5 0) → K N U L B_188))))
def wj_X6_push_100 (nn : Nat → Nat) (V : M2) (S : M2) (O : M2) (C74 : M2 → M2 → M2 → M2 → Int32 → Prop) (K : M2 → M2 → M2 → M2 → Prop) (N : M2) (U : M2) (L : M2) (B : M2) (v1 : Int32) (q0 : Int32) : Prop := (inb v1 (nn 4) ∧ ((¬ (B v1.toInt.toNat 4) = q0 → (inb v1 (nn 4) ∧ ((¬ (B v1.toInt.toNat 1) = 0 → (inb v1 (nn 4) ∧ wj_X6_push_174 nn V S O C74 K N U L B v1 ((B v1.toInt.toNat 4) - 1))) ∧ ((B v1.toInt.toNat 1) = 0 → (inb v1 (nn 4) ∧ wj_X6_push_174 nn V S O C74 K N U L B v1 ((B v1.toInt.toNat 4) + 1)))))) ∧ ((B v1.toInt.toNat 4) = q0 → (inb v1 (nn 4) ∧ ∀ B_111 : M2, B_111 = up2 B v1.toInt.toNat (upd (B v1.toInt.toNat) 3 2) → (inb v1 (nn 4) ∧ ∀ B_115 : M2, B_115 = up2 B_111 v1.toInt.toNat (upd (B_111 v1.toInt.toNat) 4 ((-1))) → (inb v1 (nn 4) ∧ ∀ B_119 : M2, B_119 = up2 B_115 v1.toInt.toNat (upd (B_115 v1.toInt.toNat) 5 0) → (inb v1 (nn 4) ∧ ∀ B_127 : M2, B_127 = up2 B_119 v1.toInt.toNat (upd (B_119 v1.toInt.toNat) 6 (N 0 0)) → (inb v1 (nn 4) ∧ (inb (B_127 v1.toInt.toNat 7) (nn 3) ∧ (inb (B_127 v1.toInt.toNat 7) (nn 3) ∧ ∀ L_140 : M2, L_140 = up2 L (B_127 v1.toInt.toNat 7).toInt.toNat (upd (L (B_127 v1.toInt.toNat 7).toInt.toNat) 4 10) → (inb v1 (nn 4) ∧ (inb (B_127 v1.toInt.toNat 8) (nn 3) ∧ (inb (B_127 v1.toInt.toNat 8) (nn 3) ∧ ∀ L_153 : M2, L_153 = up2 L_140 (B_127 v1.toInt.toNat 8).toInt.toNat (upd (L_140 (B_127 v1.toInt.toNat 8).toInt.toNat) 4 10) → K N U L_153 B_127)))))))))))))
def wl_X6_push_74 (nn : Nat → Nat) (V : M2) (S : M2) (O : M2) (K : M2 → M2 → M2 → M2 → Prop) : Nat → M2 → M2 → M2 → M2 → Int32 → Prop
  | 0, _, _, _, _, _ => False
  | n + 1, N, U, L, B, v1 => (inb v1 (nn 4) ∧ (inb v1 (nn 4) ∧ (((B v1.toInt.toNat 5) < (B v1.toInt.toNat 0) → K N U L B) ∧ (¬ (B v1.toInt.toNat 5) < (B v1.toInt.toNat 0) → (inb v1 (nn 4) ∧ ((¬ (B v1.toInt.toNat 1) = 0 → wj_X6_push_100 nn V S O (wl_X6_push_74 nn V S O K n) K N U L B v1 0) ∧ ((B v1.toInt.toNat 1) = 0 → wj_X6_push_100 nn V S O (wl_X6_push_74 nn V S O K n) K N U L B v1 ((Int32.ofNat (nn 1)) - 1))))))))
def wl_X6_push_5 (nn : Nat → Nat) (V : M2) (S : M2) (O : M2) (K : M2 → M2 → M2 → M2 → Prop) : Nat → M2 → M2 → M2 → M2 → Int32 → Int32 → Int32 → Prop
  | 0, _, _, _, _, _, _, _ => False
  | n + 1, N, U, L, B, v1, v2, v3 => ((9 ≤ v3 → (inb v1 (nn 4) ∧ (inb v1 (nn 4) ∧ (inb (B v1.toInt.toNat 4) (nn 1) ∧ (inb (B v1.toInt.toNat 4) (nn 1) ∧ (inb v1 (nn 4) ∧ ∀ B_73 : M2, B_73 = up2 B v1.toInt.toNat (upd (B v1.toInt.toNat) 5 ((B v1.toInt.toNat 5) + ((v2 * (U (B v1.toInt.toNat 4).toInt.toNat 1)) / 100))) → wl_X6_push_74 nn V S O K fK N U L B_73 v1)))))) ∧ (¬ 9 ≤ v3 → (inb v1 (nn 4) ∧ inb v3 9 ∧ (inb (B v1.toInt.toNat v3.toInt.toNat) (nn 3) ∧ (inb (B v1.toInt.toNat v3.toInt.toNat) (nn 3) ∧ (((L (B v1.toInt.toNat v3.toInt.toNat).toInt.toNat 2) = 0 → (∀ v3_47 : Int32, v3_47 = v3 + 1 → wl_X6_push_5 nn V S O K n N U L B v1 v2 v3_47)) ∧ (¬ (L (B v1.toInt.toNat v3.toInt.toNat).toInt.toNat 2) = 0 → (inb v1 (nn 4) ∧ inb v3 9 ∧ (((B v1.toInt.toNat v3.toInt.toNat) = (N 2 0) → (∀ v3_47 : Int32, v3_47 = v3 + 1 → wl_X6_push_5 nn V S O K n N U L B v1 v2 v3_47)) ∧ (¬ (B v1.toInt.toNat v3.toInt.toNat) = (N 2 0) → (inb v1 (nn 4) ∧ inb v3 9 ∧ (inb (B v1.toInt.toNat v3.toInt.toNat) (nn 3) ∧ (inb (B v1.toInt.toNat v3.toInt.toNat) (nn 3) ∧ (∀ v2_46, v2_46 = v2 + (L (B v1.toInt.toNat v3.toInt.toNat).toInt.toNat 0) → (∀ v3_47 : Int32, v3_47 = v3 + 1 → wl_X6_push_5 nn V S O K n N U L B v1 v2_46 v3_47)))))))))))))))
def wp_X6_push (nn : Nat → Nat) (V : M2) (S : M2) (O : M2) (N : M2) (U : M2) (L : M2) (B : M2) (x1 : Int32) (K : M2 → M2 → M2 → M2 → Prop) : Prop := wl_X6_push_5 nn V S O K fK N U L B x1 0 7
set_option maxRecDepth 100000 in
set_option maxHeartbeats 4000000 in
theorem c_X6_push (l : Launch) (D : va_G) (Z : Nat → ClassId) (sa : Nat) (o : Nat → Nat) (ro : Nat → Nat → Nat) (nn : Nat → Nat) (V S O : M2) (N : M2) (U : M2) (L : M2) (B : M2) (sz : Nat) (x1 : Int32) (K : M2 → M2 → M2 → M2 → Prop) (hm : wp_X6_push nn V S O N U L B x1 K) : Met l yX6_push (wy yX6_push cX6_push 5 none) (rk 2 0 0) (pre vwCl D Z (SM Z sa o ro nn V S O N U L B) sz [.ref (sa), .ref (ro 4 x1.toInt.toNat)]) (poV vwCl D Z (fun u : M2 × M2 × M2 × M2 => SM Z sa o ro nn V S O u.1 u.2.1 u.2.2.1 u.2.2.2) (N, U, L, B) sz (fun (u : M2 × M2 × M2 × M2) => K u.1 u.2.1 u.2.2.1 u.2.2.2)) 0 0 (va_A (SM Z sa o ro nn V S O N U L B) sz) := by
  refine rwv_of (wsF := (fun u : M2 × M2 × M2 × M2 => SM Z sa o ro nn V S O u.1 u.2.1 u.2.2.1 u.2.2.2)) (u0 := (N, U, L, B)) (by decide +kernel) (Nat.le_of_ble_eq_true rfl) rfl ?_
  intro p e s m args below meth c Q A hC hN hsz hnm hT hK hret ls hl
  have hx := hC.1
  have hb := hC.2.1
  have hl : lv_has ls 5 [(0, .ref (sa)), (1, .ref (ro 4 x1.toInt.toNat))] := hl
  have hT : TS vwCl D (SM Z sa o ro nn V S O N U L B) A s.heap s.heap [] := hT
  have L74 : ∀ (n74 : Nat), ∀ (N : M2) (U : M2) (L : M2) (B : M2) (v1 : Int32) (H : Heap) (locs : List Loc) (ls : Array Slot), wl_X6_push_74 nn V S O K n74 N U L B v1 → TS vwCl D (SM Z sa o ro nn V S O N U L B) A s.heap H locs → lv_has ls 5 [(0, .ref (sa)), (1, .ref (ro 4 v1.toInt.toNat))] → W p l e (rk 2 0 0) s m args below meth c H locs 0 0 Q (F0 m 74 ls []) := by
    intro n74
    induction n74 with
    | zero =>
      intro N U L B v1 H locs ls hm hT hl
      exact False.elim hm
    | succ n74 ih74 =>
      have L174 : ∀ (N : M2) (U : M2) (L : M2) (B : M2) (v1 : Int32) (q0 : Int32) (H : Heap) (locs : List Loc) (ls : Array Slot), wj_X6_push_174 nn V S O (wl_X6_push_74 nn V S O K n74) K N U L B v1 q0 → TS vwCl D (SM Z sa o ro nn V S O N U L B) A s.heap H locs → lv_has ls 5 [(0, .ref (sa)), (1, .ref (ro 4 v1.toInt.toNat))] → W p l e (rk 2 0 0) s m args below meth c H locs 0 0 Q (F0 m 174 ls [.int q0]) := by
        intro N U L B v1 q0 H locs ls hm hT hl
        refine lv_istore (lv' := [(4, .int q0), (0, .ref (sa)), (1, .ref (ro 4 v1.toInt.toNat))]) hx hb dX6_push_174 hl (by decide) rfl (fun ls hl => ?_)
        refine lv_aload_n hx hb dX6_push_176 rfl (lv_at hl 1 rfl) ?_
        refine lv_iload hx hb dX6_push_177 (lv_at hl 0 rfl) ?_
        refine k_X6_boatAt hC hN hK hT.1 hT.D' hm wq_849 (by decide) hl.1 (Nat.le_of_ble_eq_true rfl) ⟨Nat.le_refl _, Nat.le_refl _⟩ dX6_push_179 (fun r_179 hm => ?_)
        refine lv_if_lt (tgt := 190) hx hb dX6_push_182 (by decide) (fun c_182 => ?_) (fun c_182 => ?_)
        · have hm := hm.1 c_182
          refine lv_aload_n hx hb dX6_push_190 rfl (lv_at hl 2 rfl) ?_
          refine lv_iconst (v := 5) hx hb dX6_push_191 (by decide) ?_
          refine lv_dup2_11 hx hb dX6_push_192 rfl rfl ?_
          refine wr_ld (jn := 5) (f := (fun X => SM Z sa o ro nn V S O N U L X)) (sm_4 Z sa o ro nn V S O N U L) hC hK hT.1 hm.1 (by decide) rfl dX6_push_193 ?_
          have hm := hm.2
          refine lv_aload_n hx hb dX6_push_194 rfl (lv_at hl 2 rfl) ?_
          refine lv_iconst (v := 0) hx hb dX6_push_195 (by decide) ?_
          refine wr_ld (jn := 0) (f := (fun X => SM Z sa o ro nn V S O N U L X)) (sm_4 Z sa o ro nn V S O N U L) hC hK hT.1 hm.1 (by decide) rfl dX6_push_196 ?_
          have hm := hm.2
          refine lv_isub hx hb dX6_push_197 ?_
          refine wr_st (jn := 5) (f := (fun X => SM Z sa o ro nn V S O N U L X)) (sm_4 Z sa o ro nn V S O N U L) hC hK hT hm.1 (by decide) rfl dX6_push_198 (fun B_198 eB_198 H locs hT => ?_)
          have hm := hm.2 B_198 eB_198
          refine lv_aload_n hx hb dX6_push_199 rfl (lv_at hl 1 rfl) ?_
          refine lv_aload_n hx hb dX6_push_200 rfl (lv_at hl 2 rfl) ?_
          refine lv_iload hx hb dX6_push_201 (lv_at hl 0 rfl) ?_
          refine k_X6_come hC hN hK hT hm wq_861 (by decide) hl.1 (Nat.le_of_ble_eq_true rfl) ⟨Nat.le_refl _, Nat.le_refl _⟩ dX6_push_203 (fun N_203 U_203 L_203 B_203 H locs hm hT => ?_)
          refine lv_goto (tgt := 74) hx hb dX6_push_206 (by decide) ?_
          exact ih74 _ _ _ _ _ _ _ _ hm hT (lv_sub hl [1, 2] rfl)
        · have hm := hm.2 c_182
          refine lv_aload_n hx hb dX6_push_185 rfl (lv_at hl 2 rfl) ?_
          refine lv_iconst (v := 5) hx hb dX6_push_186 (by decide) ?_
          refine lv_iconst (v := 0) hx hb dX6_push_187 (by decide) ?_
          refine wr_st (jn := 5) (f := (fun X => SM Z sa o ro nn V S O N U L X)) (sm_4 Z sa o ro nn V S O N U L) hC hK hT hm.1 (by decide) rfl dX6_push_188 (fun B_188 eB_188 H locs hT => ?_)
          have hm := hm.2 B_188 eB_188
          exact hret 189 _ _ _ (N, U, L, B_188) hm hT dX6_push_189
      have L100 : ∀ (N : M2) (U : M2) (L : M2) (B : M2) (v1 : Int32) (q0 : Int32) (H : Heap) (locs : List Loc) (ls : Array Slot), wj_X6_push_100 nn V S O (wl_X6_push_74 nn V S O K n74) K N U L B v1 q0 → TS vwCl D (SM Z sa o ro nn V S O N U L B) A s.heap H locs → lv_has ls 5 [(0, .ref (sa)), (1, .ref (ro 4 v1.toInt.toNat))] → W p l e (rk 2 0 0) s m args below meth c H locs 0 0 Q (F0 m 100 ls [.int q0]) := by
        intro N U L B v1 q0 H locs ls hm hT hl
        refine lv_istore_n (lv' := [(3, .int q0), (0, .ref (sa)), (1, .ref (ro 4 v1.toInt.toNat))]) hx hb dX6_push_100 rfl hl (by decide) rfl (fun ls hl => ?_)
        refine lv_aload_n hx hb dX6_push_101 rfl (lv_at hl 2 rfl) ?_
        refine lv_iconst (v := 4) hx hb dX6_push_102 (by decide) ?_
        refine wr_ld (jn := 4) (f := (fun X => SM Z sa o ro nn V S O N U L X)) (sm_4 Z sa o ro nn V S O N U L) hC hK hT.1 hm.1 (by decide) rfl dX6_push_103 ?_
        have hm := hm.2
        refine lv_iload_n hx hb dX6_push_104 rfl (lv_at hl 0 rfl) ?_
        refine lv_icmp_ne (tgt := 155) hx hb dX6_push_105 (by decide) (fun c_105 => ?_) (fun c_105 => ?_)
        · have hm := hm.1 c_105
          refine lv_aload_n hx hb dX6_push_155 rfl (lv_at hl 2 rfl) ?_
          refine lv_iconst (v := 1) hx hb dX6_push_156 (by decide) ?_
          refine wr_ld (jn := 1) (f := (fun X => SM Z sa o ro nn V S O N U L X)) (sm_4 Z sa o ro nn V S O N U L) hC hK hT.1 hm.1 (by decide) rfl dX6_push_157 ?_
          have hm := hm.2
          refine lv_if_ne (tgt := 169) hx hb dX6_push_158 (by decide) (fun c_158 => ?_) (fun c_158 => ?_)
          · have hm := hm.1 c_158
            refine lv_aload_n hx hb dX6_push_169 rfl (lv_at hl 2 rfl) ?_
            refine lv_iconst (v := 4) hx hb dX6_push_170 (by decide) ?_
            refine wr_ld (jn := 4) (f := (fun X => SM Z sa o ro nn V S O N U L X)) (sm_4 Z sa o ro nn V S O N U L) hC hK hT.1 hm.1 (by decide) rfl dX6_push_171 ?_
            have hm := hm.2
            refine lv_iconst (v := 1) hx hb dX6_push_172 (by decide) ?_
            refine lv_isub hx hb dX6_push_173 ?_
            exact L174 _ _ _ _ _ _ _ _ _ hm hT (lv_sub hl [1, 2] rfl)
          · have hm := hm.2 c_158
            refine lv_aload_n hx hb dX6_push_161 rfl (lv_at hl 2 rfl) ?_
            refine lv_iconst (v := 4) hx hb dX6_push_162 (by decide) ?_
            refine wr_ld (jn := 4) (f := (fun X => SM Z sa o ro nn V S O N U L X)) (sm_4 Z sa o ro nn V S O N U L) hC hK hT.1 hm.1 (by decide) rfl dX6_push_163 ?_
            have hm := hm.2
            refine lv_iconst (v := 1) hx hb dX6_push_164 (by decide) ?_
            refine lv_iadd hx hb dX6_push_165 ?_
            refine lv_goto (tgt := 174) hx hb dX6_push_166 (by decide) ?_
            exact L174 _ _ _ _ _ _ _ _ _ hm hT (lv_sub hl [1, 2] rfl)
        · have hm := hm.2 c_105
          refine lv_aload_n hx hb dX6_push_108 rfl (lv_at hl 2 rfl) ?_
          refine lv_iconst (v := 3) hx hb dX6_push_109 (by decide) ?_
          refine lv_iconst (v := 2) hx hb dX6_push_110 (by decide) ?_
          refine wr_st (jn := 3) (f := (fun X => SM Z sa o ro nn V S O N U L X)) (sm_4 Z sa o ro nn V S O N U L) hC hK hT hm.1 (by decide) rfl dX6_push_111 (fun B_111 eB_111 H locs hT => ?_)
          have hm := hm.2 B_111 eB_111
          refine lv_aload_n hx hb dX6_push_112 rfl (lv_at hl 2 rfl) ?_
          refine lv_iconst (v := 4) hx hb dX6_push_113 (by decide) ?_
          refine lv_iconst (v := (-1)) hx hb dX6_push_114 (by decide) ?_
          refine wr_st (jn := 4) (f := (fun X => SM Z sa o ro nn V S O N U L X)) (sm_4 Z sa o ro nn V S O N U L) hC hK hT hm.1 (by decide) rfl dX6_push_115 (fun B_115 eB_115 H locs hT => ?_)
          have hm := hm.2 B_115 eB_115
          refine lv_aload_n hx hb dX6_push_116 rfl (lv_at hl 2 rfl) ?_
          refine lv_iconst (v := 5) hx hb dX6_push_117 (by decide) ?_
          refine lv_iconst (v := 0) hx hb dX6_push_118 (by decide) ?_
          refine wr_st (jn := 5) (f := (fun X => SM Z sa o ro nn V S O N U L X)) (sm_4 Z sa o ro nn V S O N U L) hC hK hT hm.1 (by decide) rfl dX6_push_119 (fun B_119 eB_119 H locs hT => ?_)
          have hm := hm.2 B_119 eB_119
          refine lv_aload_n hx hb dX6_push_120 rfl (lv_at hl 2 rfl) ?_
          refine lv_bipush (v := 6) hx hb dX6_push_121 (by decide) ?_
          refine lv_aload_n hx hb dX6_push_123 rfl (lv_at hl 1 rfl) ?_
          refine gSM_sim_0 hC hK hT.1 wq_1165 dX6_push_124 ?_
          refine wr_st (jn := 6) (f := (fun X => SM Z sa o ro nn V S O N U L X)) (sm_4 Z sa o ro nn V S O N U L) hC hK hT hm.1 (by decide) rfl dX6_push_127 (fun B_127 eB_127 H locs hT => ?_)
          have hm := hm.2 B_127 eB_127
          refine lv_aload_n hx hb dX6_push_128 rfl (lv_at hl 1 rfl) ?_
          refine gSM_sim_5 hC hK hT.1 wq_1175 dX6_push_129 ?_
          refine lv_aload_n hx hb dX6_push_132 rfl (lv_at hl 2 rfl) ?_
          refine lv_bipush (v := 7) hx hb dX6_push_133 (by decide) ?_
          refine wr_ld (jn := 7) (f := (fun X => SM Z sa o ro nn V S O N U L X)) (sm_4 Z sa o ro nn V S O N U L) hC hK hT.1 hm.1 (by decide) rfl dX6_push_135 ?_
          have hm := hm.2
          refine w_aaldR (q0 := 4) hC hK hT.1 rfl hm.1 dX6_push_136 ?_
          have hm := hm.2
          refine lv_iconst (v := 4) hx hb dX6_push_137 (by decide) ?_
          refine lv_bipush (v := 10) hx hb dX6_push_138 (by decide) ?_
          refine wr_st (jn := 4) (f := (fun X => SM Z sa o ro nn V S O N U X B_127)) (sm_3 Z sa o ro nn V S O N U B_127) hC hK hT hm.1 (by decide) rfl dX6_push_140 (fun L_140 eL_140 H locs hT => ?_)
          have hm := hm.2 L_140 eL_140
          refine lv_aload_n hx hb dX6_push_141 rfl (lv_at hl 1 rfl) ?_
          refine gSM_sim_5 hC hK hT.1 wq_1175 dX6_push_142 ?_
          refine lv_aload_n hx hb dX6_push_145 rfl (lv_at hl 2 rfl) ?_
          refine lv_bipush (v := 8) hx hb dX6_push_146 (by decide) ?_
          refine wr_ld (jn := 8) (f := (fun X => SM Z sa o ro nn V S O N U L_140 X)) (sm_4 Z sa o ro nn V S O N U L_140) hC hK hT.1 hm.1 (by decide) rfl dX6_push_148 ?_
          have hm := hm.2
          refine w_aaldR (q0 := 4) hC hK hT.1 rfl hm.1 dX6_push_149 ?_
          have hm := hm.2
          refine lv_iconst (v := 4) hx hb dX6_push_150 (by decide) ?_
          refine lv_bipush (v := 10) hx hb dX6_push_151 (by decide) ?_
          refine wr_st (jn := 4) (f := (fun X => SM Z sa o ro nn V S O N U X B_127)) (sm_3 Z sa o ro nn V S O N U B_127) hC hK hT hm.1 (by decide) rfl dX6_push_153 (fun L_153 eL_153 H locs hT => ?_)
          have hm := hm.2 L_153 eL_153
          exact hret 154 _ _ _ (N, U, L_153, B_127) hm hT dX6_push_154
      intro N U L B v1 H locs ls hm hT hl
      refine lv_aload_n hx hb dX6_push_74 rfl (lv_at hl 1 rfl) ?_
      refine lv_iconst (v := 5) hx hb dX6_push_75 (by decide) ?_
      refine wr_ld (jn := 5) (f := (fun X => SM Z sa o ro nn V S O N U L X)) (sm_4 Z sa o ro nn V S O N U L) hC hK hT.1 hm.1 (by decide) rfl dX6_push_76 ?_
      have hm := hm.2
      refine lv_aload_n hx hb dX6_push_77 rfl (lv_at hl 1 rfl) ?_
      refine lv_iconst (v := 0) hx hb dX6_push_78 (by decide) ?_
      refine wr_ld (jn := 0) (f := (fun X => SM Z sa o ro nn V S O N U L X)) (sm_4 Z sa o ro nn V S O N U L) hC hK hT.1 hm.1 (by decide) rfl dX6_push_79 ?_
      have hm := hm.2
      refine lv_icmp_lt (tgt := 209) hx hb dX6_push_80 (by decide) (fun c_80 => ?_) (fun c_80 => ?_)
      · have hm := hm.1 c_80
        exact hret 209 _ _ _ (N, U, L, B) hm hT dX6_push_209
      · have hm := hm.2 c_80
        refine lv_aload_n hx hb dX6_push_83 rfl (lv_at hl 1 rfl) ?_
        refine lv_iconst (v := 1) hx hb dX6_push_84 (by decide) ?_
        refine wr_ld (jn := 1) (f := (fun X => SM Z sa o ro nn V S O N U L X)) (sm_4 Z sa o ro nn V S O N U L) hC hK hT.1 hm.1 (by decide) rfl dX6_push_85 ?_
        have hm := hm.2
        refine lv_if_ne (tgt := 99) hx hb dX6_push_86 (by decide) (fun c_86 => ?_) (fun c_86 => ?_)
        · have hm := hm.1 c_86
          refine lv_iconst (v := 0) hx hb dX6_push_99 (by decide) ?_
          exact L100 _ _ _ _ _ _ _ _ _ hm hT (lv_sub hl [0, 1] rfl)
        · have hm := hm.2 c_86
          refine lv_aload_n hx hb dX6_push_89 rfl (lv_at hl 0 rfl) ?_
          refine gSM_sim_3 hC hK hT.1 wq_1171 dX6_push_90 ?_
          refine w_alen (q0 := 2) (t0 := 3) hC hK hT.1 rfl rfl dX6_push_93 ?_
          refine lv_iconst (v := 1) hx hb dX6_push_94 (by decide) ?_
          refine lv_isub hx hb dX6_push_95 ?_
          refine lv_goto (tgt := 100) hx hb dX6_push_96 (by decide) ?_
          exact L100 _ _ _ _ _ _ _ _ _ hm hT (lv_sub hl [0, 1] rfl)
  have L5 : ∀ (n5 : Nat), ∀ (N : M2) (U : M2) (L : M2) (B : M2) (v1 : Int32) (v2 : Int32) (v3 : Int32) (H : Heap) (locs : List Loc) (ls : Array Slot), wl_X6_push_5 nn V S O K n5 N U L B v1 v2 v3 → TS vwCl D (SM Z sa o ro nn V S O N U L B) A s.heap H locs → lv_has ls 5 [(0, .ref (sa)), (1, .ref (ro 4 v1.toInt.toNat)), (2, .int v2), (3, .int v3)] → W p l e (rk 2 0 0) s m args below meth c H locs 0 0 Q (F0 m 5 ls []) := by
    intro n5
    induction n5 with
    | zero =>
      intro N U L B v1 v2 v3 H locs ls hm hT hl
      exact False.elim hm
    | succ n5 ih5 =>
      intro N U L B v1 v2 v3 H locs ls hm hT hl
      refine lv_iload_n hx hb dX6_push_5 rfl (lv_at hl 3 rfl) ?_
      refine lv_bipush (v := 9) hx hb dX6_push_6 (by decide) ?_
      refine lv_icmp_ge (tgt := 53) hx hb dX6_push_8 (by decide) (fun c_8 => ?_) (fun c_8 => ?_)
      · have hm := hm.1 c_8
        refine lv_aload_n hx hb dX6_push_53 rfl (lv_at hl 1 rfl) ?_
        refine lv_iconst (v := 5) hx hb dX6_push_54 (by decide) ?_
        refine lv_dup2_11 hx hb dX6_push_55 rfl rfl ?_
        refine wr_ld (jn := 5) (f := (fun X => SM Z sa o ro nn V S O N U L X)) (sm_4 Z sa o ro nn V S O N U L) hC hK hT.1 hm.1 (by decide) rfl dX6_push_56 ?_
        have hm := hm.2
        refine lv_iload_n hx hb dX6_push_57 rfl (lv_at hl 2 rfl) ?_
        refine lv_aload_n hx hb dX6_push_58 rfl (lv_at hl 0 rfl) ?_
        refine gSM_sim_3 hC hK hT.1 wq_1171 dX6_push_59 ?_
        refine lv_aload_n hx hb dX6_push_62 rfl (lv_at hl 1 rfl) ?_
        refine lv_iconst (v := 4) hx hb dX6_push_63 (by decide) ?_
        refine wr_ld (jn := 4) (f := (fun X => SM Z sa o ro nn V S O N U L X)) (sm_4 Z sa o ro nn V S O N U L) hC hK hT.1 hm.1 (by decide) rfl dX6_push_64 ?_
        have hm := hm.2
        refine w_aaldR (q0 := 2) hC hK hT.1 rfl hm.1 dX6_push_65 ?_
        have hm := hm.2
        refine lv_iconst (v := 1) hx hb dX6_push_66 (by decide) ?_
        refine wr_ld (jn := 1) (f := (fun X => SM Z sa o ro nn V S O N X L B)) (sm_1 Z sa o ro nn V S O N L B) hC hK hT.1 hm.1 (by decide) rfl dX6_push_67 ?_
        have hm := hm.2
        refine lv_imul hx hb dX6_push_68 ?_
        refine lv_bipush (v := 100) hx hb dX6_push_69 (by decide) ?_
        refine lv_idiv hx hb dX6_push_71 (by decide) ?_
        refine lv_iadd hx hb dX6_push_72 ?_
        refine wr_st (jn := 5) (f := (fun X => SM Z sa o ro nn V S O N U L X)) (sm_4 Z sa o ro nn V S O N U L) hC hK hT hm.1 (by decide) rfl dX6_push_73 (fun B_73 eB_73 H locs hT => ?_)
        have hm := hm.2 B_73 eB_73
        exact L74 _ _ _ _ _ _ _ _ _ hm hT (lv_sub hl [0, 1] rfl)
      · have hm := hm.2 c_8
        refine lv_aload_n hx hb dX6_push_11 rfl (lv_at hl 0 rfl) ?_
        refine gSM_sim_5 hC hK hT.1 wq_1175 dX6_push_12 ?_
        refine lv_aload_n hx hb dX6_push_15 rfl (lv_at hl 1 rfl) ?_
        refine lv_iload_n hx hb dX6_push_16 rfl (lv_at hl 3 rfl) ?_
        refine wr_ld (jn := v3.toInt.toNat) (f := (fun X => SM Z sa o ro nn V S O N U L X)) (sm_4 Z sa o ro nn V S O N U L) hC hK hT.1 hm.1 hm.2.1 rfl dX6_push_17 ?_
        have hm := hm.2.2
        refine w_aaldR (q0 := 4) hC hK hT.1 rfl hm.1 dX6_push_18 ?_
        have hm := hm.2
        refine lv_iconst (v := 2) hx hb dX6_push_19 (by decide) ?_
        refine wr_ld (jn := 2) (f := (fun X => SM Z sa o ro nn V S O N U X B)) (sm_3 Z sa o ro nn V S O N U B) hC hK hT.1 hm.1 (by decide) rfl dX6_push_20 ?_
        have hm := hm.2
        refine lv_if_eq (tgt := 47) hx hb dX6_push_21 (by decide) (fun c_21 => ?_) (fun c_21 => ?_)
        · have hm := hm.1 c_21
          obtain ⟨v3_47, ev3_47⟩ : ∃ y : Int32, y = v3 + 1 := ⟨_, rfl⟩
          have hm := hm v3_47 ev3_47
          refine lv_iinc (v := v3_47) (lv' := [(3, .int v3_47), (0, .ref (sa)), (1, .ref (ro 4 v1.toInt.toNat)), (2, .int v2)]) hx hb dX6_push_47 hl (k := 3) rfl (by rw [ev3_47]; rfl) (by decide) rfl (fun ls hl => ?_)
          refine lv_goto (tgt := 5) hx hb dX6_push_50 (by decide) ?_
          exact ih5 _ _ _ _ _ _ _ _ _ _ hm hT (lv_sub hl [1, 2, 3, 0] rfl)
        · have hm := hm.2 c_21
          refine lv_aload_n hx hb dX6_push_24 rfl (lv_at hl 1 rfl) ?_
          refine lv_iload_n hx hb dX6_push_25 rfl (lv_at hl 3 rfl) ?_
          refine wr_ld (jn := v3.toInt.toNat) (f := (fun X => SM Z sa o ro nn V S O N U L X)) (sm_4 Z sa o ro nn V S O N U L) hC hK hT.1 hm.1 hm.2.1 rfl dX6_push_26 ?_
          have hm := hm.2.2
          refine lv_aload_n hx hb dX6_push_27 rfl (lv_at hl 0 rfl) ?_
          refine gSM_sim_8 hC hK hT.1 wq_1181 dX6_push_28 ?_
          refine lv_icmp_eq (tgt := 47) hx hb dX6_push_31 (by decide) (fun c_31 => ?_) (fun c_31 => ?_)
          · have hm := hm.1 c_31
            obtain ⟨v3_47, ev3_47⟩ : ∃ y : Int32, y = v3 + 1 := ⟨_, rfl⟩
            have hm := hm v3_47 ev3_47
            refine lv_iinc (v := v3_47) (lv' := [(3, .int v3_47), (0, .ref (sa)), (1, .ref (ro 4 v1.toInt.toNat)), (2, .int v2)]) hx hb dX6_push_47 hl (k := 3) rfl (by rw [ev3_47]; rfl) (by decide) rfl (fun ls hl => ?_)
            refine lv_goto (tgt := 5) hx hb dX6_push_50 (by decide) ?_
            exact ih5 _ _ _ _ _ _ _ _ _ _ hm hT (lv_sub hl [1, 2, 3, 0] rfl)
          · have hm := hm.2 c_31
            refine lv_iload_n hx hb dX6_push_34 rfl (lv_at hl 2 rfl) ?_
            refine lv_aload_n hx hb dX6_push_35 rfl (lv_at hl 0 rfl) ?_
            refine gSM_sim_5 hC hK hT.1 wq_1175 dX6_push_36 ?_
            refine lv_aload_n hx hb dX6_push_39 rfl (lv_at hl 1 rfl) ?_
            refine lv_iload_n hx hb dX6_push_40 rfl (lv_at hl 3 rfl) ?_
            refine wr_ld (jn := v3.toInt.toNat) (f := (fun X => SM Z sa o ro nn V S O N U L X)) (sm_4 Z sa o ro nn V S O N U L) hC hK hT.1 hm.1 hm.2.1 rfl dX6_push_41 ?_
            have hm := hm.2.2
            refine w_aaldR (q0 := 4) hC hK hT.1 rfl hm.1 dX6_push_42 ?_
            have hm := hm.2
            refine lv_iconst (v := 0) hx hb dX6_push_43 (by decide) ?_
            refine wr_ld (jn := 0) (f := (fun X => SM Z sa o ro nn V S O N U X B)) (sm_3 Z sa o ro nn V S O N U B) hC hK hT.1 hm.1 (by decide) rfl dX6_push_44 ?_
            have hm := hm.2
            refine lv_iadd hx hb dX6_push_45 ?_
            refine lv_topi (fun v2_46 ev2_46 => ?_)
            have hm := hm v2_46 ev2_46
            refine lv_istore_n (lv' := [(2, .int v2_46), (0, .ref (sa)), (1, .ref (ro 4 v1.toInt.toNat)), (3, .int v3)]) hx hb dX6_push_46 rfl hl (by decide) rfl (fun ls hl => ?_)
            obtain ⟨v3_47, ev3_47⟩ : ∃ y : Int32, y = v3 + 1 := ⟨_, rfl⟩
            have hm := hm v3_47 ev3_47
            refine lv_iinc (v := v3_47) (lv' := [(3, .int v3_47), (2, .int v2_46), (0, .ref (sa)), (1, .ref (ro 4 v1.toInt.toNat))]) hx hb dX6_push_47 hl (k := 3) rfl (by rw [ev3_47]; rfl) (by decide) rfl (fun ls hl => ?_)
            refine lv_goto (tgt := 5) hx hb dX6_push_50 (by decide) ?_
            exact ih5 _ _ _ _ _ _ _ _ _ _ hm hT (lv_sub hl [2, 3, 1, 0] rfl)
  refine lv_iconst (v := 0) hx hb dX6_push_0 (by decide) ?_
  refine lv_istore_n (lv' := [(2, .int 0), (0, .ref (sa)), (1, .ref (ro 4 x1.toInt.toNat))]) hx hb dX6_push_1 rfl hl (by decide) rfl (fun ls hl => ?_)
  refine lv_bipush (v := 7) hx hb dX6_push_2 (by decide) ?_
  refine lv_istore_n (lv' := [(3, .int 7), (2, .int 0), (0, .ref (sa)), (1, .ref (ro 4 x1.toInt.toNat))]) hx hb dX6_push_4 rfl hl (by decide) rfl (fun ls hl => ?_)
  exact L5 _ _ _ _ _ _ _ _ _ _ _ hm hT (lv_sub hl [2, 3, 1, 0] rfl)
section KX6_push
variable {p : Program} {l : Launch} {e : Env} {s : State} {m : MethodId} {args : Array Value} {below : List Frame} {meth : Method} {c : Code} {H H0 : Heap} {locs : List Loc} {cells slots : Nat} {Q : State → Prop} {R : Room} {rn mcR msR : Nat}
variable {pc : Nat} {ls : Array Slot} {rest : List Value} {A : Nat → Prop} {D : va_G}
variable {cc : ByteArray} {nL index : Nat} {own host : String}
end KX6_push
