theorem wn_1357 : Cond.fieldLinkNest RX8 321 RX7 "minute" "I" RX8 ∈ lw_n := lw_n_mk (tb_6 (List.mem_of_getElem? (i := 33) rfl)) rfl
theorem wn_1363 : Cond.fieldLinkNest RX8 349 RX7 "breath" "[I" RX8 ∈ lw_n := lw_n_mk (tb_6 (List.mem_of_getElem? (i := 39) rfl)) rfl
theorem wq_1781 : Cond.methodLink RX8 355 yX7_boatOf ∈ lw_g := lw_g_mk (tb_7 (List.mem_of_getElem? (i := 217) rfl)) rfl
theorem wn_1367 : Cond.fieldLinkNest RX8 358 RX7 "walks" "[I" RX8 ∈ lw_n := lw_n_mk (tb_6 (List.mem_of_getElem? (i := 43) rfl)) rfl
theorem wn_1375 : Cond.fieldLinkNest RX8 371 RX7 "at" "[I" RX8 ∈ lw_n := lw_n_mk (tb_6 (List.mem_of_getElem? (i := 51) rfl)) rfl
theorem wn_1377 : Cond.fieldLinkNest RX8 374 RX7 "pushed" "[I" RX8 ∈ lw_n := lw_n_mk (tb_6 (List.mem_of_getElem? (i := 53) rfl)) rfl
theorem wq_1720 : Cond.methodLink RX8 327 yX8_counted ∈ lw_g := lw_g_mk (tb_7 (List.mem_of_getElem? (i := 156) rfl)) rfl
theorem wq_1777 : Cond.methodLink RX8 364 yX8_leggerTold ∈ lw_g := lw_g_mk (tb_7 (List.mem_of_getElem? (i := 213) rfl)) rfl
theorem wq_1793 : Cond.methodLink RX8 383 yX8_boatTold ∈ lw_g := lw_g_mk (tb_7 (List.mem_of_getElem? (i := 229) rfl)) rfl
theorem wq_1953 : Cond.constantLong RX8 408 857 ∈ lw_g := lw_g_mk (tb_8 (List.mem_of_getElem? (i := 149) rfl)) rfl
theorem wq_1954 : Cond.constantLong RX8 410 31 ∈ lw_g := lw_g_mk (tb_8 (List.mem_of_getElem? (i := 150) rfl)) rfl
theorem wq_1723 : Cond.code yX8_counted cX8_counted 3 (some .int) ∈ lw_g := lw_g_mk (tb_7 (List.mem_of_getElem? (i := 159) rfl)) rfl
theorem wq_1780 : Cond.code yX8_leggerTold cX8_leggerTold 4 (some .int) ∈ lw_g := lw_g_mk (tb_7 (List.mem_of_getElem? (i := 216) rfl)) rfl
theorem wq_1796 : Cond.code yX8_boatTold cX8_boatTold 4 (some .int) ∈ lw_g := lw_g_mk (tb_7 (List.mem_of_getElem? (i := 232) rfl)) rfl
theorem wq_1719 : Cond.code yX8_count cX8_count 2 (some .int) ∈ lw_g := lw_g_mk (tb_7 (List.mem_of_getElem? (i := 155) rfl)) rfl
theorem wq_1772 : Cond.code yX8_legger cX8_legger 3 (some .int) ∈ lw_g := lw_g_mk (tb_7 (List.mem_of_getElem? (i := 208) rfl)) rfl
theorem wq_1788 : Cond.code yX8_boat cX8_boat 3 (some .int) ∈ lw_g := lw_g_mk (tb_7 (List.mem_of_getElem? (i := 224) rfl)) rfl
theorem wq_1948 : Cond.code yX8_mean cX8_mean 3 (some .double) ∈ lw_g := lw_g_mk (tb_8 (List.mem_of_getElem? (i := 144) rfl)) rfl
theorem wq_1952 : Cond.code yX8_digest cX8_digest 5 (some .long) ∈ lw_g := lw_g_mk (tb_8 (List.mem_of_getElem? (i := 148) rfl)) rfl
theorem wq_1473 : Cond.code yX8_feed cX8_feed 8 (some .int) ∈ lw_g := lw_g_mk (tb_6 (List.mem_of_getElem? (i := 149) rfl)) rfl
theorem wq_1722 : Cond.instanceMethod yX8_counted ∈ lw_g := lw_g_mk (tb_7 (List.mem_of_getElem? (i := 158) rfl)) rfl
theorem wq_102 : Cond.selects RX8 yX8_counted yX8_counted ∈ lw_g := lw_g_mk (tb_0 (List.mem_of_getElem? (i := 102) rfl)) rfl
theorem wq_1779 : Cond.instanceMethod yX8_leggerTold ∈ lw_g := lw_g_mk (tb_7 (List.mem_of_getElem? (i := 215) rfl)) rfl
theorem wq_108 : Cond.selects RX8 yX8_leggerTold yX8_leggerTold ∈ lw_g := lw_g_mk (tb_0 (List.mem_of_getElem? (i := 108) rfl)) rfl
theorem wq_1795 : Cond.instanceMethod yX8_boatTold ∈ lw_g := lw_g_mk (tb_7 (List.mem_of_getElem? (i := 231) rfl)) rfl
theorem wq_110 : Cond.selects RX8 yX8_boatTold yX8_boatTold ∈ lw_g := lw_g_mk (tb_0 (List.mem_of_getElem? (i := 110) rfl)) rfl
def poD (cl : List vw_C) (D : va_G) (Z : Nat → ClassId) {S : Type} (wsF : S → va_W) (u0 : S) (sz : Nat) (K : UInt64 → S → Prop) : Array Value → State → Outcome → State → Prop := va_Qd K (poB cl D Z wsF (va_A (wsF u0) sz)) (va_A (wsF u0) sz)
theorem rwd_of {l : Launch} {y : MethodName} {cc : ByteArray} {n : Nat} {ret : Option FieldType} {rn mc ms : Nat} {cl : List vw_C} {D : va_G} {Z : Nat → ClassId} {sz : Nat} {av : List Value} {S : Type} {wsF : S → va_W} {u0 : S} {K : UInt64 → S → Prop} (hy : plainName y.cls = true) (hn : (lg_sl av).length ≤ n) (hret : ret = some .double)
    (body : ∀ (p : Program) (e : Env) (s : State) (m : MethodId) (args : Array Value) (below : List Frame) (meth : Method) (c : Code) (Q : State → Prop) (A : Nat → Prop), CallFix p m c cc n s args lw_g y.cls → NW s → s.heap.size = sz → TS cl D (wsF u0) A s.heap s.heap [] → va_K D cl (tysG Z) s →
      (∀ (pc : Nat) (ls : Array Slot) (H : Heap) (locs : List Loc) (r : UInt64) (u : S), K r u → TS cl D (wsF u) A s.heap H locs → decode cc pc = .ok (.dreturn, 1) → W p l e (rk rn mc ms) s m args below meth c H locs mc ms Q (F0 m pc ls [.double r])) →
      ∀ ls : Array Slot, lv_has ls n (lv_args 0 av) → W p l e (rk rn mc ms) s m args below meth c s.heap [] 0 0 Q (F0 m 0 ls [])) :
    Met l y (wy y cc n ret) (rk rn mc ms) (pre cl D Z (wsF u0) sz av) (poD cl D Z wsF u0 sz K) mc ms (va_A (wsF u0) sz) := by
  refine Met.ofW (cc := cc) (maxL := n) (ret := ret) hy rfl ?_
  intro p e s m args below meth c s₁ B hml hv
  obtain ⟨rfl, hsz, hP, hD, hK, hN⟩ := hv
  have hts : ∀ w ∈ lw_g, w.before av.toArray s = true := fun w hw => atoms_spec (ws := wy y cc n ret) B.pre w (List.mem_cons_of_mem _ hw)
  have hown : s.vm.findClass y.cls = some m.cls := findClass_of_methodNamed B.named
  have hlocks := B.notSynchronized
  have hl := lv_entry av (n := n) hn
  rw [lg_entry_eq]
  refine body p e s m av.toArray below meth c _ (va_A (wsF u0) sz) ⟨B.exec, B.bytes, hml, hown, hts⟩ hN hsz ⟨hP, hD.self, va_S.rf, fun q h => Or.inr (hsz ▸ h)⟩ hK ?_ _ hl
  intro pc ls H locs r u hk hT hd
  exact W.dret B.exec B.bytes (B.returns.trans hret) (fun t ht hW => ⟨⟨r, u, rfl, hk, by rw [ht]; exact hT.1, hT.2.1, va_K.moved hW.alike hK⟩, hT.2.2.1.F ht⟩) hT.2.2.1.2.2 hd
theorem rwd_go {p : Program} {l : Launch} {e : Env} {s : State} {m : MethodId} {args : Array Value} {below : List Frame} {meth : Method} {c : Code} {H H0 : Heap} {locs : List Loc} {cells slots : Nat} {Q : State → Prop} {R : Room} {pc : Nat} {ls : Array Slot} {rest st0 : List Value} {a : Array Value} {A : Nat → Prop} {mc ms : Nat} {cl : List vw_C} {D : va_G} {Z : Nat → ClassId} {ws : va_W} {S : Type} {wsF : S → va_W} {u0 : S} {K : UInt64 → S → Prop} {wr : va_W} {isC isR pm : List Nat} {ws' : S → va_W} (hr : va_Run p l e R s m args below meth c H locs cells slots mc ms (F0 m pc ls st0) rest (poD cl D Z wsF u0 H.size K a) (va_A (wsF u0) H.size))
    (hc : Cut ws wsF u0 wr isC isR pm ws') (hT : TS cl D ws A H0 H locs)
    (kk : ∀ (r : UInt64) (u : S) (H1 : Heap) (locs1 : List Loc), K r u → TS cl D (ws' u) A H0 H1 locs1 → W p l e R s m args below meth c H1 locs1 (cells + mc) (slots + ms) Q (F0 m (pc + 3) ls (.double r :: rest))) : W p l e R s m args below meth c H locs cells slots Q (F0 m pc ls st0) := by
  have hF := va_free hT.2.1 hT.2.2.1 hT.2.2.2 isC hc.1
  refine va_calld hr hT.2.2.1 (fun q _ h => hF q h) hF (fun r u t H1 locs1 ht hvm hk hB hz1 hk1 hS1 => ?_)
  obtain ⟨hP1, hD1, _⟩ := hB
  rw [ht] at hP1
  exact kk r u H1 locs1 hk (hc.join hT hk1 hP1 hD1 hS1)
def QA8 (Z : Nat → ClassId) (a q g : Nat → Nat) (rg aa : Nat) (al : Nat) (P : M2) (S : M2) (N : M2) (E : M2) : va_W := [(a 200, .inr (7, [.int (S 200 0), .int (S 201 0), .ref (a 202), .ref (a 203), .ref (a 204), .ref (a 205), .ref (a 206), .ref (a 207), .ref (a 208), .ref (a 209), .ref (a 210), .ref (a 211), .int (S 212 0), .ref (a 213), .ref (g 220)])), (a 202, .inl (Z 0, 60, .inl (S 202))), (a 203, .inl (Z 0, 6, .inl (S 203))), (a 204, .inl (Z 0, 6, .inl (S 204))), (a 205, .inl (Z 0, 6, .inl (S 205))), (a 206, .inl (Z 0, 8, .inl (S 206))), (a 207, .inl (Z 0, 8, .inl (S 207))), (a 208, .inl (Z 0, 8, .inl (S 208))), (a 209, .inl (Z 0, 8, .inl (S 209))), (a 210, .inl (Z 0, 8, .inl (S 210))), (a 211, .inl (Z 0, 8, .inl (S 211))), (a 213, .inl (Z 0, 400, .inl (S 213))), (g 220, .inr (8, [.int (N 220 0), .ref (g 221), .int (N 222 0), .int (N 223 0), .ref (g 224), .ref (g 225), .ref (g 226), .ref (g 227), .ref (g 228), .int (N 229 0), .int (N 230 0), .ref (q 240), .ref rg, .ref (a 200), .ref aa])), (q 240, .inr (6, [.int (P 240 0), .int (P 241 0), .ref (q 242), .ref (q 243), .ref (q 244), .ref (q 245), .int (P 246 0), .ref (q 247), .ref (q 248), .int (P 249 0), .ref (q 250), .ref (q 251), .int (P 252 0), .ref (q 253), .ref (q 254), .ref (q 255), .ref (q 256), .int (P 257 0), .int (P 258 0), .ref (q 259), .ref (q 260), .ref (q 261), .ref (q 262), .ref (q 263), .int (P 264 0), .ref (q 265), .int (P 266 0)])), (q 242, .inl (Z 0, 5, .inl (P 242))), (q 243, .inl (Z 0, 5, .inl (P 243))), (q 244, .inl (Z 0, 5, .inl (P 244))), (q 245, .inl (Z 0, 60, .inl (P 245))), (q 247, .inl (Z 0, 4, .inl (P 247))), (q 248, .inl (Z 0, 4, .inl (P 248))), (q 250, .inl (Z 0, 6, .inl (P 250))), (q 251, .inl (Z 0, 6, .inl (P 251))), (q 253, .inl (Z 0, 8, .inl (P 253))), (q 254, .inl (Z 0, 8, .inl (P 254))), (q 255, .inl (Z 0, 8, .inl (P 255))), (q 256, .inl (Z 3, 8, .inr (.inr (.inr (.inr (fun j => if j < 8 then some (q (310 + j)) else none)))))), (q 259, .inl (Z 0, 16, .inl (P 259))), (q 260, .inl (Z 0, 16, .inl (P 260))), (q 261, .inl (Z 0, 17, .inl (P 261))), (q 262, .inl (Z 0, 17, .inl (P 262))), (q 263, .inl (Z 0, 800, .inl (P 263))), (q 265, .inl (Z 0, 400, .inl (P 265))), (q (310 + 0), .inl (Z 0, 2, .inl (P (310 + 0)))), (q (310 + 1), .inl (Z 0, 2, .inl (P (310 + 1)))), (q (310 + 2), .inl (Z 0, 2, .inl (P (310 + 2)))), (q (310 + 3), .inl (Z 0, 2, .inl (P (310 + 3)))), (q (310 + 4), .inl (Z 0, 2, .inl (P (310 + 4)))), (q (310 + 5), .inl (Z 0, 2, .inl (P (310 + 5)))), (q (310 + 6), .inl (Z 0, 2, .inl (P (310 + 6)))), (q (310 + 7), .inl (Z 0, 2, .inl (P (310 + 7)))), (al, .inl (Z 0, 8, .inl (E 400)))]
abbrev cutQA8 : List Nat := [0, 1, 2, 3, 4, 5, 6, 7, 8, 9, 10, 11, 12, 13, 14, 15, 16, 17, 18, 19, 20, 21, 22, 23, 24, 25, 26, 27, 28, 29, 30, 31, 32, 33, 34, 35, 36, 37, 38, 39, 40]
set_option maxRecDepth 100000 in
theorem cutOkQA8 (Z : Nat → ClassId) (a q g : Nat → Nat) (rg aa : Nat) (al : Nat) (P : M2) (S : M2) (N : M2) (E : M2) : Cut (QA8 Z a q g rg aa al P S N E) (fun u : M2 × M2 × M2 => QA8 Z a q g rg aa al P u.1 u.2.1 u.2.2) (S, N, E) [] cutQA8 [] cutQA8 (fun u : M2 × M2 × M2 => QA8 Z a q g rg aa al P u.1 u.2.1 u.2.2) := ⟨rfl, rfl, rfl, fun i h => absurd h List.not_mem_nil, by decide, fun _ => rfl⟩
def QA7 (Z : Nat → ClassId) (a q g : Nat → Nat) (rg aa : Nat) (al : Nat) (P : M2) (S : M2) (N : M2) (E : M2) : va_W := [(a 200, .inr (7, [.int (S 200 0), .int (S 201 0), .ref (a 202), .ref (a 203), .ref (a 204), .ref (a 205), .ref (a 206), .ref (a 207), .ref (a 208), .ref (a 209), .ref (a 210), .ref (a 211), .int (S 212 0), .ref (a 213), .ref (g 220)])), (a 202, .inl (Z 0, 60, .inl (S 202))), (a 203, .inl (Z 0, 6, .inl (S 203))), (a 204, .inl (Z 0, 6, .inl (S 204))), (a 205, .inl (Z 0, 6, .inl (S 205))), (a 206, .inl (Z 0, 8, .inl (S 206))), (a 207, .inl (Z 0, 8, .inl (S 207))), (a 208, .inl (Z 0, 8, .inl (S 208))), (a 209, .inl (Z 0, 8, .inl (S 209))), (a 210, .inl (Z 0, 8, .inl (S 210))), (a 211, .inl (Z 0, 8, .inl (S 211))), (a 213, .inl (Z 0, 400, .inl (S 213))), (g 220, .inr (8, [.int (N 220 0), .ref (g 221), .int (N 222 0), .int (N 223 0), .ref (g 224), .ref (g 225), .ref (g 226), .ref (g 227), .ref (g 228), .int (N 229 0), .int (N 230 0), .ref (q 240), .ref rg, .ref (a 200), .ref aa])), (q 240, .inr (6, [.int (P 240 0), .int (P 241 0), .ref (q 242), .ref (q 243), .ref (q 244), .ref (q 245), .int (P 246 0), .ref (q 247), .ref (q 248), .int (P 249 0), .ref (q 250), .ref (q 251), .int (P 252 0), .ref (q 253), .ref (q 254), .ref (q 255), .ref (q 256), .int (P 257 0), .int (P 258 0), .ref (q 259), .ref (q 260), .ref (q 261), .ref (q 262), .ref (q 263), .int (P 264 0), .ref (q 265), .int (P 266 0)])), (q 242, .inl (Z 0, 5, .inl (P 242))), (q 243, .inl (Z 0, 5, .inl (P 243))), (q 244, .inl (Z 0, 5, .inl (P 244))), (q 245, .inl (Z 0, 60, .inl (P 245))), (q 247, .inl (Z 0, 4, .inl (P 247))), (q 248, .inl (Z 0, 4, .inl (P 248))), (q 250, .inl (Z 0, 6, .inl (P 250))), (q 251, .inl (Z 0, 6, .inl (P 251))), (q 253, .inl (Z 0, 8, .inl (P 253))), (q 254, .inl (Z 0, 8, .inl (P 254))), (q 255, .inl (Z 0, 8, .inl (P 255))), (q 256, .inl (Z 3, 8, .inr (.inr (.inr (.inr (fun j => if j < 8 then some (q (310 + j)) else none)))))), (q 259, .inl (Z 0, 16, .inl (P 259))), (q 260, .inl (Z 0, 16, .inl (P 260))), (q 261, .inl (Z 0, 17, .inl (P 261))), (q 262, .inl (Z 0, 17, .inl (P 262))), (q 263, .inl (Z 0, 800, .inl (P 263))), (q 265, .inl (Z 0, 400, .inl (P 265))), (q (310 + 0), .inl (Z 0, 2, .inl (P (310 + 0)))), (q (310 + 1), .inl (Z 0, 2, .inl (P (310 + 1)))), (q (310 + 2), .inl (Z 0, 2, .inl (P (310 + 2)))), (q (310 + 3), .inl (Z 0, 2, .inl (P (310 + 3)))), (q (310 + 4), .inl (Z 0, 2, .inl (P (310 + 4)))), (q (310 + 5), .inl (Z 0, 2, .inl (P (310 + 5)))), (q (310 + 6), .inl (Z 0, 2, .inl (P (310 + 6)))), (q (310 + 7), .inl (Z 0, 2, .inl (P (310 + 7)))), (al, .inl (Z 0, 7, .inl (E 400)))]
abbrev cutQA7 : List Nat := [0, 1, 2, 3, 4, 5, 6, 7, 8, 9, 10, 11, 12, 13, 14, 15, 16, 17, 18, 19, 20, 21, 22, 23, 24, 25, 26, 27, 28, 29, 30, 31, 32, 33, 34, 35, 36, 37, 38, 39, 40]
set_option maxRecDepth 100000 in
theorem cutOkQA7 (Z : Nat → ClassId) (a q g : Nat → Nat) (rg aa : Nat) (al : Nat) (P : M2) (S : M2) (N : M2) (E : M2) : Cut (QA7 Z a q g rg aa al P S N E) (fun u : M2 × M2 × M2 => QA7 Z a q g rg aa al P u.1 u.2.1 u.2.2) (S, N, E) [] cutQA7 [] cutQA7 (fun u : M2 × M2 × M2 => QA7 Z a q g rg aa al P u.1 u.2.1 u.2.2) := ⟨rfl, rfl, rfl, fun i h => absurd h List.not_mem_nil, by decide, fun _ => rfl⟩
def FW (Z : Nat → ClassId) (g : Nat → Nat) (pl rg sa aa : Nat) (N : M2) (V : M2) : va_W := [(g 220, .inr (8, [.int (N 220 0), .ref (g 221), .int (N 222 0), .int (N 223 0), .ref (g 224), .ref (g 225), .ref (g 226), .ref (g 227), .ref (g 228), .int (N 229 0), .int (N 230 0), .ref pl, .ref rg, .ref sa, .ref aa])), (g 221, .inl (Z 0, 2000, .inl (V 221)))]
abbrev cutFW : List Nat := [0, 1]
set_option maxRecDepth 100000 in
theorem cutOkFW (Z : Nat → ClassId) (g : Nat → Nat) (pl rg sa aa : Nat) (N : M2) (V : M2) : Cut (FW Z g pl rg sa aa N V) (fun u : M2 × M2 => FW Z g pl rg sa aa u.1 u.2) (N, V) [] cutFW [] cutFW (fun u : M2 × M2 => FW Z g pl rg sa aa u.1 u.2) := ⟨rfl, rfl, rfl, fun i h => absurd h List.not_mem_nil, by decide, fun _ => rfl⟩
def FWA (Z : Nat → ClassId) (g : Nat → Nat) (pl rg sa aa al : Nat) (N : M2) (V : M2) (E : M2) : va_W := [(g 220, .inr (8, [.int (N 220 0), .ref (g 221), .int (N 222 0), .int (N 223 0), .ref (g 224), .ref (g 225), .ref (g 226), .ref (g 227), .ref (g 228), .int (N 229 0), .int (N 230 0), .ref pl, .ref rg, .ref sa, .ref aa])), (g 221, .inl (Z 0, 2000, .inl (V 221))), (al, .inl (Z 0, 5, .inl (E 400)))]
abbrev cutFWA : List Nat := [0, 1, 2]
set_option maxRecDepth 100000 in
theorem cutOkFWA (Z : Nat → ClassId) (g : Nat → Nat) (pl rg sa aa al : Nat) (N : M2) (V : M2) (E : M2) : Cut (FWA Z g pl rg sa aa al N V E) (fun u : M2 × M2 × M2 => FWA Z g pl rg sa aa al u.1 u.2.1 u.2.2) (N, V, E) [] cutFWA [] cutFWA (fun u : M2 × M2 × M2 => FWA Z g pl rg sa aa al u.1 u.2.1 u.2.2) := ⟨rfl, rfl, rfl, fun i h => absurd h List.not_mem_nil, by decide, fun _ => rfl⟩
section ROWSQA
variable {p : Program} {l : Launch} {e : Env} {s : State} {m : MethodId} {args : Array Value} {below : List Frame} {meth : Method} {c : Code} {H H0 : Heap} {locs : List Loc} {cells slots : Nat} {Q : State → Prop} {R : Room} {rn mcR msR : Nat}
variable {pc : Nat} {ls : Array Slot} {rest : List Value} {A : Nat → Prop} {D : va_G}
variable {cc : ByteArray} {nL index : Nat} {own host : String}
theorem gQA8_mod_2 {Z : Nat → ClassId} {a q g : Nat → Nat} {rg aa : Nat} {al : Nat} {P : M2} {S : M2} {N : M2} {E : M2} (hC : CallFix p m c cc nL s args lw_g own) (hK : va_K D vwCl (tysG Z) s) (hP : va_P D vwCl (QA8 Z a q g rg aa al P S N E) H) (hl : Cond.fieldLink own index RX8 "size" "I" ∈ lw_g) (hdg : decode cc pc = .ok (.getfield index, 3)) (kk : W p l e R s m args below meth c H locs cells slots Q (F0 m (pc + 3) ls (.int (N 222 0) :: rest))) : W p l e R s m args below meth c H locs cells slots Q (F0 m pc ls (.ref (g 220) :: rest)) :=
  w_get (C := RX8) (T := TX8) (N := 15) (ci := 8) (q0 := 12) (k := 2) hC hK hP fi_X8 rfl rfl rfl (by decide) rfl hl hdg kk
theorem gQA8_mod_11 {Z : Nat → ClassId} {a q g : Nat → Nat} {rg aa : Nat} {al : Nat} {P : M2} {S : M2} {N : M2} {E : M2} (hC : CallFix p m c cc nL s args lw_g own) (hK : va_K D vwCl (tysG Z) s) (hP : va_P D vwCl (QA8 Z a q g rg aa al P S N E) H) (hl : Cond.fieldLink own index RX8 "plan" "LTunnelLeggersModel$Plan;" ∈ lw_g) (hdg : decode cc pc = .ok (.getfield index, 3)) (kk : W p l e R s m args below meth c H locs cells slots Q (F0 m (pc + 3) ls (.ref (q 240) :: rest))) : W p l e R s m args below meth c H locs cells slots Q (F0 m pc ls (.ref (g 220) :: rest)) :=
  w_get (C := RX8) (T := TX8) (N := 15) (ci := 8) (q0 := 12) (k := 11) hC hK hP fi_X8 rfl rfl rfl (by decide) rfl hl hdg kk
theorem gQA8_mod_13 {Z : Nat → ClassId} {a q g : Nat → Nat} {rg aa : Nat} {al : Nat} {P : M2} {S : M2} {N : M2} {E : M2} (hC : CallFix p m c cc nL s args lw_g own) (hK : va_K D vwCl (tysG Z) s) (hP : va_P D vwCl (QA8 Z a q g rg aa al P S N E) H) (hl : Cond.fieldLink own index RX8 "s" "LTunnelLeggersModel$State;" ∈ lw_g) (hdg : decode cc pc = .ok (.getfield index, 3)) (kk : W p l e R s m args below meth c H locs cells slots Q (F0 m (pc + 3) ls (.ref (a 200) :: rest))) : W p l e R s m args below meth c H locs cells slots Q (F0 m pc ls (.ref (g 220) :: rest)) :=
  w_get (C := RX8) (T := TX8) (N := 15) (ci := 8) (q0 := 12) (k := 13) hC hK hP fi_X8 rfl rfl rfl (by decide) rfl hl hdg kk
theorem gNQA8_plan_0 {Z : Nat → ClassId} {a q g : Nat → Nat} {rg aa : Nat} {al : Nat} {P : M2} {S : M2} {N : M2} {E : M2} (hC : CallFix p m c cc nL s args lw_g own) (hN : NW s) (hK : va_K D vwCl (tysG Z) s) (hP : va_P D vwCl (QA8 Z a q g rg aa al P S N E) H) (hl : Cond.fieldLinkNest own index RX6 "bores" "I" host ∈ lw_n) (hdg : decode cc pc = .ok (.getfield index, 3)) (kk : W p l e R s m args below meth c H locs cells slots Q (F0 m (pc + 3) ls (.int (P 240 0) :: rest))) : W p l e R s m args below meth c H locs cells slots Q (F0 m pc ls (.ref (q 240) :: rest)) :=
  w_getN (C := RX6) (T := TX6) (N := 27) (ci := 6) (q0 := 13) (k := 0) hC hN hK hP fi_X6 rfl rfl rfl (by decide) rfl hl hdg kk
theorem gNQA8_plan_1 {Z : Nat → ClassId} {a q g : Nat → Nat} {rg aa : Nat} {al : Nat} {P : M2} {S : M2} {N : M2} {E : M2} (hC : CallFix p m c cc nL s args lw_g own) (hN : NW s) (hK : va_K D vwCl (tysG Z) s) (hP : va_P D vwCl (QA8 Z a q g rg aa al P S N E) H) (hl : Cond.fieldLinkNest own index RX6 "places" "I" host ∈ lw_n) (hdg : decode cc pc = .ok (.getfield index, 3)) (kk : W p l e R s m args below meth c H locs cells slots Q (F0 m (pc + 3) ls (.int (P 241 0) :: rest))) : W p l e R s m args below meth c H locs cells slots Q (F0 m pc ls (.ref (q 240) :: rest)) :=
  w_getN (C := RX6) (T := TX6) (N := 27) (ci := 6) (q0 := 13) (k := 1) hC hN hK hP fi_X6 rfl rfl rfl (by decide) rfl hl hdg kk
theorem gNQA8_plan_6 {Z : Nat → ClassId} {a q g : Nat → Nat} {rg aa : Nat} {al : Nat} {P : M2} {S : M2} {N : M2} {E : M2} (hC : CallFix p m c cc nL s args lw_g own) (hN : NW s) (hK : va_K D vwCl (tysG Z) s) (hP : va_P D vwCl (QA8 Z a q g rg aa al P S N E) H) (hl : Cond.fieldLinkNest own index RX6 "shafts" "I" host ∈ lw_n) (hdg : decode cc pc = .ok (.getfield index, 3)) (kk : W p l e R s m args below meth c H locs cells slots Q (F0 m (pc + 3) ls (.int (P 246 0) :: rest))) : W p l e R s m args below meth c H locs cells slots Q (F0 m pc ls (.ref (q 240) :: rest)) :=
  w_getN (C := RX6) (T := TX6) (N := 27) (ci := 6) (q0 := 13) (k := 6) hC hN hK hP fi_X6 rfl rfl rfl (by decide) rfl hl hdg kk
theorem gNQA8_plan_9 {Z : Nat → ClassId} {a q g : Nat → Nat} {rg aa : Nat} {al : Nat} {P : M2} {S : M2} {N : M2} {E : M2} (hC : CallFix p m c cc nL s args lw_g own) (hN : NW s) (hK : va_K D vwCl (tysG Z) s) (hP : va_P D vwCl (QA8 Z a q g rg aa al P S N E) H) (hl : Cond.fieldLinkNest own index RX6 "leggers" "I" host ∈ lw_n) (hdg : decode cc pc = .ok (.getfield index, 3)) (kk : W p l e R s m args below meth c H locs cells slots Q (F0 m (pc + 3) ls (.int (P 249 0) :: rest))) : W p l e R s m args below meth c H locs cells slots Q (F0 m pc ls (.ref (q 240) :: rest)) :=
  w_getN (C := RX6) (T := TX6) (N := 27) (ci := 6) (q0 := 13) (k := 9) hC hN hK hP fi_X6 rfl rfl rfl (by decide) rfl hl hdg kk
theorem gNQA8_plan_12 {Z : Nat → ClassId} {a q g : Nat → Nat} {rg aa : Nat} {al : Nat} {P : M2} {S : M2} {N : M2} {E : M2} (hC : CallFix p m c cc nL s args lw_g own) (hN : NW s) (hK : va_K D vwCl (tysG Z) s) (hP : va_P D vwCl (QA8 Z a q g rg aa al P S N E) H) (hl : Cond.fieldLinkNest own index RX6 "boats" "I" host ∈ lw_n) (hdg : decode cc pc = .ok (.getfield index, 3)) (kk : W p l e R s m args below meth c H locs cells slots Q (F0 m (pc + 3) ls (.int (P 252 0) :: rest))) : W p l e R s m args below meth c H locs cells slots Q (F0 m pc ls (.ref (q 240) :: rest)) :=
  w_getN (C := RX6) (T := TX6) (N := 27) (ci := 6) (q0 := 13) (k := 12) hC hN hK hP fi_X6 rfl rfl rfl (by decide) rfl hl hdg kk
theorem gNQA8_plan_17 {Z : Nat → ClassId} {a q g : Nat → Nat} {rg aa : Nat} {al : Nat} {P : M2} {S : M2} {N : M2} {E : M2} (hC : CallFix p m c cc nL s args lw_g own) (hN : NW s) (hK : va_K D vwCl (tysG Z) s) (hP : va_P D vwCl (QA8 Z a q g rg aa al P S N E) H) (hl : Cond.fieldLinkNest own index RX6 "orders" "I" host ∈ lw_n) (hdg : decode cc pc = .ok (.getfield index, 3)) (kk : W p l e R s m args below meth c H locs cells slots Q (F0 m (pc + 3) ls (.int (P 257 0) :: rest))) : W p l e R s m args below meth c H locs cells slots Q (F0 m pc ls (.ref (q 240) :: rest)) :=
  w_getN (C := RX6) (T := TX6) (N := 27) (ci := 6) (q0 := 13) (k := 17) hC hN hK hP fi_X6 rfl rfl rfl (by decide) rfl hl hdg kk
theorem gNQA8_st_0 {Z : Nat → ClassId} {a q g : Nat → Nat} {rg aa : Nat} {al : Nat} {P : M2} {S : M2} {N : M2} {E : M2} (hC : CallFix p m c cc nL s args lw_g own) (hN : NW s) (hK : va_K D vwCl (tysG Z) s) (hP : va_P D vwCl (QA8 Z a q g rg aa al P S N E) H) (hl : Cond.fieldLinkNest own index RX7 "minute" "I" host ∈ lw_n) (hdg : decode cc pc = .ok (.getfield index, 3)) (kk : W p l e R s m args below meth c H locs cells slots Q (F0 m (pc + 3) ls (.int (S 200 0) :: rest))) : W p l e R s m args below meth c H locs cells slots Q (F0 m pc ls (.ref (a 200) :: rest)) :=
  w_getN (C := RX7) (T := TX7) (N := 15) (ci := 7) (q0 := 0) (k := 0) hC hN hK hP fi_X7 rfl rfl rfl (by decide) rfl hl hdg kk
theorem gNQA8_st_1 {Z : Nat → ClassId} {a q g : Nat → Nat} {rg aa : Nat} {al : Nat} {P : M2} {S : M2} {N : M2} {E : M2} (hC : CallFix p m c cc nL s args lw_g own) (hN : NW s) (hK : va_K D vwCl (tysG Z) s) (hP : va_P D vwCl (QA8 Z a q g rg aa al P S N E) H) (hl : Cond.fieldLinkNest own index RX7 "turn" "I" host ∈ lw_n) (hdg : decode cc pc = .ok (.getfield index, 3)) (kk : W p l e R s m args below meth c H locs cells slots Q (F0 m (pc + 3) ls (.int (S 201 0) :: rest))) : W p l e R s m args below meth c H locs cells slots Q (F0 m pc ls (.ref (a 200) :: rest)) :=
  w_getN (C := RX7) (T := TX7) (N := 15) (ci := 7) (q0 := 0) (k := 1) hC hN hK hP fi_X7 rfl rfl rfl (by decide) rfl hl hdg kk
theorem sQA8_all {Z : Nat → ClassId} {a q g : Nat → Nat} {rg aa : Nat} {al : Nat} {P : M2} {S : M2} {N : M2} {E : M2} {i : Int32} {x : Int32} (hC : CallFix p m c cc nL s args lw_g own) (hK : va_K D vwCl (tysG Z) s) (hT : TS vwCl D (QA8 Z a q g rg aa al P S N E) A H0 H locs) (hi : inb i 8) (hdg : decode cc pc = .ok (.iastore, 1)) (kk : ∀ (E1 : M2), E1 = up2 E 400 (upd (E 400) i.toInt.toNat x) → ∀ (H1 : Heap) (locs1 : List Loc), TS vwCl D (QA8 Z a q g rg aa al P S N E1) A H0 H1 locs1 → W p l e R s m args below meth c H1 locs1 cells slots Q (F0 m (pc + 1) ls rest)) : W p l e R s m args below meth c H locs cells slots Q (F0 m pc ls (.int x :: .int i :: .ref (al) :: rest)) :=
  w_iast (q0 := 40) (ws' := (QA8 Z a q g rg aa al P S N (up2 E 400 (upd (E 400) i.toInt.toNat x)))) hC hK hT rfl hi rfl hdg (fun H1 locs1 hT1 => kk _ rfl H1 locs1 hT1)
theorem gQA7_mod_11 {Z : Nat → ClassId} {a q g : Nat → Nat} {rg aa : Nat} {al : Nat} {P : M2} {S : M2} {N : M2} {E : M2} (hC : CallFix p m c cc nL s args lw_g own) (hK : va_K D vwCl (tysG Z) s) (hP : va_P D vwCl (QA7 Z a q g rg aa al P S N E) H) (hl : Cond.fieldLink own index RX8 "plan" "LTunnelLeggersModel$Plan;" ∈ lw_g) (hdg : decode cc pc = .ok (.getfield index, 3)) (kk : W p l e R s m args below meth c H locs cells slots Q (F0 m (pc + 3) ls (.ref (q 240) :: rest))) : W p l e R s m args below meth c H locs cells slots Q (F0 m pc ls (.ref (g 220) :: rest)) :=
  w_get (C := RX8) (T := TX8) (N := 15) (ci := 8) (q0 := 12) (k := 11) hC hK hP fi_X8 rfl rfl rfl (by decide) rfl hl hdg kk
theorem gQA7_mod_13 {Z : Nat → ClassId} {a q g : Nat → Nat} {rg aa : Nat} {al : Nat} {P : M2} {S : M2} {N : M2} {E : M2} (hC : CallFix p m c cc nL s args lw_g own) (hK : va_K D vwCl (tysG Z) s) (hP : va_P D vwCl (QA7 Z a q g rg aa al P S N E) H) (hl : Cond.fieldLink own index RX8 "s" "LTunnelLeggersModel$State;" ∈ lw_g) (hdg : decode cc pc = .ok (.getfield index, 3)) (kk : W p l e R s m args below meth c H locs cells slots Q (F0 m (pc + 3) ls (.ref (a 200) :: rest))) : W p l e R s m args below meth c H locs cells slots Q (F0 m pc ls (.ref (g 220) :: rest)) :=
  w_get (C := RX8) (T := TX8) (N := 15) (ci := 8) (q0 := 12) (k := 13) hC hK hP fi_X8 rfl rfl rfl (by decide) rfl hl hdg kk
theorem gNQA7_plan_10 {Z : Nat → ClassId} {a q g : Nat → Nat} {rg aa : Nat} {al : Nat} {P : M2} {S : M2} {N : M2} {E : M2} (hC : CallFix p m c cc nL s args lw_g own) (hN : NW s) (hK : va_K D vwCl (tysG Z) s) (hP : va_P D vwCl (QA7 Z a q g rg aa al P S N E) H) (hl : Cond.fieldLinkNest own index RX6 "strength" "[I" host ∈ lw_n) (hdg : decode cc pc = .ok (.getfield index, 3)) (kk : W p l e R s m args below meth c H locs cells slots Q (F0 m (pc + 3) ls (.ref (q 250) :: rest))) : W p l e R s m args below meth c H locs cells slots Q (F0 m pc ls (.ref (q 240) :: rest)) :=
  w_getN (C := RX6) (T := TX6) (N := 27) (ci := 6) (q0 := 13) (k := 10) hC hN hK hP fi_X6 rfl rfl rfl (by decide) rfl hl hdg kk
theorem gNQA7_plan_11 {Z : Nat → ClassId} {a q g : Nat → Nat} {rg aa : Nat} {al : Nat} {P : M2} {S : M2} {N : M2} {E : M2} (hC : CallFix p m c cc nL s args lw_g own) (hN : NW s) (hK : va_K D vwCl (tysG Z) s) (hP : va_P D vwCl (QA7 Z a q g rg aa al P S N E) H) (hl : Cond.fieldLinkNest own index RX6 "lungs" "[I" host ∈ lw_n) (hdg : decode cc pc = .ok (.getfield index, 3)) (kk : W p l e R s m args below meth c H locs cells slots Q (F0 m (pc + 3) ls (.ref (q 251) :: rest))) : W p l e R s m args below meth c H locs cells slots Q (F0 m pc ls (.ref (q 240) :: rest)) :=
  w_getN (C := RX6) (T := TX6) (N := 27) (ci := 6) (q0 := 13) (k := 11) hC hN hK hP fi_X6 rfl rfl rfl (by decide) rfl hl hdg kk
theorem gNQA7_plan_13 {Z : Nat → ClassId} {a q g : Nat → Nat} {rg aa : Nat} {al : Nat} {P : M2} {S : M2} {N : M2} {E : M2} (hC : CallFix p m c cc nL s args lw_g own) (hN : NW s) (hK : va_K D vwCl (tysG Z) s) (hP : va_P D vwCl (QA7 Z a q g rg aa al P S N E) H) (hl : Cond.fieldLinkNest own index RX6 "weight" "[I" host ∈ lw_n) (hdg : decode cc pc = .ok (.getfield index, 3)) (kk : W p l e R s m args below meth c H locs cells slots Q (F0 m (pc + 3) ls (.ref (q 253) :: rest))) : W p l e R s m args below meth c H locs cells slots Q (F0 m pc ls (.ref (q 240) :: rest)) :=
  w_getN (C := RX6) (T := TX6) (N := 27) (ci := 6) (q0 := 13) (k := 13) hC hN hK hP fi_X6 rfl rfl rfl (by decide) rfl hl hdg kk
theorem gNQA7_st_3 {Z : Nat → ClassId} {a q g : Nat → Nat} {rg aa : Nat} {al : Nat} {P : M2} {S : M2} {N : M2} {E : M2} (hC : CallFix p m c cc nL s args lw_g own) (hN : NW s) (hK : va_K D vwCl (tysG Z) s) (hP : va_P D vwCl (QA7 Z a q g rg aa al P S N E) H) (hl : Cond.fieldLinkNest own index RX7 "breath" "[I" host ∈ lw_n) (hdg : decode cc pc = .ok (.getfield index, 3)) (kk : W p l e R s m args below meth c H locs cells slots Q (F0 m (pc + 3) ls (.ref (a 203) :: rest))) : W p l e R s m args below meth c H locs cells slots Q (F0 m pc ls (.ref (a 200) :: rest)) :=
  w_getN (C := RX7) (T := TX7) (N := 15) (ci := 7) (q0 := 0) (k := 3) hC hN hK hP fi_X7 rfl rfl rfl (by decide) rfl hl hdg kk
theorem gNQA7_st_4 {Z : Nat → ClassId} {a q g : Nat → Nat} {rg aa : Nat} {al : Nat} {P : M2} {S : M2} {N : M2} {E : M2} (hC : CallFix p m c cc nL s args lw_g own) (hN : NW s) (hK : va_K D vwCl (tysG Z) s) (hP : va_P D vwCl (QA7 Z a q g rg aa al P S N E) H) (hl : Cond.fieldLinkNest own index RX7 "capAt" "[I" host ∈ lw_n) (hdg : decode cc pc = .ok (.getfield index, 3)) (kk : W p l e R s m args below meth c H locs cells slots Q (F0 m (pc + 3) ls (.ref (a 204) :: rest))) : W p l e R s m args below meth c H locs cells slots Q (F0 m pc ls (.ref (a 200) :: rest)) :=
  w_getN (C := RX7) (T := TX7) (N := 15) (ci := 7) (q0 := 0) (k := 4) hC hN hK hP fi_X7 rfl rfl rfl (by decide) rfl hl hdg kk
theorem gNQA7_st_5 {Z : Nat → ClassId} {a q g : Nat → Nat} {rg aa : Nat} {al : Nat} {P : M2} {S : M2} {N : M2} {E : M2} (hC : CallFix p m c cc nL s args lw_g own) (hN : NW s) (hK : va_K D vwCl (tysG Z) s) (hP : va_P D vwCl (QA7 Z a q g rg aa al P S N E) H) (hl : Cond.fieldLinkNest own index RX7 "walks" "[I" host ∈ lw_n) (hdg : decode cc pc = .ok (.getfield index, 3)) (kk : W p l e R s m args below meth c H locs cells slots Q (F0 m (pc + 3) ls (.ref (a 205) :: rest))) : W p l e R s m args below meth c H locs cells slots Q (F0 m pc ls (.ref (a 200) :: rest)) :=
  w_getN (C := RX7) (T := TX7) (N := 15) (ci := 7) (q0 := 0) (k := 5) hC hN hK hP fi_X7 rfl rfl rfl (by decide) rfl hl hdg kk
theorem gNQA7_st_6 {Z : Nat → ClassId} {a q g : Nat → Nat} {rg aa : Nat} {al : Nat} {P : M2} {S : M2} {N : M2} {E : M2} (hC : CallFix p m c cc nL s args lw_g own) (hN : NW s) (hK : va_K D vwCl (tysG Z) s) (hP : va_P D vwCl (QA7 Z a q g rg aa al P S N E) H) (hl : Cond.fieldLinkNest own index RX7 "is" "[I" host ∈ lw_n) (hdg : decode cc pc = .ok (.getfield index, 3)) (kk : W p l e R s m args below meth c H locs cells slots Q (F0 m (pc + 3) ls (.ref (a 206) :: rest))) : W p l e R s m args below meth c H locs cells slots Q (F0 m pc ls (.ref (a 200) :: rest)) :=
  w_getN (C := RX7) (T := TX7) (N := 15) (ci := 7) (q0 := 0) (k := 6) hC hN hK hP fi_X7 rfl rfl rfl (by decide) rfl hl hdg kk
theorem gNQA7_st_7 {Z : Nat → ClassId} {a q g : Nat → Nat} {rg aa : Nat} {al : Nat} {P : M2} {S : M2} {N : M2} {E : M2} (hC : CallFix p m c cc nL s args lw_g own) (hN : NW s) (hK : va_K D vwCl (tysG Z) s) (hP : va_P D vwCl (QA7 Z a q g rg aa al P S N E) H) (hl : Cond.fieldLinkNest own index RX7 "end" "[I" host ∈ lw_n) (hdg : decode cc pc = .ok (.getfield index, 3)) (kk : W p l e R s m args below meth c H locs cells slots Q (F0 m (pc + 3) ls (.ref (a 207) :: rest))) : W p l e R s m args below meth c H locs cells slots Q (F0 m pc ls (.ref (a 200) :: rest)) :=
  w_getN (C := RX7) (T := TX7) (N := 15) (ci := 7) (q0 := 0) (k := 7) hC hN hK hP fi_X7 rfl rfl rfl (by decide) rfl hl hdg kk
theorem gNQA7_st_8 {Z : Nat → ClassId} {a q g : Nat → Nat} {rg aa : Nat} {al : Nat} {P : M2} {S : M2} {N : M2} {E : M2} (hC : CallFix p m c cc nL s args lw_g own) (hN : NW s) (hK : va_K D vwCl (tysG Z) s) (hP : va_P D vwCl (QA7 Z a q g rg aa al P S N E) H) (hl : Cond.fieldLinkNest own index RX7 "due" "[I" host ∈ lw_n) (hdg : decode cc pc = .ok (.getfield index, 3)) (kk : W p l e R s m args below meth c H locs cells slots Q (F0 m (pc + 3) ls (.ref (a 208) :: rest))) : W p l e R s m args below meth c H locs cells slots Q (F0 m pc ls (.ref (a 200) :: rest)) :=
  w_getN (C := RX7) (T := TX7) (N := 15) (ci := 7) (q0 := 0) (k := 8) hC hN hK hP fi_X7 rfl rfl rfl (by decide) rfl hl hdg kk
theorem gNQA7_st_9 {Z : Nat → ClassId} {a q g : Nat → Nat} {rg aa : Nat} {al : Nat} {P : M2} {S : M2} {N : M2} {E : M2} (hC : CallFix p m c cc nL s args lw_g own) (hN : NW s) (hK : va_K D vwCl (tysG Z) s) (hP : va_P D vwCl (QA7 Z a q g rg aa al P S N E) H) (hl : Cond.fieldLinkNest own index RX7 "at" "[I" host ∈ lw_n) (hdg : decode cc pc = .ok (.getfield index, 3)) (kk : W p l e R s m args below meth c H locs cells slots Q (F0 m (pc + 3) ls (.ref (a 209) :: rest))) : W p l e R s m args below meth c H locs cells slots Q (F0 m pc ls (.ref (a 200) :: rest)) :=
  w_getN (C := RX7) (T := TX7) (N := 15) (ci := 7) (q0 := 0) (k := 9) hC hN hK hP fi_X7 rfl rfl rfl (by decide) rfl hl hdg kk
theorem gNQA7_st_10 {Z : Nat → ClassId} {a q g : Nat → Nat} {rg aa : Nat} {al : Nat} {P : M2} {S : M2} {N : M2} {E : M2} (hC : CallFix p m c cc nL s args lw_g own) (hN : NW s) (hK : va_K D vwCl (tysG Z) s) (hP : va_P D vwCl (QA7 Z a q g rg aa al P S N E) H) (hl : Cond.fieldLinkNest own index RX7 "pushed" "[I" host ∈ lw_n) (hdg : decode cc pc = .ok (.getfield index, 3)) (kk : W p l e R s m args below meth c H locs cells slots Q (F0 m (pc + 3) ls (.ref (a 210) :: rest))) : W p l e R s m args below meth c H locs cells slots Q (F0 m pc ls (.ref (a 200) :: rest)) :=
  w_getN (C := RX7) (T := TX7) (N := 15) (ci := 7) (q0 := 0) (k := 10) hC hN hK hP fi_X7 rfl rfl rfl (by decide) rfl hl hdg kk
theorem gNQA7_st_11 {Z : Nat → ClassId} {a q g : Nat → Nat} {rg aa : Nat} {al : Nat} {P : M2} {S : M2} {N : M2} {E : M2} (hC : CallFix p m c cc nL s args lw_g own) (hN : NW s) (hK : va_K D vwCl (tysG Z) s) (hP : va_P D vwCl (QA7 Z a q g rg aa al P S N E) H) (hl : Cond.fieldLinkNest own index RX7 "out" "[I" host ∈ lw_n) (hdg : decode cc pc = .ok (.getfield index, 3)) (kk : W p l e R s m args below meth c H locs cells slots Q (F0 m (pc + 3) ls (.ref (a 211) :: rest))) : W p l e R s m args below meth c H locs cells slots Q (F0 m pc ls (.ref (a 200) :: rest)) :=
  w_getN (C := RX7) (T := TX7) (N := 15) (ci := 7) (q0 := 0) (k := 11) hC hN hK hP fi_X7 rfl rfl rfl (by decide) rfl hl hdg kk
theorem sQA7_all {Z : Nat → ClassId} {a q g : Nat → Nat} {rg aa : Nat} {al : Nat} {P : M2} {S : M2} {N : M2} {E : M2} {i : Int32} {x : Int32} (hC : CallFix p m c cc nL s args lw_g own) (hK : va_K D vwCl (tysG Z) s) (hT : TS vwCl D (QA7 Z a q g rg aa al P S N E) A H0 H locs) (hi : inb i 7) (hdg : decode cc pc = .ok (.iastore, 1)) (kk : ∀ (E1 : M2), E1 = up2 E 400 (upd (E 400) i.toInt.toNat x) → ∀ (H1 : Heap) (locs1 : List Loc), TS vwCl D (QA7 Z a q g rg aa al P S N E1) A H0 H1 locs1 → W p l e R s m args below meth c H1 locs1 cells slots Q (F0 m (pc + 1) ls rest)) : W p l e R s m args below meth c H locs cells slots Q (F0 m pc ls (.int x :: .int i :: .ref (al) :: rest)) :=
  w_iast (q0 := 40) (ws' := (QA7 Z a q g rg aa al P S N (up2 E 400 (upd (E 400) i.toInt.toNat x)))) hC hK hT rfl hi rfl hdg (fun H1 locs1 hT1 => kk _ rfl H1 locs1 hT1)
theorem gFW_mod_2 {Z : Nat → ClassId} {g : Nat → Nat} {pl rg sa aa : Nat} {N : M2} {V : M2} (hC : CallFix p m c cc nL s args lw_g own) (hK : va_K D vwCl (tysG Z) s) (hP : va_P D vwCl (FW Z g pl rg sa aa N V) H) (hl : Cond.fieldLink own index RX8 "size" "I" ∈ lw_g) (hdg : decode cc pc = .ok (.getfield index, 3)) (kk : W p l e R s m args below meth c H locs cells slots Q (F0 m (pc + 3) ls (.int (N 222 0) :: rest))) : W p l e R s m args below meth c H locs cells slots Q (F0 m pc ls (.ref (g 220) :: rest)) :=
  w_get (C := RX8) (T := TX8) (N := 15) (ci := 8) (q0 := 0) (k := 2) hC hK hP fi_X8 rfl rfl rfl (by decide) rfl hl hdg kk
theorem pFW_mod_0 {Z : Nat → ClassId} {g : Nat → Nat} {pl rg sa aa : Nat} {N : M2} {V : M2} {x : Int32} (hC : CallFix p m c cc nL s args lw_g own) (hK : va_K D vwCl (tysG Z) s) (hT : TS vwCl D (FW Z g pl rg sa aa N V) A H0 H locs) (hl : Cond.fieldLink own index RX8 "thrown" "I" ∈ lw_g) (hdg : decode cc pc = .ok (.putfield index, 3)) (kk : ∀ (N1 : M2), N1 = up2 N 220 (fun _ => x) → ∀ (H1 : Heap) (locs1 : List Loc), TS vwCl D (FW Z g pl rg sa aa N1 V) A H0 H1 locs1 → W p l e R s m args below meth c H1 locs1 cells slots Q (F0 m (pc + 3) ls rest)) : W p l e R s m args below meth c H locs cells slots Q (F0 m pc ls (.int x :: .ref (g 220) :: rest)) :=
  w_put (C := RX8) (T := TX8) (N := 15) (ci := 8) (q0 := 0) (k := 0) (ty0 := tyX8) (ty := .int) (ws' := (FW Z g pl rg sa aa (up2 N 220 (fun _ => x)) V)) hC hK hT fi_X8 tyX8_ok nmX8 rfl rfl (by decide) rfl rfl rfl rfl rfl (Nat.le_of_ble_eq_true rfl) rfl hl hdg (fun H1 locs1 hT1 => kk _ rfl H1 locs1 hT1)
theorem gFWA_mod_1 {Z : Nat → ClassId} {g : Nat → Nat} {pl rg sa aa al : Nat} {N : M2} {V : M2} {E : M2} (hC : CallFix p m c cc nL s args lw_g own) (hK : va_K D vwCl (tysG Z) s) (hP : va_P D vwCl (FWA Z g pl rg sa aa al N V E) H) (hl : Cond.fieldLink own index RX8 "tape" "[I" ∈ lw_g) (hdg : decode cc pc = .ok (.getfield index, 3)) (kk : W p l e R s m args below meth c H locs cells slots Q (F0 m (pc + 3) ls (.ref (g 221) :: rest))) : W p l e R s m args below meth c H locs cells slots Q (F0 m pc ls (.ref (g 220) :: rest)) :=
  w_get (C := RX8) (T := TX8) (N := 15) (ci := 8) (q0 := 0) (k := 1) hC hK hP fi_X8 rfl rfl rfl (by decide) rfl hl hdg kk
theorem gFWA_mod_2 {Z : Nat → ClassId} {g : Nat → Nat} {pl rg sa aa al : Nat} {N : M2} {V : M2} {E : M2} (hC : CallFix p m c cc nL s args lw_g own) (hK : va_K D vwCl (tysG Z) s) (hP : va_P D vwCl (FWA Z g pl rg sa aa al N V E) H) (hl : Cond.fieldLink own index RX8 "size" "I" ∈ lw_g) (hdg : decode cc pc = .ok (.getfield index, 3)) (kk : W p l e R s m args below meth c H locs cells slots Q (F0 m (pc + 3) ls (.int (N 222 0) :: rest))) : W p l e R s m args below meth c H locs cells slots Q (F0 m pc ls (.ref (g 220) :: rest)) :=
  w_get (C := RX8) (T := TX8) (N := 15) (ci := 8) (q0 := 0) (k := 2) hC hK hP fi_X8 rfl rfl rfl (by decide) rfl hl hdg kk
theorem pFWA_mod_2 {Z : Nat → ClassId} {g : Nat → Nat} {pl rg sa aa al : Nat} {N : M2} {V : M2} {E : M2} {x : Int32} (hC : CallFix p m c cc nL s args lw_g own) (hK : va_K D vwCl (tysG Z) s) (hT : TS vwCl D (FWA Z g pl rg sa aa al N V E) A H0 H locs) (hl : Cond.fieldLink own index RX8 "size" "I" ∈ lw_g) (hdg : decode cc pc = .ok (.putfield index, 3)) (kk : ∀ (N1 : M2), N1 = up2 N 222 (fun _ => x) → ∀ (H1 : Heap) (locs1 : List Loc), TS vwCl D (FWA Z g pl rg sa aa al N1 V E) A H0 H1 locs1 → W p l e R s m args below meth c H1 locs1 cells slots Q (F0 m (pc + 3) ls rest)) : W p l e R s m args below meth c H locs cells slots Q (F0 m pc ls (.int x :: .ref (g 220) :: rest)) :=
  w_put (C := RX8) (T := TX8) (N := 15) (ci := 8) (q0 := 0) (k := 2) (ty0 := tyX8) (ty := .int) (ws' := (FWA Z g pl rg sa aa al (up2 N 222 (fun _ => x)) V E)) hC hK hT fi_X8 tyX8_ok nmX8 rfl rfl (by decide) rfl rfl rfl rfl rfl (Nat.le_of_ble_eq_true rfl) rfl hl hdg (fun H1 locs1 hT1 => kk _ rfl H1 locs1 hT1)
theorem sFWA_all {Z : Nat → ClassId} {g : Nat → Nat} {pl rg sa aa al : Nat} {N : M2} {V : M2} {E : M2} {i : Int32} {x : Int32} (hC : CallFix p m c cc nL s args lw_g own) (hK : va_K D vwCl (tysG Z) s) (hT : TS vwCl D (FWA Z g pl rg sa aa al N V E) A H0 H locs) (hi : inb i 5) (hdg : decode cc pc = .ok (.iastore, 1)) (kk : ∀ (E1 : M2), E1 = up2 E 400 (upd (E 400) i.toInt.toNat x) → ∀ (H1 : Heap) (locs1 : List Loc), TS vwCl D (FWA Z g pl rg sa aa al N V E1) A H0 H1 locs1 → W p l e R s m args below meth c H1 locs1 cells slots Q (F0 m (pc + 1) ls rest)) : W p l e R s m args below meth c H locs cells slots Q (F0 m pc ls (.int x :: .int i :: .ref (al) :: rest)) :=
  w_iast (q0 := 2) (ws' := (FWA Z g pl rg sa aa al N V (up2 E 400 (upd (E 400) i.toInt.toNat x)))) hC hK hT rfl hi rfl hdg (fun H1 locs1 hT1 => kk _ rfl H1 locs1 hT1)
theorem sFWA_tape {Z : Nat → ClassId} {g : Nat → Nat} {pl rg sa aa al : Nat} {N : M2} {V : M2} {E : M2} {i : Int32} {x : Int32} (hC : CallFix p m c cc nL s args lw_g own) (hK : va_K D vwCl (tysG Z) s) (hT : TS vwCl D (FWA Z g pl rg sa aa al N V E) A H0 H locs) (hi : inb i 2000) (hdg : decode cc pc = .ok (.iastore, 1)) (kk : ∀ (V1 : M2), V1 = up2 V 221 (upd (V 221) i.toInt.toNat x) → ∀ (H1 : Heap) (locs1 : List Loc), TS vwCl D (FWA Z g pl rg sa aa al N V1 E) A H0 H1 locs1 → W p l e R s m args below meth c H1 locs1 cells slots Q (F0 m (pc + 1) ls rest)) : W p l e R s m args below meth c H locs cells slots Q (F0 m pc ls (.int x :: .int i :: .ref (g 221) :: rest)) :=
  w_iast (q0 := 1) (ws' := (FWA Z g pl rg sa aa al N (up2 V 221 (upd (V 221) i.toInt.toNat x)) E)) hC hK hT rfl hi rfl hdg (fun H1 locs1 hT1 => kk _ rfl H1 locs1 hT1)
theorem gNQW_st_3 {Z : Nat → ClassId} {a q g : Nat → Nat} {rg aa : Nat} {P : M2} {S : M2} {N : M2} (hC : CallFix p m c cc nL s args lw_g own) (hN : NW s) (hK : va_K D vwCl (tysG Z) s) (hP : va_P D vwCl (QW Z a q g rg aa P S N) H) (hl : Cond.fieldLinkNest own index RX7 "breath" "[I" host ∈ lw_n) (hdg : decode cc pc = .ok (.getfield index, 3)) (kk : W p l e R s m args below meth c H locs cells slots Q (F0 m (pc + 3) ls (.ref (a 203) :: rest))) : W p l e R s m args below meth c H locs cells slots Q (F0 m pc ls (.ref (a 200) :: rest)) :=
  w_getN (C := RX7) (T := TX7) (N := 15) (ci := 7) (q0 := 0) (k := 3) hC hN hK hP fi_X7 rfl rfl rfl (by decide) rfl hl hdg kk
theorem rowAt_QA8 {Z : Nat → ClassId} {a q g : Nat → Nat} {rg aa : Nat} {al : Nat} {P : M2} {S : M2} {N : M2} {E : M2} {j : Nat} (hj : j < 8) : (QA8 Z a q g rg aa al P S N E)[32 + j]? = some (q (310 + j), .inl (Z 0, 2, .inl (P (310 + j)))) := by
  match j, hj with
  | 0, _ => rfl
  | 1, _ => rfl
  | 2, _ => rfl
  | 3, _ => rfl
  | 4, _ => rfl
  | 5, _ => rfl
  | 6, _ => rfl
  | 7, _ => rfl
theorem wrn_QA8 {Z : Nat → ClassId} {a q g : Nat → Nat} {rg aa : Nat} {al : Nat} {P : M2} {S : M2} {N : M2} {E : M2} {i : Int32} (hC : CallFix p m c cc nL s args lw_g own) (hK : va_K D vwCl (tysG Z) s) (hP : va_P D vwCl (QA8 Z a q g rg aa al P S N E) H) (hi : inb i 8) (hdg : decode cc pc = .ok (.arraylength, 1)) (kk : W p l e R s m args below meth c H locs cells slots Q (F0 m (pc + 1) ls (.int (Int32.ofNat 2) :: rest))) : W p l e R s m args below meth c H locs cells slots Q (F0 m pc ls (.ref (q (310 + i.toInt.toNat)) :: rest)) :=
  w_alen (q0 := 32 + i.toInt.toNat) (t0 := 0) hC hK hP (rowAt_QA8 (by omega)) rfl hdg kk
theorem wrl_QA8 {Z : Nat → ClassId} {a q g : Nat → Nat} {rg aa : Nat} {al : Nat} {P : M2} {S : M2} {N : M2} {E : M2} {i j : Int32} (hC : CallFix p m c cc nL s args lw_g own) (hK : va_K D vwCl (tysG Z) s) (hP : va_P D vwCl (QA8 Z a q g rg aa al P S N E) H) (hi : inb i 8) (hj : inb j 2) (hdg : decode cc pc = .ok (.iaload, 1)) (kk : W p l e R s m args below meth c H locs cells slots Q (F0 m (pc + 1) ls (.int (P (310 + i.toInt.toNat) j.toInt.toNat) :: rest))) : W p l e R s m args below meth c H locs cells slots Q (F0 m pc ls (.int j :: .ref (q (310 + i.toInt.toNat)) :: rest)) :=
  w_iald (q0 := 32 + i.toInt.toNat) hC hK hP (rowAt_QA8 (by omega)) hj hdg kk
theorem rowAt_QA7 {Z : Nat → ClassId} {a q g : Nat → Nat} {rg aa : Nat} {al : Nat} {P : M2} {S : M2} {N : M2} {E : M2} {j : Nat} (hj : j < 8) : (QA7 Z a q g rg aa al P S N E)[32 + j]? = some (q (310 + j), .inl (Z 0, 2, .inl (P (310 + j)))) := by
  match j, hj with
  | 0, _ => rfl
  | 1, _ => rfl
  | 2, _ => rfl
  | 3, _ => rfl
  | 4, _ => rfl
  | 5, _ => rfl
  | 6, _ => rfl
  | 7, _ => rfl
theorem wrn_QA7 {Z : Nat → ClassId} {a q g : Nat → Nat} {rg aa : Nat} {al : Nat} {P : M2} {S : M2} {N : M2} {E : M2} {i : Int32} (hC : CallFix p m c cc nL s args lw_g own) (hK : va_K D vwCl (tysG Z) s) (hP : va_P D vwCl (QA7 Z a q g rg aa al P S N E) H) (hi : inb i 8) (hdg : decode cc pc = .ok (.arraylength, 1)) (kk : W p l e R s m args below meth c H locs cells slots Q (F0 m (pc + 1) ls (.int (Int32.ofNat 2) :: rest))) : W p l e R s m args below meth c H locs cells slots Q (F0 m pc ls (.ref (q (310 + i.toInt.toNat)) :: rest)) :=
  w_alen (q0 := 32 + i.toInt.toNat) (t0 := 0) hC hK hP (rowAt_QA7 (by omega)) rfl hdg kk
theorem wrl_QA7 {Z : Nat → ClassId} {a q g : Nat → Nat} {rg aa : Nat} {al : Nat} {P : M2} {S : M2} {N : M2} {E : M2} {i j : Int32} (hC : CallFix p m c cc nL s args lw_g own) (hK : va_K D vwCl (tysG Z) s) (hP : va_P D vwCl (QA7 Z a q g rg aa al P S N E) H) (hi : inb i 8) (hj : inb j 2) (hdg : decode cc pc = .ok (.iaload, 1)) (kk : W p l e R s m args below meth c H locs cells slots Q (F0 m (pc + 1) ls (.int (P (310 + i.toInt.toNat) j.toInt.toNat) :: rest))) : W p l e R s m args below meth c H locs cells slots Q (F0 m pc ls (.int j :: .ref (q (310 + i.toInt.toNat)) :: rest)) :=
  w_iald (q0 := 32 + i.toInt.toNat) hC hK hP (rowAt_QA7 (by omega)) hj hdg kk
end ROWSQA
set_option maxRecDepth 100000 in
theorem sx_QWQA8 (Z : Nat → ClassId) (a q g : Nat → Nat) (rg aa : Nat) (al : Nat) (P : M2) (S : M2) (N : M2) (E : M2) : ([0, 1, 2, 3, 4, 5, 6, 7, 8, 9, 10, 11, 12, 13, 14, 15, 16, 17, 18, 19, 20, 21, 22, 23, 24, 25, 26, 27, 28, 29, 30, 31, 32, 33, 34, 35, 36, 37, 38, 39] : List Nat).map (fun i => (QA8 Z a q g rg aa al P S N E)[i]?) = (QW Z a q g rg aa P S N).map some := rfl
set_option maxRecDepth 100000 in
theorem sx_SWQA8 (Z : Nat → ClassId) (a q g : Nat → Nat) (rg aa : Nat) (al : Nat) (P : M2) (S : M2) (N : M2) (E : M2) : ([0, 1, 2, 3, 4, 5, 6, 7, 8, 9, 10, 11, 12, 13, 14, 15, 16, 17, 18, 19, 20, 21, 22, 23, 24, 25, 26, 27, 28, 29, 30, 31, 32, 33, 34, 35, 36, 37, 38, 39] : List Nat).map (fun i => (QA8 Z a q g rg aa al P S N E)[i]?) = (SW Z a q g rg (a 200) aa N P S).map some := rfl
set_option maxRecDepth 100000 in
theorem sx_EWQA8 (Z : Nat → ClassId) (a q g : Nat → Nat) (rg aa : Nat) (al : Nat) (P : M2) (S : M2) (N : M2) (E : M2) : ([] : List Nat).map (fun i => (QA8 Z a q g rg aa al P S N E)[i]?) = (EW Z).map some := rfl
set_option maxRecDepth 100000 in
theorem sx_QWQA7 (Z : Nat → ClassId) (a q g : Nat → Nat) (rg aa : Nat) (al : Nat) (P : M2) (S : M2) (N : M2) (E : M2) : ([0, 1, 2, 3, 4, 5, 6, 7, 8, 9, 10, 11, 12, 13, 14, 15, 16, 17, 18, 19, 20, 21, 22, 23, 24, 25, 26, 27, 28, 29, 30, 31, 32, 33, 34, 35, 36, 37, 38, 39] : List Nat).map (fun i => (QA7 Z a q g rg aa al P S N E)[i]?) = (QW Z a q g rg aa P S N).map some := rfl
set_option maxRecDepth 100000 in
theorem sx_SWQA7 (Z : Nat → ClassId) (a q g : Nat → Nat) (rg aa : Nat) (al : Nat) (P : M2) (S : M2) (N : M2) (E : M2) : ([0, 1, 2, 3, 4, 5, 6, 7, 8, 9, 10, 11, 12, 13, 14, 15, 16, 17, 18, 19, 20, 21, 22, 23, 24, 25, 26, 27, 28, 29, 30, 31, 32, 33, 34, 35, 36, 37, 38, 39] : List Nat).map (fun i => (QA7 Z a q g rg aa al P S N E)[i]?) = (SW Z a q g rg (a 200) aa N P S).map some := rfl
set_option maxRecDepth 100000 in
theorem sx_EWQA7 (Z : Nat → ClassId) (a q g : Nat → Nat) (rg aa : Nat) (al : Nat) (P : M2) (S : M2) (N : M2) (E : M2) : ([] : List Nat).map (fun i => (QA7 Z a q g rg aa al P S N E)[i]?) = (EW Z).map some := rfl
section LX7_boatOf0x
variable {p : Program} {l : Launch} {e : Env} {s : State} {m : MethodId} {args : Array Value} {below : List Frame} {meth : Method} {c : Code} {H H0 : Heap} {locs : List Loc} {cells slots : Nat} {Q : State → Prop} {R : Room} {rn mcR msR : Nat}
variable {pc : Nat} {ls : Array Slot} {rest : List Value} {A : Nat → Prop} {D : va_G}
variable {cc : ByteArray} {nL index : Nat} {own host : String}
theorem kx_X7_boatOf {Z : Nat → ClassId} {a q g : Nat → Nat} {rg sa aa : Nat} {N P : M2} {S : M2} {x1 : Int32} {K : Int32 → Prop} {ws : va_W} {isC : List Nat} (hC : CallFix p m c cc nL s args lw_g own) (hN : NW s) (hK : va_K D vwCl (tysG Z) s) (hP : va_P D vwCl ws H) (hD : va_D (fun _ => True) ws) (hs : isC.map (fun i => ws[i]?) = (SW Z a q g rg sa aa N P S).map some) (hnd : va_nd isC = true) (hm : wp_X7_boatOf N P S x1 K) (hl : Cond.methodLink own index yX7_boatOf ∈ lw_g) (hlt : 1 < rn) (hsize : ls.size = nL) (hW : (rest.map fun v => v.category).sum ≤ 8) (hf : cells + 0 ≤ mcR ∧ slots + 0 ≤ msR) (hdg : decode cc pc = .ok (.invokevirtual index, 3)) (kk : ∀ r : Int32, K r → W p l e (rk rn mcR msR) s m args below meth c H locs cells slots Q (F0 m (pc + 3) ls (.int r :: rest))) : W p l e (rk rn mcR msR) s m args below meth c H locs cells slots Q (F0 m pc ls (.int x1 :: .ref (a 200) :: rest)) :=
  ro_go (runV (As := [.int x1]) hC hN (c_X7_boatOf l D Z a q g rg sa aa N P S H.size x1 K hm) mi_X7_boatOf hl wq_1782 wq_1783 hlt (hP.sub isC (map_fm hs)) (hD.sub isC hnd hs) hK (q0 := 0) rfl rfl rfl hsize rfl hW hdg hf) kk
end LX7_boatOf0x
theorem dX8_counted_0 : decode cX8_counted 0 = .ok (.iload_n 1, 1) := by decide +kernel
theorem dX8_counted_1 : decode cX8_counted 1 = .ok (.bipush 8, 2) := by decide +kernel
theorem dX8_counted_3 : decode cX8_counted 3 = .ok (.bipush 12, 2) := by decide +kernel
theorem dX8_counted_5 : decode cX8_counted 5 = .ok (.invokestatic 63, 3) := by decide +kernel
theorem dX8_counted_8 : decode cX8_counted 8 = .ok (.ifCond .eq 12, 3) := by decide +kernel
theorem dX8_counted_11 : decode cX8_counted 11 = .ok (.aload_n 0, 1) := by decide +kernel
theorem dX8_counted_12 : decode cX8_counted 12 = .ok (.getfield 47, 3) := by decide +kernel
theorem dX8_counted_15 : decode cX8_counted 15 = .ok (.iload_n 1, 1) := by decide +kernel
theorem dX8_counted_16 : decode cX8_counted 16 = .ok (.invokevirtual 318, 3) := by decide +kernel
theorem dX8_counted_19 : decode cX8_counted 19 = .ok (.ireturn, 1) := by decide +kernel
theorem dX8_counted_20 : decode cX8_counted 20 = .ok (.bipush 8, 2) := by decide +kernel
theorem dX8_counted_22 : decode cX8_counted 22 = .ok (.newarray .int, 2) := by decide +kernel
theorem dX8_counted_24 : decode cX8_counted 24 = .ok (.dup, 1) := by decide +kernel
theorem dX8_counted_25 : decode cX8_counted 25 = .ok (.iconst 0, 1) := by decide +kernel
theorem dX8_counted_26 : decode cX8_counted 26 = .ok (.aload_n 0, 1) := by decide +kernel
theorem dX8_counted_27 : decode cX8_counted 27 = .ok (.getfield 47, 3) := by decide +kernel
theorem dX8_counted_30 : decode cX8_counted 30 = .ok (.getfield 321, 3) := by decide +kernel
theorem dX8_counted_33 : decode cX8_counted 33 = .ok (.iastore, 1) := by decide +kernel
theorem dX8_counted_34 : decode cX8_counted 34 = .ok (.dup, 1) := by decide +kernel
theorem dX8_counted_35 : decode cX8_counted 35 = .ok (.iconst 1, 1) := by decide +kernel
theorem dX8_counted_36 : decode cX8_counted 36 = .ok (.aload_n 0, 1) := by decide +kernel
theorem dX8_counted_37 : decode cX8_counted 37 = .ok (.getfield 47, 3) := by decide +kernel
theorem dX8_counted_40 : decode cX8_counted 40 = .ok (.getfield 324, 3) := by decide +kernel
theorem dX8_counted_43 : decode cX8_counted 43 = .ok (.iastore, 1) := by decide +kernel
theorem dX8_counted_44 : decode cX8_counted 44 = .ok (.dup, 1) := by decide +kernel
theorem dX8_counted_45 : decode cX8_counted 45 = .ok (.iconst 2, 1) := by decide +kernel
theorem dX8_counted_46 : decode cX8_counted 46 = .ok (.aload_n 0, 1) := by decide +kernel
theorem dX8_counted_47 : decode cX8_counted 47 = .ok (.getfield 35, 3) := by decide +kernel
theorem dX8_counted_50 : decode cX8_counted 50 = .ok (.getfield 67, 3) := by decide +kernel
theorem dX8_counted_53 : decode cX8_counted 53 = .ok (.iastore, 1) := by decide +kernel
theorem dX8_counted_54 : decode cX8_counted 54 = .ok (.dup, 1) := by decide +kernel
theorem dX8_counted_55 : decode cX8_counted 55 = .ok (.iconst 3, 1) := by decide +kernel
theorem dX8_counted_56 : decode cX8_counted 56 = .ok (.aload_n 0, 1) := by decide +kernel
theorem dX8_counted_57 : decode cX8_counted 57 = .ok (.getfield 35, 3) := by decide +kernel
theorem dX8_counted_60 : decode cX8_counted 60 = .ok (.getfield 60, 3) := by decide +kernel
theorem dX8_counted_63 : decode cX8_counted 63 = .ok (.iastore, 1) := by decide +kernel
theorem dX8_counted_64 : decode cX8_counted 64 = .ok (.dup, 1) := by decide +kernel
theorem dX8_counted_65 : decode cX8_counted 65 = .ok (.iconst 4, 1) := by decide +kernel
theorem dX8_counted_66 : decode cX8_counted 66 = .ok (.aload_n 0, 1) := by decide +kernel
theorem dX8_counted_67 : decode cX8_counted 67 = .ok (.getfield 35, 3) := by decide +kernel
theorem dX8_counted_70 : decode cX8_counted 70 = .ok (.getfield 246, 3) := by decide +kernel
theorem dX8_counted_73 : decode cX8_counted 73 = .ok (.iastore, 1) := by decide +kernel
theorem dX8_counted_74 : decode cX8_counted 74 = .ok (.dup, 1) := by decide +kernel
theorem dX8_counted_75 : decode cX8_counted 75 = .ok (.iconst 5, 1) := by decide +kernel
theorem dX8_counted_76 : decode cX8_counted 76 = .ok (.aload_n 0, 1) := by decide +kernel
theorem dX8_counted_77 : decode cX8_counted 77 = .ok (.getfield 35, 3) := by decide +kernel
theorem dX8_counted_80 : decode cX8_counted 80 = .ok (.getfield 70, 3) := by decide +kernel
theorem dX8_counted_83 : decode cX8_counted 83 = .ok (.iastore, 1) := by decide +kernel
theorem dX8_counted_84 : decode cX8_counted 84 = .ok (.dup, 1) := by decide +kernel
theorem dX8_counted_85 : decode cX8_counted 85 = .ok (.bipush 6, 2) := by decide +kernel
theorem dX8_counted_87 : decode cX8_counted 87 = .ok (.aload_n 0, 1) := by decide +kernel
theorem dX8_counted_88 : decode cX8_counted 88 = .ok (.getfield 35, 3) := by decide +kernel
theorem dX8_counted_91 : decode cX8_counted 91 = .ok (.getfield 73, 3) := by decide +kernel
theorem dX8_counted_94 : decode cX8_counted 94 = .ok (.iastore, 1) := by decide +kernel
theorem dX8_counted_95 : decode cX8_counted 95 = .ok (.dup, 1) := by decide +kernel
theorem dX8_counted_96 : decode cX8_counted 96 = .ok (.bipush 7, 2) := by decide +kernel
theorem dX8_counted_98 : decode cX8_counted 98 = .ok (.aload_n 0, 1) := by decide +kernel
theorem dX8_counted_99 : decode cX8_counted 99 = .ok (.getfield 35, 3) := by decide +kernel
theorem dX8_counted_102 : decode cX8_counted 102 = .ok (.getfield 229, 3) := by decide +kernel
theorem dX8_counted_105 : decode cX8_counted 105 = .ok (.iastore, 1) := by decide +kernel
theorem dX8_counted_106 : decode cX8_counted 106 = .ok (.astore_n 2, 1) := by decide +kernel
theorem dX8_counted_107 : decode cX8_counted 107 = .ok (.iload_n 1, 1) := by decide +kernel
theorem dX8_counted_108 : decode cX8_counted 108 = .ok (.bipush 8, 2) := by decide +kernel
theorem dX8_counted_110 : decode cX8_counted 110 = .ok (.if_icmp .ge 9, 3) := by decide +kernel
theorem dX8_counted_113 : decode cX8_counted 113 = .ok (.aload_n 2, 1) := by decide +kernel
theorem dX8_counted_114 : decode cX8_counted 114 = .ok (.iload_n 1, 1) := by decide +kernel
theorem dX8_counted_115 : decode cX8_counted 115 = .ok (.iaload, 1) := by decide +kernel
theorem dX8_counted_116 : decode cX8_counted 116 = .ok (.goto 7, 3) := by decide +kernel
theorem dX8_counted_119 : decode cX8_counted 119 = .ok (.aload_n 0, 1) := by decide +kernel
theorem dX8_counted_120 : decode cX8_counted 120 = .ok (.getfield 89, 3) := by decide +kernel
theorem dX8_counted_123 : decode cX8_counted 123 = .ok (.ireturn, 1) := by decide +kernel
theorem dX8_leggerTold_0 : decode cX8_leggerTold 0 = .ok (.bipush 7, 2) := by decide +kernel
theorem dX8_leggerTold_2 : decode cX8_leggerTold 2 = .ok (.newarray .int, 2) := by decide +kernel
theorem dX8_leggerTold_4 : decode cX8_leggerTold 4 = .ok (.dup, 1) := by decide +kernel
theorem dX8_leggerTold_5 : decode cX8_leggerTold 5 = .ok (.iconst 0, 1) := by decide +kernel
theorem dX8_leggerTold_6 : decode cX8_leggerTold 6 = .ok (.aload_n 0, 1) := by decide +kernel
theorem dX8_leggerTold_7 : decode cX8_leggerTold 7 = .ok (.getfield 35, 3) := by decide +kernel
theorem dX8_leggerTold_10 : decode cX8_leggerTold 10 = .ok (.getfield 291, 3) := by decide +kernel
theorem dX8_leggerTold_13 : decode cX8_leggerTold 13 = .ok (.iload_n 1, 1) := by decide +kernel
theorem dX8_leggerTold_14 : decode cX8_leggerTold 14 = .ok (.iaload, 1) := by decide +kernel
theorem dX8_leggerTold_15 : decode cX8_leggerTold 15 = .ok (.iastore, 1) := by decide +kernel
theorem dX8_leggerTold_16 : decode cX8_leggerTold 16 = .ok (.dup, 1) := by decide +kernel
theorem dX8_leggerTold_17 : decode cX8_leggerTold 17 = .ok (.iconst 1, 1) := by decide +kernel
theorem dX8_leggerTold_18 : decode cX8_leggerTold 18 = .ok (.aload_n 0, 1) := by decide +kernel
theorem dX8_leggerTold_19 : decode cX8_leggerTold 19 = .ok (.getfield 35, 3) := by decide +kernel
theorem dX8_leggerTold_22 : decode cX8_leggerTold 22 = .ok (.getfield 294, 3) := by decide +kernel
theorem dX8_leggerTold_25 : decode cX8_leggerTold 25 = .ok (.iload_n 1, 1) := by decide +kernel
theorem dX8_leggerTold_26 : decode cX8_leggerTold 26 = .ok (.iaload, 1) := by decide +kernel
theorem dX8_leggerTold_27 : decode cX8_leggerTold 27 = .ok (.iastore, 1) := by decide +kernel
theorem dX8_leggerTold_28 : decode cX8_leggerTold 28 = .ok (.dup, 1) := by decide +kernel
theorem dX8_leggerTold_29 : decode cX8_leggerTold 29 = .ok (.iconst 2, 1) := by decide +kernel
theorem dX8_leggerTold_30 : decode cX8_leggerTold 30 = .ok (.aload_n 0, 1) := by decide +kernel
theorem dX8_leggerTold_31 : decode cX8_leggerTold 31 = .ok (.getfield 47, 3) := by decide +kernel
theorem dX8_leggerTold_34 : decode cX8_leggerTold 34 = .ok (.getfield 349, 3) := by decide +kernel
theorem dX8_leggerTold_37 : decode cX8_leggerTold 37 = .ok (.iload_n 1, 1) := by decide +kernel
theorem dX8_leggerTold_38 : decode cX8_leggerTold 38 = .ok (.iaload, 1) := by decide +kernel
theorem dX8_leggerTold_39 : decode cX8_leggerTold 39 = .ok (.iastore, 1) := by decide +kernel
theorem dX8_leggerTold_40 : decode cX8_leggerTold 40 = .ok (.dup, 1) := by decide +kernel
theorem dX8_leggerTold_41 : decode cX8_leggerTold 41 = .ok (.iconst 3, 1) := by decide +kernel
theorem dX8_leggerTold_42 : decode cX8_leggerTold 42 = .ok (.aload_n 0, 1) := by decide +kernel
theorem dX8_leggerTold_43 : decode cX8_leggerTold 43 = .ok (.getfield 47, 3) := by decide +kernel
theorem dX8_leggerTold_46 : decode cX8_leggerTold 46 = .ok (.getfield 352, 3) := by decide +kernel
theorem dX8_leggerTold_49 : decode cX8_leggerTold 49 = .ok (.iload_n 1, 1) := by decide +kernel
theorem dX8_leggerTold_50 : decode cX8_leggerTold 50 = .ok (.iaload, 1) := by decide +kernel
theorem dX8_leggerTold_51 : decode cX8_leggerTold 51 = .ok (.iconst (-1), 1) := by decide +kernel
theorem dX8_leggerTold_52 : decode cX8_leggerTold 52 = .ok (.if_icmp .ne 7, 3) := by decide +kernel
theorem dX8_leggerTold_55 : decode cX8_leggerTold 55 = .ok (.iconst 1, 1) := by decide +kernel
theorem dX8_leggerTold_56 : decode cX8_leggerTold 56 = .ok (.goto 4, 3) := by decide +kernel
theorem dX8_leggerTold_59 : decode cX8_leggerTold 59 = .ok (.iconst 0, 1) := by decide +kernel
theorem dX8_leggerTold_60 : decode cX8_leggerTold 60 = .ok (.iastore, 1) := by decide +kernel
theorem dX8_leggerTold_61 : decode cX8_leggerTold 61 = .ok (.dup, 1) := by decide +kernel
theorem dX8_leggerTold_62 : decode cX8_leggerTold 62 = .ok (.iconst 4, 1) := by decide +kernel
theorem dX8_leggerTold_63 : decode cX8_leggerTold 63 = .ok (.aload_n 0, 1) := by decide +kernel
theorem dX8_leggerTold_64 : decode cX8_leggerTold 64 = .ok (.getfield 47, 3) := by decide +kernel
theorem dX8_leggerTold_67 : decode cX8_leggerTold 67 = .ok (.iload_n 1, 1) := by decide +kernel
theorem dX8_leggerTold_68 : decode cX8_leggerTold 68 = .ok (.invokevirtual 355, 3) := by decide +kernel
theorem dX8_leggerTold_71 : decode cX8_leggerTold 71 = .ok (.iastore, 1) := by decide +kernel
theorem dX8_leggerTold_72 : decode cX8_leggerTold 72 = .ok (.dup, 1) := by decide +kernel
theorem dX8_leggerTold_73 : decode cX8_leggerTold 73 = .ok (.iconst 5, 1) := by decide +kernel
theorem dX8_leggerTold_74 : decode cX8_leggerTold 74 = .ok (.aload_n 0, 1) := by decide +kernel
theorem dX8_leggerTold_75 : decode cX8_leggerTold 75 = .ok (.getfield 47, 3) := by decide +kernel
theorem dX8_leggerTold_78 : decode cX8_leggerTold 78 = .ok (.getfield 358, 3) := by decide +kernel
theorem dX8_leggerTold_81 : decode cX8_leggerTold 81 = .ok (.iload_n 1, 1) := by decide +kernel
theorem dX8_leggerTold_82 : decode cX8_leggerTold 82 = .ok (.iaload, 1) := by decide +kernel
theorem dX8_leggerTold_83 : decode cX8_leggerTold 83 = .ok (.iastore, 1) := by decide +kernel
theorem dX8_leggerTold_84 : decode cX8_leggerTold 84 = .ok (.dup, 1) := by decide +kernel
theorem dX8_leggerTold_85 : decode cX8_leggerTold 85 = .ok (.bipush 6, 2) := by decide +kernel
theorem dX8_leggerTold_87 : decode cX8_leggerTold 87 = .ok (.aload_n 0, 1) := by decide +kernel
theorem dX8_leggerTold_88 : decode cX8_leggerTold 88 = .ok (.getfield 47, 3) := by decide +kernel
theorem dX8_leggerTold_91 : decode cX8_leggerTold 91 = .ok (.getfield 352, 3) := by decide +kernel
theorem dX8_leggerTold_94 : decode cX8_leggerTold 94 = .ok (.iload_n 1, 1) := by decide +kernel
theorem dX8_leggerTold_95 : decode cX8_leggerTold 95 = .ok (.iaload, 1) := by decide +kernel
theorem dX8_leggerTold_96 : decode cX8_leggerTold 96 = .ok (.iastore, 1) := by decide +kernel
theorem dX8_leggerTold_97 : decode cX8_leggerTold 97 = .ok (.astore_n 3, 1) := by decide +kernel
theorem dX8_leggerTold_98 : decode cX8_leggerTold 98 = .ok (.aload_n 3, 1) := by decide +kernel
theorem dX8_leggerTold_99 : decode cX8_leggerTold 99 = .ok (.iload_n 2, 1) := by decide +kernel
theorem dX8_leggerTold_100 : decode cX8_leggerTold 100 = .ok (.iaload, 1) := by decide +kernel
theorem dX8_leggerTold_101 : decode cX8_leggerTold 101 = .ok (.ireturn, 1) := by decide +kernel
theorem dX8_boatTold_0 : decode cX8_boatTold 0 = .ok (.bipush 7, 2) := by decide +kernel
theorem dX8_boatTold_2 : decode cX8_boatTold 2 = .ok (.newarray .int, 2) := by decide +kernel
theorem dX8_boatTold_4 : decode cX8_boatTold 4 = .ok (.dup, 1) := by decide +kernel
theorem dX8_boatTold_5 : decode cX8_boatTold 5 = .ok (.iconst 0, 1) := by decide +kernel
theorem dX8_boatTold_6 : decode cX8_boatTold 6 = .ok (.aload_n 0, 1) := by decide +kernel
theorem dX8_boatTold_7 : decode cX8_boatTold 7 = .ok (.getfield 35, 3) := by decide +kernel
theorem dX8_boatTold_10 : decode cX8_boatTold 10 = .ok (.getfield 297, 3) := by decide +kernel
theorem dX8_boatTold_13 : decode cX8_boatTold 13 = .ok (.iload_n 1, 1) := by decide +kernel
theorem dX8_boatTold_14 : decode cX8_boatTold 14 = .ok (.iaload, 1) := by decide +kernel
theorem dX8_boatTold_15 : decode cX8_boatTold 15 = .ok (.iastore, 1) := by decide +kernel
theorem dX8_boatTold_16 : decode cX8_boatTold 16 = .ok (.dup, 1) := by decide +kernel
theorem dX8_boatTold_17 : decode cX8_boatTold 17 = .ok (.iconst 1, 1) := by decide +kernel
theorem dX8_boatTold_18 : decode cX8_boatTold 18 = .ok (.aload_n 0, 1) := by decide +kernel
theorem dX8_boatTold_19 : decode cX8_boatTold 19 = .ok (.getfield 47, 3) := by decide +kernel
theorem dX8_boatTold_22 : decode cX8_boatTold 22 = .ok (.getfield 367, 3) := by decide +kernel
theorem dX8_boatTold_25 : decode cX8_boatTold 25 = .ok (.iload_n 1, 1) := by decide +kernel
theorem dX8_boatTold_26 : decode cX8_boatTold 26 = .ok (.iaload, 1) := by decide +kernel
theorem dX8_boatTold_27 : decode cX8_boatTold 27 = .ok (.iastore, 1) := by decide +kernel
theorem dX8_boatTold_28 : decode cX8_boatTold 28 = .ok (.dup, 1) := by decide +kernel
theorem dX8_boatTold_29 : decode cX8_boatTold 29 = .ok (.iconst 2, 1) := by decide +kernel
theorem dX8_boatTold_30 : decode cX8_boatTold 30 = .ok (.aload_n 0, 1) := by decide +kernel
theorem dX8_boatTold_31 : decode cX8_boatTold 31 = .ok (.getfield 47, 3) := by decide +kernel
theorem dX8_boatTold_34 : decode cX8_boatTold 34 = .ok (.getfield 368, 3) := by decide +kernel
theorem dX8_boatTold_37 : decode cX8_boatTold 37 = .ok (.iload_n 1, 1) := by decide +kernel
theorem dX8_boatTold_38 : decode cX8_boatTold 38 = .ok (.iaload, 1) := by decide +kernel
theorem dX8_boatTold_39 : decode cX8_boatTold 39 = .ok (.iastore, 1) := by decide +kernel
theorem dX8_boatTold_40 : decode cX8_boatTold 40 = .ok (.dup, 1) := by decide +kernel
theorem dX8_boatTold_41 : decode cX8_boatTold 41 = .ok (.iconst 3, 1) := by decide +kernel
theorem dX8_boatTold_42 : decode cX8_boatTold 42 = .ok (.aload_n 0, 1) := by decide +kernel
theorem dX8_boatTold_43 : decode cX8_boatTold 43 = .ok (.getfield 47, 3) := by decide +kernel
theorem dX8_boatTold_46 : decode cX8_boatTold 46 = .ok (.getfield 369, 3) := by decide +kernel
theorem dX8_boatTold_49 : decode cX8_boatTold 49 = .ok (.iload_n 1, 1) := by decide +kernel
theorem dX8_boatTold_50 : decode cX8_boatTold 50 = .ok (.iaload, 1) := by decide +kernel
theorem dX8_boatTold_51 : decode cX8_boatTold 51 = .ok (.iastore, 1) := by decide +kernel
theorem dX8_boatTold_52 : decode cX8_boatTold 52 = .ok (.dup, 1) := by decide +kernel
theorem dX8_boatTold_53 : decode cX8_boatTold 53 = .ok (.iconst 4, 1) := by decide +kernel
theorem dX8_boatTold_54 : decode cX8_boatTold 54 = .ok (.aload_n 0, 1) := by decide +kernel
theorem dX8_boatTold_55 : decode cX8_boatTold 55 = .ok (.getfield 47, 3) := by decide +kernel
theorem dX8_boatTold_58 : decode cX8_boatTold 58 = .ok (.getfield 371, 3) := by decide +kernel
theorem dX8_boatTold_61 : decode cX8_boatTold 61 = .ok (.iload_n 1, 1) := by decide +kernel
theorem dX8_boatTold_62 : decode cX8_boatTold 62 = .ok (.iaload, 1) := by decide +kernel
theorem dX8_boatTold_63 : decode cX8_boatTold 63 = .ok (.iastore, 1) := by decide +kernel
theorem dX8_boatTold_64 : decode cX8_boatTold 64 = .ok (.dup, 1) := by decide +kernel
theorem dX8_boatTold_65 : decode cX8_boatTold 65 = .ok (.iconst 5, 1) := by decide +kernel
theorem dX8_boatTold_66 : decode cX8_boatTold 66 = .ok (.aload_n 0, 1) := by decide +kernel
theorem dX8_boatTold_67 : decode cX8_boatTold 67 = .ok (.getfield 47, 3) := by decide +kernel
theorem dX8_boatTold_70 : decode cX8_boatTold 70 = .ok (.getfield 374, 3) := by decide +kernel
theorem dX8_boatTold_73 : decode cX8_boatTold 73 = .ok (.iload_n 1, 1) := by decide +kernel
theorem dX8_boatTold_74 : decode cX8_boatTold 74 = .ok (.iaload, 1) := by decide +kernel
theorem dX8_boatTold_75 : decode cX8_boatTold 75 = .ok (.iastore, 1) := by decide +kernel
theorem dX8_boatTold_76 : decode cX8_boatTold 76 = .ok (.dup, 1) := by decide +kernel
theorem dX8_boatTold_77 : decode cX8_boatTold 77 = .ok (.bipush 6, 2) := by decide +kernel
theorem dX8_boatTold_79 : decode cX8_boatTold 79 = .ok (.aload_n 0, 1) := by decide +kernel
theorem dX8_boatTold_80 : decode cX8_boatTold 80 = .ok (.getfield 47, 3) := by decide +kernel
theorem dX8_boatTold_83 : decode cX8_boatTold 83 = .ok (.getfield 377, 3) := by decide +kernel
theorem dX8_boatTold_86 : decode cX8_boatTold 86 = .ok (.iload_n 1, 1) := by decide +kernel
theorem dX8_boatTold_87 : decode cX8_boatTold 87 = .ok (.iaload, 1) := by decide +kernel
theorem dX8_boatTold_88 : decode cX8_boatTold 88 = .ok (.iastore, 1) := by decide +kernel
theorem dX8_boatTold_89 : decode cX8_boatTold 89 = .ok (.astore_n 3, 1) := by decide +kernel
theorem dX8_boatTold_90 : decode cX8_boatTold 90 = .ok (.aload_n 3, 1) := by decide +kernel
theorem dX8_boatTold_91 : decode cX8_boatTold 91 = .ok (.iload_n 2, 1) := by decide +kernel
theorem dX8_boatTold_92 : decode cX8_boatTold 92 = .ok (.iaload, 1) := by decide +kernel
theorem dX8_boatTold_93 : decode cX8_boatTold 93 = .ok (.ireturn, 1) := by decide +kernel
theorem dX8_count_0 : decode cX8_count 0 = .ok (.aload_n 0, 1) := by decide +kernel
theorem dX8_count_1 : decode cX8_count 1 = .ok (.iconst 0, 1) := by decide +kernel
theorem dX8_count_2 : decode cX8_count 2 = .ok (.putfield 57, 3) := by decide +kernel
theorem dX8_count_5 : decode cX8_count 5 = .ok (.iload_n 1, 1) := by decide +kernel
theorem dX8_count_6 : decode cX8_count 6 = .ok (.iconst 0, 1) := by decide +kernel
theorem dX8_count_7 : decode cX8_count 7 = .ok (.bipush 13, 2) := by decide +kernel
theorem dX8_count_9 : decode cX8_count 9 = .ok (.invokestatic 63, 3) := by decide +kernel
theorem dX8_count_12 : decode cX8_count 12 = .ok (.ifCond .eq 11, 3) := by decide +kernel
theorem dX8_count_15 : decode cX8_count 15 = .ok (.aload_n 0, 1) := by decide +kernel
theorem dX8_count_16 : decode cX8_count 16 = .ok (.iload_n 1, 1) := by decide +kernel
theorem dX8_count_17 : decode cX8_count 17 = .ok (.invokevirtual 327, 3) := by decide +kernel
theorem dX8_count_20 : decode cX8_count 20 = .ok (.goto 8, 3) := by decide +kernel
theorem dX8_count_23 : decode cX8_count 23 = .ok (.aload_n 0, 1) := by decide +kernel
theorem dX8_count_24 : decode cX8_count 24 = .ok (.iconst 1, 1) := by decide +kernel
theorem dX8_count_25 : decode cX8_count 25 = .ok (.invokevirtual 312, 3) := by decide +kernel
theorem dX8_count_28 : decode cX8_count 28 = .ok (.ireturn, 1) := by decide +kernel
theorem dX8_legger_0 : decode cX8_legger 0 = .ok (.aload_n 0, 1) := by decide +kernel
theorem dX8_legger_1 : decode cX8_legger 1 = .ok (.iconst 0, 1) := by decide +kernel
theorem dX8_legger_2 : decode cX8_legger 2 = .ok (.putfield 57, 3) := by decide +kernel
theorem dX8_legger_5 : decode cX8_legger 5 = .ok (.aload_n 0, 1) := by decide +kernel
theorem dX8_legger_6 : decode cX8_legger 6 = .ok (.iload_n 1, 1) := by decide +kernel
theorem dX8_legger_7 : decode cX8_legger 7 = .ok (.invokevirtual 361, 3) := by decide +kernel
theorem dX8_legger_10 : decode cX8_legger 10 = .ok (.ifCond .eq 22, 3) := by decide +kernel
theorem dX8_legger_13 : decode cX8_legger 13 = .ok (.iload_n 2, 1) := by decide +kernel
theorem dX8_legger_14 : decode cX8_legger 14 = .ok (.iconst 0, 1) := by decide +kernel
theorem dX8_legger_15 : decode cX8_legger 15 = .ok (.bipush 6, 2) := by decide +kernel
theorem dX8_legger_17 : decode cX8_legger 17 = .ok (.invokestatic 63, 3) := by decide +kernel
theorem dX8_legger_20 : decode cX8_legger 20 = .ok (.ifCond .eq 12, 3) := by decide +kernel
theorem dX8_legger_23 : decode cX8_legger 23 = .ok (.aload_n 0, 1) := by decide +kernel
theorem dX8_legger_24 : decode cX8_legger 24 = .ok (.iload_n 1, 1) := by decide +kernel
theorem dX8_legger_25 : decode cX8_legger 25 = .ok (.iload_n 2, 1) := by decide +kernel
theorem dX8_legger_26 : decode cX8_legger 26 = .ok (.invokevirtual 364, 3) := by decide +kernel
theorem dX8_legger_29 : decode cX8_legger 29 = .ok (.goto 8, 3) := by decide +kernel
theorem dX8_legger_32 : decode cX8_legger 32 = .ok (.aload_n 0, 1) := by decide +kernel
theorem dX8_legger_33 : decode cX8_legger 33 = .ok (.iconst 1, 1) := by decide +kernel
theorem dX8_legger_34 : decode cX8_legger 34 = .ok (.invokevirtual 312, 3) := by decide +kernel
theorem dX8_legger_37 : decode cX8_legger 37 = .ok (.ireturn, 1) := by decide +kernel
theorem dX8_boat_0 : decode cX8_boat 0 = .ok (.aload_n 0, 1) := by decide +kernel
theorem dX8_boat_1 : decode cX8_boat 1 = .ok (.iconst 0, 1) := by decide +kernel
theorem dX8_boat_2 : decode cX8_boat 2 = .ok (.putfield 57, 3) := by decide +kernel
theorem dX8_boat_5 : decode cX8_boat 5 = .ok (.aload_n 0, 1) := by decide +kernel
theorem dX8_boat_6 : decode cX8_boat 6 = .ok (.iload_n 1, 1) := by decide +kernel
theorem dX8_boat_7 : decode cX8_boat 7 = .ok (.invokevirtual 380, 3) := by decide +kernel
theorem dX8_boat_10 : decode cX8_boat 10 = .ok (.ifCond .eq 22, 3) := by decide +kernel
theorem dX8_boat_13 : decode cX8_boat 13 = .ok (.iload_n 2, 1) := by decide +kernel
theorem dX8_boat_14 : decode cX8_boat 14 = .ok (.iconst 0, 1) := by decide +kernel
theorem dX8_boat_15 : decode cX8_boat 15 = .ok (.bipush 6, 2) := by decide +kernel
theorem dX8_boat_17 : decode cX8_boat 17 = .ok (.invokestatic 63, 3) := by decide +kernel
theorem dX8_boat_20 : decode cX8_boat 20 = .ok (.ifCond .eq 12, 3) := by decide +kernel
theorem dX8_boat_23 : decode cX8_boat 23 = .ok (.aload_n 0, 1) := by decide +kernel
theorem dX8_boat_24 : decode cX8_boat 24 = .ok (.iload_n 1, 1) := by decide +kernel
theorem dX8_boat_25 : decode cX8_boat 25 = .ok (.iload_n 2, 1) := by decide +kernel
theorem dX8_boat_26 : decode cX8_boat 26 = .ok (.invokevirtual 383, 3) := by decide +kernel
theorem dX8_boat_29 : decode cX8_boat 29 = .ok (.goto 8, 3) := by decide +kernel
theorem dX8_boat_32 : decode cX8_boat 32 = .ok (.aload_n 0, 1) := by decide +kernel
theorem dX8_boat_33 : decode cX8_boat 33 = .ok (.iconst 1, 1) := by decide +kernel
theorem dX8_boat_34 : decode cX8_boat 34 = .ok (.invokevirtual 312, 3) := by decide +kernel
theorem dX8_boat_37 : decode cX8_boat 37 = .ok (.ireturn, 1) := by decide +kernel
theorem dX8_mean_0 : decode cX8_mean 0 = .ok (.aload_n 0, 1) := by decide +kernel
theorem dX8_mean_1 : decode cX8_mean 1 = .ok (.iconst 0, 1) := by decide +kernel
theorem dX8_mean_2 : decode cX8_mean 2 = .ok (.putfield 57, 3) := by decide +kernel
theorem dX8_mean_5 : decode cX8_mean 5 = .ok (.iconst 0, 1) := by decide +kernel
theorem dX8_mean_6 : decode cX8_mean 6 = .ok (.istore_n 1, 1) := by decide +kernel
theorem dX8_mean_7 : decode cX8_mean 7 = .ok (.iconst 0, 1) := by decide +kernel
theorem dX8_mean_8 : decode cX8_mean 8 = .ok (.istore_n 2, 1) := by decide +kernel
theorem dX8_mean_9 : decode cX8_mean 9 = .ok (.iload_n 2, 1) := by decide +kernel
theorem dX8_mean_10 : decode cX8_mean 10 = .ok (.aload_n 0, 1) := by decide +kernel
theorem dX8_mean_11 : decode cX8_mean 11 = .ok (.getfield 35, 3) := by decide +kernel
theorem dX8_mean_14 : decode cX8_mean 14 = .ok (.getfield 70, 3) := by decide +kernel
theorem dX8_mean_17 : decode cX8_mean 17 = .ok (.if_icmp .ge 21, 3) := by decide +kernel
theorem dX8_mean_20 : decode cX8_mean 20 = .ok (.iload_n 1, 1) := by decide +kernel
theorem dX8_mean_21 : decode cX8_mean 21 = .ok (.aload_n 0, 1) := by decide +kernel
theorem dX8_mean_22 : decode cX8_mean 22 = .ok (.getfield 47, 3) := by decide +kernel
theorem dX8_mean_25 : decode cX8_mean 25 = .ok (.getfield 349, 3) := by decide +kernel
theorem dX8_mean_28 : decode cX8_mean 28 = .ok (.iload_n 2, 1) := by decide +kernel
theorem dX8_mean_29 : decode cX8_mean 29 = .ok (.iaload, 1) := by decide +kernel
theorem dX8_mean_30 : decode cX8_mean 30 = .ok (.iadd, 1) := by decide +kernel
theorem dX8_mean_31 : decode cX8_mean 31 = .ok (.istore_n 1, 1) := by decide +kernel
theorem dX8_mean_32 : decode cX8_mean 32 = .ok (.iinc 2 1, 3) := by decide +kernel
theorem dX8_mean_35 : decode cX8_mean 35 = .ok (.goto (-26), 3) := by decide +kernel
theorem dX8_mean_38 : decode cX8_mean 38 = .ok (.aload_n 0, 1) := by decide +kernel
theorem dX8_mean_39 : decode cX8_mean 39 = .ok (.getfield 35, 3) := by decide +kernel
theorem dX8_mean_42 : decode cX8_mean 42 = .ok (.getfield 70, 3) := by decide +kernel
theorem dX8_mean_45 : decode cX8_mean 45 = .ok (.ifCond .ne 7, 3) := by decide +kernel
theorem dX8_mean_48 : decode cX8_mean 48 = .ok (.dconst 0, 1) := by decide +kernel
theorem dX8_mean_49 : decode cX8_mean 49 = .ok (.goto 14, 3) := by decide +kernel
theorem dX8_mean_52 : decode cX8_mean 52 = .ok (.iload_n 1, 1) := by decide +kernel
theorem dX8_mean_53 : decode cX8_mean 53 = .ok (.i2d, 1) := by decide +kernel
theorem dX8_mean_54 : decode cX8_mean 54 = .ok (.aload_n 0, 1) := by decide +kernel
theorem dX8_mean_55 : decode cX8_mean 55 = .ok (.getfield 35, 3) := by decide +kernel
theorem dX8_mean_58 : decode cX8_mean 58 = .ok (.getfield 70, 3) := by decide +kernel
theorem dX8_mean_61 : decode cX8_mean 61 = .ok (.i2d, 1) := by decide +kernel
theorem dX8_mean_62 : decode cX8_mean 62 = .ok (.ddiv, 1) := by decide +kernel
theorem dX8_mean_63 : decode cX8_mean 63 = .ok (.dreturn, 1) := by decide +kernel
theorem dX8_digest_0 : decode cX8_digest 0 = .ok (.aload_n 0, 1) := by decide +kernel
theorem dX8_digest_1 : decode cX8_digest 1 = .ok (.iconst 0, 1) := by decide +kernel
theorem dX8_digest_2 : decode cX8_digest 2 = .ok (.putfield 57, 3) := by decide +kernel
theorem dX8_digest_5 : decode cX8_digest 5 = .ok (.ldc2_w 408, 3) := by decide +kernel
theorem dX8_digest_8 : decode cX8_digest 8 = .ok (.lstore_n 1, 1) := by decide +kernel
theorem dX8_digest_9 : decode cX8_digest 9 = .ok (.iconst 0, 1) := by decide +kernel
theorem dX8_digest_10 : decode cX8_digest 10 = .ok (.istore_n 3, 1) := by decide +kernel
theorem dX8_digest_11 : decode cX8_digest 11 = .ok (.iload_n 3, 1) := by decide +kernel
theorem dX8_digest_12 : decode cX8_digest 12 = .ok (.bipush 13, 2) := by decide +kernel
theorem dX8_digest_14 : decode cX8_digest 14 = .ok (.if_icmp .gt 22, 3) := by decide +kernel
theorem dX8_digest_17 : decode cX8_digest 17 = .ok (.lload_n 1, 1) := by decide +kernel
theorem dX8_digest_18 : decode cX8_digest 18 = .ok (.ldc2_w 410, 3) := by decide +kernel
theorem dX8_digest_21 : decode cX8_digest 21 = .ok (.lmul, 1) := by decide +kernel
theorem dX8_digest_22 : decode cX8_digest 22 = .ok (.aload_n 0, 1) := by decide +kernel
theorem dX8_digest_23 : decode cX8_digest 23 = .ok (.iload_n 3, 1) := by decide +kernel
theorem dX8_digest_24 : decode cX8_digest 24 = .ok (.invokevirtual 327, 3) := by decide +kernel
theorem dX8_digest_27 : decode cX8_digest 27 = .ok (.i2l, 1) := by decide +kernel
theorem dX8_digest_28 : decode cX8_digest 28 = .ok (.ladd, 1) := by decide +kernel
theorem dX8_digest_29 : decode cX8_digest 29 = .ok (.lstore_n 1, 1) := by decide +kernel
theorem dX8_digest_30 : decode cX8_digest 30 = .ok (.iinc 3 1, 3) := by decide +kernel
theorem dX8_digest_33 : decode cX8_digest 33 = .ok (.goto (-22), 3) := by decide +kernel
theorem dX8_digest_36 : decode cX8_digest 36 = .ok (.iconst 0, 1) := by decide +kernel
theorem dX8_digest_37 : decode cX8_digest 37 = .ok (.istore_n 3, 1) := by decide +kernel
theorem dX8_digest_38 : decode cX8_digest 38 = .ok (.iload_n 3, 1) := by decide +kernel
theorem dX8_digest_39 : decode cX8_digest 39 = .ok (.aload_n 0, 1) := by decide +kernel
theorem dX8_digest_40 : decode cX8_digest 40 = .ok (.getfield 35, 3) := by decide +kernel
theorem dX8_digest_43 : decode cX8_digest 43 = .ok (.getfield 60, 3) := by decide +kernel
theorem dX8_digest_46 : decode cX8_digest 46 = .ok (.if_icmp .ge 39, 3) := by decide +kernel
theorem dX8_digest_49 : decode cX8_digest 49 = .ok (.iconst 0, 1) := by decide +kernel
theorem dX8_digest_50 : decode cX8_digest 50 = .ok (.istore 4, 2) := by decide +kernel
theorem dX8_digest_52 : decode cX8_digest 52 = .ok (.iload 4, 2) := by decide +kernel
theorem dX8_digest_54 : decode cX8_digest 54 = .ok (.iconst 3, 1) := by decide +kernel
theorem dX8_digest_55 : decode cX8_digest 55 = .ok (.if_icmp .gt 24, 3) := by decide +kernel
theorem dX8_digest_58 : decode cX8_digest 58 = .ok (.lload_n 1, 1) := by decide +kernel
theorem dX8_digest_59 : decode cX8_digest 59 = .ok (.ldc2_w 410, 3) := by decide +kernel
theorem dX8_digest_62 : decode cX8_digest 62 = .ok (.lmul, 1) := by decide +kernel
theorem dX8_digest_63 : decode cX8_digest 63 = .ok (.aload_n 0, 1) := by decide +kernel
theorem dX8_digest_64 : decode cX8_digest 64 = .ok (.iload_n 3, 1) := by decide +kernel
theorem dX8_digest_65 : decode cX8_digest 65 = .ok (.iload 4, 2) := by decide +kernel
theorem dX8_digest_67 : decode cX8_digest 67 = .ok (.invokevirtual 340, 3) := by decide +kernel
theorem dX8_digest_70 : decode cX8_digest 70 = .ok (.i2l, 1) := by decide +kernel
theorem dX8_digest_71 : decode cX8_digest 71 = .ok (.ladd, 1) := by decide +kernel
theorem dX8_digest_72 : decode cX8_digest 72 = .ok (.lstore_n 1, 1) := by decide +kernel
theorem dX8_digest_73 : decode cX8_digest 73 = .ok (.iinc 4 1, 3) := by decide +kernel
theorem dX8_digest_76 : decode cX8_digest 76 = .ok (.goto (-24), 3) := by decide +kernel
theorem dX8_digest_79 : decode cX8_digest 79 = .ok (.iinc 3 1, 3) := by decide +kernel
theorem dX8_digest_82 : decode cX8_digest 82 = .ok (.goto (-44), 3) := by decide +kernel
theorem dX8_digest_85 : decode cX8_digest 85 = .ok (.iconst 0, 1) := by decide +kernel
theorem dX8_digest_86 : decode cX8_digest 86 = .ok (.istore_n 3, 1) := by decide +kernel
theorem dX8_digest_87 : decode cX8_digest 87 = .ok (.iload_n 3, 1) := by decide +kernel
theorem dX8_digest_88 : decode cX8_digest 88 = .ok (.aload_n 0, 1) := by decide +kernel
theorem dX8_digest_89 : decode cX8_digest 89 = .ok (.getfield 35, 3) := by decide +kernel
theorem dX8_digest_92 : decode cX8_digest 92 = .ok (.getfield 67, 3) := by decide +kernel
theorem dX8_digest_95 : decode cX8_digest 95 = .ok (.if_icmp .ge 39, 3) := by decide +kernel
theorem dX8_digest_98 : decode cX8_digest 98 = .ok (.iconst 0, 1) := by decide +kernel
theorem dX8_digest_99 : decode cX8_digest 99 = .ok (.istore 4, 2) := by decide +kernel
theorem dX8_digest_101 : decode cX8_digest 101 = .ok (.iload 4, 2) := by decide +kernel
theorem dX8_digest_103 : decode cX8_digest 103 = .ok (.iconst 3, 1) := by decide +kernel
theorem dX8_digest_104 : decode cX8_digest 104 = .ok (.if_icmp .gt 24, 3) := by decide +kernel
theorem dX8_digest_107 : decode cX8_digest 107 = .ok (.lload_n 1, 1) := by decide +kernel
theorem dX8_digest_108 : decode cX8_digest 108 = .ok (.ldc2_w 410, 3) := by decide +kernel
theorem dX8_digest_111 : decode cX8_digest 111 = .ok (.lmul, 1) := by decide +kernel
theorem dX8_digest_112 : decode cX8_digest 112 = .ok (.aload_n 0, 1) := by decide +kernel
theorem dX8_digest_113 : decode cX8_digest 113 = .ok (.iload_n 3, 1) := by decide +kernel
theorem dX8_digest_114 : decode cX8_digest 114 = .ok (.iload 4, 2) := by decide +kernel
theorem dX8_digest_116 : decode cX8_digest 116 = .ok (.invokevirtual 346, 3) := by decide +kernel
theorem dX8_digest_119 : decode cX8_digest 119 = .ok (.i2l, 1) := by decide +kernel
theorem dX8_digest_120 : decode cX8_digest 120 = .ok (.ladd, 1) := by decide +kernel
theorem dX8_digest_121 : decode cX8_digest 121 = .ok (.lstore_n 1, 1) := by decide +kernel
theorem dX8_digest_122 : decode cX8_digest 122 = .ok (.iinc 4 1, 3) := by decide +kernel
theorem dX8_digest_125 : decode cX8_digest 125 = .ok (.goto (-24), 3) := by decide +kernel
theorem dX8_digest_128 : decode cX8_digest 128 = .ok (.iinc 3 1, 3) := by decide +kernel
theorem dX8_digest_131 : decode cX8_digest 131 = .ok (.goto (-44), 3) := by decide +kernel
theorem dX8_digest_134 : decode cX8_digest 134 = .ok (.iconst 0, 1) := by decide +kernel
theorem dX8_digest_135 : decode cX8_digest 135 = .ok (.istore_n 3, 1) := by decide +kernel
theorem dX8_digest_136 : decode cX8_digest 136 = .ok (.iload_n 3, 1) := by decide +kernel
theorem dX8_digest_137 : decode cX8_digest 137 = .ok (.aload_n 0, 1) := by decide +kernel
theorem dX8_digest_138 : decode cX8_digest 138 = .ok (.getfield 35, 3) := by decide +kernel
theorem dX8_digest_141 : decode cX8_digest 141 = .ok (.getfield 70, 3) := by decide +kernel
theorem dX8_digest_144 : decode cX8_digest 144 = .ok (.if_icmp .ge 40, 3) := by decide +kernel
theorem dX8_digest_147 : decode cX8_digest 147 = .ok (.iconst 0, 1) := by decide +kernel
theorem dX8_digest_148 : decode cX8_digest 148 = .ok (.istore 4, 2) := by decide +kernel
theorem dX8_digest_150 : decode cX8_digest 150 = .ok (.iload 4, 2) := by decide +kernel
theorem dX8_digest_152 : decode cX8_digest 152 = .ok (.bipush 6, 2) := by decide +kernel
theorem dX8_digest_154 : decode cX8_digest 154 = .ok (.if_icmp .gt 24, 3) := by decide +kernel
theorem dX8_digest_157 : decode cX8_digest 157 = .ok (.lload_n 1, 1) := by decide +kernel
theorem dX8_digest_158 : decode cX8_digest 158 = .ok (.ldc2_w 410, 3) := by decide +kernel
theorem dX8_digest_161 : decode cX8_digest 161 = .ok (.lmul, 1) := by decide +kernel
theorem dX8_digest_162 : decode cX8_digest 162 = .ok (.aload_n 0, 1) := by decide +kernel
theorem dX8_digest_163 : decode cX8_digest 163 = .ok (.iload_n 3, 1) := by decide +kernel
theorem dX8_digest_164 : decode cX8_digest 164 = .ok (.iload 4, 2) := by decide +kernel
theorem dX8_digest_166 : decode cX8_digest 166 = .ok (.invokevirtual 364, 3) := by decide +kernel
theorem dX8_digest_169 : decode cX8_digest 169 = .ok (.i2l, 1) := by decide +kernel
theorem dX8_digest_170 : decode cX8_digest 170 = .ok (.ladd, 1) := by decide +kernel
theorem dX8_digest_171 : decode cX8_digest 171 = .ok (.lstore_n 1, 1) := by decide +kernel
theorem dX8_digest_172 : decode cX8_digest 172 = .ok (.iinc 4 1, 3) := by decide +kernel
theorem dX8_digest_175 : decode cX8_digest 175 = .ok (.goto (-25), 3) := by decide +kernel
theorem dX8_digest_178 : decode cX8_digest 178 = .ok (.iinc 3 1, 3) := by decide +kernel
theorem dX8_digest_181 : decode cX8_digest 181 = .ok (.goto (-45), 3) := by decide +kernel
theorem dX8_digest_184 : decode cX8_digest 184 = .ok (.iconst 0, 1) := by decide +kernel
theorem dX8_digest_185 : decode cX8_digest 185 = .ok (.istore_n 3, 1) := by decide +kernel
theorem dX8_digest_186 : decode cX8_digest 186 = .ok (.iload_n 3, 1) := by decide +kernel
theorem dX8_digest_187 : decode cX8_digest 187 = .ok (.aload_n 0, 1) := by decide +kernel
theorem dX8_digest_188 : decode cX8_digest 188 = .ok (.getfield 35, 3) := by decide +kernel
theorem dX8_digest_191 : decode cX8_digest 191 = .ok (.getfield 73, 3) := by decide +kernel
theorem dX8_digest_194 : decode cX8_digest 194 = .ok (.if_icmp .ge 76, 3) := by decide +kernel
theorem dX8_digest_197 : decode cX8_digest 197 = .ok (.iconst 0, 1) := by decide +kernel
theorem dX8_digest_198 : decode cX8_digest 198 = .ok (.istore 4, 2) := by decide +kernel
theorem dX8_digest_200 : decode cX8_digest 200 = .ok (.iload 4, 2) := by decide +kernel
theorem dX8_digest_202 : decode cX8_digest 202 = .ok (.bipush 6, 2) := by decide +kernel
theorem dX8_digest_204 : decode cX8_digest 204 = .ok (.if_icmp .gt 24, 3) := by decide +kernel
theorem dX8_digest_207 : decode cX8_digest 207 = .ok (.lload_n 1, 1) := by decide +kernel
theorem dX8_digest_208 : decode cX8_digest 208 = .ok (.ldc2_w 410, 3) := by decide +kernel
theorem dX8_digest_211 : decode cX8_digest 211 = .ok (.lmul, 1) := by decide +kernel
theorem dX8_digest_212 : decode cX8_digest 212 = .ok (.aload_n 0, 1) := by decide +kernel
theorem dX8_digest_213 : decode cX8_digest 213 = .ok (.iload_n 3, 1) := by decide +kernel
theorem dX8_digest_214 : decode cX8_digest 214 = .ok (.iload 4, 2) := by decide +kernel
theorem dX8_digest_216 : decode cX8_digest 216 = .ok (.invokevirtual 383, 3) := by decide +kernel
theorem dX8_digest_219 : decode cX8_digest 219 = .ok (.i2l, 1) := by decide +kernel
theorem dX8_digest_220 : decode cX8_digest 220 = .ok (.ladd, 1) := by decide +kernel
theorem dX8_digest_221 : decode cX8_digest 221 = .ok (.lstore_n 1, 1) := by decide +kernel
theorem dX8_digest_222 : decode cX8_digest 222 = .ok (.iinc 4 1, 3) := by decide +kernel
theorem dX8_digest_225 : decode cX8_digest 225 = .ok (.goto (-25), 3) := by decide +kernel
theorem dX8_digest_228 : decode cX8_digest 228 = .ok (.lload_n 1, 1) := by decide +kernel
theorem dX8_digest_229 : decode cX8_digest 229 = .ok (.ldc2_w 410, 3) := by decide +kernel
theorem dX8_digest_232 : decode cX8_digest 232 = .ok (.lmul, 1) := by decide +kernel
theorem dX8_digest_233 : decode cX8_digest 233 = .ok (.aload_n 0, 1) := by decide +kernel
theorem dX8_digest_234 : decode cX8_digest 234 = .ok (.getfield 35, 3) := by decide +kernel
theorem dX8_digest_237 : decode cX8_digest 237 = .ok (.getfield 238, 3) := by decide +kernel
theorem dX8_digest_240 : decode cX8_digest 240 = .ok (.iload_n 3, 1) := by decide +kernel
theorem dX8_digest_241 : decode cX8_digest 241 = .ok (.aaload, 1) := by decide +kernel
theorem dX8_digest_242 : decode cX8_digest 242 = .ok (.iconst 0, 1) := by decide +kernel
theorem dX8_digest_243 : decode cX8_digest 243 = .ok (.iaload, 1) := by decide +kernel
theorem dX8_digest_244 : decode cX8_digest 244 = .ok (.i2l, 1) := by decide +kernel
theorem dX8_digest_245 : decode cX8_digest 245 = .ok (.ladd, 1) := by decide +kernel
theorem dX8_digest_246 : decode cX8_digest 246 = .ok (.ldc2_w 410, 3) := by decide +kernel
theorem dX8_digest_249 : decode cX8_digest 249 = .ok (.lmul, 1) := by decide +kernel
theorem dX8_digest_250 : decode cX8_digest 250 = .ok (.aload_n 0, 1) := by decide +kernel
theorem dX8_digest_251 : decode cX8_digest 251 = .ok (.getfield 35, 3) := by decide +kernel
theorem dX8_digest_254 : decode cX8_digest 254 = .ok (.getfield 238, 3) := by decide +kernel
theorem dX8_digest_257 : decode cX8_digest 257 = .ok (.iload_n 3, 1) := by decide +kernel
theorem dX8_digest_258 : decode cX8_digest 258 = .ok (.aaload, 1) := by decide +kernel
theorem dX8_digest_259 : decode cX8_digest 259 = .ok (.iconst 1, 1) := by decide +kernel
theorem dX8_digest_260 : decode cX8_digest 260 = .ok (.iaload, 1) := by decide +kernel
theorem dX8_digest_261 : decode cX8_digest 261 = .ok (.i2l, 1) := by decide +kernel
theorem dX8_digest_262 : decode cX8_digest 262 = .ok (.ladd, 1) := by decide +kernel
theorem dX8_digest_263 : decode cX8_digest 263 = .ok (.lstore_n 1, 1) := by decide +kernel
theorem dX8_digest_264 : decode cX8_digest 264 = .ok (.iinc 3 1, 3) := by decide +kernel
theorem dX8_digest_267 : decode cX8_digest 267 = .ok (.goto (-81), 3) := by decide +kernel
theorem dX8_digest_270 : decode cX8_digest 270 = .ok (.lload_n 1, 1) := by decide +kernel
theorem dX8_digest_271 : decode cX8_digest 271 = .ok (.lreturn, 1) := by decide +kernel
theorem dX8_feed_0 : decode cX8_feed 0 = .ok (.aload_n 0, 1) := by decide +kernel
theorem dX8_feed_1 : decode cX8_feed 1 = .ok (.iconst 0, 1) := by decide +kernel
theorem dX8_feed_2 : decode cX8_feed 2 = .ok (.putfield 57, 3) := by decide +kernel
theorem dX8_feed_5 : decode cX8_feed 5 = .ok (.aload_n 0, 1) := by decide +kernel
theorem dX8_feed_6 : decode cX8_feed 6 = .ok (.getfield 89, 3) := by decide +kernel
theorem dX8_feed_9 : decode cX8_feed 9 = .ok (.sipush 1980, 3) := by decide +kernel
theorem dX8_feed_12 : decode cX8_feed 12 = .ok (.if_icmp .le 9, 3) := by decide +kernel
theorem dX8_feed_15 : decode cX8_feed 15 = .ok (.aload_n 0, 1) := by decide +kernel
theorem dX8_feed_16 : decode cX8_feed 16 = .ok (.iconst 1, 1) := by decide +kernel
theorem dX8_feed_17 : decode cX8_feed 17 = .ok (.invokevirtual 312, 3) := by decide +kernel
theorem dX8_feed_20 : decode cX8_feed 20 = .ok (.ireturn, 1) := by decide +kernel
theorem dX8_feed_21 : decode cX8_feed 21 = .ok (.iconst 5, 1) := by decide +kernel
theorem dX8_feed_22 : decode cX8_feed 22 = .ok (.newarray .int, 2) := by decide +kernel
theorem dX8_feed_24 : decode cX8_feed 24 = .ok (.dup, 1) := by decide +kernel
theorem dX8_feed_25 : decode cX8_feed 25 = .ok (.iconst 0, 1) := by decide +kernel
theorem dX8_feed_26 : decode cX8_feed 26 = .ok (.iload_n 1, 1) := by decide +kernel
theorem dX8_feed_27 : decode cX8_feed 27 = .ok (.iastore, 1) := by decide +kernel
theorem dX8_feed_28 : decode cX8_feed 28 = .ok (.dup, 1) := by decide +kernel
theorem dX8_feed_29 : decode cX8_feed 29 = .ok (.iconst 1, 1) := by decide +kernel
theorem dX8_feed_30 : decode cX8_feed 30 = .ok (.iload_n 2, 1) := by decide +kernel
theorem dX8_feed_31 : decode cX8_feed 31 = .ok (.iastore, 1) := by decide +kernel
theorem dX8_feed_32 : decode cX8_feed 32 = .ok (.dup, 1) := by decide +kernel
theorem dX8_feed_33 : decode cX8_feed 33 = .ok (.iconst 2, 1) := by decide +kernel
theorem dX8_feed_34 : decode cX8_feed 34 = .ok (.iload_n 3, 1) := by decide +kernel
theorem dX8_feed_35 : decode cX8_feed 35 = .ok (.iastore, 1) := by decide +kernel
theorem dX8_feed_36 : decode cX8_feed 36 = .ok (.dup, 1) := by decide +kernel
theorem dX8_feed_37 : decode cX8_feed 37 = .ok (.iconst 3, 1) := by decide +kernel
theorem dX8_feed_38 : decode cX8_feed 38 = .ok (.iload 4, 2) := by decide +kernel
theorem dX8_feed_40 : decode cX8_feed 40 = .ok (.iastore, 1) := by decide +kernel
theorem dX8_feed_41 : decode cX8_feed 41 = .ok (.dup, 1) := by decide +kernel
theorem dX8_feed_42 : decode cX8_feed 42 = .ok (.iconst 4, 1) := by decide +kernel
theorem dX8_feed_43 : decode cX8_feed 43 = .ok (.iload 5, 2) := by decide +kernel
theorem dX8_feed_45 : decode cX8_feed 45 = .ok (.iastore, 1) := by decide +kernel
theorem dX8_feed_46 : decode cX8_feed 46 = .ok (.astore 6, 2) := by decide +kernel
theorem dX8_feed_48 : decode cX8_feed 48 = .ok (.iconst 0, 1) := by decide +kernel
theorem dX8_feed_49 : decode cX8_feed 49 = .ok (.istore 7, 2) := by decide +kernel
theorem dX8_feed_51 : decode cX8_feed 51 = .ok (.iload 7, 2) := by decide +kernel
theorem dX8_feed_53 : decode cX8_feed 53 = .ok (.bipush 20, 2) := by decide +kernel
theorem dX8_feed_55 : decode cX8_feed 55 = .ok (.if_icmp .ge 43, 3) := by decide +kernel
theorem dX8_feed_58 : decode cX8_feed 58 = .ok (.aload_n 0, 1) := by decide +kernel
theorem dX8_feed_59 : decode cX8_feed 59 = .ok (.getfield 9, 3) := by decide +kernel
theorem dX8_feed_62 : decode cX8_feed 62 = .ok (.aload_n 0, 1) := by decide +kernel
theorem dX8_feed_63 : decode cX8_feed 63 = .ok (.getfield 89, 3) := by decide +kernel
theorem dX8_feed_66 : decode cX8_feed 66 = .ok (.iload 7, 2) := by decide +kernel
theorem dX8_feed_68 : decode cX8_feed 68 = .ok (.iadd, 1) := by decide +kernel
theorem dX8_feed_69 : decode cX8_feed 69 = .ok (.aload 6, 2) := by decide +kernel
theorem dX8_feed_71 : decode cX8_feed 71 = .ok (.iload 7, 2) := by decide +kernel
theorem dX8_feed_73 : decode cX8_feed 73 = .ok (.iconst 4, 1) := by decide +kernel
theorem dX8_feed_74 : decode cX8_feed 74 = .ok (.idiv, 1) := by decide +kernel
theorem dX8_feed_75 : decode cX8_feed 75 = .ok (.iaload, 1) := by decide +kernel
theorem dX8_feed_76 : decode cX8_feed 76 = .ok (.bipush 24, 2) := by decide +kernel
theorem dX8_feed_78 : decode cX8_feed 78 = .ok (.bipush 8, 2) := by decide +kernel
theorem dX8_feed_80 : decode cX8_feed 80 = .ok (.iload 7, 2) := by decide +kernel
theorem dX8_feed_82 : decode cX8_feed 82 = .ok (.iconst 4, 1) := by decide +kernel
theorem dX8_feed_83 : decode cX8_feed 83 = .ok (.irem, 1) := by decide +kernel
theorem dX8_feed_84 : decode cX8_feed 84 = .ok (.imul, 1) := by decide +kernel
theorem dX8_feed_85 : decode cX8_feed 85 = .ok (.isub, 1) := by decide +kernel
theorem dX8_feed_86 : decode cX8_feed 86 = .ok (.ishr, 1) := by decide +kernel
theorem dX8_feed_87 : decode cX8_feed 87 = .ok (.sipush 255, 3) := by decide +kernel
theorem dX8_feed_90 : decode cX8_feed 90 = .ok (.iand, 1) := by decide +kernel
theorem dX8_feed_91 : decode cX8_feed 91 = .ok (.iastore, 1) := by decide +kernel
theorem dX8_feed_92 : decode cX8_feed 92 = .ok (.iinc 7 1, 3) := by decide +kernel
theorem dX8_feed_95 : decode cX8_feed 95 = .ok (.goto (-44), 3) := by decide +kernel
theorem dX8_feed_98 : decode cX8_feed 98 = .ok (.aload_n 0, 1) := by decide +kernel
theorem dX8_feed_99 : decode cX8_feed 99 = .ok (.dup, 1) := by decide +kernel
theorem dX8_feed_100 : decode cX8_feed 100 = .ok (.getfield 89, 3) := by decide +kernel
theorem dX8_feed_103 : decode cX8_feed 103 = .ok (.bipush 20, 2) := by decide +kernel
theorem dX8_feed_105 : decode cX8_feed 105 = .ok (.iadd, 1) := by decide +kernel
theorem dX8_feed_106 : decode cX8_feed 106 = .ok (.putfield 89, 3) := by decide +kernel
theorem dX8_feed_109 : decode cX8_feed 109 = .ok (.aload_n 0, 1) := by decide +kernel
theorem dX8_feed_110 : decode cX8_feed 110 = .ok (.getfield 89, 3) := by decide +kernel
theorem dX8_feed_113 : decode cX8_feed 113 = .ok (.ireturn, 1) := by decide +kernel
theorem mi_X8_counted : MInfo yX8_counted cX8_counted 3 (some .int) 1 := ⟨wq_1723, wq_135, by decide, ⟨by decide +kernel, by decide +kernel, by decide +kernel⟩, by decide +kernel⟩
theorem mi_X8_leggerTold : MInfo yX8_leggerTold cX8_leggerTold 4 (some .int) 2 := ⟨wq_1780, wq_135, by decide, ⟨by decide +kernel, by decide +kernel, by decide +kernel⟩, by decide +kernel⟩
theorem mi_X8_boatTold : MInfo yX8_boatTold cX8_boatTold 4 (some .int) 2 := ⟨wq_1796, wq_135, by decide, ⟨by decide +kernel, by decide +kernel, by decide +kernel⟩, by decide +kernel⟩
theorem mi_X8_count : MInfo yX8_count cX8_count 2 (some .int) 1 := ⟨wq_1719, wq_135, by decide, ⟨by decide +kernel, by decide +kernel, by decide +kernel⟩, by decide +kernel⟩
theorem mi_X8_legger : MInfo yX8_legger cX8_legger 3 (some .int) 2 := ⟨wq_1772, wq_135, by decide, ⟨by decide +kernel, by decide +kernel, by decide +kernel⟩, by decide +kernel⟩
theorem mi_X8_boat : MInfo yX8_boat cX8_boat 3 (some .int) 2 := ⟨wq_1788, wq_135, by decide, ⟨by decide +kernel, by decide +kernel, by decide +kernel⟩, by decide +kernel⟩
theorem mi_X8_mean : MInfo yX8_mean cX8_mean 3 (some .double) 0 := ⟨wq_1948, wq_135, by decide, ⟨by decide +kernel, by decide +kernel, by decide +kernel⟩, by decide +kernel⟩
theorem mi_X8_digest : MInfo yX8_digest cX8_digest 5 (some .long) 0 := ⟨wq_1952, wq_135, by decide, ⟨by decide +kernel, by decide +kernel, by decide +kernel⟩, by decide +kernel⟩
theorem mi_X8_feed : MInfo yX8_feed cX8_feed 8 (some .int) 5 := ⟨wq_1473, wq_135, by decide, ⟨by decide +kernel, by decide +kernel, by decide +kernel⟩, by decide +kernel⟩
def wp_X8_countedT (P : M2) (S : M2) (N : M2) (E : M2) (x1 : Int32) (K : Int32 → M2 → M2 → M2 → Prop) : Prop := (inb 0 8 ∧ ∀ E_33 : M2, E_33 = up2 E 400 (upd (E 400) (0 : Int32).toInt.toNat (S 200 0)) → (inb 1 8 ∧ ∀ E_43 : M2, E_43 = up2 E_33 400 (upd (E_33 400) (1 : Int32).toInt.toNat (S 201 0)) → (inb 2 8 ∧ ∀ E_53 : M2, E_53 = up2 E_43 400 (upd (E_43 400) (2 : Int32).toInt.toNat (P 240 0)) → (inb 3 8 ∧ ∀ E_63 : M2, E_63 = up2 E_53 400 (upd (E_53 400) (3 : Int32).toInt.toNat (P 241 0)) → (inb 4 8 ∧ ∀ E_73 : M2, E_73 = up2 E_63 400 (upd (E_63 400) (4 : Int32).toInt.toNat (P 246 0)) → (inb 5 8 ∧ ∀ E_83 : M2, E_83 = up2 E_73 400 (upd (E_73 400) (5 : Int32).toInt.toNat (P 249 0)) → (inb 6 8 ∧ ∀ E_94 : M2, E_94 = up2 E_83 400 (upd (E_83 400) (6 : Int32).toInt.toNat (P 252 0)) → (inb 7 8 ∧ ∀ E_105 : M2, E_105 = up2 E_94 400 (upd (E_94 400) (7 : Int32).toInt.toNat (P 257 0)) → ((8 ≤ x1 → K (N 222 0) S N E_105) ∧ (¬ 8 ≤ x1 → (inb x1 8 ∧ K (E_105 400 x1.toInt.toNat) S N E_105)))))))))))
set_option maxRecDepth 100000 in
set_option maxHeartbeats 4000000 in
theorem t_X8_countedT {p : Program} {l : Launch} {e : Env} {s : State} {m : MethodId} {args : Array Value} {below : List Frame} {meth : Method} {c : Code} {Q : State → Prop} {A : Nat → Prop} {D : va_G} {Z : Nat → ClassId} {a q g : Nat → Nat} {rg aa : Nat} {al : Nat} {P : M2} {S : M2} {N : M2} {E : M2} {x1 : Int32} {K : Int32 → M2 → M2 → M2 → Prop} {H : Heap} {locs : List Loc} {ls : Array Slot} (hC : CallFix p m c cX8_counted 3 s args lw_g yX8_counted.cls) (hN : NW s) (hK : va_K D vwCl (tysG Z) s) (hT : TS vwCl D (QA8 Z a q g rg aa al P S N E) A s.heap H locs) (hm : wp_X8_countedT P S N E x1 K) (hret : ∀ (pc : Nat) (ls : Array Slot) (H : Heap) (locs : List Loc) (r : Int32) (u : M2 × M2 × M2), K r u.1 u.2.1 u.2.2 → TS vwCl D (QA8 Z a q g rg aa al P u.1 u.2.1 u.2.2) A s.heap H locs → narrow .int (.int r) = .int r → decode cX8_counted pc = .ok (.ireturn, 1) → W p l e (rk 3 1 8) s m args below meth c H locs 1 8 Q (F0 m pc ls [.int r])) (hl : lv_has ls 3 [(0, .ref (g 220)), (1, .int x1)]) : W p l e (rk 3 1 8) s m args below meth c H locs 1 8 Q (F0 m 24 ls [.ref (al)]) := by
  have hx := hC.1
  have hb := hC.2.1
  refine lv_dup hx hb dX8_counted_24 rfl ?_
  refine lv_iconst (v := 0) hx hb dX8_counted_25 (by decide) ?_
  refine lv_aload_n hx hb dX8_counted_26 rfl (lv_at hl 0 rfl) ?_
  refine gQA8_mod_13 hC hK hT.1 wq_1433 dX8_counted_27 ?_
  refine gNQA8_st_0 hC hN hK hT.1 wn_1357 dX8_counted_30 ?_
  refine sQA8_all hC hK hT hm.1 dX8_counted_33 (fun E_33 eE_33 H locs hT => ?_)
  have hm := hm.2 E_33 eE_33
  refine lv_dup hx hb dX8_counted_34 rfl ?_
  refine lv_iconst (v := 1) hx hb dX8_counted_35 (by decide) ?_
  refine lv_aload_n hx hb dX8_counted_36 rfl (lv_at hl 0 rfl) ?_
  refine gQA8_mod_13 hC hK hT.1 wq_1433 dX8_counted_37 ?_
  refine gNQA8_st_1 hC hN hK hT.1 wn_1359 dX8_counted_40 ?_
  refine sQA8_all hC hK hT hm.1 dX8_counted_43 (fun E_43 eE_43 H locs hT => ?_)
  have hm := hm.2 E_43 eE_43
  refine lv_dup hx hb dX8_counted_44 rfl ?_
  refine lv_iconst (v := 2) hx hb dX8_counted_45 (by decide) ?_
  refine lv_aload_n hx hb dX8_counted_46 rfl (lv_at hl 0 rfl) ?_
  refine gQA8_mod_11 hC hK hT.1 wq_1430 dX8_counted_47 ?_
  refine gNQA8_plan_0 hC hN hK hT.1 wn_1230 dX8_counted_50 ?_
  refine sQA8_all hC hK hT hm.1 dX8_counted_53 (fun E_53 eE_53 H locs hT => ?_)
  have hm := hm.2 E_53 eE_53
  refine lv_dup hx hb dX8_counted_54 rfl ?_
  refine lv_iconst (v := 3) hx hb dX8_counted_55 (by decide) ?_
  refine lv_aload_n hx hb dX8_counted_56 rfl (lv_at hl 0 rfl) ?_
  refine gQA8_mod_11 hC hK hT.1 wq_1430 dX8_counted_57 ?_
  refine gNQA8_plan_1 hC hN hK hT.1 wn_1232 dX8_counted_60 ?_
  refine sQA8_all hC hK hT hm.1 dX8_counted_63 (fun E_63 eE_63 H locs hT => ?_)
  have hm := hm.2 E_63 eE_63
  refine lv_dup hx hb dX8_counted_64 rfl ?_
  refine lv_iconst (v := 4) hx hb dX8_counted_65 (by decide) ?_
  refine lv_aload_n hx hb dX8_counted_66 rfl (lv_at hl 0 rfl) ?_
  refine gQA8_mod_11 hC hK hT.1 wq_1430 dX8_counted_67 ?_
  refine gNQA8_plan_6 hC hN hK hT.1 wn_1244 dX8_counted_70 ?_
  refine sQA8_all hC hK hT hm.1 dX8_counted_73 (fun E_73 eE_73 H locs hT => ?_)
  have hm := hm.2 E_73 eE_73
  refine lv_dup hx hb dX8_counted_74 rfl ?_
  refine lv_iconst (v := 5) hx hb dX8_counted_75 (by decide) ?_
  refine lv_aload_n hx hb dX8_counted_76 rfl (lv_at hl 0 rfl) ?_
  refine gQA8_mod_11 hC hK hT.1 wq_1430 dX8_counted_77 ?_
  refine gNQA8_plan_9 hC hN hK hT.1 wn_1251 dX8_counted_80 ?_
  refine sQA8_all hC hK hT hm.1 dX8_counted_83 (fun E_83 eE_83 H locs hT => ?_)
  have hm := hm.2 E_83 eE_83
  refine lv_dup hx hb dX8_counted_84 rfl ?_
  refine lv_bipush (v := 6) hx hb dX8_counted_85 (by decide) ?_
  refine lv_aload_n hx hb dX8_counted_87 rfl (lv_at hl 0 rfl) ?_
  refine gQA8_mod_11 hC hK hT.1 wq_1430 dX8_counted_88 ?_
  refine gNQA8_plan_12 hC hN hK hT.1 wn_1260 dX8_counted_91 ?_
  refine sQA8_all hC hK hT hm.1 dX8_counted_94 (fun E_94 eE_94 H locs hT => ?_)
  have hm := hm.2 E_94 eE_94
  refine lv_dup hx hb dX8_counted_95 rfl ?_
  refine lv_bipush (v := 7) hx hb dX8_counted_96 (by decide) ?_
  refine lv_aload_n hx hb dX8_counted_98 rfl (lv_at hl 0 rfl) ?_
  refine gQA8_mod_11 hC hK hT.1 wq_1430 dX8_counted_99 ?_
  refine gNQA8_plan_17 hC hN hK hT.1 wn_1274 dX8_counted_102 ?_
  refine sQA8_all hC hK hT hm.1 dX8_counted_105 (fun E_105 eE_105 H locs hT => ?_)
  have hm := hm.2 E_105 eE_105
  refine lv_astore_n (lv' := [(2, .ref (al)), (0, .ref (g 220)), (1, .int x1)]) hx hb dX8_counted_106 rfl hl (by decide) rfl (fun ls hl => ?_)
  refine lv_iload_n hx hb dX8_counted_107 rfl (lv_at hl 2 rfl) ?_
  refine lv_bipush (v := 8) hx hb dX8_counted_108 (by decide) ?_
  refine lv_icmp_ge (tgt := 119) hx hb dX8_counted_110 (by decide) (fun c_110 => ?_) (fun c_110 => ?_)
  · have hm := hm.1 c_110
    refine lv_aload_n hx hb dX8_counted_119 rfl (lv_at hl 1 rfl) ?_
    refine gQA8_mod_2 hC hK hT.1 wq_1421 dX8_counted_120 ?_
    exact hret 123 _ _ _ _ (S, N, E_105) hm hT rfl dX8_counted_123
  · have hm := hm.2 c_110
    refine lv_aload_n hx hb dX8_counted_113 rfl (lv_at hl 0 rfl) ?_
    refine lv_iload_n hx hb dX8_counted_114 rfl (lv_at hl 2 rfl) ?_
    refine w_iald (q0 := 40) hC hK hT.1 rfl hm.1 dX8_counted_115 ?_
    have hm := hm.2
    refine lv_goto (tgt := 123) hx hb dX8_counted_116 (by decide) ?_
    exact hret 123 _ _ _ _ (S, N, E_105) hm hT rfl dX8_counted_123
def wp_X8_counted (P : M2) (S : M2) (N : M2) (x1 : Int32) (K : Int32 → M2 → M2 → Prop) : Prop := wp_X8_isIn x1 8 12 (fun r_5 => ((r_5 = 0 → wp_X8_countedT P S N zM x1 (fun r_ S_ N_ E_ => K r_ S_ N_)) ∧ (¬ r_5 = 0 → wp_X7_counted N P S x1 (fun r_16 => K r_16 S N))))
set_option maxRecDepth 100000 in
set_option maxHeartbeats 4000000 in
theorem c_X8_counted (l : Launch) (D : va_G) (Z : Nat → ClassId) (a q g : Nat → Nat) (rg aa : Nat) (P : M2) (S : M2) (N : M2) (sz : Nat) (x1 : Int32) (K : Int32 → M2 → M2 → Prop) (hm : wp_X8_counted P S N x1 K) : Met l yX8_counted (wy yX8_counted cX8_counted 3 (some .int)) (rk 3 1 8) (pre vwCl D Z (QW Z a q g rg aa P S N) sz [.ref (g 220), .int x1]) (poI vwCl D Z (fun u : M2 × M2 => QW Z a q g rg aa P u.1 u.2) (S, N) sz (fun (r : Int32) (u : M2 × M2) => K r u.1 u.2)) 1 8 (va_A (QW Z a q g rg aa P S N) sz) := by
  refine rw_of (ty := .int) (wsF := (fun u : M2 × M2 => QW Z a q g rg aa P u.1 u.2)) (u0 := (S, N)) (by decide +kernel) (Nat.le_of_ble_eq_true rfl) rfl ?_
  intro p e s m args below meth c Q A hC hN hsz hT hK hret ls hl
  have hx := hC.1
  have hb := hC.2.1
  have hl : lv_has ls 3 [(0, .ref (g 220)), (1, .int x1)] := hl
  have hT : TS vwCl D (QW Z a q g rg aa P S N) A s.heap s.heap [] := hT
  refine lv_iload_n hx hb dX8_counted_0 rfl (lv_at hl 1 rfl) ?_
  refine lv_bipush (v := 8) hx hb dX8_counted_1 (by decide) ?_
  refine lv_bipush (v := 12) hx hb dX8_counted_3 (by decide) ?_
  refine kx_X8_isIn hC hN hK hT.1 hT.D' (sx_EWQW Z a q g rg aa P S N) rfl hm wq_1482 (by decide) hl.1 (Nat.le_of_ble_eq_true rfl) ⟨Nat.le_of_ble_eq_true rfl, Nat.le_of_ble_eq_true rfl⟩ dX8_counted_5 (fun r_5 hm => ?_)
  refine lv_if_eq (tgt := 20) hx hb dX8_counted_8 (by decide) (fun c_8 => ?_) (fun c_8 => ?_)
  · have hm := hm.1 c_8
    refine lv_bipush (v := 8) hx hb dX8_counted_20 (by decide) ?_
    refine w_newI (N := 8) hC hK hT wq_297 (by decide) (by decide) (by decide) (Nat.le_of_ble_eq_true rfl) (Nat.le_of_ble_eq_true rfl) dX8_counted_22 (fun al H hT => ?_)
    have hT : TS vwCl D (QA8 Z a q g rg aa al P S N zM) A s.heap H _ := hT
    exact t_X8_countedT hC hN hK hT hm (fun pc ls H locs r u hk hT hnar hd => hret pc ls H locs r (u.1, u.2.1) hk (show TS vwCl D (QW Z a q g rg aa P (u.1) (u.2.1) ++ [(al, .inl (Z 0, 8, .inl (u.2.2 400)))]) A s.heap H locs from hT).dropR hnar hd) (lv_sub hl [0, 1] rfl)
  · have hm := hm.2 c_8
    refine lv_aload_n hx hb dX8_counted_11 rfl (lv_at hl 0 rfl) ?_
    refine gQW_mod_13 hC hK hT.1 wq_1433 dX8_counted_12 ?_
    refine lv_iload_n hx hb dX8_counted_15 rfl (lv_at hl 1 rfl) ?_
    refine kx_X7_counted hC hN hK hT.1 hT.D' (sx_SWQW Z a q g rg aa P S N) rfl hm wq_1724 (by decide) hl.1 (Nat.le_of_ble_eq_true rfl) ⟨Nat.le_of_ble_eq_true rfl, Nat.le_of_ble_eq_true rfl⟩ dX8_counted_16 (fun r_16 hm => ?_)
    refine W.widen (k := 1) (n := 8) (Nat.zero_le _) (Nat.zero_le _) ?_
    exact hret 19 _ _ _ _ (S, N) hm hT rfl dX8_counted_19
section KX8_counted
variable {p : Program} {l : Launch} {e : Env} {s : State} {m : MethodId} {args : Array Value} {below : List Frame} {meth : Method} {c : Code} {H H0 : Heap} {locs : List Loc} {cells slots : Nat} {Q : State → Prop} {R : Room} {rn mcR msR : Nat}
variable {pc : Nat} {ls : Array Slot} {rest : List Value} {A : Nat → Prop} {D : va_G}
variable {cc : ByteArray} {nL index : Nat} {own host : String}
theorem k_X8_counted {Z : Nat → ClassId} {a q g : Nat → Nat} {rg aa : Nat} {P : M2} {S : M2} {N : M2} {x1 : Int32} {K : Int32 → M2 → M2 → Prop} (hC : CallFix p m c cc nL s args lw_g own) (hN : NW s) (hK : va_K D vwCl (tysG Z) s) (hT : TS vwCl D (QW Z a q g rg aa P S N) A H0 H locs) (hm : wp_X8_counted P S N x1 K) (hl : Cond.methodLink own index yX8_counted ∈ lw_g) (hlt : 3 < rn) (hsize : ls.size = nL) (hW : (rest.map fun v => v.category).sum ≤ 8) (hf : cells + 1 ≤ mcR ∧ slots + 8 ≤ msR) (hdg : decode cc pc = .ok (.invokevirtual index, 3)) (kk : ∀ (r : Int32) (S1 : M2) (N1 : M2) (H1 : Heap) (locs1 : List Loc), K r S1 N1 → TS vwCl D (QW Z a q g rg aa P S1 N1) A H0 H1 locs1 → W p l e (rk rn mcR msR) s m args below meth c H1 locs1 (cells + 1) (slots + 8) Q (F0 m (pc + 3) ls (.int r :: rest))) : W p l e (rk rn mcR msR) s m args below meth c H locs cells slots Q (F0 m pc ls (.int x1 :: .ref (g 220) :: rest)) :=
  rw_go (wsF := (fun u : M2 × M2 => QW Z a q g rg aa P u.1 u.2)) (u0 := (S, N)) (wr := []) (isC := cutQW) (isR := []) (pm := cutQW) (ws' := (fun u : M2 × M2 => QW Z a q g rg aa P u.1 u.2)) (runV (As := [.int x1]) hC hN (c_X8_counted l D Z a q g rg aa P S N H.size x1 K hm) mi_X8_counted hl wq_1722 wq_102 hlt hT.1 hT.D' hK (q0 := 12) rfl rfl rfl hsize rfl hW hdg hf) (cutOkQW Z a q g rg aa P S N) hT (fun r u H1 locs1 hk hT1 => kk r u.1 u.2 H1 locs1 hk hT1)
end KX8_counted
def wj_X8_leggerToldT_60 (P : M2) (K : Int32 → M2 → M2 → M2 → Prop) (S : M2) (N : M2) (E : M2) (v1 : Int32) (v2 : Int32) (q0 : Int32) (q1 : Int32) : Prop := (inb q1 7 ∧ ∀ E_60 : M2, E_60 = up2 E 400 (upd (E 400) q1.toInt.toNat q0) → wp_X7_boatOf N P S v1 (fun r_68 => (inb 4 7 ∧ ∀ E_71 : M2, E_71 = up2 E_60 400 (upd (E_60 400) (4 : Int32).toInt.toNat r_68) → (inb v1 6 ∧ (inb 5 7 ∧ ∀ E_83 : M2, E_83 = up2 E_71 400 (upd (E_71 400) (5 : Int32).toInt.toNat (S 205 v1.toInt.toNat)) → (inb v1 6 ∧ (inb 6 7 ∧ ∀ E_96 : M2, E_96 = up2 E_83 400 (upd (E_83 400) (6 : Int32).toInt.toNat (S 204 v1.toInt.toNat)) → (inb v2 7 ∧ K (E_96 400 v2.toInt.toNat) S N E_96))))))))
def wp_X8_leggerToldT (P : M2) (S : M2) (N : M2) (E : M2) (x1 : Int32) (x2 : Int32) (K : Int32 → M2 → M2 → M2 → Prop) : Prop := (inb x1 6 ∧ (inb 0 7 ∧ ∀ E_15 : M2, E_15 = up2 E 400 (upd (E 400) (0 : Int32).toInt.toNat (P 250 x1.toInt.toNat)) → (inb x1 6 ∧ (inb 1 7 ∧ ∀ E_27 : M2, E_27 = up2 E_15 400 (upd (E_15 400) (1 : Int32).toInt.toNat (P 251 x1.toInt.toNat)) → (inb x1 6 ∧ (inb 2 7 ∧ ∀ E_39 : M2, E_39 = up2 E_27 400 (upd (E_27 400) (2 : Int32).toInt.toNat (S 203 x1.toInt.toNat)) → (inb x1 6 ∧ ((¬ (S 204 x1.toInt.toNat) = ((-1)) → wj_X8_leggerToldT_60 P K S N E_39 x1 x2 0 3) ∧ ((S 204 x1.toInt.toNat) = ((-1)) → wj_X8_leggerToldT_60 P K S N E_39 x1 x2 1 3)))))))))
set_option maxRecDepth 100000 in
set_option maxHeartbeats 4000000 in
theorem t_X8_leggerToldT {p : Program} {l : Launch} {e : Env} {s : State} {m : MethodId} {args : Array Value} {below : List Frame} {meth : Method} {c : Code} {Q : State → Prop} {A : Nat → Prop} {D : va_G} {Z : Nat → ClassId} {a q g : Nat → Nat} {rg aa : Nat} {al : Nat} {P : M2} {S : M2} {N : M2} {E : M2} {x1 : Int32} {x2 : Int32} {K : Int32 → M2 → M2 → M2 → Prop} {H : Heap} {locs : List Loc} {ls : Array Slot} (hC : CallFix p m c cX8_leggerTold 4 s args lw_g yX8_leggerTold.cls) (hN : NW s) (hK : va_K D vwCl (tysG Z) s) (hT : TS vwCl D (QA7 Z a q g rg aa al P S N E) A s.heap H locs) (hm : wp_X8_leggerToldT P S N E x1 x2 K) (hret : ∀ (pc : Nat) (ls : Array Slot) (H : Heap) (locs : List Loc) (r : Int32) (u : M2 × M2 × M2), K r u.1 u.2.1 u.2.2 → TS vwCl D (QA7 Z a q g rg aa al P u.1 u.2.1 u.2.2) A s.heap H locs → narrow .int (.int r) = .int r → decode cX8_leggerTold pc = .ok (.ireturn, 1) → W p l e (rk 2 1 7) s m args below meth c H locs 1 7 Q (F0 m pc ls [.int r])) (hl : lv_has ls 4 [(0, .ref (g 220)), (1, .int x1), (2, .int x2)]) : W p l e (rk 2 1 7) s m args below meth c H locs 1 7 Q (F0 m 4 ls [.ref (al)]) := by
  have hx := hC.1
  have hb := hC.2.1
  have L60 : ∀ (S : M2) (N : M2) (E : M2) (v1 : Int32) (v2 : Int32) (q0 : Int32) (q1 : Int32) (H : Heap) (locs : List Loc) (ls : Array Slot), wj_X8_leggerToldT_60 P K S N E v1 v2 q0 q1 → TS vwCl D (QA7 Z a q g rg aa al P S N E) A s.heap H locs → lv_has ls 4 [(0, .ref (g 220)), (1, .int v1), (2, .int v2)] → W p l e (rk 2 1 7) s m args below meth c H locs 1 7 Q (F0 m 60 ls [.int q0, .int q1, .ref (al), .ref (al)]) := by
    intro S N E v1 v2 q0 q1 H locs ls hm hT hl
    refine sQA7_all hC hK hT hm.1 dX8_leggerTold_60 (fun E_60 eE_60 H locs hT => ?_)
    have hm := hm.2 E_60 eE_60
    refine lv_dup hx hb dX8_leggerTold_61 rfl ?_
    refine lv_iconst (v := 4) hx hb dX8_leggerTold_62 (by decide) ?_
    refine lv_aload_n hx hb dX8_leggerTold_63 rfl (lv_at hl 0 rfl) ?_
    refine gQA7_mod_13 hC hK hT.1 wq_1433 dX8_leggerTold_64 ?_
    refine lv_iload_n hx hb dX8_leggerTold_67 rfl (lv_at hl 1 rfl) ?_
    refine kx_X7_boatOf hC hN hK hT.1 hT.D' (sx_SWQA7 Z a q g rg aa al P S N E_60) rfl hm wq_1781 (by decide) hl.1 (Nat.le_of_ble_eq_true rfl) ⟨Nat.le_refl _, Nat.le_refl _⟩ dX8_leggerTold_68 (fun r_68 hm => ?_)
    refine sQA7_all hC hK hT hm.1 dX8_leggerTold_71 (fun E_71 eE_71 H locs hT => ?_)
    have hm := hm.2 E_71 eE_71
    refine lv_dup hx hb dX8_leggerTold_72 rfl ?_
    refine lv_iconst (v := 5) hx hb dX8_leggerTold_73 (by decide) ?_
    refine lv_aload_n hx hb dX8_leggerTold_74 rfl (lv_at hl 0 rfl) ?_
    refine gQA7_mod_13 hC hK hT.1 wq_1433 dX8_leggerTold_75 ?_
    refine gNQA7_st_5 hC hN hK hT.1 wn_1367 dX8_leggerTold_78 ?_
    refine lv_iload_n hx hb dX8_leggerTold_81 rfl (lv_at hl 1 rfl) ?_
    refine w_iald (q0 := 4) hC hK hT.1 rfl hm.1 dX8_leggerTold_82 ?_
    have hm := hm.2
    refine sQA7_all hC hK hT hm.1 dX8_leggerTold_83 (fun E_83 eE_83 H locs hT => ?_)
    have hm := hm.2 E_83 eE_83
    refine lv_dup hx hb dX8_leggerTold_84 rfl ?_
    refine lv_bipush (v := 6) hx hb dX8_leggerTold_85 (by decide) ?_
    refine lv_aload_n hx hb dX8_leggerTold_87 rfl (lv_at hl 0 rfl) ?_
    refine gQA7_mod_13 hC hK hT.1 wq_1433 dX8_leggerTold_88 ?_
    refine gNQA7_st_4 hC hN hK hT.1 wn_1365 dX8_leggerTold_91 ?_
    refine lv_iload_n hx hb dX8_leggerTold_94 rfl (lv_at hl 1 rfl) ?_
    refine w_iald (q0 := 3) hC hK hT.1 rfl hm.1 dX8_leggerTold_95 ?_
    have hm := hm.2
    refine sQA7_all hC hK hT hm.1 dX8_leggerTold_96 (fun E_96 eE_96 H locs hT => ?_)
    have hm := hm.2 E_96 eE_96
    refine lv_astore_n (lv' := [(3, .ref (al)), (0, .ref (g 220)), (1, .int v1), (2, .int v2)]) hx hb dX8_leggerTold_97 rfl hl (by decide) rfl (fun ls hl => ?_)
    refine lv_aload_n hx hb dX8_leggerTold_98 rfl (lv_at hl 0 rfl) ?_
    refine lv_iload_n hx hb dX8_leggerTold_99 rfl (lv_at hl 3 rfl) ?_
    refine w_iald (q0 := 40) hC hK hT.1 rfl hm.1 dX8_leggerTold_100 ?_
    have hm := hm.2
    exact hret 101 _ _ _ _ (S, N, E_96) hm hT rfl dX8_leggerTold_101
  refine lv_dup hx hb dX8_leggerTold_4 rfl ?_
  refine lv_iconst (v := 0) hx hb dX8_leggerTold_5 (by decide) ?_
  refine lv_aload_n hx hb dX8_leggerTold_6 rfl (lv_at hl 0 rfl) ?_
  refine gQA7_mod_11 hC hK hT.1 wq_1430 dX8_leggerTold_7 ?_
  refine gNQA7_plan_10 hC hN hK hT.1 wn_1255 dX8_leggerTold_10 ?_
  refine lv_iload_n hx hb dX8_leggerTold_13 rfl (lv_at hl 1 rfl) ?_
  refine w_iald (q0 := 20) hC hK hT.1 rfl hm.1 dX8_leggerTold_14 ?_
  have hm := hm.2
  refine sQA7_all hC hK hT hm.1 dX8_leggerTold_15 (fun E_15 eE_15 H locs hT => ?_)
  have hm := hm.2 E_15 eE_15
  refine lv_dup hx hb dX8_leggerTold_16 rfl ?_
  refine lv_iconst (v := 1) hx hb dX8_leggerTold_17 (by decide) ?_
  refine lv_aload_n hx hb dX8_leggerTold_18 rfl (lv_at hl 0 rfl) ?_
  refine gQA7_mod_11 hC hK hT.1 wq_1430 dX8_leggerTold_19 ?_
  refine gNQA7_plan_11 hC hN hK hT.1 wn_1258 dX8_leggerTold_22 ?_
  refine lv_iload_n hx hb dX8_leggerTold_25 rfl (lv_at hl 1 rfl) ?_
  refine w_iald (q0 := 21) hC hK hT.1 rfl hm.1 dX8_leggerTold_26 ?_
  have hm := hm.2
  refine sQA7_all hC hK hT hm.1 dX8_leggerTold_27 (fun E_27 eE_27 H locs hT => ?_)
  have hm := hm.2 E_27 eE_27
  refine lv_dup hx hb dX8_leggerTold_28 rfl ?_
  refine lv_iconst (v := 2) hx hb dX8_leggerTold_29 (by decide) ?_
  refine lv_aload_n hx hb dX8_leggerTold_30 rfl (lv_at hl 0 rfl) ?_
  refine gQA7_mod_13 hC hK hT.1 wq_1433 dX8_leggerTold_31 ?_
  refine gNQA7_st_3 hC hN hK hT.1 wn_1363 dX8_leggerTold_34 ?_
  refine lv_iload_n hx hb dX8_leggerTold_37 rfl (lv_at hl 1 rfl) ?_
  refine w_iald (q0 := 2) hC hK hT.1 rfl hm.1 dX8_leggerTold_38 ?_
  have hm := hm.2
  refine sQA7_all hC hK hT hm.1 dX8_leggerTold_39 (fun E_39 eE_39 H locs hT => ?_)
  have hm := hm.2 E_39 eE_39
  refine lv_dup hx hb dX8_leggerTold_40 rfl ?_
  refine lv_iconst (v := 3) hx hb dX8_leggerTold_41 (by decide) ?_
  refine lv_aload_n hx hb dX8_leggerTold_42 rfl (lv_at hl 0 rfl) ?_
  refine gQA7_mod_13 hC hK hT.1 wq_1433 dX8_leggerTold_43 ?_
  refine gNQA7_st_4 hC hN hK hT.1 wn_1365 dX8_leggerTold_46 ?_
  refine lv_iload_n hx hb dX8_leggerTold_49 rfl (lv_at hl 1 rfl) ?_
  refine w_iald (q0 := 3) hC hK hT.1 rfl hm.1 dX8_leggerTold_50 ?_
  have hm := hm.2
  refine lv_iconst (v := (-1)) hx hb dX8_leggerTold_51 (by decide) ?_
  refine lv_icmp_ne (tgt := 59) hx hb dX8_leggerTold_52 (by decide) (fun c_52 => ?_) (fun c_52 => ?_)
  · have hm := hm.1 c_52
    refine lv_iconst (v := 0) hx hb dX8_leggerTold_59 (by decide) ?_
    exact L60 _ _ _ _ _ _ _ _ _ _ hm hT (lv_sub hl [0, 1, 2] rfl)
  · have hm := hm.2 c_52
    refine lv_iconst (v := 1) hx hb dX8_leggerTold_55 (by decide) ?_
    refine lv_goto (tgt := 60) hx hb dX8_leggerTold_56 (by decide) ?_
    exact L60 _ _ _ _ _ _ _ _ _ _ hm hT (lv_sub hl [0, 1, 2] rfl)
def wp_X8_leggerTold (P : M2) (S : M2) (N : M2) (x1 : Int32) (x2 : Int32) (K : Int32 → M2 → M2 → Prop) : Prop := wp_X8_leggerToldT P S N zM x1 x2 (fun r_ S_ N_ E_ => K r_ S_ N_)
set_option maxRecDepth 100000 in
set_option maxHeartbeats 4000000 in
theorem c_X8_leggerTold (l : Launch) (D : va_G) (Z : Nat → ClassId) (a q g : Nat → Nat) (rg aa : Nat) (P : M2) (S : M2) (N : M2) (sz : Nat) (x1 : Int32) (x2 : Int32) (K : Int32 → M2 → M2 → Prop) (hm : wp_X8_leggerTold P S N x1 x2 K) : Met l yX8_leggerTold (wy yX8_leggerTold cX8_leggerTold 4 (some .int)) (rk 2 1 7) (pre vwCl D Z (QW Z a q g rg aa P S N) sz [.ref (g 220), .int x1, .int x2]) (poI vwCl D Z (fun u : M2 × M2 => QW Z a q g rg aa P u.1 u.2) (S, N) sz (fun (r : Int32) (u : M2 × M2) => K r u.1 u.2)) 1 7 (va_A (QW Z a q g rg aa P S N) sz) := by
  refine rw_of (ty := .int) (wsF := (fun u : M2 × M2 => QW Z a q g rg aa P u.1 u.2)) (u0 := (S, N)) (by decide +kernel) (Nat.le_of_ble_eq_true rfl) rfl ?_
  intro p e s m args below meth c Q A hC hN hsz hT hK hret ls hl
  have hx := hC.1
  have hb := hC.2.1
  have hl : lv_has ls 4 [(0, .ref (g 220)), (1, .int x1), (2, .int x2)] := hl
  have hT : TS vwCl D (QW Z a q g rg aa P S N) A s.heap s.heap [] := hT
  refine lv_bipush (v := 7) hx hb dX8_leggerTold_0 (by decide) ?_
  refine w_newI (N := 7) hC hK hT wq_297 (by decide) (by decide) (by decide) (Nat.le_of_ble_eq_true rfl) (Nat.le_of_ble_eq_true rfl) dX8_leggerTold_2 (fun al H hT => ?_)
  have hT : TS vwCl D (QA7 Z a q g rg aa al P S N zM) A s.heap H _ := hT
  exact t_X8_leggerToldT hC hN hK hT hm (fun pc ls H locs r u hk hT hnar hd => hret pc ls H locs r (u.1, u.2.1) hk (show TS vwCl D (QW Z a q g rg aa P (u.1) (u.2.1) ++ [(al, .inl (Z 0, 7, .inl (u.2.2 400)))]) A s.heap H locs from hT).dropR hnar hd) (lv_sub hl [0, 1, 2] rfl)
section KX8_leggerTold
variable {p : Program} {l : Launch} {e : Env} {s : State} {m : MethodId} {args : Array Value} {below : List Frame} {meth : Method} {c : Code} {H H0 : Heap} {locs : List Loc} {cells slots : Nat} {Q : State → Prop} {R : Room} {rn mcR msR : Nat}
variable {pc : Nat} {ls : Array Slot} {rest : List Value} {A : Nat → Prop} {D : va_G}
variable {cc : ByteArray} {nL index : Nat} {own host : String}
theorem k_X8_leggerTold {Z : Nat → ClassId} {a q g : Nat → Nat} {rg aa : Nat} {P : M2} {S : M2} {N : M2} {x1 : Int32} {x2 : Int32} {K : Int32 → M2 → M2 → Prop} (hC : CallFix p m c cc nL s args lw_g own) (hN : NW s) (hK : va_K D vwCl (tysG Z) s) (hT : TS vwCl D (QW Z a q g rg aa P S N) A H0 H locs) (hm : wp_X8_leggerTold P S N x1 x2 K) (hl : Cond.methodLink own index yX8_leggerTold ∈ lw_g) (hlt : 2 < rn) (hsize : ls.size = nL) (hW : (rest.map fun v => v.category).sum ≤ 8) (hf : cells + 1 ≤ mcR ∧ slots + 7 ≤ msR) (hdg : decode cc pc = .ok (.invokevirtual index, 3)) (kk : ∀ (r : Int32) (S1 : M2) (N1 : M2) (H1 : Heap) (locs1 : List Loc), K r S1 N1 → TS vwCl D (QW Z a q g rg aa P S1 N1) A H0 H1 locs1 → W p l e (rk rn mcR msR) s m args below meth c H1 locs1 (cells + 1) (slots + 7) Q (F0 m (pc + 3) ls (.int r :: rest))) : W p l e (rk rn mcR msR) s m args below meth c H locs cells slots Q (F0 m pc ls (.int x2 :: .int x1 :: .ref (g 220) :: rest)) :=
  rw_go (wsF := (fun u : M2 × M2 => QW Z a q g rg aa P u.1 u.2)) (u0 := (S, N)) (wr := []) (isC := cutQW) (isR := []) (pm := cutQW) (ws' := (fun u : M2 × M2 => QW Z a q g rg aa P u.1 u.2)) (runV (As := [.int x1, .int x2]) hC hN (c_X8_leggerTold l D Z a q g rg aa P S N H.size x1 x2 K hm) mi_X8_leggerTold hl wq_1779 wq_108 hlt hT.1 hT.D' hK (q0 := 12) rfl rfl rfl hsize rfl hW hdg hf) (cutOkQW Z a q g rg aa P S N) hT (fun r u H1 locs1 hk hT1 => kk r u.1 u.2 H1 locs1 hk hT1)
end KX8_leggerTold
def wp_X8_boatToldT (P : M2) (S : M2) (N : M2) (E : M2) (x1 : Int32) (x2 : Int32) (K : Int32 → M2 → M2 → M2 → Prop) : Prop := (inb x1 8 ∧ (inb 0 7 ∧ ∀ E_15 : M2, E_15 = up2 E 400 (upd (E 400) (0 : Int32).toInt.toNat (P 253 x1.toInt.toNat)) → (inb x1 8 ∧ (inb 1 7 ∧ ∀ E_27 : M2, E_27 = up2 E_15 400 (upd (E_15 400) (1 : Int32).toInt.toNat (S 207 x1.toInt.toNat)) → (inb x1 8 ∧ (inb 2 7 ∧ ∀ E_39 : M2, E_39 = up2 E_27 400 (upd (E_27 400) (2 : Int32).toInt.toNat (S 208 x1.toInt.toNat)) → (inb x1 8 ∧ (inb 3 7 ∧ ∀ E_51 : M2, E_51 = up2 E_39 400 (upd (E_39 400) (3 : Int32).toInt.toNat (S 206 x1.toInt.toNat)) → (inb x1 8 ∧ (inb 4 7 ∧ ∀ E_63 : M2, E_63 = up2 E_51 400 (upd (E_51 400) (4 : Int32).toInt.toNat (S 209 x1.toInt.toNat)) → (inb x1 8 ∧ (inb 5 7 ∧ ∀ E_75 : M2, E_75 = up2 E_63 400 (upd (E_63 400) (5 : Int32).toInt.toNat (S 210 x1.toInt.toNat)) → (inb x1 8 ∧ (inb 6 7 ∧ ∀ E_88 : M2, E_88 = up2 E_75 400 (upd (E_75 400) (6 : Int32).toInt.toNat (S 211 x1.toInt.toNat)) → (inb x2 7 ∧ K (E_88 400 x2.toInt.toNat) S N E_88)))))))))))))))
set_option maxRecDepth 100000 in
set_option maxHeartbeats 4000000 in
theorem t_X8_boatToldT {p : Program} {l : Launch} {e : Env} {s : State} {m : MethodId} {args : Array Value} {below : List Frame} {meth : Method} {c : Code} {Q : State → Prop} {A : Nat → Prop} {D : va_G} {Z : Nat → ClassId} {a q g : Nat → Nat} {rg aa : Nat} {al : Nat} {P : M2} {S : M2} {N : M2} {E : M2} {x1 : Int32} {x2 : Int32} {K : Int32 → M2 → M2 → M2 → Prop} {H : Heap} {locs : List Loc} {ls : Array Slot} (hC : CallFix p m c cX8_boatTold 4 s args lw_g yX8_boatTold.cls) (hN : NW s) (hK : va_K D vwCl (tysG Z) s) (hT : TS vwCl D (QA7 Z a q g rg aa al P S N E) A s.heap H locs) (hm : wp_X8_boatToldT P S N E x1 x2 K) (hret : ∀ (pc : Nat) (ls : Array Slot) (H : Heap) (locs : List Loc) (r : Int32) (u : M2 × M2 × M2), K r u.1 u.2.1 u.2.2 → TS vwCl D (QA7 Z a q g rg aa al P u.1 u.2.1 u.2.2) A s.heap H locs → narrow .int (.int r) = .int r → decode cX8_boatTold pc = .ok (.ireturn, 1) → W p l e (rk 1 1 7) s m args below meth c H locs 1 7 Q (F0 m pc ls [.int r])) (hl : lv_has ls 4 [(0, .ref (g 220)), (1, .int x1), (2, .int x2)]) : W p l e (rk 1 1 7) s m args below meth c H locs 1 7 Q (F0 m 4 ls [.ref (al)]) := by
  have hx := hC.1
  have hb := hC.2.1
  refine lv_dup hx hb dX8_boatTold_4 rfl ?_
  refine lv_iconst (v := 0) hx hb dX8_boatTold_5 (by decide) ?_
  refine lv_aload_n hx hb dX8_boatTold_6 rfl (lv_at hl 0 rfl) ?_
  refine gQA7_mod_11 hC hK hT.1 wq_1430 dX8_boatTold_7 ?_
  refine gNQA7_plan_13 hC hN hK hT.1 wn_1263 dX8_boatTold_10 ?_
  refine lv_iload_n hx hb dX8_boatTold_13 rfl (lv_at hl 1 rfl) ?_
  refine w_iald (q0 := 22) hC hK hT.1 rfl hm.1 dX8_boatTold_14 ?_
  have hm := hm.2
  refine sQA7_all hC hK hT hm.1 dX8_boatTold_15 (fun E_15 eE_15 H locs hT => ?_)
  have hm := hm.2 E_15 eE_15
  refine lv_dup hx hb dX8_boatTold_16 rfl ?_
  refine lv_iconst (v := 1) hx hb dX8_boatTold_17 (by decide) ?_
  refine lv_aload_n hx hb dX8_boatTold_18 rfl (lv_at hl 0 rfl) ?_
  refine gQA7_mod_13 hC hK hT.1 wq_1433 dX8_boatTold_19 ?_
  refine gNQA7_st_7 hC hN hK hT.1 wn_1371 dX8_boatTold_22 ?_
  refine lv_iload_n hx hb dX8_boatTold_25 rfl (lv_at hl 1 rfl) ?_
  refine w_iald (q0 := 6) hC hK hT.1 rfl hm.1 dX8_boatTold_26 ?_
  have hm := hm.2
  refine sQA7_all hC hK hT hm.1 dX8_boatTold_27 (fun E_27 eE_27 H locs hT => ?_)
  have hm := hm.2 E_27 eE_27
  refine lv_dup hx hb dX8_boatTold_28 rfl ?_
  refine lv_iconst (v := 2) hx hb dX8_boatTold_29 (by decide) ?_
  refine lv_aload_n hx hb dX8_boatTold_30 rfl (lv_at hl 0 rfl) ?_
  refine gQA7_mod_13 hC hK hT.1 wq_1433 dX8_boatTold_31 ?_
  refine gNQA7_st_8 hC hN hK hT.1 wn_1373 dX8_boatTold_34 ?_
  refine lv_iload_n hx hb dX8_boatTold_37 rfl (lv_at hl 1 rfl) ?_
  refine w_iald (q0 := 7) hC hK hT.1 rfl hm.1 dX8_boatTold_38 ?_
  have hm := hm.2
  refine sQA7_all hC hK hT hm.1 dX8_boatTold_39 (fun E_39 eE_39 H locs hT => ?_)
  have hm := hm.2 E_39 eE_39
  refine lv_dup hx hb dX8_boatTold_40 rfl ?_
  refine lv_iconst (v := 3) hx hb dX8_boatTold_41 (by decide) ?_
  refine lv_aload_n hx hb dX8_boatTold_42 rfl (lv_at hl 0 rfl) ?_
  refine gQA7_mod_13 hC hK hT.1 wq_1433 dX8_boatTold_43 ?_
  refine gNQA7_st_6 hC hN hK hT.1 wn_1369 dX8_boatTold_46 ?_
  refine lv_iload_n hx hb dX8_boatTold_49 rfl (lv_at hl 1 rfl) ?_
  refine w_iald (q0 := 5) hC hK hT.1 rfl hm.1 dX8_boatTold_50 ?_
  have hm := hm.2
  refine sQA7_all hC hK hT hm.1 dX8_boatTold_51 (fun E_51 eE_51 H locs hT => ?_)
  have hm := hm.2 E_51 eE_51
  refine lv_dup hx hb dX8_boatTold_52 rfl ?_
  refine lv_iconst (v := 4) hx hb dX8_boatTold_53 (by decide) ?_
  refine lv_aload_n hx hb dX8_boatTold_54 rfl (lv_at hl 0 rfl) ?_
  refine gQA7_mod_13 hC hK hT.1 wq_1433 dX8_boatTold_55 ?_
  refine gNQA7_st_9 hC hN hK hT.1 wn_1375 dX8_boatTold_58 ?_
  refine lv_iload_n hx hb dX8_boatTold_61 rfl (lv_at hl 1 rfl) ?_
  refine w_iald (q0 := 8) hC hK hT.1 rfl hm.1 dX8_boatTold_62 ?_
  have hm := hm.2
  refine sQA7_all hC hK hT hm.1 dX8_boatTold_63 (fun E_63 eE_63 H locs hT => ?_)
  have hm := hm.2 E_63 eE_63
  refine lv_dup hx hb dX8_boatTold_64 rfl ?_
  refine lv_iconst (v := 5) hx hb dX8_boatTold_65 (by decide) ?_
  refine lv_aload_n hx hb dX8_boatTold_66 rfl (lv_at hl 0 rfl) ?_
  refine gQA7_mod_13 hC hK hT.1 wq_1433 dX8_boatTold_67 ?_
  refine gNQA7_st_10 hC hN hK hT.1 wn_1377 dX8_boatTold_70 ?_
  refine lv_iload_n hx hb dX8_boatTold_73 rfl (lv_at hl 1 rfl) ?_
  refine w_iald (q0 := 9) hC hK hT.1 rfl hm.1 dX8_boatTold_74 ?_
  have hm := hm.2
  refine sQA7_all hC hK hT hm.1 dX8_boatTold_75 (fun E_75 eE_75 H locs hT => ?_)
  have hm := hm.2 E_75 eE_75
  refine lv_dup hx hb dX8_boatTold_76 rfl ?_
  refine lv_bipush (v := 6) hx hb dX8_boatTold_77 (by decide) ?_
  refine lv_aload_n hx hb dX8_boatTold_79 rfl (lv_at hl 0 rfl) ?_
  refine gQA7_mod_13 hC hK hT.1 wq_1433 dX8_boatTold_80 ?_
  refine gNQA7_st_11 hC hN hK hT.1 wn_1379 dX8_boatTold_83 ?_
  refine lv_iload_n hx hb dX8_boatTold_86 rfl (lv_at hl 1 rfl) ?_
  refine w_iald (q0 := 10) hC hK hT.1 rfl hm.1 dX8_boatTold_87 ?_
  have hm := hm.2
  refine sQA7_all hC hK hT hm.1 dX8_boatTold_88 (fun E_88 eE_88 H locs hT => ?_)
  have hm := hm.2 E_88 eE_88
  refine lv_astore_n (lv' := [(3, .ref (al)), (0, .ref (g 220)), (1, .int x1), (2, .int x2)]) hx hb dX8_boatTold_89 rfl hl (by decide) rfl (fun ls hl => ?_)
  refine lv_aload_n hx hb dX8_boatTold_90 rfl (lv_at hl 0 rfl) ?_
  refine lv_iload_n hx hb dX8_boatTold_91 rfl (lv_at hl 3 rfl) ?_
  refine w_iald (q0 := 40) hC hK hT.1 rfl hm.1 dX8_boatTold_92 ?_
  have hm := hm.2
  exact hret 93 _ _ _ _ (S, N, E_88) hm hT rfl dX8_boatTold_93
def wp_X8_boatTold (P : M2) (S : M2) (N : M2) (x1 : Int32) (x2 : Int32) (K : Int32 → M2 → M2 → Prop) : Prop := wp_X8_boatToldT P S N zM x1 x2 (fun r_ S_ N_ E_ => K r_ S_ N_)
set_option maxRecDepth 100000 in
set_option maxHeartbeats 4000000 in
theorem c_X8_boatTold (l : Launch) (D : va_G) (Z : Nat → ClassId) (a q g : Nat → Nat) (rg aa : Nat) (P : M2) (S : M2) (N : M2) (sz : Nat) (x1 : Int32) (x2 : Int32) (K : Int32 → M2 → M2 → Prop) (hm : wp_X8_boatTold P S N x1 x2 K) : Met l yX8_boatTold (wy yX8_boatTold cX8_boatTold 4 (some .int)) (rk 1 1 7) (pre vwCl D Z (QW Z a q g rg aa P S N) sz [.ref (g 220), .int x1, .int x2]) (poI vwCl D Z (fun u : M2 × M2 => QW Z a q g rg aa P u.1 u.2) (S, N) sz (fun (r : Int32) (u : M2 × M2) => K r u.1 u.2)) 1 7 (va_A (QW Z a q g rg aa P S N) sz) := by
  refine rw_of (ty := .int) (wsF := (fun u : M2 × M2 => QW Z a q g rg aa P u.1 u.2)) (u0 := (S, N)) (by decide +kernel) (Nat.le_of_ble_eq_true rfl) rfl ?_
  intro p e s m args below meth c Q A hC hN hsz hT hK hret ls hl
  have hx := hC.1
  have hb := hC.2.1
  have hl : lv_has ls 4 [(0, .ref (g 220)), (1, .int x1), (2, .int x2)] := hl
  have hT : TS vwCl D (QW Z a q g rg aa P S N) A s.heap s.heap [] := hT
  refine lv_bipush (v := 7) hx hb dX8_boatTold_0 (by decide) ?_
  refine w_newI (N := 7) hC hK hT wq_297 (by decide) (by decide) (by decide) (Nat.le_of_ble_eq_true rfl) (Nat.le_of_ble_eq_true rfl) dX8_boatTold_2 (fun al H hT => ?_)
  have hT : TS vwCl D (QA7 Z a q g rg aa al P S N zM) A s.heap H _ := hT
  exact t_X8_boatToldT hC hN hK hT hm (fun pc ls H locs r u hk hT hnar hd => hret pc ls H locs r (u.1, u.2.1) hk (show TS vwCl D (QW Z a q g rg aa P (u.1) (u.2.1) ++ [(al, .inl (Z 0, 7, .inl (u.2.2 400)))]) A s.heap H locs from hT).dropR hnar hd) (lv_sub hl [0, 1, 2] rfl)
section KX8_boatTold
variable {p : Program} {l : Launch} {e : Env} {s : State} {m : MethodId} {args : Array Value} {below : List Frame} {meth : Method} {c : Code} {H H0 : Heap} {locs : List Loc} {cells slots : Nat} {Q : State → Prop} {R : Room} {rn mcR msR : Nat}
variable {pc : Nat} {ls : Array Slot} {rest : List Value} {A : Nat → Prop} {D : va_G}
variable {cc : ByteArray} {nL index : Nat} {own host : String}
theorem k_X8_boatTold {Z : Nat → ClassId} {a q g : Nat → Nat} {rg aa : Nat} {P : M2} {S : M2} {N : M2} {x1 : Int32} {x2 : Int32} {K : Int32 → M2 → M2 → Prop} (hC : CallFix p m c cc nL s args lw_g own) (hN : NW s) (hK : va_K D vwCl (tysG Z) s) (hT : TS vwCl D (QW Z a q g rg aa P S N) A H0 H locs) (hm : wp_X8_boatTold P S N x1 x2 K) (hl : Cond.methodLink own index yX8_boatTold ∈ lw_g) (hlt : 1 < rn) (hsize : ls.size = nL) (hW : (rest.map fun v => v.category).sum ≤ 8) (hf : cells + 1 ≤ mcR ∧ slots + 7 ≤ msR) (hdg : decode cc pc = .ok (.invokevirtual index, 3)) (kk : ∀ (r : Int32) (S1 : M2) (N1 : M2) (H1 : Heap) (locs1 : List Loc), K r S1 N1 → TS vwCl D (QW Z a q g rg aa P S1 N1) A H0 H1 locs1 → W p l e (rk rn mcR msR) s m args below meth c H1 locs1 (cells + 1) (slots + 7) Q (F0 m (pc + 3) ls (.int r :: rest))) : W p l e (rk rn mcR msR) s m args below meth c H locs cells slots Q (F0 m pc ls (.int x2 :: .int x1 :: .ref (g 220) :: rest)) :=
  rw_go (wsF := (fun u : M2 × M2 => QW Z a q g rg aa P u.1 u.2)) (u0 := (S, N)) (wr := []) (isC := cutQW) (isR := []) (pm := cutQW) (ws' := (fun u : M2 × M2 => QW Z a q g rg aa P u.1 u.2)) (runV (As := [.int x1, .int x2]) hC hN (c_X8_boatTold l D Z a q g rg aa P S N H.size x1 x2 K hm) mi_X8_boatTold hl wq_1795 wq_110 hlt hT.1 hT.D' hK (q0 := 12) rfl rfl rfl hsize rfl hW hdg hf) (cutOkQW Z a q g rg aa P S N) hT (fun r u H1 locs1 hk hT1 => kk r u.1 u.2 H1 locs1 hk hT1)
end KX8_boatTold
def wp_X8_count (P : M2) (S : M2) (N : M2) (x1 : Int32) (K : Int32 → M2 → M2 → Prop) : Prop := (∀ N_2 : M2, N_2 = up2 N 220 (fun _ => 0) → wp_X8_isIn x1 0 13 (fun r_9 => ((r_9 = 0 → wp_X8_no P S N_2 1 (fun r_25 S_25 N_25 => K r_25 S_25 N_25)) ∧ (¬ r_9 = 0 → wp_X8_counted P S N_2 x1 (fun r_17 S_17 N_17 => K r_17 S_17 N_17)))))
set_option maxRecDepth 100000 in
set_option maxHeartbeats 4000000 in
theorem c_X8_count (l : Launch) (D : va_G) (Z : Nat → ClassId) (a q g : Nat → Nat) (rg aa : Nat) (P : M2) (S : M2) (N : M2) (sz : Nat) (x1 : Int32) (K : Int32 → M2 → M2 → Prop) (hm : wp_X8_count P S N x1 K) : Met l yX8_count (wy yX8_count cX8_count 2 (some .int)) (rk 4 1 8) (pre vwCl D Z (QW Z a q g rg aa P S N) sz [.ref (g 220), .int x1]) (poI vwCl D Z (fun u : M2 × M2 => QW Z a q g rg aa P u.1 u.2) (S, N) sz (fun (r : Int32) (u : M2 × M2) => K r u.1 u.2)) 1 8 (va_A (QW Z a q g rg aa P S N) sz) := by
  refine rw_of (ty := .int) (wsF := (fun u : M2 × M2 => QW Z a q g rg aa P u.1 u.2)) (u0 := (S, N)) (by decide +kernel) (Nat.le_of_ble_eq_true rfl) rfl ?_
  intro p e s m args below meth c Q A hC hN hsz hT hK hret ls hl
  have hx := hC.1
  have hb := hC.2.1
  have hl : lv_has ls 2 [(0, .ref (g 220)), (1, .int x1)] := hl
  have hT : TS vwCl D (QW Z a q g rg aa P S N) A s.heap s.heap [] := hT
  refine lv_aload_n hx hb dX8_count_0 rfl (lv_at hl 0 rfl) ?_
  refine lv_iconst (v := 0) hx hb dX8_count_1 (by decide) ?_
  refine pQW_mod_0 hC hK hT wq_1419 dX8_count_2 (fun N_2 eN_2 H locs hT => ?_)
  have hm := hm N_2 eN_2
  refine lv_iload_n hx hb dX8_count_5 rfl (lv_at hl 1 rfl) ?_
  refine lv_iconst (v := 0) hx hb dX8_count_6 (by decide) ?_
  refine lv_bipush (v := 13) hx hb dX8_count_7 (by decide) ?_
  refine kx_X8_isIn hC hN hK hT.1 hT.D' (sx_EWQW Z a q g rg aa P S N_2) rfl hm wq_1482 (by decide) hl.1 (Nat.le_of_ble_eq_true rfl) ⟨by omega, by omega⟩ dX8_count_9 (fun r_9 hm => ?_)
  refine lv_if_eq (tgt := 23) hx hb dX8_count_12 (by decide) (fun c_12 => ?_) (fun c_12 => ?_)
  · have hm := hm.1 c_12
    refine lv_aload_n hx hb dX8_count_23 rfl (lv_at hl 0 rfl) ?_
    refine lv_iconst (v := 1) hx hb dX8_count_24 (by decide) ?_
    refine k_X8_no hC hN hK hT hm wq_1474 (by decide) hl.1 (Nat.le_of_ble_eq_true rfl) ⟨by omega, by omega⟩ dX8_count_25 (fun r_25 S_25 N_25 H locs hm hT => ?_)
    refine W.widen (k := 1) (n := 8) (by omega) (by omega) ?_
    exact hret 28 _ _ _ _ (S_25, N_25) hm hT rfl dX8_count_28
  · have hm := hm.2 c_12
    refine lv_aload_n hx hb dX8_count_15 rfl (lv_at hl 0 rfl) ?_
    refine lv_iload_n hx hb dX8_count_16 rfl (lv_at hl 1 rfl) ?_
    refine k_X8_counted hC hN hK hT hm wq_1720 (by decide) hl.1 (Nat.le_of_ble_eq_true rfl) ⟨by omega, by omega⟩ dX8_count_17 (fun r_17 S_17 N_17 H locs hm hT => ?_)
    refine lv_goto (tgt := 28) hx hb dX8_count_20 (by decide) ?_
    refine W.widen (k := 1) (n := 8) (by omega) (by omega) ?_
    exact hret 28 _ _ _ _ (S_17, N_17) hm hT rfl dX8_count_28
section KX8_count
variable {p : Program} {l : Launch} {e : Env} {s : State} {m : MethodId} {args : Array Value} {below : List Frame} {meth : Method} {c : Code} {H H0 : Heap} {locs : List Loc} {cells slots : Nat} {Q : State → Prop} {R : Room} {rn mcR msR : Nat}
variable {pc : Nat} {ls : Array Slot} {rest : List Value} {A : Nat → Prop} {D : va_G}
variable {cc : ByteArray} {nL index : Nat} {own host : String}
end KX8_count
def wp_X8_legger (P : M2) (S : M2) (N : M2) (x1 : Int32) (x2 : Int32) (K : Int32 → M2 → M2 → Prop) : Prop := (∀ N_2 : M2, N_2 = up2 N 220 (fun _ => 0) → wp_X8_isLegger P S N_2 x1 (fun r_7 => ((r_7 = 0 → wp_X8_no P S N_2 1 (fun r_34 S_34 N_34 => K r_34 S_34 N_34)) ∧ (¬ r_7 = 0 → wp_X8_isIn x2 0 6 (fun r_17 => ((r_17 = 0 → wp_X8_no P S N_2 1 (fun r_34 S_34 N_34 => K r_34 S_34 N_34)) ∧ (¬ r_17 = 0 → wp_X8_leggerTold P S N_2 x1 x2 (fun r_26 S_26 N_26 => K r_26 S_26 N_26))))))))
set_option maxRecDepth 100000 in
set_option maxHeartbeats 4000000 in
theorem c_X8_legger (l : Launch) (D : va_G) (Z : Nat → ClassId) (a q g : Nat → Nat) (rg aa : Nat) (P : M2) (S : M2) (N : M2) (sz : Nat) (x1 : Int32) (x2 : Int32) (K : Int32 → M2 → M2 → Prop) (hm : wp_X8_legger P S N x1 x2 K) : Met l yX8_legger (wy yX8_legger cX8_legger 3 (some .int)) (rk 3 1 7) (pre vwCl D Z (QW Z a q g rg aa P S N) sz [.ref (g 220), .int x1, .int x2]) (poI vwCl D Z (fun u : M2 × M2 => QW Z a q g rg aa P u.1 u.2) (S, N) sz (fun (r : Int32) (u : M2 × M2) => K r u.1 u.2)) 1 7 (va_A (QW Z a q g rg aa P S N) sz) := by
  refine rw_of (ty := .int) (wsF := (fun u : M2 × M2 => QW Z a q g rg aa P u.1 u.2)) (u0 := (S, N)) (by decide +kernel) (Nat.le_of_ble_eq_true rfl) rfl ?_
  intro p e s m args below meth c Q A hC hN hsz hT hK hret ls hl
  have hx := hC.1
  have hb := hC.2.1
  have hl : lv_has ls 3 [(0, .ref (g 220)), (1, .int x1), (2, .int x2)] := hl
  have hT : TS vwCl D (QW Z a q g rg aa P S N) A s.heap s.heap [] := hT
  refine lv_aload_n hx hb dX8_legger_0 rfl (lv_at hl 0 rfl) ?_
  refine lv_iconst (v := 0) hx hb dX8_legger_1 (by decide) ?_
  refine pQW_mod_0 hC hK hT wq_1419 dX8_legger_2 (fun N_2 eN_2 H locs hT => ?_)
  have hm := hm N_2 eN_2
  refine lv_aload_n hx hb dX8_legger_5 rfl (lv_at hl 0 rfl) ?_
  refine lv_iload_n hx hb dX8_legger_6 rfl (lv_at hl 1 rfl) ?_
  refine k_X8_isLegger hC hN hK hT.1 hT.D' hm wq_1773 (by decide) hl.1 (Nat.le_of_ble_eq_true rfl) ⟨by omega, by omega⟩ dX8_legger_7 (fun r_7 hm => ?_)
  refine lv_if_eq (tgt := 32) hx hb dX8_legger_10 (by decide) (fun c_10 => ?_) (fun c_10 => ?_)
  · have hm := hm.1 c_10
    refine lv_aload_n hx hb dX8_legger_32 rfl (lv_at hl 0 rfl) ?_
    refine lv_iconst (v := 1) hx hb dX8_legger_33 (by decide) ?_
    refine k_X8_no hC hN hK hT hm wq_1474 (by decide) hl.1 (Nat.le_of_ble_eq_true rfl) ⟨by omega, by omega⟩ dX8_legger_34 (fun r_34 S_34 N_34 H locs hm hT => ?_)
    refine W.widen (k := 1) (n := 7) (by omega) (by omega) ?_
    exact hret 37 _ _ _ _ (S_34, N_34) hm hT rfl dX8_legger_37
  · have hm := hm.2 c_10
    refine lv_iload_n hx hb dX8_legger_13 rfl (lv_at hl 2 rfl) ?_
    refine lv_iconst (v := 0) hx hb dX8_legger_14 (by decide) ?_
    refine lv_bipush (v := 6) hx hb dX8_legger_15 (by decide) ?_
    refine kx_X8_isIn hC hN hK hT.1 hT.D' (sx_EWQW Z a q g rg aa P S N_2) rfl hm wq_1482 (by decide) hl.1 (Nat.le_of_ble_eq_true rfl) ⟨by omega, by omega⟩ dX8_legger_17 (fun r_17 hm => ?_)
    refine lv_if_eq (tgt := 32) hx hb dX8_legger_20 (by decide) (fun c_20 => ?_) (fun c_20 => ?_)
    · have hm := hm.1 c_20
      refine lv_aload_n hx hb dX8_legger_32 rfl (lv_at hl 0 rfl) ?_
      refine lv_iconst (v := 1) hx hb dX8_legger_33 (by decide) ?_
      refine k_X8_no hC hN hK hT hm wq_1474 (by decide) hl.1 (Nat.le_of_ble_eq_true rfl) ⟨by omega, by omega⟩ dX8_legger_34 (fun r_34 S_34 N_34 H locs hm hT => ?_)
      refine W.widen (k := 1) (n := 7) (by omega) (by omega) ?_
      exact hret 37 _ _ _ _ (S_34, N_34) hm hT rfl dX8_legger_37
    · have hm := hm.2 c_20
      refine lv_aload_n hx hb dX8_legger_23 rfl (lv_at hl 0 rfl) ?_
      refine lv_iload_n hx hb dX8_legger_24 rfl (lv_at hl 1 rfl) ?_
      refine lv_iload_n hx hb dX8_legger_25 rfl (lv_at hl 2 rfl) ?_
      refine k_X8_leggerTold hC hN hK hT hm wq_1777 (by decide) hl.1 (Nat.le_of_ble_eq_true rfl) ⟨by omega, by omega⟩ dX8_legger_26 (fun r_26 S_26 N_26 H locs hm hT => ?_)
      refine lv_goto (tgt := 37) hx hb dX8_legger_29 (by decide) ?_
      refine W.widen (k := 1) (n := 7) (by omega) (by omega) ?_
      exact hret 37 _ _ _ _ (S_26, N_26) hm hT rfl dX8_legger_37
section KX8_legger
variable {p : Program} {l : Launch} {e : Env} {s : State} {m : MethodId} {args : Array Value} {below : List Frame} {meth : Method} {c : Code} {H H0 : Heap} {locs : List Loc} {cells slots : Nat} {Q : State → Prop} {R : Room} {rn mcR msR : Nat}
variable {pc : Nat} {ls : Array Slot} {rest : List Value} {A : Nat → Prop} {D : va_G}
variable {cc : ByteArray} {nL index : Nat} {own host : String}
end KX8_legger
def wp_X8_boat (P : M2) (S : M2) (N : M2) (x1 : Int32) (x2 : Int32) (K : Int32 → M2 → M2 → Prop) : Prop := (∀ N_2 : M2, N_2 = up2 N 220 (fun _ => 0) → wp_X8_isBoat P S N_2 x1 (fun r_7 => ((r_7 = 0 → wp_X8_no P S N_2 1 (fun r_34 S_34 N_34 => K r_34 S_34 N_34)) ∧ (¬ r_7 = 0 → wp_X8_isIn x2 0 6 (fun r_17 => ((r_17 = 0 → wp_X8_no P S N_2 1 (fun r_34 S_34 N_34 => K r_34 S_34 N_34)) ∧ (¬ r_17 = 0 → wp_X8_boatTold P S N_2 x1 x2 (fun r_26 S_26 N_26 => K r_26 S_26 N_26))))))))
set_option maxRecDepth 100000 in
set_option maxHeartbeats 4000000 in
theorem c_X8_boat (l : Launch) (D : va_G) (Z : Nat → ClassId) (a q g : Nat → Nat) (rg aa : Nat) (P : M2) (S : M2) (N : M2) (sz : Nat) (x1 : Int32) (x2 : Int32) (K : Int32 → M2 → M2 → Prop) (hm : wp_X8_boat P S N x1 x2 K) : Met l yX8_boat (wy yX8_boat cX8_boat 3 (some .int)) (rk 3 1 7) (pre vwCl D Z (QW Z a q g rg aa P S N) sz [.ref (g 220), .int x1, .int x2]) (poI vwCl D Z (fun u : M2 × M2 => QW Z a q g rg aa P u.1 u.2) (S, N) sz (fun (r : Int32) (u : M2 × M2) => K r u.1 u.2)) 1 7 (va_A (QW Z a q g rg aa P S N) sz) := by
  refine rw_of (ty := .int) (wsF := (fun u : M2 × M2 => QW Z a q g rg aa P u.1 u.2)) (u0 := (S, N)) (by decide +kernel) (Nat.le_of_ble_eq_true rfl) rfl ?_
  intro p e s m args below meth c Q A hC hN hsz hT hK hret ls hl
  have hx := hC.1
  have hb := hC.2.1
  have hl : lv_has ls 3 [(0, .ref (g 220)), (1, .int x1), (2, .int x2)] := hl
  have hT : TS vwCl D (QW Z a q g rg aa P S N) A s.heap s.heap [] := hT
  refine lv_aload_n hx hb dX8_boat_0 rfl (lv_at hl 0 rfl) ?_
  refine lv_iconst (v := 0) hx hb dX8_boat_1 (by decide) ?_
  refine pQW_mod_0 hC hK hT wq_1419 dX8_boat_2 (fun N_2 eN_2 H locs hT => ?_)
  have hm := hm N_2 eN_2
  refine lv_aload_n hx hb dX8_boat_5 rfl (lv_at hl 0 rfl) ?_
  refine lv_iload_n hx hb dX8_boat_6 rfl (lv_at hl 1 rfl) ?_
  refine k_X8_isBoat hC hN hK hT.1 hT.D' hm wq_1789 (by decide) hl.1 (Nat.le_of_ble_eq_true rfl) ⟨by omega, by omega⟩ dX8_boat_7 (fun r_7 hm => ?_)
  refine lv_if_eq (tgt := 32) hx hb dX8_boat_10 (by decide) (fun c_10 => ?_) (fun c_10 => ?_)
  · have hm := hm.1 c_10
    refine lv_aload_n hx hb dX8_boat_32 rfl (lv_at hl 0 rfl) ?_
    refine lv_iconst (v := 1) hx hb dX8_boat_33 (by decide) ?_
    refine k_X8_no hC hN hK hT hm wq_1474 (by decide) hl.1 (Nat.le_of_ble_eq_true rfl) ⟨by omega, by omega⟩ dX8_boat_34 (fun r_34 S_34 N_34 H locs hm hT => ?_)
    refine W.widen (k := 1) (n := 7) (by omega) (by omega) ?_
    exact hret 37 _ _ _ _ (S_34, N_34) hm hT rfl dX8_boat_37
  · have hm := hm.2 c_10
    refine lv_iload_n hx hb dX8_boat_13 rfl (lv_at hl 2 rfl) ?_
    refine lv_iconst (v := 0) hx hb dX8_boat_14 (by decide) ?_
    refine lv_bipush (v := 6) hx hb dX8_boat_15 (by decide) ?_
    refine kx_X8_isIn hC hN hK hT.1 hT.D' (sx_EWQW Z a q g rg aa P S N_2) rfl hm wq_1482 (by decide) hl.1 (Nat.le_of_ble_eq_true rfl) ⟨by omega, by omega⟩ dX8_boat_17 (fun r_17 hm => ?_)
    refine lv_if_eq (tgt := 32) hx hb dX8_boat_20 (by decide) (fun c_20 => ?_) (fun c_20 => ?_)
    · have hm := hm.1 c_20
      refine lv_aload_n hx hb dX8_boat_32 rfl (lv_at hl 0 rfl) ?_
      refine lv_iconst (v := 1) hx hb dX8_boat_33 (by decide) ?_
      refine k_X8_no hC hN hK hT hm wq_1474 (by decide) hl.1 (Nat.le_of_ble_eq_true rfl) ⟨by omega, by omega⟩ dX8_boat_34 (fun r_34 S_34 N_34 H locs hm hT => ?_)
      refine W.widen (k := 1) (n := 7) (by omega) (by omega) ?_
      exact hret 37 _ _ _ _ (S_34, N_34) hm hT rfl dX8_boat_37
    · have hm := hm.2 c_20
      refine lv_aload_n hx hb dX8_boat_23 rfl (lv_at hl 0 rfl) ?_
      refine lv_iload_n hx hb dX8_boat_24 rfl (lv_at hl 1 rfl) ?_
      refine lv_iload_n hx hb dX8_boat_25 rfl (lv_at hl 2 rfl) ?_
      refine k_X8_boatTold hC hN hK hT hm wq_1793 (by decide) hl.1 (Nat.le_of_ble_eq_true rfl) ⟨by omega, by omega⟩ dX8_boat_26 (fun r_26 S_26 N_26 H locs hm hT => ?_)
      refine lv_goto (tgt := 37) hx hb dX8_boat_29 (by decide) ?_
      refine W.widen (k := 1) (n := 7) (by omega) (by omega) ?_
      exact hret 37 _ _ _ _ (S_26, N_26) hm hT rfl dX8_boat_37
section KX8_boat
variable {p : Program} {l : Launch} {e : Env} {s : State} {m : MethodId} {args : Array Value} {below : List Frame} {meth : Method} {c : Code} {H H0 : Heap} {locs : List Loc} {cells slots : Nat} {Q : State → Prop} {R : Room} {rn mcR msR : Nat}
variable {pc : Nat} {ls : Array Slot} {rest : List Value} {A : Nat → Prop} {D : va_G}
variable {cc : ByteArray} {nL index : Nat} {own host : String}
end KX8_boat
def wl_X8_mean_9 (P : M2) (K : UInt64 → M2 → M2 → Prop) : Nat → M2 → M2 → Int32 → Int32 → Prop
  | 0, _, _, _, _ => False
  | n + 1, S, N, v1, v2 => (((P 249 0) ≤ v2 → ((¬ (P 249 0) = 0 → (vf_n64 (FP.ddiv (FP.i2d v1) (FP.i2d (P 249 0))) ∧ K (FP.ddiv (FP.i2d v1) (FP.i2d (P 249 0))) S N)) ∧ ((P 249 0) = 0 → K FP.dconst0 S N))) ∧ (¬ (P 249 0) ≤ v2 → (inb v2 6 ∧ (∀ v1_31, v1_31 = v1 + (S 203 v2.toInt.toNat) → (∀ v2_32 : Int32, v2_32 = v2 + 1 → wl_X8_mean_9 P K n S N v1_31 v2_32)))))
def wp_X8_mean (P : M2) (S : M2) (N : M2) (K : UInt64 → M2 → M2 → Prop) : Prop := (∀ N_2 : M2, N_2 = up2 N 220 (fun _ => 0) → wl_X8_mean_9 P K fK S N_2 0 0)
set_option maxRecDepth 100000 in
set_option maxHeartbeats 4000000 in
theorem c_X8_mean (l : Launch) (D : va_G) (Z : Nat → ClassId) (a q g : Nat → Nat) (rg aa : Nat) (P : M2) (S : M2) (N : M2) (sz : Nat) (K : UInt64 → M2 → M2 → Prop) (hm : wp_X8_mean P S N K) : Met l yX8_mean (wy yX8_mean cX8_mean 3 (some .double)) (rk 1 0 0) (pre vwCl D Z (QW Z a q g rg aa P S N) sz [.ref (g 220)]) (poD vwCl D Z (fun u : M2 × M2 => QW Z a q g rg aa P u.1 u.2) (S, N) sz (fun (r : UInt64) (u : M2 × M2) => K r u.1 u.2)) 0 0 (va_A (QW Z a q g rg aa P S N) sz) := by
  refine rwd_of (wsF := (fun u : M2 × M2 => QW Z a q g rg aa P u.1 u.2)) (u0 := (S, N)) (by decide +kernel) (Nat.le_of_ble_eq_true rfl) rfl ?_
  intro p e s m args below meth c Q A hC hN hsz hT hK hret ls hl
  have hx := hC.1
  have hb := hC.2.1
  have hl : lv_has ls 3 [(0, .ref (g 220))] := hl
  have hT : TS vwCl D (QW Z a q g rg aa P S N) A s.heap s.heap [] := hT
  have L9 : ∀ (n9 : Nat), ∀ (S : M2) (N : M2) (v1 : Int32) (v2 : Int32) (H : Heap) (locs : List Loc) (ls : Array Slot), wl_X8_mean_9 P K n9 S N v1 v2 → TS vwCl D (QW Z a q g rg aa P S N) A s.heap H locs → lv_has ls 3 [(0, .ref (g 220)), (1, .int v1), (2, .int v2)] → W p l e (rk 1 0 0) s m args below meth c H locs 0 0 Q (F0 m 9 ls []) := by
    intro n9
    induction n9 with
    | zero =>
      intro S N v1 v2 H locs ls hm hT hl
      exact False.elim hm
    | succ n9 ih9 =>
      intro S N v1 v2 H locs ls hm hT hl
      refine lv_iload_n hx hb dX8_mean_9 rfl (lv_at hl 2 rfl) ?_
      refine lv_aload_n hx hb dX8_mean_10 rfl (lv_at hl 0 rfl) ?_
      refine gQW_mod_11 hC hK hT.1 wq_1430 dX8_mean_11 ?_
      refine gNQW_plan_9 hC hN hK hT.1 wn_1251 dX8_mean_14 ?_
      refine lv_icmp_ge (tgt := 38) hx hb dX8_mean_17 (by decide) (fun c_17 => ?_) (fun c_17 => ?_)
      · have hm := hm.1 c_17
        refine lv_aload_n hx hb dX8_mean_38 rfl (lv_at hl 0 rfl) ?_
        refine gQW_mod_11 hC hK hT.1 wq_1430 dX8_mean_39 ?_
        refine gNQW_plan_9 hC hN hK hT.1 wn_1251 dX8_mean_42 ?_
        refine lv_if_ne (tgt := 52) hx hb dX8_mean_45 (by decide) (fun c_45 => ?_) (fun c_45 => ?_)
        · have hm := hm.1 c_45
          refine lv_iload_n hx hb dX8_mean_52 rfl (lv_at hl 1 rfl) ?_
          refine lv_i2d hx hb dX8_mean_53 ?_
          refine lv_aload_n hx hb dX8_mean_54 rfl (lv_at hl 0 rfl) ?_
          refine gQW_mod_11 hC hK hT.1 wq_1430 dX8_mean_55 ?_
          refine gNQW_plan_9 hC hN hK hT.1 wn_1251 dX8_mean_58 ?_
          refine lv_i2d hx hb dX8_mean_61 ?_
          refine lv_ddiv hx hb dX8_mean_62 hm.1 ?_
          have hm := hm.2
          exact hret 63 _ _ _ _ (S, N) hm hT dX8_mean_63
        · have hm := hm.2 c_45
          refine lv_dconst0 hx hb dX8_mean_48 ?_
          refine lv_goto (tgt := 63) hx hb dX8_mean_49 (by decide) ?_
          exact hret 63 _ _ _ _ (S, N) hm hT dX8_mean_63
      · have hm := hm.2 c_17
        refine lv_iload_n hx hb dX8_mean_20 rfl (lv_at hl 1 rfl) ?_
        refine lv_aload_n hx hb dX8_mean_21 rfl (lv_at hl 0 rfl) ?_
        refine gQW_mod_13 hC hK hT.1 wq_1433 dX8_mean_22 ?_
        refine gNQW_st_3 hC hN hK hT.1 wn_1363 dX8_mean_25 ?_
        refine lv_iload_n hx hb dX8_mean_28 rfl (lv_at hl 2 rfl) ?_
        refine w_iald (q0 := 2) hC hK hT.1 rfl hm.1 dX8_mean_29 ?_
        have hm := hm.2
        refine lv_iadd hx hb dX8_mean_30 ?_
        refine lv_topi (fun v1_31 ev1_31 => ?_)
        have hm := hm v1_31 ev1_31
        refine lv_istore_n (lv' := [(1, .int v1_31), (0, .ref (g 220)), (2, .int v2)]) hx hb dX8_mean_31 rfl hl (by decide) rfl (fun ls hl => ?_)
        obtain ⟨v2_32, ev2_32⟩ : ∃ y : Int32, y = v2 + 1 := ⟨_, rfl⟩
        have hm := hm v2_32 ev2_32
        refine lv_iinc (v := v2_32) (lv' := [(2, .int v2_32), (1, .int v1_31), (0, .ref (g 220))]) hx hb dX8_mean_32 hl (k := 2) rfl (by rw [ev2_32]; rfl) (by decide) rfl (fun ls hl => ?_)
        refine lv_goto (tgt := 9) hx hb dX8_mean_35 (by decide) ?_
        exact ih9 _ _ _ _ _ _ _ hm hT (lv_sub hl [2, 1, 0] rfl)
  refine lv_aload_n hx hb dX8_mean_0 rfl (lv_at hl 0 rfl) ?_
  refine lv_iconst (v := 0) hx hb dX8_mean_1 (by decide) ?_
  refine pQW_mod_0 hC hK hT wq_1419 dX8_mean_2 (fun N_2 eN_2 H locs hT => ?_)
  have hm := hm N_2 eN_2
  refine lv_iconst (v := 0) hx hb dX8_mean_5 (by decide) ?_
  refine lv_istore_n (lv' := [(1, .int 0), (0, .ref (g 220))]) hx hb dX8_mean_6 rfl hl (by decide) rfl (fun ls hl => ?_)
  refine lv_iconst (v := 0) hx hb dX8_mean_7 (by decide) ?_
  refine lv_istore_n (lv' := [(2, .int 0), (1, .int 0), (0, .ref (g 220))]) hx hb dX8_mean_8 rfl hl (by decide) rfl (fun ls hl => ?_)
  exact L9 _ _ _ _ _ _ _ _ hm hT (lv_sub hl [2, 1, 0] rfl)
section KX8_mean
variable {p : Program} {l : Launch} {e : Env} {s : State} {m : MethodId} {args : Array Value} {below : List Frame} {meth : Method} {c : Code} {H H0 : Heap} {locs : List Loc} {cells slots : Nat} {Q : State → Prop} {R : Room} {rn mcR msR : Nat}
variable {pc : Nat} {ls : Array Slot} {rest : List Value} {A : Nat → Prop} {D : va_G}
variable {cc : ByteArray} {nL index : Nat} {own host : String}
end KX8_mean
def wl_X8_digest_200 (P : M2) (C186 : M2 → M2 → Int64 → Int32 → Prop) (K : Int64 → M2 → M2 → Prop) : Nat → M2 → M2 → Int64 → Int32 → Int32 → Prop
  | 0, _, _, _, _, _ => False
  | n + 1, S, N, v1, v3, v4 => ((6 < v4 → (inb v3 8 ∧ (inb v3 8 ∧ inb 0 2 ∧ (inb v3 8 ∧ (inb v3 8 ∧ inb 1 2 ∧ (∀ v1_263, v1_263 = (((v1 * 31) + ((P (310 + v3.toInt.toNat) (0 : Int32).toInt.toNat).toInt64)) * 31) + ((P (310 + v3.toInt.toNat) (1 : Int32).toInt.toNat).toInt64) → (∀ v3_264 : Int32, v3_264 = v3 + 1 → C186 S N v1_263 v3_264))))))) ∧ (¬ 6 < v4 → wp_X8_boatTold P S N v3 v4 (fun r_216 S_216 N_216 => (∀ v1_221, v1_221 = (v1 * 31) + r_216.toInt64 → (∀ v4_222 : Int32, v4_222 = v4 + 1 → wl_X8_digest_200 P C186 K n S_216 N_216 v1_221 v3 v4_222)))))
def wl_X8_digest_186 (P : M2) (K : Int64 → M2 → M2 → Prop) : Nat → M2 → M2 → Int64 → Int32 → Prop
  | 0, _, _, _, _ => False
  | n + 1, S, N, v1, v3 => (((P 252 0) ≤ v3 → K v1 S N) ∧ (¬ (P 252 0) ≤ v3 → wl_X8_digest_200 P (wl_X8_digest_186 P K n) K 8 S N v1 v3 0))
def wl_X8_digest_150 (P : M2) (C136 : M2 → M2 → Int64 → Int32 → Prop) (K : Int64 → M2 → M2 → Prop) : Nat → M2 → M2 → Int64 → Int32 → Int32 → Prop
  | 0, _, _, _, _, _ => False
  | n + 1, S, N, v1, v3, v4 => ((6 < v4 → (∀ v3_178 : Int32, v3_178 = v3 + 1 → C136 S N v1 v3_178)) ∧ (¬ 6 < v4 → wp_X8_leggerTold P S N v3 v4 (fun r_166 S_166 N_166 => (∀ v1_171, v1_171 = (v1 * 31) + r_166.toInt64 → (∀ v4_172 : Int32, v4_172 = v4 + 1 → wl_X8_digest_150 P C136 K n S_166 N_166 v1_171 v3 v4_172)))))
def wl_X8_digest_136 (P : M2) (K : Int64 → M2 → M2 → Prop) : Nat → M2 → M2 → Int64 → Int32 → Prop
  | 0, _, _, _, _ => False
  | n + 1, S, N, v1, v3 => (((P 249 0) ≤ v3 → wl_X8_digest_186 P K 9 S N v1 0) ∧ (¬ (P 249 0) ≤ v3 → wl_X8_digest_150 P (wl_X8_digest_136 P K n) K 8 S N v1 v3 0))
def wl_X8_digest_101 (P : M2) (C87 : M2 → M2 → Int64 → Int32 → Prop) (K : Int64 → M2 → M2 → Prop) : Nat → M2 → M2 → Int64 → Int32 → Int32 → Prop
  | 0, _, _, _, _, _ => False
  | n + 1, S, N, v1, v3, v4 => ((3 < v4 → (∀ v3_128 : Int32, v3_128 = v3 + 1 → C87 S N v1 v3_128)) ∧ (¬ 3 < v4 → wp_X8_boreTold P S N v3 v4 (fun r_116 S_116 N_116 => (∀ v1_121, v1_121 = (v1 * 31) + r_116.toInt64 → (∀ v4_122 : Int32, v4_122 = v4 + 1 → wl_X8_digest_101 P C87 K n S_116 N_116 v1_121 v3 v4_122)))))
def wl_X8_digest_87 (P : M2) (K : Int64 → M2 → M2 → Prop) : Nat → M2 → M2 → Int64 → Int32 → Prop
  | 0, _, _, _, _ => False
  | n + 1, S, N, v1, v3 => (((P 240 0) ≤ v3 → wl_X8_digest_136 P K 7 S N v1 0) ∧ (¬ (P 240 0) ≤ v3 → wl_X8_digest_101 P (wl_X8_digest_87 P K n) K fK S N v1 v3 0))
def wl_X8_digest_52 (P : M2) (C38 : M2 → M2 → Int64 → Int32 → Prop) (K : Int64 → M2 → M2 → Prop) : Nat → M2 → M2 → Int64 → Int32 → Int32 → Prop
  | 0, _, _, _, _, _ => False
  | n + 1, S, N, v1, v3, v4 => ((3 < v4 → (∀ v3_79 : Int32, v3_79 = v3 + 1 → C38 S N v1 v3_79)) ∧ (¬ 3 < v4 → wp_X8_placeTold P S N v3 v4 (fun r_67 => (∀ v1_72, v1_72 = (v1 * 31) + r_67.toInt64 → (∀ v4_73 : Int32, v4_73 = v4 + 1 → wl_X8_digest_52 P C38 K n S N v1_72 v3 v4_73)))))
def wl_X8_digest_38 (P : M2) (K : Int64 → M2 → M2 → Prop) : Nat → M2 → M2 → Int64 → Int32 → Prop
  | 0, _, _, _, _ => False
  | n + 1, S, N, v1, v3 => (((P 241 0) ≤ v3 → wl_X8_digest_87 P K fK S N v1 0) ∧ (¬ (P 241 0) ≤ v3 → wl_X8_digest_52 P (wl_X8_digest_38 P K n) K fK S N v1 v3 0))
def wl_X8_digest_11 (P : M2) (K : Int64 → M2 → M2 → Prop) : Nat → M2 → M2 → Int64 → Int32 → Prop
  | 0, _, _, _, _ => False
  | n + 1, S, N, v1, v3 => ((13 < v3 → wl_X8_digest_38 P K fK S N v1 0) ∧ (¬ 13 < v3 → wp_X8_counted P S N v3 (fun r_24 S_24 N_24 => (∀ v1_29, v1_29 = (v1 * 31) + r_24.toInt64 → (∀ v3_30 : Int32, v3_30 = v3 + 1 → wl_X8_digest_11 P K n S_24 N_24 v1_29 v3_30)))))
def wp_X8_digest (P : M2) (S : M2) (N : M2) (K : Int64 → M2 → M2 → Prop) : Prop := (∀ N_2 : M2, N_2 = up2 N 220 (fun _ => 0) → wl_X8_digest_11 P K 15 S N_2 857 0)
set_option maxRecDepth 100000 in
set_option maxHeartbeats 4000000 in
theorem c_X8_digest (l : Launch) (D : va_G) (Z : Nat → ClassId) (a q g : Nat → Nat) (rg aa : Nat) (P : M2) (S : M2) (N : M2) (sz : Nat) (K : Int64 → M2 → M2 → Prop) (hm : wp_X8_digest P S N K) : Met l yX8_digest (wy yX8_digest cX8_digest 5 (some .long)) (rk 4 143 1016) (pre vwCl D Z (QW Z a q g rg aa P S N) sz [.ref (g 220)]) (poL vwCl D Z (fun u : M2 × M2 => QW Z a q g rg aa P u.1 u.2) (S, N) sz (fun (r : Int64) (u : M2 × M2) => K r u.1 u.2)) 143 1016 (va_A (QW Z a q g rg aa P S N) sz) := by
  refine rwl_of (wsF := (fun u : M2 × M2 => QW Z a q g rg aa P u.1 u.2)) (u0 := (S, N)) (by decide +kernel) (Nat.le_of_ble_eq_true rfl) rfl ?_
  intro p e s m args below meth c Q A hC hN hsz hT hK hret ls hl
  have hx := hC.1
  have hb := hC.2.1
  have hl : lv_has ls 5 [(0, .ref (g 220))] := hl
  have hT : TS vwCl D (QW Z a q g rg aa P S N) A s.heap s.heap [] := hT
  have L186 : ∀ (n186 : Nat), ∀ (S : M2) (N : M2) (v1 : Int64) (v3 : Int32) (H : Heap) (locs : List Loc) (ls : Array Slot) (cc cs : Nat), wl_X8_digest_186 P K n186 S N v1 v3 → TS vwCl D (QW Z a q g rg aa P S N) A s.heap H locs → lv_has ls 5 [(0, .ref (g 220)), (1, .long v1), (3, .int v3)] → cc + (n186 * 8 + 0) ≤ 143 ∧ cs + (n186 * 56 + 0) ≤ 1016 → W p l e (rk 4 143 1016) s m args below meth c H locs cc cs Q (F0 m 186 ls []) := by
    intro n186
    induction n186 with
    | zero =>
      intro S N v1 v3 H locs ls cc cs hm hT hl hcb
      exact False.elim hm
    | succ n186 ih186 =>
      have L200 : ∀ (n200 : Nat), ∀ (S : M2) (N : M2) (v1 : Int64) (v3 : Int32) (v4 : Int32) (H : Heap) (locs : List Loc) (ls : Array Slot) (cc cs : Nat), wl_X8_digest_200 P (wl_X8_digest_186 P K n186) K n200 S N v1 v3 v4 → TS vwCl D (QW Z a q g rg aa P S N) A s.heap H locs → lv_has ls 5 [(0, .ref (g 220)), (1, .long v1), (3, .int v3), (4, .int v4)] → cc + (n200 * 1 + 0 + n186 * 8 + 0) ≤ 143 ∧ cs + (n200 * 7 + 0 + n186 * 56 + 0) ≤ 1016 → W p l e (rk 4 143 1016) s m args below meth c H locs cc cs Q (F0 m 200 ls []) := by
        intro n200
        induction n200 with
        | zero =>
          intro S N v1 v3 v4 H locs ls cc cs hm hT hl hcb
          exact False.elim hm
        | succ n200 ih200 =>
          intro S N v1 v3 v4 H locs ls cc cs hm hT hl hcb
          refine lv_iload hx hb dX8_digest_200 (lv_at hl 3 rfl) ?_
          refine lv_bipush (v := 6) hx hb dX8_digest_202 (by decide) ?_
          refine lv_icmp_gt (tgt := 228) hx hb dX8_digest_204 (by decide) (fun c_204 => ?_) (fun c_204 => ?_)
          · have hm := hm.1 c_204
            refine lv_lload_n hx hb dX8_digest_228 rfl (lv_at hl 1 rfl) ?_
            refine lv_ldc2 (v := 31) hx hb hC.2.2.2.1 (hC.2.2.2.2 _ wq_1954) dX8_digest_229 ?_
            refine lv_lmul hx hb dX8_digest_232 ?_
            refine lv_aload_n hx hb dX8_digest_233 rfl (lv_at hl 0 rfl) ?_
            refine gQW_mod_11 hC hK hT.1 wq_1430 dX8_digest_234 ?_
            refine gNQW_plan_16 hC hN hK hT.1 wn_1272 dX8_digest_237 ?_
            refine lv_iload_n hx hb dX8_digest_240 rfl (lv_at hl 2 rfl) ?_
            refine w_aaldR (q0 := 25) hC hK hT.1 rfl hm.1 dX8_digest_241 ?_
            have hm := hm.2
            refine lv_iconst (v := 0) hx hb dX8_digest_242 (by decide) ?_
            refine wrl_QW hC hK hT.1 hm.1 hm.2.1 dX8_digest_243 ?_
            have hm := hm.2.2
            refine lv_i2l (v := (P (310 + v3.toInt.toNat) (0 : Int32).toInt.toNat).toInt64) hx hb dX8_digest_244 rfl ?_
            refine lv_ladd hx hb dX8_digest_245 ?_
            refine lv_ldc2 (v := 31) hx hb hC.2.2.2.1 (hC.2.2.2.2 _ wq_1954) dX8_digest_246 ?_
            refine lv_lmul hx hb dX8_digest_249 ?_
            refine lv_aload_n hx hb dX8_digest_250 rfl (lv_at hl 0 rfl) ?_
            refine gQW_mod_11 hC hK hT.1 wq_1430 dX8_digest_251 ?_
            refine gNQW_plan_16 hC hN hK hT.1 wn_1272 dX8_digest_254 ?_
            refine lv_iload_n hx hb dX8_digest_257 rfl (lv_at hl 2 rfl) ?_
            refine w_aaldR (q0 := 25) hC hK hT.1 rfl hm.1 dX8_digest_258 ?_
            have hm := hm.2
            refine lv_iconst (v := 1) hx hb dX8_digest_259 (by decide) ?_
            refine wrl_QW hC hK hT.1 hm.1 hm.2.1 dX8_digest_260 ?_
            have hm := hm.2.2
            refine lv_i2l (v := (P (310 + v3.toInt.toNat) (1 : Int32).toInt.toNat).toInt64) hx hb dX8_digest_261 rfl ?_
            refine lv_ladd hx hb dX8_digest_262 ?_
            refine lv_topl (fun v1_263 ev1_263 => ?_)
            have hm := hm v1_263 ev1_263
            refine lv_lstore_n (lv' := [(1, .long v1_263), (0, .ref (g 220)), (3, .int v3), (4, .int v4)]) hx hb dX8_digest_263 rfl hl (by decide) rfl (fun ls hl => ?_)
            obtain ⟨v3_264, ev3_264⟩ : ∃ y : Int32, y = v3 + 1 := ⟨_, rfl⟩
            have hm := hm v3_264 ev3_264
            refine lv_iinc (v := v3_264) (lv' := [(3, .int v3_264), (1, .long v1_263), (0, .ref (g 220)), (4, .int v4)]) hx hb dX8_digest_264 hl (k := 2) rfl (by rw [ev3_264]; rfl) (by decide) rfl (fun ls hl => ?_)
            refine lv_goto (tgt := 186) hx hb dX8_digest_267 (by decide) ?_
            exact ih186 _ _ _ _ _ _ _ _ _ hm hT (lv_sub hl [2, 1, 0] rfl) ⟨by omega, by omega⟩
          · have hm := hm.2 c_204
            refine lv_lload_n hx hb dX8_digest_207 rfl (lv_at hl 1 rfl) ?_
            refine lv_ldc2 (v := 31) hx hb hC.2.2.2.1 (hC.2.2.2.2 _ wq_1954) dX8_digest_208 ?_
            refine lv_lmul hx hb dX8_digest_211 ?_
            refine lv_aload_n hx hb dX8_digest_212 rfl (lv_at hl 0 rfl) ?_
            refine lv_iload_n hx hb dX8_digest_213 rfl (lv_at hl 2 rfl) ?_
            refine lv_iload hx hb dX8_digest_214 (lv_at hl 3 rfl) ?_
            refine k_X8_boatTold hC hN hK hT hm wq_1793 (by decide) hl.1 (Nat.le_of_ble_eq_true rfl) ⟨by omega, by omega⟩ dX8_digest_216 (fun r_216 S_216 N_216 H locs hm hT => ?_)
            refine lv_i2l (v := r_216.toInt64) hx hb dX8_digest_219 rfl ?_
            refine lv_ladd hx hb dX8_digest_220 ?_
            refine lv_topl (fun v1_221 ev1_221 => ?_)
            have hm := hm v1_221 ev1_221
            refine lv_lstore_n (lv' := [(1, .long v1_221), (0, .ref (g 220)), (3, .int v3), (4, .int v4)]) hx hb dX8_digest_221 rfl hl (by decide) rfl (fun ls hl => ?_)
            obtain ⟨v4_222, ev4_222⟩ : ∃ y : Int32, y = v4 + 1 := ⟨_, rfl⟩
            have hm := hm v4_222 ev4_222
            refine lv_iinc (v := v4_222) (lv' := [(4, .int v4_222), (1, .long v1_221), (0, .ref (g 220)), (3, .int v3)]) hx hb dX8_digest_222 hl (k := 3) rfl (by rw [ev4_222]; rfl) (by decide) rfl (fun ls hl => ?_)
            refine lv_goto (tgt := 200) hx hb dX8_digest_225 (by decide) ?_
            exact ih200 _ _ _ _ _ _ _ _ _ _ hm hT (lv_sub hl [2, 1, 3, 0] rfl) ⟨by omega, by omega⟩
      intro S N v1 v3 H locs ls cc cs hm hT hl hcb
      refine lv_iload_n hx hb dX8_digest_186 rfl (lv_at hl 2 rfl) ?_
      refine lv_aload_n hx hb dX8_digest_187 rfl (lv_at hl 0 rfl) ?_
      refine gQW_mod_11 hC hK hT.1 wq_1430 dX8_digest_188 ?_
      refine gNQW_plan_12 hC hN hK hT.1 wn_1260 dX8_digest_191 ?_
      refine lv_icmp_ge (tgt := 270) hx hb dX8_digest_194 (by decide) (fun c_194 => ?_) (fun c_194 => ?_)
      · have hm := hm.1 c_194
        refine lv_lload_n hx hb dX8_digest_270 rfl (lv_at hl 1 rfl) ?_
        refine W.widen (k := 143) (n := 1016) (by omega) (by omega) ?_
        exact hret 271 _ _ _ _ (S, N) hm hT dX8_digest_271
      · have hm := hm.2 c_194
        refine lv_iconst (v := 0) hx hb dX8_digest_197 (by decide) ?_
        refine lv_istore (lv' := [(4, .int 0), (0, .ref (g 220)), (1, .long v1), (3, .int v3)]) hx hb dX8_digest_198 hl (by decide) rfl (fun ls hl => ?_)
        exact L200 _ _ _ _ _ _ _ _ _ _ _ hm hT (lv_sub hl [1, 2, 3, 0] rfl) ⟨by omega, by omega⟩
  have L136 : ∀ (n136 : Nat), ∀ (S : M2) (N : M2) (v1 : Int64) (v3 : Int32) (H : Heap) (locs : List Loc) (ls : Array Slot) (cc cs : Nat), wl_X8_digest_136 P K n136 S N v1 v3 → TS vwCl D (QW Z a q g rg aa P S N) A s.heap H locs → lv_has ls 5 [(0, .ref (g 220)), (1, .long v1), (3, .int v3)] → cc + (n136 * 8 + 72) ≤ 143 ∧ cs + (n136 * 56 + 504) ≤ 1016 → W p l e (rk 4 143 1016) s m args below meth c H locs cc cs Q (F0 m 136 ls []) := by
    intro n136
    induction n136 with
    | zero =>
      intro S N v1 v3 H locs ls cc cs hm hT hl hcb
      exact False.elim hm
    | succ n136 ih136 =>
      have L150 : ∀ (n150 : Nat), ∀ (S : M2) (N : M2) (v1 : Int64) (v3 : Int32) (v4 : Int32) (H : Heap) (locs : List Loc) (ls : Array Slot) (cc cs : Nat), wl_X8_digest_150 P (wl_X8_digest_136 P K n136) K n150 S N v1 v3 v4 → TS vwCl D (QW Z a q g rg aa P S N) A s.heap H locs → lv_has ls 5 [(0, .ref (g 220)), (1, .long v1), (3, .int v3), (4, .int v4)] → cc + (n150 * 1 + 0 + n136 * 8 + 72) ≤ 143 ∧ cs + (n150 * 7 + 0 + n136 * 56 + 504) ≤ 1016 → W p l e (rk 4 143 1016) s m args below meth c H locs cc cs Q (F0 m 150 ls []) := by
        intro n150
        induction n150 with
        | zero =>
          intro S N v1 v3 v4 H locs ls cc cs hm hT hl hcb
          exact False.elim hm
        | succ n150 ih150 =>
          intro S N v1 v3 v4 H locs ls cc cs hm hT hl hcb
          refine lv_iload hx hb dX8_digest_150 (lv_at hl 3 rfl) ?_
          refine lv_bipush (v := 6) hx hb dX8_digest_152 (by decide) ?_
          refine lv_icmp_gt (tgt := 178) hx hb dX8_digest_154 (by decide) (fun c_154 => ?_) (fun c_154 => ?_)
          · have hm := hm.1 c_154
            obtain ⟨v3_178, ev3_178⟩ : ∃ y : Int32, y = v3 + 1 := ⟨_, rfl⟩
            have hm := hm v3_178 ev3_178
            refine lv_iinc (v := v3_178) (lv' := [(3, .int v3_178), (0, .ref (g 220)), (1, .long v1), (4, .int v4)]) hx hb dX8_digest_178 hl (k := 2) rfl (by rw [ev3_178]; rfl) (by decide) rfl (fun ls hl => ?_)
            refine lv_goto (tgt := 136) hx hb dX8_digest_181 (by decide) ?_
            exact ih136 _ _ _ _ _ _ _ _ _ hm hT (lv_sub hl [1, 2, 0] rfl) ⟨by omega, by omega⟩
          · have hm := hm.2 c_154
            refine lv_lload_n hx hb dX8_digest_157 rfl (lv_at hl 1 rfl) ?_
            refine lv_ldc2 (v := 31) hx hb hC.2.2.2.1 (hC.2.2.2.2 _ wq_1954) dX8_digest_158 ?_
            refine lv_lmul hx hb dX8_digest_161 ?_
            refine lv_aload_n hx hb dX8_digest_162 rfl (lv_at hl 0 rfl) ?_
            refine lv_iload_n hx hb dX8_digest_163 rfl (lv_at hl 2 rfl) ?_
            refine lv_iload hx hb dX8_digest_164 (lv_at hl 3 rfl) ?_
            refine k_X8_leggerTold hC hN hK hT hm wq_1777 (by decide) hl.1 (Nat.le_of_ble_eq_true rfl) ⟨by omega, by omega⟩ dX8_digest_166 (fun r_166 S_166 N_166 H locs hm hT => ?_)
            refine lv_i2l (v := r_166.toInt64) hx hb dX8_digest_169 rfl ?_
            refine lv_ladd hx hb dX8_digest_170 ?_
            refine lv_topl (fun v1_171 ev1_171 => ?_)
            have hm := hm v1_171 ev1_171
            refine lv_lstore_n (lv' := [(1, .long v1_171), (0, .ref (g 220)), (3, .int v3), (4, .int v4)]) hx hb dX8_digest_171 rfl hl (by decide) rfl (fun ls hl => ?_)
            obtain ⟨v4_172, ev4_172⟩ : ∃ y : Int32, y = v4 + 1 := ⟨_, rfl⟩
            have hm := hm v4_172 ev4_172
            refine lv_iinc (v := v4_172) (lv' := [(4, .int v4_172), (1, .long v1_171), (0, .ref (g 220)), (3, .int v3)]) hx hb dX8_digest_172 hl (k := 3) rfl (by rw [ev4_172]; rfl) (by decide) rfl (fun ls hl => ?_)
            refine lv_goto (tgt := 150) hx hb dX8_digest_175 (by decide) ?_
            exact ih150 _ _ _ _ _ _ _ _ _ _ hm hT (lv_sub hl [2, 1, 3, 0] rfl) ⟨by omega, by omega⟩
      intro S N v1 v3 H locs ls cc cs hm hT hl hcb
      refine lv_iload_n hx hb dX8_digest_136 rfl (lv_at hl 2 rfl) ?_
      refine lv_aload_n hx hb dX8_digest_137 rfl (lv_at hl 0 rfl) ?_
      refine gQW_mod_11 hC hK hT.1 wq_1430 dX8_digest_138 ?_
      refine gNQW_plan_9 hC hN hK hT.1 wn_1251 dX8_digest_141 ?_
      refine lv_icmp_ge (tgt := 184) hx hb dX8_digest_144 (by decide) (fun c_144 => ?_) (fun c_144 => ?_)
      · have hm := hm.1 c_144
        refine lv_iconst (v := 0) hx hb dX8_digest_184 (by decide) ?_
        refine lv_istore_n (lv' := [(3, .int 0), (0, .ref (g 220)), (1, .long v1)]) hx hb dX8_digest_185 rfl hl (by decide) rfl (fun ls hl => ?_)
        exact L186 _ _ _ _ _ _ _ _ _ _ hm hT (lv_sub hl [1, 2, 0] rfl) ⟨by omega, by omega⟩
      · have hm := hm.2 c_144
        refine lv_iconst (v := 0) hx hb dX8_digest_147 (by decide) ?_
        refine lv_istore (lv' := [(4, .int 0), (0, .ref (g 220)), (1, .long v1), (3, .int v3)]) hx hb dX8_digest_148 hl (by decide) rfl (fun ls hl => ?_)
        exact L150 _ _ _ _ _ _ _ _ _ _ _ hm hT (lv_sub hl [1, 2, 3, 0] rfl) ⟨by omega, by omega⟩
  have L87 : ∀ (n87 : Nat), ∀ (S : M2) (N : M2) (v1 : Int64) (v3 : Int32) (H : Heap) (locs : List Loc) (ls : Array Slot) (cc cs : Nat), wl_X8_digest_87 P K n87 S N v1 v3 → TS vwCl D (QW Z a q g rg aa P S N) A s.heap H locs → lv_has ls 5 [(0, .ref (g 220)), (1, .long v1), (3, .int v3)] → cc + (n87 * 0 + 128) ≤ 143 ∧ cs + (n87 * 0 + 896) ≤ 1016 → W p l e (rk 4 143 1016) s m args below meth c H locs cc cs Q (F0 m 87 ls []) := by
    intro n87
    induction n87 with
    | zero =>
      intro S N v1 v3 H locs ls cc cs hm hT hl hcb
      exact False.elim hm
    | succ n87 ih87 =>
      have L101 : ∀ (n101 : Nat), ∀ (S : M2) (N : M2) (v1 : Int64) (v3 : Int32) (v4 : Int32) (H : Heap) (locs : List Loc) (ls : Array Slot) (cc cs : Nat), wl_X8_digest_101 P (wl_X8_digest_87 P K n87) K n101 S N v1 v3 v4 → TS vwCl D (QW Z a q g rg aa P S N) A s.heap H locs → lv_has ls 5 [(0, .ref (g 220)), (1, .long v1), (3, .int v3), (4, .int v4)] → cc + (n101 * 0 + 0 + n87 * 0 + 128) ≤ 143 ∧ cs + (n101 * 0 + 0 + n87 * 0 + 896) ≤ 1016 → W p l e (rk 4 143 1016) s m args below meth c H locs cc cs Q (F0 m 101 ls []) := by
        intro n101
        induction n101 with
        | zero =>
          intro S N v1 v3 v4 H locs ls cc cs hm hT hl hcb
          exact False.elim hm
        | succ n101 ih101 =>
          intro S N v1 v3 v4 H locs ls cc cs hm hT hl hcb
          refine lv_iload hx hb dX8_digest_101 (lv_at hl 3 rfl) ?_
          refine lv_iconst (v := 3) hx hb dX8_digest_103 (by decide) ?_
          refine lv_icmp_gt (tgt := 128) hx hb dX8_digest_104 (by decide) (fun c_104 => ?_) (fun c_104 => ?_)
          · have hm := hm.1 c_104
            obtain ⟨v3_128, ev3_128⟩ : ∃ y : Int32, y = v3 + 1 := ⟨_, rfl⟩
            have hm := hm v3_128 ev3_128
            refine lv_iinc (v := v3_128) (lv' := [(3, .int v3_128), (0, .ref (g 220)), (1, .long v1), (4, .int v4)]) hx hb dX8_digest_128 hl (k := 2) rfl (by rw [ev3_128]; rfl) (by decide) rfl (fun ls hl => ?_)
            refine lv_goto (tgt := 87) hx hb dX8_digest_131 (by decide) ?_
            exact ih87 _ _ _ _ _ _ _ _ _ hm hT (lv_sub hl [1, 2, 0] rfl) ⟨by omega, by omega⟩
          · have hm := hm.2 c_104
            refine lv_lload_n hx hb dX8_digest_107 rfl (lv_at hl 1 rfl) ?_
            refine lv_ldc2 (v := 31) hx hb hC.2.2.2.1 (hC.2.2.2.2 _ wq_1954) dX8_digest_108 ?_
            refine lv_lmul hx hb dX8_digest_111 ?_
            refine lv_aload_n hx hb dX8_digest_112 rfl (lv_at hl 0 rfl) ?_
            refine lv_iload_n hx hb dX8_digest_113 rfl (lv_at hl 2 rfl) ?_
            refine lv_iload hx hb dX8_digest_114 (lv_at hl 3 rfl) ?_
            refine k_X8_boreTold hC hN hK hT hm wq_1765 (by decide) hl.1 (Nat.le_of_ble_eq_true rfl) ⟨by omega, by omega⟩ dX8_digest_116 (fun r_116 S_116 N_116 H locs hm hT => ?_)
            refine lv_i2l (v := r_116.toInt64) hx hb dX8_digest_119 rfl ?_
            refine lv_ladd hx hb dX8_digest_120 ?_
            refine lv_topl (fun v1_121 ev1_121 => ?_)
            have hm := hm v1_121 ev1_121
            refine lv_lstore_n (lv' := [(1, .long v1_121), (0, .ref (g 220)), (3, .int v3), (4, .int v4)]) hx hb dX8_digest_121 rfl hl (by decide) rfl (fun ls hl => ?_)
            obtain ⟨v4_122, ev4_122⟩ : ∃ y : Int32, y = v4 + 1 := ⟨_, rfl⟩
            have hm := hm v4_122 ev4_122
            refine lv_iinc (v := v4_122) (lv' := [(4, .int v4_122), (1, .long v1_121), (0, .ref (g 220)), (3, .int v3)]) hx hb dX8_digest_122 hl (k := 3) rfl (by rw [ev4_122]; rfl) (by decide) rfl (fun ls hl => ?_)
            refine lv_goto (tgt := 101) hx hb dX8_digest_125 (by decide) ?_
            exact ih101 _ _ _ _ _ _ _ _ _ _ hm hT (lv_sub hl [2, 1, 3, 0] rfl) ⟨by omega, by omega⟩
      intro S N v1 v3 H locs ls cc cs hm hT hl hcb
      refine lv_iload_n hx hb dX8_digest_87 rfl (lv_at hl 2 rfl) ?_
      refine lv_aload_n hx hb dX8_digest_88 rfl (lv_at hl 0 rfl) ?_
      refine gQW_mod_11 hC hK hT.1 wq_1430 dX8_digest_89 ?_
      refine gNQW_plan_0 hC hN hK hT.1 wn_1230 dX8_digest_92 ?_
      refine lv_icmp_ge (tgt := 134) hx hb dX8_digest_95 (by decide) (fun c_95 => ?_) (fun c_95 => ?_)
      · have hm := hm.1 c_95
        refine lv_iconst (v := 0) hx hb dX8_digest_134 (by decide) ?_
        refine lv_istore_n (lv' := [(3, .int 0), (0, .ref (g 220)), (1, .long v1)]) hx hb dX8_digest_135 rfl hl (by decide) rfl (fun ls hl => ?_)
        exact L136 _ _ _ _ _ _ _ _ _ _ hm hT (lv_sub hl [1, 2, 0] rfl) ⟨by omega, by omega⟩
      · have hm := hm.2 c_95
        refine lv_iconst (v := 0) hx hb dX8_digest_98 (by decide) ?_
        refine lv_istore (lv' := [(4, .int 0), (0, .ref (g 220)), (1, .long v1), (3, .int v3)]) hx hb dX8_digest_99 hl (by decide) rfl (fun ls hl => ?_)
        exact L101 _ _ _ _ _ _ _ _ _ _ _ hm hT (lv_sub hl [1, 2, 3, 0] rfl) ⟨by omega, by omega⟩
  have L38 : ∀ (n38 : Nat), ∀ (S : M2) (N : M2) (v1 : Int64) (v3 : Int32) (H : Heap) (locs : List Loc) (ls : Array Slot) (cc cs : Nat), wl_X8_digest_38 P K n38 S N v1 v3 → TS vwCl D (QW Z a q g rg aa P S N) A s.heap H locs → lv_has ls 5 [(0, .ref (g 220)), (1, .long v1), (3, .int v3)] → cc + (n38 * 0 + 128) ≤ 143 ∧ cs + (n38 * 0 + 896) ≤ 1016 → W p l e (rk 4 143 1016) s m args below meth c H locs cc cs Q (F0 m 38 ls []) := by
    intro n38
    induction n38 with
    | zero =>
      intro S N v1 v3 H locs ls cc cs hm hT hl hcb
      exact False.elim hm
    | succ n38 ih38 =>
      have L52 : ∀ (n52 : Nat), ∀ (S : M2) (N : M2) (v1 : Int64) (v3 : Int32) (v4 : Int32) (H : Heap) (locs : List Loc) (ls : Array Slot) (cc cs : Nat), wl_X8_digest_52 P (wl_X8_digest_38 P K n38) K n52 S N v1 v3 v4 → TS vwCl D (QW Z a q g rg aa P S N) A s.heap H locs → lv_has ls 5 [(0, .ref (g 220)), (1, .long v1), (3, .int v3), (4, .int v4)] → cc + (n52 * 0 + 0 + n38 * 0 + 128) ≤ 143 ∧ cs + (n52 * 0 + 0 + n38 * 0 + 896) ≤ 1016 → W p l e (rk 4 143 1016) s m args below meth c H locs cc cs Q (F0 m 52 ls []) := by
        intro n52
        induction n52 with
        | zero =>
          intro S N v1 v3 v4 H locs ls cc cs hm hT hl hcb
          exact False.elim hm
        | succ n52 ih52 =>
          intro S N v1 v3 v4 H locs ls cc cs hm hT hl hcb
          refine lv_iload hx hb dX8_digest_52 (lv_at hl 3 rfl) ?_
          refine lv_iconst (v := 3) hx hb dX8_digest_54 (by decide) ?_
          refine lv_icmp_gt (tgt := 79) hx hb dX8_digest_55 (by decide) (fun c_55 => ?_) (fun c_55 => ?_)
          · have hm := hm.1 c_55
            obtain ⟨v3_79, ev3_79⟩ : ∃ y : Int32, y = v3 + 1 := ⟨_, rfl⟩
            have hm := hm v3_79 ev3_79
            refine lv_iinc (v := v3_79) (lv' := [(3, .int v3_79), (0, .ref (g 220)), (1, .long v1), (4, .int v4)]) hx hb dX8_digest_79 hl (k := 2) rfl (by rw [ev3_79]; rfl) (by decide) rfl (fun ls hl => ?_)
            refine lv_goto (tgt := 38) hx hb dX8_digest_82 (by decide) ?_
            exact ih38 _ _ _ _ _ _ _ _ _ hm hT (lv_sub hl [1, 2, 0] rfl) ⟨by omega, by omega⟩
          · have hm := hm.2 c_55
            refine lv_lload_n hx hb dX8_digest_58 rfl (lv_at hl 1 rfl) ?_
            refine lv_ldc2 (v := 31) hx hb hC.2.2.2.1 (hC.2.2.2.2 _ wq_1954) dX8_digest_59 ?_
            refine lv_lmul hx hb dX8_digest_62 ?_
            refine lv_aload_n hx hb dX8_digest_63 rfl (lv_at hl 0 rfl) ?_
            refine lv_iload_n hx hb dX8_digest_64 rfl (lv_at hl 2 rfl) ?_
            refine lv_iload hx hb dX8_digest_65 (lv_at hl 3 rfl) ?_
            refine k_X8_placeTold hC hN hK hT.1 hT.D' hm wq_1748 (by decide) hl.1 (Nat.le_of_ble_eq_true rfl) ⟨by omega, by omega⟩ dX8_digest_67 (fun r_67 hm => ?_)
            refine lv_i2l (v := r_67.toInt64) hx hb dX8_digest_70 rfl ?_
            refine lv_ladd hx hb dX8_digest_71 ?_
            refine lv_topl (fun v1_72 ev1_72 => ?_)
            have hm := hm v1_72 ev1_72
            refine lv_lstore_n (lv' := [(1, .long v1_72), (0, .ref (g 220)), (3, .int v3), (4, .int v4)]) hx hb dX8_digest_72 rfl hl (by decide) rfl (fun ls hl => ?_)
            obtain ⟨v4_73, ev4_73⟩ : ∃ y : Int32, y = v4 + 1 := ⟨_, rfl⟩
            have hm := hm v4_73 ev4_73
            refine lv_iinc (v := v4_73) (lv' := [(4, .int v4_73), (1, .long v1_72), (0, .ref (g 220)), (3, .int v3)]) hx hb dX8_digest_73 hl (k := 3) rfl (by rw [ev4_73]; rfl) (by decide) rfl (fun ls hl => ?_)
            refine lv_goto (tgt := 52) hx hb dX8_digest_76 (by decide) ?_
            exact ih52 _ _ _ _ _ _ _ _ _ _ hm hT (lv_sub hl [2, 1, 3, 0] rfl) ⟨by omega, by omega⟩
      intro S N v1 v3 H locs ls cc cs hm hT hl hcb
      refine lv_iload_n hx hb dX8_digest_38 rfl (lv_at hl 2 rfl) ?_
      refine lv_aload_n hx hb dX8_digest_39 rfl (lv_at hl 0 rfl) ?_
      refine gQW_mod_11 hC hK hT.1 wq_1430 dX8_digest_40 ?_
      refine gNQW_plan_1 hC hN hK hT.1 wn_1232 dX8_digest_43 ?_
      refine lv_icmp_ge (tgt := 85) hx hb dX8_digest_46 (by decide) (fun c_46 => ?_) (fun c_46 => ?_)
      · have hm := hm.1 c_46
        refine lv_iconst (v := 0) hx hb dX8_digest_85 (by decide) ?_
        refine lv_istore_n (lv' := [(3, .int 0), (0, .ref (g 220)), (1, .long v1)]) hx hb dX8_digest_86 rfl hl (by decide) rfl (fun ls hl => ?_)
        exact L87 _ _ _ _ _ _ _ _ _ _ hm hT (lv_sub hl [1, 2, 0] rfl) ⟨by omega, by omega⟩
      · have hm := hm.2 c_46
        refine lv_iconst (v := 0) hx hb dX8_digest_49 (by decide) ?_
        refine lv_istore (lv' := [(4, .int 0), (0, .ref (g 220)), (1, .long v1), (3, .int v3)]) hx hb dX8_digest_50 hl (by decide) rfl (fun ls hl => ?_)
        exact L52 _ _ _ _ _ _ _ _ _ _ _ hm hT (lv_sub hl [1, 2, 3, 0] rfl) ⟨by omega, by omega⟩
  have L11 : ∀ (n11 : Nat), ∀ (S : M2) (N : M2) (v1 : Int64) (v3 : Int32) (H : Heap) (locs : List Loc) (ls : Array Slot) (cc cs : Nat), wl_X8_digest_11 P K n11 S N v1 v3 → TS vwCl D (QW Z a q g rg aa P S N) A s.heap H locs → lv_has ls 5 [(0, .ref (g 220)), (1, .long v1), (3, .int v3)] → cc + (n11 * 1 + 128) ≤ 143 ∧ cs + (n11 * 8 + 896) ≤ 1016 → W p l e (rk 4 143 1016) s m args below meth c H locs cc cs Q (F0 m 11 ls []) := by
    intro n11
    induction n11 with
    | zero =>
      intro S N v1 v3 H locs ls cc cs hm hT hl hcb
      exact False.elim hm
    | succ n11 ih11 =>
      intro S N v1 v3 H locs ls cc cs hm hT hl hcb
      refine lv_iload_n hx hb dX8_digest_11 rfl (lv_at hl 2 rfl) ?_
      refine lv_bipush (v := 13) hx hb dX8_digest_12 (by decide) ?_
      refine lv_icmp_gt (tgt := 36) hx hb dX8_digest_14 (by decide) (fun c_14 => ?_) (fun c_14 => ?_)
      · have hm := hm.1 c_14
        refine lv_iconst (v := 0) hx hb dX8_digest_36 (by decide) ?_
        refine lv_istore_n (lv' := [(3, .int 0), (0, .ref (g 220)), (1, .long v1)]) hx hb dX8_digest_37 rfl hl (by decide) rfl (fun ls hl => ?_)
        exact L38 _ _ _ _ _ _ _ _ _ _ hm hT (lv_sub hl [1, 2, 0] rfl) ⟨by omega, by omega⟩
      · have hm := hm.2 c_14
        refine lv_lload_n hx hb dX8_digest_17 rfl (lv_at hl 1 rfl) ?_
        refine lv_ldc2 (v := 31) hx hb hC.2.2.2.1 (hC.2.2.2.2 _ wq_1954) dX8_digest_18 ?_
        refine lv_lmul hx hb dX8_digest_21 ?_
        refine lv_aload_n hx hb dX8_digest_22 rfl (lv_at hl 0 rfl) ?_
        refine lv_iload_n hx hb dX8_digest_23 rfl (lv_at hl 2 rfl) ?_
        refine k_X8_counted hC hN hK hT hm wq_1720 (by decide) hl.1 (Nat.le_of_ble_eq_true rfl) ⟨by omega, by omega⟩ dX8_digest_24 (fun r_24 S_24 N_24 H locs hm hT => ?_)
        refine lv_i2l (v := r_24.toInt64) hx hb dX8_digest_27 rfl ?_
        refine lv_ladd hx hb dX8_digest_28 ?_
        refine lv_topl (fun v1_29 ev1_29 => ?_)
        have hm := hm v1_29 ev1_29
        refine lv_lstore_n (lv' := [(1, .long v1_29), (0, .ref (g 220)), (3, .int v3)]) hx hb dX8_digest_29 rfl hl (by decide) rfl (fun ls hl => ?_)
        obtain ⟨v3_30, ev3_30⟩ : ∃ y : Int32, y = v3 + 1 := ⟨_, rfl⟩
        have hm := hm v3_30 ev3_30
        refine lv_iinc (v := v3_30) (lv' := [(3, .int v3_30), (1, .long v1_29), (0, .ref (g 220))]) hx hb dX8_digest_30 hl (k := 2) rfl (by rw [ev3_30]; rfl) (by decide) rfl (fun ls hl => ?_)
        refine lv_goto (tgt := 11) hx hb dX8_digest_33 (by decide) ?_
        exact ih11 _ _ _ _ _ _ _ _ _ hm hT (lv_sub hl [2, 1, 0] rfl) ⟨by omega, by omega⟩
  refine lv_aload_n hx hb dX8_digest_0 rfl (lv_at hl 0 rfl) ?_
  refine lv_iconst (v := 0) hx hb dX8_digest_1 (by decide) ?_
  refine pQW_mod_0 hC hK hT wq_1419 dX8_digest_2 (fun N_2 eN_2 H locs hT => ?_)
  have hm := hm N_2 eN_2
  refine lv_ldc2 (v := 857) hx hb hC.2.2.2.1 (hC.2.2.2.2 _ wq_1953) dX8_digest_5 ?_
  refine lv_lstore_n (lv' := [(1, .long 857), (0, .ref (g 220))]) hx hb dX8_digest_8 rfl hl (by decide) rfl (fun ls hl => ?_)
  refine lv_iconst (v := 0) hx hb dX8_digest_9 (by decide) ?_
  refine lv_istore_n (lv' := [(3, .int 0), (1, .long 857), (0, .ref (g 220))]) hx hb dX8_digest_10 rfl hl (by decide) rfl (fun ls hl => ?_)
  exact L11 _ _ _ _ _ _ _ _ _ _ hm hT (lv_sub hl [2, 1, 0] rfl) ⟨by omega, by omega⟩
section KX8_digest
variable {p : Program} {l : Launch} {e : Env} {s : State} {m : MethodId} {args : Array Value} {below : List Frame} {meth : Method} {c : Code} {H H0 : Heap} {locs : List Loc} {cells slots : Nat} {Q : State → Prop} {R : Room} {rn mcR msR : Nat}
variable {pc : Nat} {ls : Array Slot} {rest : List Value} {A : Nat → Prop} {D : va_G}
variable {cc : ByteArray} {nL index : Nat} {own host : String}
end KX8_digest
def wp_X8_noF (N : M2) (V : M2) (x1 : Int32) (K : Int32 → M2 → M2 → Prop) : Prop := (∀ N_2 : M2, N_2 = up2 N 220 (fun _ => x1) → K 0 N_2 V)
set_option maxRecDepth 100000 in
set_option maxHeartbeats 4000000 in
theorem c_X8_noF (l : Launch) (D : va_G) (Z : Nat → ClassId) (g : Nat → Nat) (pl rg sa aa : Nat) (N : M2) (V : M2) (sz : Nat) (x1 : Int32) (K : Int32 → M2 → M2 → Prop) (hm : wp_X8_noF N V x1 K) : Met l yX8_no (wy yX8_no cX8_no 2 (some .int)) (rk 1 0 0) (pre vwCl D Z (FW Z g pl rg sa aa N V) sz [.ref (g 220), .int x1]) (poI vwCl D Z (fun u : M2 × M2 => FW Z g pl rg sa aa u.1 u.2) (N, V) sz (fun (r : Int32) (u : M2 × M2) => K r u.1 u.2)) 0 0 (va_A (FW Z g pl rg sa aa N V) sz) := by
  refine rw_of (ty := .int) (wsF := (fun u : M2 × M2 => FW Z g pl rg sa aa u.1 u.2)) (u0 := (N, V)) (by decide +kernel) (Nat.le_of_ble_eq_true rfl) rfl ?_
  intro p e s m args below meth c Q A hC hN hsz hT hK hret ls hl
  have hx := hC.1
  have hb := hC.2.1
  have hl : lv_has ls 2 [(0, .ref (g 220)), (1, .int x1)] := hl
  have hT : TS vwCl D (FW Z g pl rg sa aa N V) A s.heap s.heap [] := hT
  refine lv_aload_n hx hb dX8_no_0 rfl (lv_at hl 0 rfl) ?_
  refine lv_iload_n hx hb dX8_no_1 rfl (lv_at hl 1 rfl) ?_
  refine pFW_mod_0 hC hK hT wq_1419 dX8_no_2 (fun N_2 eN_2 H locs hT => ?_)
  have hm := hm N_2 eN_2
  refine lv_iconst (v := 0) hx hb dX8_no_5 (by decide) ?_
  exact hret 6 _ _ _ _ (N_2, V) hm hT rfl dX8_no_6
section KX8_noF
variable {p : Program} {l : Launch} {e : Env} {s : State} {m : MethodId} {args : Array Value} {below : List Frame} {meth : Method} {c : Code} {H H0 : Heap} {locs : List Loc} {cells slots : Nat} {Q : State → Prop} {R : Room} {rn mcR msR : Nat}
variable {pc : Nat} {ls : Array Slot} {rest : List Value} {A : Nat → Prop} {D : va_G}
variable {cc : ByteArray} {nL index : Nat} {own host : String}
theorem k_X8_noF {Z : Nat → ClassId} {g : Nat → Nat} {pl rg sa aa : Nat} {N : M2} {V : M2} {x1 : Int32} {K : Int32 → M2 → M2 → Prop} (hC : CallFix p m c cc nL s args lw_g own) (hN : NW s) (hK : va_K D vwCl (tysG Z) s) (hT : TS vwCl D (FW Z g pl rg sa aa N V) A H0 H locs) (hm : wp_X8_noF N V x1 K) (hl : Cond.methodLink own index yX8_no ∈ lw_g) (hlt : 1 < rn) (hsize : ls.size = nL) (hW : (rest.map fun v => v.category).sum ≤ 8) (hf : cells + 0 ≤ mcR ∧ slots + 0 ≤ msR) (hdg : decode cc pc = .ok (.invokevirtual index, 3)) (kk : ∀ (r : Int32) (N1 : M2) (V1 : M2) (H1 : Heap) (locs1 : List Loc), K r N1 V1 → TS vwCl D (FW Z g pl rg sa aa N1 V1) A H0 H1 locs1 → W p l e (rk rn mcR msR) s m args below meth c H1 locs1 cells slots Q (F0 m (pc + 3) ls (.int r :: rest))) : W p l e (rk rn mcR msR) s m args below meth c H locs cells slots Q (F0 m pc ls (.int x1 :: .ref (g 220) :: rest)) :=
  rw_go (wsF := (fun u : M2 × M2 => FW Z g pl rg sa aa u.1 u.2)) (u0 := (N, V)) (wr := []) (isC := cutFW) (isR := []) (pm := cutFW) (ws' := (fun u : M2 × M2 => FW Z g pl rg sa aa u.1 u.2)) (runV (As := [.int x1]) hC hN (c_X8_noF l D Z g pl rg sa aa N V H.size x1 K hm) mi_X8_no hl wq_1476 wq_62 hlt hT.1 hT.D' hK (q0 := 0) rfl rfl rfl hsize rfl hW hdg hf) (cutOkFW Z g pl rg sa aa N V) hT (fun r u H1 locs1 hk hT1 => kk r u.1 u.2 H1 locs1 hk hT1)
end KX8_noF
def wl_X8_feedT_51 (K : Int32 → M2 → M2 → M2 → Prop) : Nat → M2 → M2 → M2 → Int32 → Prop
  | 0, _, _, _, _ => False
  | n + 1, N, V, E, v7 => ((20 ≤ v7 → (∀ N_106 : M2, N_106 = up2 N 222 (fun _ => (N 222 0) + 20) → K (N_106 222 0) N_106 V E)) ∧ (¬ 20 ≤ v7 → (inb (v7 / 4) 5 ∧ (inb ((N 222 0) + v7) 2000 ∧ ∀ V_91 : M2, V_91 = up2 V 221 (upd (V 221) ((N 222 0) + v7).toInt.toNat (((E 400 (v7 / 4).toInt.toNat) >>> ((24 - (8 * (v7 - v7 / 4 * 4))) &&& 31)) &&& 255)) → (∀ v7_92 : Int32, v7_92 = v7 + 1 → wl_X8_feedT_51 K n N V_91 E v7_92)))))
def wp_X8_feedT (N : M2) (V : M2) (E : M2) (x1 : Int32) (x2 : Int32) (x3 : Int32) (x4 : Int32) (x5 : Int32) (K : Int32 → M2 → M2 → M2 → Prop) : Prop := (inb 0 5 ∧ ∀ E_27 : M2, E_27 = up2 E 400 (upd (E 400) (0 : Int32).toInt.toNat x1) → (inb 1 5 ∧ ∀ E_31 : M2, E_31 = up2 E_27 400 (upd (E_27 400) (1 : Int32).toInt.toNat x2) → (inb 2 5 ∧ ∀ E_35 : M2, E_35 = up2 E_31 400 (upd (E_31 400) (2 : Int32).toInt.toNat x3) → (inb 3 5 ∧ ∀ E_40 : M2, E_40 = up2 E_35 400 (upd (E_35 400) (3 : Int32).toInt.toNat x4) → (inb 4 5 ∧ ∀ E_45 : M2, E_45 = up2 E_40 400 (upd (E_40 400) (4 : Int32).toInt.toNat x5) → wl_X8_feedT_51 K fK N V E_45 0)))))
set_option maxRecDepth 100000 in
set_option maxHeartbeats 4000000 in
theorem t_X8_feedT {p : Program} {l : Launch} {e : Env} {s : State} {m : MethodId} {args : Array Value} {below : List Frame} {meth : Method} {c : Code} {Q : State → Prop} {A : Nat → Prop} {D : va_G} {Z : Nat → ClassId} {g : Nat → Nat} {pl rg sa aa al : Nat} {N : M2} {V : M2} {E : M2} {x1 : Int32} {x2 : Int32} {x3 : Int32} {x4 : Int32} {x5 : Int32} {K : Int32 → M2 → M2 → M2 → Prop} {H : Heap} {locs : List Loc} {ls : Array Slot} (hC : CallFix p m c cX8_feed 8 s args lw_g yX8_feed.cls) (hN : NW s) (hK : va_K D vwCl (tysG Z) s) (hT : TS vwCl D (FWA Z g pl rg sa aa al N V E) A s.heap H locs) (hm : wp_X8_feedT N V E x1 x2 x3 x4 x5 K) (hret : ∀ (pc : Nat) (ls : Array Slot) (H : Heap) (locs : List Loc) (r : Int32) (u : M2 × M2 × M2), K r u.1 u.2.1 u.2.2 → TS vwCl D (FWA Z g pl rg sa aa al u.1 u.2.1 u.2.2) A s.heap H locs → narrow .int (.int r) = .int r → decode cX8_feed pc = .ok (.ireturn, 1) → W p l e (rk 2 1 5) s m args below meth c H locs 1 5 Q (F0 m pc ls [.int r])) (hl : lv_has ls 8 [(0, .ref (g 220)), (1, .int x1), (2, .int x2), (3, .int x3), (4, .int x4), (5, .int x5)]) : W p l e (rk 2 1 5) s m args below meth c H locs 1 5 Q (F0 m 24 ls [.ref (al)]) := by
  have hx := hC.1
  have hb := hC.2.1
  have L51 : ∀ (n51 : Nat), ∀ (N : M2) (V : M2) (E : M2) (v7 : Int32) (H : Heap) (locs : List Loc) (ls : Array Slot), wl_X8_feedT_51 K n51 N V E v7 → TS vwCl D (FWA Z g pl rg sa aa al N V E) A s.heap H locs → lv_has ls 8 [(0, .ref (g 220)), (6, .ref (al)), (7, .int v7)] → W p l e (rk 2 1 5) s m args below meth c H locs 1 5 Q (F0 m 51 ls []) := by
    intro n51
    induction n51 with
    | zero =>
      intro N V E v7 H locs ls hm hT hl
      exact False.elim hm
    | succ n51 ih51 =>
      intro N V E v7 H locs ls hm hT hl
      refine lv_iload hx hb dX8_feed_51 (lv_at hl 2 rfl) ?_
      refine lv_bipush (v := 20) hx hb dX8_feed_53 (by decide) ?_
      refine lv_icmp_ge (tgt := 98) hx hb dX8_feed_55 (by decide) (fun c_55 => ?_) (fun c_55 => ?_)
      · have hm := hm.1 c_55
        refine lv_aload_n hx hb dX8_feed_98 rfl (lv_at hl 0 rfl) ?_
        refine lv_dup hx hb dX8_feed_99 rfl ?_
        refine gFWA_mod_2 hC hK hT.1 wq_1421 dX8_feed_100 ?_
        refine lv_bipush (v := 20) hx hb dX8_feed_103 (by decide) ?_
        refine lv_iadd hx hb dX8_feed_105 ?_
        refine pFWA_mod_2 hC hK hT wq_1421 dX8_feed_106 (fun N_106 eN_106 H locs hT => ?_)
        have hm := hm N_106 eN_106
        refine lv_aload_n hx hb dX8_feed_109 rfl (lv_at hl 0 rfl) ?_
        refine gFWA_mod_2 hC hK hT.1 wq_1421 dX8_feed_110 ?_
        exact hret 113 _ _ _ _ (N_106, V, E) hm hT rfl dX8_feed_113
      · have hm := hm.2 c_55
        refine lv_aload_n hx hb dX8_feed_58 rfl (lv_at hl 0 rfl) ?_
        refine gFWA_mod_1 hC hK hT.1 wq_1420 dX8_feed_59 ?_
        refine lv_aload_n hx hb dX8_feed_62 rfl (lv_at hl 0 rfl) ?_
        refine gFWA_mod_2 hC hK hT.1 wq_1421 dX8_feed_63 ?_
        refine lv_iload hx hb dX8_feed_66 (lv_at hl 2 rfl) ?_
        refine lv_iadd hx hb dX8_feed_68 ?_
        refine lv_aload hx hb dX8_feed_69 (lv_at hl 1 rfl) ?_
        refine lv_iload hx hb dX8_feed_71 (lv_at hl 2 rfl) ?_
        refine lv_iconst (v := 4) hx hb dX8_feed_73 (by decide) ?_
        refine lv_idiv hx hb dX8_feed_74 (by decide) ?_
        refine w_iald (q0 := 2) hC hK hT.1 rfl hm.1 dX8_feed_75 ?_
        have hm := hm.2
        refine lv_bipush (v := 24) hx hb dX8_feed_76 (by decide) ?_
        refine lv_bipush (v := 8) hx hb dX8_feed_78 (by decide) ?_
        refine lv_iload hx hb dX8_feed_80 (lv_at hl 2 rfl) ?_
        refine lv_iconst (v := 4) hx hb dX8_feed_82 (by decide) ?_
        refine lv_irem hx hb dX8_feed_83 (by decide) ?_
        refine lv_imul hx hb dX8_feed_84 ?_
        refine lv_isub hx hb dX8_feed_85 ?_
        refine lv_ishr hx hb dX8_feed_86 ?_
        refine lv_sipush (v := 255) hx hb dX8_feed_87 (by decide) ?_
        refine lv_iand hx hb dX8_feed_90 ?_
        refine sFWA_tape hC hK hT hm.1 dX8_feed_91 (fun V_91 eV_91 H locs hT => ?_)
        have hm := hm.2 V_91 eV_91
        obtain ⟨v7_92, ev7_92⟩ : ∃ y : Int32, y = v7 + 1 := ⟨_, rfl⟩
        have hm := hm v7_92 ev7_92
        refine lv_iinc (v := v7_92) (lv' := [(7, .int v7_92), (0, .ref (g 220)), (6, .ref (al))]) hx hb dX8_feed_92 hl (k := 2) rfl (by rw [ev7_92]; rfl) (by decide) rfl (fun ls hl => ?_)
        refine lv_goto (tgt := 51) hx hb dX8_feed_95 (by decide) ?_
        exact ih51 _ _ _ _ _ _ _ hm hT (lv_sub hl [1, 2, 0] rfl)
  refine lv_dup hx hb dX8_feed_24 rfl ?_
  refine lv_iconst (v := 0) hx hb dX8_feed_25 (by decide) ?_
  refine lv_iload_n hx hb dX8_feed_26 rfl (lv_at hl 1 rfl) ?_
  refine sFWA_all hC hK hT hm.1 dX8_feed_27 (fun E_27 eE_27 H locs hT => ?_)
  have hm := hm.2 E_27 eE_27
  refine lv_dup hx hb dX8_feed_28 rfl ?_
  refine lv_iconst (v := 1) hx hb dX8_feed_29 (by decide) ?_
  refine lv_iload_n hx hb dX8_feed_30 rfl (lv_at hl 2 rfl) ?_
  refine sFWA_all hC hK hT hm.1 dX8_feed_31 (fun E_31 eE_31 H locs hT => ?_)
  have hm := hm.2 E_31 eE_31
  refine lv_dup hx hb dX8_feed_32 rfl ?_
  refine lv_iconst (v := 2) hx hb dX8_feed_33 (by decide) ?_
  refine lv_iload_n hx hb dX8_feed_34 rfl (lv_at hl 3 rfl) ?_
  refine sFWA_all hC hK hT hm.1 dX8_feed_35 (fun E_35 eE_35 H locs hT => ?_)
  have hm := hm.2 E_35 eE_35
  refine lv_dup hx hb dX8_feed_36 rfl ?_
  refine lv_iconst (v := 3) hx hb dX8_feed_37 (by decide) ?_
  refine lv_iload hx hb dX8_feed_38 (lv_at hl 4 rfl) ?_
  refine sFWA_all hC hK hT hm.1 dX8_feed_40 (fun E_40 eE_40 H locs hT => ?_)
  have hm := hm.2 E_40 eE_40
  refine lv_dup hx hb dX8_feed_41 rfl ?_
  refine lv_iconst (v := 4) hx hb dX8_feed_42 (by decide) ?_
  refine lv_iload hx hb dX8_feed_43 (lv_at hl 5 rfl) ?_
  refine sFWA_all hC hK hT hm.1 dX8_feed_45 (fun E_45 eE_45 H locs hT => ?_)
  have hm := hm.2 E_45 eE_45
  refine lv_astore (lv' := [(6, .ref (al)), (0, .ref (g 220)), (1, .int x1), (2, .int x2), (3, .int x3), (4, .int x4), (5, .int x5)]) hx hb dX8_feed_46 hl (by decide) rfl (fun ls hl => ?_)
  refine lv_iconst (v := 0) hx hb dX8_feed_48 (by decide) ?_
  refine lv_istore (lv' := [(7, .int 0), (6, .ref (al)), (0, .ref (g 220)), (1, .int x1), (2, .int x2), (3, .int x3), (4, .int x4), (5, .int x5)]) hx hb dX8_feed_49 hl (by decide) rfl (fun ls hl => ?_)
  exact L51 _ _ _ _ _ _ _ _ hm hT (lv_sub hl [2, 1, 0] rfl)
def wp_X8_feed (N : M2) (V : M2) (x1 : Int32) (x2 : Int32) (x3 : Int32) (x4 : Int32) (x5 : Int32) (K : Int32 → M2 → M2 → Prop) : Prop := (∀ N_2 : M2, N_2 = up2 N 220 (fun _ => 0) → (((N_2 222 0) ≤ 1980 → wp_X8_feedT N_2 V zM x1 x2 x3 x4 x5 (fun r_ N_ V_ E_ => K r_ N_ V_)) ∧ (¬ (N_2 222 0) ≤ 1980 → wp_X8_noF N_2 V 1 (fun r_17 N_17 V_17 => K r_17 N_17 V_17))))
set_option maxRecDepth 100000 in
set_option maxHeartbeats 4000000 in
theorem c_X8_feed (l : Launch) (D : va_G) (Z : Nat → ClassId) (g : Nat → Nat) (pl rg sa aa : Nat) (N : M2) (V : M2) (sz : Nat) (x1 : Int32) (x2 : Int32) (x3 : Int32) (x4 : Int32) (x5 : Int32) (K : Int32 → M2 → M2 → Prop) (hm : wp_X8_feed N V x1 x2 x3 x4 x5 K) : Met l yX8_feed (wy yX8_feed cX8_feed 8 (some .int)) (rk 2 1 5) (pre vwCl D Z (FW Z g pl rg sa aa N V) sz [.ref (g 220), .int x1, .int x2, .int x3, .int x4, .int x5]) (poI vwCl D Z (fun u : M2 × M2 => FW Z g pl rg sa aa u.1 u.2) (N, V) sz (fun (r : Int32) (u : M2 × M2) => K r u.1 u.2)) 1 5 (va_A (FW Z g pl rg sa aa N V) sz) := by
  refine rw_of (ty := .int) (wsF := (fun u : M2 × M2 => FW Z g pl rg sa aa u.1 u.2)) (u0 := (N, V)) (by decide +kernel) (Nat.le_of_ble_eq_true rfl) rfl ?_
  intro p e s m args below meth c Q A hC hN hsz hT hK hret ls hl
  have hx := hC.1
  have hb := hC.2.1
  have hl : lv_has ls 8 [(0, .ref (g 220)), (1, .int x1), (2, .int x2), (3, .int x3), (4, .int x4), (5, .int x5)] := hl
  have hT : TS vwCl D (FW Z g pl rg sa aa N V) A s.heap s.heap [] := hT
  refine lv_aload_n hx hb dX8_feed_0 rfl (lv_at hl 0 rfl) ?_
  refine lv_iconst (v := 0) hx hb dX8_feed_1 (by decide) ?_
  refine pFW_mod_0 hC hK hT wq_1419 dX8_feed_2 (fun N_2 eN_2 H locs hT => ?_)
  have hm := hm N_2 eN_2
  refine lv_aload_n hx hb dX8_feed_5 rfl (lv_at hl 0 rfl) ?_
  refine gFW_mod_2 hC hK hT.1 wq_1421 dX8_feed_6 ?_
  refine lv_sipush (v := 1980) hx hb dX8_feed_9 (by decide) ?_
  refine lv_icmp_le (tgt := 21) hx hb dX8_feed_12 (by decide) (fun c_12 => ?_) (fun c_12 => ?_)
  · have hm := hm.1 c_12
    refine lv_iconst (v := 5) hx hb dX8_feed_21 (by decide) ?_
    refine w_newI (N := 5) hC hK hT wq_297 (by decide) (by decide) (by decide) (Nat.le_of_ble_eq_true rfl) (Nat.le_of_ble_eq_true rfl) dX8_feed_22 (fun al H hT => ?_)
    have hT : TS vwCl D (FWA Z g pl rg sa aa al N_2 V zM) A s.heap H _ := hT
    exact t_X8_feedT hC hN hK hT hm (fun pc ls H locs r u hk hT hnar hd => hret pc ls H locs r (u.1, u.2.1) hk (show TS vwCl D (FW Z g pl rg sa aa (u.1) (u.2.1) ++ [(al, .inl (Z 0, 5, .inl (u.2.2 400)))]) A s.heap H locs from hT).dropR hnar hd) (lv_sub hl [0, 1, 2, 3, 4, 5] rfl)
  · have hm := hm.2 c_12
    refine lv_aload_n hx hb dX8_feed_15 rfl (lv_at hl 0 rfl) ?_
    refine lv_iconst (v := 1) hx hb dX8_feed_16 (by decide) ?_
    refine k_X8_noF hC hN hK hT hm wq_1474 (by decide) hl.1 (Nat.le_of_ble_eq_true rfl) ⟨Nat.le_of_ble_eq_true rfl, Nat.le_of_ble_eq_true rfl⟩ dX8_feed_17 (fun r_17 N_17 V_17 H locs hm hT => ?_)
    refine W.widen (k := 1) (n := 5) (Nat.zero_le _) (Nat.zero_le _) ?_
    exact hret 20 _ _ _ _ (N_17, V_17) hm hT rfl dX8_feed_20
section KX8_feed
variable {p : Program} {l : Launch} {e : Env} {s : State} {m : MethodId} {args : Array Value} {below : List Frame} {meth : Method} {c : Code} {H H0 : Heap} {locs : List Loc} {cells slots : Nat} {Q : State → Prop} {R : Room} {rn mcR msR : Nat}
variable {pc : Nat} {ls : Array Slot} {rest : List Value} {A : Nat → Prop} {D : va_G}
variable {cc : ByteArray} {nL index : Nat} {own host : String}
end KX8_feed
