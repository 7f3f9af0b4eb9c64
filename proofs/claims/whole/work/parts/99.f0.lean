def RL : String := "TunnelLeggersLaw"
abbrev cL_feed : ByteArray := method_3_code
def yL_feed : MethodName := ⟨RL, "feed", "(LTunnelLeggers;IIIII[J)I"⟩
abbrev cL_trim : ByteArray := method_4_code
def yL_trim : MethodName := ⟨RL, "trim", "(LTunnelLeggers;I[J)I"⟩
abbrev cL_count : ByteArray := method_5_code
def yL_count : MethodName := ⟨RL, "count", "(LTunnelLeggers;I[J)I"⟩
abbrev cL_place : ByteArray := method_6_code
def yL_place : MethodName := ⟨RL, "place", "(LTunnelLeggers;II[J)I"⟩
abbrev cL_bore : ByteArray := method_7_code
def yL_bore : MethodName := ⟨RL, "bore", "(LTunnelLeggers;II[J)I"⟩
abbrev cL_legger : ByteArray := method_8_code
def yL_legger : MethodName := ⟨RL, "legger", "(LTunnelLeggers;II[J)I"⟩
abbrev cL_boat : ByteArray := method_9_code
def yL_boat : MethodName := ⟨RL, "boat", "(LTunnelLeggers;II[J)I"⟩
abbrev cL_crew : ByteArray := method_10_code
def yL_crew : MethodName := ⟨RL, "crew", "(LTunnelLeggers;II[J)I"⟩
abbrev cL_canEnter : ByteArray := method_11_code
def yL_canEnter : MethodName := ⟨RL, "canEnter", "(LTunnelLeggers;I[J)I"⟩
abbrev cL_whistle : ByteArray := method_12_code
def yL_whistle : MethodName := ⟨RL, "whistle", "(LTunnelLeggers;I[J)I"⟩
abbrev cL_cap : ByteArray := method_13_code
def yL_cap : MethodName := ⟨RL, "cap", "(LTunnelLeggers;I[J)I"⟩
abbrev cL_again : ByteArray := method_14_code
def yL_again : MethodName := ⟨RL, "again", "(LTunnelLeggers;II[J)I"⟩
abbrev cL_pass : ByteArray := method_15_code
def yL_pass : MethodName := ⟨RL, "pass", "(LTunnelLeggers;I[J)I"⟩
abbrev cL_until : ByteArray := method_16_code
def yL_until : MethodName := ⟨RL, "until", "(LTunnelLeggers;I[J)I"⟩
abbrev cL_foresee : ByteArray := method_17_code
def yL_foresee : MethodName := ⟨RL, "foresee", "(LTunnelLeggers;II[J)I"⟩
abbrev cL_advise : ByteArray := method_18_code
def yL_advise : MethodName := ⟨RL, "advise", "(LTunnelLeggers;I[J)I"⟩
abbrev cL_missed : ByteArray := method_19_code
def yL_missed : MethodName := ⟨RL, "missed", "(LTunnelLeggers;I[J)I"⟩
theorem wq_952 : Cond.methodLink RL 7 yX5_feed ∈ lw_g := lw_g_mk (tb_4 (List.mem_of_getElem? (i := 108) rfl)) rfl
theorem wq_951 : Cond.classLink RL 13 "java/lang/IllegalStateException" ∈ lw_g := lw_g_mk (tb_4 (List.mem_of_getElem? (i := 107) rfl)) rfl
theorem wq_980 : Cond.methodLink RL 15 yX5_trim ∈ lw_g := lw_g_mk (tb_4 (List.mem_of_getElem? (i := 136) rfl)) rfl
theorem wq_979 : Cond.classLink RL 19 "java/lang/IllegalArgumentException" ∈ lw_g := lw_g_mk (tb_4 (List.mem_of_getElem? (i := 135) rfl)) rfl
theorem wq_1004 : Cond.methodLink RL 21 yX5_count ∈ lw_g := lw_g_mk (tb_4 (List.mem_of_getElem? (i := 160) rfl)) rfl
theorem wq_1003 : Cond.classLink RL 24 "java/lang/IndexOutOfBoundsException" ∈ lw_g := lw_g_mk (tb_4 (List.mem_of_getElem? (i := 159) rfl)) rfl
theorem wq_1008 : Cond.methodLink RL 26 yX5_place ∈ lw_g := lw_g_mk (tb_4 (List.mem_of_getElem? (i := 164) rfl)) rfl
theorem wq_1012 : Cond.methodLink RL 30 yX5_bore ∈ lw_g := lw_g_mk (tb_4 (List.mem_of_getElem? (i := 168) rfl)) rfl
theorem wq_1016 : Cond.methodLink RL 33 yX5_legger ∈ lw_g := lw_g_mk (tb_4 (List.mem_of_getElem? (i := 172) rfl)) rfl
theorem wq_1020 : Cond.methodLink RL 36 yX5_boat ∈ lw_g := lw_g_mk (tb_4 (List.mem_of_getElem? (i := 176) rfl)) rfl
theorem wq_1024 : Cond.methodLink RL 39 yX5_crew ∈ lw_g := lw_g_mk (tb_4 (List.mem_of_getElem? (i := 180) rfl)) rfl
theorem wq_1028 : Cond.methodLink RL 42 yX5_canEnter ∈ lw_g := lw_g_mk (tb_4 (List.mem_of_getElem? (i := 184) rfl)) rfl
theorem wq_1084 : Cond.methodLink RL 46 yX5_whistle ∈ lw_g := lw_g_mk (tb_5 (List.mem_of_getElem? (i := 0) rfl)) rfl
theorem wq_1092 : Cond.methodLink RL 49 yX5_cap ∈ lw_g := lw_g_mk (tb_5 (List.mem_of_getElem? (i := 8) rfl)) rfl
theorem wq_1099 : Cond.methodLink RL 52 yX5_again ∈ lw_g := lw_g_mk (tb_5 (List.mem_of_getElem? (i := 15) rfl)) rfl
theorem wq_1112 : Cond.methodLink RL 55 yX5_pass ∈ lw_g := lw_g_mk (tb_5 (List.mem_of_getElem? (i := 28) rfl)) rfl
theorem wq_1183 : Cond.methodLink RL 58 yX5_until ∈ lw_g := lw_g_mk (tb_5 (List.mem_of_getElem? (i := 99) rfl)) rfl
theorem wq_1197 : Cond.methodLink RL 61 yX5_foresee ∈ lw_g := lw_g_mk (tb_5 (List.mem_of_getElem? (i := 113) rfl)) rfl
theorem wq_1205 : Cond.methodLink RL 64 yX5_advise ∈ lw_g := lw_g_mk (tb_5 (List.mem_of_getElem? (i := 121) rfl)) rfl
theorem wq_1212 : Cond.methodLink RL 67 yX5_missed ∈ lw_g := lw_g_mk (tb_5 (List.mem_of_getElem? (i := 128) rfl)) rfl
theorem wq_950 : Cond.codeWith yL_feed cL_feed 8 (some .int) [(0, 16, 19, 13)] ∈ lw_g := lw_g_mk (tb_4 (List.mem_of_getElem? (i := 106) rfl)) rfl
theorem wq_124 : Cond.initialized RL ∈ lw_g := lw_g_mk (tb_1 (List.mem_of_getElem? (i := 0) rfl)) rfl
theorem wq_949 : Cond.static yL_feed ∈ lw_g := lw_g_mk (tb_4 (List.mem_of_getElem? (i := 105) rfl)) rfl
theorem wq_978 : Cond.codeWith yL_trim cL_trim 4 (some .int) [(0, 9, 12, 19)] ∈ lw_g := lw_g_mk (tb_4 (List.mem_of_getElem? (i := 134) rfl)) rfl
theorem wq_977 : Cond.static yL_trim ∈ lw_g := lw_g_mk (tb_4 (List.mem_of_getElem? (i := 133) rfl)) rfl
theorem wq_1002 : Cond.codeWith yL_count cL_count 4 (some .int) [(0, 9, 12, 24)] ∈ lw_g := lw_g_mk (tb_4 (List.mem_of_getElem? (i := 158) rfl)) rfl
theorem wq_1001 : Cond.static yL_count ∈ lw_g := lw_g_mk (tb_4 (List.mem_of_getElem? (i := 157) rfl)) rfl
theorem wq_1007 : Cond.codeWith yL_place cL_place 5 (some .int) [(0, 10, 13, 24)] ∈ lw_g := lw_g_mk (tb_4 (List.mem_of_getElem? (i := 163) rfl)) rfl
theorem wq_1006 : Cond.static yL_place ∈ lw_g := lw_g_mk (tb_4 (List.mem_of_getElem? (i := 162) rfl)) rfl
theorem wq_1011 : Cond.codeWith yL_bore cL_bore 5 (some .int) [(0, 10, 13, 24)] ∈ lw_g := lw_g_mk (tb_4 (List.mem_of_getElem? (i := 167) rfl)) rfl
theorem wq_1010 : Cond.static yL_bore ∈ lw_g := lw_g_mk (tb_4 (List.mem_of_getElem? (i := 166) rfl)) rfl
theorem wq_1015 : Cond.codeWith yL_legger cL_legger 5 (some .int) [(0, 10, 13, 24)] ∈ lw_g := lw_g_mk (tb_4 (List.mem_of_getElem? (i := 171) rfl)) rfl
theorem wq_1014 : Cond.static yL_legger ∈ lw_g := lw_g_mk (tb_4 (List.mem_of_getElem? (i := 170) rfl)) rfl
theorem wq_1019 : Cond.codeWith yL_boat cL_boat 5 (some .int) [(0, 10, 13, 24)] ∈ lw_g := lw_g_mk (tb_4 (List.mem_of_getElem? (i := 175) rfl)) rfl
theorem wq_1018 : Cond.static yL_boat ∈ lw_g := lw_g_mk (tb_4 (List.mem_of_getElem? (i := 174) rfl)) rfl
theorem wq_1023 : Cond.codeWith yL_crew cL_crew 5 (some .int) [(0, 10, 13, 24)] ∈ lw_g := lw_g_mk (tb_4 (List.mem_of_getElem? (i := 179) rfl)) rfl
theorem wq_1022 : Cond.static yL_crew ∈ lw_g := lw_g_mk (tb_4 (List.mem_of_getElem? (i := 178) rfl)) rfl
theorem wq_1027 : Cond.codeWith yL_canEnter cL_canEnter 4 (some .int) [(0, 16, 19, 24)] ∈ lw_g := lw_g_mk (tb_4 (List.mem_of_getElem? (i := 183) rfl)) rfl
theorem wq_1026 : Cond.static yL_canEnter ∈ lw_g := lw_g_mk (tb_4 (List.mem_of_getElem? (i := 182) rfl)) rfl
theorem wq_1083 : Cond.codeWith yL_whistle cL_whistle 4 (some .int) [(0, 9, 12, 19)] ∈ lw_g := lw_g_mk (tb_4 (List.mem_of_getElem? (i := 239) rfl)) rfl
theorem wq_1082 : Cond.static yL_whistle ∈ lw_g := lw_g_mk (tb_4 (List.mem_of_getElem? (i := 238) rfl)) rfl
theorem wq_1091 : Cond.codeWith yL_cap cL_cap 4 (some .int) [(0, 9, 12, 24)] ∈ lw_g := lw_g_mk (tb_5 (List.mem_of_getElem? (i := 7) rfl)) rfl
theorem wq_1090 : Cond.static yL_cap ∈ lw_g := lw_g_mk (tb_5 (List.mem_of_getElem? (i := 6) rfl)) rfl
theorem wq_1098 : Cond.codeWith yL_again cL_again 5 (some .int) [(0, 10, 13, 24), (0, 10, 17, 19), (0, 10, 21, 13)] ∈ lw_g := lw_g_mk (tb_5 (List.mem_of_getElem? (i := 14) rfl)) rfl
theorem wq_1097 : Cond.static yL_again ∈ lw_g := lw_g_mk (tb_5 (List.mem_of_getElem? (i := 13) rfl)) rfl
theorem wq_1111 : Cond.codeWith yL_pass cL_pass 4 (some .int) [(0, 9, 12, 19)] ∈ lw_g := lw_g_mk (tb_5 (List.mem_of_getElem? (i := 27) rfl)) rfl
theorem wq_1110 : Cond.static yL_pass ∈ lw_g := lw_g_mk (tb_5 (List.mem_of_getElem? (i := 26) rfl)) rfl
theorem wq_1182 : Cond.codeWith yL_until cL_until 4 (some .int) [(0, 9, 12, 24)] ∈ lw_g := lw_g_mk (tb_5 (List.mem_of_getElem? (i := 98) rfl)) rfl
theorem wq_1181 : Cond.static yL_until ∈ lw_g := lw_g_mk (tb_5 (List.mem_of_getElem? (i := 97) rfl)) rfl
theorem wq_1196 : Cond.codeWith yL_foresee cL_foresee 5 (some .int) [(0, 10, 13, 19), (0, 10, 17, 24)] ∈ lw_g := lw_g_mk (tb_5 (List.mem_of_getElem? (i := 112) rfl)) rfl
theorem wq_1195 : Cond.static yL_foresee ∈ lw_g := lw_g_mk (tb_5 (List.mem_of_getElem? (i := 111) rfl)) rfl
theorem wq_1204 : Cond.codeWith yL_advise cL_advise 4 (some .int) [(0, 9, 12, 19)] ∈ lw_g := lw_g_mk (tb_5 (List.mem_of_getElem? (i := 120) rfl)) rfl
theorem wq_1203 : Cond.static yL_advise ∈ lw_g := lw_g_mk (tb_5 (List.mem_of_getElem? (i := 119) rfl)) rfl
theorem wq_1211 : Cond.codeWith yL_missed cL_missed 4 (some .int) [(0, 9, 12, 19)] ∈ lw_g := lw_g_mk (tb_5 (List.mem_of_getElem? (i := 127) rfl)) rfl
theorem wq_1210 : Cond.static yL_missed ∈ lw_g := lw_g_mk (tb_5 (List.mem_of_getElem? (i := 126) rfl)) rfl
theorem wx_958 : Cond.castable "java/lang/IllegalStateException" "java/lang/IllegalStateException" ∈ lw_x := lw_x_mk (tb_4 (List.mem_of_getElem? (i := 114) rfl)) rfl
theorem wx_986 : Cond.castable "java/lang/IllegalArgumentException" "java/lang/IllegalArgumentException" ∈ lw_x := lw_x_mk (tb_4 (List.mem_of_getElem? (i := 142) rfl)) rfl
theorem wx_834 : Cond.castable "java/lang/IndexOutOfBoundsException" "java/lang/IndexOutOfBoundsException" ∈ lw_x := lw_x_mk (tb_3 (List.mem_of_getElem? (i := 230) rfl)) rfl
theorem Cut.unit {S : Type} {ws : va_W} {wsF : S → va_W} {u0 : S} {wr : va_W} {isC isR pm : List Nat} {ws' : S → va_W} (hc : Cut ws wsF u0 wr isC isR pm ws') (h : ws' u0 = ws) : Cut ws (fun _ : Unit => wsF u0) () wr isC isR pm (fun _ : Unit => ws) := ⟨hc.1, hc.2.1, hc.2.2.1, hc.2.2.2.1, hc.2.2.2.2.1, fun _ => (hc.2.2.2.2.2 u0).trans (by rw [h])⟩
def wyh (y : MethodName) (cc : ByteArray) (n : Nat) (ret : Option FieldType) (hh : List (Nat × Nat × Nat × Nat)) : List Cond := Cond.codeWith y cc n ret hh :: lw_g
def MInfoH (y : MethodName) (cc : ByteArray) (maxL : Nat) (ret : Option FieldType) (hh : List (Nat × Nat × Nat × Nat)) (n : Nat) : Prop :=
  Cond.codeWith y cc maxL ret hh ∈ lw_g ∧ Cond.initialized y.cls ∈ lw_g ∧ maxL ≤ 21 ∧ (y.cls ≠ "java/lang/invoke/MethodHandle" ∧ y.cls ≠ "java/lang/invoke/VarHandle" ∧ (parseMethodDescriptor y.desc).map (fun d => d.parameters.length) = some n) ∧ Cond.static y ∈ lw_g
theorem wyh_good {y : MethodName} {cc : ByteArray} {n : Nat} {ret : Option FieldType} {hh : List (Nat × Nat × Nat × Nat)} (h : Cond.codeWith y cc n ret hh ∈ lw_g) : GoodIn lw_g (wyh y cc n ret hh) := by
  intro w hw
  have hm : w ∈ lw_g := by
    rcases List.mem_cons.mp hw with h2 | h2
    · rw [h2]; exact h
    · exact h2
  exact ⟨hm, good_of_word (List.mem_filter.mp hm).2⟩
theorem met_ofWH {l : Launch} {y : MethodName} {ws ws' : List Cond} {rm : Room} {Pc : Array Value → State → Prop} {Qc : Array Value → State → Outcome → State → Prop} {mc ms : Nat} {free : Addr → Prop} {cc : ByteArray} {maxL : Nat} {ret : Option FieldType} {hh : List (Nat × Nat × Nat × Nat)}
    (hy : plainName y.cls = true) (hw : ws = Cond.codeWith y cc maxL ret hh :: ws')
    (body : ∀ p e s m args below meth c s₁, BodyLoose p l y (headSpec ws rm) cc maxL ret e s m args below meth c s₁ → c.maxLocals = maxL → Pc args s →
      W p l e (headSpec ws rm).room s m args below meth c s.heap [] 0 0 (MQ below Qc args s mc ms free) (entryFrame m args maxL)) : Met l y ws rm Pc Qc mc ms free := by
  refine MetFree.of_bodyS (code := cc) (maxLocals := maxL) (ret := ret) hy ?_ ?_
  · intro args s m h hn
    obtain ⟨m9, meth, c, hn9, h1, h2, h3, h4, -, h5, h6, -⟩ := Cond.codeWith_spec (atoms_spec (ws := ws) h _ (by rw [hw]; exact List.mem_cons_self))
    cases hn.symm.trans hn9
    exact ⟨meth, c, h1, h2, h3, h4, h5, h6⟩
  · intro p e s m args below meth c s₁ B hml hP _
    have hh0 : s₁.heap = s.heap := by rw [B.state]; rfl
    obtain ⟨t, a1, o, b1, b2, b3⟩ := body p e s m args below meth c s₁ B hml hP s₁ hh0 (Stand.of_body B)
    exact ⟨t, o, a1, b1, b2, ⟨b3.1, b3.2⟩⟩
theorem rw_ofH {l : Launch} {y : MethodName} {cc : ByteArray} {n : Nat} {ret : Option FieldType} {hh : List (Nat × Nat × Nat × Nat)} {rn mc ms : Nat} {D : va_G} {Z : Nat → ClassId} {r0 : Nat → Nat} {sz : Nat} {av : List Value} {S : Type} {wsF : S → va_W} {u0 : S} {ty : FieldType} {K : Int32 → S → Prop} (hy : plainName y.cls = true) (hn : (lg_sl av).length ≤ n) (hret : ret = some ty)
    (body : ∀ (p : Program) (e : Env) (s : State) (m : MethodId) (args : Array Value) (below : List Frame) (meth : Method) (c : Code) (Q : State → Prop) (A : Nat → Prop), CallFix p m c cc n s args lw_g y.cls → NW s → RXD r0 A s s.heap → s.heap.size = sz → c.exceptionTable.toList = tableOf hh → TS vwCl D (wsF u0) A s.heap s.heap [] → va_K D vwCl (tysG Z) s →
      (∀ (pc : Nat) (ls : Array Slot) (H : Heap) (locs : List Loc) (r : Int32) (u : S), K r u → TS vwCl D (wsF u) A s.heap H locs → narrow ty (.int r) = .int r → decode cc pc = .ok (.ireturn, 1) → W p l e (rk rn mc ms) s m args below meth c H locs mc ms Q (F0 m pc ls [.int r])) →
      ∀ ls : Array Slot, lv_has ls n (lv_args 0 av) → W p l e (rk rn mc ms) s m args below meth c s.heap [] 0 0 Q (F0 m 0 ls [])) :
    Met l y (wyh y cc n ret hh) (rk rn mc ms) (preX vwCl D Z r0 (wsF u0) sz av) (poI vwCl D Z wsF u0 sz K) mc ms (va_A (wsF u0) sz) := by
  refine met_ofWH (cc := cc) (maxL := n) (ret := ret) (hh := hh) hy rfl ?_
  intro p e s m args below meth c s₁ B hml hv
  obtain ⟨rfl, hsz, hP, hD, hK, hN, hR⟩ := hv
  have hw0 : (Cond.codeWith y cc n ret hh).before av.toArray s = true := atoms_spec (ws := wyh y cc n ret hh) B.pre _ List.mem_cons_self
  have hts : ∀ w ∈ lw_g, w.before av.toArray s = true := fun w hw => atoms_spec (ws := wyh y cc n ret hh) B.pre w (List.mem_cons_of_mem _ hw)
  have how : s.vm.findClass y.cls = some m.cls := findClass_of_methodNamed B.named
  have hlocks := B.notSynchronized
  have hl := lv_entry av (n := n) hn
  rw [lg_entry_eq]
  subst hsz
  refine body p e s m av.toArray below meth c _ (va_A (wsF u0) s.heap.size) ⟨B.exec, B.bytes, hml, how, hts⟩ hN hR rfl (vx_table (x := y) B hw0) ⟨hP, hD.self, va_S.rf, fun q h => Or.inr h⟩ hK ?_ _ hl
  intro pc ls H locs r u hk hT hnar hd
  exact W.zret (ty := ty) B.exec B.bytes (B.returns.trans hret) hnar (fun t ht hW => ⟨⟨r, u, rfl, hk, by rw [ht]; exact hT.1, hT.2.1, va_K.moved hW.alike hK⟩, hT.2.2.1.F ht⟩) hT.2.2.1.2.2 hd
theorem runSH {p : Program} {l : Launch} {e : Env} {s : State} {m : MethodId} {args : Array Value} {below : List Frame} {meth : Method} {c : Code} {H : Heap} {locs : List Loc} {cells slots : Nat} {pc : Nat} {ls : Array Slot} {rest st0 : List Value} {mc ms : Nat} {cl : List vw_C} {D : va_G} {Z : Nat → ClassId} {ws : va_W} {r : Nat → Nat} {y : MethodName} {bytes cc : ByteArray} {maxL nL n index : Nat} {ret : Option FieldType} {hh : List (Nat × Nat × Nat × Nat)} {rn rn' mcR msR : Nat} {Qc : Array Value → State → Outcome → State → Prop} {free : Addr → Prop} {own : String} {As : List Value} (hC : CallFix p m c cc nL s args lw_g own) (hN : NW s) (hR : RXD r (va_A ws H.size) s H) (hM : Met l y (wyh y bytes maxL ret hh) (rk rn' mc ms) (preX cl D Z r ws H.size As) Qc mc ms free) (hi : MInfoH y bytes maxL ret hh n) (hl : Cond.methodLink own index y ∈ lw_g) (hlt : rn' < rn)
    (hP : va_P D cl ws H) (hD : va_D (fun _ => True) ws) (hK : va_K D cl (tysG Z) s)
    (hn : As.length = n) (hsize : ls.size = nL) (hstack : st0 = As.reverse ++ rest) (hW : (rest.map fun v => v.category).sum ≤ 8) (hdg : decode cc pc = .ok (.invokestatic index, 3)) (hf : cells + mc ≤ mcR ∧ slots + ms ≤ msR) :
    va_Run p l e (rk rn mcR msR) s m args below meth c H locs cells slots mc ms (F0 m pc ls st0) rest (Qc As.toArray) free := by
  have hts := hC.2.2.2.2
  have hcw : vx_CSW (rk rn mcR msR) s args own index y bytes maxL ret hh (wyh y bytes maxL ret hh) (rk rn' mc ms) mc ms n := by
    have hd := hi.2.2.2.1
    refine ⟨⟨rfl, rfl, (rk_fit hlt hi.2.2.1).1, (rk_fit hlt hi.2.2.1).2, pay_in hts (wyh_good hi.1), List.mem_cons_self⟩, hts _ hi.1, hts _ hi.2.1, ⟨hd.1, hd.2.1⟩, fun sig h => ?_, hts _ hl, hts _ hi.2.2.2.2⟩
    have h2 := hd.2.2
    rw [h] at h2
    exact (Option.some.inj h2).symm
  exact vx_runSW (As := As) (rest := rest) hC hM hcw ⟨preX.blind, fun U hU hW => ⟨rfl, by rw [hU], by rw [hU]; exact hP, hD, va_K.moved hW.alike hK, NW.warm hW hN, by rw [hU]; exact hR.warm hW⟩⟩ rfl hn hsize hstack (lv_room hW) hdg hf
def LX (Z : Nat → ClassId) (a t b q q2 : Nat → Nat) (ow : Nat) (ap : Nat) (bp : Nat) (rp : Nat) (C : M2) (T : M2) (G : M2) (P : M2) (Y : M2) (L : L2) (B : M2) (X : L2) : va_W := [(a 90, .inr (5, [.ref (a 80), .int (C 91 0), .int (C 92 0), .ref (a 60), .ref (q2 20), .ref (t 0), .ref (b 0)])), (a 80, .inl (Z 2, 2000, .inl (B 80))), (a 60, .inr (2, [.ref (a 70), .ref (a 61), .ref (a 62), .ref (a 63), .ref (a 64), .ref rp, .int (Y 66 0), .int (Y 67 0), .int (Y 68 0), .int (Y 69 0)])), (a 61, .inl (Z 1, 5, .inr (.inl (L 61)))), (a 62, .inl (Z 1, 4, .inr (.inl (L 62)))), (a 63, .inl (Z 1, 6, .inr (.inl (L 63)))), (a 64, .inl (Z 1, 8, .inr (.inl (L 64)))), (a 70, .inr (3, [.ref (a 71), .ref (a 72), .int (Y 73 0), .ref (a 74), .ref (a 75), .ref (a 76), .ref bp, .int (Y 78 0)])), (a 71, .inl (Z 1, 40, .inr (.inl (L 71)))), (a 72, .inl (Z 0, 40, .inl (Y 72))), (a 74, .inl (Z 0, 401, .inl (Y 74))), (a 75, .inl (Z 0, 401, .inl (Y 75))), (a 76, .inl (Z 1, 401, .inr (.inl (L 76)))), (q2 20, .inr (1, [.int (Y 20 0), .int (Y 21 0), .int (Y 22 0), .int (Y 23 0), .int (Y 24 0), .ref (q2 25), .ref (q2 26), .ref (q2 27), .ref (q2 28), .ref (q2 29), .ref (q2 30), .ref (q2 31), .ref (q2 32), .ref (q2 33), .ref (q2 34), .ref (q2 35), .ref (q2 36), .ref (q2 37), .ref (q2 40)])), (q2 25, .inl (Z 0, 5, .inl (Y 25))), (q2 26, .inl (Z 0, 5, .inl (Y 26))), (q2 27, .inl (Z 0, 5, .inl (Y 27))), (q2 28, .inl (Z 0, 60, .inl (Y 28))), (q2 29, .inl (Z 0, 4, .inl (Y 29))), (q2 30, .inl (Z 0, 4, .inl (Y 30))), (q2 31, .inl (Z 0, 6, .inl (Y 31))), (q2 32, .inl (Z 0, 6, .inl (Y 32))), (q2 33, .inl (Z 0, 8, .inl (Y 33))), (q2 34, .inl (Z 0, 8, .inl (Y 34))), (q2 35, .inl (Z 0, 8, .inl (Y 35))), (q2 36, .inl (Z 0, 8, .inl (Y 36))), (q2 37, .inl (Z 0, 8, .inl (Y 37))), (q2 40, .inr (0, [.int (Y 40 0), .ref (q2 41), .ref (q2 42), .ref (q2 43), .ref (q2 44), .int (Y 45 0), .ref (q2 46), .ref (q2 47)])), (q2 41, .inl (Z 0, 16, .inl (Y 41))), (q2 42, .inl (Z 0, 16, .inl (Y 42))), (q2 43, .inl (Z 0, 16, .inl (Y 43))), (q2 44, .inl (Z 0, 16, .inl (Y 44))), (q2 46, .inl (Z 0, 400, .inl (Y 46))), (q2 47, .inl (Z 0, 400, .inl (Y 47))), (q 20, .inr (1, [.int (P 20 0), .int (P 21 0), .int (P 22 0), .int (P 23 0), .int (P 24 0), .ref (q 25), .ref (q 26), .ref (q 27), .ref (q 28), .ref (q 29), .ref (q 30), .ref (q 31), .ref (q 32), .ref (q 33), .ref (q 34), .ref (q 35), .ref (q 36), .ref (q 37), .ref (q 40)])), (q 25, .inl (Z 0, 5, .inl (P 25))), (q 26, .inl (Z 0, 5, .inl (P 26))), (q 27, .inl (Z 0, 5, .inl (P 27))), (q 28, .inl (Z 0, 60, .inl (P 28))), (q 29, .inl (Z 0, 4, .inl (P 29))), (q 30, .inl (Z 0, 4, .inl (P 30))), (q 31, .inl (Z 0, 6, .inl (P 31))), (q 32, .inl (Z 0, 6, .inl (P 32))), (q 33, .inl (Z 0, 8, .inl (P 33))), (q 34, .inl (Z 0, 8, .inl (P 34))), (q 35, .inl (Z 0, 8, .inl (P 35))), (q 36, .inl (Z 0, 8, .inl (P 36))), (q 37, .inl (Z 0, 8, .inl (P 37))), (q 40, .inr (0, [.int (P 40 0), .ref (q 41), .ref (q 42), .ref (q 43), .ref (q 44), .int (P 45 0), .ref (q 46), .ref (q 47)])), (q 41, .inl (Z 0, 16, .inl (P 41))), (q 42, .inl (Z 0, 16, .inl (P 42))), (q 43, .inl (Z 0, 16, .inl (P 43))), (q 44, .inl (Z 0, 16, .inl (P 44))), (q 46, .inl (Z 0, 400, .inl (P 46))), (q 47, .inl (Z 0, 400, .inl (P 47))), (t 0, .inr (4, [.ref (q 20), .int (T 1 0), .int (T 2 0), .int (T 3 0), .ref (t 4), .ref (t 5), .ref (t 6), .ref (t 7), .ref (t 8), .ref (t 9), .ref (t 10), .ref (t 11), .ref (t 12), .ref (t 13), .ref (t 14)])), (t 4, .inl (Z 0, 60, .inl (T 4))), (t 5, .inl (Z 0, 6, .inl (T 5))), (t 6, .inl (Z 0, 6, .inl (T 6))), (t 7, .inl (Z 0, 6, .inl (T 7))), (t 8, .inl (Z 0, 8, .inl (T 8))), (t 9, .inl (Z 0, 8, .inl (T 9))), (t 10, .inl (Z 0, 8, .inl (T 10))), (t 11, .inl (Z 0, 8, .inl (T 11))), (t 12, .inl (Z 0, 8, .inl (T 12))), (t 13, .inl (Z 0, 8, .inl (T 13))), (t 14, .inl (Z 0, 400, .inl (T 14))), (b 0, .inr (4, [.ref ap, .int (G 1 0), .int (G 2 0), .int (G 3 0), .ref (b 4), .ref (b 5), .ref (b 6), .ref (b 7), .ref (b 8), .ref (b 9), .ref (b 10), .ref (b 11), .ref (b 12), .ref (b 13), .ref (b 14)])), (b 4, .inl (Z 0, 60, .inl (G 4))), (b 5, .inl (Z 0, 6, .inl (G 5))), (b 6, .inl (Z 0, 6, .inl (G 6))), (b 7, .inl (Z 0, 6, .inl (G 7))), (b 8, .inl (Z 0, 8, .inl (G 8))), (b 9, .inl (Z 0, 8, .inl (G 9))), (b 10, .inl (Z 0, 8, .inl (G 10))), (b 11, .inl (Z 0, 8, .inl (G 11))), (b 12, .inl (Z 0, 8, .inl (G 12))), (b 13, .inl (Z 0, 8, .inl (G 13))), (b 14, .inl (Z 0, 400, .inl (G 14))), (ow, .inl (Z 1, 1, .inr (.inl (X 500))))]
abbrev cutLX : List Nat := [0, 1, 2, 3, 4, 5, 6, 7, 8, 9, 10, 11, 12, 13, 14, 15, 16, 17, 18, 19, 20, 21, 22, 23, 24, 25, 26, 27, 28, 29, 30, 31, 32, 33, 34, 35, 36, 37, 38, 39, 40, 41, 42, 43, 44, 45, 46, 47, 48, 49, 50, 51, 52, 53, 54, 55, 56, 57, 58, 59, 60, 61, 62, 63, 64, 65, 66, 67, 68, 69, 70, 71, 72, 73, 74, 75, 76, 77, 78, 79]
set_option maxRecDepth 100000 in
theorem cutOkLX (Z : Nat → ClassId) (a t b q q2 : Nat → Nat) (ow : Nat) (ap : Nat) (bp : Nat) (rp : Nat) (C : M2) (T : M2) (G : M2) (P : M2) (Y : M2) (L : L2) (B : M2) (X : L2) : Cut (LX Z a t b q q2 ow ap bp rp C T G P Y L B X) (fun u : Nat × Nat × Nat × M2 × M2 × M2 × M2 × M2 × L2 × M2 × L2 => LX Z a t b q q2 ow u.1 u.2.1 u.2.2.1 u.2.2.2.1 u.2.2.2.2.1 u.2.2.2.2.2.1 u.2.2.2.2.2.2.1 u.2.2.2.2.2.2.2.1 u.2.2.2.2.2.2.2.2.1 u.2.2.2.2.2.2.2.2.2.1 u.2.2.2.2.2.2.2.2.2.2) (ap, bp, rp, C, T, G, P, Y, L, B, X) [] cutLX [] cutLX (fun u : Nat × Nat × Nat × M2 × M2 × M2 × M2 × M2 × L2 × M2 × L2 => LX Z a t b q q2 ow u.1 u.2.1 u.2.2.1 u.2.2.2.1 u.2.2.2.2.1 u.2.2.2.2.2.1 u.2.2.2.2.2.2.1 u.2.2.2.2.2.2.2.1 u.2.2.2.2.2.2.2.2.1 u.2.2.2.2.2.2.2.2.2.1 u.2.2.2.2.2.2.2.2.2.2) := ⟨rfl, rfl, rfl, fun i h => absurd h List.not_mem_nil, by decide, fun _ => rfl⟩
section ROWSLX
variable {p : Program} {l : Launch} {e : Env} {s : State} {m : MethodId} {args : Array Value} {below : List Frame} {meth : Method} {c : Code} {H H0 : Heap} {locs : List Loc} {cells slots : Nat} {Q : State → Prop} {R : Room} {rn mcR msR : Nat}
variable {pc : Nat} {ls : Array Slot} {rest : List Value} {A : Nat → Prop} {D : va_G}
variable {cc : ByteArray} {nL index : Nat} {own host : String}
theorem sLX_out {Z : Nat → ClassId} {a t b q q2 : Nat → Nat} {ow : Nat} {ap : Nat} {bp : Nat} {rp : Nat} {C : M2} {T : M2} {G : M2} {P : M2} {Y : M2} {L : L2} {B : M2} {X : L2} {i : Int32} {x : Int64} (hC : CallFix p m c cc nL s args lw_g own) (hK : va_K D vwCl (tysG Z) s) (hT : TS vwCl D (LX Z a t b q q2 ow ap bp rp C T G P Y L B X) A H0 H locs) (hi : inb i 1) (hdg : decode cc pc = .ok (.lastore, 1)) (kk : ∀ (X1 : L2), X1 = ul2 X 500 (vp_updL (X 500) i.toInt.toNat x) → ∀ (H1 : Heap) (locs1 : List Loc), TS vwCl D (LX Z a t b q q2 ow ap bp rp C T G P Y L B X1) A H0 H1 locs1 → W p l e R s m args below meth c H1 locs1 cells slots Q (F0 m (pc + 1) ls rest)) : W p l e R s m args below meth c H locs cells slots Q (F0 m pc ls (.long x :: .int i :: .ref (ow) :: rest)) :=
  w_last (q0 := 79) (ws' := (LX Z a t b q q2 ow ap bp rp C T G P Y L B (ul2 X 500 (vp_updL (X 500) i.toInt.toNat x)))) hC hK hT rfl hi rfl hdg (fun H1 locs1 hT1 => kk _ rfl H1 locs1 hT1)
end ROWSLX
set_option maxRecDepth 100000 in
theorem sx_CTLX (Z : Nat → ClassId) (a t b q q2 : Nat → Nat) (ow : Nat) (ap : Nat) (bp : Nat) (rp : Nat) (C : M2) (T : M2) (G : M2) (P : M2) (Y : M2) (L : L2) (B : M2) (X : L2) : ([0, 1] : List Nat).map (fun i => (LX Z a t b q q2 ow ap bp rp C T G P Y L B X)[i]?) = (CT Z (a 90) (a 80) (a 60) (q2 20) (t 0) (b 0) B C).map some := rfl
set_option maxRecDepth 100000 in
theorem cx_CTLX (Z : Nat → ClassId) (a t b q q2 : Nat → Nat) (ow : Nat) (ap : Nat) (bp : Nat) (rp : Nat) (C : M2) (T : M2) (G : M2) (P : M2) (Y : M2) (L : L2) (B : M2) (X : L2) : Cut (LX Z a t b q q2 ow ap bp rp C T G P Y L B X) (fun u : M2 × M2 => CT Z (a 90) (a 80) (a 60) (q2 20) (t 0) (b 0) u.1 u.2) (B, C) [(a 60, .inr (2, [.ref (a 70), .ref (a 61), .ref (a 62), .ref (a 63), .ref (a 64), .ref rp, .int (Y 66 0), .int (Y 67 0), .int (Y 68 0), .int (Y 69 0)])), (a 61, .inl (Z 1, 5, .inr (.inl (L 61)))), (a 62, .inl (Z 1, 4, .inr (.inl (L 62)))), (a 63, .inl (Z 1, 6, .inr (.inl (L 63)))), (a 64, .inl (Z 1, 8, .inr (.inl (L 64)))), (a 70, .inr (3, [.ref (a 71), .ref (a 72), .int (Y 73 0), .ref (a 74), .ref (a 75), .ref (a 76), .ref bp, .int (Y 78 0)])), (a 71, .inl (Z 1, 40, .inr (.inl (L 71)))), (a 72, .inl (Z 0, 40, .inl (Y 72))), (a 74, .inl (Z 0, 401, .inl (Y 74))), (a 75, .inl (Z 0, 401, .inl (Y 75))), (a 76, .inl (Z 1, 401, .inr (.inl (L 76)))), (q2 20, .inr (1, [.int (Y 20 0), .int (Y 21 0), .int (Y 22 0), .int (Y 23 0), .int (Y 24 0), .ref (q2 25), .ref (q2 26), .ref (q2 27), .ref (q2 28), .ref (q2 29), .ref (q2 30), .ref (q2 31), .ref (q2 32), .ref (q2 33), .ref (q2 34), .ref (q2 35), .ref (q2 36), .ref (q2 37), .ref (q2 40)])), (q2 25, .inl (Z 0, 5, .inl (Y 25))), (q2 26, .inl (Z 0, 5, .inl (Y 26))), (q2 27, .inl (Z 0, 5, .inl (Y 27))), (q2 28, .inl (Z 0, 60, .inl (Y 28))), (q2 29, .inl (Z 0, 4, .inl (Y 29))), (q2 30, .inl (Z 0, 4, .inl (Y 30))), (q2 31, .inl (Z 0, 6, .inl (Y 31))), (q2 32, .inl (Z 0, 6, .inl (Y 32))), (q2 33, .inl (Z 0, 8, .inl (Y 33))), (q2 34, .inl (Z 0, 8, .inl (Y 34))), (q2 35, .inl (Z 0, 8, .inl (Y 35))), (q2 36, .inl (Z 0, 8, .inl (Y 36))), (q2 37, .inl (Z 0, 8, .inl (Y 37))), (q2 40, .inr (0, [.int (Y 40 0), .ref (q2 41), .ref (q2 42), .ref (q2 43), .ref (q2 44), .int (Y 45 0), .ref (q2 46), .ref (q2 47)])), (q2 41, .inl (Z 0, 16, .inl (Y 41))), (q2 42, .inl (Z 0, 16, .inl (Y 42))), (q2 43, .inl (Z 0, 16, .inl (Y 43))), (q2 44, .inl (Z 0, 16, .inl (Y 44))), (q2 46, .inl (Z 0, 400, .inl (Y 46))), (q2 47, .inl (Z 0, 400, .inl (Y 47))), (q 20, .inr (1, [.int (P 20 0), .int (P 21 0), .int (P 22 0), .int (P 23 0), .int (P 24 0), .ref (q 25), .ref (q 26), .ref (q 27), .ref (q 28), .ref (q 29), .ref (q 30), .ref (q 31), .ref (q 32), .ref (q 33), .ref (q 34), .ref (q 35), .ref (q 36), .ref (q 37), .ref (q 40)])), (q 25, .inl (Z 0, 5, .inl (P 25))), (q 26, .inl (Z 0, 5, .inl (P 26))), (q 27, .inl (Z 0, 5, .inl (P 27))), (q 28, .inl (Z 0, 60, .inl (P 28))), (q 29, .inl (Z 0, 4, .inl (P 29))), (q 30, .inl (Z 0, 4, .inl (P 30))), (q 31, .inl (Z 0, 6, .inl (P 31))), (q 32, .inl (Z 0, 6, .inl (P 32))), (q 33, .inl (Z 0, 8, .inl (P 33))), (q 34, .inl (Z 0, 8, .inl (P 34))), (q 35, .inl (Z 0, 8, .inl (P 35))), (q 36, .inl (Z 0, 8, .inl (P 36))), (q 37, .inl (Z 0, 8, .inl (P 37))), (q 40, .inr (0, [.int (P 40 0), .ref (q 41), .ref (q 42), .ref (q 43), .ref (q 44), .int (P 45 0), .ref (q 46), .ref (q 47)])), (q 41, .inl (Z 0, 16, .inl (P 41))), (q 42, .inl (Z 0, 16, .inl (P 42))), (q 43, .inl (Z 0, 16, .inl (P 43))), (q 44, .inl (Z 0, 16, .inl (P 44))), (q 46, .inl (Z 0, 400, .inl (P 46))), (q 47, .inl (Z 0, 400, .inl (P 47))), (t 0, .inr (4, [.ref (q 20), .int (T 1 0), .int (T 2 0), .int (T 3 0), .ref (t 4), .ref (t 5), .ref (t 6), .ref (t 7), .ref (t 8), .ref (t 9), .ref (t 10), .ref (t 11), .ref (t 12), .ref (t 13), .ref (t 14)])), (t 4, .inl (Z 0, 60, .inl (T 4))), (t 5, .inl (Z 0, 6, .inl (T 5))), (t 6, .inl (Z 0, 6, .inl (T 6))), (t 7, .inl (Z 0, 6, .inl (T 7))), (t 8, .inl (Z 0, 8, .inl (T 8))), (t 9, .inl (Z 0, 8, .inl (T 9))), (t 10, .inl (Z 0, 8, .inl (T 10))), (t 11, .inl (Z 0, 8, .inl (T 11))), (t 12, .inl (Z 0, 8, .inl (T 12))), (t 13, .inl (Z 0, 8, .inl (T 13))), (t 14, .inl (Z 0, 400, .inl (T 14))), (b 0, .inr (4, [.ref ap, .int (G 1 0), .int (G 2 0), .int (G 3 0), .ref (b 4), .ref (b 5), .ref (b 6), .ref (b 7), .ref (b 8), .ref (b 9), .ref (b 10), .ref (b 11), .ref (b 12), .ref (b 13), .ref (b 14)])), (b 4, .inl (Z 0, 60, .inl (G 4))), (b 5, .inl (Z 0, 6, .inl (G 5))), (b 6, .inl (Z 0, 6, .inl (G 6))), (b 7, .inl (Z 0, 6, .inl (G 7))), (b 8, .inl (Z 0, 8, .inl (G 8))), (b 9, .inl (Z 0, 8, .inl (G 9))), (b 10, .inl (Z 0, 8, .inl (G 10))), (b 11, .inl (Z 0, 8, .inl (G 11))), (b 12, .inl (Z 0, 8, .inl (G 12))), (b 13, .inl (Z 0, 8, .inl (G 13))), (b 14, .inl (Z 0, 400, .inl (G 14))), (ow, .inl (Z 1, 1, .inr (.inl (X 500))))] [0, 1] [2, 3, 4, 5, 6, 7, 8, 9, 10, 11, 12, 13, 14, 15, 16, 17, 18, 19, 20, 21, 22, 23, 24, 25, 26, 27, 28, 29, 30, 31, 32, 33, 34, 35, 36, 37, 38, 39, 40, 41, 42, 43, 44, 45, 46, 47, 48, 49, 50, 51, 52, 53, 54, 55, 56, 57, 58, 59, 60, 61, 62, 63, 64, 65, 66, 67, 68, 69, 70, 71, 72, 73, 74, 75, 76, 77, 78, 79] [78, 79, 0, 1, 2, 3, 4, 5, 6, 7, 8, 9, 10, 11, 12, 13, 14, 15, 16, 17, 18, 19, 20, 21, 22, 23, 24, 25, 26, 27, 28, 29, 30, 31, 32, 33, 34, 35, 36, 37, 38, 39, 40, 41, 42, 43, 44, 45, 46, 47, 48, 49, 50, 51, 52, 53, 54, 55, 56, 57, 58, 59, 60, 61, 62, 63, 64, 65, 66, 67, 68, 69, 70, 71, 72, 73, 74, 75, 76, 77] (fun u : M2 × M2 => (LX Z a t b q q2 ow ap bp rp u.2 T G P Y L u.1 X)) := ⟨rfl, rfl, rfl, by decide, rfl, fun _ => rfl⟩
set_option maxRecDepth 100000 in
theorem sx_CQLX (Z : Nat → ClassId) (a t b q q2 : Nat → Nat) (ow : Nat) (ap : Nat) (bp : Nat) (rp : Nat) (C : M2) (T : M2) (G : M2) (P : M2) (Y : M2) (L : L2) (B : M2) (X : L2) : ([55, 56, 57, 58, 59, 60, 61, 62, 63, 64, 65, 66, 34, 35, 36, 37, 38, 39, 40, 41, 42, 43, 44, 45, 46, 47, 48, 49, 50, 51, 52, 53, 54, 0] : List Nat).map (fun i => (LX Z a t b q q2 ow ap bp rp C T G P Y L B X)[i]?) = (CQ Z t q (a 90) (a 80) (a 60) (q2 20) (b 0) P T C).map some := rfl
set_option maxRecDepth 100000 in
theorem cx_CQLX (Z : Nat → ClassId) (a t b q q2 : Nat → Nat) (ow : Nat) (ap : Nat) (bp : Nat) (rp : Nat) (C : M2) (T : M2) (G : M2) (P : M2) (Y : M2) (L : L2) (B : M2) (X : L2) : Cut (LX Z a t b q q2 ow ap bp rp C T G P Y L B X) (fun u : M2 × M2 => CQ Z t q (a 90) (a 80) (a 60) (q2 20) (b 0) P u.1 u.2) (T, C) [(a 80, .inl (Z 2, 2000, .inl (B 80))), (a 60, .inr (2, [.ref (a 70), .ref (a 61), .ref (a 62), .ref (a 63), .ref (a 64), .ref rp, .int (Y 66 0), .int (Y 67 0), .int (Y 68 0), .int (Y 69 0)])), (a 61, .inl (Z 1, 5, .inr (.inl (L 61)))), (a 62, .inl (Z 1, 4, .inr (.inl (L 62)))), (a 63, .inl (Z 1, 6, .inr (.inl (L 63)))), (a 64, .inl (Z 1, 8, .inr (.inl (L 64)))), (a 70, .inr (3, [.ref (a 71), .ref (a 72), .int (Y 73 0), .ref (a 74), .ref (a 75), .ref (a 76), .ref bp, .int (Y 78 0)])), (a 71, .inl (Z 1, 40, .inr (.inl (L 71)))), (a 72, .inl (Z 0, 40, .inl (Y 72))), (a 74, .inl (Z 0, 401, .inl (Y 74))), (a 75, .inl (Z 0, 401, .inl (Y 75))), (a 76, .inl (Z 1, 401, .inr (.inl (L 76)))), (q2 20, .inr (1, [.int (Y 20 0), .int (Y 21 0), .int (Y 22 0), .int (Y 23 0), .int (Y 24 0), .ref (q2 25), .ref (q2 26), .ref (q2 27), .ref (q2 28), .ref (q2 29), .ref (q2 30), .ref (q2 31), .ref (q2 32), .ref (q2 33), .ref (q2 34), .ref (q2 35), .ref (q2 36), .ref (q2 37), .ref (q2 40)])), (q2 25, .inl (Z 0, 5, .inl (Y 25))), (q2 26, .inl (Z 0, 5, .inl (Y 26))), (q2 27, .inl (Z 0, 5, .inl (Y 27))), (q2 28, .inl (Z 0, 60, .inl (Y 28))), (q2 29, .inl (Z 0, 4, .inl (Y 29))), (q2 30, .inl (Z 0, 4, .inl (Y 30))), (q2 31, .inl (Z 0, 6, .inl (Y 31))), (q2 32, .inl (Z 0, 6, .inl (Y 32))), (q2 33, .inl (Z 0, 8, .inl (Y 33))), (q2 34, .inl (Z 0, 8, .inl (Y 34))), (q2 35, .inl (Z 0, 8, .inl (Y 35))), (q2 36, .inl (Z 0, 8, .inl (Y 36))), (q2 37, .inl (Z 0, 8, .inl (Y 37))), (q2 40, .inr (0, [.int (Y 40 0), .ref (q2 41), .ref (q2 42), .ref (q2 43), .ref (q2 44), .int (Y 45 0), .ref (q2 46), .ref (q2 47)])), (q2 41, .inl (Z 0, 16, .inl (Y 41))), (q2 42, .inl (Z 0, 16, .inl (Y 42))), (q2 43, .inl (Z 0, 16, .inl (Y 43))), (q2 44, .inl (Z 0, 16, .inl (Y 44))), (q2 46, .inl (Z 0, 400, .inl (Y 46))), (q2 47, .inl (Z 0, 400, .inl (Y 47))), (b 0, .inr (4, [.ref ap, .int (G 1 0), .int (G 2 0), .int (G 3 0), .ref (b 4), .ref (b 5), .ref (b 6), .ref (b 7), .ref (b 8), .ref (b 9), .ref (b 10), .ref (b 11), .ref (b 12), .ref (b 13), .ref (b 14)])), (b 4, .inl (Z 0, 60, .inl (G 4))), (b 5, .inl (Z 0, 6, .inl (G 5))), (b 6, .inl (Z 0, 6, .inl (G 6))), (b 7, .inl (Z 0, 6, .inl (G 7))), (b 8, .inl (Z 0, 8, .inl (G 8))), (b 9, .inl (Z 0, 8, .inl (G 9))), (b 10, .inl (Z 0, 8, .inl (G 10))), (b 11, .inl (Z 0, 8, .inl (G 11))), (b 12, .inl (Z 0, 8, .inl (G 12))), (b 13, .inl (Z 0, 8, .inl (G 13))), (b 14, .inl (Z 0, 400, .inl (G 14))), (ow, .inl (Z 1, 1, .inr (.inl (X 500))))] [55, 56, 57, 58, 59, 60, 61, 62, 63, 64, 65, 66, 34, 35, 36, 37, 38, 39, 40, 41, 42, 43, 44, 45, 46, 47, 48, 49, 50, 51, 52, 53, 54, 0] [1, 2, 3, 4, 5, 6, 7, 8, 9, 10, 11, 12, 13, 14, 15, 16, 17, 18, 19, 20, 21, 22, 23, 24, 25, 26, 27, 28, 29, 30, 31, 32, 33, 67, 68, 69, 70, 71, 72, 73, 74, 75, 76, 77, 78, 79] [79, 0, 1, 2, 3, 4, 5, 6, 7, 8, 9, 10, 11, 12, 13, 14, 15, 16, 17, 18, 19, 20, 21, 22, 23, 24, 25, 26, 27, 28, 29, 30, 31, 32, 58, 59, 60, 61, 62, 63, 64, 65, 66, 67, 68, 69, 70, 71, 72, 73, 74, 75, 76, 77, 78, 46, 47, 48, 49, 50, 51, 52, 53, 54, 55, 56, 57, 33, 34, 35, 36, 37, 38, 39, 40, 41, 42, 43, 44, 45] (fun u : M2 × M2 => (LX Z a t b q q2 ow ap bp rp u.2 u.1 G P Y L B X)) := ⟨rfl, rfl, rfl, by decide, rfl, fun _ => rfl⟩
set_option maxRecDepth 100000 in
theorem sx_CALX (Z : Nat → ClassId) (a t b q q2 : Nat → Nat) (ow : Nat) (ap : Nat) (bp : Nat) (rp : Nat) (C : M2) (T : M2) (G : M2) (P : M2) (Y : M2) (L : L2) (B : M2) (X : L2) : ([55, 56, 57, 58, 59, 60, 61, 62, 63, 64, 65, 66, 34, 35, 36, 37, 38, 39, 40, 41, 42, 43, 44, 45, 46, 47, 48, 49, 50, 51, 52, 53, 54, 67, 68, 69, 70, 71, 72, 73, 74, 75, 76, 77, 78, 0] : List Nat).map (fun i => (LX Z a t b q q2 ow ap bp rp C T G P Y L B X)[i]?) = (CA Z t b q (a 90) (a 80) (a 60) (q2 20) P ap T G C).map some := rfl
set_option maxRecDepth 100000 in
theorem cx_CALX (Z : Nat → ClassId) (a t b q q2 : Nat → Nat) (ow : Nat) (ap : Nat) (bp : Nat) (rp : Nat) (C : M2) (T : M2) (G : M2) (P : M2) (Y : M2) (L : L2) (B : M2) (X : L2) : Cut (LX Z a t b q q2 ow ap bp rp C T G P Y L B X) (fun u : Nat × M2 × M2 × M2 => CA Z t b q (a 90) (a 80) (a 60) (q2 20) P u.1 u.2.1 u.2.2.1 u.2.2.2) (ap, T, G, C) [(a 80, .inl (Z 2, 2000, .inl (B 80))), (a 60, .inr (2, [.ref (a 70), .ref (a 61), .ref (a 62), .ref (a 63), .ref (a 64), .ref rp, .int (Y 66 0), .int (Y 67 0), .int (Y 68 0), .int (Y 69 0)])), (a 61, .inl (Z 1, 5, .inr (.inl (L 61)))), (a 62, .inl (Z 1, 4, .inr (.inl (L 62)))), (a 63, .inl (Z 1, 6, .inr (.inl (L 63)))), (a 64, .inl (Z 1, 8, .inr (.inl (L 64)))), (a 70, .inr (3, [.ref (a 71), .ref (a 72), .int (Y 73 0), .ref (a 74), .ref (a 75), .ref (a 76), .ref bp, .int (Y 78 0)])), (a 71, .inl (Z 1, 40, .inr (.inl (L 71)))), (a 72, .inl (Z 0, 40, .inl (Y 72))), (a 74, .inl (Z 0, 401, .inl (Y 74))), (a 75, .inl (Z 0, 401, .inl (Y 75))), (a 76, .inl (Z 1, 401, .inr (.inl (L 76)))), (q2 20, .inr (1, [.int (Y 20 0), .int (Y 21 0), .int (Y 22 0), .int (Y 23 0), .int (Y 24 0), .ref (q2 25), .ref (q2 26), .ref (q2 27), .ref (q2 28), .ref (q2 29), .ref (q2 30), .ref (q2 31), .ref (q2 32), .ref (q2 33), .ref (q2 34), .ref (q2 35), .ref (q2 36), .ref (q2 37), .ref (q2 40)])), (q2 25, .inl (Z 0, 5, .inl (Y 25))), (q2 26, .inl (Z 0, 5, .inl (Y 26))), (q2 27, .inl (Z 0, 5, .inl (Y 27))), (q2 28, .inl (Z 0, 60, .inl (Y 28))), (q2 29, .inl (Z 0, 4, .inl (Y 29))), (q2 30, .inl (Z 0, 4, .inl (Y 30))), (q2 31, .inl (Z 0, 6, .inl (Y 31))), (q2 32, .inl (Z 0, 6, .inl (Y 32))), (q2 33, .inl (Z 0, 8, .inl (Y 33))), (q2 34, .inl (Z 0, 8, .inl (Y 34))), (q2 35, .inl (Z 0, 8, .inl (Y 35))), (q2 36, .inl (Z 0, 8, .inl (Y 36))), (q2 37, .inl (Z 0, 8, .inl (Y 37))), (q2 40, .inr (0, [.int (Y 40 0), .ref (q2 41), .ref (q2 42), .ref (q2 43), .ref (q2 44), .int (Y 45 0), .ref (q2 46), .ref (q2 47)])), (q2 41, .inl (Z 0, 16, .inl (Y 41))), (q2 42, .inl (Z 0, 16, .inl (Y 42))), (q2 43, .inl (Z 0, 16, .inl (Y 43))), (q2 44, .inl (Z 0, 16, .inl (Y 44))), (q2 46, .inl (Z 0, 400, .inl (Y 46))), (q2 47, .inl (Z 0, 400, .inl (Y 47))), (ow, .inl (Z 1, 1, .inr (.inl (X 500))))] [55, 56, 57, 58, 59, 60, 61, 62, 63, 64, 65, 66, 34, 35, 36, 37, 38, 39, 40, 41, 42, 43, 44, 45, 46, 47, 48, 49, 50, 51, 52, 53, 54, 67, 68, 69, 70, 71, 72, 73, 74, 75, 76, 77, 78, 0] [1, 2, 3, 4, 5, 6, 7, 8, 9, 10, 11, 12, 13, 14, 15, 16, 17, 18, 19, 20, 21, 22, 23, 24, 25, 26, 27, 28, 29, 30, 31, 32, 33, 79] [79, 0, 1, 2, 3, 4, 5, 6, 7, 8, 9, 10, 11, 12, 13, 14, 15, 16, 17, 18, 19, 20, 21, 22, 23, 24, 25, 26, 27, 28, 29, 30, 31, 32, 46, 47, 48, 49, 50, 51, 52, 53, 54, 55, 56, 57, 58, 59, 60, 61, 62, 63, 64, 65, 66, 34, 35, 36, 37, 38, 39, 40, 41, 42, 43, 44, 45, 67, 68, 69, 70, 71, 72, 73, 74, 75, 76, 77, 78, 33] (fun u : Nat × M2 × M2 × M2 => (LX Z a t b q q2 ow u.1 bp rp u.2.2.2 u.2.1 u.2.2.1 P Y L B X)) := ⟨rfl, rfl, rfl, by decide, rfl, fun _ => rfl⟩
theorem cxu_CQLX (Z : Nat → ClassId) (a t b q q2 : Nat → Nat) (ow : Nat) (ap : Nat) (bp : Nat) (rp : Nat) (C : M2) (T : M2) (G : M2) (P : M2) (Y : M2) (L : L2) (B : M2) (X : L2) : Cut (LX Z a t b q q2 ow ap bp rp C T G P Y L B X) (fun _ : Unit => CQ Z t q (a 90) (a 80) (a 60) (q2 20) (b 0) P T C) () [(a 80, .inl (Z 2, 2000, .inl (B 80))), (a 60, .inr (2, [.ref (a 70), .ref (a 61), .ref (a 62), .ref (a 63), .ref (a 64), .ref rp, .int (Y 66 0), .int (Y 67 0), .int (Y 68 0), .int (Y 69 0)])), (a 61, .inl (Z 1, 5, .inr (.inl (L 61)))), (a 62, .inl (Z 1, 4, .inr (.inl (L 62)))), (a 63, .inl (Z 1, 6, .inr (.inl (L 63)))), (a 64, .inl (Z 1, 8, .inr (.inl (L 64)))), (a 70, .inr (3, [.ref (a 71), .ref (a 72), .int (Y 73 0), .ref (a 74), .ref (a 75), .ref (a 76), .ref bp, .int (Y 78 0)])), (a 71, .inl (Z 1, 40, .inr (.inl (L 71)))), (a 72, .inl (Z 0, 40, .inl (Y 72))), (a 74, .inl (Z 0, 401, .inl (Y 74))), (a 75, .inl (Z 0, 401, .inl (Y 75))), (a 76, .inl (Z 1, 401, .inr (.inl (L 76)))), (q2 20, .inr (1, [.int (Y 20 0), .int (Y 21 0), .int (Y 22 0), .int (Y 23 0), .int (Y 24 0), .ref (q2 25), .ref (q2 26), .ref (q2 27), .ref (q2 28), .ref (q2 29), .ref (q2 30), .ref (q2 31), .ref (q2 32), .ref (q2 33), .ref (q2 34), .ref (q2 35), .ref (q2 36), .ref (q2 37), .ref (q2 40)])), (q2 25, .inl (Z 0, 5, .inl (Y 25))), (q2 26, .inl (Z 0, 5, .inl (Y 26))), (q2 27, .inl (Z 0, 5, .inl (Y 27))), (q2 28, .inl (Z 0, 60, .inl (Y 28))), (q2 29, .inl (Z 0, 4, .inl (Y 29))), (q2 30, .inl (Z 0, 4, .inl (Y 30))), (q2 31, .inl (Z 0, 6, .inl (Y 31))), (q2 32, .inl (Z 0, 6, .inl (Y 32))), (q2 33, .inl (Z 0, 8, .inl (Y 33))), (q2 34, .inl (Z 0, 8, .inl (Y 34))), (q2 35, .inl (Z 0, 8, .inl (Y 35))), (q2 36, .inl (Z 0, 8, .inl (Y 36))), (q2 37, .inl (Z 0, 8, .inl (Y 37))), (q2 40, .inr (0, [.int (Y 40 0), .ref (q2 41), .ref (q2 42), .ref (q2 43), .ref (q2 44), .int (Y 45 0), .ref (q2 46), .ref (q2 47)])), (q2 41, .inl (Z 0, 16, .inl (Y 41))), (q2 42, .inl (Z 0, 16, .inl (Y 42))), (q2 43, .inl (Z 0, 16, .inl (Y 43))), (q2 44, .inl (Z 0, 16, .inl (Y 44))), (q2 46, .inl (Z 0, 400, .inl (Y 46))), (q2 47, .inl (Z 0, 400, .inl (Y 47))), (b 0, .inr (4, [.ref ap, .int (G 1 0), .int (G 2 0), .int (G 3 0), .ref (b 4), .ref (b 5), .ref (b 6), .ref (b 7), .ref (b 8), .ref (b 9), .ref (b 10), .ref (b 11), .ref (b 12), .ref (b 13), .ref (b 14)])), (b 4, .inl (Z 0, 60, .inl (G 4))), (b 5, .inl (Z 0, 6, .inl (G 5))), (b 6, .inl (Z 0, 6, .inl (G 6))), (b 7, .inl (Z 0, 6, .inl (G 7))), (b 8, .inl (Z 0, 8, .inl (G 8))), (b 9, .inl (Z 0, 8, .inl (G 9))), (b 10, .inl (Z 0, 8, .inl (G 10))), (b 11, .inl (Z 0, 8, .inl (G 11))), (b 12, .inl (Z 0, 8, .inl (G 12))), (b 13, .inl (Z 0, 8, .inl (G 13))), (b 14, .inl (Z 0, 400, .inl (G 14))), (ow, .inl (Z 1, 1, .inr (.inl (X 500))))] [55, 56, 57, 58, 59, 60, 61, 62, 63, 64, 65, 66, 34, 35, 36, 37, 38, 39, 40, 41, 42, 43, 44, 45, 46, 47, 48, 49, 50, 51, 52, 53, 54, 0] [1, 2, 3, 4, 5, 6, 7, 8, 9, 10, 11, 12, 13, 14, 15, 16, 17, 18, 19, 20, 21, 22, 23, 24, 25, 26, 27, 28, 29, 30, 31, 32, 33, 67, 68, 69, 70, 71, 72, 73, 74, 75, 76, 77, 78, 79] [79, 0, 1, 2, 3, 4, 5, 6, 7, 8, 9, 10, 11, 12, 13, 14, 15, 16, 17, 18, 19, 20, 21, 22, 23, 24, 25, 26, 27, 28, 29, 30, 31, 32, 58, 59, 60, 61, 62, 63, 64, 65, 66, 67, 68, 69, 70, 71, 72, 73, 74, 75, 76, 77, 78, 46, 47, 48, 49, 50, 51, 52, 53, 54, 55, 56, 57, 33, 34, 35, 36, 37, 38, 39, 40, 41, 42, 43, 44, 45] (fun _ : Unit => (LX Z a t b q q2 ow ap bp rp C T G P Y L B X)) := Cut.unit (wsF := (fun u : M2 × M2 => CQ Z t q (a 90) (a 80) (a 60) (q2 20) (b 0) P u.1 u.2)) (u0 := (T, C)) (ws' := (fun u : M2 × M2 => (LX Z a t b q q2 ow ap bp rp u.2 u.1 G P Y L B X))) (cx_CQLX Z a t b q q2 ow ap bp rp C T G P Y L B X) rfl
theorem dL_feed_0 : decode cL_feed 0 = .ok (.aload 6, 2) := by decide +kernel
theorem dL_feed_2 : decode cL_feed 2 = .ok (.iconst 0, 1) := by decide +kernel
theorem dL_feed_3 : decode cL_feed 3 = .ok (.aload_n 0, 1) := by decide +kernel
theorem dL_feed_4 : decode cL_feed 4 = .ok (.iload_n 1, 1) := by decide +kernel
theorem dL_feed_5 : decode cL_feed 5 = .ok (.iload_n 2, 1) := by decide +kernel
theorem dL_feed_6 : decode cL_feed 6 = .ok (.iload_n 3, 1) := by decide +kernel
theorem dL_feed_7 : decode cL_feed 7 = .ok (.iload 4, 2) := by decide +kernel
theorem dL_feed_9 : decode cL_feed 9 = .ok (.iload 5, 2) := by decide +kernel
theorem dL_feed_11 : decode cL_feed 11 = .ok (.invokevirtual 7, 3) := by decide +kernel
theorem dL_feed_14 : decode cL_feed 14 = .ok (.i2l, 1) := by decide +kernel
theorem dL_feed_15 : decode cL_feed 15 = .ok (.lastore, 1) := by decide +kernel
theorem dL_feed_16 : decode cL_feed 16 = .ok (.goto 7, 3) := by decide +kernel
theorem dL_feed_19 : decode cL_feed 19 = .ok (.astore 7, 2) := by decide +kernel
theorem dL_feed_21 : decode cL_feed 21 = .ok (.iconst 1, 1) := by decide +kernel
theorem dL_feed_22 : decode cL_feed 22 = .ok (.ireturn, 1) := by decide +kernel
theorem dL_feed_23 : decode cL_feed 23 = .ok (.iconst 0, 1) := by decide +kernel
theorem dL_feed_24 : decode cL_feed 24 = .ok (.ireturn, 1) := by decide +kernel
theorem dL_trim_0 : decode cL_trim 0 = .ok (.aload_n 2, 1) := by decide +kernel
theorem dL_trim_1 : decode cL_trim 1 = .ok (.iconst 0, 1) := by decide +kernel
theorem dL_trim_2 : decode cL_trim 2 = .ok (.aload_n 0, 1) := by decide +kernel
theorem dL_trim_3 : decode cL_trim 3 = .ok (.iload_n 1, 1) := by decide +kernel
theorem dL_trim_4 : decode cL_trim 4 = .ok (.invokevirtual 15, 3) := by decide +kernel
theorem dL_trim_7 : decode cL_trim 7 = .ok (.i2l, 1) := by decide +kernel
theorem dL_trim_8 : decode cL_trim 8 = .ok (.lastore, 1) := by decide +kernel
theorem dL_trim_9 : decode cL_trim 9 = .ok (.goto 6, 3) := by decide +kernel
theorem dL_trim_12 : decode cL_trim 12 = .ok (.astore_n 3, 1) := by decide +kernel
theorem dL_trim_13 : decode cL_trim 13 = .ok (.iconst 1, 1) := by decide +kernel
theorem dL_trim_14 : decode cL_trim 14 = .ok (.ireturn, 1) := by decide +kernel
theorem dL_trim_15 : decode cL_trim 15 = .ok (.iconst 0, 1) := by decide +kernel
theorem dL_trim_16 : decode cL_trim 16 = .ok (.ireturn, 1) := by decide +kernel
theorem dL_count_0 : decode cL_count 0 = .ok (.aload_n 2, 1) := by decide +kernel
theorem dL_count_1 : decode cL_count 1 = .ok (.iconst 0, 1) := by decide +kernel
theorem dL_count_2 : decode cL_count 2 = .ok (.aload_n 0, 1) := by decide +kernel
theorem dL_count_3 : decode cL_count 3 = .ok (.iload_n 1, 1) := by decide +kernel
theorem dL_count_4 : decode cL_count 4 = .ok (.invokevirtual 21, 3) := by decide +kernel
theorem dL_count_7 : decode cL_count 7 = .ok (.i2l, 1) := by decide +kernel
theorem dL_count_8 : decode cL_count 8 = .ok (.lastore, 1) := by decide +kernel
theorem dL_count_9 : decode cL_count 9 = .ok (.goto 6, 3) := by decide +kernel
theorem dL_count_12 : decode cL_count 12 = .ok (.astore_n 3, 1) := by decide +kernel
theorem dL_count_13 : decode cL_count 13 = .ok (.iconst 1, 1) := by decide +kernel
theorem dL_count_14 : decode cL_count 14 = .ok (.ireturn, 1) := by decide +kernel
theorem dL_count_15 : decode cL_count 15 = .ok (.iconst 0, 1) := by decide +kernel
theorem dL_count_16 : decode cL_count 16 = .ok (.ireturn, 1) := by decide +kernel
theorem dL_place_0 : decode cL_place 0 = .ok (.aload_n 3, 1) := by decide +kernel
theorem dL_place_1 : decode cL_place 1 = .ok (.iconst 0, 1) := by decide +kernel
theorem dL_place_2 : decode cL_place 2 = .ok (.aload_n 0, 1) := by decide +kernel
theorem dL_place_3 : decode cL_place 3 = .ok (.iload_n 1, 1) := by decide +kernel
theorem dL_place_4 : decode cL_place 4 = .ok (.iload_n 2, 1) := by decide +kernel
theorem dL_place_5 : decode cL_place 5 = .ok (.invokevirtual 26, 3) := by decide +kernel
theorem dL_place_8 : decode cL_place 8 = .ok (.i2l, 1) := by decide +kernel
theorem dL_place_9 : decode cL_place 9 = .ok (.lastore, 1) := by decide +kernel
theorem dL_place_10 : decode cL_place 10 = .ok (.goto 7, 3) := by decide +kernel
theorem dL_place_13 : decode cL_place 13 = .ok (.astore 4, 2) := by decide +kernel
theorem dL_place_15 : decode cL_place 15 = .ok (.iconst 1, 1) := by decide +kernel
theorem dL_place_16 : decode cL_place 16 = .ok (.ireturn, 1) := by decide +kernel
theorem dL_place_17 : decode cL_place 17 = .ok (.iconst 0, 1) := by decide +kernel
theorem dL_place_18 : decode cL_place 18 = .ok (.ireturn, 1) := by decide +kernel
theorem dL_bore_0 : decode cL_bore 0 = .ok (.aload_n 3, 1) := by decide +kernel
theorem dL_bore_1 : decode cL_bore 1 = .ok (.iconst 0, 1) := by decide +kernel
theorem dL_bore_2 : decode cL_bore 2 = .ok (.aload_n 0, 1) := by decide +kernel
theorem dL_bore_3 : decode cL_bore 3 = .ok (.iload_n 1, 1) := by decide +kernel
theorem dL_bore_4 : decode cL_bore 4 = .ok (.iload_n 2, 1) := by decide +kernel
theorem dL_bore_5 : decode cL_bore 5 = .ok (.invokevirtual 30, 3) := by decide +kernel
theorem dL_bore_8 : decode cL_bore 8 = .ok (.i2l, 1) := by decide +kernel
theorem dL_bore_9 : decode cL_bore 9 = .ok (.lastore, 1) := by decide +kernel
theorem dL_bore_10 : decode cL_bore 10 = .ok (.goto 7, 3) := by decide +kernel
theorem dL_bore_13 : decode cL_bore 13 = .ok (.astore 4, 2) := by decide +kernel
theorem dL_bore_15 : decode cL_bore 15 = .ok (.iconst 1, 1) := by decide +kernel
theorem dL_bore_16 : decode cL_bore 16 = .ok (.ireturn, 1) := by decide +kernel
theorem dL_bore_17 : decode cL_bore 17 = .ok (.iconst 0, 1) := by decide +kernel
theorem dL_bore_18 : decode cL_bore 18 = .ok (.ireturn, 1) := by decide +kernel
theorem dL_legger_0 : decode cL_legger 0 = .ok (.aload_n 3, 1) := by decide +kernel
theorem dL_legger_1 : decode cL_legger 1 = .ok (.iconst 0, 1) := by decide +kernel
theorem dL_legger_2 : decode cL_legger 2 = .ok (.aload_n 0, 1) := by decide +kernel
theorem dL_legger_3 : decode cL_legger 3 = .ok (.iload_n 1, 1) := by decide +kernel
theorem dL_legger_4 : decode cL_legger 4 = .ok (.iload_n 2, 1) := by decide +kernel
theorem dL_legger_5 : decode cL_legger 5 = .ok (.invokevirtual 33, 3) := by decide +kernel
theorem dL_legger_8 : decode cL_legger 8 = .ok (.i2l, 1) := by decide +kernel
theorem dL_legger_9 : decode cL_legger 9 = .ok (.lastore, 1) := by decide +kernel
theorem dL_legger_10 : decode cL_legger 10 = .ok (.goto 7, 3) := by decide +kernel
theorem dL_legger_13 : decode cL_legger 13 = .ok (.astore 4, 2) := by decide +kernel
theorem dL_legger_15 : decode cL_legger 15 = .ok (.iconst 1, 1) := by decide +kernel
theorem dL_legger_16 : decode cL_legger 16 = .ok (.ireturn, 1) := by decide +kernel
theorem dL_legger_17 : decode cL_legger 17 = .ok (.iconst 0, 1) := by decide +kernel
theorem dL_legger_18 : decode cL_legger 18 = .ok (.ireturn, 1) := by decide +kernel
theorem dL_boat_0 : decode cL_boat 0 = .ok (.aload_n 3, 1) := by decide +kernel
theorem dL_boat_1 : decode cL_boat 1 = .ok (.iconst 0, 1) := by decide +kernel
theorem dL_boat_2 : decode cL_boat 2 = .ok (.aload_n 0, 1) := by decide +kernel
theorem dL_boat_3 : decode cL_boat 3 = .ok (.iload_n 1, 1) := by decide +kernel
theorem dL_boat_4 : decode cL_boat 4 = .ok (.iload_n 2, 1) := by decide +kernel
theorem dL_boat_5 : decode cL_boat 5 = .ok (.invokevirtual 36, 3) := by decide +kernel
theorem dL_boat_8 : decode cL_boat 8 = .ok (.i2l, 1) := by decide +kernel
theorem dL_boat_9 : decode cL_boat 9 = .ok (.lastore, 1) := by decide +kernel
theorem dL_boat_10 : decode cL_boat 10 = .ok (.goto 7, 3) := by decide +kernel
theorem dL_boat_13 : decode cL_boat 13 = .ok (.astore 4, 2) := by decide +kernel
theorem dL_boat_15 : decode cL_boat 15 = .ok (.iconst 1, 1) := by decide +kernel
theorem dL_boat_16 : decode cL_boat 16 = .ok (.ireturn, 1) := by decide +kernel
theorem dL_boat_17 : decode cL_boat 17 = .ok (.iconst 0, 1) := by decide +kernel
theorem dL_boat_18 : decode cL_boat 18 = .ok (.ireturn, 1) := by decide +kernel
theorem dL_crew_0 : decode cL_crew 0 = .ok (.aload_n 3, 1) := by decide +kernel
theorem dL_crew_1 : decode cL_crew 1 = .ok (.iconst 0, 1) := by decide +kernel
theorem dL_crew_2 : decode cL_crew 2 = .ok (.aload_n 0, 1) := by decide +kernel
theorem dL_crew_3 : decode cL_crew 3 = .ok (.iload_n 1, 1) := by decide +kernel
theorem dL_crew_4 : decode cL_crew 4 = .ok (.iload_n 2, 1) := by decide +kernel
theorem dL_crew_5 : decode cL_crew 5 = .ok (.invokevirtual 39, 3) := by decide +kernel
theorem dL_crew_8 : decode cL_crew 8 = .ok (.i2l, 1) := by decide +kernel
theorem dL_crew_9 : decode cL_crew 9 = .ok (.lastore, 1) := by decide +kernel
theorem dL_crew_10 : decode cL_crew 10 = .ok (.goto 7, 3) := by decide +kernel
theorem dL_crew_13 : decode cL_crew 13 = .ok (.astore 4, 2) := by decide +kernel
theorem dL_crew_15 : decode cL_crew 15 = .ok (.iconst 1, 1) := by decide +kernel
theorem dL_crew_16 : decode cL_crew 16 = .ok (.ireturn, 1) := by decide +kernel
theorem dL_crew_17 : decode cL_crew 17 = .ok (.iconst 0, 1) := by decide +kernel
theorem dL_crew_18 : decode cL_crew 18 = .ok (.ireturn, 1) := by decide +kernel
theorem dL_canEnter_0 : decode cL_canEnter 0 = .ok (.aload_n 2, 1) := by decide +kernel
theorem dL_canEnter_1 : decode cL_canEnter 1 = .ok (.iconst 0, 1) := by decide +kernel
theorem dL_canEnter_2 : decode cL_canEnter 2 = .ok (.aload_n 0, 1) := by decide +kernel
theorem dL_canEnter_3 : decode cL_canEnter 3 = .ok (.iload_n 1, 1) := by decide +kernel
theorem dL_canEnter_4 : decode cL_canEnter 4 = .ok (.invokevirtual 42, 3) := by decide +kernel
theorem dL_canEnter_7 : decode cL_canEnter 7 = .ok (.ifCond .eq 7, 3) := by decide +kernel
theorem dL_canEnter_10 : decode cL_canEnter 10 = .ok (.lconst 1, 1) := by decide +kernel
theorem dL_canEnter_11 : decode cL_canEnter 11 = .ok (.goto 4, 3) := by decide +kernel
theorem dL_canEnter_14 : decode cL_canEnter 14 = .ok (.lconst 0, 1) := by decide +kernel
theorem dL_canEnter_15 : decode cL_canEnter 15 = .ok (.lastore, 1) := by decide +kernel
theorem dL_canEnter_16 : decode cL_canEnter 16 = .ok (.goto 6, 3) := by decide +kernel
theorem dL_canEnter_19 : decode cL_canEnter 19 = .ok (.astore_n 3, 1) := by decide +kernel
theorem dL_canEnter_20 : decode cL_canEnter 20 = .ok (.iconst 1, 1) := by decide +kernel
theorem dL_canEnter_21 : decode cL_canEnter 21 = .ok (.ireturn, 1) := by decide +kernel
theorem dL_canEnter_22 : decode cL_canEnter 22 = .ok (.iconst 0, 1) := by decide +kernel
theorem dL_canEnter_23 : decode cL_canEnter 23 = .ok (.ireturn, 1) := by decide +kernel
theorem dL_whistle_0 : decode cL_whistle 0 = .ok (.aload_n 2, 1) := by decide +kernel
theorem dL_whistle_1 : decode cL_whistle 1 = .ok (.iconst 0, 1) := by decide +kernel
theorem dL_whistle_2 : decode cL_whistle 2 = .ok (.aload_n 0, 1) := by decide +kernel
theorem dL_whistle_3 : decode cL_whistle 3 = .ok (.iload_n 1, 1) := by decide +kernel
theorem dL_whistle_4 : decode cL_whistle 4 = .ok (.invokevirtual 46, 3) := by decide +kernel
theorem dL_whistle_7 : decode cL_whistle 7 = .ok (.i2l, 1) := by decide +kernel
theorem dL_whistle_8 : decode cL_whistle 8 = .ok (.lastore, 1) := by decide +kernel
theorem dL_whistle_9 : decode cL_whistle 9 = .ok (.goto 6, 3) := by decide +kernel
theorem dL_whistle_12 : decode cL_whistle 12 = .ok (.astore_n 3, 1) := by decide +kernel
theorem dL_whistle_13 : decode cL_whistle 13 = .ok (.iconst 1, 1) := by decide +kernel
theorem dL_whistle_14 : decode cL_whistle 14 = .ok (.ireturn, 1) := by decide +kernel
theorem dL_whistle_15 : decode cL_whistle 15 = .ok (.iconst 0, 1) := by decide +kernel
theorem dL_whistle_16 : decode cL_whistle 16 = .ok (.ireturn, 1) := by decide +kernel
theorem dL_cap_0 : decode cL_cap 0 = .ok (.aload_n 2, 1) := by decide +kernel
theorem dL_cap_1 : decode cL_cap 1 = .ok (.iconst 0, 1) := by decide +kernel
theorem dL_cap_2 : decode cL_cap 2 = .ok (.aload_n 0, 1) := by decide +kernel
theorem dL_cap_3 : decode cL_cap 3 = .ok (.iload_n 1, 1) := by decide +kernel
theorem dL_cap_4 : decode cL_cap 4 = .ok (.invokevirtual 49, 3) := by decide +kernel
theorem dL_cap_7 : decode cL_cap 7 = .ok (.i2l, 1) := by decide +kernel
theorem dL_cap_8 : decode cL_cap 8 = .ok (.lastore, 1) := by decide +kernel
theorem dL_cap_9 : decode cL_cap 9 = .ok (.goto 6, 3) := by decide +kernel
theorem dL_cap_12 : decode cL_cap 12 = .ok (.astore_n 3, 1) := by decide +kernel
theorem dL_cap_13 : decode cL_cap 13 = .ok (.iconst 1, 1) := by decide +kernel
theorem dL_cap_14 : decode cL_cap 14 = .ok (.ireturn, 1) := by decide +kernel
theorem dL_cap_15 : decode cL_cap 15 = .ok (.iconst 0, 1) := by decide +kernel
theorem dL_cap_16 : decode cL_cap 16 = .ok (.ireturn, 1) := by decide +kernel
theorem dL_again_0 : decode cL_again 0 = .ok (.aload_n 3, 1) := by decide +kernel
theorem dL_again_1 : decode cL_again 1 = .ok (.iconst 0, 1) := by decide +kernel
theorem dL_again_2 : decode cL_again 2 = .ok (.aload_n 0, 1) := by decide +kernel
theorem dL_again_3 : decode cL_again 3 = .ok (.iload_n 1, 1) := by decide +kernel
theorem dL_again_4 : decode cL_again 4 = .ok (.iload_n 2, 1) := by decide +kernel
theorem dL_again_5 : decode cL_again 5 = .ok (.invokevirtual 52, 3) := by decide +kernel
theorem dL_again_8 : decode cL_again 8 = .ok (.i2l, 1) := by decide +kernel
theorem dL_again_9 : decode cL_again 9 = .ok (.lastore, 1) := by decide +kernel
theorem dL_again_10 : decode cL_again 10 = .ok (.goto 15, 3) := by decide +kernel
theorem dL_again_13 : decode cL_again 13 = .ok (.astore 4, 2) := by decide +kernel
theorem dL_again_15 : decode cL_again 15 = .ok (.iconst 1, 1) := by decide +kernel
theorem dL_again_16 : decode cL_again 16 = .ok (.ireturn, 1) := by decide +kernel
theorem dL_again_17 : decode cL_again 17 = .ok (.astore 4, 2) := by decide +kernel
theorem dL_again_19 : decode cL_again 19 = .ok (.iconst 2, 1) := by decide +kernel
theorem dL_again_20 : decode cL_again 20 = .ok (.ireturn, 1) := by decide +kernel
theorem dL_again_21 : decode cL_again 21 = .ok (.astore 4, 2) := by decide +kernel
theorem dL_again_23 : decode cL_again 23 = .ok (.iconst 3, 1) := by decide +kernel
theorem dL_again_24 : decode cL_again 24 = .ok (.ireturn, 1) := by decide +kernel
theorem dL_again_25 : decode cL_again 25 = .ok (.iconst 0, 1) := by decide +kernel
theorem dL_again_26 : decode cL_again 26 = .ok (.ireturn, 1) := by decide +kernel
theorem dL_pass_0 : decode cL_pass 0 = .ok (.aload_n 2, 1) := by decide +kernel
theorem dL_pass_1 : decode cL_pass 1 = .ok (.iconst 0, 1) := by decide +kernel
theorem dL_pass_2 : decode cL_pass 2 = .ok (.aload_n 0, 1) := by decide +kernel
theorem dL_pass_3 : decode cL_pass 3 = .ok (.iload_n 1, 1) := by decide +kernel
theorem dL_pass_4 : decode cL_pass 4 = .ok (.invokevirtual 55, 3) := by decide +kernel
theorem dL_pass_7 : decode cL_pass 7 = .ok (.i2l, 1) := by decide +kernel
theorem dL_pass_8 : decode cL_pass 8 = .ok (.lastore, 1) := by decide +kernel
theorem dL_pass_9 : decode cL_pass 9 = .ok (.goto 6, 3) := by decide +kernel
theorem dL_pass_12 : decode cL_pass 12 = .ok (.astore_n 3, 1) := by decide +kernel
theorem dL_pass_13 : decode cL_pass 13 = .ok (.iconst 1, 1) := by decide +kernel
theorem dL_pass_14 : decode cL_pass 14 = .ok (.ireturn, 1) := by decide +kernel
theorem dL_pass_15 : decode cL_pass 15 = .ok (.iconst 0, 1) := by decide +kernel
theorem dL_pass_16 : decode cL_pass 16 = .ok (.ireturn, 1) := by decide +kernel
theorem dL_until_0 : decode cL_until 0 = .ok (.aload_n 2, 1) := by decide +kernel
theorem dL_until_1 : decode cL_until 1 = .ok (.iconst 0, 1) := by decide +kernel
theorem dL_until_2 : decode cL_until 2 = .ok (.aload_n 0, 1) := by decide +kernel
theorem dL_until_3 : decode cL_until 3 = .ok (.iload_n 1, 1) := by decide +kernel
theorem dL_until_4 : decode cL_until 4 = .ok (.invokevirtual 58, 3) := by decide +kernel
theorem dL_until_7 : decode cL_until 7 = .ok (.i2l, 1) := by decide +kernel
theorem dL_until_8 : decode cL_until 8 = .ok (.lastore, 1) := by decide +kernel
theorem dL_until_9 : decode cL_until 9 = .ok (.goto 6, 3) := by decide +kernel
theorem dL_until_12 : decode cL_until 12 = .ok (.astore_n 3, 1) := by decide +kernel
theorem dL_until_13 : decode cL_until 13 = .ok (.iconst 1, 1) := by decide +kernel
theorem dL_until_14 : decode cL_until 14 = .ok (.ireturn, 1) := by decide +kernel
theorem dL_until_15 : decode cL_until 15 = .ok (.iconst 0, 1) := by decide +kernel
theorem dL_until_16 : decode cL_until 16 = .ok (.ireturn, 1) := by decide +kernel
theorem dL_foresee_0 : decode cL_foresee 0 = .ok (.aload_n 3, 1) := by decide +kernel
theorem dL_foresee_1 : decode cL_foresee 1 = .ok (.iconst 0, 1) := by decide +kernel
theorem dL_foresee_2 : decode cL_foresee 2 = .ok (.aload_n 0, 1) := by decide +kernel
theorem dL_foresee_3 : decode cL_foresee 3 = .ok (.iload_n 1, 1) := by decide +kernel
theorem dL_foresee_4 : decode cL_foresee 4 = .ok (.iload_n 2, 1) := by decide +kernel
theorem dL_foresee_5 : decode cL_foresee 5 = .ok (.invokevirtual 61, 3) := by decide +kernel
theorem dL_foresee_8 : decode cL_foresee 8 = .ok (.i2l, 1) := by decide +kernel
theorem dL_foresee_9 : decode cL_foresee 9 = .ok (.lastore, 1) := by decide +kernel
theorem dL_foresee_10 : decode cL_foresee 10 = .ok (.goto 11, 3) := by decide +kernel
theorem dL_foresee_13 : decode cL_foresee 13 = .ok (.astore 4, 2) := by decide +kernel
theorem dL_foresee_15 : decode cL_foresee 15 = .ok (.iconst 1, 1) := by decide +kernel
theorem dL_foresee_16 : decode cL_foresee 16 = .ok (.ireturn, 1) := by decide +kernel
theorem dL_foresee_17 : decode cL_foresee 17 = .ok (.astore 4, 2) := by decide +kernel
theorem dL_foresee_19 : decode cL_foresee 19 = .ok (.iconst 2, 1) := by decide +kernel
theorem dL_foresee_20 : decode cL_foresee 20 = .ok (.ireturn, 1) := by decide +kernel
theorem dL_foresee_21 : decode cL_foresee 21 = .ok (.iconst 0, 1) := by decide +kernel
theorem dL_foresee_22 : decode cL_foresee 22 = .ok (.ireturn, 1) := by decide +kernel
theorem dL_advise_0 : decode cL_advise 0 = .ok (.aload_n 2, 1) := by decide +kernel
theorem dL_advise_1 : decode cL_advise 1 = .ok (.iconst 0, 1) := by decide +kernel
theorem dL_advise_2 : decode cL_advise 2 = .ok (.aload_n 0, 1) := by decide +kernel
theorem dL_advise_3 : decode cL_advise 3 = .ok (.iload_n 1, 1) := by decide +kernel
theorem dL_advise_4 : decode cL_advise 4 = .ok (.invokevirtual 64, 3) := by decide +kernel
theorem dL_advise_7 : decode cL_advise 7 = .ok (.i2l, 1) := by decide +kernel
theorem dL_advise_8 : decode cL_advise 8 = .ok (.lastore, 1) := by decide +kernel
theorem dL_advise_9 : decode cL_advise 9 = .ok (.goto 6, 3) := by decide +kernel
theorem dL_advise_12 : decode cL_advise 12 = .ok (.astore_n 3, 1) := by decide +kernel
theorem dL_advise_13 : decode cL_advise 13 = .ok (.iconst 1, 1) := by decide +kernel
theorem dL_advise_14 : decode cL_advise 14 = .ok (.ireturn, 1) := by decide +kernel
theorem dL_advise_15 : decode cL_advise 15 = .ok (.iconst 0, 1) := by decide +kernel
theorem dL_advise_16 : decode cL_advise 16 = .ok (.ireturn, 1) := by decide +kernel
theorem dL_missed_0 : decode cL_missed 0 = .ok (.aload_n 2, 1) := by decide +kernel
theorem dL_missed_1 : decode cL_missed 1 = .ok (.iconst 0, 1) := by decide +kernel
theorem dL_missed_2 : decode cL_missed 2 = .ok (.aload_n 0, 1) := by decide +kernel
theorem dL_missed_3 : decode cL_missed 3 = .ok (.iload_n 1, 1) := by decide +kernel
theorem dL_missed_4 : decode cL_missed 4 = .ok (.invokevirtual 67, 3) := by decide +kernel
theorem dL_missed_7 : decode cL_missed 7 = .ok (.i2l, 1) := by decide +kernel
theorem dL_missed_8 : decode cL_missed 8 = .ok (.lastore, 1) := by decide +kernel
theorem dL_missed_9 : decode cL_missed 9 = .ok (.goto 6, 3) := by decide +kernel
theorem dL_missed_12 : decode cL_missed 12 = .ok (.astore_n 3, 1) := by decide +kernel
theorem dL_missed_13 : decode cL_missed 13 = .ok (.iconst 1, 1) := by decide +kernel
theorem dL_missed_14 : decode cL_missed 14 = .ok (.ireturn, 1) := by decide +kernel
theorem dL_missed_15 : decode cL_missed 15 = .ok (.iconst 0, 1) := by decide +kernel
theorem dL_missed_16 : decode cL_missed 16 = .ok (.ireturn, 1) := by decide +kernel
theorem mi_L_feed : MInfoH yL_feed cL_feed 8 (some .int) [(0, 16, 19, 13)] 7 := ⟨wq_950, wq_124, by decide, ⟨by decide +kernel, by decide +kernel, by decide +kernel⟩, wq_949⟩
theorem mi_L_trim : MInfoH yL_trim cL_trim 4 (some .int) [(0, 9, 12, 19)] 3 := ⟨wq_978, wq_124, by decide, ⟨by decide +kernel, by decide +kernel, by decide +kernel⟩, wq_977⟩
theorem mi_L_count : MInfoH yL_count cL_count 4 (some .int) [(0, 9, 12, 24)] 3 := ⟨wq_1002, wq_124, by decide, ⟨by decide +kernel, by decide +kernel, by decide +kernel⟩, wq_1001⟩
theorem mi_L_place : MInfoH yL_place cL_place 5 (some .int) [(0, 10, 13, 24)] 4 := ⟨wq_1007, wq_124, by decide, ⟨by decide +kernel, by decide +kernel, by decide +kernel⟩, wq_1006⟩
theorem mi_L_bore : MInfoH yL_bore cL_bore 5 (some .int) [(0, 10, 13, 24)] 4 := ⟨wq_1011, wq_124, by decide, ⟨by decide +kernel, by decide +kernel, by decide +kernel⟩, wq_1010⟩
theorem mi_L_legger : MInfoH yL_legger cL_legger 5 (some .int) [(0, 10, 13, 24)] 4 := ⟨wq_1015, wq_124, by decide, ⟨by decide +kernel, by decide +kernel, by decide +kernel⟩, wq_1014⟩
theorem mi_L_boat : MInfoH yL_boat cL_boat 5 (some .int) [(0, 10, 13, 24)] 4 := ⟨wq_1019, wq_124, by decide, ⟨by decide +kernel, by decide +kernel, by decide +kernel⟩, wq_1018⟩
theorem mi_L_crew : MInfoH yL_crew cL_crew 5 (some .int) [(0, 10, 13, 24)] 4 := ⟨wq_1023, wq_124, by decide, ⟨by decide +kernel, by decide +kernel, by decide +kernel⟩, wq_1022⟩
theorem mi_L_canEnter : MInfoH yL_canEnter cL_canEnter 4 (some .int) [(0, 16, 19, 24)] 3 := ⟨wq_1027, wq_124, by decide, ⟨by decide +kernel, by decide +kernel, by decide +kernel⟩, wq_1026⟩
theorem mi_L_whistle : MInfoH yL_whistle cL_whistle 4 (some .int) [(0, 9, 12, 19)] 3 := ⟨wq_1083, wq_124, by decide, ⟨by decide +kernel, by decide +kernel, by decide +kernel⟩, wq_1082⟩
theorem mi_L_cap : MInfoH yL_cap cL_cap 4 (some .int) [(0, 9, 12, 24)] 3 := ⟨wq_1091, wq_124, by decide, ⟨by decide +kernel, by decide +kernel, by decide +kernel⟩, wq_1090⟩
theorem mi_L_again : MInfoH yL_again cL_again 5 (some .int) [(0, 10, 13, 24), (0, 10, 17, 19), (0, 10, 21, 13)] 4 := ⟨wq_1098, wq_124, by decide, ⟨by decide +kernel, by decide +kernel, by decide +kernel⟩, wq_1097⟩
theorem mi_L_pass : MInfoH yL_pass cL_pass 4 (some .int) [(0, 9, 12, 19)] 3 := ⟨wq_1111, wq_124, by decide, ⟨by decide +kernel, by decide +kernel, by decide +kernel⟩, wq_1110⟩
theorem mi_L_until : MInfoH yL_until cL_until 4 (some .int) [(0, 9, 12, 24)] 3 := ⟨wq_1182, wq_124, by decide, ⟨by decide +kernel, by decide +kernel, by decide +kernel⟩, wq_1181⟩
theorem mi_L_foresee : MInfoH yL_foresee cL_foresee 5 (some .int) [(0, 10, 13, 19), (0, 10, 17, 24)] 4 := ⟨wq_1196, wq_124, by decide, ⟨by decide +kernel, by decide +kernel, by decide +kernel⟩, wq_1195⟩
theorem mi_L_advise : MInfoH yL_advise cL_advise 4 (some .int) [(0, 9, 12, 19)] 3 := ⟨wq_1204, wq_124, by decide, ⟨by decide +kernel, by decide +kernel, by decide +kernel⟩, wq_1203⟩
theorem mi_L_missed : MInfoH yL_missed cL_missed 4 (some .int) [(0, 9, 12, 19)] 3 := ⟨wq_1211, wq_124, by decide, ⟨by decide +kernel, by decide +kernel, by decide +kernel⟩, wq_1210⟩
def wp_L_feed (q : Nat → Nat) (ap : Nat) (bp : Nat) (rp : Nat) (C : M2) (T : M2) (G : M2) (P : M2) (Y : M2) (L : L2) (B : M2) (X : L2) (x1 : Int32) (x2 : Int32) (x3 : Int32) (x4 : Int32) (x5 : Int32) (K : Int32 → Nat → Nat → Nat → M2 → M2 → M2 → M2 → M2 → L2 → M2 → L2 → Prop) : Prop := wp_X5_feed (fun k_ => (k_ = 0 ∧ K 1 ap bp rp C T G P Y L B X)) B C x1 x2 x3 x4 x5 (fun r_11 B_11 C_11 => (inb 0 1 ∧ ∀ X_15 : L2, X_15 = ul2 X 500 (vp_updL (X 500) (0 : Int32).toInt.toNat r_11.toInt64) → K 0 ap bp rp C_11 T G P Y L B_11 X_15))
set_option maxRecDepth 100000 in
set_option maxHeartbeats 4000000 in
theorem c_L_feed (l : Launch) (hfl : l.stackTraces = false) (D : va_G) (rx : Nat → Nat) (Z : Nat → ClassId) (a t b q q2 : Nat → Nat) (ow : Nat) (sz : Nat) (ap : Nat) (bp : Nat) (rp : Nat) (C : M2) (T : M2) (G : M2) (P : M2) (Y : M2) (L : L2) (B : M2) (X : L2) (x1 : Int32) (x2 : Int32) (x3 : Int32) (x4 : Int32) (x5 : Int32) (K : Int32 → Nat → Nat → Nat → M2 → M2 → M2 → M2 → M2 → L2 → M2 → L2 → Prop) (hm : wp_L_feed q ap bp rp C T G P Y L B X x1 x2 x3 x4 x5 K) : Met l yL_feed (wyh yL_feed cL_feed 8 (some .int) [(0, 16, 19, 13)]) (rk 8 1 6) (preX vwCl D Z rx (LX Z a t b q q2 ow ap bp rp C T G P Y L B X) sz [.ref (a 90), .int x1, .int x2, .int x3, .int x4, .int x5, .ref (ow)]) (poI vwCl D Z (fun u : Nat × Nat × Nat × M2 × M2 × M2 × M2 × M2 × L2 × M2 × L2 => LX Z a t b q q2 ow u.1 u.2.1 u.2.2.1 u.2.2.2.1 u.2.2.2.2.1 u.2.2.2.2.2.1 u.2.2.2.2.2.2.1 u.2.2.2.2.2.2.2.1 u.2.2.2.2.2.2.2.2.1 u.2.2.2.2.2.2.2.2.2.1 u.2.2.2.2.2.2.2.2.2.2) (ap, bp, rp, C, T, G, P, Y, L, B, X) sz (fun (r : Int32) (u : Nat × Nat × Nat × M2 × M2 × M2 × M2 × M2 × L2 × M2 × L2) => K r u.1 u.2.1 u.2.2.1 u.2.2.2.1 u.2.2.2.2.1 u.2.2.2.2.2.1 u.2.2.2.2.2.2.1 u.2.2.2.2.2.2.2.1 u.2.2.2.2.2.2.2.2.1 u.2.2.2.2.2.2.2.2.2.1 u.2.2.2.2.2.2.2.2.2.2)) 1 6 (va_A (LX Z a t b q q2 ow ap bp rp C T G P Y L B X) sz) := by
  refine rw_ofH (ty := .int) (wsF := (fun u : Nat × Nat × Nat × M2 × M2 × M2 × M2 × M2 × L2 × M2 × L2 => LX Z a t b q q2 ow u.1 u.2.1 u.2.2.1 u.2.2.2.1 u.2.2.2.2.1 u.2.2.2.2.2.1 u.2.2.2.2.2.2.1 u.2.2.2.2.2.2.2.1 u.2.2.2.2.2.2.2.2.1 u.2.2.2.2.2.2.2.2.2.1 u.2.2.2.2.2.2.2.2.2.2)) (u0 := (ap, bp, rp, C, T, G, P, Y, L, B, X)) (by decide +kernel) (Nat.le_of_ble_eq_true rfl) rfl ?_
  intro p e s m args below meth c Q A hC hN hR hsz htab hT hK hret ls hl
  have hx := hC.1
  have hb := hC.2.1
  have hl : lv_has ls 8 [(0, .ref (a 90)), (1, .int x1), (2, .int x2), (3, .int x3), (4, .int x4), (5, .int x5), (6, .ref (ow))] := hl
  have hT : TS vwCl D (LX Z a t b q q2 ow ap bp rp C T G P Y L B X) A s.heap s.heap [] := hT
  refine lv_aload hx hb dL_feed_0 (lv_at hl 6 rfl) ?_
  refine lv_iconst (v := 0) hx hb dL_feed_2 (by decide) ?_
  refine lv_aload_n hx hb dL_feed_3 rfl (lv_at hl 0 rfl) ?_
  refine lv_iload_n hx hb dL_feed_4 rfl (lv_at hl 1 rfl) ?_
  refine lv_iload_n hx hb dL_feed_5 rfl (lv_at hl 2 rfl) ?_
  refine lv_iload_n hx hb dL_feed_6 rfl (lv_at hl 3 rfl) ?_
  refine lv_iload hx hb dL_feed_7 (lv_at hl 4 rfl) ?_
  refine lv_iload hx hb dL_feed_9 (lv_at hl 5 rfl) ?_
  refine xk_X5_feed hC hN hfl (hT.rxd hR) hK hT (cx_CTLX Z a t b q q2 ow ap bp rp C T G P Y L B X) rfl hm wq_952 (by decide) hl.1 (Nat.le_of_ble_eq_true rfl) ⟨(Nat.le_of_ble_eq_true rfl), (Nat.le_of_ble_eq_true rfl)⟩ dL_feed_11 (fun k ce q9 H locs hk hT h1 h2 h3 => ?_) (fun r_11 B_11 C_11 H locs hm hT => ?_)
  · obtain ⟨e_, hm⟩ := hk
    subst e_
    refine vx_catch (own := RL) (name := "java/lang/IllegalStateException") hC.2.2.2.1 [] ⟨0, 16, 19, 13⟩ [] htab (fun z hz => absurd hz List.not_mem_nil) (by decide) (by decide) (hC.2.2.2.2 _ wq_951) (hR.2.2.2.2.1.use wx_958) h1 h2 h3 ?_
    refine lv_astore (lv' := [(7, .ref q9), (0, .ref (a 90)), (1, .int x1), (2, .int x2), (3, .int x3), (4, .int x4), (5, .int x5), (6, .ref (ow))]) hx hb dL_feed_19 hl (by decide) rfl (fun ls hl => ?_)
    refine lv_iconst (v := 1) hx hb dL_feed_21 (by decide) ?_
    refine W.widen (k := 1) (n := 6) (Nat.le_of_ble_eq_true rfl) (Nat.le_of_ble_eq_true rfl) ?_
    exact hret 22 _ _ _ _ (ap, bp, rp, C, T, G, P, Y, L, B, X) hm hT rfl dL_feed_22
  have hT : TS vwCl D (LX Z a t b q q2 ow ap bp rp C_11 T G P Y L B_11 X) A s.heap H locs := hT
  refine lv_i2l (v := r_11.toInt64) hx hb dL_feed_14 rfl ?_
  refine sLX_out hC hK hT hm.1 dL_feed_15 (fun X_15 eX_15 H locs hT => ?_)
  have hm := hm.2 X_15 eX_15
  refine lv_goto (tgt := 23) hx hb dL_feed_16 (by decide) ?_
  refine lv_iconst (v := 0) hx hb dL_feed_23 (by decide) ?_
  refine W.widen (k := 1) (n := 6) (Nat.le_of_ble_eq_true rfl) (Nat.le_of_ble_eq_true rfl) ?_
  exact hret 24 _ _ _ _ (ap, bp, rp, C_11, T, G, P, Y, L, B_11, X_15) hm hT rfl dL_feed_24
section LL_feed
variable {p : Program} {l : Launch} {e : Env} {s : State} {m : MethodId} {args : Array Value} {below : List Frame} {meth : Method} {c : Code} {H H0 : Heap} {locs : List Loc} {cells slots : Nat} {Q : State → Prop} {R : Room} {rn mcR msR : Nat}
variable {pc : Nat} {ls : Array Slot} {rest : List Value} {A : Nat → Prop} {D : va_G}
variable {cc : ByteArray} {nL index : Nat} {own host : String}
theorem kl_L_feed {rx : Nat → Nat} {Z : Nat → ClassId} {a t b q q2 : Nat → Nat} {ow : Nat} {ap : Nat} {bp : Nat} {rp : Nat} {C : M2} {T : M2} {G : M2} {P : M2} {Y : M2} {L : L2} {B : M2} {X : L2} {x1 : Int32} {x2 : Int32} {x3 : Int32} {x4 : Int32} {x5 : Int32} {K : Int32 → Nat → Nat → Nat → M2 → M2 → M2 → M2 → M2 → L2 → M2 → L2 → Prop} {ws wr : va_W} {isC isR pm : List Nat} {ws' : Nat × Nat × Nat × M2 × M2 × M2 × M2 × M2 × L2 × M2 × L2 → va_W} (hC : CallFix p m c cc nL s args lw_g own) (hN : NW s) (hfl : l.stackTraces = false) (hR : RXD rx (va_A ws H.size) s H) (hK : va_K D vwCl (tysG Z) s) (hT : TS vwCl D ws A H0 H locs) (hc : Cut ws (fun u : Nat × Nat × Nat × M2 × M2 × M2 × M2 × M2 × L2 × M2 × L2 => LX Z a t b q q2 ow u.1 u.2.1 u.2.2.1 u.2.2.2.1 u.2.2.2.2.1 u.2.2.2.2.2.1 u.2.2.2.2.2.2.1 u.2.2.2.2.2.2.2.1 u.2.2.2.2.2.2.2.2.1 u.2.2.2.2.2.2.2.2.2.1 u.2.2.2.2.2.2.2.2.2.2) (ap, bp, rp, C, T, G, P, Y, L, B, X) wr isC isR pm ws') (hnd : va_nd isC = true) (hm : wp_L_feed q ap bp rp C T G P Y L B X x1 x2 x3 x4 x5 K) (hl : Cond.methodLink own index yL_feed ∈ lw_g) (hlt : 8 < rn) (hsize : ls.size = nL) (hW : (rest.map fun v => v.category).sum ≤ 8) (hf : cells + 1 ≤ mcR ∧ slots + 6 ≤ msR) (hdg : decode cc pc = .ok (.invokestatic index, 3))
    (kk : ∀ (r : Int32) (ap1 : Nat) (bp1 : Nat) (rp1 : Nat) (C1 : M2) (T1 : M2) (G1 : M2) (P1 : M2) (Y1 : M2) (L1 : L2) (B1 : M2) (X1 : L2) (H1 : Heap) (locs1 : List Loc), K r ap1 bp1 rp1 C1 T1 G1 P1 Y1 L1 B1 X1 → TS vwCl D (ws' (ap1, bp1, rp1, C1, T1, G1, P1, Y1, L1, B1, X1)) A H0 H1 locs1 → W p l e (rk rn mcR msR) s m args below meth c H1 locs1 (cells + 1) (slots + 6) Q (F0 m (pc + 3) ls (.int r :: rest))) : W p l e (rk rn mcR msR) s m args below meth c H locs cells slots Q (F0 m pc ls (.ref (ow) :: .int x5 :: .int x4 :: .int x3 :: .int x2 :: .int x1 :: .ref (a 90) :: rest)) :=
  rw_go (wsF := (fun u : Nat × Nat × Nat × M2 × M2 × M2 × M2 × M2 × L2 × M2 × L2 => LX Z a t b q q2 ow u.1 u.2.1 u.2.2.1 u.2.2.2.1 u.2.2.2.2.1 u.2.2.2.2.2.1 u.2.2.2.2.2.2.1 u.2.2.2.2.2.2.2.1 u.2.2.2.2.2.2.2.2.1 u.2.2.2.2.2.2.2.2.2.1 u.2.2.2.2.2.2.2.2.2.2)) (u0 := (ap, bp, rp, C, T, G, P, Y, L, B, X)) (K := (fun (r : Int32) (u : Nat × Nat × Nat × M2 × M2 × M2 × M2 × M2 × L2 × M2 × L2) => K r u.1 u.2.1 u.2.2.1 u.2.2.2.1 u.2.2.2.2.1 u.2.2.2.2.2.1 u.2.2.2.2.2.2.1 u.2.2.2.2.2.2.2.1 u.2.2.2.2.2.2.2.2.1 u.2.2.2.2.2.2.2.2.2.1 u.2.2.2.2.2.2.2.2.2.2)) (wr := wr) (isC := isC) (isR := isR) (pm := pm) (ws' := ws') (runSH (As := [.ref (a 90), .int x1, .int x2, .int x3, .int x4, .int x5, .ref (ow)]) hC hN (hR.sub hc.1) (c_L_feed l hfl D rx Z a t b q q2 ow H.size ap bp rp C T G P Y L B X x1 x2 x3 x4 x5 K hm) mi_L_feed hl hlt (hT.1.sub isC (map_fm hc.1)) (hT.D'.sub isC hnd hc.1) hK rfl hsize rfl hW hdg hf) hc hT (fun r u H1 locs1 hk hT1 => kk r u.1 u.2.1 u.2.2.1 u.2.2.2.1 u.2.2.2.2.1 u.2.2.2.2.2.1 u.2.2.2.2.2.2.1 u.2.2.2.2.2.2.2.1 u.2.2.2.2.2.2.2.2.1 u.2.2.2.2.2.2.2.2.2.1 u.2.2.2.2.2.2.2.2.2.2 H1 locs1 hk hT1)
end LL_feed
def wp_L_trim (q : Nat → Nat) (ap : Nat) (bp : Nat) (rp : Nat) (C : M2) (T : M2) (G : M2) (P : M2) (Y : M2) (L : L2) (B : M2) (X : L2) (x1 : Int32) (K : Int32 → Nat → Nat → Nat → M2 → M2 → M2 → M2 → M2 → L2 → M2 → L2 → Prop) : Prop := wp_X5_trim (fun k_ => (k_ = 1 ∧ K 1 ap bp rp C T G P Y L B X)) B C x1 (fun r_4 B_4 C_4 => (inb 0 1 ∧ ∀ X_8 : L2, X_8 = ul2 X 500 (vp_updL (X 500) (0 : Int32).toInt.toNat r_4.toInt64) → K 0 ap bp rp C_4 T G P Y L B_4 X_8))
set_option maxRecDepth 100000 in
set_option maxHeartbeats 4000000 in
theorem c_L_trim (l : Launch) (hfl : l.stackTraces = false) (D : va_G) (rx : Nat → Nat) (Z : Nat → ClassId) (a t b q q2 : Nat → Nat) (ow : Nat) (sz : Nat) (ap : Nat) (bp : Nat) (rp : Nat) (C : M2) (T : M2) (G : M2) (P : M2) (Y : M2) (L : L2) (B : M2) (X : L2) (x1 : Int32) (K : Int32 → Nat → Nat → Nat → M2 → M2 → M2 → M2 → M2 → L2 → M2 → L2 → Prop) (hm : wp_L_trim q ap bp rp C T G P Y L B X x1 K) : Met l yL_trim (wyh yL_trim cL_trim 4 (some .int) [(0, 9, 12, 19)]) (rk 8 1 6) (preX vwCl D Z rx (LX Z a t b q q2 ow ap bp rp C T G P Y L B X) sz [.ref (a 90), .int x1, .ref (ow)]) (poI vwCl D Z (fun u : Nat × Nat × Nat × M2 × M2 × M2 × M2 × M2 × L2 × M2 × L2 => LX Z a t b q q2 ow u.1 u.2.1 u.2.2.1 u.2.2.2.1 u.2.2.2.2.1 u.2.2.2.2.2.1 u.2.2.2.2.2.2.1 u.2.2.2.2.2.2.2.1 u.2.2.2.2.2.2.2.2.1 u.2.2.2.2.2.2.2.2.2.1 u.2.2.2.2.2.2.2.2.2.2) (ap, bp, rp, C, T, G, P, Y, L, B, X) sz (fun (r : Int32) (u : Nat × Nat × Nat × M2 × M2 × M2 × M2 × M2 × L2 × M2 × L2) => K r u.1 u.2.1 u.2.2.1 u.2.2.2.1 u.2.2.2.2.1 u.2.2.2.2.2.1 u.2.2.2.2.2.2.1 u.2.2.2.2.2.2.2.1 u.2.2.2.2.2.2.2.2.1 u.2.2.2.2.2.2.2.2.2.1 u.2.2.2.2.2.2.2.2.2.2)) 1 6 (va_A (LX Z a t b q q2 ow ap bp rp C T G P Y L B X) sz) := by
  refine rw_ofH (ty := .int) (wsF := (fun u : Nat × Nat × Nat × M2 × M2 × M2 × M2 × M2 × L2 × M2 × L2 => LX Z a t b q q2 ow u.1 u.2.1 u.2.2.1 u.2.2.2.1 u.2.2.2.2.1 u.2.2.2.2.2.1 u.2.2.2.2.2.2.1 u.2.2.2.2.2.2.2.1 u.2.2.2.2.2.2.2.2.1 u.2.2.2.2.2.2.2.2.2.1 u.2.2.2.2.2.2.2.2.2.2)) (u0 := (ap, bp, rp, C, T, G, P, Y, L, B, X)) (by decide +kernel) (Nat.le_of_ble_eq_true rfl) rfl ?_
  intro p e s m args below meth c Q A hC hN hR hsz htab hT hK hret ls hl
  have hx := hC.1
  have hb := hC.2.1
  have hl : lv_has ls 4 [(0, .ref (a 90)), (1, .int x1), (2, .ref (ow))] := hl
  have hT : TS vwCl D (LX Z a t b q q2 ow ap bp rp C T G P Y L B X) A s.heap s.heap [] := hT
  refine lv_aload_n hx hb dL_trim_0 rfl (lv_at hl 2 rfl) ?_
  refine lv_iconst (v := 0) hx hb dL_trim_1 (by decide) ?_
  refine lv_aload_n hx hb dL_trim_2 rfl (lv_at hl 0 rfl) ?_
  refine lv_iload_n hx hb dL_trim_3 rfl (lv_at hl 1 rfl) ?_
  refine xk_X5_trim hC hN hfl (hT.rxd hR) hK hT (cx_CTLX Z a t b q q2 ow ap bp rp C T G P Y L B X) rfl hm wq_980 (by decide) hl.1 (Nat.le_of_ble_eq_true rfl) ⟨(Nat.le_of_ble_eq_true rfl), (Nat.le_of_ble_eq_true rfl)⟩ dL_trim_4 (fun k ce q9 H locs hk hT h1 h2 h3 => ?_) (fun r_4 B_4 C_4 H locs hm hT => ?_)
  · obtain ⟨e_, hm⟩ := hk
    subst e_
    refine vx_catch (own := RL) (name := "java/lang/IllegalArgumentException") hC.2.2.2.1 [] ⟨0, 9, 12, 19⟩ [] htab (fun z hz => absurd hz List.not_mem_nil) (by decide) (by decide) (hC.2.2.2.2 _ wq_979) (hR.2.2.2.2.1.use wx_986) h1 h2 h3 ?_
    refine lv_astore_n (lv' := [(3, .ref q9), (0, .ref (a 90)), (1, .int x1), (2, .ref (ow))]) hx hb dL_trim_12 rfl hl (by decide) rfl (fun ls hl => ?_)
    refine lv_iconst (v := 1) hx hb dL_trim_13 (by decide) ?_
    refine W.widen (k := 1) (n := 6) (Nat.le_of_ble_eq_true rfl) (Nat.le_of_ble_eq_true rfl) ?_
    exact hret 14 _ _ _ _ (ap, bp, rp, C, T, G, P, Y, L, B, X) hm hT rfl dL_trim_14
  have hT : TS vwCl D (LX Z a t b q q2 ow ap bp rp C_4 T G P Y L B_4 X) A s.heap H locs := hT
  refine lv_i2l (v := r_4.toInt64) hx hb dL_trim_7 rfl ?_
  refine sLX_out hC hK hT hm.1 dL_trim_8 (fun X_8 eX_8 H locs hT => ?_)
  have hm := hm.2 X_8 eX_8
  refine lv_goto (tgt := 15) hx hb dL_trim_9 (by decide) ?_
  refine lv_iconst (v := 0) hx hb dL_trim_15 (by decide) ?_
  refine W.widen (k := 1) (n := 6) (Nat.le_of_ble_eq_true rfl) (Nat.le_of_ble_eq_true rfl) ?_
  exact hret 16 _ _ _ _ (ap, bp, rp, C_4, T, G, P, Y, L, B_4, X_8) hm hT rfl dL_trim_16
section LL_trim
variable {p : Program} {l : Launch} {e : Env} {s : State} {m : MethodId} {args : Array Value} {below : List Frame} {meth : Method} {c : Code} {H H0 : Heap} {locs : List Loc} {cells slots : Nat} {Q : State → Prop} {R : Room} {rn mcR msR : Nat}
variable {pc : Nat} {ls : Array Slot} {rest : List Value} {A : Nat → Prop} {D : va_G}
variable {cc : ByteArray} {nL index : Nat} {own host : String}
theorem kl_L_trim {rx : Nat → Nat} {Z : Nat → ClassId} {a t b q q2 : Nat → Nat} {ow : Nat} {ap : Nat} {bp : Nat} {rp : Nat} {C : M2} {T : M2} {G : M2} {P : M2} {Y : M2} {L : L2} {B : M2} {X : L2} {x1 : Int32} {K : Int32 → Nat → Nat → Nat → M2 → M2 → M2 → M2 → M2 → L2 → M2 → L2 → Prop} {ws wr : va_W} {isC isR pm : List Nat} {ws' : Nat × Nat × Nat × M2 × M2 × M2 × M2 × M2 × L2 × M2 × L2 → va_W} (hC : CallFix p m c cc nL s args lw_g own) (hN : NW s) (hfl : l.stackTraces = false) (hR : RXD rx (va_A ws H.size) s H) (hK : va_K D vwCl (tysG Z) s) (hT : TS vwCl D ws A H0 H locs) (hc : Cut ws (fun u : Nat × Nat × Nat × M2 × M2 × M2 × M2 × M2 × L2 × M2 × L2 => LX Z a t b q q2 ow u.1 u.2.1 u.2.2.1 u.2.2.2.1 u.2.2.2.2.1 u.2.2.2.2.2.1 u.2.2.2.2.2.2.1 u.2.2.2.2.2.2.2.1 u.2.2.2.2.2.2.2.2.1 u.2.2.2.2.2.2.2.2.2.1 u.2.2.2.2.2.2.2.2.2.2) (ap, bp, rp, C, T, G, P, Y, L, B, X) wr isC isR pm ws') (hnd : va_nd isC = true) (hm : wp_L_trim q ap bp rp C T G P Y L B X x1 K) (hl : Cond.methodLink own index yL_trim ∈ lw_g) (hlt : 8 < rn) (hsize : ls.size = nL) (hW : (rest.map fun v => v.category).sum ≤ 8) (hf : cells + 1 ≤ mcR ∧ slots + 6 ≤ msR) (hdg : decode cc pc = .ok (.invokestatic index, 3))
    (kk : ∀ (r : Int32) (ap1 : Nat) (bp1 : Nat) (rp1 : Nat) (C1 : M2) (T1 : M2) (G1 : M2) (P1 : M2) (Y1 : M2) (L1 : L2) (B1 : M2) (X1 : L2) (H1 : Heap) (locs1 : List Loc), K r ap1 bp1 rp1 C1 T1 G1 P1 Y1 L1 B1 X1 → TS vwCl D (ws' (ap1, bp1, rp1, C1, T1, G1, P1, Y1, L1, B1, X1)) A H0 H1 locs1 → W p l e (rk rn mcR msR) s m args below meth c H1 locs1 (cells + 1) (slots + 6) Q (F0 m (pc + 3) ls (.int r :: rest))) : W p l e (rk rn mcR msR) s m args below meth c H locs cells slots Q (F0 m pc ls (.ref (ow) :: .int x1 :: .ref (a 90) :: rest)) :=
  rw_go (wsF := (fun u : Nat × Nat × Nat × M2 × M2 × M2 × M2 × M2 × L2 × M2 × L2 => LX Z a t b q q2 ow u.1 u.2.1 u.2.2.1 u.2.2.2.1 u.2.2.2.2.1 u.2.2.2.2.2.1 u.2.2.2.2.2.2.1 u.2.2.2.2.2.2.2.1 u.2.2.2.2.2.2.2.2.1 u.2.2.2.2.2.2.2.2.2.1 u.2.2.2.2.2.2.2.2.2.2)) (u0 := (ap, bp, rp, C, T, G, P, Y, L, B, X)) (K := (fun (r : Int32) (u : Nat × Nat × Nat × M2 × M2 × M2 × M2 × M2 × L2 × M2 × L2) => K r u.1 u.2.1 u.2.2.1 u.2.2.2.1 u.2.2.2.2.1 u.2.2.2.2.2.1 u.2.2.2.2.2.2.1 u.2.2.2.2.2.2.2.1 u.2.2.2.2.2.2.2.2.1 u.2.2.2.2.2.2.2.2.2.1 u.2.2.2.2.2.2.2.2.2.2)) (wr := wr) (isC := isC) (isR := isR) (pm := pm) (ws' := ws') (runSH (As := [.ref (a 90), .int x1, .ref (ow)]) hC hN (hR.sub hc.1) (c_L_trim l hfl D rx Z a t b q q2 ow H.size ap bp rp C T G P Y L B X x1 K hm) mi_L_trim hl hlt (hT.1.sub isC (map_fm hc.1)) (hT.D'.sub isC hnd hc.1) hK rfl hsize rfl hW hdg hf) hc hT (fun r u H1 locs1 hk hT1 => kk r u.1 u.2.1 u.2.2.1 u.2.2.2.1 u.2.2.2.2.1 u.2.2.2.2.2.1 u.2.2.2.2.2.2.1 u.2.2.2.2.2.2.2.1 u.2.2.2.2.2.2.2.2.1 u.2.2.2.2.2.2.2.2.2.1 u.2.2.2.2.2.2.2.2.2.2 H1 locs1 hk hT1)
end LL_trim
def wp_L_count (q : Nat → Nat) (ap : Nat) (bp : Nat) (rp : Nat) (C : M2) (T : M2) (G : M2) (P : M2) (Y : M2) (L : L2) (B : M2) (X : L2) (x1 : Int32) (K : Int32 → Nat → Nat → Nat → M2 → M2 → M2 → M2 → M2 → L2 → M2 → L2 → Prop) : Prop := wp_X5_count P (fun k_ => (k_ = 2 ∧ K 1 ap bp rp C T G P Y L B X)) T C x1 (fun r_4 => (inb 0 1 ∧ ∀ X_8 : L2, X_8 = ul2 X 500 (vp_updL (X 500) (0 : Int32).toInt.toNat r_4.toInt64) → K 0 ap bp rp C T G P Y L B X_8))
set_option maxRecDepth 100000 in
set_option maxHeartbeats 4000000 in
theorem c_L_count (l : Launch) (hfl : l.stackTraces = false) (D : va_G) (rx : Nat → Nat) (Z : Nat → ClassId) (a t b q q2 : Nat → Nat) (ow : Nat) (sz : Nat) (ap : Nat) (bp : Nat) (rp : Nat) (C : M2) (T : M2) (G : M2) (P : M2) (Y : M2) (L : L2) (B : M2) (X : L2) (x1 : Int32) (K : Int32 → Nat → Nat → Nat → M2 → M2 → M2 → M2 → M2 → L2 → M2 → L2 → Prop) (hm : wp_L_count q ap bp rp C T G P Y L B X x1 K) : Met l yL_count (wyh yL_count cL_count 4 (some .int) [(0, 9, 12, 24)]) (rk 8 1 6) (preX vwCl D Z rx (LX Z a t b q q2 ow ap bp rp C T G P Y L B X) sz [.ref (a 90), .int x1, .ref (ow)]) (poI vwCl D Z (fun u : Nat × Nat × Nat × M2 × M2 × M2 × M2 × M2 × L2 × M2 × L2 => LX Z a t b q q2 ow u.1 u.2.1 u.2.2.1 u.2.2.2.1 u.2.2.2.2.1 u.2.2.2.2.2.1 u.2.2.2.2.2.2.1 u.2.2.2.2.2.2.2.1 u.2.2.2.2.2.2.2.2.1 u.2.2.2.2.2.2.2.2.2.1 u.2.2.2.2.2.2.2.2.2.2) (ap, bp, rp, C, T, G, P, Y, L, B, X) sz (fun (r : Int32) (u : Nat × Nat × Nat × M2 × M2 × M2 × M2 × M2 × L2 × M2 × L2) => K r u.1 u.2.1 u.2.2.1 u.2.2.2.1 u.2.2.2.2.1 u.2.2.2.2.2.1 u.2.2.2.2.2.2.1 u.2.2.2.2.2.2.2.1 u.2.2.2.2.2.2.2.2.1 u.2.2.2.2.2.2.2.2.2.1 u.2.2.2.2.2.2.2.2.2.2)) 1 6 (va_A (LX Z a t b q q2 ow ap bp rp C T G P Y L B X) sz) := by
  refine rw_ofH (ty := .int) (wsF := (fun u : Nat × Nat × Nat × M2 × M2 × M2 × M2 × M2 × L2 × M2 × L2 => LX Z a t b q q2 ow u.1 u.2.1 u.2.2.1 u.2.2.2.1 u.2.2.2.2.1 u.2.2.2.2.2.1 u.2.2.2.2.2.2.1 u.2.2.2.2.2.2.2.1 u.2.2.2.2.2.2.2.2.1 u.2.2.2.2.2.2.2.2.2.1 u.2.2.2.2.2.2.2.2.2.2)) (u0 := (ap, bp, rp, C, T, G, P, Y, L, B, X)) (by decide +kernel) (Nat.le_of_ble_eq_true rfl) rfl ?_
  intro p e s m args below meth c Q A hC hN hR hsz htab hT hK hret ls hl
  have hx := hC.1
  have hb := hC.2.1
  have hl : lv_has ls 4 [(0, .ref (a 90)), (1, .int x1), (2, .ref (ow))] := hl
  have hT : TS vwCl D (LX Z a t b q q2 ow ap bp rp C T G P Y L B X) A s.heap s.heap [] := hT
  refine lv_aload_n hx hb dL_count_0 rfl (lv_at hl 2 rfl) ?_
  refine lv_iconst (v := 0) hx hb dL_count_1 (by decide) ?_
  refine lv_aload_n hx hb dL_count_2 rfl (lv_at hl 0 rfl) ?_
  refine lv_iload_n hx hb dL_count_3 rfl (lv_at hl 1 rfl) ?_
  refine xk_X5_count hC hN hfl (hT.rxd hR) hK hT (cxu_CQLX Z a t b q q2 ow ap bp rp C T G P Y L B X) rfl hm wq_1004 (by decide) hl.1 (Nat.le_of_ble_eq_true rfl) ⟨(Nat.le_of_ble_eq_true rfl), (Nat.le_of_ble_eq_true rfl)⟩ dL_count_4 (fun k ce q9 H locs hk hT h1 h2 h3 => ?_) (fun r_4 H locs hm hT => ?_)
  · obtain ⟨e_, hm⟩ := hk
    subst e_
    refine vx_catch (own := RL) (name := "java/lang/IndexOutOfBoundsException") hC.2.2.2.1 [] ⟨0, 9, 12, 24⟩ [] htab (fun z hz => absurd hz List.not_mem_nil) (by decide) (by decide) (hC.2.2.2.2 _ wq_1003) (hR.2.2.2.2.1.use wx_834) h1 h2 h3 ?_
    refine lv_astore_n (lv' := [(3, .ref q9), (0, .ref (a 90)), (1, .int x1), (2, .ref (ow))]) hx hb dL_count_12 rfl hl (by decide) rfl (fun ls hl => ?_)
    refine lv_iconst (v := 1) hx hb dL_count_13 (by decide) ?_
    refine W.widen (k := 1) (n := 6) (Nat.le_of_ble_eq_true rfl) (Nat.le_of_ble_eq_true rfl) ?_
    exact hret 14 _ _ _ _ (ap, bp, rp, C, T, G, P, Y, L, B, X) hm hT rfl dL_count_14
  have hT : TS vwCl D (LX Z a t b q q2 ow ap bp rp C T G P Y L B X) A s.heap H locs := hT
  refine lv_i2l (v := r_4.toInt64) hx hb dL_count_7 rfl ?_
  refine sLX_out hC hK hT hm.1 dL_count_8 (fun X_8 eX_8 H locs hT => ?_)
  have hm := hm.2 X_8 eX_8
  refine lv_goto (tgt := 15) hx hb dL_count_9 (by decide) ?_
  refine lv_iconst (v := 0) hx hb dL_count_15 (by decide) ?_
  refine W.widen (k := 1) (n := 6) (Nat.le_of_ble_eq_true rfl) (Nat.le_of_ble_eq_true rfl) ?_
  exact hret 16 _ _ _ _ (ap, bp, rp, C, T, G, P, Y, L, B, X_8) hm hT rfl dL_count_16
section LL_count
variable {p : Program} {l : Launch} {e : Env} {s : State} {m : MethodId} {args : Array Value} {below : List Frame} {meth : Method} {c : Code} {H H0 : Heap} {locs : List Loc} {cells slots : Nat} {Q : State → Prop} {R : Room} {rn mcR msR : Nat}
variable {pc : Nat} {ls : Array Slot} {rest : List Value} {A : Nat → Prop} {D : va_G}
variable {cc : ByteArray} {nL index : Nat} {own host : String}
theorem kl_L_count {rx : Nat → Nat} {Z : Nat → ClassId} {a t b q q2 : Nat → Nat} {ow : Nat} {ap : Nat} {bp : Nat} {rp : Nat} {C : M2} {T : M2} {G : M2} {P : M2} {Y : M2} {L : L2} {B : M2} {X : L2} {x1 : Int32} {K : Int32 → Nat → Nat → Nat → M2 → M2 → M2 → M2 → M2 → L2 → M2 → L2 → Prop} {ws wr : va_W} {isC isR pm : List Nat} {ws' : Nat × Nat × Nat × M2 × M2 × M2 × M2 × M2 × L2 × M2 × L2 → va_W} (hC : CallFix p m c cc nL s args lw_g own) (hN : NW s) (hfl : l.stackTraces = false) (hR : RXD rx (va_A ws H.size) s H) (hK : va_K D vwCl (tysG Z) s) (hT : TS vwCl D ws A H0 H locs) (hc : Cut ws (fun u : Nat × Nat × Nat × M2 × M2 × M2 × M2 × M2 × L2 × M2 × L2 => LX Z a t b q q2 ow u.1 u.2.1 u.2.2.1 u.2.2.2.1 u.2.2.2.2.1 u.2.2.2.2.2.1 u.2.2.2.2.2.2.1 u.2.2.2.2.2.2.2.1 u.2.2.2.2.2.2.2.2.1 u.2.2.2.2.2.2.2.2.2.1 u.2.2.2.2.2.2.2.2.2.2) (ap, bp, rp, C, T, G, P, Y, L, B, X) wr isC isR pm ws') (hnd : va_nd isC = true) (hm : wp_L_count q ap bp rp C T G P Y L B X x1 K) (hl : Cond.methodLink own index yL_count ∈ lw_g) (hlt : 8 < rn) (hsize : ls.size = nL) (hW : (rest.map fun v => v.category).sum ≤ 8) (hf : cells + 1 ≤ mcR ∧ slots + 6 ≤ msR) (hdg : decode cc pc = .ok (.invokestatic index, 3))
    (kk : ∀ (r : Int32) (ap1 : Nat) (bp1 : Nat) (rp1 : Nat) (C1 : M2) (T1 : M2) (G1 : M2) (P1 : M2) (Y1 : M2) (L1 : L2) (B1 : M2) (X1 : L2) (H1 : Heap) (locs1 : List Loc), K r ap1 bp1 rp1 C1 T1 G1 P1 Y1 L1 B1 X1 → TS vwCl D (ws' (ap1, bp1, rp1, C1, T1, G1, P1, Y1, L1, B1, X1)) A H0 H1 locs1 → W p l e (rk rn mcR msR) s m args below meth c H1 locs1 (cells + 1) (slots + 6) Q (F0 m (pc + 3) ls (.int r :: rest))) : W p l e (rk rn mcR msR) s m args below meth c H locs cells slots Q (F0 m pc ls (.ref (ow) :: .int x1 :: .ref (a 90) :: rest)) :=
  rw_go (wsF := (fun u : Nat × Nat × Nat × M2 × M2 × M2 × M2 × M2 × L2 × M2 × L2 => LX Z a t b q q2 ow u.1 u.2.1 u.2.2.1 u.2.2.2.1 u.2.2.2.2.1 u.2.2.2.2.2.1 u.2.2.2.2.2.2.1 u.2.2.2.2.2.2.2.1 u.2.2.2.2.2.2.2.2.1 u.2.2.2.2.2.2.2.2.2.1 u.2.2.2.2.2.2.2.2.2.2)) (u0 := (ap, bp, rp, C, T, G, P, Y, L, B, X)) (K := (fun (r : Int32) (u : Nat × Nat × Nat × M2 × M2 × M2 × M2 × M2 × L2 × M2 × L2) => K r u.1 u.2.1 u.2.2.1 u.2.2.2.1 u.2.2.2.2.1 u.2.2.2.2.2.1 u.2.2.2.2.2.2.1 u.2.2.2.2.2.2.2.1 u.2.2.2.2.2.2.2.2.1 u.2.2.2.2.2.2.2.2.2.1 u.2.2.2.2.2.2.2.2.2.2)) (wr := wr) (isC := isC) (isR := isR) (pm := pm) (ws' := ws') (runSH (As := [.ref (a 90), .int x1, .ref (ow)]) hC hN (hR.sub hc.1) (c_L_count l hfl D rx Z a t b q q2 ow H.size ap bp rp C T G P Y L B X x1 K hm) mi_L_count hl hlt (hT.1.sub isC (map_fm hc.1)) (hT.D'.sub isC hnd hc.1) hK rfl hsize rfl hW hdg hf) hc hT (fun r u H1 locs1 hk hT1 => kk r u.1 u.2.1 u.2.2.1 u.2.2.2.1 u.2.2.2.2.1 u.2.2.2.2.2.1 u.2.2.2.2.2.2.1 u.2.2.2.2.2.2.2.1 u.2.2.2.2.2.2.2.2.1 u.2.2.2.2.2.2.2.2.2.1 u.2.2.2.2.2.2.2.2.2.2 H1 locs1 hk hT1)
end LL_count
def wp_L_place (q : Nat → Nat) (ap : Nat) (bp : Nat) (rp : Nat) (C : M2) (T : M2) (G : M2) (P : M2) (Y : M2) (L : L2) (B : M2) (X : L2) (x1 : Int32) (x2 : Int32) (K : Int32 → Nat → Nat → Nat → M2 → M2 → M2 → M2 → M2 → L2 → M2 → L2 → Prop) : Prop := wp_X5_place P (fun k_ => (k_ = 2 ∧ K 1 ap bp rp C T G P Y L B X)) T C x1 x2 (fun r_5 => (inb 0 1 ∧ ∀ X_9 : L2, X_9 = ul2 X 500 (vp_updL (X 500) (0 : Int32).toInt.toNat r_5.toInt64) → K 0 ap bp rp C T G P Y L B X_9))
set_option maxRecDepth 100000 in
set_option maxHeartbeats 4000000 in
theorem c_L_place (l : Launch) (hfl : l.stackTraces = false) (D : va_G) (rx : Nat → Nat) (Z : Nat → ClassId) (a t b q q2 : Nat → Nat) (ow : Nat) (sz : Nat) (ap : Nat) (bp : Nat) (rp : Nat) (C : M2) (T : M2) (G : M2) (P : M2) (Y : M2) (L : L2) (B : M2) (X : L2) (x1 : Int32) (x2 : Int32) (K : Int32 → Nat → Nat → Nat → M2 → M2 → M2 → M2 → M2 → L2 → M2 → L2 → Prop) (hm : wp_L_place q ap bp rp C T G P Y L B X x1 x2 K) : Met l yL_place (wyh yL_place cL_place 5 (some .int) [(0, 10, 13, 24)]) (rk 8 2 12) (preX vwCl D Z rx (LX Z a t b q q2 ow ap bp rp C T G P Y L B X) sz [.ref (a 90), .int x1, .int x2, .ref (ow)]) (poI vwCl D Z (fun u : Nat × Nat × Nat × M2 × M2 × M2 × M2 × M2 × L2 × M2 × L2 => LX Z a t b q q2 ow u.1 u.2.1 u.2.2.1 u.2.2.2.1 u.2.2.2.2.1 u.2.2.2.2.2.1 u.2.2.2.2.2.2.1 u.2.2.2.2.2.2.2.1 u.2.2.2.2.2.2.2.2.1 u.2.2.2.2.2.2.2.2.2.1 u.2.2.2.2.2.2.2.2.2.2) (ap, bp, rp, C, T, G, P, Y, L, B, X) sz (fun (r : Int32) (u : Nat × Nat × Nat × M2 × M2 × M2 × M2 × M2 × L2 × M2 × L2) => K r u.1 u.2.1 u.2.2.1 u.2.2.2.1 u.2.2.2.2.1 u.2.2.2.2.2.1 u.2.2.2.2.2.2.1 u.2.2.2.2.2.2.2.1 u.2.2.2.2.2.2.2.2.1 u.2.2.2.2.2.2.2.2.2.1 u.2.2.2.2.2.2.2.2.2.2)) 2 12 (va_A (LX Z a t b q q2 ow ap bp rp C T G P Y L B X) sz) := by
  refine rw_ofH (ty := .int) (wsF := (fun u : Nat × Nat × Nat × M2 × M2 × M2 × M2 × M2 × L2 × M2 × L2 => LX Z a t b q q2 ow u.1 u.2.1 u.2.2.1 u.2.2.2.1 u.2.2.2.2.1 u.2.2.2.2.2.1 u.2.2.2.2.2.2.1 u.2.2.2.2.2.2.2.1 u.2.2.2.2.2.2.2.2.1 u.2.2.2.2.2.2.2.2.2.1 u.2.2.2.2.2.2.2.2.2.2)) (u0 := (ap, bp, rp, C, T, G, P, Y, L, B, X)) (by decide +kernel) (Nat.le_of_ble_eq_true rfl) rfl ?_
  intro p e s m args below meth c Q A hC hN hR hsz htab hT hK hret ls hl
  have hx := hC.1
  have hb := hC.2.1
  have hl : lv_has ls 5 [(0, .ref (a 90)), (1, .int x1), (2, .int x2), (3, .ref (ow))] := hl
  have hT : TS vwCl D (LX Z a t b q q2 ow ap bp rp C T G P Y L B X) A s.heap s.heap [] := hT
  refine lv_aload_n hx hb dL_place_0 rfl (lv_at hl 3 rfl) ?_
  refine lv_iconst (v := 0) hx hb dL_place_1 (by decide) ?_
  refine lv_aload_n hx hb dL_place_2 rfl (lv_at hl 0 rfl) ?_
  refine lv_iload_n hx hb dL_place_3 rfl (lv_at hl 1 rfl) ?_
  refine lv_iload_n hx hb dL_place_4 rfl (lv_at hl 2 rfl) ?_
  refine xk_X5_place hC hN hfl (hT.rxd hR) hK hT (cxu_CQLX Z a t b q q2 ow ap bp rp C T G P Y L B X) rfl hm wq_1008 (by decide) hl.1 (Nat.le_of_ble_eq_true rfl) ⟨(Nat.le_of_ble_eq_true rfl), (Nat.le_of_ble_eq_true rfl)⟩ dL_place_5 (fun k ce q9 H locs hk hT h1 h2 h3 => ?_) (fun r_5 H locs hm hT => ?_)
  · obtain ⟨e_, hm⟩ := hk
    subst e_
    refine vx_catch (own := RL) (name := "java/lang/IndexOutOfBoundsException") hC.2.2.2.1 [] ⟨0, 10, 13, 24⟩ [] htab (fun z hz => absurd hz List.not_mem_nil) (by decide) (by decide) (hC.2.2.2.2 _ wq_1003) (hR.2.2.2.2.1.use wx_834) h1 h2 h3 ?_
    refine lv_astore (lv' := [(4, .ref q9), (0, .ref (a 90)), (1, .int x1), (2, .int x2), (3, .ref (ow))]) hx hb dL_place_13 hl (by decide) rfl (fun ls hl => ?_)
    refine lv_iconst (v := 1) hx hb dL_place_15 (by decide) ?_
    refine W.widen (k := 2) (n := 12) (Nat.le_of_ble_eq_true rfl) (Nat.le_of_ble_eq_true rfl) ?_
    exact hret 16 _ _ _ _ (ap, bp, rp, C, T, G, P, Y, L, B, X) hm hT rfl dL_place_16
  have hT : TS vwCl D (LX Z a t b q q2 ow ap bp rp C T G P Y L B X) A s.heap H locs := hT
  refine lv_i2l (v := r_5.toInt64) hx hb dL_place_8 rfl ?_
  refine sLX_out hC hK hT hm.1 dL_place_9 (fun X_9 eX_9 H locs hT => ?_)
  have hm := hm.2 X_9 eX_9
  refine lv_goto (tgt := 17) hx hb dL_place_10 (by decide) ?_
  refine lv_iconst (v := 0) hx hb dL_place_17 (by decide) ?_
  refine W.widen (k := 2) (n := 12) (Nat.le_of_ble_eq_true rfl) (Nat.le_of_ble_eq_true rfl) ?_
  exact hret 18 _ _ _ _ (ap, bp, rp, C, T, G, P, Y, L, B, X_9) hm hT rfl dL_place_18
section LL_place
variable {p : Program} {l : Launch} {e : Env} {s : State} {m : MethodId} {args : Array Value} {below : List Frame} {meth : Method} {c : Code} {H H0 : Heap} {locs : List Loc} {cells slots : Nat} {Q : State → Prop} {R : Room} {rn mcR msR : Nat}
variable {pc : Nat} {ls : Array Slot} {rest : List Value} {A : Nat → Prop} {D : va_G}
variable {cc : ByteArray} {nL index : Nat} {own host : String}
theorem kl_L_place {rx : Nat → Nat} {Z : Nat → ClassId} {a t b q q2 : Nat → Nat} {ow : Nat} {ap : Nat} {bp : Nat} {rp : Nat} {C : M2} {T : M2} {G : M2} {P : M2} {Y : M2} {L : L2} {B : M2} {X : L2} {x1 : Int32} {x2 : Int32} {K : Int32 → Nat → Nat → Nat → M2 → M2 → M2 → M2 → M2 → L2 → M2 → L2 → Prop} {ws wr : va_W} {isC isR pm : List Nat} {ws' : Nat × Nat × Nat × M2 × M2 × M2 × M2 × M2 × L2 × M2 × L2 → va_W} (hC : CallFix p m c cc nL s args lw_g own) (hN : NW s) (hfl : l.stackTraces = false) (hR : RXD rx (va_A ws H.size) s H) (hK : va_K D vwCl (tysG Z) s) (hT : TS vwCl D ws A H0 H locs) (hc : Cut ws (fun u : Nat × Nat × Nat × M2 × M2 × M2 × M2 × M2 × L2 × M2 × L2 => LX Z a t b q q2 ow u.1 u.2.1 u.2.2.1 u.2.2.2.1 u.2.2.2.2.1 u.2.2.2.2.2.1 u.2.2.2.2.2.2.1 u.2.2.2.2.2.2.2.1 u.2.2.2.2.2.2.2.2.1 u.2.2.2.2.2.2.2.2.2.1 u.2.2.2.2.2.2.2.2.2.2) (ap, bp, rp, C, T, G, P, Y, L, B, X) wr isC isR pm ws') (hnd : va_nd isC = true) (hm : wp_L_place q ap bp rp C T G P Y L B X x1 x2 K) (hl : Cond.methodLink own index yL_place ∈ lw_g) (hlt : 8 < rn) (hsize : ls.size = nL) (hW : (rest.map fun v => v.category).sum ≤ 8) (hf : cells + 2 ≤ mcR ∧ slots + 12 ≤ msR) (hdg : decode cc pc = .ok (.invokestatic index, 3))
    (kk : ∀ (r : Int32) (ap1 : Nat) (bp1 : Nat) (rp1 : Nat) (C1 : M2) (T1 : M2) (G1 : M2) (P1 : M2) (Y1 : M2) (L1 : L2) (B1 : M2) (X1 : L2) (H1 : Heap) (locs1 : List Loc), K r ap1 bp1 rp1 C1 T1 G1 P1 Y1 L1 B1 X1 → TS vwCl D (ws' (ap1, bp1, rp1, C1, T1, G1, P1, Y1, L1, B1, X1)) A H0 H1 locs1 → W p l e (rk rn mcR msR) s m args below meth c H1 locs1 (cells + 2) (slots + 12) Q (F0 m (pc + 3) ls (.int r :: rest))) : W p l e (rk rn mcR msR) s m args below meth c H locs cells slots Q (F0 m pc ls (.ref (ow) :: .int x2 :: .int x1 :: .ref (a 90) :: rest)) :=
  rw_go (wsF := (fun u : Nat × Nat × Nat × M2 × M2 × M2 × M2 × M2 × L2 × M2 × L2 => LX Z a t b q q2 ow u.1 u.2.1 u.2.2.1 u.2.2.2.1 u.2.2.2.2.1 u.2.2.2.2.2.1 u.2.2.2.2.2.2.1 u.2.2.2.2.2.2.2.1 u.2.2.2.2.2.2.2.2.1 u.2.2.2.2.2.2.2.2.2.1 u.2.2.2.2.2.2.2.2.2.2)) (u0 := (ap, bp, rp, C, T, G, P, Y, L, B, X)) (K := (fun (r : Int32) (u : Nat × Nat × Nat × M2 × M2 × M2 × M2 × M2 × L2 × M2 × L2) => K r u.1 u.2.1 u.2.2.1 u.2.2.2.1 u.2.2.2.2.1 u.2.2.2.2.2.1 u.2.2.2.2.2.2.1 u.2.2.2.2.2.2.2.1 u.2.2.2.2.2.2.2.2.1 u.2.2.2.2.2.2.2.2.2.1 u.2.2.2.2.2.2.2.2.2.2)) (wr := wr) (isC := isC) (isR := isR) (pm := pm) (ws' := ws') (runSH (As := [.ref (a 90), .int x1, .int x2, .ref (ow)]) hC hN (hR.sub hc.1) (c_L_place l hfl D rx Z a t b q q2 ow H.size ap bp rp C T G P Y L B X x1 x2 K hm) mi_L_place hl hlt (hT.1.sub isC (map_fm hc.1)) (hT.D'.sub isC hnd hc.1) hK rfl hsize rfl hW hdg hf) hc hT (fun r u H1 locs1 hk hT1 => kk r u.1 u.2.1 u.2.2.1 u.2.2.2.1 u.2.2.2.2.1 u.2.2.2.2.2.1 u.2.2.2.2.2.2.1 u.2.2.2.2.2.2.2.1 u.2.2.2.2.2.2.2.2.1 u.2.2.2.2.2.2.2.2.2.1 u.2.2.2.2.2.2.2.2.2.2 H1 locs1 hk hT1)
end LL_place
def wp_L_bore (q : Nat → Nat) (ap : Nat) (bp : Nat) (rp : Nat) (C : M2) (T : M2) (G : M2) (P : M2) (Y : M2) (L : L2) (B : M2) (X : L2) (x1 : Int32) (x2 : Int32) (K : Int32 → Nat → Nat → Nat → M2 → M2 → M2 → M2 → M2 → L2 → M2 → L2 → Prop) : Prop := wp_X5_bore P (fun k_ => (k_ = 2 ∧ K 1 ap bp rp C T G P Y L B X)) T C x1 x2 (fun r_5 => (inb 0 1 ∧ ∀ X_9 : L2, X_9 = ul2 X 500 (vp_updL (X 500) (0 : Int32).toInt.toNat r_5.toInt64) → K 0 ap bp rp C T G P Y L B X_9))
set_option maxRecDepth 100000 in
set_option maxHeartbeats 4000000 in
theorem c_L_bore (l : Launch) (hfl : l.stackTraces = false) (D : va_G) (rx : Nat → Nat) (Z : Nat → ClassId) (a t b q q2 : Nat → Nat) (ow : Nat) (sz : Nat) (ap : Nat) (bp : Nat) (rp : Nat) (C : M2) (T : M2) (G : M2) (P : M2) (Y : M2) (L : L2) (B : M2) (X : L2) (x1 : Int32) (x2 : Int32) (K : Int32 → Nat → Nat → Nat → M2 → M2 → M2 → M2 → M2 → L2 → M2 → L2 → Prop) (hm : wp_L_bore q ap bp rp C T G P Y L B X x1 x2 K) : Met l yL_bore (wyh yL_bore cL_bore 5 (some .int) [(0, 10, 13, 24)]) (rk 8 2 12) (preX vwCl D Z rx (LX Z a t b q q2 ow ap bp rp C T G P Y L B X) sz [.ref (a 90), .int x1, .int x2, .ref (ow)]) (poI vwCl D Z (fun u : Nat × Nat × Nat × M2 × M2 × M2 × M2 × M2 × L2 × M2 × L2 => LX Z a t b q q2 ow u.1 u.2.1 u.2.2.1 u.2.2.2.1 u.2.2.2.2.1 u.2.2.2.2.2.1 u.2.2.2.2.2.2.1 u.2.2.2.2.2.2.2.1 u.2.2.2.2.2.2.2.2.1 u.2.2.2.2.2.2.2.2.2.1 u.2.2.2.2.2.2.2.2.2.2) (ap, bp, rp, C, T, G, P, Y, L, B, X) sz (fun (r : Int32) (u : Nat × Nat × Nat × M2 × M2 × M2 × M2 × M2 × L2 × M2 × L2) => K r u.1 u.2.1 u.2.2.1 u.2.2.2.1 u.2.2.2.2.1 u.2.2.2.2.2.1 u.2.2.2.2.2.2.1 u.2.2.2.2.2.2.2.1 u.2.2.2.2.2.2.2.2.1 u.2.2.2.2.2.2.2.2.2.1 u.2.2.2.2.2.2.2.2.2.2)) 2 12 (va_A (LX Z a t b q q2 ow ap bp rp C T G P Y L B X) sz) := by
  refine rw_ofH (ty := .int) (wsF := (fun u : Nat × Nat × Nat × M2 × M2 × M2 × M2 × M2 × L2 × M2 × L2 => LX Z a t b q q2 ow u.1 u.2.1 u.2.2.1 u.2.2.2.1 u.2.2.2.2.1 u.2.2.2.2.2.1 u.2.2.2.2.2.2.1 u.2.2.2.2.2.2.2.1 u.2.2.2.2.2.2.2.2.1 u.2.2.2.2.2.2.2.2.2.1 u.2.2.2.2.2.2.2.2.2.2)) (u0 := (ap, bp, rp, C, T, G, P, Y, L, B, X)) (by decide +kernel) (Nat.le_of_ble_eq_true rfl) rfl ?_
  intro p e s m args below meth c Q A hC hN hR hsz htab hT hK hret ls hl
  have hx := hC.1
  have hb := hC.2.1
  have hl : lv_has ls 5 [(0, .ref (a 90)), (1, .int x1), (2, .int x2), (3, .ref (ow))] := hl
  have hT : TS vwCl D (LX Z a t b q q2 ow ap bp rp C T G P Y L B X) A s.heap s.heap [] := hT
  refine lv_aload_n hx hb dL_bore_0 rfl (lv_at hl 3 rfl) ?_
  refine lv_iconst (v := 0) hx hb dL_bore_1 (by decide) ?_
  refine lv_aload_n hx hb dL_bore_2 rfl (lv_at hl 0 rfl) ?_
  refine lv_iload_n hx hb dL_bore_3 rfl (lv_at hl 1 rfl) ?_
  refine lv_iload_n hx hb dL_bore_4 rfl (lv_at hl 2 rfl) ?_
  refine xk_X5_bore hC hN hfl (hT.rxd hR) hK hT (cxu_CQLX Z a t b q q2 ow ap bp rp C T G P Y L B X) rfl hm wq_1012 (by decide) hl.1 (Nat.le_of_ble_eq_true rfl) ⟨(Nat.le_of_ble_eq_true rfl), (Nat.le_of_ble_eq_true rfl)⟩ dL_bore_5 (fun k ce q9 H locs hk hT h1 h2 h3 => ?_) (fun r_5 H locs hm hT => ?_)
  · obtain ⟨e_, hm⟩ := hk
    subst e_
    refine vx_catch (own := RL) (name := "java/lang/IndexOutOfBoundsException") hC.2.2.2.1 [] ⟨0, 10, 13, 24⟩ [] htab (fun z hz => absurd hz List.not_mem_nil) (by decide) (by decide) (hC.2.2.2.2 _ wq_1003) (hR.2.2.2.2.1.use wx_834) h1 h2 h3 ?_
    refine lv_astore (lv' := [(4, .ref q9), (0, .ref (a 90)), (1, .int x1), (2, .int x2), (3, .ref (ow))]) hx hb dL_bore_13 hl (by decide) rfl (fun ls hl => ?_)
    refine lv_iconst (v := 1) hx hb dL_bore_15 (by decide) ?_
    refine W.widen (k := 2) (n := 12) (Nat.le_of_ble_eq_true rfl) (Nat.le_of_ble_eq_true rfl) ?_
    exact hret 16 _ _ _ _ (ap, bp, rp, C, T, G, P, Y, L, B, X) hm hT rfl dL_bore_16
  have hT : TS vwCl D (LX Z a t b q q2 ow ap bp rp C T G P Y L B X) A s.heap H locs := hT
  refine lv_i2l (v := r_5.toInt64) hx hb dL_bore_8 rfl ?_
  refine sLX_out hC hK hT hm.1 dL_bore_9 (fun X_9 eX_9 H locs hT => ?_)
  have hm := hm.2 X_9 eX_9
  refine lv_goto (tgt := 17) hx hb dL_bore_10 (by decide) ?_
  refine lv_iconst (v := 0) hx hb dL_bore_17 (by decide) ?_
  refine W.widen (k := 2) (n := 12) (Nat.le_of_ble_eq_true rfl) (Nat.le_of_ble_eq_true rfl) ?_
  exact hret 18 _ _ _ _ (ap, bp, rp, C, T, G, P, Y, L, B, X_9) hm hT rfl dL_bore_18
section LL_bore
variable {p : Program} {l : Launch} {e : Env} {s : State} {m : MethodId} {args : Array Value} {below : List Frame} {meth : Method} {c : Code} {H H0 : Heap} {locs : List Loc} {cells slots : Nat} {Q : State → Prop} {R : Room} {rn mcR msR : Nat}
variable {pc : Nat} {ls : Array Slot} {rest : List Value} {A : Nat → Prop} {D : va_G}
variable {cc : ByteArray} {nL index : Nat} {own host : String}
theorem kl_L_bore {rx : Nat → Nat} {Z : Nat → ClassId} {a t b q q2 : Nat → Nat} {ow : Nat} {ap : Nat} {bp : Nat} {rp : Nat} {C : M2} {T : M2} {G : M2} {P : M2} {Y : M2} {L : L2} {B : M2} {X : L2} {x1 : Int32} {x2 : Int32} {K : Int32 → Nat → Nat → Nat → M2 → M2 → M2 → M2 → M2 → L2 → M2 → L2 → Prop} {ws wr : va_W} {isC isR pm : List Nat} {ws' : Nat × Nat × Nat × M2 × M2 × M2 × M2 × M2 × L2 × M2 × L2 → va_W} (hC : CallFix p m c cc nL s args lw_g own) (hN : NW s) (hfl : l.stackTraces = false) (hR : RXD rx (va_A ws H.size) s H) (hK : va_K D vwCl (tysG Z) s) (hT : TS vwCl D ws A H0 H locs) (hc : Cut ws (fun u : Nat × Nat × Nat × M2 × M2 × M2 × M2 × M2 × L2 × M2 × L2 => LX Z a t b q q2 ow u.1 u.2.1 u.2.2.1 u.2.2.2.1 u.2.2.2.2.1 u.2.2.2.2.2.1 u.2.2.2.2.2.2.1 u.2.2.2.2.2.2.2.1 u.2.2.2.2.2.2.2.2.1 u.2.2.2.2.2.2.2.2.2.1 u.2.2.2.2.2.2.2.2.2.2) (ap, bp, rp, C, T, G, P, Y, L, B, X) wr isC isR pm ws') (hnd : va_nd isC = true) (hm : wp_L_bore q ap bp rp C T G P Y L B X x1 x2 K) (hl : Cond.methodLink own index yL_bore ∈ lw_g) (hlt : 8 < rn) (hsize : ls.size = nL) (hW : (rest.map fun v => v.category).sum ≤ 8) (hf : cells + 2 ≤ mcR ∧ slots + 12 ≤ msR) (hdg : decode cc pc = .ok (.invokestatic index, 3))
    (kk : ∀ (r : Int32) (ap1 : Nat) (bp1 : Nat) (rp1 : Nat) (C1 : M2) (T1 : M2) (G1 : M2) (P1 : M2) (Y1 : M2) (L1 : L2) (B1 : M2) (X1 : L2) (H1 : Heap) (locs1 : List Loc), K r ap1 bp1 rp1 C1 T1 G1 P1 Y1 L1 B1 X1 → TS vwCl D (ws' (ap1, bp1, rp1, C1, T1, G1, P1, Y1, L1, B1, X1)) A H0 H1 locs1 → W p l e (rk rn mcR msR) s m args below meth c H1 locs1 (cells + 2) (slots + 12) Q (F0 m (pc + 3) ls (.int r :: rest))) : W p l e (rk rn mcR msR) s m args below meth c H locs cells slots Q (F0 m pc ls (.ref (ow) :: .int x2 :: .int x1 :: .ref (a 90) :: rest)) :=
  rw_go (wsF := (fun u : Nat × Nat × Nat × M2 × M2 × M2 × M2 × M2 × L2 × M2 × L2 => LX Z a t b q q2 ow u.1 u.2.1 u.2.2.1 u.2.2.2.1 u.2.2.2.2.1 u.2.2.2.2.2.1 u.2.2.2.2.2.2.1 u.2.2.2.2.2.2.2.1 u.2.2.2.2.2.2.2.2.1 u.2.2.2.2.2.2.2.2.2.1 u.2.2.2.2.2.2.2.2.2.2)) (u0 := (ap, bp, rp, C, T, G, P, Y, L, B, X)) (K := (fun (r : Int32) (u : Nat × Nat × Nat × M2 × M2 × M2 × M2 × M2 × L2 × M2 × L2) => K r u.1 u.2.1 u.2.2.1 u.2.2.2.1 u.2.2.2.2.1 u.2.2.2.2.2.1 u.2.2.2.2.2.2.1 u.2.2.2.2.2.2.2.1 u.2.2.2.2.2.2.2.2.1 u.2.2.2.2.2.2.2.2.2.1 u.2.2.2.2.2.2.2.2.2.2)) (wr := wr) (isC := isC) (isR := isR) (pm := pm) (ws' := ws') (runSH (As := [.ref (a 90), .int x1, .int x2, .ref (ow)]) hC hN (hR.sub hc.1) (c_L_bore l hfl D rx Z a t b q q2 ow H.size ap bp rp C T G P Y L B X x1 x2 K hm) mi_L_bore hl hlt (hT.1.sub isC (map_fm hc.1)) (hT.D'.sub isC hnd hc.1) hK rfl hsize rfl hW hdg hf) hc hT (fun r u H1 locs1 hk hT1 => kk r u.1 u.2.1 u.2.2.1 u.2.2.2.1 u.2.2.2.2.1 u.2.2.2.2.2.1 u.2.2.2.2.2.2.1 u.2.2.2.2.2.2.2.1 u.2.2.2.2.2.2.2.2.1 u.2.2.2.2.2.2.2.2.2.1 u.2.2.2.2.2.2.2.2.2.2 H1 locs1 hk hT1)
end LL_bore
def wp_L_legger (q : Nat → Nat) (ap : Nat) (bp : Nat) (rp : Nat) (C : M2) (T : M2) (G : M2) (P : M2) (Y : M2) (L : L2) (B : M2) (X : L2) (x1 : Int32) (x2 : Int32) (K : Int32 → Nat → Nat → Nat → M2 → M2 → M2 → M2 → M2 → L2 → M2 → L2 → Prop) : Prop := wp_X5_legger P (fun k_ => (k_ = 2 ∧ K 1 ap bp rp C T G P Y L B X)) T C x1 x2 (fun r_5 => (inb 0 1 ∧ ∀ X_9 : L2, X_9 = ul2 X 500 (vp_updL (X 500) (0 : Int32).toInt.toNat r_5.toInt64) → K 0 ap bp rp C T G P Y L B X_9))
set_option maxRecDepth 100000 in
set_option maxHeartbeats 4000000 in
theorem c_L_legger (l : Launch) (hfl : l.stackTraces = false) (D : va_G) (rx : Nat → Nat) (Z : Nat → ClassId) (a t b q q2 : Nat → Nat) (ow : Nat) (sz : Nat) (ap : Nat) (bp : Nat) (rp : Nat) (C : M2) (T : M2) (G : M2) (P : M2) (Y : M2) (L : L2) (B : M2) (X : L2) (x1 : Int32) (x2 : Int32) (K : Int32 → Nat → Nat → Nat → M2 → M2 → M2 → M2 → M2 → L2 → M2 → L2 → Prop) (hm : wp_L_legger q ap bp rp C T G P Y L B X x1 x2 K) : Met l yL_legger (wyh yL_legger cL_legger 5 (some .int) [(0, 10, 13, 24)]) (rk 8 2 12) (preX vwCl D Z rx (LX Z a t b q q2 ow ap bp rp C T G P Y L B X) sz [.ref (a 90), .int x1, .int x2, .ref (ow)]) (poI vwCl D Z (fun u : Nat × Nat × Nat × M2 × M2 × M2 × M2 × M2 × L2 × M2 × L2 => LX Z a t b q q2 ow u.1 u.2.1 u.2.2.1 u.2.2.2.1 u.2.2.2.2.1 u.2.2.2.2.2.1 u.2.2.2.2.2.2.1 u.2.2.2.2.2.2.2.1 u.2.2.2.2.2.2.2.2.1 u.2.2.2.2.2.2.2.2.2.1 u.2.2.2.2.2.2.2.2.2.2) (ap, bp, rp, C, T, G, P, Y, L, B, X) sz (fun (r : Int32) (u : Nat × Nat × Nat × M2 × M2 × M2 × M2 × M2 × L2 × M2 × L2) => K r u.1 u.2.1 u.2.2.1 u.2.2.2.1 u.2.2.2.2.1 u.2.2.2.2.2.1 u.2.2.2.2.2.2.1 u.2.2.2.2.2.2.2.1 u.2.2.2.2.2.2.2.2.1 u.2.2.2.2.2.2.2.2.2.1 u.2.2.2.2.2.2.2.2.2.2)) 2 12 (va_A (LX Z a t b q q2 ow ap bp rp C T G P Y L B X) sz) := by
  refine rw_ofH (ty := .int) (wsF := (fun u : Nat × Nat × Nat × M2 × M2 × M2 × M2 × M2 × L2 × M2 × L2 => LX Z a t b q q2 ow u.1 u.2.1 u.2.2.1 u.2.2.2.1 u.2.2.2.2.1 u.2.2.2.2.2.1 u.2.2.2.2.2.2.1 u.2.2.2.2.2.2.2.1 u.2.2.2.2.2.2.2.2.1 u.2.2.2.2.2.2.2.2.2.1 u.2.2.2.2.2.2.2.2.2.2)) (u0 := (ap, bp, rp, C, T, G, P, Y, L, B, X)) (by decide +kernel) (Nat.le_of_ble_eq_true rfl) rfl ?_
  intro p e s m args below meth c Q A hC hN hR hsz htab hT hK hret ls hl
  have hx := hC.1
  have hb := hC.2.1
  have hl : lv_has ls 5 [(0, .ref (a 90)), (1, .int x1), (2, .int x2), (3, .ref (ow))] := hl
  have hT : TS vwCl D (LX Z a t b q q2 ow ap bp rp C T G P Y L B X) A s.heap s.heap [] := hT
  refine lv_aload_n hx hb dL_legger_0 rfl (lv_at hl 3 rfl) ?_
  refine lv_iconst (v := 0) hx hb dL_legger_1 (by decide) ?_
  refine lv_aload_n hx hb dL_legger_2 rfl (lv_at hl 0 rfl) ?_
  refine lv_iload_n hx hb dL_legger_3 rfl (lv_at hl 1 rfl) ?_
  refine lv_iload_n hx hb dL_legger_4 rfl (lv_at hl 2 rfl) ?_
  refine xk_X5_legger hC hN hfl (hT.rxd hR) hK hT (cxu_CQLX Z a t b q q2 ow ap bp rp C T G P Y L B X) rfl hm wq_1016 (by decide) hl.1 (Nat.le_of_ble_eq_true rfl) ⟨(Nat.le_of_ble_eq_true rfl), (Nat.le_of_ble_eq_true rfl)⟩ dL_legger_5 (fun k ce q9 H locs hk hT h1 h2 h3 => ?_) (fun r_5 H locs hm hT => ?_)
  · obtain ⟨e_, hm⟩ := hk
    subst e_
    refine vx_catch (own := RL) (name := "java/lang/IndexOutOfBoundsException") hC.2.2.2.1 [] ⟨0, 10, 13, 24⟩ [] htab (fun z hz => absurd hz List.not_mem_nil) (by decide) (by decide) (hC.2.2.2.2 _ wq_1003) (hR.2.2.2.2.1.use wx_834) h1 h2 h3 ?_
    refine lv_astore (lv' := [(4, .ref q9), (0, .ref (a 90)), (1, .int x1), (2, .int x2), (3, .ref (ow))]) hx hb dL_legger_13 hl (by decide) rfl (fun ls hl => ?_)
    refine lv_iconst (v := 1) hx hb dL_legger_15 (by decide) ?_
    refine W.widen (k := 2) (n := 12) (Nat.le_of_ble_eq_true rfl) (Nat.le_of_ble_eq_true rfl) ?_
    exact hret 16 _ _ _ _ (ap, bp, rp, C, T, G, P, Y, L, B, X) hm hT rfl dL_legger_16
  have hT : TS vwCl D (LX Z a t b q q2 ow ap bp rp C T G P Y L B X) A s.heap H locs := hT
  refine lv_i2l (v := r_5.toInt64) hx hb dL_legger_8 rfl ?_
  refine sLX_out hC hK hT hm.1 dL_legger_9 (fun X_9 eX_9 H locs hT => ?_)
  have hm := hm.2 X_9 eX_9
  refine lv_goto (tgt := 17) hx hb dL_legger_10 (by decide) ?_
  refine lv_iconst (v := 0) hx hb dL_legger_17 (by decide) ?_
  refine W.widen (k := 2) (n := 12) (Nat.le_of_ble_eq_true rfl) (Nat.le_of_ble_eq_true rfl) ?_
  exact hret 18 _ _ _ _ (ap, bp, rp, C, T, G, P, Y, L, B, X_9) hm hT rfl dL_legger_18
section LL_legger
variable {p : Program} {l : Launch} {e : Env} {s : State} {m : MethodId} {args : Array Value} {below : List Frame} {meth : Method} {c : Code} {H H0 : Heap} {locs : List Loc} {cells slots : Nat} {Q : State → Prop} {R : Room} {rn mcR msR : Nat}
variable {pc : Nat} {ls : Array Slot} {rest : List Value} {A : Nat → Prop} {D : va_G}
variable {cc : ByteArray} {nL index : Nat} {own host : String}
theorem kl_L_legger {rx : Nat → Nat} {Z : Nat → ClassId} {a t b q q2 : Nat → Nat} {ow : Nat} {ap : Nat} {bp : Nat} {rp : Nat} {C : M2} {T : M2} {G : M2} {P : M2} {Y : M2} {L : L2} {B : M2} {X : L2} {x1 : Int32} {x2 : Int32} {K : Int32 → Nat → Nat → Nat → M2 → M2 → M2 → M2 → M2 → L2 → M2 → L2 → Prop} {ws wr : va_W} {isC isR pm : List Nat} {ws' : Nat × Nat × Nat × M2 × M2 × M2 × M2 × M2 × L2 × M2 × L2 → va_W} (hC : CallFix p m c cc nL s args lw_g own) (hN : NW s) (hfl : l.stackTraces = false) (hR : RXD rx (va_A ws H.size) s H) (hK : va_K D vwCl (tysG Z) s) (hT : TS vwCl D ws A H0 H locs) (hc : Cut ws (fun u : Nat × Nat × Nat × M2 × M2 × M2 × M2 × M2 × L2 × M2 × L2 => LX Z a t b q q2 ow u.1 u.2.1 u.2.2.1 u.2.2.2.1 u.2.2.2.2.1 u.2.2.2.2.2.1 u.2.2.2.2.2.2.1 u.2.2.2.2.2.2.2.1 u.2.2.2.2.2.2.2.2.1 u.2.2.2.2.2.2.2.2.2.1 u.2.2.2.2.2.2.2.2.2.2) (ap, bp, rp, C, T, G, P, Y, L, B, X) wr isC isR pm ws') (hnd : va_nd isC = true) (hm : wp_L_legger q ap bp rp C T G P Y L B X x1 x2 K) (hl : Cond.methodLink own index yL_legger ∈ lw_g) (hlt : 8 < rn) (hsize : ls.size = nL) (hW : (rest.map fun v => v.category).sum ≤ 8) (hf : cells + 2 ≤ mcR ∧ slots + 12 ≤ msR) (hdg : decode cc pc = .ok (.invokestatic index, 3))
    (kk : ∀ (r : Int32) (ap1 : Nat) (bp1 : Nat) (rp1 : Nat) (C1 : M2) (T1 : M2) (G1 : M2) (P1 : M2) (Y1 : M2) (L1 : L2) (B1 : M2) (X1 : L2) (H1 : Heap) (locs1 : List Loc), K r ap1 bp1 rp1 C1 T1 G1 P1 Y1 L1 B1 X1 → TS vwCl D (ws' (ap1, bp1, rp1, C1, T1, G1, P1, Y1, L1, B1, X1)) A H0 H1 locs1 → W p l e (rk rn mcR msR) s m args below meth c H1 locs1 (cells + 2) (slots + 12) Q (F0 m (pc + 3) ls (.int r :: rest))) : W p l e (rk rn mcR msR) s m args below meth c H locs cells slots Q (F0 m pc ls (.ref (ow) :: .int x2 :: .int x1 :: .ref (a 90) :: rest)) :=
  rw_go (wsF := (fun u : Nat × Nat × Nat × M2 × M2 × M2 × M2 × M2 × L2 × M2 × L2 => LX Z a t b q q2 ow u.1 u.2.1 u.2.2.1 u.2.2.2.1 u.2.2.2.2.1 u.2.2.2.2.2.1 u.2.2.2.2.2.2.1 u.2.2.2.2.2.2.2.1 u.2.2.2.2.2.2.2.2.1 u.2.2.2.2.2.2.2.2.2.1 u.2.2.2.2.2.2.2.2.2.2)) (u0 := (ap, bp, rp, C, T, G, P, Y, L, B, X)) (K := (fun (r : Int32) (u : Nat × Nat × Nat × M2 × M2 × M2 × M2 × M2 × L2 × M2 × L2) => K r u.1 u.2.1 u.2.2.1 u.2.2.2.1 u.2.2.2.2.1 u.2.2.2.2.2.1 u.2.2.2.2.2.2.1 u.2.2.2.2.2.2.2.1 u.2.2.2.2.2.2.2.2.1 u.2.2.2.2.2.2.2.2.2.1 u.2.2.2.2.2.2.2.2.2.2)) (wr := wr) (isC := isC) (isR := isR) (pm := pm) (ws' := ws') (runSH (As := [.ref (a 90), .int x1, .int x2, .ref (ow)]) hC hN (hR.sub hc.1) (c_L_legger l hfl D rx Z a t b q q2 ow H.size ap bp rp C T G P Y L B X x1 x2 K hm) mi_L_legger hl hlt (hT.1.sub isC (map_fm hc.1)) (hT.D'.sub isC hnd hc.1) hK rfl hsize rfl hW hdg hf) hc hT (fun r u H1 locs1 hk hT1 => kk r u.1 u.2.1 u.2.2.1 u.2.2.2.1 u.2.2.2.2.1 u.2.2.2.2.2.1 u.2.2.2.2.2.2.1 u.2.2.2.2.2.2.2.1 u.2.2.2.2.2.2.2.2.1 u.2.2.2.2.2.2.2.2.2.1 u.2.2.2.2.2.2.2.2.2.2 H1 locs1 hk hT1)
end LL_legger
def wp_L_boat (q : Nat → Nat) (ap : Nat) (bp : Nat) (rp : Nat) (C : M2) (T : M2) (G : M2) (P : M2) (Y : M2) (L : L2) (B : M2) (X : L2) (x1 : Int32) (x2 : Int32) (K : Int32 → Nat → Nat → Nat → M2 → M2 → M2 → M2 → M2 → L2 → M2 → L2 → Prop) : Prop := wp_X5_boat P (fun k_ => (k_ = 2 ∧ K 1 ap bp rp C T G P Y L B X)) T C x1 x2 (fun r_5 => (inb 0 1 ∧ ∀ X_9 : L2, X_9 = ul2 X 500 (vp_updL (X 500) (0 : Int32).toInt.toNat r_5.toInt64) → K 0 ap bp rp C T G P Y L B X_9))
set_option maxRecDepth 100000 in
set_option maxHeartbeats 4000000 in
theorem c_L_boat (l : Launch) (hfl : l.stackTraces = false) (D : va_G) (rx : Nat → Nat) (Z : Nat → ClassId) (a t b q q2 : Nat → Nat) (ow : Nat) (sz : Nat) (ap : Nat) (bp : Nat) (rp : Nat) (C : M2) (T : M2) (G : M2) (P : M2) (Y : M2) (L : L2) (B : M2) (X : L2) (x1 : Int32) (x2 : Int32) (K : Int32 → Nat → Nat → Nat → M2 → M2 → M2 → M2 → M2 → L2 → M2 → L2 → Prop) (hm : wp_L_boat q ap bp rp C T G P Y L B X x1 x2 K) : Met l yL_boat (wyh yL_boat cL_boat 5 (some .int) [(0, 10, 13, 24)]) (rk 8 2 12) (preX vwCl D Z rx (LX Z a t b q q2 ow ap bp rp C T G P Y L B X) sz [.ref (a 90), .int x1, .int x2, .ref (ow)]) (poI vwCl D Z (fun u : Nat × Nat × Nat × M2 × M2 × M2 × M2 × M2 × L2 × M2 × L2 => LX Z a t b q q2 ow u.1 u.2.1 u.2.2.1 u.2.2.2.1 u.2.2.2.2.1 u.2.2.2.2.2.1 u.2.2.2.2.2.2.1 u.2.2.2.2.2.2.2.1 u.2.2.2.2.2.2.2.2.1 u.2.2.2.2.2.2.2.2.2.1 u.2.2.2.2.2.2.2.2.2.2) (ap, bp, rp, C, T, G, P, Y, L, B, X) sz (fun (r : Int32) (u : Nat × Nat × Nat × M2 × M2 × M2 × M2 × M2 × L2 × M2 × L2) => K r u.1 u.2.1 u.2.2.1 u.2.2.2.1 u.2.2.2.2.1 u.2.2.2.2.2.1 u.2.2.2.2.2.2.1 u.2.2.2.2.2.2.2.1 u.2.2.2.2.2.2.2.2.1 u.2.2.2.2.2.2.2.2.2.1 u.2.2.2.2.2.2.2.2.2.2)) 2 12 (va_A (LX Z a t b q q2 ow ap bp rp C T G P Y L B X) sz) := by
  refine rw_ofH (ty := .int) (wsF := (fun u : Nat × Nat × Nat × M2 × M2 × M2 × M2 × M2 × L2 × M2 × L2 => LX Z a t b q q2 ow u.1 u.2.1 u.2.2.1 u.2.2.2.1 u.2.2.2.2.1 u.2.2.2.2.2.1 u.2.2.2.2.2.2.1 u.2.2.2.2.2.2.2.1 u.2.2.2.2.2.2.2.2.1 u.2.2.2.2.2.2.2.2.2.1 u.2.2.2.2.2.2.2.2.2.2)) (u0 := (ap, bp, rp, C, T, G, P, Y, L, B, X)) (by decide +kernel) (Nat.le_of_ble_eq_true rfl) rfl ?_
  intro p e s m args below meth c Q A hC hN hR hsz htab hT hK hret ls hl
  have hx := hC.1
  have hb := hC.2.1
  have hl : lv_has ls 5 [(0, .ref (a 90)), (1, .int x1), (2, .int x2), (3, .ref (ow))] := hl
  have hT : TS vwCl D (LX Z a t b q q2 ow ap bp rp C T G P Y L B X) A s.heap s.heap [] := hT
  refine lv_aload_n hx hb dL_boat_0 rfl (lv_at hl 3 rfl) ?_
  refine lv_iconst (v := 0) hx hb dL_boat_1 (by decide) ?_
  refine lv_aload_n hx hb dL_boat_2 rfl (lv_at hl 0 rfl) ?_
  refine lv_iload_n hx hb dL_boat_3 rfl (lv_at hl 1 rfl) ?_
  refine lv_iload_n hx hb dL_boat_4 rfl (lv_at hl 2 rfl) ?_
  refine xk_X5_boat hC hN hfl (hT.rxd hR) hK hT (cxu_CQLX Z a t b q q2 ow ap bp rp C T G P Y L B X) rfl hm wq_1020 (by decide) hl.1 (Nat.le_of_ble_eq_true rfl) ⟨(Nat.le_of_ble_eq_true rfl), (Nat.le_of_ble_eq_true rfl)⟩ dL_boat_5 (fun k ce q9 H locs hk hT h1 h2 h3 => ?_) (fun r_5 H locs hm hT => ?_)
  · obtain ⟨e_, hm⟩ := hk
    subst e_
    refine vx_catch (own := RL) (name := "java/lang/IndexOutOfBoundsException") hC.2.2.2.1 [] ⟨0, 10, 13, 24⟩ [] htab (fun z hz => absurd hz List.not_mem_nil) (by decide) (by decide) (hC.2.2.2.2 _ wq_1003) (hR.2.2.2.2.1.use wx_834) h1 h2 h3 ?_
    refine lv_astore (lv' := [(4, .ref q9), (0, .ref (a 90)), (1, .int x1), (2, .int x2), (3, .ref (ow))]) hx hb dL_boat_13 hl (by decide) rfl (fun ls hl => ?_)
    refine lv_iconst (v := 1) hx hb dL_boat_15 (by decide) ?_
    refine W.widen (k := 2) (n := 12) (Nat.le_of_ble_eq_true rfl) (Nat.le_of_ble_eq_true rfl) ?_
    exact hret 16 _ _ _ _ (ap, bp, rp, C, T, G, P, Y, L, B, X) hm hT rfl dL_boat_16
  have hT : TS vwCl D (LX Z a t b q q2 ow ap bp rp C T G P Y L B X) A s.heap H locs := hT
  refine lv_i2l (v := r_5.toInt64) hx hb dL_boat_8 rfl ?_
  refine sLX_out hC hK hT hm.1 dL_boat_9 (fun X_9 eX_9 H locs hT => ?_)
  have hm := hm.2 X_9 eX_9
  refine lv_goto (tgt := 17) hx hb dL_boat_10 (by decide) ?_
  refine lv_iconst (v := 0) hx hb dL_boat_17 (by decide) ?_
  refine W.widen (k := 2) (n := 12) (Nat.le_of_ble_eq_true rfl) (Nat.le_of_ble_eq_true rfl) ?_
  exact hret 18 _ _ _ _ (ap, bp, rp, C, T, G, P, Y, L, B, X_9) hm hT rfl dL_boat_18
section LL_boat
variable {p : Program} {l : Launch} {e : Env} {s : State} {m : MethodId} {args : Array Value} {below : List Frame} {meth : Method} {c : Code} {H H0 : Heap} {locs : List Loc} {cells slots : Nat} {Q : State → Prop} {R : Room} {rn mcR msR : Nat}
variable {pc : Nat} {ls : Array Slot} {rest : List Value} {A : Nat → Prop} {D : va_G}
variable {cc : ByteArray} {nL index : Nat} {own host : String}
theorem kl_L_boat {rx : Nat → Nat} {Z : Nat → ClassId} {a t b q q2 : Nat → Nat} {ow : Nat} {ap : Nat} {bp : Nat} {rp : Nat} {C : M2} {T : M2} {G : M2} {P : M2} {Y : M2} {L : L2} {B : M2} {X : L2} {x1 : Int32} {x2 : Int32} {K : Int32 → Nat → Nat → Nat → M2 → M2 → M2 → M2 → M2 → L2 → M2 → L2 → Prop} {ws wr : va_W} {isC isR pm : List Nat} {ws' : Nat × Nat × Nat × M2 × M2 × M2 × M2 × M2 × L2 × M2 × L2 → va_W} (hC : CallFix p m c cc nL s args lw_g own) (hN : NW s) (hfl : l.stackTraces = false) (hR : RXD rx (va_A ws H.size) s H) (hK : va_K D vwCl (tysG Z) s) (hT : TS vwCl D ws A H0 H locs) (hc : Cut ws (fun u : Nat × Nat × Nat × M2 × M2 × M2 × M2 × M2 × L2 × M2 × L2 => LX Z a t b q q2 ow u.1 u.2.1 u.2.2.1 u.2.2.2.1 u.2.2.2.2.1 u.2.2.2.2.2.1 u.2.2.2.2.2.2.1 u.2.2.2.2.2.2.2.1 u.2.2.2.2.2.2.2.2.1 u.2.2.2.2.2.2.2.2.2.1 u.2.2.2.2.2.2.2.2.2.2) (ap, bp, rp, C, T, G, P, Y, L, B, X) wr isC isR pm ws') (hnd : va_nd isC = true) (hm : wp_L_boat q ap bp rp C T G P Y L B X x1 x2 K) (hl : Cond.methodLink own index yL_boat ∈ lw_g) (hlt : 8 < rn) (hsize : ls.size = nL) (hW : (rest.map fun v => v.category).sum ≤ 8) (hf : cells + 2 ≤ mcR ∧ slots + 12 ≤ msR) (hdg : decode cc pc = .ok (.invokestatic index, 3))
    (kk : ∀ (r : Int32) (ap1 : Nat) (bp1 : Nat) (rp1 : Nat) (C1 : M2) (T1 : M2) (G1 : M2) (P1 : M2) (Y1 : M2) (L1 : L2) (B1 : M2) (X1 : L2) (H1 : Heap) (locs1 : List Loc), K r ap1 bp1 rp1 C1 T1 G1 P1 Y1 L1 B1 X1 → TS vwCl D (ws' (ap1, bp1, rp1, C1, T1, G1, P1, Y1, L1, B1, X1)) A H0 H1 locs1 → W p l e (rk rn mcR msR) s m args below meth c H1 locs1 (cells + 2) (slots + 12) Q (F0 m (pc + 3) ls (.int r :: rest))) : W p l e (rk rn mcR msR) s m args below meth c H locs cells slots Q (F0 m pc ls (.ref (ow) :: .int x2 :: .int x1 :: .ref (a 90) :: rest)) :=
  rw_go (wsF := (fun u : Nat × Nat × Nat × M2 × M2 × M2 × M2 × M2 × L2 × M2 × L2 => LX Z a t b q q2 ow u.1 u.2.1 u.2.2.1 u.2.2.2.1 u.2.2.2.2.1 u.2.2.2.2.2.1 u.2.2.2.2.2.2.1 u.2.2.2.2.2.2.2.1 u.2.2.2.2.2.2.2.2.1 u.2.2.2.2.2.2.2.2.2.1 u.2.2.2.2.2.2.2.2.2.2)) (u0 := (ap, bp, rp, C, T, G, P, Y, L, B, X)) (K := (fun (r : Int32) (u : Nat × Nat × Nat × M2 × M2 × M2 × M2 × M2 × L2 × M2 × L2) => K r u.1 u.2.1 u.2.2.1 u.2.2.2.1 u.2.2.2.2.1 u.2.2.2.2.2.1 u.2.2.2.2.2.2.1 u.2.2.2.2.2.2.2.1 u.2.2.2.2.2.2.2.2.1 u.2.2.2.2.2.2.2.2.2.1 u.2.2.2.2.2.2.2.2.2.2)) (wr := wr) (isC := isC) (isR := isR) (pm := pm) (ws' := ws') (runSH (As := [.ref (a 90), .int x1, .int x2, .ref (ow)]) hC hN (hR.sub hc.1) (c_L_boat l hfl D rx Z a t b q q2 ow H.size ap bp rp C T G P Y L B X x1 x2 K hm) mi_L_boat hl hlt (hT.1.sub isC (map_fm hc.1)) (hT.D'.sub isC hnd hc.1) hK rfl hsize rfl hW hdg hf) hc hT (fun r u H1 locs1 hk hT1 => kk r u.1 u.2.1 u.2.2.1 u.2.2.2.1 u.2.2.2.2.1 u.2.2.2.2.2.1 u.2.2.2.2.2.2.1 u.2.2.2.2.2.2.2.1 u.2.2.2.2.2.2.2.2.1 u.2.2.2.2.2.2.2.2.2.1 u.2.2.2.2.2.2.2.2.2.2 H1 locs1 hk hT1)
end LL_boat
def wp_L_crew (q : Nat → Nat) (ap : Nat) (bp : Nat) (rp : Nat) (C : M2) (T : M2) (G : M2) (P : M2) (Y : M2) (L : L2) (B : M2) (X : L2) (x1 : Int32) (x2 : Int32) (K : Int32 → Nat → Nat → Nat → M2 → M2 → M2 → M2 → M2 → L2 → M2 → L2 → Prop) : Prop := wp_X5_crew P (fun k_ => (k_ = 2 ∧ K 1 ap bp rp C T G P Y L B X)) T C x1 x2 (fun r_5 => (inb 0 1 ∧ ∀ X_9 : L2, X_9 = ul2 X 500 (vp_updL (X 500) (0 : Int32).toInt.toNat r_5.toInt64) → K 0 ap bp rp C T G P Y L B X_9))
set_option maxRecDepth 100000 in
set_option maxHeartbeats 4000000 in
theorem c_L_crew (l : Launch) (hfl : l.stackTraces = false) (D : va_G) (rx : Nat → Nat) (Z : Nat → ClassId) (a t b q q2 : Nat → Nat) (ow : Nat) (sz : Nat) (ap : Nat) (bp : Nat) (rp : Nat) (C : M2) (T : M2) (G : M2) (P : M2) (Y : M2) (L : L2) (B : M2) (X : L2) (x1 : Int32) (x2 : Int32) (K : Int32 → Nat → Nat → Nat → M2 → M2 → M2 → M2 → M2 → L2 → M2 → L2 → Prop) (hm : wp_L_crew q ap bp rp C T G P Y L B X x1 x2 K) : Met l yL_crew (wyh yL_crew cL_crew 5 (some .int) [(0, 10, 13, 24)]) (rk 8 2 12) (preX vwCl D Z rx (LX Z a t b q q2 ow ap bp rp C T G P Y L B X) sz [.ref (a 90), .int x1, .int x2, .ref (ow)]) (poI vwCl D Z (fun u : Nat × Nat × Nat × M2 × M2 × M2 × M2 × M2 × L2 × M2 × L2 => LX Z a t b q q2 ow u.1 u.2.1 u.2.2.1 u.2.2.2.1 u.2.2.2.2.1 u.2.2.2.2.2.1 u.2.2.2.2.2.2.1 u.2.2.2.2.2.2.2.1 u.2.2.2.2.2.2.2.2.1 u.2.2.2.2.2.2.2.2.2.1 u.2.2.2.2.2.2.2.2.2.2) (ap, bp, rp, C, T, G, P, Y, L, B, X) sz (fun (r : Int32) (u : Nat × Nat × Nat × M2 × M2 × M2 × M2 × M2 × L2 × M2 × L2) => K r u.1 u.2.1 u.2.2.1 u.2.2.2.1 u.2.2.2.2.1 u.2.2.2.2.2.1 u.2.2.2.2.2.2.1 u.2.2.2.2.2.2.2.1 u.2.2.2.2.2.2.2.2.1 u.2.2.2.2.2.2.2.2.2.1 u.2.2.2.2.2.2.2.2.2.2)) 2 12 (va_A (LX Z a t b q q2 ow ap bp rp C T G P Y L B X) sz) := by
  refine rw_ofH (ty := .int) (wsF := (fun u : Nat × Nat × Nat × M2 × M2 × M2 × M2 × M2 × L2 × M2 × L2 => LX Z a t b q q2 ow u.1 u.2.1 u.2.2.1 u.2.2.2.1 u.2.2.2.2.1 u.2.2.2.2.2.1 u.2.2.2.2.2.2.1 u.2.2.2.2.2.2.2.1 u.2.2.2.2.2.2.2.2.1 u.2.2.2.2.2.2.2.2.2.1 u.2.2.2.2.2.2.2.2.2.2)) (u0 := (ap, bp, rp, C, T, G, P, Y, L, B, X)) (by decide +kernel) (Nat.le_of_ble_eq_true rfl) rfl ?_
  intro p e s m args below meth c Q A hC hN hR hsz htab hT hK hret ls hl
  have hx := hC.1
  have hb := hC.2.1
  have hl : lv_has ls 5 [(0, .ref (a 90)), (1, .int x1), (2, .int x2), (3, .ref (ow))] := hl
  have hT : TS vwCl D (LX Z a t b q q2 ow ap bp rp C T G P Y L B X) A s.heap s.heap [] := hT
  refine lv_aload_n hx hb dL_crew_0 rfl (lv_at hl 3 rfl) ?_
  refine lv_iconst (v := 0) hx hb dL_crew_1 (by decide) ?_
  refine lv_aload_n hx hb dL_crew_2 rfl (lv_at hl 0 rfl) ?_
  refine lv_iload_n hx hb dL_crew_3 rfl (lv_at hl 1 rfl) ?_
  refine lv_iload_n hx hb dL_crew_4 rfl (lv_at hl 2 rfl) ?_
  refine xk_X5_crew hC hN hfl (hT.rxd hR) hK hT (cxu_CQLX Z a t b q q2 ow ap bp rp C T G P Y L B X) rfl hm wq_1024 (by decide) hl.1 (Nat.le_of_ble_eq_true rfl) ⟨(Nat.le_of_ble_eq_true rfl), (Nat.le_of_ble_eq_true rfl)⟩ dL_crew_5 (fun k ce q9 H locs hk hT h1 h2 h3 => ?_) (fun r_5 H locs hm hT => ?_)
  · obtain ⟨e_, hm⟩ := hk
    subst e_
    refine vx_catch (own := RL) (name := "java/lang/IndexOutOfBoundsException") hC.2.2.2.1 [] ⟨0, 10, 13, 24⟩ [] htab (fun z hz => absurd hz List.not_mem_nil) (by decide) (by decide) (hC.2.2.2.2 _ wq_1003) (hR.2.2.2.2.1.use wx_834) h1 h2 h3 ?_
    refine lv_astore (lv' := [(4, .ref q9), (0, .ref (a 90)), (1, .int x1), (2, .int x2), (3, .ref (ow))]) hx hb dL_crew_13 hl (by decide) rfl (fun ls hl => ?_)
    refine lv_iconst (v := 1) hx hb dL_crew_15 (by decide) ?_
    refine W.widen (k := 2) (n := 12) (Nat.le_of_ble_eq_true rfl) (Nat.le_of_ble_eq_true rfl) ?_
    exact hret 16 _ _ _ _ (ap, bp, rp, C, T, G, P, Y, L, B, X) hm hT rfl dL_crew_16
  have hT : TS vwCl D (LX Z a t b q q2 ow ap bp rp C T G P Y L B X) A s.heap H locs := hT
  refine lv_i2l (v := r_5.toInt64) hx hb dL_crew_8 rfl ?_
  refine sLX_out hC hK hT hm.1 dL_crew_9 (fun X_9 eX_9 H locs hT => ?_)
  have hm := hm.2 X_9 eX_9
  refine lv_goto (tgt := 17) hx hb dL_crew_10 (by decide) ?_
  refine lv_iconst (v := 0) hx hb dL_crew_17 (by decide) ?_
  refine W.widen (k := 2) (n := 12) (Nat.le_of_ble_eq_true rfl) (Nat.le_of_ble_eq_true rfl) ?_
  exact hret 18 _ _ _ _ (ap, bp, rp, C, T, G, P, Y, L, B, X_9) hm hT rfl dL_crew_18
section LL_crew
variable {p : Program} {l : Launch} {e : Env} {s : State} {m : MethodId} {args : Array Value} {below : List Frame} {meth : Method} {c : Code} {H H0 : Heap} {locs : List Loc} {cells slots : Nat} {Q : State → Prop} {R : Room} {rn mcR msR : Nat}
variable {pc : Nat} {ls : Array Slot} {rest : List Value} {A : Nat → Prop} {D : va_G}
variable {cc : ByteArray} {nL index : Nat} {own host : String}
theorem kl_L_crew {rx : Nat → Nat} {Z : Nat → ClassId} {a t b q q2 : Nat → Nat} {ow : Nat} {ap : Nat} {bp : Nat} {rp : Nat} {C : M2} {T : M2} {G : M2} {P : M2} {Y : M2} {L : L2} {B : M2} {X : L2} {x1 : Int32} {x2 : Int32} {K : Int32 → Nat → Nat → Nat → M2 → M2 → M2 → M2 → M2 → L2 → M2 → L2 → Prop} {ws wr : va_W} {isC isR pm : List Nat} {ws' : Nat × Nat × Nat × M2 × M2 × M2 × M2 × M2 × L2 × M2 × L2 → va_W} (hC : CallFix p m c cc nL s args lw_g own) (hN : NW s) (hfl : l.stackTraces = false) (hR : RXD rx (va_A ws H.size) s H) (hK : va_K D vwCl (tysG Z) s) (hT : TS vwCl D ws A H0 H locs) (hc : Cut ws (fun u : Nat × Nat × Nat × M2 × M2 × M2 × M2 × M2 × L2 × M2 × L2 => LX Z a t b q q2 ow u.1 u.2.1 u.2.2.1 u.2.2.2.1 u.2.2.2.2.1 u.2.2.2.2.2.1 u.2.2.2.2.2.2.1 u.2.2.2.2.2.2.2.1 u.2.2.2.2.2.2.2.2.1 u.2.2.2.2.2.2.2.2.2.1 u.2.2.2.2.2.2.2.2.2.2) (ap, bp, rp, C, T, G, P, Y, L, B, X) wr isC isR pm ws') (hnd : va_nd isC = true) (hm : wp_L_crew q ap bp rp C T G P Y L B X x1 x2 K) (hl : Cond.methodLink own index yL_crew ∈ lw_g) (hlt : 8 < rn) (hsize : ls.size = nL) (hW : (rest.map fun v => v.category).sum ≤ 8) (hf : cells + 2 ≤ mcR ∧ slots + 12 ≤ msR) (hdg : decode cc pc = .ok (.invokestatic index, 3))
    (kk : ∀ (r : Int32) (ap1 : Nat) (bp1 : Nat) (rp1 : Nat) (C1 : M2) (T1 : M2) (G1 : M2) (P1 : M2) (Y1 : M2) (L1 : L2) (B1 : M2) (X1 : L2) (H1 : Heap) (locs1 : List Loc), K r ap1 bp1 rp1 C1 T1 G1 P1 Y1 L1 B1 X1 → TS vwCl D (ws' (ap1, bp1, rp1, C1, T1, G1, P1, Y1, L1, B1, X1)) A H0 H1 locs1 → W p l e (rk rn mcR msR) s m args below meth c H1 locs1 (cells + 2) (slots + 12) Q (F0 m (pc + 3) ls (.int r :: rest))) : W p l e (rk rn mcR msR) s m args below meth c H locs cells slots Q (F0 m pc ls (.ref (ow) :: .int x2 :: .int x1 :: .ref (a 90) :: rest)) :=
  rw_go (wsF := (fun u : Nat × Nat × Nat × M2 × M2 × M2 × M2 × M2 × L2 × M2 × L2 => LX Z a t b q q2 ow u.1 u.2.1 u.2.2.1 u.2.2.2.1 u.2.2.2.2.1 u.2.2.2.2.2.1 u.2.2.2.2.2.2.1 u.2.2.2.2.2.2.2.1 u.2.2.2.2.2.2.2.2.1 u.2.2.2.2.2.2.2.2.2.1 u.2.2.2.2.2.2.2.2.2.2)) (u0 := (ap, bp, rp, C, T, G, P, Y, L, B, X)) (K := (fun (r : Int32) (u : Nat × Nat × Nat × M2 × M2 × M2 × M2 × M2 × L2 × M2 × L2) => K r u.1 u.2.1 u.2.2.1 u.2.2.2.1 u.2.2.2.2.1 u.2.2.2.2.2.1 u.2.2.2.2.2.2.1 u.2.2.2.2.2.2.2.1 u.2.2.2.2.2.2.2.2.1 u.2.2.2.2.2.2.2.2.2.1 u.2.2.2.2.2.2.2.2.2.2)) (wr := wr) (isC := isC) (isR := isR) (pm := pm) (ws' := ws') (runSH (As := [.ref (a 90), .int x1, .int x2, .ref (ow)]) hC hN (hR.sub hc.1) (c_L_crew l hfl D rx Z a t b q q2 ow H.size ap bp rp C T G P Y L B X x1 x2 K hm) mi_L_crew hl hlt (hT.1.sub isC (map_fm hc.1)) (hT.D'.sub isC hnd hc.1) hK rfl hsize rfl hW hdg hf) hc hT (fun r u H1 locs1 hk hT1 => kk r u.1 u.2.1 u.2.2.1 u.2.2.2.1 u.2.2.2.2.1 u.2.2.2.2.2.1 u.2.2.2.2.2.2.1 u.2.2.2.2.2.2.2.1 u.2.2.2.2.2.2.2.2.1 u.2.2.2.2.2.2.2.2.2.1 u.2.2.2.2.2.2.2.2.2.2 H1 locs1 hk hT1)
end LL_crew
def wp_L_canEnter (q : Nat → Nat) (ap : Nat) (bp : Nat) (rp : Nat) (C : M2) (T : M2) (G : M2) (P : M2) (Y : M2) (L : L2) (B : M2) (X : L2) (x1 : Int32) (K : Int32 → Nat → Nat → Nat → M2 → M2 → M2 → M2 → M2 → L2 → M2 → L2 → Prop) : Prop := wp_X5_canEnter P (fun k_ => (k_ = 2 ∧ K 1 ap bp rp C T G P Y L B X)) T C x1 (fun r_4 T_4 C_4 => ((r_4 = 0 → (inb 0 1 ∧ ∀ X_15 : L2, X_15 = ul2 X 500 (vp_updL (X 500) (0 : Int32).toInt.toNat 0) → K 0 ap bp rp C_4 T_4 G P Y L B X_15)) ∧ (¬ r_4 = 0 → (inb 0 1 ∧ ∀ X_15 : L2, X_15 = ul2 X 500 (vp_updL (X 500) (0 : Int32).toInt.toNat 1) → K 0 ap bp rp C_4 T_4 G P Y L B X_15))))
set_option maxRecDepth 100000 in
set_option maxHeartbeats 4000000 in
theorem c_L_canEnter (l : Launch) (hfl : l.stackTraces = false) (D : va_G) (rx : Nat → Nat) (Z : Nat → ClassId) (a t b q q2 : Nat → Nat) (ow : Nat) (sz : Nat) (ap : Nat) (bp : Nat) (rp : Nat) (C : M2) (T : M2) (G : M2) (P : M2) (Y : M2) (L : L2) (B : M2) (X : L2) (x1 : Int32) (K : Int32 → Nat → Nat → Nat → M2 → M2 → M2 → M2 → M2 → L2 → M2 → L2 → Prop) (hm : wp_L_canEnter q ap bp rp C T G P Y L B X x1 K) : Met l yL_canEnter (wyh yL_canEnter cL_canEnter 4 (some .int) [(0, 16, 19, 24)]) (rk 8 1 6) (preX vwCl D Z rx (LX Z a t b q q2 ow ap bp rp C T G P Y L B X) sz [.ref (a 90), .int x1, .ref (ow)]) (poI vwCl D Z (fun u : Nat × Nat × Nat × M2 × M2 × M2 × M2 × M2 × L2 × M2 × L2 => LX Z a t b q q2 ow u.1 u.2.1 u.2.2.1 u.2.2.2.1 u.2.2.2.2.1 u.2.2.2.2.2.1 u.2.2.2.2.2.2.1 u.2.2.2.2.2.2.2.1 u.2.2.2.2.2.2.2.2.1 u.2.2.2.2.2.2.2.2.2.1 u.2.2.2.2.2.2.2.2.2.2) (ap, bp, rp, C, T, G, P, Y, L, B, X) sz (fun (r : Int32) (u : Nat × Nat × Nat × M2 × M2 × M2 × M2 × M2 × L2 × M2 × L2) => K r u.1 u.2.1 u.2.2.1 u.2.2.2.1 u.2.2.2.2.1 u.2.2.2.2.2.1 u.2.2.2.2.2.2.1 u.2.2.2.2.2.2.2.1 u.2.2.2.2.2.2.2.2.1 u.2.2.2.2.2.2.2.2.2.1 u.2.2.2.2.2.2.2.2.2.2)) 1 6 (va_A (LX Z a t b q q2 ow ap bp rp C T G P Y L B X) sz) := by
  refine rw_ofH (ty := .int) (wsF := (fun u : Nat × Nat × Nat × M2 × M2 × M2 × M2 × M2 × L2 × M2 × L2 => LX Z a t b q q2 ow u.1 u.2.1 u.2.2.1 u.2.2.2.1 u.2.2.2.2.1 u.2.2.2.2.2.1 u.2.2.2.2.2.2.1 u.2.2.2.2.2.2.2.1 u.2.2.2.2.2.2.2.2.1 u.2.2.2.2.2.2.2.2.2.1 u.2.2.2.2.2.2.2.2.2.2)) (u0 := (ap, bp, rp, C, T, G, P, Y, L, B, X)) (by decide +kernel) (Nat.le_of_ble_eq_true rfl) rfl ?_
  intro p e s m args below meth c Q A hC hN hR hsz htab hT hK hret ls hl
  have hx := hC.1
  have hb := hC.2.1
  have hl : lv_has ls 4 [(0, .ref (a 90)), (1, .int x1), (2, .ref (ow))] := hl
  have hT : TS vwCl D (LX Z a t b q q2 ow ap bp rp C T G P Y L B X) A s.heap s.heap [] := hT
  refine lv_aload_n hx hb dL_canEnter_0 rfl (lv_at hl 2 rfl) ?_
  refine lv_iconst (v := 0) hx hb dL_canEnter_1 (by decide) ?_
  refine lv_aload_n hx hb dL_canEnter_2 rfl (lv_at hl 0 rfl) ?_
  refine lv_iload_n hx hb dL_canEnter_3 rfl (lv_at hl 1 rfl) ?_
  refine xk_X5_canEnter hC hN hfl (hT.rxd hR) hK hT (cx_CQLX Z a t b q q2 ow ap bp rp C T G P Y L B X) rfl hm wq_1028 (by decide) hl.1 (Nat.le_of_ble_eq_true rfl) ⟨(Nat.le_of_ble_eq_true rfl), (Nat.le_of_ble_eq_true rfl)⟩ dL_canEnter_4 (fun k ce q9 H locs hk hT h1 h2 h3 => ?_) (fun r_4 T_4 C_4 H locs hm hT => ?_)
  · obtain ⟨e_, hm⟩ := hk
    subst e_
    refine vx_catch (own := RL) (name := "java/lang/IndexOutOfBoundsException") hC.2.2.2.1 [] ⟨0, 16, 19, 24⟩ [] htab (fun z hz => absurd hz List.not_mem_nil) (by decide) (by decide) (hC.2.2.2.2 _ wq_1003) (hR.2.2.2.2.1.use wx_834) h1 h2 h3 ?_
    refine lv_astore_n (lv' := [(3, .ref q9), (0, .ref (a 90)), (1, .int x1), (2, .ref (ow))]) hx hb dL_canEnter_19 rfl hl (by decide) rfl (fun ls hl => ?_)
    refine lv_iconst (v := 1) hx hb dL_canEnter_20 (by decide) ?_
    refine W.widen (k := 1) (n := 6) (Nat.le_of_ble_eq_true rfl) (Nat.le_of_ble_eq_true rfl) ?_
    exact hret 21 _ _ _ _ (ap, bp, rp, C, T, G, P, Y, L, B, X) hm hT rfl dL_canEnter_21
  have hT : TS vwCl D (LX Z a t b q q2 ow ap bp rp C_4 T_4 G P Y L B X) A s.heap H locs := hT
  refine lv_if_eq (tgt := 14) hx hb dL_canEnter_7 (by decide) (fun c_7 => ?_) (fun c_7 => ?_)
  · have hm := hm.1 c_7
    refine lv_lconst (v := 0) hx hb dL_canEnter_14 (by decide) ?_
    refine sLX_out hC hK hT hm.1 dL_canEnter_15 (fun X_15 eX_15 H locs hT => ?_)
    have hm := hm.2 X_15 eX_15
    refine lv_goto (tgt := 22) hx hb dL_canEnter_16 (by decide) ?_
    refine lv_iconst (v := 0) hx hb dL_canEnter_22 (by decide) ?_
    refine W.widen (k := 1) (n := 6) (Nat.le_of_ble_eq_true rfl) (Nat.le_of_ble_eq_true rfl) ?_
    exact hret 23 _ _ _ _ (ap, bp, rp, C_4, T_4, G, P, Y, L, B, X_15) hm hT rfl dL_canEnter_23
  · have hm := hm.2 c_7
    refine lv_lconst (v := 1) hx hb dL_canEnter_10 (by decide) ?_
    refine lv_goto (tgt := 15) hx hb dL_canEnter_11 (by decide) ?_
    refine sLX_out hC hK hT hm.1 dL_canEnter_15 (fun X_15 eX_15 H locs hT => ?_)
    have hm := hm.2 X_15 eX_15
    refine lv_goto (tgt := 22) hx hb dL_canEnter_16 (by decide) ?_
    refine lv_iconst (v := 0) hx hb dL_canEnter_22 (by decide) ?_
    refine W.widen (k := 1) (n := 6) (Nat.le_of_ble_eq_true rfl) (Nat.le_of_ble_eq_true rfl) ?_
    exact hret 23 _ _ _ _ (ap, bp, rp, C_4, T_4, G, P, Y, L, B, X_15) hm hT rfl dL_canEnter_23
section LL_canEnter
variable {p : Program} {l : Launch} {e : Env} {s : State} {m : MethodId} {args : Array Value} {below : List Frame} {meth : Method} {c : Code} {H H0 : Heap} {locs : List Loc} {cells slots : Nat} {Q : State → Prop} {R : Room} {rn mcR msR : Nat}
variable {pc : Nat} {ls : Array Slot} {rest : List Value} {A : Nat → Prop} {D : va_G}
variable {cc : ByteArray} {nL index : Nat} {own host : String}
theorem kl_L_canEnter {rx : Nat → Nat} {Z : Nat → ClassId} {a t b q q2 : Nat → Nat} {ow : Nat} {ap : Nat} {bp : Nat} {rp : Nat} {C : M2} {T : M2} {G : M2} {P : M2} {Y : M2} {L : L2} {B : M2} {X : L2} {x1 : Int32} {K : Int32 → Nat → Nat → Nat → M2 → M2 → M2 → M2 → M2 → L2 → M2 → L2 → Prop} {ws wr : va_W} {isC isR pm : List Nat} {ws' : Nat × Nat × Nat × M2 × M2 × M2 × M2 × M2 × L2 × M2 × L2 → va_W} (hC : CallFix p m c cc nL s args lw_g own) (hN : NW s) (hfl : l.stackTraces = false) (hR : RXD rx (va_A ws H.size) s H) (hK : va_K D vwCl (tysG Z) s) (hT : TS vwCl D ws A H0 H locs) (hc : Cut ws (fun u : Nat × Nat × Nat × M2 × M2 × M2 × M2 × M2 × L2 × M2 × L2 => LX Z a t b q q2 ow u.1 u.2.1 u.2.2.1 u.2.2.2.1 u.2.2.2.2.1 u.2.2.2.2.2.1 u.2.2.2.2.2.2.1 u.2.2.2.2.2.2.2.1 u.2.2.2.2.2.2.2.2.1 u.2.2.2.2.2.2.2.2.2.1 u.2.2.2.2.2.2.2.2.2.2) (ap, bp, rp, C, T, G, P, Y, L, B, X) wr isC isR pm ws') (hnd : va_nd isC = true) (hm : wp_L_canEnter q ap bp rp C T G P Y L B X x1 K) (hl : Cond.methodLink own index yL_canEnter ∈ lw_g) (hlt : 8 < rn) (hsize : ls.size = nL) (hW : (rest.map fun v => v.category).sum ≤ 8) (hf : cells + 1 ≤ mcR ∧ slots + 6 ≤ msR) (hdg : decode cc pc = .ok (.invokestatic index, 3))
    (kk : ∀ (r : Int32) (ap1 : Nat) (bp1 : Nat) (rp1 : Nat) (C1 : M2) (T1 : M2) (G1 : M2) (P1 : M2) (Y1 : M2) (L1 : L2) (B1 : M2) (X1 : L2) (H1 : Heap) (locs1 : List Loc), K r ap1 bp1 rp1 C1 T1 G1 P1 Y1 L1 B1 X1 → TS vwCl D (ws' (ap1, bp1, rp1, C1, T1, G1, P1, Y1, L1, B1, X1)) A H0 H1 locs1 → W p l e (rk rn mcR msR) s m args below meth c H1 locs1 (cells + 1) (slots + 6) Q (F0 m (pc + 3) ls (.int r :: rest))) : W p l e (rk rn mcR msR) s m args below meth c H locs cells slots Q (F0 m pc ls (.ref (ow) :: .int x1 :: .ref (a 90) :: rest)) :=
  rw_go (wsF := (fun u : Nat × Nat × Nat × M2 × M2 × M2 × M2 × M2 × L2 × M2 × L2 => LX Z a t b q q2 ow u.1 u.2.1 u.2.2.1 u.2.2.2.1 u.2.2.2.2.1 u.2.2.2.2.2.1 u.2.2.2.2.2.2.1 u.2.2.2.2.2.2.2.1 u.2.2.2.2.2.2.2.2.1 u.2.2.2.2.2.2.2.2.2.1 u.2.2.2.2.2.2.2.2.2.2)) (u0 := (ap, bp, rp, C, T, G, P, Y, L, B, X)) (K := (fun (r : Int32) (u : Nat × Nat × Nat × M2 × M2 × M2 × M2 × M2 × L2 × M2 × L2) => K r u.1 u.2.1 u.2.2.1 u.2.2.2.1 u.2.2.2.2.1 u.2.2.2.2.2.1 u.2.2.2.2.2.2.1 u.2.2.2.2.2.2.2.1 u.2.2.2.2.2.2.2.2.1 u.2.2.2.2.2.2.2.2.2.1 u.2.2.2.2.2.2.2.2.2.2)) (wr := wr) (isC := isC) (isR := isR) (pm := pm) (ws' := ws') (runSH (As := [.ref (a 90), .int x1, .ref (ow)]) hC hN (hR.sub hc.1) (c_L_canEnter l hfl D rx Z a t b q q2 ow H.size ap bp rp C T G P Y L B X x1 K hm) mi_L_canEnter hl hlt (hT.1.sub isC (map_fm hc.1)) (hT.D'.sub isC hnd hc.1) hK rfl hsize rfl hW hdg hf) hc hT (fun r u H1 locs1 hk hT1 => kk r u.1 u.2.1 u.2.2.1 u.2.2.2.1 u.2.2.2.2.1 u.2.2.2.2.2.1 u.2.2.2.2.2.2.1 u.2.2.2.2.2.2.2.1 u.2.2.2.2.2.2.2.2.1 u.2.2.2.2.2.2.2.2.2.1 u.2.2.2.2.2.2.2.2.2.2 H1 locs1 hk hT1)
end LL_canEnter
def wp_L_whistle (q : Nat → Nat) (ap : Nat) (bp : Nat) (rp : Nat) (C : M2) (T : M2) (G : M2) (P : M2) (Y : M2) (L : L2) (B : M2) (X : L2) (x1 : Int32) (K : Int32 → Nat → Nat → Nat → M2 → M2 → M2 → M2 → M2 → L2 → M2 → L2 → Prop) : Prop := wp_X5_whistle P (fun k_ => (k_ = 1 ∧ K 1 ap bp rp C T G P Y L B X)) T C x1 (fun r_4 T_4 C_4 => (inb 0 1 ∧ ∀ X_8 : L2, X_8 = ul2 X 500 (vp_updL (X 500) (0 : Int32).toInt.toNat r_4.toInt64) → K 0 ap bp rp C_4 T_4 G P Y L B X_8))
set_option maxRecDepth 100000 in
set_option maxHeartbeats 4000000 in
theorem c_L_whistle (l : Launch) (hfl : l.stackTraces = false) (D : va_G) (rx : Nat → Nat) (Z : Nat → ClassId) (a t b q q2 : Nat → Nat) (ow : Nat) (sz : Nat) (ap : Nat) (bp : Nat) (rp : Nat) (C : M2) (T : M2) (G : M2) (P : M2) (Y : M2) (L : L2) (B : M2) (X : L2) (x1 : Int32) (K : Int32 → Nat → Nat → Nat → M2 → M2 → M2 → M2 → M2 → L2 → M2 → L2 → Prop) (hm : wp_L_whistle q ap bp rp C T G P Y L B X x1 K) : Met l yL_whistle (wyh yL_whistle cL_whistle 4 (some .int) [(0, 9, 12, 19)]) (rk 8 1 6) (preX vwCl D Z rx (LX Z a t b q q2 ow ap bp rp C T G P Y L B X) sz [.ref (a 90), .int x1, .ref (ow)]) (poI vwCl D Z (fun u : Nat × Nat × Nat × M2 × M2 × M2 × M2 × M2 × L2 × M2 × L2 => LX Z a t b q q2 ow u.1 u.2.1 u.2.2.1 u.2.2.2.1 u.2.2.2.2.1 u.2.2.2.2.2.1 u.2.2.2.2.2.2.1 u.2.2.2.2.2.2.2.1 u.2.2.2.2.2.2.2.2.1 u.2.2.2.2.2.2.2.2.2.1 u.2.2.2.2.2.2.2.2.2.2) (ap, bp, rp, C, T, G, P, Y, L, B, X) sz (fun (r : Int32) (u : Nat × Nat × Nat × M2 × M2 × M2 × M2 × M2 × L2 × M2 × L2) => K r u.1 u.2.1 u.2.2.1 u.2.2.2.1 u.2.2.2.2.1 u.2.2.2.2.2.1 u.2.2.2.2.2.2.1 u.2.2.2.2.2.2.2.1 u.2.2.2.2.2.2.2.2.1 u.2.2.2.2.2.2.2.2.2.1 u.2.2.2.2.2.2.2.2.2.2)) 1 6 (va_A (LX Z a t b q q2 ow ap bp rp C T G P Y L B X) sz) := by
  refine rw_ofH (ty := .int) (wsF := (fun u : Nat × Nat × Nat × M2 × M2 × M2 × M2 × M2 × L2 × M2 × L2 => LX Z a t b q q2 ow u.1 u.2.1 u.2.2.1 u.2.2.2.1 u.2.2.2.2.1 u.2.2.2.2.2.1 u.2.2.2.2.2.2.1 u.2.2.2.2.2.2.2.1 u.2.2.2.2.2.2.2.2.1 u.2.2.2.2.2.2.2.2.2.1 u.2.2.2.2.2.2.2.2.2.2)) (u0 := (ap, bp, rp, C, T, G, P, Y, L, B, X)) (by decide +kernel) (Nat.le_of_ble_eq_true rfl) rfl ?_
  intro p e s m args below meth c Q A hC hN hR hsz htab hT hK hret ls hl
  have hx := hC.1
  have hb := hC.2.1
  have hl : lv_has ls 4 [(0, .ref (a 90)), (1, .int x1), (2, .ref (ow))] := hl
  have hT : TS vwCl D (LX Z a t b q q2 ow ap bp rp C T G P Y L B X) A s.heap s.heap [] := hT
  refine lv_aload_n hx hb dL_whistle_0 rfl (lv_at hl 2 rfl) ?_
  refine lv_iconst (v := 0) hx hb dL_whistle_1 (by decide) ?_
  refine lv_aload_n hx hb dL_whistle_2 rfl (lv_at hl 0 rfl) ?_
  refine lv_iload_n hx hb dL_whistle_3 rfl (lv_at hl 1 rfl) ?_
  refine xk_X5_whistle hC hN hfl (hT.rxd hR) hK hT (cx_CQLX Z a t b q q2 ow ap bp rp C T G P Y L B X) rfl hm wq_1084 (by decide) hl.1 (Nat.le_of_ble_eq_true rfl) ⟨(Nat.le_of_ble_eq_true rfl), (Nat.le_of_ble_eq_true rfl)⟩ dL_whistle_4 (fun k ce q9 H locs hk hT h1 h2 h3 => ?_) (fun r_4 T_4 C_4 H locs hm hT => ?_)
  · obtain ⟨e_, hm⟩ := hk
    subst e_
    refine vx_catch (own := RL) (name := "java/lang/IllegalArgumentException") hC.2.2.2.1 [] ⟨0, 9, 12, 19⟩ [] htab (fun z hz => absurd hz List.not_mem_nil) (by decide) (by decide) (hC.2.2.2.2 _ wq_979) (hR.2.2.2.2.1.use wx_986) h1 h2 h3 ?_
    refine lv_astore_n (lv' := [(3, .ref q9), (0, .ref (a 90)), (1, .int x1), (2, .ref (ow))]) hx hb dL_whistle_12 rfl hl (by decide) rfl (fun ls hl => ?_)
    refine lv_iconst (v := 1) hx hb dL_whistle_13 (by decide) ?_
    refine W.widen (k := 1) (n := 6) (Nat.le_of_ble_eq_true rfl) (Nat.le_of_ble_eq_true rfl) ?_
    exact hret 14 _ _ _ _ (ap, bp, rp, C, T, G, P, Y, L, B, X) hm hT rfl dL_whistle_14
  have hT : TS vwCl D (LX Z a t b q q2 ow ap bp rp C_4 T_4 G P Y L B X) A s.heap H locs := hT
  refine lv_i2l (v := r_4.toInt64) hx hb dL_whistle_7 rfl ?_
  refine sLX_out hC hK hT hm.1 dL_whistle_8 (fun X_8 eX_8 H locs hT => ?_)
  have hm := hm.2 X_8 eX_8
  refine lv_goto (tgt := 15) hx hb dL_whistle_9 (by decide) ?_
  refine lv_iconst (v := 0) hx hb dL_whistle_15 (by decide) ?_
  refine W.widen (k := 1) (n := 6) (Nat.le_of_ble_eq_true rfl) (Nat.le_of_ble_eq_true rfl) ?_
  exact hret 16 _ _ _ _ (ap, bp, rp, C_4, T_4, G, P, Y, L, B, X_8) hm hT rfl dL_whistle_16
section LL_whistle
variable {p : Program} {l : Launch} {e : Env} {s : State} {m : MethodId} {args : Array Value} {below : List Frame} {meth : Method} {c : Code} {H H0 : Heap} {locs : List Loc} {cells slots : Nat} {Q : State → Prop} {R : Room} {rn mcR msR : Nat}
variable {pc : Nat} {ls : Array Slot} {rest : List Value} {A : Nat → Prop} {D : va_G}
variable {cc : ByteArray} {nL index : Nat} {own host : String}
theorem kl_L_whistle {rx : Nat → Nat} {Z : Nat → ClassId} {a t b q q2 : Nat → Nat} {ow : Nat} {ap : Nat} {bp : Nat} {rp : Nat} {C : M2} {T : M2} {G : M2} {P : M2} {Y : M2} {L : L2} {B : M2} {X : L2} {x1 : Int32} {K : Int32 → Nat → Nat → Nat → M2 → M2 → M2 → M2 → M2 → L2 → M2 → L2 → Prop} {ws wr : va_W} {isC isR pm : List Nat} {ws' : Nat × Nat × Nat × M2 × M2 × M2 × M2 × M2 × L2 × M2 × L2 → va_W} (hC : CallFix p m c cc nL s args lw_g own) (hN : NW s) (hfl : l.stackTraces = false) (hR : RXD rx (va_A ws H.size) s H) (hK : va_K D vwCl (tysG Z) s) (hT : TS vwCl D ws A H0 H locs) (hc : Cut ws (fun u : Nat × Nat × Nat × M2 × M2 × M2 × M2 × M2 × L2 × M2 × L2 => LX Z a t b q q2 ow u.1 u.2.1 u.2.2.1 u.2.2.2.1 u.2.2.2.2.1 u.2.2.2.2.2.1 u.2.2.2.2.2.2.1 u.2.2.2.2.2.2.2.1 u.2.2.2.2.2.2.2.2.1 u.2.2.2.2.2.2.2.2.2.1 u.2.2.2.2.2.2.2.2.2.2) (ap, bp, rp, C, T, G, P, Y, L, B, X) wr isC isR pm ws') (hnd : va_nd isC = true) (hm : wp_L_whistle q ap bp rp C T G P Y L B X x1 K) (hl : Cond.methodLink own index yL_whistle ∈ lw_g) (hlt : 8 < rn) (hsize : ls.size = nL) (hW : (rest.map fun v => v.category).sum ≤ 8) (hf : cells + 1 ≤ mcR ∧ slots + 6 ≤ msR) (hdg : decode cc pc = .ok (.invokestatic index, 3))
    (kk : ∀ (r : Int32) (ap1 : Nat) (bp1 : Nat) (rp1 : Nat) (C1 : M2) (T1 : M2) (G1 : M2) (P1 : M2) (Y1 : M2) (L1 : L2) (B1 : M2) (X1 : L2) (H1 : Heap) (locs1 : List Loc), K r ap1 bp1 rp1 C1 T1 G1 P1 Y1 L1 B1 X1 → TS vwCl D (ws' (ap1, bp1, rp1, C1, T1, G1, P1, Y1, L1, B1, X1)) A H0 H1 locs1 → W p l e (rk rn mcR msR) s m args below meth c H1 locs1 (cells + 1) (slots + 6) Q (F0 m (pc + 3) ls (.int r :: rest))) : W p l e (rk rn mcR msR) s m args below meth c H locs cells slots Q (F0 m pc ls (.ref (ow) :: .int x1 :: .ref (a 90) :: rest)) :=
  rw_go (wsF := (fun u : Nat × Nat × Nat × M2 × M2 × M2 × M2 × M2 × L2 × M2 × L2 => LX Z a t b q q2 ow u.1 u.2.1 u.2.2.1 u.2.2.2.1 u.2.2.2.2.1 u.2.2.2.2.2.1 u.2.2.2.2.2.2.1 u.2.2.2.2.2.2.2.1 u.2.2.2.2.2.2.2.2.1 u.2.2.2.2.2.2.2.2.2.1 u.2.2.2.2.2.2.2.2.2.2)) (u0 := (ap, bp, rp, C, T, G, P, Y, L, B, X)) (K := (fun (r : Int32) (u : Nat × Nat × Nat × M2 × M2 × M2 × M2 × M2 × L2 × M2 × L2) => K r u.1 u.2.1 u.2.2.1 u.2.2.2.1 u.2.2.2.2.1 u.2.2.2.2.2.1 u.2.2.2.2.2.2.1 u.2.2.2.2.2.2.2.1 u.2.2.2.2.2.2.2.2.1 u.2.2.2.2.2.2.2.2.2.1 u.2.2.2.2.2.2.2.2.2.2)) (wr := wr) (isC := isC) (isR := isR) (pm := pm) (ws' := ws') (runSH (As := [.ref (a 90), .int x1, .ref (ow)]) hC hN (hR.sub hc.1) (c_L_whistle l hfl D rx Z a t b q q2 ow H.size ap bp rp C T G P Y L B X x1 K hm) mi_L_whistle hl hlt (hT.1.sub isC (map_fm hc.1)) (hT.D'.sub isC hnd hc.1) hK rfl hsize rfl hW hdg hf) hc hT (fun r u H1 locs1 hk hT1 => kk r u.1 u.2.1 u.2.2.1 u.2.2.2.1 u.2.2.2.2.1 u.2.2.2.2.2.1 u.2.2.2.2.2.2.1 u.2.2.2.2.2.2.2.1 u.2.2.2.2.2.2.2.2.1 u.2.2.2.2.2.2.2.2.2.1 u.2.2.2.2.2.2.2.2.2.2 H1 locs1 hk hT1)
end LL_whistle
def wp_L_cap (q : Nat → Nat) (ap : Nat) (bp : Nat) (rp : Nat) (C : M2) (T : M2) (G : M2) (P : M2) (Y : M2) (L : L2) (B : M2) (X : L2) (x1 : Int32) (K : Int32 → Nat → Nat → Nat → M2 → M2 → M2 → M2 → M2 → L2 → M2 → L2 → Prop) : Prop := wp_X5_cap P (fun k_ => (k_ = 2 ∧ K 1 ap bp rp C T G P Y L B X)) T C x1 (fun r_4 T_4 C_4 => (inb 0 1 ∧ ∀ X_8 : L2, X_8 = ul2 X 500 (vp_updL (X 500) (0 : Int32).toInt.toNat r_4.toInt64) → K 0 ap bp rp C_4 T_4 G P Y L B X_8))
set_option maxRecDepth 100000 in
set_option maxHeartbeats 4000000 in
theorem c_L_cap (l : Launch) (hfl : l.stackTraces = false) (D : va_G) (rx : Nat → Nat) (Z : Nat → ClassId) (a t b q q2 : Nat → Nat) (ow : Nat) (sz : Nat) (ap : Nat) (bp : Nat) (rp : Nat) (C : M2) (T : M2) (G : M2) (P : M2) (Y : M2) (L : L2) (B : M2) (X : L2) (x1 : Int32) (K : Int32 → Nat → Nat → Nat → M2 → M2 → M2 → M2 → M2 → L2 → M2 → L2 → Prop) (hm : wp_L_cap q ap bp rp C T G P Y L B X x1 K) : Met l yL_cap (wyh yL_cap cL_cap 4 (some .int) [(0, 9, 12, 24)]) (rk 8 1 6) (preX vwCl D Z rx (LX Z a t b q q2 ow ap bp rp C T G P Y L B X) sz [.ref (a 90), .int x1, .ref (ow)]) (poI vwCl D Z (fun u : Nat × Nat × Nat × M2 × M2 × M2 × M2 × M2 × L2 × M2 × L2 => LX Z a t b q q2 ow u.1 u.2.1 u.2.2.1 u.2.2.2.1 u.2.2.2.2.1 u.2.2.2.2.2.1 u.2.2.2.2.2.2.1 u.2.2.2.2.2.2.2.1 u.2.2.2.2.2.2.2.2.1 u.2.2.2.2.2.2.2.2.2.1 u.2.2.2.2.2.2.2.2.2.2) (ap, bp, rp, C, T, G, P, Y, L, B, X) sz (fun (r : Int32) (u : Nat × Nat × Nat × M2 × M2 × M2 × M2 × M2 × L2 × M2 × L2) => K r u.1 u.2.1 u.2.2.1 u.2.2.2.1 u.2.2.2.2.1 u.2.2.2.2.2.1 u.2.2.2.2.2.2.1 u.2.2.2.2.2.2.2.1 u.2.2.2.2.2.2.2.2.1 u.2.2.2.2.2.2.2.2.2.1 u.2.2.2.2.2.2.2.2.2.2)) 1 6 (va_A (LX Z a t b q q2 ow ap bp rp C T G P Y L B X) sz) := by
  refine rw_ofH (ty := .int) (wsF := (fun u : Nat × Nat × Nat × M2 × M2 × M2 × M2 × M2 × L2 × M2 × L2 => LX Z a t b q q2 ow u.1 u.2.1 u.2.2.1 u.2.2.2.1 u.2.2.2.2.1 u.2.2.2.2.2.1 u.2.2.2.2.2.2.1 u.2.2.2.2.2.2.2.1 u.2.2.2.2.2.2.2.2.1 u.2.2.2.2.2.2.2.2.2.1 u.2.2.2.2.2.2.2.2.2.2)) (u0 := (ap, bp, rp, C, T, G, P, Y, L, B, X)) (by decide +kernel) (Nat.le_of_ble_eq_true rfl) rfl ?_
  intro p e s m args below meth c Q A hC hN hR hsz htab hT hK hret ls hl
  have hx := hC.1
  have hb := hC.2.1
  have hl : lv_has ls 4 [(0, .ref (a 90)), (1, .int x1), (2, .ref (ow))] := hl
  have hT : TS vwCl D (LX Z a t b q q2 ow ap bp rp C T G P Y L B X) A s.heap s.heap [] := hT
  refine lv_aload_n hx hb dL_cap_0 rfl (lv_at hl 2 rfl) ?_
  refine lv_iconst (v := 0) hx hb dL_cap_1 (by decide) ?_
  refine lv_aload_n hx hb dL_cap_2 rfl (lv_at hl 0 rfl) ?_
  refine lv_iload_n hx hb dL_cap_3 rfl (lv_at hl 1 rfl) ?_
  refine xk_X5_cap hC hN hfl (hT.rxd hR) hK hT (cx_CQLX Z a t b q q2 ow ap bp rp C T G P Y L B X) rfl hm wq_1092 (by decide) hl.1 (Nat.le_of_ble_eq_true rfl) ⟨(Nat.le_of_ble_eq_true rfl), (Nat.le_of_ble_eq_true rfl)⟩ dL_cap_4 (fun k ce q9 H locs hk hT h1 h2 h3 => ?_) (fun r_4 T_4 C_4 H locs hm hT => ?_)
  · obtain ⟨e_, hm⟩ := hk
    subst e_
    refine vx_catch (own := RL) (name := "java/lang/IndexOutOfBoundsException") hC.2.2.2.1 [] ⟨0, 9, 12, 24⟩ [] htab (fun z hz => absurd hz List.not_mem_nil) (by decide) (by decide) (hC.2.2.2.2 _ wq_1003) (hR.2.2.2.2.1.use wx_834) h1 h2 h3 ?_
    refine lv_astore_n (lv' := [(3, .ref q9), (0, .ref (a 90)), (1, .int x1), (2, .ref (ow))]) hx hb dL_cap_12 rfl hl (by decide) rfl (fun ls hl => ?_)
    refine lv_iconst (v := 1) hx hb dL_cap_13 (by decide) ?_
    refine W.widen (k := 1) (n := 6) (Nat.le_of_ble_eq_true rfl) (Nat.le_of_ble_eq_true rfl) ?_
    exact hret 14 _ _ _ _ (ap, bp, rp, C, T, G, P, Y, L, B, X) hm hT rfl dL_cap_14
  have hT : TS vwCl D (LX Z a t b q q2 ow ap bp rp C_4 T_4 G P Y L B X) A s.heap H locs := hT
  refine lv_i2l (v := r_4.toInt64) hx hb dL_cap_7 rfl ?_
  refine sLX_out hC hK hT hm.1 dL_cap_8 (fun X_8 eX_8 H locs hT => ?_)
  have hm := hm.2 X_8 eX_8
  refine lv_goto (tgt := 15) hx hb dL_cap_9 (by decide) ?_
  refine lv_iconst (v := 0) hx hb dL_cap_15 (by decide) ?_
  refine W.widen (k := 1) (n := 6) (Nat.le_of_ble_eq_true rfl) (Nat.le_of_ble_eq_true rfl) ?_
  exact hret 16 _ _ _ _ (ap, bp, rp, C_4, T_4, G, P, Y, L, B, X_8) hm hT rfl dL_cap_16
section LL_cap
variable {p : Program} {l : Launch} {e : Env} {s : State} {m : MethodId} {args : Array Value} {below : List Frame} {meth : Method} {c : Code} {H H0 : Heap} {locs : List Loc} {cells slots : Nat} {Q : State → Prop} {R : Room} {rn mcR msR : Nat}
variable {pc : Nat} {ls : Array Slot} {rest : List Value} {A : Nat → Prop} {D : va_G}
variable {cc : ByteArray} {nL index : Nat} {own host : String}
theorem kl_L_cap {rx : Nat → Nat} {Z : Nat → ClassId} {a t b q q2 : Nat → Nat} {ow : Nat} {ap : Nat} {bp : Nat} {rp : Nat} {C : M2} {T : M2} {G : M2} {P : M2} {Y : M2} {L : L2} {B : M2} {X : L2} {x1 : Int32} {K : Int32 → Nat → Nat → Nat → M2 → M2 → M2 → M2 → M2 → L2 → M2 → L2 → Prop} {ws wr : va_W} {isC isR pm : List Nat} {ws' : Nat × Nat × Nat × M2 × M2 × M2 × M2 × M2 × L2 × M2 × L2 → va_W} (hC : CallFix p m c cc nL s args lw_g own) (hN : NW s) (hfl : l.stackTraces = false) (hR : RXD rx (va_A ws H.size) s H) (hK : va_K D vwCl (tysG Z) s) (hT : TS vwCl D ws A H0 H locs) (hc : Cut ws (fun u : Nat × Nat × Nat × M2 × M2 × M2 × M2 × M2 × L2 × M2 × L2 => LX Z a t b q q2 ow u.1 u.2.1 u.2.2.1 u.2.2.2.1 u.2.2.2.2.1 u.2.2.2.2.2.1 u.2.2.2.2.2.2.1 u.2.2.2.2.2.2.2.1 u.2.2.2.2.2.2.2.2.1 u.2.2.2.2.2.2.2.2.2.1 u.2.2.2.2.2.2.2.2.2.2) (ap, bp, rp, C, T, G, P, Y, L, B, X) wr isC isR pm ws') (hnd : va_nd isC = true) (hm : wp_L_cap q ap bp rp C T G P Y L B X x1 K) (hl : Cond.methodLink own index yL_cap ∈ lw_g) (hlt : 8 < rn) (hsize : ls.size = nL) (hW : (rest.map fun v => v.category).sum ≤ 8) (hf : cells + 1 ≤ mcR ∧ slots + 6 ≤ msR) (hdg : decode cc pc = .ok (.invokestatic index, 3))
    (kk : ∀ (r : Int32) (ap1 : Nat) (bp1 : Nat) (rp1 : Nat) (C1 : M2) (T1 : M2) (G1 : M2) (P1 : M2) (Y1 : M2) (L1 : L2) (B1 : M2) (X1 : L2) (H1 : Heap) (locs1 : List Loc), K r ap1 bp1 rp1 C1 T1 G1 P1 Y1 L1 B1 X1 → TS vwCl D (ws' (ap1, bp1, rp1, C1, T1, G1, P1, Y1, L1, B1, X1)) A H0 H1 locs1 → W p l e (rk rn mcR msR) s m args below meth c H1 locs1 (cells + 1) (slots + 6) Q (F0 m (pc + 3) ls (.int r :: rest))) : W p l e (rk rn mcR msR) s m args below meth c H locs cells slots Q (F0 m pc ls (.ref (ow) :: .int x1 :: .ref (a 90) :: rest)) :=
  rw_go (wsF := (fun u : Nat × Nat × Nat × M2 × M2 × M2 × M2 × M2 × L2 × M2 × L2 => LX Z a t b q q2 ow u.1 u.2.1 u.2.2.1 u.2.2.2.1 u.2.2.2.2.1 u.2.2.2.2.2.1 u.2.2.2.2.2.2.1 u.2.2.2.2.2.2.2.1 u.2.2.2.2.2.2.2.2.1 u.2.2.2.2.2.2.2.2.2.1 u.2.2.2.2.2.2.2.2.2.2)) (u0 := (ap, bp, rp, C, T, G, P, Y, L, B, X)) (K := (fun (r : Int32) (u : Nat × Nat × Nat × M2 × M2 × M2 × M2 × M2 × L2 × M2 × L2) => K r u.1 u.2.1 u.2.2.1 u.2.2.2.1 u.2.2.2.2.1 u.2.2.2.2.2.1 u.2.2.2.2.2.2.1 u.2.2.2.2.2.2.2.1 u.2.2.2.2.2.2.2.2.1 u.2.2.2.2.2.2.2.2.2.1 u.2.2.2.2.2.2.2.2.2.2)) (wr := wr) (isC := isC) (isR := isR) (pm := pm) (ws' := ws') (runSH (As := [.ref (a 90), .int x1, .ref (ow)]) hC hN (hR.sub hc.1) (c_L_cap l hfl D rx Z a t b q q2 ow H.size ap bp rp C T G P Y L B X x1 K hm) mi_L_cap hl hlt (hT.1.sub isC (map_fm hc.1)) (hT.D'.sub isC hnd hc.1) hK rfl hsize rfl hW hdg hf) hc hT (fun r u H1 locs1 hk hT1 => kk r u.1 u.2.1 u.2.2.1 u.2.2.2.1 u.2.2.2.2.1 u.2.2.2.2.2.1 u.2.2.2.2.2.2.1 u.2.2.2.2.2.2.2.1 u.2.2.2.2.2.2.2.2.1 u.2.2.2.2.2.2.2.2.2.1 u.2.2.2.2.2.2.2.2.2.2 H1 locs1 hk hT1)
end LL_cap
def wp_L_again (q : Nat → Nat) (ap : Nat) (bp : Nat) (rp : Nat) (C : M2) (T : M2) (G : M2) (P : M2) (Y : M2) (L : L2) (B : M2) (X : L2) (x1 : Int32) (x2 : Int32) (K : Int32 → Nat → Nat → Nat → M2 → M2 → M2 → M2 → M2 → L2 → M2 → L2 → Prop) : Prop := wp_X5_again P (fun k_ => (k_ = 2 ∧ K 1 ap bp rp C T G P Y L B X) ∨ (k_ = 1 ∧ K 2 ap bp rp C T G P Y L B X) ∨ (k_ = 0 ∧ K 3 ap bp rp C T G P Y L B X)) T C x1 x2 (fun r_5 T_5 C_5 => (inb 0 1 ∧ ∀ X_9 : L2, X_9 = ul2 X 500 (vp_updL (X 500) (0 : Int32).toInt.toNat r_5.toInt64) → K 0 ap bp rp C_5 T_5 G P Y L B X_9))
set_option maxRecDepth 100000 in
set_option maxHeartbeats 4000000 in
theorem c_L_again (l : Launch) (hfl : l.stackTraces = false) (D : va_G) (rx : Nat → Nat) (Z : Nat → ClassId) (a t b q q2 : Nat → Nat) (ow : Nat) (sz : Nat) (ap : Nat) (bp : Nat) (rp : Nat) (C : M2) (T : M2) (G : M2) (P : M2) (Y : M2) (L : L2) (B : M2) (X : L2) (x1 : Int32) (x2 : Int32) (K : Int32 → Nat → Nat → Nat → M2 → M2 → M2 → M2 → M2 → L2 → M2 → L2 → Prop) (hm : wp_L_again q ap bp rp C T G P Y L B X x1 x2 K) : Met l yL_again (wyh yL_again cL_again 5 (some .int) [(0, 10, 13, 24), (0, 10, 17, 19), (0, 10, 21, 13)]) (rk 8 2 12) (preX vwCl D Z rx (LX Z a t b q q2 ow ap bp rp C T G P Y L B X) sz [.ref (a 90), .int x1, .int x2, .ref (ow)]) (poI vwCl D Z (fun u : Nat × Nat × Nat × M2 × M2 × M2 × M2 × M2 × L2 × M2 × L2 => LX Z a t b q q2 ow u.1 u.2.1 u.2.2.1 u.2.2.2.1 u.2.2.2.2.1 u.2.2.2.2.2.1 u.2.2.2.2.2.2.1 u.2.2.2.2.2.2.2.1 u.2.2.2.2.2.2.2.2.1 u.2.2.2.2.2.2.2.2.2.1 u.2.2.2.2.2.2.2.2.2.2) (ap, bp, rp, C, T, G, P, Y, L, B, X) sz (fun (r : Int32) (u : Nat × Nat × Nat × M2 × M2 × M2 × M2 × M2 × L2 × M2 × L2) => K r u.1 u.2.1 u.2.2.1 u.2.2.2.1 u.2.2.2.2.1 u.2.2.2.2.2.1 u.2.2.2.2.2.2.1 u.2.2.2.2.2.2.2.1 u.2.2.2.2.2.2.2.2.1 u.2.2.2.2.2.2.2.2.2.1 u.2.2.2.2.2.2.2.2.2.2)) 2 12 (va_A (LX Z a t b q q2 ow ap bp rp C T G P Y L B X) sz) := by
  refine rw_ofH (ty := .int) (wsF := (fun u : Nat × Nat × Nat × M2 × M2 × M2 × M2 × M2 × L2 × M2 × L2 => LX Z a t b q q2 ow u.1 u.2.1 u.2.2.1 u.2.2.2.1 u.2.2.2.2.1 u.2.2.2.2.2.1 u.2.2.2.2.2.2.1 u.2.2.2.2.2.2.2.1 u.2.2.2.2.2.2.2.2.1 u.2.2.2.2.2.2.2.2.2.1 u.2.2.2.2.2.2.2.2.2.2)) (u0 := (ap, bp, rp, C, T, G, P, Y, L, B, X)) (by decide +kernel) (Nat.le_of_ble_eq_true rfl) rfl ?_
  intro p e s m args below meth c Q A hC hN hR hsz htab hT hK hret ls hl
  have hx := hC.1
  have hb := hC.2.1
  have hl : lv_has ls 5 [(0, .ref (a 90)), (1, .int x1), (2, .int x2), (3, .ref (ow))] := hl
  have hT : TS vwCl D (LX Z a t b q q2 ow ap bp rp C T G P Y L B X) A s.heap s.heap [] := hT
  refine lv_aload_n hx hb dL_again_0 rfl (lv_at hl 3 rfl) ?_
  refine lv_iconst (v := 0) hx hb dL_again_1 (by decide) ?_
  refine lv_aload_n hx hb dL_again_2 rfl (lv_at hl 0 rfl) ?_
  refine lv_iload_n hx hb dL_again_3 rfl (lv_at hl 1 rfl) ?_
  refine lv_iload_n hx hb dL_again_4 rfl (lv_at hl 2 rfl) ?_
  refine xk_X5_again hC hN hfl (hT.rxd hR) hK hT (cx_CQLX Z a t b q q2 ow ap bp rp C T G P Y L B X) rfl hm wq_1099 (by decide) hl.1 (Nat.le_of_ble_eq_true rfl) ⟨(Nat.le_of_ble_eq_true rfl), (Nat.le_of_ble_eq_true rfl)⟩ dL_again_5 (fun k ce q9 H locs hk hT h1 h2 h3 => ?_) (fun r_5 T_5 C_5 H locs hm hT => ?_)
  · rcases hk with hk | hk | hk
    · obtain ⟨e_, hm⟩ := hk
      subst e_
      refine vx_catch (own := RL) (name := "java/lang/IndexOutOfBoundsException") hC.2.2.2.1 [] ⟨0, 10, 13, 24⟩ [⟨0, 10, 17, 19⟩, ⟨0, 10, 21, 13⟩] htab (fun z hz => absurd hz List.not_mem_nil) (by decide) (by decide) (hC.2.2.2.2 _ wq_1003) (hR.2.2.2.2.1.use wx_834) h1 h2 h3 ?_
      refine lv_astore (lv' := [(4, .ref q9), (0, .ref (a 90)), (1, .int x1), (2, .int x2), (3, .ref (ow))]) hx hb dL_again_13 hl (by decide) rfl (fun ls hl => ?_)
      refine lv_iconst (v := 1) hx hb dL_again_15 (by decide) ?_
      refine W.widen (k := 2) (n := 12) (Nat.le_of_ble_eq_true rfl) (Nat.le_of_ble_eq_true rfl) ?_
      exact hret 16 _ _ _ _ (ap, bp, rp, C, T, G, P, Y, L, B, X) hm hT rfl dL_again_16
    · obtain ⟨e_, hm⟩ := hk
      subst e_
      refine vx_catch (own := RL) (name := "java/lang/IllegalArgumentException") hC.2.2.2.1 [⟨0, 10, 13, 24⟩] ⟨0, 10, 17, 19⟩ [⟨0, 10, 21, 13⟩] htab (fun z hz => by rw [List.mem_singleton.mp hz]; exact Or.inr ⟨by decide, _, hC.2.2.2.2 _ wq_1003, hR.2.2.2.2.2.1⟩) (by decide) (by decide) (hC.2.2.2.2 _ wq_979) (hR.2.2.2.2.1.use wx_986) h1 h2 h3 ?_
      refine lv_astore (lv' := [(4, .ref q9), (0, .ref (a 90)), (1, .int x1), (2, .int x2), (3, .ref (ow))]) hx hb dL_again_17 hl (by decide) rfl (fun ls hl => ?_)
      refine lv_iconst (v := 2) hx hb dL_again_19 (by decide) ?_
      refine W.widen (k := 2) (n := 12) (Nat.le_of_ble_eq_true rfl) (Nat.le_of_ble_eq_true rfl) ?_
      exact hret 20 _ _ _ _ (ap, bp, rp, C, T, G, P, Y, L, B, X) hm hT rfl dL_again_20
    · obtain ⟨e_, hm⟩ := hk
      subst e_
      refine vx_catch (own := RL) (name := "java/lang/IllegalStateException") hC.2.2.2.1 [⟨0, 10, 13, 24⟩, ⟨0, 10, 17, 19⟩] ⟨0, 10, 21, 13⟩ [] htab (fun z hz => (List.mem_cons.mp hz).elim (fun e => (by rw [e]; exact Or.inr ⟨by decide, _, hC.2.2.2.2 _ wq_1003, hR.2.2.2.2.2.2.1⟩)) (fun hz => (by rw [List.mem_singleton.mp hz]; exact Or.inr ⟨by decide, _, hC.2.2.2.2 _ wq_979, hR.2.2.2.2.2.2.2.1⟩))) (by decide) (by decide) (hC.2.2.2.2 _ wq_951) (hR.2.2.2.2.1.use wx_958) h1 h2 h3 ?_
      refine lv_astore (lv' := [(4, .ref q9), (0, .ref (a 90)), (1, .int x1), (2, .int x2), (3, .ref (ow))]) hx hb dL_again_21 hl (by decide) rfl (fun ls hl => ?_)
      refine lv_iconst (v := 3) hx hb dL_again_23 (by decide) ?_
      refine W.widen (k := 2) (n := 12) (Nat.le_of_ble_eq_true rfl) (Nat.le_of_ble_eq_true rfl) ?_
      exact hret 24 _ _ _ _ (ap, bp, rp, C, T, G, P, Y, L, B, X) hm hT rfl dL_again_24
  have hT : TS vwCl D (LX Z a t b q q2 ow ap bp rp C_5 T_5 G P Y L B X) A s.heap H locs := hT
  refine lv_i2l (v := r_5.toInt64) hx hb dL_again_8 rfl ?_
  refine sLX_out hC hK hT hm.1 dL_again_9 (fun X_9 eX_9 H locs hT => ?_)
  have hm := hm.2 X_9 eX_9
  refine lv_goto (tgt := 25) hx hb dL_again_10 (by decide) ?_
  refine lv_iconst (v := 0) hx hb dL_again_25 (by decide) ?_
  refine W.widen (k := 2) (n := 12) (Nat.le_of_ble_eq_true rfl) (Nat.le_of_ble_eq_true rfl) ?_
  exact hret 26 _ _ _ _ (ap, bp, rp, C_5, T_5, G, P, Y, L, B, X_9) hm hT rfl dL_again_26
section LL_again
variable {p : Program} {l : Launch} {e : Env} {s : State} {m : MethodId} {args : Array Value} {below : List Frame} {meth : Method} {c : Code} {H H0 : Heap} {locs : List Loc} {cells slots : Nat} {Q : State → Prop} {R : Room} {rn mcR msR : Nat}
variable {pc : Nat} {ls : Array Slot} {rest : List Value} {A : Nat → Prop} {D : va_G}
variable {cc : ByteArray} {nL index : Nat} {own host : String}
theorem kl_L_again {rx : Nat → Nat} {Z : Nat → ClassId} {a t b q q2 : Nat → Nat} {ow : Nat} {ap : Nat} {bp : Nat} {rp : Nat} {C : M2} {T : M2} {G : M2} {P : M2} {Y : M2} {L : L2} {B : M2} {X : L2} {x1 : Int32} {x2 : Int32} {K : Int32 → Nat → Nat → Nat → M2 → M2 → M2 → M2 → M2 → L2 → M2 → L2 → Prop} {ws wr : va_W} {isC isR pm : List Nat} {ws' : Nat × Nat × Nat × M2 × M2 × M2 × M2 × M2 × L2 × M2 × L2 → va_W} (hC : CallFix p m c cc nL s args lw_g own) (hN : NW s) (hfl : l.stackTraces = false) (hR : RXD rx (va_A ws H.size) s H) (hK : va_K D vwCl (tysG Z) s) (hT : TS vwCl D ws A H0 H locs) (hc : Cut ws (fun u : Nat × Nat × Nat × M2 × M2 × M2 × M2 × M2 × L2 × M2 × L2 => LX Z a t b q q2 ow u.1 u.2.1 u.2.2.1 u.2.2.2.1 u.2.2.2.2.1 u.2.2.2.2.2.1 u.2.2.2.2.2.2.1 u.2.2.2.2.2.2.2.1 u.2.2.2.2.2.2.2.2.1 u.2.2.2.2.2.2.2.2.2.1 u.2.2.2.2.2.2.2.2.2.2) (ap, bp, rp, C, T, G, P, Y, L, B, X) wr isC isR pm ws') (hnd : va_nd isC = true) (hm : wp_L_again q ap bp rp C T G P Y L B X x1 x2 K) (hl : Cond.methodLink own index yL_again ∈ lw_g) (hlt : 8 < rn) (hsize : ls.size = nL) (hW : (rest.map fun v => v.category).sum ≤ 8) (hf : cells + 2 ≤ mcR ∧ slots + 12 ≤ msR) (hdg : decode cc pc = .ok (.invokestatic index, 3))
    (kk : ∀ (r : Int32) (ap1 : Nat) (bp1 : Nat) (rp1 : Nat) (C1 : M2) (T1 : M2) (G1 : M2) (P1 : M2) (Y1 : M2) (L1 : L2) (B1 : M2) (X1 : L2) (H1 : Heap) (locs1 : List Loc), K r ap1 bp1 rp1 C1 T1 G1 P1 Y1 L1 B1 X1 → TS vwCl D (ws' (ap1, bp1, rp1, C1, T1, G1, P1, Y1, L1, B1, X1)) A H0 H1 locs1 → W p l e (rk rn mcR msR) s m args below meth c H1 locs1 (cells + 2) (slots + 12) Q (F0 m (pc + 3) ls (.int r :: rest))) : W p l e (rk rn mcR msR) s m args below meth c H locs cells slots Q (F0 m pc ls (.ref (ow) :: .int x2 :: .int x1 :: .ref (a 90) :: rest)) :=
  rw_go (wsF := (fun u : Nat × Nat × Nat × M2 × M2 × M2 × M2 × M2 × L2 × M2 × L2 => LX Z a t b q q2 ow u.1 u.2.1 u.2.2.1 u.2.2.2.1 u.2.2.2.2.1 u.2.2.2.2.2.1 u.2.2.2.2.2.2.1 u.2.2.2.2.2.2.2.1 u.2.2.2.2.2.2.2.2.1 u.2.2.2.2.2.2.2.2.2.1 u.2.2.2.2.2.2.2.2.2.2)) (u0 := (ap, bp, rp, C, T, G, P, Y, L, B, X)) (K := (fun (r : Int32) (u : Nat × Nat × Nat × M2 × M2 × M2 × M2 × M2 × L2 × M2 × L2) => K r u.1 u.2.1 u.2.2.1 u.2.2.2.1 u.2.2.2.2.1 u.2.2.2.2.2.1 u.2.2.2.2.2.2.1 u.2.2.2.2.2.2.2.1 u.2.2.2.2.2.2.2.2.1 u.2.2.2.2.2.2.2.2.2.1 u.2.2.2.2.2.2.2.2.2.2)) (wr := wr) (isC := isC) (isR := isR) (pm := pm) (ws' := ws') (runSH (As := [.ref (a 90), .int x1, .int x2, .ref (ow)]) hC hN (hR.sub hc.1) (c_L_again l hfl D rx Z a t b q q2 ow H.size ap bp rp C T G P Y L B X x1 x2 K hm) mi_L_again hl hlt (hT.1.sub isC (map_fm hc.1)) (hT.D'.sub isC hnd hc.1) hK rfl hsize rfl hW hdg hf) hc hT (fun r u H1 locs1 hk hT1 => kk r u.1 u.2.1 u.2.2.1 u.2.2.2.1 u.2.2.2.2.1 u.2.2.2.2.2.1 u.2.2.2.2.2.2.1 u.2.2.2.2.2.2.2.1 u.2.2.2.2.2.2.2.2.1 u.2.2.2.2.2.2.2.2.2.1 u.2.2.2.2.2.2.2.2.2.2 H1 locs1 hk hT1)
end LL_again
def wp_L_pass (q : Nat → Nat) (ap : Nat) (bp : Nat) (rp : Nat) (C : M2) (T : M2) (G : M2) (P : M2) (Y : M2) (L : L2) (B : M2) (X : L2) (x1 : Int32) (K : Int32 → Nat → Nat → Nat → M2 → M2 → M2 → M2 → M2 → L2 → M2 → L2 → Prop) : Prop := wp_X5_pass P (fun k_ => (k_ = 1 ∧ K 1 ap bp rp C T G P Y L B X)) T C x1 (fun r_4 T_4 C_4 => (inb 0 1 ∧ ∀ X_8 : L2, X_8 = ul2 X 500 (vp_updL (X 500) (0 : Int32).toInt.toNat r_4.toInt64) → K 0 ap bp rp C_4 T_4 G P Y L B X_8))
set_option maxRecDepth 100000 in
set_option maxHeartbeats 4000000 in
theorem c_L_pass (l : Launch) (hfl : l.stackTraces = false) (D : va_G) (rx : Nat → Nat) (Z : Nat → ClassId) (a t b q q2 : Nat → Nat) (ow : Nat) (sz : Nat) (ap : Nat) (bp : Nat) (rp : Nat) (C : M2) (T : M2) (G : M2) (P : M2) (Y : M2) (L : L2) (B : M2) (X : L2) (x1 : Int32) (K : Int32 → Nat → Nat → Nat → M2 → M2 → M2 → M2 → M2 → L2 → M2 → L2 → Prop) (hm : wp_L_pass q ap bp rp C T G P Y L B X x1 K) : Met l yL_pass (wyh yL_pass cL_pass 4 (some .int) [(0, 9, 12, 19)]) (rk 8 1 6) (preX vwCl D Z rx (LX Z a t b q q2 ow ap bp rp C T G P Y L B X) sz [.ref (a 90), .int x1, .ref (ow)]) (poI vwCl D Z (fun u : Nat × Nat × Nat × M2 × M2 × M2 × M2 × M2 × L2 × M2 × L2 => LX Z a t b q q2 ow u.1 u.2.1 u.2.2.1 u.2.2.2.1 u.2.2.2.2.1 u.2.2.2.2.2.1 u.2.2.2.2.2.2.1 u.2.2.2.2.2.2.2.1 u.2.2.2.2.2.2.2.2.1 u.2.2.2.2.2.2.2.2.2.1 u.2.2.2.2.2.2.2.2.2.2) (ap, bp, rp, C, T, G, P, Y, L, B, X) sz (fun (r : Int32) (u : Nat × Nat × Nat × M2 × M2 × M2 × M2 × M2 × L2 × M2 × L2) => K r u.1 u.2.1 u.2.2.1 u.2.2.2.1 u.2.2.2.2.1 u.2.2.2.2.2.1 u.2.2.2.2.2.2.1 u.2.2.2.2.2.2.2.1 u.2.2.2.2.2.2.2.2.1 u.2.2.2.2.2.2.2.2.2.1 u.2.2.2.2.2.2.2.2.2.2)) 1 6 (va_A (LX Z a t b q q2 ow ap bp rp C T G P Y L B X) sz) := by
  refine rw_ofH (ty := .int) (wsF := (fun u : Nat × Nat × Nat × M2 × M2 × M2 × M2 × M2 × L2 × M2 × L2 => LX Z a t b q q2 ow u.1 u.2.1 u.2.2.1 u.2.2.2.1 u.2.2.2.2.1 u.2.2.2.2.2.1 u.2.2.2.2.2.2.1 u.2.2.2.2.2.2.2.1 u.2.2.2.2.2.2.2.2.1 u.2.2.2.2.2.2.2.2.2.1 u.2.2.2.2.2.2.2.2.2.2)) (u0 := (ap, bp, rp, C, T, G, P, Y, L, B, X)) (by decide +kernel) (Nat.le_of_ble_eq_true rfl) rfl ?_
  intro p e s m args below meth c Q A hC hN hR hsz htab hT hK hret ls hl
  have hx := hC.1
  have hb := hC.2.1
  have hl : lv_has ls 4 [(0, .ref (a 90)), (1, .int x1), (2, .ref (ow))] := hl
  have hT : TS vwCl D (LX Z a t b q q2 ow ap bp rp C T G P Y L B X) A s.heap s.heap [] := hT
  refine lv_aload_n hx hb dL_pass_0 rfl (lv_at hl 2 rfl) ?_
  refine lv_iconst (v := 0) hx hb dL_pass_1 (by decide) ?_
  refine lv_aload_n hx hb dL_pass_2 rfl (lv_at hl 0 rfl) ?_
  refine lv_iload_n hx hb dL_pass_3 rfl (lv_at hl 1 rfl) ?_
  refine xk_X5_pass hC hN hfl (hT.rxd hR) hK hT (cx_CQLX Z a t b q q2 ow ap bp rp C T G P Y L B X) rfl hm wq_1112 (by decide) hl.1 (Nat.le_of_ble_eq_true rfl) ⟨(Nat.le_of_ble_eq_true rfl), (Nat.le_of_ble_eq_true rfl)⟩ dL_pass_4 (fun k ce q9 H locs hk hT h1 h2 h3 => ?_) (fun r_4 T_4 C_4 H locs hm hT => ?_)
  · obtain ⟨e_, hm⟩ := hk
    subst e_
    refine vx_catch (own := RL) (name := "java/lang/IllegalArgumentException") hC.2.2.2.1 [] ⟨0, 9, 12, 19⟩ [] htab (fun z hz => absurd hz List.not_mem_nil) (by decide) (by decide) (hC.2.2.2.2 _ wq_979) (hR.2.2.2.2.1.use wx_986) h1 h2 h3 ?_
    refine lv_astore_n (lv' := [(3, .ref q9), (0, .ref (a 90)), (1, .int x1), (2, .ref (ow))]) hx hb dL_pass_12 rfl hl (by decide) rfl (fun ls hl => ?_)
    refine lv_iconst (v := 1) hx hb dL_pass_13 (by decide) ?_
    refine W.widen (k := 1) (n := 6) (Nat.le_of_ble_eq_true rfl) (Nat.le_of_ble_eq_true rfl) ?_
    exact hret 14 _ _ _ _ (ap, bp, rp, C, T, G, P, Y, L, B, X) hm hT rfl dL_pass_14
  have hT : TS vwCl D (LX Z a t b q q2 ow ap bp rp C_4 T_4 G P Y L B X) A s.heap H locs := hT
  refine lv_i2l (v := r_4.toInt64) hx hb dL_pass_7 rfl ?_
  refine sLX_out hC hK hT hm.1 dL_pass_8 (fun X_8 eX_8 H locs hT => ?_)
  have hm := hm.2 X_8 eX_8
  refine lv_goto (tgt := 15) hx hb dL_pass_9 (by decide) ?_
  refine lv_iconst (v := 0) hx hb dL_pass_15 (by decide) ?_
  refine W.widen (k := 1) (n := 6) (Nat.le_of_ble_eq_true rfl) (Nat.le_of_ble_eq_true rfl) ?_
  exact hret 16 _ _ _ _ (ap, bp, rp, C_4, T_4, G, P, Y, L, B, X_8) hm hT rfl dL_pass_16
section LL_pass
variable {p : Program} {l : Launch} {e : Env} {s : State} {m : MethodId} {args : Array Value} {below : List Frame} {meth : Method} {c : Code} {H H0 : Heap} {locs : List Loc} {cells slots : Nat} {Q : State → Prop} {R : Room} {rn mcR msR : Nat}
variable {pc : Nat} {ls : Array Slot} {rest : List Value} {A : Nat → Prop} {D : va_G}
variable {cc : ByteArray} {nL index : Nat} {own host : String}
theorem kl_L_pass {rx : Nat → Nat} {Z : Nat → ClassId} {a t b q q2 : Nat → Nat} {ow : Nat} {ap : Nat} {bp : Nat} {rp : Nat} {C : M2} {T : M2} {G : M2} {P : M2} {Y : M2} {L : L2} {B : M2} {X : L2} {x1 : Int32} {K : Int32 → Nat → Nat → Nat → M2 → M2 → M2 → M2 → M2 → L2 → M2 → L2 → Prop} {ws wr : va_W} {isC isR pm : List Nat} {ws' : Nat × Nat × Nat × M2 × M2 × M2 × M2 × M2 × L2 × M2 × L2 → va_W} (hC : CallFix p m c cc nL s args lw_g own) (hN : NW s) (hfl : l.stackTraces = false) (hR : RXD rx (va_A ws H.size) s H) (hK : va_K D vwCl (tysG Z) s) (hT : TS vwCl D ws A H0 H locs) (hc : Cut ws (fun u : Nat × Nat × Nat × M2 × M2 × M2 × M2 × M2 × L2 × M2 × L2 => LX Z a t b q q2 ow u.1 u.2.1 u.2.2.1 u.2.2.2.1 u.2.2.2.2.1 u.2.2.2.2.2.1 u.2.2.2.2.2.2.1 u.2.2.2.2.2.2.2.1 u.2.2.2.2.2.2.2.2.1 u.2.2.2.2.2.2.2.2.2.1 u.2.2.2.2.2.2.2.2.2.2) (ap, bp, rp, C, T, G, P, Y, L, B, X) wr isC isR pm ws') (hnd : va_nd isC = true) (hm : wp_L_pass q ap bp rp C T G P Y L B X x1 K) (hl : Cond.methodLink own index yL_pass ∈ lw_g) (hlt : 8 < rn) (hsize : ls.size = nL) (hW : (rest.map fun v => v.category).sum ≤ 8) (hf : cells + 1 ≤ mcR ∧ slots + 6 ≤ msR) (hdg : decode cc pc = .ok (.invokestatic index, 3))
    (kk : ∀ (r : Int32) (ap1 : Nat) (bp1 : Nat) (rp1 : Nat) (C1 : M2) (T1 : M2) (G1 : M2) (P1 : M2) (Y1 : M2) (L1 : L2) (B1 : M2) (X1 : L2) (H1 : Heap) (locs1 : List Loc), K r ap1 bp1 rp1 C1 T1 G1 P1 Y1 L1 B1 X1 → TS vwCl D (ws' (ap1, bp1, rp1, C1, T1, G1, P1, Y1, L1, B1, X1)) A H0 H1 locs1 → W p l e (rk rn mcR msR) s m args below meth c H1 locs1 (cells + 1) (slots + 6) Q (F0 m (pc + 3) ls (.int r :: rest))) : W p l e (rk rn mcR msR) s m args below meth c H locs cells slots Q (F0 m pc ls (.ref (ow) :: .int x1 :: .ref (a 90) :: rest)) :=
  rw_go (wsF := (fun u : Nat × Nat × Nat × M2 × M2 × M2 × M2 × M2 × L2 × M2 × L2 => LX Z a t b q q2 ow u.1 u.2.1 u.2.2.1 u.2.2.2.1 u.2.2.2.2.1 u.2.2.2.2.2.1 u.2.2.2.2.2.2.1 u.2.2.2.2.2.2.2.1 u.2.2.2.2.2.2.2.2.1 u.2.2.2.2.2.2.2.2.2.1 u.2.2.2.2.2.2.2.2.2.2)) (u0 := (ap, bp, rp, C, T, G, P, Y, L, B, X)) (K := (fun (r : Int32) (u : Nat × Nat × Nat × M2 × M2 × M2 × M2 × M2 × L2 × M2 × L2) => K r u.1 u.2.1 u.2.2.1 u.2.2.2.1 u.2.2.2.2.1 u.2.2.2.2.2.1 u.2.2.2.2.2.2.1 u.2.2.2.2.2.2.2.1 u.2.2.2.2.2.2.2.2.1 u.2.2.2.2.2.2.2.2.2.1 u.2.2.2.2.2.2.2.2.2.2)) (wr := wr) (isC := isC) (isR := isR) (pm := pm) (ws' := ws') (runSH (As := [.ref (a 90), .int x1, .ref (ow)]) hC hN (hR.sub hc.1) (c_L_pass l hfl D rx Z a t b q q2 ow H.size ap bp rp C T G P Y L B X x1 K hm) mi_L_pass hl hlt (hT.1.sub isC (map_fm hc.1)) (hT.D'.sub isC hnd hc.1) hK rfl hsize rfl hW hdg hf) hc hT (fun r u H1 locs1 hk hT1 => kk r u.1 u.2.1 u.2.2.1 u.2.2.2.1 u.2.2.2.2.1 u.2.2.2.2.2.1 u.2.2.2.2.2.2.1 u.2.2.2.2.2.2.2.1 u.2.2.2.2.2.2.2.2.1 u.2.2.2.2.2.2.2.2.2.1 u.2.2.2.2.2.2.2.2.2.2 H1 locs1 hk hT1)
end LL_pass
def wp_L_until (q : Nat → Nat) (ap : Nat) (bp : Nat) (rp : Nat) (C : M2) (T : M2) (G : M2) (P : M2) (Y : M2) (L : L2) (B : M2) (X : L2) (x1 : Int32) (K : Int32 → Nat → Nat → Nat → M2 → M2 → M2 → M2 → M2 → L2 → M2 → L2 → Prop) : Prop := wp_X5_until q P (fun k_ => (k_ = 2 ∧ K 1 ap bp rp C T G P Y L B X)) ap T G C x1 (fun r_4 ap_4 T_4 G_4 C_4 => (inb 0 1 ∧ ∀ X_8 : L2, X_8 = ul2 X 500 (vp_updL (X 500) (0 : Int32).toInt.toNat r_4.toInt64) → K 0 ap_4 bp rp C_4 T_4 G_4 P Y L B X_8))
set_option maxRecDepth 100000 in
set_option maxHeartbeats 4000000 in
theorem c_L_until (l : Launch) (hfl : l.stackTraces = false) (D : va_G) (rx : Nat → Nat) (Z : Nat → ClassId) (a t b q q2 : Nat → Nat) (ow : Nat) (sz : Nat) (ap : Nat) (bp : Nat) (rp : Nat) (C : M2) (T : M2) (G : M2) (P : M2) (Y : M2) (L : L2) (B : M2) (X : L2) (x1 : Int32) (K : Int32 → Nat → Nat → Nat → M2 → M2 → M2 → M2 → M2 → L2 → M2 → L2 → Prop) (hm : wp_L_until q ap bp rp C T G P Y L B X x1 K) : Met l yL_until (wyh yL_until cL_until 4 (some .int) [(0, 9, 12, 24)]) (rk 8 1 6) (preX vwCl D Z rx (LX Z a t b q q2 ow ap bp rp C T G P Y L B X) sz [.ref (a 90), .int x1, .ref (ow)]) (poI vwCl D Z (fun u : Nat × Nat × Nat × M2 × M2 × M2 × M2 × M2 × L2 × M2 × L2 => LX Z a t b q q2 ow u.1 u.2.1 u.2.2.1 u.2.2.2.1 u.2.2.2.2.1 u.2.2.2.2.2.1 u.2.2.2.2.2.2.1 u.2.2.2.2.2.2.2.1 u.2.2.2.2.2.2.2.2.1 u.2.2.2.2.2.2.2.2.2.1 u.2.2.2.2.2.2.2.2.2.2) (ap, bp, rp, C, T, G, P, Y, L, B, X) sz (fun (r : Int32) (u : Nat × Nat × Nat × M2 × M2 × M2 × M2 × M2 × L2 × M2 × L2) => K r u.1 u.2.1 u.2.2.1 u.2.2.2.1 u.2.2.2.2.1 u.2.2.2.2.2.1 u.2.2.2.2.2.2.1 u.2.2.2.2.2.2.2.1 u.2.2.2.2.2.2.2.2.1 u.2.2.2.2.2.2.2.2.2.1 u.2.2.2.2.2.2.2.2.2.2)) 1 6 (va_A (LX Z a t b q q2 ow ap bp rp C T G P Y L B X) sz) := by
  refine rw_ofH (ty := .int) (wsF := (fun u : Nat × Nat × Nat × M2 × M2 × M2 × M2 × M2 × L2 × M2 × L2 => LX Z a t b q q2 ow u.1 u.2.1 u.2.2.1 u.2.2.2.1 u.2.2.2.2.1 u.2.2.2.2.2.1 u.2.2.2.2.2.2.1 u.2.2.2.2.2.2.2.1 u.2.2.2.2.2.2.2.2.1 u.2.2.2.2.2.2.2.2.2.1 u.2.2.2.2.2.2.2.2.2.2)) (u0 := (ap, bp, rp, C, T, G, P, Y, L, B, X)) (by decide +kernel) (Nat.le_of_ble_eq_true rfl) rfl ?_
  intro p e s m args below meth c Q A hC hN hR hsz htab hT hK hret ls hl
  have hx := hC.1
  have hb := hC.2.1
  have hl : lv_has ls 4 [(0, .ref (a 90)), (1, .int x1), (2, .ref (ow))] := hl
  have hT : TS vwCl D (LX Z a t b q q2 ow ap bp rp C T G P Y L B X) A s.heap s.heap [] := hT
  refine lv_aload_n hx hb dL_until_0 rfl (lv_at hl 2 rfl) ?_
  refine lv_iconst (v := 0) hx hb dL_until_1 (by decide) ?_
  refine lv_aload_n hx hb dL_until_2 rfl (lv_at hl 0 rfl) ?_
  refine lv_iload_n hx hb dL_until_3 rfl (lv_at hl 1 rfl) ?_
  refine xk_X5_until hC hN hfl (hT.rxd hR) hK hT (cx_CALX Z a t b q q2 ow ap bp rp C T G P Y L B X) rfl hm wq_1183 (by decide) hl.1 (Nat.le_of_ble_eq_true rfl) ⟨(Nat.le_of_ble_eq_true rfl), (Nat.le_of_ble_eq_true rfl)⟩ dL_until_4 (fun k ce q9 H locs hk hT h1 h2 h3 => ?_) (fun r_4 ap_4 T_4 G_4 C_4 H locs hm hT => ?_)
  · obtain ⟨e_, hm⟩ := hk
    subst e_
    refine vx_catch (own := RL) (name := "java/lang/IndexOutOfBoundsException") hC.2.2.2.1 [] ⟨0, 9, 12, 24⟩ [] htab (fun z hz => absurd hz List.not_mem_nil) (by decide) (by decide) (hC.2.2.2.2 _ wq_1003) (hR.2.2.2.2.1.use wx_834) h1 h2 h3 ?_
    refine lv_astore_n (lv' := [(3, .ref q9), (0, .ref (a 90)), (1, .int x1), (2, .ref (ow))]) hx hb dL_until_12 rfl hl (by decide) rfl (fun ls hl => ?_)
    refine lv_iconst (v := 1) hx hb dL_until_13 (by decide) ?_
    refine W.widen (k := 1) (n := 6) (Nat.le_of_ble_eq_true rfl) (Nat.le_of_ble_eq_true rfl) ?_
    exact hret 14 _ _ _ _ (ap, bp, rp, C, T, G, P, Y, L, B, X) hm hT rfl dL_until_14
  have hT : TS vwCl D (LX Z a t b q q2 ow ap_4 bp rp C_4 T_4 G_4 P Y L B X) A s.heap H locs := hT
  refine lv_i2l (v := r_4.toInt64) hx hb dL_until_7 rfl ?_
  refine sLX_out hC hK hT hm.1 dL_until_8 (fun X_8 eX_8 H locs hT => ?_)
  have hm := hm.2 X_8 eX_8
  refine lv_goto (tgt := 15) hx hb dL_until_9 (by decide) ?_
  refine lv_iconst (v := 0) hx hb dL_until_15 (by decide) ?_
  refine W.widen (k := 1) (n := 6) (Nat.le_of_ble_eq_true rfl) (Nat.le_of_ble_eq_true rfl) ?_
  exact hret 16 _ _ _ _ (ap_4, bp, rp, C_4, T_4, G_4, P, Y, L, B, X_8) hm hT rfl dL_until_16
section LL_until
variable {p : Program} {l : Launch} {e : Env} {s : State} {m : MethodId} {args : Array Value} {below : List Frame} {meth : Method} {c : Code} {H H0 : Heap} {locs : List Loc} {cells slots : Nat} {Q : State → Prop} {R : Room} {rn mcR msR : Nat}
variable {pc : Nat} {ls : Array Slot} {rest : List Value} {A : Nat → Prop} {D : va_G}
variable {cc : ByteArray} {nL index : Nat} {own host : String}
theorem kl_L_until {rx : Nat → Nat} {Z : Nat → ClassId} {a t b q q2 : Nat → Nat} {ow : Nat} {ap : Nat} {bp : Nat} {rp : Nat} {C : M2} {T : M2} {G : M2} {P : M2} {Y : M2} {L : L2} {B : M2} {X : L2} {x1 : Int32} {K : Int32 → Nat → Nat → Nat → M2 → M2 → M2 → M2 → M2 → L2 → M2 → L2 → Prop} {ws wr : va_W} {isC isR pm : List Nat} {ws' : Nat × Nat × Nat × M2 × M2 × M2 × M2 × M2 × L2 × M2 × L2 → va_W} (hC : CallFix p m c cc nL s args lw_g own) (hN : NW s) (hfl : l.stackTraces = false) (hR : RXD rx (va_A ws H.size) s H) (hK : va_K D vwCl (tysG Z) s) (hT : TS vwCl D ws A H0 H locs) (hc : Cut ws (fun u : Nat × Nat × Nat × M2 × M2 × M2 × M2 × M2 × L2 × M2 × L2 => LX Z a t b q q2 ow u.1 u.2.1 u.2.2.1 u.2.2.2.1 u.2.2.2.2.1 u.2.2.2.2.2.1 u.2.2.2.2.2.2.1 u.2.2.2.2.2.2.2.1 u.2.2.2.2.2.2.2.2.1 u.2.2.2.2.2.2.2.2.2.1 u.2.2.2.2.2.2.2.2.2.2) (ap, bp, rp, C, T, G, P, Y, L, B, X) wr isC isR pm ws') (hnd : va_nd isC = true) (hm : wp_L_until q ap bp rp C T G P Y L B X x1 K) (hl : Cond.methodLink own index yL_until ∈ lw_g) (hlt : 8 < rn) (hsize : ls.size = nL) (hW : (rest.map fun v => v.category).sum ≤ 8) (hf : cells + 1 ≤ mcR ∧ slots + 6 ≤ msR) (hdg : decode cc pc = .ok (.invokestatic index, 3))
    (kk : ∀ (r : Int32) (ap1 : Nat) (bp1 : Nat) (rp1 : Nat) (C1 : M2) (T1 : M2) (G1 : M2) (P1 : M2) (Y1 : M2) (L1 : L2) (B1 : M2) (X1 : L2) (H1 : Heap) (locs1 : List Loc), K r ap1 bp1 rp1 C1 T1 G1 P1 Y1 L1 B1 X1 → TS vwCl D (ws' (ap1, bp1, rp1, C1, T1, G1, P1, Y1, L1, B1, X1)) A H0 H1 locs1 → W p l e (rk rn mcR msR) s m args below meth c H1 locs1 (cells + 1) (slots + 6) Q (F0 m (pc + 3) ls (.int r :: rest))) : W p l e (rk rn mcR msR) s m args below meth c H locs cells slots Q (F0 m pc ls (.ref (ow) :: .int x1 :: .ref (a 90) :: rest)) :=
  rw_go (wsF := (fun u : Nat × Nat × Nat × M2 × M2 × M2 × M2 × M2 × L2 × M2 × L2 => LX Z a t b q q2 ow u.1 u.2.1 u.2.2.1 u.2.2.2.1 u.2.2.2.2.1 u.2.2.2.2.2.1 u.2.2.2.2.2.2.1 u.2.2.2.2.2.2.2.1 u.2.2.2.2.2.2.2.2.1 u.2.2.2.2.2.2.2.2.2.1 u.2.2.2.2.2.2.2.2.2.2)) (u0 := (ap, bp, rp, C, T, G, P, Y, L, B, X)) (K := (fun (r : Int32) (u : Nat × Nat × Nat × M2 × M2 × M2 × M2 × M2 × L2 × M2 × L2) => K r u.1 u.2.1 u.2.2.1 u.2.2.2.1 u.2.2.2.2.1 u.2.2.2.2.2.1 u.2.2.2.2.2.2.1 u.2.2.2.2.2.2.2.1 u.2.2.2.2.2.2.2.2.1 u.2.2.2.2.2.2.2.2.2.1 u.2.2.2.2.2.2.2.2.2.2)) (wr := wr) (isC := isC) (isR := isR) (pm := pm) (ws' := ws') (runSH (As := [.ref (a 90), .int x1, .ref (ow)]) hC hN (hR.sub hc.1) (c_L_until l hfl D rx Z a t b q q2 ow H.size ap bp rp C T G P Y L B X x1 K hm) mi_L_until hl hlt (hT.1.sub isC (map_fm hc.1)) (hT.D'.sub isC hnd hc.1) hK rfl hsize rfl hW hdg hf) hc hT (fun r u H1 locs1 hk hT1 => kk r u.1 u.2.1 u.2.2.1 u.2.2.2.1 u.2.2.2.2.1 u.2.2.2.2.2.1 u.2.2.2.2.2.2.1 u.2.2.2.2.2.2.2.1 u.2.2.2.2.2.2.2.2.1 u.2.2.2.2.2.2.2.2.2.1 u.2.2.2.2.2.2.2.2.2.2 H1 locs1 hk hT1)
end LL_until
def wp_L_foresee (q : Nat → Nat) (ap : Nat) (bp : Nat) (rp : Nat) (C : M2) (T : M2) (G : M2) (P : M2) (Y : M2) (L : L2) (B : M2) (X : L2) (x1 : Int32) (x2 : Int32) (K : Int32 → Nat → Nat → Nat → M2 → M2 → M2 → M2 → M2 → L2 → M2 → L2 → Prop) : Prop := wp_X5_foresee q P (fun k_ => (k_ = 1 ∧ K 1 ap bp rp C T G P Y L B X) ∨ (k_ = 2 ∧ K 2 ap bp rp C T G P Y L B X)) ap T G C x1 x2 (fun r_5 ap_5 T_5 G_5 C_5 => (inb 0 1 ∧ ∀ X_9 : L2, X_9 = ul2 X 500 (vp_updL (X 500) (0 : Int32).toInt.toNat r_5.toInt64) → K 0 ap_5 bp rp C_5 T_5 G_5 P Y L B X_9))
set_option maxRecDepth 100000 in
set_option maxHeartbeats 4000000 in
theorem c_L_foresee (l : Launch) (hfl : l.stackTraces = false) (D : va_G) (rx : Nat → Nat) (Z : Nat → ClassId) (a t b q q2 : Nat → Nat) (ow : Nat) (sz : Nat) (ap : Nat) (bp : Nat) (rp : Nat) (C : M2) (T : M2) (G : M2) (P : M2) (Y : M2) (L : L2) (B : M2) (X : L2) (x1 : Int32) (x2 : Int32) (K : Int32 → Nat → Nat → Nat → M2 → M2 → M2 → M2 → M2 → L2 → M2 → L2 → Prop) (hm : wp_L_foresee q ap bp rp C T G P Y L B X x1 x2 K) : Met l yL_foresee (wyh yL_foresee cL_foresee 5 (some .int) [(0, 10, 13, 19), (0, 10, 17, 24)]) (rk 8 2 12) (preX vwCl D Z rx (LX Z a t b q q2 ow ap bp rp C T G P Y L B X) sz [.ref (a 90), .int x1, .int x2, .ref (ow)]) (poI vwCl D Z (fun u : Nat × Nat × Nat × M2 × M2 × M2 × M2 × M2 × L2 × M2 × L2 => LX Z a t b q q2 ow u.1 u.2.1 u.2.2.1 u.2.2.2.1 u.2.2.2.2.1 u.2.2.2.2.2.1 u.2.2.2.2.2.2.1 u.2.2.2.2.2.2.2.1 u.2.2.2.2.2.2.2.2.1 u.2.2.2.2.2.2.2.2.2.1 u.2.2.2.2.2.2.2.2.2.2) (ap, bp, rp, C, T, G, P, Y, L, B, X) sz (fun (r : Int32) (u : Nat × Nat × Nat × M2 × M2 × M2 × M2 × M2 × L2 × M2 × L2) => K r u.1 u.2.1 u.2.2.1 u.2.2.2.1 u.2.2.2.2.1 u.2.2.2.2.2.1 u.2.2.2.2.2.2.1 u.2.2.2.2.2.2.2.1 u.2.2.2.2.2.2.2.2.1 u.2.2.2.2.2.2.2.2.2.1 u.2.2.2.2.2.2.2.2.2.2)) 2 12 (va_A (LX Z a t b q q2 ow ap bp rp C T G P Y L B X) sz) := by
  refine rw_ofH (ty := .int) (wsF := (fun u : Nat × Nat × Nat × M2 × M2 × M2 × M2 × M2 × L2 × M2 × L2 => LX Z a t b q q2 ow u.1 u.2.1 u.2.2.1 u.2.2.2.1 u.2.2.2.2.1 u.2.2.2.2.2.1 u.2.2.2.2.2.2.1 u.2.2.2.2.2.2.2.1 u.2.2.2.2.2.2.2.2.1 u.2.2.2.2.2.2.2.2.2.1 u.2.2.2.2.2.2.2.2.2.2)) (u0 := (ap, bp, rp, C, T, G, P, Y, L, B, X)) (by decide +kernel) (Nat.le_of_ble_eq_true rfl) rfl ?_
  intro p e s m args below meth c Q A hC hN hR hsz htab hT hK hret ls hl
  have hx := hC.1
  have hb := hC.2.1
  have hl : lv_has ls 5 [(0, .ref (a 90)), (1, .int x1), (2, .int x2), (3, .ref (ow))] := hl
  have hT : TS vwCl D (LX Z a t b q q2 ow ap bp rp C T G P Y L B X) A s.heap s.heap [] := hT
  refine lv_aload_n hx hb dL_foresee_0 rfl (lv_at hl 3 rfl) ?_
  refine lv_iconst (v := 0) hx hb dL_foresee_1 (by decide) ?_
  refine lv_aload_n hx hb dL_foresee_2 rfl (lv_at hl 0 rfl) ?_
  refine lv_iload_n hx hb dL_foresee_3 rfl (lv_at hl 1 rfl) ?_
  refine lv_iload_n hx hb dL_foresee_4 rfl (lv_at hl 2 rfl) ?_
  refine xk_X5_foresee hC hN hfl (hT.rxd hR) hK hT (cx_CALX Z a t b q q2 ow ap bp rp C T G P Y L B X) rfl hm wq_1197 (by decide) hl.1 (Nat.le_of_ble_eq_true rfl) ⟨(Nat.le_of_ble_eq_true rfl), (Nat.le_of_ble_eq_true rfl)⟩ dL_foresee_5 (fun k ce q9 H locs hk hT h1 h2 h3 => ?_) (fun r_5 ap_5 T_5 G_5 C_5 H locs hm hT => ?_)
  · rcases hk with hk | hk
    · obtain ⟨e_, hm⟩ := hk
      subst e_
      refine vx_catch (own := RL) (name := "java/lang/IllegalArgumentException") hC.2.2.2.1 [] ⟨0, 10, 13, 19⟩ [⟨0, 10, 17, 24⟩] htab (fun z hz => absurd hz List.not_mem_nil) (by decide) (by decide) (hC.2.2.2.2 _ wq_979) (hR.2.2.2.2.1.use wx_986) h1 h2 h3 ?_
      refine lv_astore (lv' := [(4, .ref q9), (0, .ref (a 90)), (1, .int x1), (2, .int x2), (3, .ref (ow))]) hx hb dL_foresee_13 hl (by decide) rfl (fun ls hl => ?_)
      refine lv_iconst (v := 1) hx hb dL_foresee_15 (by decide) ?_
      refine W.widen (k := 2) (n := 12) (Nat.le_of_ble_eq_true rfl) (Nat.le_of_ble_eq_true rfl) ?_
      exact hret 16 _ _ _ _ (ap, bp, rp, C, T, G, P, Y, L, B, X) hm hT rfl dL_foresee_16
    · obtain ⟨e_, hm⟩ := hk
      subst e_
      refine vx_catch (own := RL) (name := "java/lang/IndexOutOfBoundsException") hC.2.2.2.1 [⟨0, 10, 13, 19⟩] ⟨0, 10, 17, 24⟩ [] htab (fun z hz => by rw [List.mem_singleton.mp hz]; exact Or.inr ⟨by decide, _, hC.2.2.2.2 _ wq_979, hR.2.2.2.2.2.2.2.2⟩) (by decide) (by decide) (hC.2.2.2.2 _ wq_1003) (hR.2.2.2.2.1.use wx_834) h1 h2 h3 ?_
      refine lv_astore (lv' := [(4, .ref q9), (0, .ref (a 90)), (1, .int x1), (2, .int x2), (3, .ref (ow))]) hx hb dL_foresee_17 hl (by decide) rfl (fun ls hl => ?_)
      refine lv_iconst (v := 2) hx hb dL_foresee_19 (by decide) ?_
      refine W.widen (k := 2) (n := 12) (Nat.le_of_ble_eq_true rfl) (Nat.le_of_ble_eq_true rfl) ?_
      exact hret 20 _ _ _ _ (ap, bp, rp, C, T, G, P, Y, L, B, X) hm hT rfl dL_foresee_20
  have hT : TS vwCl D (LX Z a t b q q2 ow ap_5 bp rp C_5 T_5 G_5 P Y L B X) A s.heap H locs := hT
  refine lv_i2l (v := r_5.toInt64) hx hb dL_foresee_8 rfl ?_
  refine sLX_out hC hK hT hm.1 dL_foresee_9 (fun X_9 eX_9 H locs hT => ?_)
  have hm := hm.2 X_9 eX_9
  refine lv_goto (tgt := 21) hx hb dL_foresee_10 (by decide) ?_
  refine lv_iconst (v := 0) hx hb dL_foresee_21 (by decide) ?_
  refine W.widen (k := 2) (n := 12) (Nat.le_of_ble_eq_true rfl) (Nat.le_of_ble_eq_true rfl) ?_
  exact hret 22 _ _ _ _ (ap_5, bp, rp, C_5, T_5, G_5, P, Y, L, B, X_9) hm hT rfl dL_foresee_22
section LL_foresee
variable {p : Program} {l : Launch} {e : Env} {s : State} {m : MethodId} {args : Array Value} {below : List Frame} {meth : Method} {c : Code} {H H0 : Heap} {locs : List Loc} {cells slots : Nat} {Q : State → Prop} {R : Room} {rn mcR msR : Nat}
variable {pc : Nat} {ls : Array Slot} {rest : List Value} {A : Nat → Prop} {D : va_G}
variable {cc : ByteArray} {nL index : Nat} {own host : String}
theorem kl_L_foresee {rx : Nat → Nat} {Z : Nat → ClassId} {a t b q q2 : Nat → Nat} {ow : Nat} {ap : Nat} {bp : Nat} {rp : Nat} {C : M2} {T : M2} {G : M2} {P : M2} {Y : M2} {L : L2} {B : M2} {X : L2} {x1 : Int32} {x2 : Int32} {K : Int32 → Nat → Nat → Nat → M2 → M2 → M2 → M2 → M2 → L2 → M2 → L2 → Prop} {ws wr : va_W} {isC isR pm : List Nat} {ws' : Nat × Nat × Nat × M2 × M2 × M2 × M2 × M2 × L2 × M2 × L2 → va_W} (hC : CallFix p m c cc nL s args lw_g own) (hN : NW s) (hfl : l.stackTraces = false) (hR : RXD rx (va_A ws H.size) s H) (hK : va_K D vwCl (tysG Z) s) (hT : TS vwCl D ws A H0 H locs) (hc : Cut ws (fun u : Nat × Nat × Nat × M2 × M2 × M2 × M2 × M2 × L2 × M2 × L2 => LX Z a t b q q2 ow u.1 u.2.1 u.2.2.1 u.2.2.2.1 u.2.2.2.2.1 u.2.2.2.2.2.1 u.2.2.2.2.2.2.1 u.2.2.2.2.2.2.2.1 u.2.2.2.2.2.2.2.2.1 u.2.2.2.2.2.2.2.2.2.1 u.2.2.2.2.2.2.2.2.2.2) (ap, bp, rp, C, T, G, P, Y, L, B, X) wr isC isR pm ws') (hnd : va_nd isC = true) (hm : wp_L_foresee q ap bp rp C T G P Y L B X x1 x2 K) (hl : Cond.methodLink own index yL_foresee ∈ lw_g) (hlt : 8 < rn) (hsize : ls.size = nL) (hW : (rest.map fun v => v.category).sum ≤ 8) (hf : cells + 2 ≤ mcR ∧ slots + 12 ≤ msR) (hdg : decode cc pc = .ok (.invokestatic index, 3))
    (kk : ∀ (r : Int32) (ap1 : Nat) (bp1 : Nat) (rp1 : Nat) (C1 : M2) (T1 : M2) (G1 : M2) (P1 : M2) (Y1 : M2) (L1 : L2) (B1 : M2) (X1 : L2) (H1 : Heap) (locs1 : List Loc), K r ap1 bp1 rp1 C1 T1 G1 P1 Y1 L1 B1 X1 → TS vwCl D (ws' (ap1, bp1, rp1, C1, T1, G1, P1, Y1, L1, B1, X1)) A H0 H1 locs1 → W p l e (rk rn mcR msR) s m args below meth c H1 locs1 (cells + 2) (slots + 12) Q (F0 m (pc + 3) ls (.int r :: rest))) : W p l e (rk rn mcR msR) s m args below meth c H locs cells slots Q (F0 m pc ls (.ref (ow) :: .int x2 :: .int x1 :: .ref (a 90) :: rest)) :=
  rw_go (wsF := (fun u : Nat × Nat × Nat × M2 × M2 × M2 × M2 × M2 × L2 × M2 × L2 => LX Z a t b q q2 ow u.1 u.2.1 u.2.2.1 u.2.2.2.1 u.2.2.2.2.1 u.2.2.2.2.2.1 u.2.2.2.2.2.2.1 u.2.2.2.2.2.2.2.1 u.2.2.2.2.2.2.2.2.1 u.2.2.2.2.2.2.2.2.2.1 u.2.2.2.2.2.2.2.2.2.2)) (u0 := (ap, bp, rp, C, T, G, P, Y, L, B, X)) (K := (fun (r : Int32) (u : Nat × Nat × Nat × M2 × M2 × M2 × M2 × M2 × L2 × M2 × L2) => K r u.1 u.2.1 u.2.2.1 u.2.2.2.1 u.2.2.2.2.1 u.2.2.2.2.2.1 u.2.2.2.2.2.2.1 u.2.2.2.2.2.2.2.1 u.2.2.2.2.2.2.2.2.1 u.2.2.2.2.2.2.2.2.2.1 u.2.2.2.2.2.2.2.2.2.2)) (wr := wr) (isC := isC) (isR := isR) (pm := pm) (ws' := ws') (runSH (As := [.ref (a 90), .int x1, .int x2, .ref (ow)]) hC hN (hR.sub hc.1) (c_L_foresee l hfl D rx Z a t b q q2 ow H.size ap bp rp C T G P Y L B X x1 x2 K hm) mi_L_foresee hl hlt (hT.1.sub isC (map_fm hc.1)) (hT.D'.sub isC hnd hc.1) hK rfl hsize rfl hW hdg hf) hc hT (fun r u H1 locs1 hk hT1 => kk r u.1 u.2.1 u.2.2.1 u.2.2.2.1 u.2.2.2.2.1 u.2.2.2.2.2.1 u.2.2.2.2.2.2.1 u.2.2.2.2.2.2.2.1 u.2.2.2.2.2.2.2.2.1 u.2.2.2.2.2.2.2.2.2.1 u.2.2.2.2.2.2.2.2.2.2 H1 locs1 hk hT1)
end LL_foresee
def wp_L_advise (q : Nat → Nat) (ap : Nat) (bp : Nat) (rp : Nat) (C : M2) (T : M2) (G : M2) (P : M2) (Y : M2) (L : L2) (B : M2) (X : L2) (x1 : Int32) (K : Int32 → Nat → Nat → Nat → M2 → M2 → M2 → M2 → M2 → L2 → M2 → L2 → Prop) : Prop := wp_X5_advise q P (fun k_ => (k_ = 1 ∧ K 1 ap bp rp C T G P Y L B X)) ap T G C x1 (fun r_4 ap_4 T_4 G_4 C_4 => (inb 0 1 ∧ ∀ X_8 : L2, X_8 = ul2 X 500 (vp_updL (X 500) (0 : Int32).toInt.toNat r_4.toInt64) → K 0 ap_4 bp rp C_4 T_4 G_4 P Y L B X_8))
set_option maxRecDepth 100000 in
set_option maxHeartbeats 4000000 in
theorem c_L_advise (l : Launch) (hfl : l.stackTraces = false) (D : va_G) (rx : Nat → Nat) (Z : Nat → ClassId) (a t b q q2 : Nat → Nat) (ow : Nat) (sz : Nat) (ap : Nat) (bp : Nat) (rp : Nat) (C : M2) (T : M2) (G : M2) (P : M2) (Y : M2) (L : L2) (B : M2) (X : L2) (x1 : Int32) (K : Int32 → Nat → Nat → Nat → M2 → M2 → M2 → M2 → M2 → L2 → M2 → L2 → Prop) (hm : wp_L_advise q ap bp rp C T G P Y L B X x1 K) : Met l yL_advise (wyh yL_advise cL_advise 4 (some .int) [(0, 9, 12, 19)]) (rk 8 1 6) (preX vwCl D Z rx (LX Z a t b q q2 ow ap bp rp C T G P Y L B X) sz [.ref (a 90), .int x1, .ref (ow)]) (poI vwCl D Z (fun u : Nat × Nat × Nat × M2 × M2 × M2 × M2 × M2 × L2 × M2 × L2 => LX Z a t b q q2 ow u.1 u.2.1 u.2.2.1 u.2.2.2.1 u.2.2.2.2.1 u.2.2.2.2.2.1 u.2.2.2.2.2.2.1 u.2.2.2.2.2.2.2.1 u.2.2.2.2.2.2.2.2.1 u.2.2.2.2.2.2.2.2.2.1 u.2.2.2.2.2.2.2.2.2.2) (ap, bp, rp, C, T, G, P, Y, L, B, X) sz (fun (r : Int32) (u : Nat × Nat × Nat × M2 × M2 × M2 × M2 × M2 × L2 × M2 × L2) => K r u.1 u.2.1 u.2.2.1 u.2.2.2.1 u.2.2.2.2.1 u.2.2.2.2.2.1 u.2.2.2.2.2.2.1 u.2.2.2.2.2.2.2.1 u.2.2.2.2.2.2.2.2.1 u.2.2.2.2.2.2.2.2.2.1 u.2.2.2.2.2.2.2.2.2.2)) 1 6 (va_A (LX Z a t b q q2 ow ap bp rp C T G P Y L B X) sz) := by
  refine rw_ofH (ty := .int) (wsF := (fun u : Nat × Nat × Nat × M2 × M2 × M2 × M2 × M2 × L2 × M2 × L2 => LX Z a t b q q2 ow u.1 u.2.1 u.2.2.1 u.2.2.2.1 u.2.2.2.2.1 u.2.2.2.2.2.1 u.2.2.2.2.2.2.1 u.2.2.2.2.2.2.2.1 u.2.2.2.2.2.2.2.2.1 u.2.2.2.2.2.2.2.2.2.1 u.2.2.2.2.2.2.2.2.2.2)) (u0 := (ap, bp, rp, C, T, G, P, Y, L, B, X)) (by decide +kernel) (Nat.le_of_ble_eq_true rfl) rfl ?_
  intro p e s m args below meth c Q A hC hN hR hsz htab hT hK hret ls hl
  have hx := hC.1
  have hb := hC.2.1
  have hl : lv_has ls 4 [(0, .ref (a 90)), (1, .int x1), (2, .ref (ow))] := hl
  have hT : TS vwCl D (LX Z a t b q q2 ow ap bp rp C T G P Y L B X) A s.heap s.heap [] := hT
  refine lv_aload_n hx hb dL_advise_0 rfl (lv_at hl 2 rfl) ?_
  refine lv_iconst (v := 0) hx hb dL_advise_1 (by decide) ?_
  refine lv_aload_n hx hb dL_advise_2 rfl (lv_at hl 0 rfl) ?_
  refine lv_iload_n hx hb dL_advise_3 rfl (lv_at hl 1 rfl) ?_
  refine xk_X5_advise hC hN hfl (hT.rxd hR) hK hT (cx_CALX Z a t b q q2 ow ap bp rp C T G P Y L B X) rfl hm wq_1205 (by decide) hl.1 (Nat.le_of_ble_eq_true rfl) ⟨(Nat.le_of_ble_eq_true rfl), (Nat.le_of_ble_eq_true rfl)⟩ dL_advise_4 (fun k ce q9 H locs hk hT h1 h2 h3 => ?_) (fun r_4 ap_4 T_4 G_4 C_4 H locs hm hT => ?_)
  · obtain ⟨e_, hm⟩ := hk
    subst e_
    refine vx_catch (own := RL) (name := "java/lang/IllegalArgumentException") hC.2.2.2.1 [] ⟨0, 9, 12, 19⟩ [] htab (fun z hz => absurd hz List.not_mem_nil) (by decide) (by decide) (hC.2.2.2.2 _ wq_979) (hR.2.2.2.2.1.use wx_986) h1 h2 h3 ?_
    refine lv_astore_n (lv' := [(3, .ref q9), (0, .ref (a 90)), (1, .int x1), (2, .ref (ow))]) hx hb dL_advise_12 rfl hl (by decide) rfl (fun ls hl => ?_)
    refine lv_iconst (v := 1) hx hb dL_advise_13 (by decide) ?_
    refine W.widen (k := 1) (n := 6) (Nat.le_of_ble_eq_true rfl) (Nat.le_of_ble_eq_true rfl) ?_
    exact hret 14 _ _ _ _ (ap, bp, rp, C, T, G, P, Y, L, B, X) hm hT rfl dL_advise_14
  have hT : TS vwCl D (LX Z a t b q q2 ow ap_4 bp rp C_4 T_4 G_4 P Y L B X) A s.heap H locs := hT
  refine lv_i2l (v := r_4.toInt64) hx hb dL_advise_7 rfl ?_
  refine sLX_out hC hK hT hm.1 dL_advise_8 (fun X_8 eX_8 H locs hT => ?_)
  have hm := hm.2 X_8 eX_8
  refine lv_goto (tgt := 15) hx hb dL_advise_9 (by decide) ?_
  refine lv_iconst (v := 0) hx hb dL_advise_15 (by decide) ?_
  refine W.widen (k := 1) (n := 6) (Nat.le_of_ble_eq_true rfl) (Nat.le_of_ble_eq_true rfl) ?_
  exact hret 16 _ _ _ _ (ap_4, bp, rp, C_4, T_4, G_4, P, Y, L, B, X_8) hm hT rfl dL_advise_16
section LL_advise
variable {p : Program} {l : Launch} {e : Env} {s : State} {m : MethodId} {args : Array Value} {below : List Frame} {meth : Method} {c : Code} {H H0 : Heap} {locs : List Loc} {cells slots : Nat} {Q : State → Prop} {R : Room} {rn mcR msR : Nat}
variable {pc : Nat} {ls : Array Slot} {rest : List Value} {A : Nat → Prop} {D : va_G}
variable {cc : ByteArray} {nL index : Nat} {own host : String}
theorem kl_L_advise {rx : Nat → Nat} {Z : Nat → ClassId} {a t b q q2 : Nat → Nat} {ow : Nat} {ap : Nat} {bp : Nat} {rp : Nat} {C : M2} {T : M2} {G : M2} {P : M2} {Y : M2} {L : L2} {B : M2} {X : L2} {x1 : Int32} {K : Int32 → Nat → Nat → Nat → M2 → M2 → M2 → M2 → M2 → L2 → M2 → L2 → Prop} {ws wr : va_W} {isC isR pm : List Nat} {ws' : Nat × Nat × Nat × M2 × M2 × M2 × M2 × M2 × L2 × M2 × L2 → va_W} (hC : CallFix p m c cc nL s args lw_g own) (hN : NW s) (hfl : l.stackTraces = false) (hR : RXD rx (va_A ws H.size) s H) (hK : va_K D vwCl (tysG Z) s) (hT : TS vwCl D ws A H0 H locs) (hc : Cut ws (fun u : Nat × Nat × Nat × M2 × M2 × M2 × M2 × M2 × L2 × M2 × L2 => LX Z a t b q q2 ow u.1 u.2.1 u.2.2.1 u.2.2.2.1 u.2.2.2.2.1 u.2.2.2.2.2.1 u.2.2.2.2.2.2.1 u.2.2.2.2.2.2.2.1 u.2.2.2.2.2.2.2.2.1 u.2.2.2.2.2.2.2.2.2.1 u.2.2.2.2.2.2.2.2.2.2) (ap, bp, rp, C, T, G, P, Y, L, B, X) wr isC isR pm ws') (hnd : va_nd isC = true) (hm : wp_L_advise q ap bp rp C T G P Y L B X x1 K) (hl : Cond.methodLink own index yL_advise ∈ lw_g) (hlt : 8 < rn) (hsize : ls.size = nL) (hW : (rest.map fun v => v.category).sum ≤ 8) (hf : cells + 1 ≤ mcR ∧ slots + 6 ≤ msR) (hdg : decode cc pc = .ok (.invokestatic index, 3))
    (kk : ∀ (r : Int32) (ap1 : Nat) (bp1 : Nat) (rp1 : Nat) (C1 : M2) (T1 : M2) (G1 : M2) (P1 : M2) (Y1 : M2) (L1 : L2) (B1 : M2) (X1 : L2) (H1 : Heap) (locs1 : List Loc), K r ap1 bp1 rp1 C1 T1 G1 P1 Y1 L1 B1 X1 → TS vwCl D (ws' (ap1, bp1, rp1, C1, T1, G1, P1, Y1, L1, B1, X1)) A H0 H1 locs1 → W p l e (rk rn mcR msR) s m args below meth c H1 locs1 (cells + 1) (slots + 6) Q (F0 m (pc + 3) ls (.int r :: rest))) : W p l e (rk rn mcR msR) s m args below meth c H locs cells slots Q (F0 m pc ls (.ref (ow) :: .int x1 :: .ref (a 90) :: rest)) :=
  rw_go (wsF := (fun u : Nat × Nat × Nat × M2 × M2 × M2 × M2 × M2 × L2 × M2 × L2 => LX Z a t b q q2 ow u.1 u.2.1 u.2.2.1 u.2.2.2.1 u.2.2.2.2.1 u.2.2.2.2.2.1 u.2.2.2.2.2.2.1 u.2.2.2.2.2.2.2.1 u.2.2.2.2.2.2.2.2.1 u.2.2.2.2.2.2.2.2.2.1 u.2.2.2.2.2.2.2.2.2.2)) (u0 := (ap, bp, rp, C, T, G, P, Y, L, B, X)) (K := (fun (r : Int32) (u : Nat × Nat × Nat × M2 × M2 × M2 × M2 × M2 × L2 × M2 × L2) => K r u.1 u.2.1 u.2.2.1 u.2.2.2.1 u.2.2.2.2.1 u.2.2.2.2.2.1 u.2.2.2.2.2.2.1 u.2.2.2.2.2.2.2.1 u.2.2.2.2.2.2.2.2.1 u.2.2.2.2.2.2.2.2.2.1 u.2.2.2.2.2.2.2.2.2.2)) (wr := wr) (isC := isC) (isR := isR) (pm := pm) (ws' := ws') (runSH (As := [.ref (a 90), .int x1, .ref (ow)]) hC hN (hR.sub hc.1) (c_L_advise l hfl D rx Z a t b q q2 ow H.size ap bp rp C T G P Y L B X x1 K hm) mi_L_advise hl hlt (hT.1.sub isC (map_fm hc.1)) (hT.D'.sub isC hnd hc.1) hK rfl hsize rfl hW hdg hf) hc hT (fun r u H1 locs1 hk hT1 => kk r u.1 u.2.1 u.2.2.1 u.2.2.2.1 u.2.2.2.2.1 u.2.2.2.2.2.1 u.2.2.2.2.2.2.1 u.2.2.2.2.2.2.2.1 u.2.2.2.2.2.2.2.2.1 u.2.2.2.2.2.2.2.2.2.1 u.2.2.2.2.2.2.2.2.2.2 H1 locs1 hk hT1)
end LL_advise
def wp_L_missed (q : Nat → Nat) (ap : Nat) (bp : Nat) (rp : Nat) (C : M2) (T : M2) (G : M2) (P : M2) (Y : M2) (L : L2) (B : M2) (X : L2) (x1 : Int32) (K : Int32 → Nat → Nat → Nat → M2 → M2 → M2 → M2 → M2 → L2 → M2 → L2 → Prop) : Prop := wp_X5_missed q P (fun k_ => (k_ = 1 ∧ K 1 ap bp rp C T G P Y L B X)) ap T G C x1 (fun r_4 ap_4 T_4 G_4 C_4 => (inb 0 1 ∧ ∀ X_8 : L2, X_8 = ul2 X 500 (vp_updL (X 500) (0 : Int32).toInt.toNat r_4.toInt64) → K 0 ap_4 bp rp C_4 T_4 G_4 P Y L B X_8))
set_option maxRecDepth 100000 in
set_option maxHeartbeats 4000000 in
theorem c_L_missed (l : Launch) (hfl : l.stackTraces = false) (D : va_G) (rx : Nat → Nat) (Z : Nat → ClassId) (a t b q q2 : Nat → Nat) (ow : Nat) (sz : Nat) (ap : Nat) (bp : Nat) (rp : Nat) (C : M2) (T : M2) (G : M2) (P : M2) (Y : M2) (L : L2) (B : M2) (X : L2) (x1 : Int32) (K : Int32 → Nat → Nat → Nat → M2 → M2 → M2 → M2 → M2 → L2 → M2 → L2 → Prop) (hm : wp_L_missed q ap bp rp C T G P Y L B X x1 K) : Met l yL_missed (wyh yL_missed cL_missed 4 (some .int) [(0, 9, 12, 19)]) (rk 8 1 6) (preX vwCl D Z rx (LX Z a t b q q2 ow ap bp rp C T G P Y L B X) sz [.ref (a 90), .int x1, .ref (ow)]) (poI vwCl D Z (fun u : Nat × Nat × Nat × M2 × M2 × M2 × M2 × M2 × L2 × M2 × L2 => LX Z a t b q q2 ow u.1 u.2.1 u.2.2.1 u.2.2.2.1 u.2.2.2.2.1 u.2.2.2.2.2.1 u.2.2.2.2.2.2.1 u.2.2.2.2.2.2.2.1 u.2.2.2.2.2.2.2.2.1 u.2.2.2.2.2.2.2.2.2.1 u.2.2.2.2.2.2.2.2.2.2) (ap, bp, rp, C, T, G, P, Y, L, B, X) sz (fun (r : Int32) (u : Nat × Nat × Nat × M2 × M2 × M2 × M2 × M2 × L2 × M2 × L2) => K r u.1 u.2.1 u.2.2.1 u.2.2.2.1 u.2.2.2.2.1 u.2.2.2.2.2.1 u.2.2.2.2.2.2.1 u.2.2.2.2.2.2.2.1 u.2.2.2.2.2.2.2.2.1 u.2.2.2.2.2.2.2.2.2.1 u.2.2.2.2.2.2.2.2.2.2)) 1 6 (va_A (LX Z a t b q q2 ow ap bp rp C T G P Y L B X) sz) := by
  refine rw_ofH (ty := .int) (wsF := (fun u : Nat × Nat × Nat × M2 × M2 × M2 × M2 × M2 × L2 × M2 × L2 => LX Z a t b q q2 ow u.1 u.2.1 u.2.2.1 u.2.2.2.1 u.2.2.2.2.1 u.2.2.2.2.2.1 u.2.2.2.2.2.2.1 u.2.2.2.2.2.2.2.1 u.2.2.2.2.2.2.2.2.1 u.2.2.2.2.2.2.2.2.2.1 u.2.2.2.2.2.2.2.2.2.2)) (u0 := (ap, bp, rp, C, T, G, P, Y, L, B, X)) (by decide +kernel) (Nat.le_of_ble_eq_true rfl) rfl ?_
  intro p e s m args below meth c Q A hC hN hR hsz htab hT hK hret ls hl
  have hx := hC.1
  have hb := hC.2.1
  have hl : lv_has ls 4 [(0, .ref (a 90)), (1, .int x1), (2, .ref (ow))] := hl
  have hT : TS vwCl D (LX Z a t b q q2 ow ap bp rp C T G P Y L B X) A s.heap s.heap [] := hT
  refine lv_aload_n hx hb dL_missed_0 rfl (lv_at hl 2 rfl) ?_
  refine lv_iconst (v := 0) hx hb dL_missed_1 (by decide) ?_
  refine lv_aload_n hx hb dL_missed_2 rfl (lv_at hl 0 rfl) ?_
  refine lv_iload_n hx hb dL_missed_3 rfl (lv_at hl 1 rfl) ?_
  refine xk_X5_missed hC hN hfl (hT.rxd hR) hK hT (cx_CALX Z a t b q q2 ow ap bp rp C T G P Y L B X) rfl hm wq_1212 (by decide) hl.1 (Nat.le_of_ble_eq_true rfl) ⟨(Nat.le_of_ble_eq_true rfl), (Nat.le_of_ble_eq_true rfl)⟩ dL_missed_4 (fun k ce q9 H locs hk hT h1 h2 h3 => ?_) (fun r_4 ap_4 T_4 G_4 C_4 H locs hm hT => ?_)
  · obtain ⟨e_, hm⟩ := hk
    subst e_
    refine vx_catch (own := RL) (name := "java/lang/IllegalArgumentException") hC.2.2.2.1 [] ⟨0, 9, 12, 19⟩ [] htab (fun z hz => absurd hz List.not_mem_nil) (by decide) (by decide) (hC.2.2.2.2 _ wq_979) (hR.2.2.2.2.1.use wx_986) h1 h2 h3 ?_
    refine lv_astore_n (lv' := [(3, .ref q9), (0, .ref (a 90)), (1, .int x1), (2, .ref (ow))]) hx hb dL_missed_12 rfl hl (by decide) rfl (fun ls hl => ?_)
    refine lv_iconst (v := 1) hx hb dL_missed_13 (by decide) ?_
    refine W.widen (k := 1) (n := 6) (Nat.le_of_ble_eq_true rfl) (Nat.le_of_ble_eq_true rfl) ?_
    exact hret 14 _ _ _ _ (ap, bp, rp, C, T, G, P, Y, L, B, X) hm hT rfl dL_missed_14
  have hT : TS vwCl D (LX Z a t b q q2 ow ap_4 bp rp C_4 T_4 G_4 P Y L B X) A s.heap H locs := hT
  refine lv_i2l (v := r_4.toInt64) hx hb dL_missed_7 rfl ?_
  refine sLX_out hC hK hT hm.1 dL_missed_8 (fun X_8 eX_8 H locs hT => ?_)
  have hm := hm.2 X_8 eX_8
  refine lv_goto (tgt := 15) hx hb dL_missed_9 (by decide) ?_
  refine lv_iconst (v := 0) hx hb dL_missed_15 (by decide) ?_
  refine W.widen (k := 1) (n := 6) (Nat.le_of_ble_eq_true rfl) (Nat.le_of_ble_eq_true rfl) ?_
  exact hret 16 _ _ _ _ (ap_4, bp, rp, C_4, T_4, G_4, P, Y, L, B, X_8) hm hT rfl dL_missed_16
section LL_missed
variable {p : Program} {l : Launch} {e : Env} {s : State} {m : MethodId} {args : Array Value} {below : List Frame} {meth : Method} {c : Code} {H H0 : Heap} {locs : List Loc} {cells slots : Nat} {Q : State → Prop} {R : Room} {rn mcR msR : Nat}
variable {pc : Nat} {ls : Array Slot} {rest : List Value} {A : Nat → Prop} {D : va_G}
variable {cc : ByteArray} {nL index : Nat} {own host : String}
theorem kl_L_missed {rx : Nat → Nat} {Z : Nat → ClassId} {a t b q q2 : Nat → Nat} {ow : Nat} {ap : Nat} {bp : Nat} {rp : Nat} {C : M2} {T : M2} {G : M2} {P : M2} {Y : M2} {L : L2} {B : M2} {X : L2} {x1 : Int32} {K : Int32 → Nat → Nat → Nat → M2 → M2 → M2 → M2 → M2 → L2 → M2 → L2 → Prop} {ws wr : va_W} {isC isR pm : List Nat} {ws' : Nat × Nat × Nat × M2 × M2 × M2 × M2 × M2 × L2 × M2 × L2 → va_W} (hC : CallFix p m c cc nL s args lw_g own) (hN : NW s) (hfl : l.stackTraces = false) (hR : RXD rx (va_A ws H.size) s H) (hK : va_K D vwCl (tysG Z) s) (hT : TS vwCl D ws A H0 H locs) (hc : Cut ws (fun u : Nat × Nat × Nat × M2 × M2 × M2 × M2 × M2 × L2 × M2 × L2 => LX Z a t b q q2 ow u.1 u.2.1 u.2.2.1 u.2.2.2.1 u.2.2.2.2.1 u.2.2.2.2.2.1 u.2.2.2.2.2.2.1 u.2.2.2.2.2.2.2.1 u.2.2.2.2.2.2.2.2.1 u.2.2.2.2.2.2.2.2.2.1 u.2.2.2.2.2.2.2.2.2.2) (ap, bp, rp, C, T, G, P, Y, L, B, X) wr isC isR pm ws') (hnd : va_nd isC = true) (hm : wp_L_missed q ap bp rp C T G P Y L B X x1 K) (hl : Cond.methodLink own index yL_missed ∈ lw_g) (hlt : 8 < rn) (hsize : ls.size = nL) (hW : (rest.map fun v => v.category).sum ≤ 8) (hf : cells + 1 ≤ mcR ∧ slots + 6 ≤ msR) (hdg : decode cc pc = .ok (.invokestatic index, 3))
    (kk : ∀ (r : Int32) (ap1 : Nat) (bp1 : Nat) (rp1 : Nat) (C1 : M2) (T1 : M2) (G1 : M2) (P1 : M2) (Y1 : M2) (L1 : L2) (B1 : M2) (X1 : L2) (H1 : Heap) (locs1 : List Loc), K r ap1 bp1 rp1 C1 T1 G1 P1 Y1 L1 B1 X1 → TS vwCl D (ws' (ap1, bp1, rp1, C1, T1, G1, P1, Y1, L1, B1, X1)) A H0 H1 locs1 → W p l e (rk rn mcR msR) s m args below meth c H1 locs1 (cells + 1) (slots + 6) Q (F0 m (pc + 3) ls (.int r :: rest))) : W p l e (rk rn mcR msR) s m args below meth c H locs cells slots Q (F0 m pc ls (.ref (ow) :: .int x1 :: .ref (a 90) :: rest)) :=
  rw_go (wsF := (fun u : Nat × Nat × Nat × M2 × M2 × M2 × M2 × M2 × L2 × M2 × L2 => LX Z a t b q q2 ow u.1 u.2.1 u.2.2.1 u.2.2.2.1 u.2.2.2.2.1 u.2.2.2.2.2.1 u.2.2.2.2.2.2.1 u.2.2.2.2.2.2.2.1 u.2.2.2.2.2.2.2.2.1 u.2.2.2.2.2.2.2.2.2.1 u.2.2.2.2.2.2.2.2.2.2)) (u0 := (ap, bp, rp, C, T, G, P, Y, L, B, X)) (K := (fun (r : Int32) (u : Nat × Nat × Nat × M2 × M2 × M2 × M2 × M2 × L2 × M2 × L2) => K r u.1 u.2.1 u.2.2.1 u.2.2.2.1 u.2.2.2.2.1 u.2.2.2.2.2.1 u.2.2.2.2.2.2.1 u.2.2.2.2.2.2.2.1 u.2.2.2.2.2.2.2.2.1 u.2.2.2.2.2.2.2.2.2.1 u.2.2.2.2.2.2.2.2.2.2)) (wr := wr) (isC := isC) (isR := isR) (pm := pm) (ws' := ws') (runSH (As := [.ref (a 90), .int x1, .ref (ow)]) hC hN (hR.sub hc.1) (c_L_missed l hfl D rx Z a t b q q2 ow H.size ap bp rp C T G P Y L B X x1 K hm) mi_L_missed hl hlt (hT.1.sub isC (map_fm hc.1)) (hT.D'.sub isC hnd hc.1) hK rfl hsize rfl hW hdg hf) hc hT (fun r u H1 locs1 hk hT1 => kk r u.1 u.2.1 u.2.2.1 u.2.2.2.1 u.2.2.2.2.1 u.2.2.2.2.2.1 u.2.2.2.2.2.2.1 u.2.2.2.2.2.2.2.1 u.2.2.2.2.2.2.2.2.1 u.2.2.2.2.2.2.2.2.2.1 u.2.2.2.2.2.2.2.2.2.2 H1 locs1 hk hT1)
end LL_missed
