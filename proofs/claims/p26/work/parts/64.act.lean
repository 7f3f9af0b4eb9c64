theorem wq_899 : Cond.code yL_below cL_below 2 (some .int) ∈ lw_g := lw_g_mk (tb_4 (List.mem_of_getElem? (i := 115) rfl)) rfl
theorem wq_64 : Cond.initialized RL ∈ lw_g := lw_g_mk (tb_1 (List.mem_of_getElem? (i := 0) rfl)) rfl
theorem wq_900 : Cond.constant RL 7 2147483647 ∈ lw_g := lw_g_mk (tb_4 (List.mem_of_getElem? (i := 116) rfl)) rfl
theorem wq_898 : Cond.static yL_below ∈ lw_g := lw_g_mk (tb_4 (List.mem_of_getElem? (i := 114) rfl)) rfl
theorem wq_903 : Cond.code yL_cell cL_cell 2 (some .int) ∈ lw_g := lw_g_mk (tb_4 (List.mem_of_getElem? (i := 119) rfl)) rfl
theorem wq_904 : Cond.constant RL 8 790386105 ∈ lw_g := lw_g_mk (tb_4 (List.mem_of_getElem? (i := 120) rfl)) rfl
theorem wq_902 : Cond.static yL_cell ∈ lw_g := lw_g_mk (tb_4 (List.mem_of_getElem? (i := 118) rfl)) rfl
theorem wq_897 : Cond.methodLink RL 102 yL_below ∈ lw_g := lw_g_mk (tb_4 (List.mem_of_getElem? (i := 113) rfl)) rfl
theorem wq_1168 : Cond.fieldLink RL 170 RX6 "turn" "I" ∈ lw_g := lw_g_mk (tb_5 (List.mem_of_getElem? (i := 144) rfl)) rfl
theorem wq_1461 : Cond.methodLink RL 174 yX5_whistle ∈ lw_g := lw_g_mk (tb_6 (List.mem_of_getElem? (i := 197) rfl)) rfl
theorem wq_1172 : Cond.fieldLink RL 119 RX6 "places" "[[I" ∈ lw_g := lw_g_mk (tb_5 (List.mem_of_getElem? (i := 148) rfl)) rfl
theorem wq_1176 : Cond.fieldLink RL 41 RX6 "leggers" "[[I" ∈ lw_g := lw_g_mk (tb_5 (List.mem_of_getElem? (i := 152) rfl)) rfl
theorem wq_1471 : Cond.methodLink RL 180 yX5_cap ∈ lw_g := lw_g_mk (tb_6 (List.mem_of_getElem? (i := 207) rfl)) rfl
theorem wq_1178 : Cond.fieldLink RL 56 RX6 "boats" "[[I" ∈ lw_g := lw_g_mk (tb_5 (List.mem_of_getElem? (i := 154) rfl)) rfl
theorem wq_1166 : Cond.fieldLink RL 183 RX6 "minute" "I" ∈ lw_g := lw_g_mk (tb_5 (List.mem_of_getElem? (i := 142) rfl)) rfl
theorem wq_1475 : Cond.methodLink RL 186 yX5_again ∈ lw_g := lw_g_mk (tb_6 (List.mem_of_getElem? (i := 211) rfl)) rfl
theorem wq_1460 : Cond.classLink RL 189 "java/lang/IllegalStateException" ∈ lw_g := lw_g_mk (tb_6 (List.mem_of_getElem? (i := 196) rfl)) rfl
theorem wq_1466 : Cond.methodLink RL 177 yX5_air ∈ lw_g := lw_g_mk (tb_6 (List.mem_of_getElem? (i := 202) rfl)) rfl
theorem wq_1459 : Cond.codeWith yL_act cL_act 9 (some .boolean) [(246, 255, 258, 189)] ∈ lw_g := lw_g_mk (tb_6 (List.mem_of_getElem? (i := 195) rfl)) rfl
theorem wq_1458 : Cond.static yL_act ∈ lw_g := lw_g_mk (tb_6 (List.mem_of_getElem? (i := 194) rfl)) rfl
theorem wq_1467 : Cond.instanceMethod yX5_air ∈ lw_g := lw_g_mk (tb_6 (List.mem_of_getElem? (i := 203) rfl)) rfl
theorem wq_1468 : Cond.selects RX5 yX5_air yX5_air ∈ lw_g := lw_g_mk (tb_6 (List.mem_of_getElem? (i := 204) rfl)) rfl
theorem wq_1462 : Cond.instanceMethod yX5_whistle ∈ lw_g := lw_g_mk (tb_6 (List.mem_of_getElem? (i := 198) rfl)) rfl
theorem wq_1463 : Cond.selects RX5 yX5_whistle yX5_whistle ∈ lw_g := lw_g_mk (tb_6 (List.mem_of_getElem? (i := 199) rfl)) rfl
theorem wq_1472 : Cond.instanceMethod yX5_cap ∈ lw_g := lw_g_mk (tb_6 (List.mem_of_getElem? (i := 208) rfl)) rfl
theorem wq_1473 : Cond.selects RX5 yX5_cap yX5_cap ∈ lw_g := lw_g_mk (tb_6 (List.mem_of_getElem? (i := 209) rfl)) rfl
section ROWSSM5
variable {p : Program} {l : Launch} {e : Env} {s : State} {m : MethodId} {args : Array Value} {below : List Frame} {meth : Method} {c : Code} {H H0 : Heap} {locs : List Loc} {cells slots : Nat} {Q : State → Prop} {R : Room} {rn mcR msR : Nat}
variable {pc : Nat} {ls : Array Slot} {rest : List Value} {A : Nat → Prop} {D : va_G}
variable {cc : ByteArray} {nL index : Nat} {own host : String}
end ROWSSM5
def wyh (y : MethodName) (cc : ByteArray) (n : Nat) (ret : Option FieldType) (hh : List (Nat × Nat × Nat × Nat)) : List Cond := Cond.codeWith y cc n ret hh :: lw_g
def MInfoH (y : MethodName) (cc : ByteArray) (maxL : Nat) (ret : Option FieldType) (hh : List (Nat × Nat × Nat × Nat)) (n : Nat) : Prop :=
  Cond.codeWith y cc maxL ret hh ∈ lw_g ∧ Cond.initialized y.cls ∈ lw_g ∧ maxL ≤ 21 ∧ (y.cls ≠ "java/lang/invoke/MethodHandle" ∧ y.cls ≠ "java/lang/invoke/VarHandle" ∧ (parseMethodDescriptor y.desc).map (fun d => d.parameters.length) = some n) ∧ Cond.static y ∈ lw_g
theorem wyh_good {y : MethodName} {cc : ByteArray} {n : Nat} {ret : Option FieldType} {hh : List (Nat × Nat × Nat × Nat)} (h : Cond.codeWith y cc n ret hh ∈ lw_g) : GoodIn lw_g (wyh y cc n ret hh) := by
  intro w hw
  have hm : w ∈ lw_g := by
    rcases List.mem_cons.mp hw with h2 | h2
    · rw [h2]; exact h
    · exact h2
  exact ⟨hm, good_of_word (List.mem_filter.mp hm).2⟩
theorem met_ofWH {l : Launch} {y : MethodName} {ws ws' : List Cond} {rm : Room} {Pc : Array Value → State → Prop} {Qc : Array Value → State → Outcome → State → Prop} {mc ms : Nat} {free : Addr → Prop} {cc : ByteArray} {maxL : Nat} {ret : Option FieldType} {hh : List (Nat × Nat × Nat × Nat)}
    (hy : plainName y.cls = true) (hw : ws = Cond.codeWith y cc maxL ret hh :: ws')
    (body : ∀ p e s m args below meth c s₁, BodyLoose p l y (headSpec ws rm) cc maxL ret e s m args below meth c s₁ → c.maxLocals = maxL → Pc args s →
      W p l e (headSpec ws rm).room s m args below meth c s.heap [] 0 0 (MQ below Qc args s mc ms free) (entryFrame m args maxL)) : Met l y ws rm Pc Qc mc ms free := by
  refine MetFree.of_bodyS (code := cc) (maxLocals := maxL) (ret := ret) hy ?_ ?_
  · intro args s m h hn
    obtain ⟨m9, meth, c, hn9, h1, h2, h3, h4, -, h5, h6, -⟩ := Cond.codeWith_spec (atoms_spec (ws := ws) h _ (by rw [hw]; exact List.mem_cons_self))
    cases hn.symm.trans hn9
    exact ⟨meth, c, h1, h2, h3, h4, h5, h6⟩
  · intro p e s m args below meth c s₁ B hml hP _
    have hh0 : s₁.heap = s.heap := by rw [B.state]; rfl
    obtain ⟨t, a1, o, b1, b2, b3⟩ := body p e s m args below meth c s₁ B hml hP s₁ hh0 (Stand.of_body B)
    exact ⟨t, o, a1, b1, b2, ⟨b3.1, b3.2⟩⟩
theorem rw_ofH {l : Launch} {y : MethodName} {cc : ByteArray} {n : Nat} {ret : Option FieldType} {hh : List (Nat × Nat × Nat × Nat)} {rn mc ms : Nat} {D : va_G} {Z : Nat → ClassId} {r0 : Nat → Nat} {sz : Nat} {av : List Value} {S : Type} {wsF : S → va_W} {u0 : S} {ty : FieldType} {K : Int32 → S → Prop} (hy : plainName y.cls = true) (hn : (lg_sl av).length ≤ n) (hret : ret = some ty)
    (body : ∀ (p : Program) (e : Env) (s : State) (m : MethodId) (args : Array Value) (below : List Frame) (meth : Method) (c : Code) (Q : State → Prop) (A : Nat → Prop), CallFix p m c cc n s args lw_g y.cls → NW s → RXD r0 A s s.heap → s.heap.size = sz → c.exceptionTable.toList = tableOf hh → TS vwCl D (wsF u0) A s.heap s.heap [] → va_K D vwCl (tysG Z) s →
      (∀ (pc : Nat) (ls : Array Slot) (H : Heap) (locs : List Loc) (r : Int32) (u : S), K r u → TS vwCl D (wsF u) A s.heap H locs → narrow ty (.int r) = .int r → decode cc pc = .ok (.ireturn, 1) → W p l e (rk rn mc ms) s m args below meth c H locs mc ms Q (F0 m pc ls [.int r])) →
      ∀ ls : Array Slot, lv_has ls n (lv_args 0 av) → W p l e (rk rn mc ms) s m args below meth c s.heap [] 0 0 Q (F0 m 0 ls [])) :
    Met l y (wyh y cc n ret hh) (rk rn mc ms) (preX vwCl D Z r0 (wsF u0) sz av) (poI vwCl D Z wsF u0 sz K) mc ms (va_A (wsF u0) sz) := by
  refine met_ofWH (cc := cc) (maxL := n) (ret := ret) (hh := hh) hy rfl ?_
  intro p e s m args below meth c s₁ B hml hv
  obtain ⟨rfl, hsz, hP, hD, hK, hN, hR⟩ := hv
  have hw0 : (Cond.codeWith y cc n ret hh).before av.toArray s = true := atoms_spec (ws := wyh y cc n ret hh) B.pre _ List.mem_cons_self
  have hts : ∀ w ∈ lw_g, w.before av.toArray s = true := fun w hw => atoms_spec (ws := wyh y cc n ret hh) B.pre w (List.mem_cons_of_mem _ hw)
  have how : s.vm.findClass y.cls = some m.cls := findClass_of_methodNamed B.named
  have hlocks := B.notSynchronized
  have hl := lv_entry av (n := n) hn
  rw [lg_entry_eq]
  subst hsz
  refine body p e s m av.toArray below meth c _ (va_A (wsF u0) s.heap.size) ⟨B.exec, B.bytes, hml, how, hts⟩ hN hR rfl (vx_table (x := y) B hw0) ⟨hP, hD.self, va_S.rf, fun q h => Or.inr h⟩ hK ?_ _ hl
  intro pc ls H locs r u hk hT hnar hd
  exact W.zret (ty := ty) B.exec B.bytes (B.returns.trans hret) hnar (fun t ht hW => ⟨⟨r, u, rfl, hk, by rw [ht]; exact hT.1, hT.2.1, va_K.moved hW.alike hK⟩, hT.2.2.1.F ht⟩) hT.2.2.1.2.2 hd
theorem runSH {p : Program} {l : Launch} {e : Env} {s : State} {m : MethodId} {args : Array Value} {below : List Frame} {meth : Method} {c : Code} {H : Heap} {locs : List Loc} {cells slots : Nat} {pc : Nat} {ls : Array Slot} {rest st0 : List Value} {mc ms : Nat} {cl : List vw_C} {D : va_G} {Z : Nat → ClassId} {ws : va_W} {r : Nat → Nat} {y : MethodName} {bytes cc : ByteArray} {maxL nL n index : Nat} {ret : Option FieldType} {hh : List (Nat × Nat × Nat × Nat)} {rn rn' mcR msR : Nat} {Qc : Array Value → State → Outcome → State → Prop} {free : Addr → Prop} {own : String} {As : List Value} (hC : CallFix p m c cc nL s args lw_g own) (hN : NW s) (hR : RXD r (va_A ws H.size) s H) (hM : Met l y (wyh y bytes maxL ret hh) (rk rn' mc ms) (preX cl D Z r ws H.size As) Qc mc ms free) (hi : MInfoH y bytes maxL ret hh n) (hl : Cond.methodLink own index y ∈ lw_g) (hlt : rn' < rn)
    (hP : va_P D cl ws H) (hD : va_D (fun _ => True) ws) (hK : va_K D cl (tysG Z) s)
    (hn : As.length = n) (hsize : ls.size = nL) (hstack : st0 = As.reverse ++ rest) (hW : (rest.map fun v => v.category).sum ≤ 8) (hdg : decode cc pc = .ok (.invokestatic index, 3)) (hf : cells + mc ≤ mcR ∧ slots + ms ≤ msR) :
    va_Run p l e (rk rn mcR msR) s m args below meth c H locs cells slots mc ms (F0 m pc ls st0) rest (Qc As.toArray) free := by
  have hts := hC.2.2.2.2
  have hcw : vx_CSW (rk rn mcR msR) s args own index y bytes maxL ret hh (wyh y bytes maxL ret hh) (rk rn' mc ms) mc ms n := by
    have hd := hi.2.2.2.1
    refine ⟨⟨rfl, rfl, (rk_fit hlt hi.2.2.1).1, (rk_fit hlt hi.2.2.1).2, pay_in hts (wyh_good hi.1), List.mem_cons_self⟩, hts _ hi.1, hts _ hi.2.1, ⟨hd.1, hd.2.1⟩, fun sig h => ?_, hts _ hl, hts _ hi.2.2.2.2⟩
    have h2 := hd.2.2
    rw [h] at h2
    exact (Option.some.inj h2).symm
  exact vx_runSW (As := As) (rest := rest) hC hM hcw ⟨preX.blind, fun U hU hW => ⟨rfl, by rw [hU], by rw [hU]; exact hP, hD, va_K.moved hW.alike hK, NW.warm hW hN, by rw [hU]; exact hR.warm hW⟩⟩ rfl hn hsize hstack (lv_room hW) hdg hf
theorem dL_below_0 : decode cL_below 0 = .ok (.iload_n 0, 1) := by decide +kernel
theorem dL_below_1 : decode cL_below 1 = .ok (.ldc 7, 2) := by decide +kernel
theorem dL_below_3 : decode cL_below 3 = .ok (.iand, 1) := by decide +kernel
theorem dL_below_4 : decode cL_below 4 = .ok (.iload_n 1, 1) := by decide +kernel
theorem dL_below_5 : decode cL_below 5 = .ok (.irem, 1) := by decide +kernel
theorem dL_below_6 : decode cL_below 6 = .ok (.ireturn, 1) := by decide +kernel
theorem dL_cell_0 : decode cL_cell 0 = .ok (.iload_n 1, 1) := by decide +kernel
theorem dL_cell_1 : decode cL_cell 1 = .ok (.aload_n 0, 1) := by decide +kernel
theorem dL_cell_2 : decode cL_cell 2 = .ok (.arraylength, 1) := by decide +kernel
theorem dL_cell_3 : decode cL_cell 3 = .ok (.if_icmp .ge 9, 3) := by decide +kernel
theorem dL_cell_6 : decode cL_cell 6 = .ok (.aload_n 0, 1) := by decide +kernel
theorem dL_cell_7 : decode cL_cell 7 = .ok (.iload_n 1, 1) := by decide +kernel
theorem dL_cell_8 : decode cL_cell 8 = .ok (.iaload, 1) := by decide +kernel
theorem dL_cell_9 : decode cL_cell 9 = .ok (.goto 9, 3) := by decide +kernel
theorem dL_cell_12 : decode cL_cell 12 = .ok (.ldc 8, 2) := by decide +kernel
theorem dL_cell_14 : decode cL_cell 14 = .ok (.iload_n 1, 1) := by decide +kernel
theorem dL_cell_15 : decode cL_cell 15 = .ok (.iconst 3, 1) := by decide +kernel
theorem dL_cell_16 : decode cL_cell 16 = .ok (.iadd, 1) := by decide +kernel
theorem dL_cell_17 : decode cL_cell 17 = .ok (.imul, 1) := by decide +kernel
theorem dL_cell_18 : decode cL_cell 18 = .ok (.ireturn, 1) := by decide +kernel
theorem mi_L_below : MInfo yL_below cL_below 2 (some .int) 2 := ⟨wq_899, wq_64, by decide, ⟨by decide +kernel, by decide +kernel, by decide +kernel⟩, by decide +kernel⟩
theorem mi_L_cell : MInfo yL_cell cL_cell 2 (some .int) 2 := ⟨wq_903, wq_64, by decide, ⟨by decide +kernel, by decide +kernel, by decide +kernel⟩, by decide +kernel⟩
def blw (x n : Int32) : Int32 := (x &&& 2147483647) - (x &&& 2147483647) / n * n
set_option maxRecDepth 100000 in
theorem c_L_below (l : Launch) (D : va_G) (Z : Nat → ClassId) (sz : Nat) (x n : Int32) (hn : ¬ n = 0) (K : Int32 → Prop) (hm : K (blw x n)) : Met l yL_below (wy yL_below cL_below 2 (some .int)) (rk 0 0 0) (pre vwCl D Z [] sz [.int x, .int n]) (vp_Si K) 0 0 (fun _ => False) := by
  refine ro_of (ty := .int) (by decide +kernel) (Nat.le_of_ble_eq_true rfl) rfl ?_
  intro p e s m args below meth c Q hC hN hsz hP hD hK hret ls hl
  have hx := hC.1
  have hb := hC.2.1
  have hl : lv_has ls 2 [(0, .int x), (1, .int n)] := hl
  refine lv_iload_n hx hb dL_below_0 rfl (lv_at hl 0 rfl) ?_
  refine lv_ldc (v := 2147483647) hx hb hC.2.2.2.1 (hC.2.2.2.2 _ wq_900) dL_below_1 ?_
  refine lv_iand hx hb dL_below_3 ?_
  refine lv_iload_n hx hb dL_below_4 rfl (lv_at hl 1 rfl) ?_
  refine lv_irem hx hb dL_below_5 hn ?_
  exact hret 6 _ _ hm rfl dL_below_6
section ROWBLW
variable {p : Program} {l : Launch} {e : Env} {s : State} {m : MethodId} {args : Array Value} {below : List Frame} {meth : Method} {c : Code} {H H0 : Heap} {locs : List Loc} {cells slots : Nat} {Q : State → Prop} {R : Room} {rn mcR msR : Nat}
variable {pc : Nat} {ls : Array Slot} {rest : List Value} {A : Nat → Prop} {D : va_G}
variable {cc : ByteArray} {nL index : Nat} {own host : String}
variable {Z : Nat → ClassId} {ws : va_W}
theorem w_below {x n : Int32} (hC : CallFix p m c cc nL s args lw_g own) (hN : NW s) (hK : va_K D vwCl (tysG Z) s) (hn : ¬ n = 0) (hl : Cond.methodLink own index yL_below ∈ lw_g) (hlt : 0 < rn) (hsize : ls.size = nL) (hW : (rest.map fun v => v.category).sum ≤ 8) (hf : cells + 0 ≤ mcR ∧ slots + 0 ≤ msR) (hdg : decode cc pc = .ok (.invokestatic index, 3)) (kk : W p l e (rk rn mcR msR) s m args below meth c H locs cells slots Q (F0 m (pc + 3) ls (.int (blw x n) :: rest))) : W p l e (rk rn mcR msR) s m args below meth c H locs cells slots Q (F0 m pc ls (.int n :: .int x :: rest)) :=
  ro_go (runS (As := [.int x, .int n]) hC hN (c_L_below l D Z H.size x n hn (fun r => r = blw x n) rfl) mi_L_below hl wq_898 hlt (ws := []) (fun k q h => by simp at h) (va_D_iff.mpr ⟨List.Pairwise.nil, fun q h => absurd h List.not_mem_nil⟩) hK rfl hsize rfl hW hdg hf) (fun r hr => hr ▸ kk)
end ROWBLW
def celv (xs : Nat → Int32) (Ln : Nat) (k : Int32) : Int32 := if k < Int32.ofNat Ln then xs k.toInt.toNat else 790386105 * (k + 3)
def RX (r : Nat → Nat) (scr Ln : Nat) (xs : Nat → Int32) (A : Nat → Prop) : R2 := fun U H => RXD r A U H ∧ va_X scr Ln xs U H ∧ scr < H.size ∧ ¬ A scr
theorem RX.rg (r : Nat → Nat) (scr Ln : Nat) (xs : Nat → Int32) : RG (RX r scr Ln xs) :=
  ⟨fun A U H H1 h hq => ⟨h.1.kept hq, h.2.1.kept (hq _ h.2.2.1 h.2.2.2), by
      obtain ⟨ce, e, _⟩ := h.2.1
      exact (Array.getElem?_eq_some_iff.mp ((hq _ h.2.2.1 h.2.2.2).trans e)).1, h.2.2.2⟩,
   fun A B U H h hAB => ⟨h.1.narrow hAB, h.2.1, h.2.2.1, fun z => h.2.2.2 (hAB _ z)⟩,
   fun A u U H hW h => ⟨h.1.warm hW, h.2.1.moved hW.alike, h.2.2⟩,
   fun A u U H hv h => ⟨h.1.same hv, h.2.1.moved (hv ▸ Vm.Alike.refl u.vm), h.2.2⟩⟩
theorem rox_ofG {l : Launch} {y : MethodName} {cc : ByteArray} {n : Nat} {ret : Option FieldType} {rn mc ms : Nat} {cl : List vw_C} {D : va_G} {Z : Nat → ClassId} {R : (Nat → Prop) → R2} {ws : va_W} {sz : Nat} {av : List Value} {ty : FieldType} {K : Int32 → Prop} (hy : plainName y.cls = true) (hn : (lg_sl av).length ≤ n) (hret : ret = some ty)
    (body : ∀ (p : Program) (e : Env) (s : State) (m : MethodId) (args : Array Value) (below : List Frame) (meth : Method) (c : Code) (Q : State → Prop) (A : Nat → Prop), CallFix p m c cc n s args lw_g y.cls → NW s → R A s s.heap → TS cl D ws A s.heap s.heap [] → va_K D cl (tysG Z) s →
      (∀ (pc : Nat) (ls : Array Slot) (H : Heap) (r : Int32), K r → TS cl D ws A s.heap H [] → narrow ty (.int r) = .int r → decode cc pc = .ok (.ireturn, 1) → W p l e (rk rn mc ms) s m args below meth c H [] mc ms Q (F0 m pc ls [.int r])) →
      ∀ ls : Array Slot, lv_has ls n (lv_args 0 av) → W p l e (rk rn mc ms) s m args below meth c s.heap [] 0 0 Q (F0 m 0 ls [])) :
    Met l y (wy y cc n ret) (rk rn mc ms) (preG R cl D Z ws sz av) (poI cl D Z (fun _ : Unit => ws) () sz (fun r _ => K r)) mc ms (va_A ws sz) := by
  refine rw_ofG (wsF := fun _ : Unit => ws) (u0 := ()) hy hn hret ?_
  intro p e s m args below meth c Q A hC hN hR hsz hT hK hret ls hl
  exact body p e s m args below meth c Q A hC hN hR hT hK (fun pc ls H r hk hT hn hd => hret pc ls H [] r () hk hT hn hd) ls hl
theorem toNat_cl {k : Int32} (h : ¬ k < 0) : k.toNatClampNeg = k.toInt.toNat := by
  rfl
theorem inb_of {k : Int32} {n : Nat} (h0 : ¬ k < 0) (h : k < Int32.ofNat n) (hn : n < 2 ^ 31 := by omega) : inb k n := by
  have e0 : (0 : Int32).toInt = 0 := by decide
  have e1 : (Int32.ofNat n).toInt = n := nI_toInt (by omega)
  rw [Int32.lt_iff_toInt_lt] at h0 h
  exact ⟨by omega, by omega⟩
set_option maxRecDepth 100000 in
theorem c_L_cell (l : Launch) (D : va_G) (Z : Nat → ClassId) (rx : Nat → Nat) (sz scr Ln : Nat) (xs : Nat → Int32) (k : Int32) (hLn : Ln < 2 ^ 31) (h0 : ¬ k < 0) : Met l yL_cell (wy yL_cell cL_cell 2 (some .int)) (rk 0 0 0) (preG (RX rx scr Ln xs) vwCl D Z [] sz [.ref scr, .int k]) (poI vwCl D Z (fun _ : Unit => []) () sz (fun r _ => r = celv xs Ln k)) 0 0 (va_A [] sz) := by
  refine rox_ofG (ty := .int) (by decide +kernel) (Nat.le_of_ble_eq_true rfl) rfl ?_
  intro p e s m args below meth c Q A hC hN hR hT hK hret ls hl
  have hx := hC.1
  have hb := hC.2.1
  have hl : lv_has ls 2 [(0, .ref scr), (1, .int k)] := hl
  refine lv_iload_n hx hb dL_cell_0 rfl (lv_at hl 1 rfl) ?_
  refine lv_aload_n hx hb dL_cell_1 rfl (lv_at hl 0 rfl) ?_
  refine va_slen hx hb hR.2.1 hR.2.2.1 hR.2.2.2 hT.2.2.1 dL_cell_2 ?_
  refine lv_icmp_ge (tgt := 12) hx hb dL_cell_3 (by decide) (fun c_3 => ?_) (fun c_3 => ?_)
  · have c_3' : ¬ k < Int32.ofNat Ln := fun z => by rw [Int32.lt_iff_toInt_lt] at z; rw [Int32.le_iff_toInt_le] at c_3; omega
    refine lv_ldc (v := 790386105) hx hb hC.2.2.2.1 (hC.2.2.2.2 _ wq_904) dL_cell_12 ?_
    refine lv_iload_n hx hb dL_cell_14 rfl (lv_at hl 1 rfl) ?_
    refine lv_iconst (v := 3) hx hb dL_cell_15 (by decide) ?_
    refine lv_iadd hx hb dL_cell_16 ?_
    refine lv_imul hx hb dL_cell_17 ?_
    exact hret 18 _ _ _ (by rw [celv, if_neg c_3']) hT rfl dL_cell_18
  · have c_3 : k < Int32.ofNat Ln := by rw [Int32.lt_iff_toInt_lt]; rw [Int32.le_iff_toInt_le] at c_3; omega
    refine lv_aload_n hx hb dL_cell_6 rfl (lv_at hl 0 rfl) ?_
    refine lv_iload_n hx hb dL_cell_7 rfl (lv_at hl 1 rfl) ?_
    refine va_sld hx hb hR.2.1 hR.2.2.1 hR.2.2.2 hT.2.2.1 (inb_in.mpr (inb_of h0 c_3)) dL_cell_8 ?_
    refine lv_goto (tgt := 18) hx hb dL_cell_9 (by decide) ?_
    exact hret 18 _ _ _ (by rw [celv, if_pos c_3, toNat_cl h0]) hT rfl dL_cell_18
section ROWCEL
variable {p : Program} {l : Launch} {e : Env} {s : State} {m : MethodId} {args : Array Value} {below : List Frame} {meth : Method} {c : Code} {H H0 : Heap} {locs : List Loc} {cells slots : Nat} {Q : State → Prop} {R : Room} {rn mcR msR : Nat}
variable {pc : Nat} {ls : Array Slot} {rest : List Value} {A : Nat → Prop} {D : va_G}
variable {cc : ByteArray} {nL index : Nat} {own host : String}
variable {Z : Nat → ClassId} {ws : va_W} {rx : Nat → Nat} {scr Ln : Nat} {xs : Nat → Int32}
theorem w_cell {k : Int32} (hC : CallFix p m c cc nL s args lw_g own) (hN : NW s) (hK : va_K D vwCl (tysG Z) s) (hR : RX rx scr Ln xs A s s.heap) (hT : TS vwCl D ws A s.heap H locs) (hLn : Ln < 2 ^ 31) (h0 : ¬ k < 0) (hl : Cond.methodLink own index yL_cell ∈ lw_g) (hlt : 0 < rn) (hsize : ls.size = nL) (hW : (rest.map fun v => v.category).sum ≤ 8) (hf : cells + 0 ≤ mcR ∧ slots + 0 ≤ msR) (hdg : decode cc pc = .ok (.invokestatic index, 3)) (kk : ∀ (H1 : Heap) (locs1 : List Loc), TS vwCl D ws A s.heap H1 locs1 → W p l e (rk rn mcR msR) s m args below meth c H1 locs1 cells slots Q (F0 m (pc + 3) ls (.int (celv xs Ln k) :: rest))) : W p l e (rk rn mcR msR) s m args below meth c H locs cells slots Q (F0 m pc ls (.int k :: .ref scr :: rest)) := by
  have hT0 : TS vwCl D ([] ++ ws) A s.heap H locs := hT
  refine goI (u0 := ()) (wsF := fun _ : Unit => []) (runSG (As := [.ref scr, .int k]) (RX.rg rx scr Ln xs) hC hN ((RX.rg rx scr Ln xs).appL (hT0.rg (RX.rg rx scr Ln xs) hR)) (c_L_cell l D Z rx _ scr Ln xs k hLn h0) mi_L_cell hl wq_902 hlt hT0.dropR.1 hT0.dropR.D' hK rfl hsize rfl hW hdg hf) rfl hT0 (fun r u H1 locs1 hk hT1 => ?_)
  subst hk
  exact kk H1 locs1 hT1
end ROWCEL
section LX5_air0x
variable {p : Program} {l : Launch} {e : Env} {s : State} {m : MethodId} {args : Array Value} {below : List Frame} {meth : Method} {c : Code} {H H0 : Heap} {locs : List Loc} {cells slots : Nat} {Q : State → Prop} {R : Room} {rn mcR msR : Nat}
variable {pc : Nat} {ls : Array Slot} {rest : List Value} {A : Nat → Prop} {D : va_G}
variable {cc : ByteArray} {nL index : Nat} {own host : String}
theorem kx_X5_air {Z : Nat → ClassId} {a b q : Nat → Nat} {ca tp rd sp : Nat} {P : M2} {ap : Nat} {F : M2} {G : M2} {C : M2} {K : Int32 → Nat → M2 → M2 → M2 → Prop} {ws wr : va_W} {isC isR pm : List Nat} {ws' : Nat × M2 × M2 × M2 → va_W} (hC : CallFix p m c cc nL s args lw_g own) (hN : NW s) (hK : va_K D vwCl (tysG Z) s) (hT : TS vwCl D ws A H0 H locs) (hc : Cut ws (fun u : Nat × M2 × M2 × M2 => CA Z a b q ca tp rd sp P u.1 u.2.1 u.2.2.1 u.2.2.2) (ap, F, G, C) wr isC isR pm ws') (hnd : va_nd isC = true) (hm : wp_X5_air q P ap F G C K) (hl : Cond.methodLink own index yX5_air ∈ lw_g) (hlt : 1 < rn) (hsize : ls.size = nL) (hW : (rest.map fun v => v.category).sum ≤ 8) (hf : cells + 0 ≤ mcR ∧ slots + 0 ≤ msR) (hdg : decode cc pc = .ok (.invokevirtual index, 3)) (kk : ∀ (r : Int32) (ap1 : Nat) (F1 : M2) (G1 : M2) (C1 : M2) (H1 : Heap) (locs1 : List Loc), K r ap1 F1 G1 C1 → TS vwCl D (ws' (ap1, F1, G1, C1)) A H0 H1 locs1 → W p l e (rk rn mcR msR) s m args below meth c H1 locs1 cells slots Q (F0 m (pc + 3) ls (.int r :: rest))) : W p l e (rk rn mcR msR) s m args below meth c H locs cells slots Q (F0 m pc ls (.ref (ca) :: rest)) :=
  rw_go (wsF := (fun u : Nat × M2 × M2 × M2 => CA Z a b q ca tp rd sp P u.1 u.2.1 u.2.2.1 u.2.2.2)) (u0 := (ap, F, G, C)) (wr := wr) (isC := isC) (isR := isR) (pm := pm) (ws' := ws') (runV (As := []) hC hN (c_X5_air l D Z a b q ca tp rd sp P ap F G C H.size K hm) mi_X5_air hl wq_1467 wq_1468 hlt (hT.1.sub isC (map_fm hc.1)) (hT.D'.sub isC hnd hc.1) hK (q0 := 45) rfl rfl rfl hsize rfl hW hdg hf) hc hT (fun r u H1 locs1 hk hT1 => kk r u.1 u.2.1 u.2.2.1 u.2.2.2 H1 locs1 hk hT1)
end LX5_air0x
section LX5_whistle0x
variable {p : Program} {l : Launch} {e : Env} {s : State} {m : MethodId} {args : Array Value} {below : List Frame} {meth : Method} {c : Code} {H H0 : Heap} {locs : List Loc} {cells slots : Nat} {Q : State → Prop} {R : Room} {rn mcR msR : Nat}
variable {pc : Nat} {ls : Array Slot} {rest : List Value} {A : Nat → Prop} {D : va_G}
variable {cc : ByteArray} {nL index : Nat} {own host : String}
theorem kx_X5_whistle {Z : Nat → ClassId} {a b q : Nat → Nat} {ca tp rd sp : Nat} {P : M2} {ap : Nat} {F : M2} {G : M2} {C : M2} {x1 : Int32} {K : Int32 → Nat → M2 → M2 → M2 → Prop} {ws wr : va_W} {isC isR pm : List Nat} {ws' : Nat × M2 × M2 × M2 → va_W} (hC : CallFix p m c cc nL s args lw_g own) (hN : NW s) (hK : va_K D vwCl (tysG Z) s) (hT : TS vwCl D ws A H0 H locs) (hc : Cut ws (fun u : Nat × M2 × M2 × M2 => CA Z a b q ca tp rd sp P u.1 u.2.1 u.2.2.1 u.2.2.2) (ap, F, G, C) wr isC isR pm ws') (hnd : va_nd isC = true) (hm : wp_X5_whistle q P (fun _ => False) ap F G C x1 K) (hl : Cond.methodLink own index yX5_whistle ∈ lw_g) (hlt : 7 < rn) (hsize : ls.size = nL) (hW : (rest.map fun v => v.category).sum ≤ 8) (hf : cells + 0 ≤ mcR ∧ slots + 0 ≤ msR) (hdg : decode cc pc = .ok (.invokevirtual index, 3)) (kk : ∀ (r : Int32) (ap1 : Nat) (F1 : M2) (G1 : M2) (C1 : M2) (H1 : Heap) (locs1 : List Loc), K r ap1 F1 G1 C1 → TS vwCl D (ws' (ap1, F1, G1, C1)) A H0 H1 locs1 → W p l e (rk rn mcR msR) s m args below meth c H1 locs1 cells slots Q (F0 m (pc + 3) ls (.int r :: rest))) : W p l e (rk rn mcR msR) s m args below meth c H locs cells slots Q (F0 m pc ls (.int x1 :: .ref (ca) :: rest)) :=
  rw_go (wsF := (fun u : Nat × M2 × M2 × M2 => CA Z a b q ca tp rd sp P u.1 u.2.1 u.2.2.1 u.2.2.2)) (u0 := (ap, F, G, C)) (wr := wr) (isC := isC) (isR := isR) (pm := pm) (ws' := ws') (runV (As := [.int x1]) hC hN (c_X5_whistle l D Z a b q ca tp rd sp P ap F G C H.size x1 K hm) mi_X5_whistle hl wq_1462 wq_1463 hlt (hT.1.sub isC (map_fm hc.1)) (hT.D'.sub isC hnd hc.1) hK (q0 := 45) rfl rfl rfl hsize rfl hW hdg hf) hc hT (fun r u H1 locs1 hk hT1 => kk r u.1 u.2.1 u.2.2.1 u.2.2.2 H1 locs1 hk hT1)
end LX5_whistle0x
section LX5_cap0x
variable {p : Program} {l : Launch} {e : Env} {s : State} {m : MethodId} {args : Array Value} {below : List Frame} {meth : Method} {c : Code} {H H0 : Heap} {locs : List Loc} {cells slots : Nat} {Q : State → Prop} {R : Room} {rn mcR msR : Nat}
variable {pc : Nat} {ls : Array Slot} {rest : List Value} {A : Nat → Prop} {D : va_G}
variable {cc : ByteArray} {nL index : Nat} {own host : String}
theorem kx_X5_cap {Z : Nat → ClassId} {a b q : Nat → Nat} {ca tp rd sp : Nat} {P : M2} {ap : Nat} {F : M2} {G : M2} {C : M2} {x1 : Int32} {K : Int32 → Nat → M2 → M2 → M2 → Prop} {ws wr : va_W} {isC isR pm : List Nat} {ws' : Nat × M2 × M2 × M2 → va_W} (hC : CallFix p m c cc nL s args lw_g own) (hN : NW s) (hK : va_K D vwCl (tysG Z) s) (hT : TS vwCl D ws A H0 H locs) (hc : Cut ws (fun u : Nat × M2 × M2 × M2 => CA Z a b q ca tp rd sp P u.1 u.2.1 u.2.2.1 u.2.2.2) (ap, F, G, C) wr isC isR pm ws') (hnd : va_nd isC = true) (hm : wp_X5_cap q P (fun _ => False) ap F G C x1 K) (hl : Cond.methodLink own index yX5_cap ∈ lw_g) (hlt : 7 < rn) (hsize : ls.size = nL) (hW : (rest.map fun v => v.category).sum ≤ 8) (hf : cells + 0 ≤ mcR ∧ slots + 0 ≤ msR) (hdg : decode cc pc = .ok (.invokevirtual index, 3)) (kk : ∀ (r : Int32) (ap1 : Nat) (F1 : M2) (G1 : M2) (C1 : M2) (H1 : Heap) (locs1 : List Loc), K r ap1 F1 G1 C1 → TS vwCl D (ws' (ap1, F1, G1, C1)) A H0 H1 locs1 → W p l e (rk rn mcR msR) s m args below meth c H1 locs1 cells slots Q (F0 m (pc + 3) ls (.int r :: rest))) : W p l e (rk rn mcR msR) s m args below meth c H locs cells slots Q (F0 m pc ls (.int x1 :: .ref (ca) :: rest)) :=
  rw_go (wsF := (fun u : Nat × M2 × M2 × M2 => CA Z a b q ca tp rd sp P u.1 u.2.1 u.2.2.1 u.2.2.2)) (u0 := (ap, F, G, C)) (wr := wr) (isC := isC) (isR := isR) (pm := pm) (ws' := ws') (runV (As := [.int x1]) hC hN (c_X5_cap l D Z a b q ca tp rd sp P ap F G C H.size x1 K hm) mi_X5_cap hl wq_1472 wq_1473 hlt (hT.1.sub isC (map_fm hc.1)) (hT.D'.sub isC hnd hc.1) hK (q0 := 45) rfl rfl rfl hsize rfl hW hdg hf) hc hT (fun r u H1 locs1 hk hT1 => kk r u.1 u.2.1 u.2.2.1 u.2.2.2 H1 locs1 hk hT1)
end LX5_cap0x
theorem dL_act_0 : decode cL_act 0 = .ok (.iload_n 2, 1) := by decide +kernel
theorem dL_act_1 : decode cL_act 1 = .ok (.iconst 5, 1) := by decide +kernel
theorem dL_act_2 : decode cL_act 2 = .ok (.invokestatic 102, 3) := by decide +kernel
theorem dL_act_5 : decode cL_act 5 = .ok (.tableswitch 190 0 3 #[31, 31, 65, 143], 31) := by decide +kernel
theorem dL_act_36 : decode cL_act 36 = .ok (.aload_n 1, 1) := by decide +kernel
theorem dL_act_37 : decode cL_act 37 = .ok (.getfield 170, 3) := by decide +kernel
theorem dL_act_40 : decode cL_act 40 = .ok (.istore_n 3, 1) := by decide +kernel
theorem dL_act_41 : decode cL_act 41 = .ok (.aload_n 1, 1) := by decide +kernel
theorem dL_act_42 : decode cL_act 42 = .ok (.iload_n 2, 1) := by decide +kernel
theorem dL_act_43 : decode cL_act 43 = .ok (.iconst 3, 1) := by decide +kernel
theorem dL_act_44 : decode cL_act 44 = .ok (.ishr, 1) := by decide +kernel
theorem dL_act_45 : decode cL_act 45 = .ok (.iconst 2, 1) := by decide +kernel
theorem dL_act_46 : decode cL_act 46 = .ok (.invokestatic 102, 3) := by decide +kernel
theorem dL_act_49 : decode cL_act 49 = .ok (.putfield 170, 3) := by decide +kernel
theorem dL_act_52 : decode cL_act 52 = .ok (.aload_n 0, 1) := by decide +kernel
theorem dL_act_53 : decode cL_act 53 = .ok (.aload_n 1, 1) := by decide +kernel
theorem dL_act_54 : decode cL_act 54 = .ok (.getfield 170, 3) := by decide +kernel
theorem dL_act_57 : decode cL_act 57 = .ok (.invokevirtual 174, 3) := by decide +kernel
theorem dL_act_60 : decode cL_act 60 = .ok (.iload_n 3, 1) := by decide +kernel
theorem dL_act_61 : decode cL_act 61 = .ok (.if_icmp .ne 7, 3) := by decide +kernel
theorem dL_act_64 : decode cL_act 64 = .ok (.iconst 1, 1) := by decide +kernel
theorem dL_act_65 : decode cL_act 65 = .ok (.goto 4, 3) := by decide +kernel
theorem dL_act_68 : decode cL_act 68 = .ok (.iconst 0, 1) := by decide +kernel
theorem dL_act_69 : decode cL_act 69 = .ok (.ireturn, 1) := by decide +kernel
theorem dL_act_70 : decode cL_act 70 = .ok (.iload_n 2, 1) := by decide +kernel
theorem dL_act_71 : decode cL_act 71 = .ok (.iconst 5, 1) := by decide +kernel
theorem dL_act_72 : decode cL_act 72 = .ok (.ishr, 1) := by decide +kernel
theorem dL_act_73 : decode cL_act 73 = .ok (.iconst 4, 1) := by decide +kernel
theorem dL_act_74 : decode cL_act 74 = .ok (.invokestatic 102, 3) := by decide +kernel
theorem dL_act_77 : decode cL_act 77 = .ok (.ifCond .le 5, 3) := by decide +kernel
theorem dL_act_80 : decode cL_act 80 = .ok (.iconst 1, 1) := by decide +kernel
theorem dL_act_81 : decode cL_act 81 = .ok (.ireturn, 1) := by decide +kernel
theorem dL_act_82 : decode cL_act 82 = .ok (.iconst 0, 1) := by decide +kernel
theorem dL_act_83 : decode cL_act 83 = .ok (.istore_n 3, 1) := by decide +kernel
theorem dL_act_84 : decode cL_act 84 = .ok (.aload_n 1, 1) := by decide +kernel
theorem dL_act_85 : decode cL_act 85 = .ok (.getfield 119, 3) := by decide +kernel
theorem dL_act_88 : decode cL_act 88 = .ok (.astore 4, 2) := by decide +kernel
theorem dL_act_90 : decode cL_act 90 = .ok (.aload 4, 2) := by decide +kernel
theorem dL_act_92 : decode cL_act 92 = .ok (.arraylength, 1) := by decide +kernel
theorem dL_act_93 : decode cL_act 93 = .ok (.istore 5, 2) := by decide +kernel
theorem dL_act_95 : decode cL_act 95 = .ok (.iconst 0, 1) := by decide +kernel
theorem dL_act_96 : decode cL_act 96 = .ok (.istore 6, 2) := by decide +kernel
theorem dL_act_98 : decode cL_act 98 = .ok (.iload 6, 2) := by decide +kernel
theorem dL_act_100 : decode cL_act 100 = .ok (.iload 5, 2) := by decide +kernel
theorem dL_act_102 : decode cL_act 102 = .ok (.if_icmp .ge 32, 3) := by decide +kernel
theorem dL_act_105 : decode cL_act 105 = .ok (.aload 4, 2) := by decide +kernel
theorem dL_act_107 : decode cL_act 107 = .ok (.iload 6, 2) := by decide +kernel
theorem dL_act_109 : decode cL_act 109 = .ok (.aaload, 1) := by decide +kernel
theorem dL_act_110 : decode cL_act 110 = .ok (.astore 7, 2) := by decide +kernel
theorem dL_act_112 : decode cL_act 112 = .ok (.iload_n 3, 1) := by decide +kernel
theorem dL_act_113 : decode cL_act 113 = .ok (.bipush 100, 2) := by decide +kernel
theorem dL_act_115 : decode cL_act 115 = .ok (.aload 7, 2) := by decide +kernel
theorem dL_act_117 : decode cL_act 117 = .ok (.iconst 1, 1) := by decide +kernel
theorem dL_act_118 : decode cL_act 118 = .ok (.iaload, 1) := by decide +kernel
theorem dL_act_119 : decode cL_act 119 = .ok (.isub, 1) := by decide +kernel
theorem dL_act_120 : decode cL_act 120 = .ok (.iadd, 1) := by decide +kernel
theorem dL_act_121 : decode cL_act 121 = .ok (.istore_n 3, 1) := by decide +kernel
theorem dL_act_122 : decode cL_act 122 = .ok (.aload 7, 2) := by decide +kernel
theorem dL_act_124 : decode cL_act 124 = .ok (.iconst 1, 1) := by decide +kernel
theorem dL_act_125 : decode cL_act 125 = .ok (.bipush 100, 2) := by decide +kernel
theorem dL_act_127 : decode cL_act 127 = .ok (.iastore, 1) := by decide +kernel
theorem dL_act_128 : decode cL_act 128 = .ok (.iinc 6 1, 3) := by decide +kernel
theorem dL_act_131 : decode cL_act 131 = .ok (.goto (-33), 3) := by decide +kernel
theorem dL_act_134 : decode cL_act 134 = .ok (.aload_n 0, 1) := by decide +kernel
theorem dL_act_135 : decode cL_act 135 = .ok (.invokevirtual 177, 3) := by decide +kernel
theorem dL_act_138 : decode cL_act 138 = .ok (.iload_n 3, 1) := by decide +kernel
theorem dL_act_139 : decode cL_act 139 = .ok (.if_icmp .ne 7, 3) := by decide +kernel
theorem dL_act_142 : decode cL_act 142 = .ok (.iconst 1, 1) := by decide +kernel
theorem dL_act_143 : decode cL_act 143 = .ok (.goto 4, 3) := by decide +kernel
theorem dL_act_146 : decode cL_act 146 = .ok (.iconst 0, 1) := by decide +kernel
theorem dL_act_147 : decode cL_act 147 = .ok (.ireturn, 1) := by decide +kernel
theorem dL_act_148 : decode cL_act 148 = .ok (.iload_n 2, 1) := by decide +kernel
theorem dL_act_149 : decode cL_act 149 = .ok (.iconst 4, 1) := by decide +kernel
theorem dL_act_150 : decode cL_act 150 = .ok (.ishr, 1) := by decide +kernel
theorem dL_act_151 : decode cL_act 151 = .ok (.aload_n 1, 1) := by decide +kernel
theorem dL_act_152 : decode cL_act 152 = .ok (.getfield 41, 3) := by decide +kernel
theorem dL_act_155 : decode cL_act 155 = .ok (.arraylength, 1) := by decide +kernel
theorem dL_act_156 : decode cL_act 156 = .ok (.invokestatic 102, 3) := by decide +kernel
theorem dL_act_159 : decode cL_act 159 = .ok (.istore_n 3, 1) := by decide +kernel
theorem dL_act_160 : decode cL_act 160 = .ok (.aload_n 1, 1) := by decide +kernel
theorem dL_act_161 : decode cL_act 161 = .ok (.getfield 41, 3) := by decide +kernel
theorem dL_act_164 : decode cL_act 164 = .ok (.iload_n 3, 1) := by decide +kernel
theorem dL_act_165 : decode cL_act 165 = .ok (.aaload, 1) := by decide +kernel
theorem dL_act_166 : decode cL_act 166 = .ok (.iconst 3, 1) := by decide +kernel
theorem dL_act_167 : decode cL_act 167 = .ok (.iaload, 1) := by decide +kernel
theorem dL_act_168 : decode cL_act 168 = .ok (.istore 4, 2) := by decide +kernel
theorem dL_act_170 : decode cL_act 170 = .ok (.aload_n 1, 1) := by decide +kernel
theorem dL_act_171 : decode cL_act 171 = .ok (.getfield 41, 3) := by decide +kernel
theorem dL_act_174 : decode cL_act 174 = .ok (.iload_n 3, 1) := by decide +kernel
theorem dL_act_175 : decode cL_act 175 = .ok (.aaload, 1) := by decide +kernel
theorem dL_act_176 : decode cL_act 176 = .ok (.iconst 3, 1) := by decide +kernel
theorem dL_act_177 : decode cL_act 177 = .ok (.iconst (-1), 1) := by decide +kernel
theorem dL_act_178 : decode cL_act 178 = .ok (.iastore, 1) := by decide +kernel
theorem dL_act_179 : decode cL_act 179 = .ok (.aload_n 0, 1) := by decide +kernel
theorem dL_act_180 : decode cL_act 180 = .ok (.iload_n 3, 1) := by decide +kernel
theorem dL_act_181 : decode cL_act 181 = .ok (.invokevirtual 180, 3) := by decide +kernel
theorem dL_act_184 : decode cL_act 184 = .ok (.iload 4, 2) := by decide +kernel
theorem dL_act_186 : decode cL_act 186 = .ok (.if_icmp .ne 7, 3) := by decide +kernel
theorem dL_act_189 : decode cL_act 189 = .ok (.iconst 1, 1) := by decide +kernel
theorem dL_act_190 : decode cL_act 190 = .ok (.goto 4, 3) := by decide +kernel
theorem dL_act_193 : decode cL_act 193 = .ok (.iconst 0, 1) := by decide +kernel
theorem dL_act_194 : decode cL_act 194 = .ok (.ireturn, 1) := by decide +kernel
theorem dL_act_195 : decode cL_act 195 = .ok (.iload_n 2, 1) := by decide +kernel
theorem dL_act_196 : decode cL_act 196 = .ok (.iconst 4, 1) := by decide +kernel
theorem dL_act_197 : decode cL_act 197 = .ok (.ishr, 1) := by decide +kernel
theorem dL_act_198 : decode cL_act 198 = .ok (.aload_n 1, 1) := by decide +kernel
theorem dL_act_199 : decode cL_act 199 = .ok (.getfield 56, 3) := by decide +kernel
theorem dL_act_202 : decode cL_act 202 = .ok (.arraylength, 1) := by decide +kernel
theorem dL_act_203 : decode cL_act 203 = .ok (.invokestatic 102, 3) := by decide +kernel
theorem dL_act_206 : decode cL_act 206 = .ok (.istore_n 3, 1) := by decide +kernel
theorem dL_act_207 : decode cL_act 207 = .ok (.aload_n 1, 1) := by decide +kernel
theorem dL_act_208 : decode cL_act 208 = .ok (.getfield 56, 3) := by decide +kernel
theorem dL_act_211 : decode cL_act 211 = .ok (.iload_n 3, 1) := by decide +kernel
theorem dL_act_212 : decode cL_act 212 = .ok (.aaload, 1) := by decide +kernel
theorem dL_act_213 : decode cL_act 213 = .ok (.astore 4, 2) := by decide +kernel
theorem dL_act_215 : decode cL_act 215 = .ok (.aload_n 1, 1) := by decide +kernel
theorem dL_act_216 : decode cL_act 216 = .ok (.getfield 183, 3) := by decide +kernel
theorem dL_act_219 : decode cL_act 219 = .ok (.iload_n 2, 1) := by decide +kernel
theorem dL_act_220 : decode cL_act 220 = .ok (.bipush 6, 2) := by decide +kernel
theorem dL_act_222 : decode cL_act 222 = .ok (.ishr, 1) := by decide +kernel
theorem dL_act_223 : decode cL_act 223 = .ok (.bipush 30, 2) := by decide +kernel
theorem dL_act_225 : decode cL_act 225 = .ok (.invokestatic 102, 3) := by decide +kernel
theorem dL_act_228 : decode cL_act 228 = .ok (.iadd, 1) := by decide +kernel
theorem dL_act_229 : decode cL_act 229 = .ok (.istore 5, 2) := by decide +kernel
theorem dL_act_231 : decode cL_act 231 = .ok (.aload 4, 2) := by decide +kernel
theorem dL_act_233 : decode cL_act 233 = .ok (.iconst 3, 1) := by decide +kernel
theorem dL_act_234 : decode cL_act 234 = .ok (.iaload, 1) := by decide +kernel
theorem dL_act_235 : decode cL_act 235 = .ok (.iconst 2, 1) := by decide +kernel
theorem dL_act_236 : decode cL_act 236 = .ok (.if_icmp .ne 7, 3) := by decide +kernel
theorem dL_act_239 : decode cL_act 239 = .ok (.iconst 1, 1) := by decide +kernel
theorem dL_act_240 : decode cL_act 240 = .ok (.goto 4, 3) := by decide +kernel
theorem dL_act_243 : decode cL_act 243 = .ok (.iconst 0, 1) := by decide +kernel
theorem dL_act_244 : decode cL_act 244 = .ok (.istore 6, 2) := by decide +kernel
theorem dL_act_246 : decode cL_act 246 = .ok (.aload_n 0, 1) := by decide +kernel
theorem dL_act_247 : decode cL_act 247 = .ok (.iload_n 3, 1) := by decide +kernel
theorem dL_act_248 : decode cL_act 248 = .ok (.iload 5, 2) := by decide +kernel
theorem dL_act_250 : decode cL_act 250 = .ok (.invokevirtual 186, 3) := by decide +kernel
theorem dL_act_253 : decode cL_act 253 = .ok (.istore 7, 2) := by decide +kernel
theorem dL_act_255 : decode cL_act 255 = .ok (.goto 8, 3) := by decide +kernel
theorem dL_act_258 : decode cL_act 258 = .ok (.astore 8, 2) := by decide +kernel
theorem dL_act_260 : decode cL_act 260 = .ok (.iconst (-1), 1) := by decide +kernel
theorem dL_act_261 : decode cL_act 261 = .ok (.istore 7, 2) := by decide +kernel
theorem dL_act_263 : decode cL_act 263 = .ok (.iload 6, 2) := by decide +kernel
theorem dL_act_265 : decode cL_act 265 = .ok (.ifCond .eq 30, 3) := by decide +kernel
theorem dL_act_268 : decode cL_act 268 = .ok (.aload 4, 2) := by decide +kernel
theorem dL_act_270 : decode cL_act 270 = .ok (.iconst 1, 1) := by decide +kernel
theorem dL_act_271 : decode cL_act 271 = .ok (.iconst 1, 1) := by decide +kernel
theorem dL_act_272 : decode cL_act 272 = .ok (.aload 4, 2) := by decide +kernel
theorem dL_act_274 : decode cL_act 274 = .ok (.iconst 1, 1) := by decide +kernel
theorem dL_act_275 : decode cL_act 275 = .ok (.iaload, 1) := by decide +kernel
theorem dL_act_276 : decode cL_act 276 = .ok (.isub, 1) := by decide +kernel
theorem dL_act_277 : decode cL_act 277 = .ok (.iastore, 1) := by decide +kernel
theorem dL_act_278 : decode cL_act 278 = .ok (.aload 4, 2) := by decide +kernel
theorem dL_act_280 : decode cL_act 280 = .ok (.iconst 2, 1) := by decide +kernel
theorem dL_act_281 : decode cL_act 281 = .ok (.iload 5, 2) := by decide +kernel
theorem dL_act_283 : decode cL_act 283 = .ok (.iastore, 1) := by decide +kernel
theorem dL_act_284 : decode cL_act 284 = .ok (.aload 4, 2) := by decide +kernel
theorem dL_act_286 : decode cL_act 286 = .ok (.iconst 3, 1) := by decide +kernel
theorem dL_act_287 : decode cL_act 287 = .ok (.iconst 0, 1) := by decide +kernel
theorem dL_act_288 : decode cL_act 288 = .ok (.iastore, 1) := by decide +kernel
theorem dL_act_289 : decode cL_act 289 = .ok (.aload 4, 2) := by decide +kernel
theorem dL_act_291 : decode cL_act 291 = .ok (.bipush 6, 2) := by decide +kernel
theorem dL_act_293 : decode cL_act 293 = .ok (.iconst (-1), 1) := by decide +kernel
theorem dL_act_294 : decode cL_act 294 = .ok (.iastore, 1) := by decide +kernel
theorem dL_act_295 : decode cL_act 295 = .ok (.iload 7, 2) := by decide +kernel
theorem dL_act_297 : decode cL_act 297 = .ok (.iload 6, 2) := by decide +kernel
theorem dL_act_299 : decode cL_act 299 = .ok (.ifCond .eq 10, 3) := by decide +kernel
theorem dL_act_302 : decode cL_act 302 = .ok (.aload 4, 2) := by decide +kernel
theorem dL_act_304 : decode cL_act 304 = .ok (.iconst 1, 1) := by decide +kernel
theorem dL_act_305 : decode cL_act 305 = .ok (.iaload, 1) := by decide +kernel
theorem dL_act_306 : decode cL_act 306 = .ok (.goto 4, 3) := by decide +kernel
theorem dL_act_309 : decode cL_act 309 = .ok (.iconst (-1), 1) := by decide +kernel
theorem dL_act_310 : decode cL_act 310 = .ok (.if_icmp .ne 7, 3) := by decide +kernel
theorem dL_act_313 : decode cL_act 313 = .ok (.iconst 1, 1) := by decide +kernel
theorem dL_act_314 : decode cL_act 314 = .ok (.goto 4, 3) := by decide +kernel
theorem dL_act_317 : decode cL_act 317 = .ok (.iconst 0, 1) := by decide +kernel
theorem dL_act_318 : decode cL_act 318 = .ok (.ireturn, 1) := by decide +kernel
theorem mi_L_act : MInfoH yL_act cL_act 9 (some .boolean) [(246, 255, 258, 189)] 3 := ⟨wq_1459, wq_64, by decide, ⟨by decide +kernel, by decide +kernel, by decide +kernel⟩, wq_1458⟩
theorem wx_921 : Cond.castable "java/lang/IllegalStateException" "java/lang/IllegalStateException" ∈ lw_x := lw_x_mk (tb_4 (List.mem_of_getElem? (i := 137) rfl)) rfl
def wj_L_act_295 (q : Nat → Nat) (P : M2) (nn : Nat → Nat) (V : M2) (S : M2) (O : M2) (K : Int32 → Nat → M2 → M2 → M2 → M2 → M2 → M2 → M2 → Prop) (ap : Nat) (F : M2) (G : M2) (C : M2) (N : M2) (U : M2) (L : M2) (B : M2) (v4 : Int32) (v6 : Int32) (v7 : Int32) : Prop := ((v6 = 0 → ((¬ v7 = ((-1)) → K 0 ap F G C N U L B) ∧ (v7 = ((-1)) → K 1 ap F G C N U L B))) ∧ (¬ v6 = 0 → (inb v4 (nn 4) ∧ ((¬ v7 = (B v4.toInt.toNat 1) → K 0 ap F G C N U L B) ∧ (v7 = (B v4.toInt.toNat 1) → K 1 ap F G C N U L B)))))
def wj_L_act_244 (q : Nat → Nat) (P : M2) (nn : Nat → Nat) (V : M2) (S : M2) (O : M2) (K : Int32 → Nat → M2 → M2 → M2 → M2 → M2 → M2 → M2 → Prop) (ap : Nat) (F : M2) (G : M2) (C : M2) (N : M2) (U : M2) (L : M2) (B : M2) (v3 : Int32) (v4 : Int32) (v5 : Int32) (q0 : Int32) : Prop := wp_X5_again q P (fun k_ => (k_ = 0 ∧ ((q0 = 0 → wj_L_act_295 q P nn V S O K ap F G C N U L B v4 q0 ((-1))) ∧ (¬ q0 = 0 → (inb v4 (nn 4) ∧ (inb v4 (nn 4) ∧ ∀ B_277 : M2, B_277 = up2 B v4.toInt.toNat (upd (B v4.toInt.toNat) 1 (1 - (B v4.toInt.toNat 1))) → (inb v4 (nn 4) ∧ ∀ B_283 : M2, B_283 = up2 B_277 v4.toInt.toNat (upd (B_277 v4.toInt.toNat) 2 v5) → (inb v4 (nn 4) ∧ ∀ B_288 : M2, B_288 = up2 B_283 v4.toInt.toNat (upd (B_283 v4.toInt.toNat) 3 0) → (inb v4 (nn 4) ∧ ∀ B_294 : M2, B_294 = up2 B_288 v4.toInt.toNat (upd (B_288 v4.toInt.toNat) 6 ((-1))) → wj_L_act_295 q P nn V S O K ap F G C N U L B_294 v4 q0 ((-1))))))))))) ap F G C v3 v5 (fun r_250 ap_250 F_250 G_250 C_250 => ((q0 = 0 → wj_L_act_295 q P nn V S O K ap_250 F_250 G_250 C_250 N U L B v4 q0 r_250) ∧ (¬ q0 = 0 → (inb v4 (nn 4) ∧ (inb v4 (nn 4) ∧ ∀ B_277 : M2, B_277 = up2 B v4.toInt.toNat (upd (B v4.toInt.toNat) 1 (1 - (B v4.toInt.toNat 1))) → (inb v4 (nn 4) ∧ ∀ B_283 : M2, B_283 = up2 B_277 v4.toInt.toNat (upd (B_277 v4.toInt.toNat) 2 v5) → (inb v4 (nn 4) ∧ ∀ B_288 : M2, B_288 = up2 B_283 v4.toInt.toNat (upd (B_283 v4.toInt.toNat) 3 0) → (inb v4 (nn 4) ∧ ∀ B_294 : M2, B_294 = up2 B_288 v4.toInt.toNat (upd (B_288 v4.toInt.toNat) 6 ((-1))) → wj_L_act_295 q P nn V S O K ap_250 F_250 G_250 C_250 N U L B_294 v4 q0 r_250))))))))
def wl_L_act_98 (q : Nat → Nat) (P : M2) (nn : Nat → Nat) (V : M2) (S : M2) (O : M2) (K : Int32 → Nat → M2 → M2 → M2 → M2 → M2 → M2 → M2 → Prop) : Nat → Nat → M2 → M2 → M2 → M2 → M2 → M2 → M2 → Int32 → Int32 → Int32 → Prop
  | 0, _, _, _, _, _, _, _, _, _, _, _ => False
  | n + 1, ap, F, G, C, N, U, L, B, v3, v5, v6 => ((v5 ≤ v6 → wp_X5_air q P ap F G C (fun r_135 ap_135 F_135 G_135 C_135 => ((¬ r_135 = v3 → K 0 ap_135 F_135 G_135 C_135 N U L B) ∧ (r_135 = v3 → K 1 ap_135 F_135 G_135 C_135 N U L B)))) ∧ (¬ v5 ≤ v6 → (inb v6 (nn 1) ∧ (inb v6 (nn 1) ∧ (∀ v3_121, v3_121 = v3 + (100 - (U v6.toInt.toNat 1)) → (inb v6 (nn 1) ∧ ∀ U_127 : M2, U_127 = up2 U v6.toInt.toNat (upd (U v6.toInt.toNat) 1 100) → (∀ v6_128 : Int32, v6_128 = v6 + 1 → wl_L_act_98 q P nn V S O K n ap F G C N U_127 L B v3_121 v5 v6_128)))))))
def wp_L_act (q : Nat → Nat) (P : M2) (nn : Nat → Nat) (V : M2) (S : M2) (O : M2) (ap : Nat) (F : M2) (G : M2) (C : M2) (N : M2) (U : M2) (L : M2) (B : M2) (x2 : Int32) (K : Int32 → Nat → M2 → M2 → M2 → M2 → M2 → M2 → M2 → Prop) : Prop := (((blw x2 5) = 0 → (∀ v3_40, v3_40 = N 1 0 → (∀ N_49 : M2, N_49 = up2 N 1 (fun _ => blw (x2 >>> (3 &&& 31)) 2) → wp_X5_whistle q P (fun _ => False) ap F G C (N_49 1 0) (fun r_57 ap_57 F_57 G_57 C_57 => ((¬ r_57 = v3_40 → K 0 ap_57 F_57 G_57 C_57 N_49 U L B) ∧ (r_57 = v3_40 → K 1 ap_57 F_57 G_57 C_57 N_49 U L B)))))) ∧ ((blw x2 5) = 1 → (∀ v3_40, v3_40 = N 1 0 → (∀ N_49 : M2, N_49 = up2 N 1 (fun _ => blw (x2 >>> (3 &&& 31)) 2) → wp_X5_whistle q P (fun _ => False) ap F G C (N_49 1 0) (fun r_57 ap_57 F_57 G_57 C_57 => ((¬ r_57 = v3_40 → K 0 ap_57 F_57 G_57 C_57 N_49 U L B) ∧ (r_57 = v3_40 → K 1 ap_57 F_57 G_57 C_57 N_49 U L B)))))) ∧ ((blw x2 5) = 2 → (((blw (x2 >>> (5 &&& 31)) 4) ≤ 0 → (∀ v5_93, v5_93 = Int32.ofNat (nn 1) → wl_L_act_98 q P nn V S O K fK ap F G C N U L B 0 v5_93 0)) ∧ (¬ (blw (x2 >>> (5 &&& 31)) 4) ≤ 0 → K 1 ap F G C N U L B))) ∧ ((blw x2 5) = 3 → (¬ (Int32.ofNat (nn 3)) = 0 ∧ (∀ v3_159, v3_159 = blw (x2 >>> (4 &&& 31)) (Int32.ofNat (nn 3)) → (inb v3_159 (nn 3) ∧ (inb v3_159 (nn 3) ∧ (∀ v4_168, v4_168 = L v3_159.toInt.toNat 3 → (inb v3_159 (nn 3) ∧ (inb v3_159 (nn 3) ∧ ∀ L_178 : M2, L_178 = up2 L v3_159.toInt.toNat (upd (L v3_159.toInt.toNat) 3 ((-1))) → wp_X5_cap q P (fun _ => False) ap F G C v3_159 (fun r_181 ap_181 F_181 G_181 C_181 => ((¬ r_181 = v4_168 → K 0 ap_181 F_181 G_181 C_181 N U L_178 B) ∧ (r_181 = v4_168 → K 1 ap_181 F_181 G_181 C_181 N U L_178 B))))))))))) ∧ (¬ (blw x2 5) = 0 → ¬ (blw x2 5) = 1 → ¬ (blw x2 5) = 2 → ¬ (blw x2 5) = 3 → (¬ (Int32.ofNat (nn 4)) = 0 ∧ (∀ v3_206, v3_206 = blw (x2 >>> (4 &&& 31)) (Int32.ofNat (nn 4)) → (inb v3_206 (nn 4) ∧ (∀ v5_229, v5_229 = (N 0 0) + (blw (x2 >>> (6 &&& 31)) 30) → (inb v3_206 (nn 4) ∧ ((¬ (B v3_206.toInt.toNat 3) = 2 → wj_L_act_244 q P nn V S O K ap F G C N U L B v3_206 v3_206 v5_229 0) ∧ ((B v3_206.toInt.toNat 3) = 2 → wj_L_act_244 q P nn V S O K ap F G C N U L B v3_206 v3_206 v5_229 1)))))))))
set_option maxRecDepth 100000 in
set_option maxHeartbeats 4000000 in
theorem c_L_act (l : Launch) (hfl : l.stackTraces = false) (D : va_G) (rx : Nat → Nat) (Z : Nat → ClassId) (a b q : Nat → Nat) (ca tp rd sp : Nat) (P : M2) (sa : Nat) (o : Nat → Nat) (ro : Nat → Nat → Nat) (nn : Nat → Nat) (V S O : M2) (sz : Nat) (ap : Nat) (F : M2) (G : M2) (C : M2) (N : M2) (U : M2) (L : M2) (B : M2) (x2 : Int32) (K : Int32 → Nat → M2 → M2 → M2 → M2 → M2 → M2 → M2 → Prop) (hm : wp_L_act q P nn V S O ap F G C N U L B x2 K) : Met l yL_act (wyh yL_act cL_act 9 (some .boolean) [(246, 255, 258, 189)]) (rk 8 2 12) (preX vwCl D Z rx (LW Z a b q ca tp rd sp P sa o ro nn V S O ap F G C N U L B) sz [.ref (ca), .ref (sa), .int x2]) (poI vwCl D Z (fun u : Nat × M2 × M2 × M2 × M2 × M2 × M2 × M2 => LW Z a b q ca tp rd sp P sa o ro nn V S O u.1 u.2.1 u.2.2.1 u.2.2.2.1 u.2.2.2.2.1 u.2.2.2.2.2.1 u.2.2.2.2.2.2.1 u.2.2.2.2.2.2.2) (ap, F, G, C, N, U, L, B) sz (fun (r : Int32) (u : Nat × M2 × M2 × M2 × M2 × M2 × M2 × M2) => K r u.1 u.2.1 u.2.2.1 u.2.2.2.1 u.2.2.2.2.1 u.2.2.2.2.2.1 u.2.2.2.2.2.2.1 u.2.2.2.2.2.2.2)) 2 12 (va_A (LW Z a b q ca tp rd sp P sa o ro nn V S O ap F G C N U L B) sz) := by
  refine rw_ofH (ty := .boolean) (wsF := (fun u : Nat × M2 × M2 × M2 × M2 × M2 × M2 × M2 => LW Z a b q ca tp rd sp P sa o ro nn V S O u.1 u.2.1 u.2.2.1 u.2.2.2.1 u.2.2.2.2.1 u.2.2.2.2.2.1 u.2.2.2.2.2.2.1 u.2.2.2.2.2.2.2)) (u0 := (ap, F, G, C, N, U, L, B)) (by decide +kernel) (Nat.le_of_ble_eq_true rfl) rfl ?_
  intro p e s m args below meth c Q A hC hN hR hsz htab hT hK hret ls hl
  have hx := hC.1
  have hb := hC.2.1
  have hl : lv_has ls 9 [(0, .ref (ca)), (1, .ref (sa)), (2, .int x2)] := hl
  have hT : TS vwCl D ([] ++ ((CA Z a b q ca tp rd sp P ap F G C) ++ ((SM Z sa o ro nn V S O N U L B) ++ []))) A s.heap s.heap [] := hT
  have L295 : ∀ (ap : Nat) (F : M2) (G : M2) (C : M2) (N : M2) (U : M2) (L : M2) (B : M2) (v4 : Int32) (v6 : Int32) (v7 : Int32) (H : Heap) (locs : List Loc) (ls : Array Slot) (cc cs : Nat), wj_L_act_295 q P nn V S O K ap F G C N U L B v4 v6 v7 → TS vwCl D ([] ++ ((CA Z a b q ca tp rd sp P ap F G C) ++ ((SM Z sa o ro nn V S O N U L B) ++ []))) A s.heap H locs → lv_has ls 9 [(4, .ref (ro 4 v4.toInt.toNat)), (6, .int v6), (7, .int v7)] → cc + (0) ≤ 2 ∧ cs + (0) ≤ 12 → W p l e (rk 8 2 12) s m args below meth c H locs cc cs Q (F0 m 295 ls []) := by
    intro ap F G C N U L B v4 v6 v7 H locs ls cc cs hm hT hl hcb
    refine lv_iload hx hb dL_act_295 (lv_at hl 2 rfl) ?_
    refine lv_iload hx hb dL_act_297 (lv_at hl 1 rfl) ?_
    refine lv_if_eq (tgt := 309) hx hb dL_act_299 (by decide) (fun c_299 => ?_) (fun c_299 => ?_)
    · have hm := hm.1 c_299
      refine lv_iconst (v := (-1)) hx hb dL_act_309 (by decide) ?_
      refine lv_icmp_ne (tgt := 317) hx hb dL_act_310 (by decide) (fun c_310 => ?_) (fun c_310 => ?_)
      · have hm := hm.1 c_310
        refine lv_iconst (v := 0) hx hb dL_act_317 (by decide) ?_
        refine W.widen (k := 2) (n := 12) (by omega) (by omega) ?_
        exact hret 318 _ _ _ _ (ap, F, G, C, N, U, L, B) hm hT rfl dL_act_318
      · have hm := hm.2 c_310
        refine lv_iconst (v := 1) hx hb dL_act_313 (by decide) ?_
        refine lv_goto (tgt := 318) hx hb dL_act_314 (by decide) ?_
        refine W.widen (k := 2) (n := 12) (by omega) (by omega) ?_
        exact hret 318 _ _ _ _ (ap, F, G, C, N, U, L, B) hm hT rfl dL_act_318
    · have hm := hm.2 c_299
      refine lv_aload hx hb dL_act_302 (lv_at hl 0 rfl) ?_
      refine lv_iconst (v := 1) hx hb dL_act_304 (by decide) ?_
      refine wr_ld (jn := 1) (f := (fun X => [] ++ ((CA Z a b q ca tp rd sp P ap F G C) ++ (SM Z sa o ro nn V S O N U L X ++ [])))) (sm_pre (sm_pre (sm_suf (sm_4 Z sa o ro nn V S O N U L) _) _) _) hC hK hT.1 hm.1 (by decide) rfl dL_act_305 ?_
      have hm := hm.2
      refine lv_goto (tgt := 310) hx hb dL_act_306 (by decide) ?_
      refine lv_icmp_ne (tgt := 317) hx hb dL_act_310 (by decide) (fun c_310 => ?_) (fun c_310 => ?_)
      · have hm := hm.1 c_310
        refine lv_iconst (v := 0) hx hb dL_act_317 (by decide) ?_
        refine W.widen (k := 2) (n := 12) (by omega) (by omega) ?_
        exact hret 318 _ _ _ _ (ap, F, G, C, N, U, L, B) hm hT rfl dL_act_318
      · have hm := hm.2 c_310
        refine lv_iconst (v := 1) hx hb dL_act_313 (by decide) ?_
        refine lv_goto (tgt := 318) hx hb dL_act_314 (by decide) ?_
        refine W.widen (k := 2) (n := 12) (by omega) (by omega) ?_
        exact hret 318 _ _ _ _ (ap, F, G, C, N, U, L, B) hm hT rfl dL_act_318
  have L244 : ∀ (ap : Nat) (F : M2) (G : M2) (C : M2) (N : M2) (U : M2) (L : M2) (B : M2) (v3 : Int32) (v4 : Int32) (v5 : Int32) (q0 : Int32) (H : Heap) (locs : List Loc) (ls : Array Slot) (cc cs : Nat), wj_L_act_244 q P nn V S O K ap F G C N U L B v3 v4 v5 q0 → TS vwCl D ([] ++ ((CA Z a b q ca tp rd sp P ap F G C) ++ ((SM Z sa o ro nn V S O N U L B) ++ []))) A s.heap H locs → lv_has ls 9 [(0, .ref (ca)), (3, .int v3), (4, .ref (ro 4 v4.toInt.toNat)), (5, .int v5)] → cc + (2) ≤ 2 ∧ cs + (12) ≤ 12 → W p l e (rk 8 2 12) s m args below meth c H locs cc cs Q (F0 m 244 ls [.int q0]) := by
    intro ap F G C N U L B v3 v4 v5 q0 H locs ls cc cs hm hT hl hcb
    refine lv_istore (lv' := [(6, .int q0), (0, .ref (ca)), (3, .int v3), (4, .ref (ro 4 v4.toInt.toNat)), (5, .int v5)]) hx hb dL_act_244 hl (by decide) rfl (fun ls hl => ?_)
    refine lv_aload_n hx hb dL_act_246 rfl (lv_at hl 1 rfl) ?_
    refine lv_iload_n hx hb dL_act_247 rfl (lv_at hl 2 rfl) ?_
    refine lv_iload hx hb dL_act_248 (lv_at hl 4 rfl) ?_
    have hT0 := hT.perm (pm2 _ _ _)
    refine xk_X5_again hC hN hfl (hT0.rxd hR) hK hT0 (Cut.app (N := 46) (wsF := fun u : Nat × M2 × M2 × M2 => CA Z a b q ca tp rd sp P u.1 u.2.1 u.2.2.1 u.2.2.2) (u0 := (ap, F, G, C)) (fun _ => rfl)) (range_nd _) hm wq_1475 (by decide) hl.1 (Nat.le_of_ble_eq_true rfl) ⟨by omega, by omega⟩ dL_act_250 (fun k ce q9 H locs hk hT h1 h2 h3 => ?_) (fun r_250 ap_250 F_250 G_250 C_250 H locs hm hT => ?_)
    · have hT : TS vwCl D ([] ++ ((CA Z a b q ca tp rd sp P ap F G C) ++ ((SM Z sa o ro nn V S O N U L B) ++ []))) A s.heap H locs := hT.perm (pm2 _ _ _)
      obtain ⟨e_, hm⟩ := hk
      subst e_
      refine vx_catch (own := RL) (name := "java/lang/IllegalStateException") hC.2.2.2.1 [] ⟨246, 255, 258, 189⟩ [] htab (fun z hz => absurd hz List.not_mem_nil) (by decide) (by decide) (hC.2.2.2.2 _ wq_1460) (hR.2.2.2.2.1.use wx_921) h1 h2 h3 ?_
      refine lv_astore (lv' := [(8, .ref q9), (6, .int q0), (0, .ref (ca)), (3, .int v3), (4, .ref (ro 4 v4.toInt.toNat)), (5, .int v5)]) hx hb dL_act_258 hl (by decide) rfl (fun ls hl => ?_)
      refine lv_iconst (v := (-1)) hx hb dL_act_260 (by decide) ?_
      refine lv_istore (lv' := [(7, .int ((-1))), (8, .ref q9), (6, .int q0), (0, .ref (ca)), (3, .int v3), (4, .ref (ro 4 v4.toInt.toNat)), (5, .int v5)]) hx hb dL_act_261 hl (by decide) rfl (fun ls hl => ?_)
      refine lv_iload hx hb dL_act_263 (lv_at hl 2 rfl) ?_
      refine lv_if_eq (tgt := 295) hx hb dL_act_265 (by decide) (fun c_265 => ?_) (fun c_265 => ?_)
      · have hm := hm.1 c_265
        exact L295 _ _ _ _ _ _ _ _ _ _ _ _ _ _ _ _ hm hT (lv_sub hl [5, 2, 0] rfl) ⟨by omega, by omega⟩
      · have hm := hm.2 c_265
        refine lv_aload hx hb dL_act_268 (lv_at hl 5 rfl) ?_
        refine lv_iconst (v := 1) hx hb dL_act_270 (by decide) ?_
        refine lv_iconst (v := 1) hx hb dL_act_271 (by decide) ?_
        refine lv_aload hx hb dL_act_272 (lv_at hl 5 rfl) ?_
        refine lv_iconst (v := 1) hx hb dL_act_274 (by decide) ?_
        refine wr_ld (jn := 1) (f := (fun X => [] ++ ((CA Z a b q ca tp rd sp P ap F G C) ++ (SM Z sa o ro nn V S O N U L X ++ [])))) (sm_pre (sm_pre (sm_suf (sm_4 Z sa o ro nn V S O N U L) _) _) _) hC hK hT.1 hm.1 (by decide) rfl dL_act_275 ?_
        have hm := hm.2
        refine lv_isub hx hb dL_act_276 ?_
        refine wr_st (jn := 1) (f := (fun X => [] ++ ((CA Z a b q ca tp rd sp P ap F G C) ++ (SM Z sa o ro nn V S O N U L X ++ [])))) (sm_pre (sm_pre (sm_suf (sm_4 Z sa o ro nn V S O N U L) _) _) _) hC hK hT hm.1 (by decide) rfl dL_act_277 (fun B_277 eB_277 H locs hT => ?_)
        have hm := hm.2 B_277 eB_277
        have hT : TS vwCl D ([] ++ ((CA Z a b q ca tp rd sp P ap F G C) ++ ((SM Z sa o ro nn V S O N U L B_277) ++ []))) A s.heap H locs := hT
        refine lv_aload hx hb dL_act_278 (lv_at hl 5 rfl) ?_
        refine lv_iconst (v := 2) hx hb dL_act_280 (by decide) ?_
        refine lv_iload hx hb dL_act_281 (lv_at hl 6 rfl) ?_
        refine wr_st (jn := 2) (f := (fun X => [] ++ ((CA Z a b q ca tp rd sp P ap F G C) ++ (SM Z sa o ro nn V S O N U L X ++ [])))) (sm_pre (sm_pre (sm_suf (sm_4 Z sa o ro nn V S O N U L) _) _) _) hC hK hT hm.1 (by decide) rfl dL_act_283 (fun B_283 eB_283 H locs hT => ?_)
        have hm := hm.2 B_283 eB_283
        have hT : TS vwCl D ([] ++ ((CA Z a b q ca tp rd sp P ap F G C) ++ ((SM Z sa o ro nn V S O N U L B_283) ++ []))) A s.heap H locs := hT
        refine lv_aload hx hb dL_act_284 (lv_at hl 5 rfl) ?_
        refine lv_iconst (v := 3) hx hb dL_act_286 (by decide) ?_
        refine lv_iconst (v := 0) hx hb dL_act_287 (by decide) ?_
        refine wr_st (jn := 3) (f := (fun X => [] ++ ((CA Z a b q ca tp rd sp P ap F G C) ++ (SM Z sa o ro nn V S O N U L X ++ [])))) (sm_pre (sm_pre (sm_suf (sm_4 Z sa o ro nn V S O N U L) _) _) _) hC hK hT hm.1 (by decide) rfl dL_act_288 (fun B_288 eB_288 H locs hT => ?_)
        have hm := hm.2 B_288 eB_288
        have hT : TS vwCl D ([] ++ ((CA Z a b q ca tp rd sp P ap F G C) ++ ((SM Z sa o ro nn V S O N U L B_288) ++ []))) A s.heap H locs := hT
        refine lv_aload hx hb dL_act_289 (lv_at hl 5 rfl) ?_
        refine lv_bipush (v := 6) hx hb dL_act_291 (by decide) ?_
        refine lv_iconst (v := (-1)) hx hb dL_act_293 (by decide) ?_
        refine wr_st (jn := 6) (f := (fun X => [] ++ ((CA Z a b q ca tp rd sp P ap F G C) ++ (SM Z sa o ro nn V S O N U L X ++ [])))) (sm_pre (sm_pre (sm_suf (sm_4 Z sa o ro nn V S O N U L) _) _) _) hC hK hT hm.1 (by decide) rfl dL_act_294 (fun B_294 eB_294 H locs hT => ?_)
        have hm := hm.2 B_294 eB_294
        have hT : TS vwCl D ([] ++ ((CA Z a b q ca tp rd sp P ap F G C) ++ ((SM Z sa o ro nn V S O N U L B_294) ++ []))) A s.heap H locs := hT
        exact L295 _ _ _ _ _ _ _ _ _ _ _ _ _ _ _ _ hm hT (lv_sub hl [5, 2, 0] rfl) ⟨by omega, by omega⟩
    have hT : TS vwCl D ([] ++ ((CA Z a b q ca tp rd sp P ap_250 F_250 G_250 C_250) ++ ((SM Z sa o ro nn V S O N U L B) ++ []))) A s.heap H locs := hT.perm (pm2 _ _ _)
    refine lv_istore (lv' := [(7, .int r_250), (6, .int q0), (0, .ref (ca)), (3, .int v3), (4, .ref (ro 4 v4.toInt.toNat)), (5, .int v5)]) hx hb dL_act_253 hl (by decide) rfl (fun ls hl => ?_)
    refine lv_goto (tgt := 263) hx hb dL_act_255 (by decide) ?_
    refine lv_iload hx hb dL_act_263 (lv_at hl 1 rfl) ?_
    refine lv_if_eq (tgt := 295) hx hb dL_act_265 (by decide) (fun c_265 => ?_) (fun c_265 => ?_)
    · have hm := hm.1 c_265
      exact L295 _ _ _ _ _ _ _ _ _ _ _ _ _ _ _ _ hm hT (lv_sub hl [4, 1, 0] rfl) ⟨by omega, by omega⟩
    · have hm := hm.2 c_265
      refine lv_aload hx hb dL_act_268 (lv_at hl 4 rfl) ?_
      refine lv_iconst (v := 1) hx hb dL_act_270 (by decide) ?_
      refine lv_iconst (v := 1) hx hb dL_act_271 (by decide) ?_
      refine lv_aload hx hb dL_act_272 (lv_at hl 4 rfl) ?_
      refine lv_iconst (v := 1) hx hb dL_act_274 (by decide) ?_
      refine wr_ld (jn := 1) (f := (fun X => [] ++ ((CA Z a b q ca tp rd sp P ap_250 F_250 G_250 C_250) ++ (SM Z sa o ro nn V S O N U L X ++ [])))) (sm_pre (sm_pre (sm_suf (sm_4 Z sa o ro nn V S O N U L) _) _) _) hC hK hT.1 hm.1 (by decide) rfl dL_act_275 ?_
      have hm := hm.2
      refine lv_isub hx hb dL_act_276 ?_
      refine wr_st (jn := 1) (f := (fun X => [] ++ ((CA Z a b q ca tp rd sp P ap_250 F_250 G_250 C_250) ++ (SM Z sa o ro nn V S O N U L X ++ [])))) (sm_pre (sm_pre (sm_suf (sm_4 Z sa o ro nn V S O N U L) _) _) _) hC hK hT hm.1 (by decide) rfl dL_act_277 (fun B_277 eB_277 H locs hT => ?_)
      have hm := hm.2 B_277 eB_277
      have hT : TS vwCl D ([] ++ ((CA Z a b q ca tp rd sp P ap_250 F_250 G_250 C_250) ++ ((SM Z sa o ro nn V S O N U L B_277) ++ []))) A s.heap H locs := hT
      refine lv_aload hx hb dL_act_278 (lv_at hl 4 rfl) ?_
      refine lv_iconst (v := 2) hx hb dL_act_280 (by decide) ?_
      refine lv_iload hx hb dL_act_281 (lv_at hl 5 rfl) ?_
      refine wr_st (jn := 2) (f := (fun X => [] ++ ((CA Z a b q ca tp rd sp P ap_250 F_250 G_250 C_250) ++ (SM Z sa o ro nn V S O N U L X ++ [])))) (sm_pre (sm_pre (sm_suf (sm_4 Z sa o ro nn V S O N U L) _) _) _) hC hK hT hm.1 (by decide) rfl dL_act_283 (fun B_283 eB_283 H locs hT => ?_)
      have hm := hm.2 B_283 eB_283
      have hT : TS vwCl D ([] ++ ((CA Z a b q ca tp rd sp P ap_250 F_250 G_250 C_250) ++ ((SM Z sa o ro nn V S O N U L B_283) ++ []))) A s.heap H locs := hT
      refine lv_aload hx hb dL_act_284 (lv_at hl 4 rfl) ?_
      refine lv_iconst (v := 3) hx hb dL_act_286 (by decide) ?_
      refine lv_iconst (v := 0) hx hb dL_act_287 (by decide) ?_
      refine wr_st (jn := 3) (f := (fun X => [] ++ ((CA Z a b q ca tp rd sp P ap_250 F_250 G_250 C_250) ++ (SM Z sa o ro nn V S O N U L X ++ [])))) (sm_pre (sm_pre (sm_suf (sm_4 Z sa o ro nn V S O N U L) _) _) _) hC hK hT hm.1 (by decide) rfl dL_act_288 (fun B_288 eB_288 H locs hT => ?_)
      have hm := hm.2 B_288 eB_288
      have hT : TS vwCl D ([] ++ ((CA Z a b q ca tp rd sp P ap_250 F_250 G_250 C_250) ++ ((SM Z sa o ro nn V S O N U L B_288) ++ []))) A s.heap H locs := hT
      refine lv_aload hx hb dL_act_289 (lv_at hl 4 rfl) ?_
      refine lv_bipush (v := 6) hx hb dL_act_291 (by decide) ?_
      refine lv_iconst (v := (-1)) hx hb dL_act_293 (by decide) ?_
      refine wr_st (jn := 6) (f := (fun X => [] ++ ((CA Z a b q ca tp rd sp P ap_250 F_250 G_250 C_250) ++ (SM Z sa o ro nn V S O N U L X ++ [])))) (sm_pre (sm_pre (sm_suf (sm_4 Z sa o ro nn V S O N U L) _) _) _) hC hK hT hm.1 (by decide) rfl dL_act_294 (fun B_294 eB_294 H locs hT => ?_)
      have hm := hm.2 B_294 eB_294
      have hT : TS vwCl D ([] ++ ((CA Z a b q ca tp rd sp P ap_250 F_250 G_250 C_250) ++ ((SM Z sa o ro nn V S O N U L B_294) ++ []))) A s.heap H locs := hT
      exact L295 _ _ _ _ _ _ _ _ _ _ _ _ _ _ _ _ hm hT (lv_sub hl [4, 1, 0] rfl) ⟨by omega, by omega⟩
  have L98 : ∀ (n98 : Nat), ∀ (ap : Nat) (F : M2) (G : M2) (C : M2) (N : M2) (U : M2) (L : M2) (B : M2) (v3 : Int32) (v5 : Int32) (v6 : Int32) (H : Heap) (locs : List Loc) (ls : Array Slot) (cc cs : Nat), wl_L_act_98 q P nn V S O K n98 ap F G C N U L B v3 v5 v6 → TS vwCl D ([] ++ ((CA Z a b q ca tp rd sp P ap F G C) ++ ((SM Z sa o ro nn V S O N U L B) ++ []))) A s.heap H locs → lv_has ls 9 [(0, .ref (ca)), (3, .int v3), (4, .ref (o 1)), (5, .int v5), (6, .int v6)] → cc + (n98 * 0 + 2) ≤ 2 ∧ cs + (n98 * 0 + 12) ≤ 12 → W p l e (rk 8 2 12) s m args below meth c H locs cc cs Q (F0 m 98 ls []) := by
    intro n98
    induction n98 with
    | zero =>
      intro ap F G C N U L B v3 v5 v6 H locs ls cc cs hm hT hl hcb
      exact False.elim hm
    | succ n98 ih98 =>
      intro ap F G C N U L B v3 v5 v6 H locs ls cc cs hm hT hl hcb
      refine lv_iload hx hb dL_act_98 (lv_at hl 4 rfl) ?_
      refine lv_iload hx hb dL_act_100 (lv_at hl 3 rfl) ?_
      refine lv_icmp_ge (tgt := 134) hx hb dL_act_102 (by decide) (fun c_102 => ?_) (fun c_102 => ?_)
      · have hm := hm.1 c_102
        refine lv_aload_n hx hb dL_act_134 rfl (lv_at hl 0 rfl) ?_
        refine kx_X5_air hC hN hK (hT.perm (pm2 _ _ _)) (Cut.app (N := 46) (wsF := fun u : Nat × M2 × M2 × M2 => CA Z a b q ca tp rd sp P u.1 u.2.1 u.2.2.1 u.2.2.2) (u0 := (ap, F, G, C)) (fun _ => rfl)) (range_nd _) hm wq_1466 (by decide) hl.1 (Nat.le_of_ble_eq_true rfl) ⟨by omega, by omega⟩ dL_act_135 (fun r_135 ap_135 F_135 G_135 C_135 H locs hm hT => ?_)
        have hT : TS vwCl D ([] ++ ((CA Z a b q ca tp rd sp P ap_135 F_135 G_135 C_135) ++ ((SM Z sa o ro nn V S O N U L B) ++ []))) A s.heap H locs := hT.perm (pm2 _ _ _)
        refine lv_iload_n hx hb dL_act_138 rfl (lv_at hl 1 rfl) ?_
        refine lv_icmp_ne (tgt := 146) hx hb dL_act_139 (by decide) (fun c_139 => ?_) (fun c_139 => ?_)
        · have hm := hm.1 c_139
          refine lv_iconst (v := 0) hx hb dL_act_146 (by decide) ?_
          refine W.widen (k := 2) (n := 12) (by omega) (by omega) ?_
          exact hret 147 _ _ _ _ (ap_135, F_135, G_135, C_135, N, U, L, B) hm hT rfl dL_act_147
        · have hm := hm.2 c_139
          refine lv_iconst (v := 1) hx hb dL_act_142 (by decide) ?_
          refine lv_goto (tgt := 147) hx hb dL_act_143 (by decide) ?_
          refine W.widen (k := 2) (n := 12) (by omega) (by omega) ?_
          exact hret 147 _ _ _ _ (ap_135, F_135, G_135, C_135, N, U, L, B) hm hT rfl dL_act_147
      · have hm := hm.2 c_102
        refine lv_aload hx hb dL_act_105 (lv_at hl 2 rfl) ?_
        refine lv_iload hx hb dL_act_107 (lv_at hl 4 rfl) ?_
        refine w_aaldR (q0 := 48) hC hK hT.1 rfl hm.1 dL_act_109 ?_
        have hm := hm.2
        refine lv_astore (lv' := [(7, .ref (ro 1 v6.toInt.toNat)), (0, .ref (ca)), (3, .int v3), (4, .ref (o 1)), (5, .int v5), (6, .int v6)]) hx hb dL_act_110 hl (by decide) rfl (fun ls hl => ?_)
        refine lv_iload_n hx hb dL_act_112 rfl (lv_at hl 2 rfl) ?_
        refine lv_bipush (v := 100) hx hb dL_act_113 (by decide) ?_
        refine lv_aload hx hb dL_act_115 (lv_at hl 0 rfl) ?_
        refine lv_iconst (v := 1) hx hb dL_act_117 (by decide) ?_
        refine wr_ld (jn := 1) (f := (fun X => [] ++ ((CA Z a b q ca tp rd sp P ap F G C) ++ (SM Z sa o ro nn V S O N X L B ++ [])))) (sm_pre (sm_pre (sm_suf (sm_1 Z sa o ro nn V S O N L B) _) _) _) hC hK hT.1 hm.1 (by decide) rfl dL_act_118 ?_
        have hm := hm.2
        refine lv_isub hx hb dL_act_119 ?_
        refine lv_iadd hx hb dL_act_120 ?_
        refine lv_topi (fun v3_121 ev3_121 => ?_)
        have hm := hm v3_121 ev3_121
        refine lv_istore_n (lv' := [(3, .int v3_121), (7, .ref (ro 1 v6.toInt.toNat)), (0, .ref (ca)), (4, .ref (o 1)), (5, .int v5), (6, .int v6)]) hx hb dL_act_121 rfl hl (by decide) rfl (fun ls hl => ?_)
        refine lv_aload hx hb dL_act_122 (lv_at hl 1 rfl) ?_
        refine lv_iconst (v := 1) hx hb dL_act_124 (by decide) ?_
        refine lv_bipush (v := 100) hx hb dL_act_125 (by decide) ?_
        refine wr_st (jn := 1) (f := (fun X => [] ++ ((CA Z a b q ca tp rd sp P ap F G C) ++ (SM Z sa o ro nn V S O N X L B ++ [])))) (sm_pre (sm_pre (sm_suf (sm_1 Z sa o ro nn V S O N L B) _) _) _) hC hK hT hm.1 (by decide) rfl dL_act_127 (fun U_127 eU_127 H locs hT => ?_)
        have hm := hm.2 U_127 eU_127
        have hT : TS vwCl D ([] ++ ((CA Z a b q ca tp rd sp P ap F G C) ++ ((SM Z sa o ro nn V S O N U_127 L B) ++ []))) A s.heap H locs := hT
        obtain ⟨v6_128, ev6_128⟩ : ∃ y : Int32, y = v6 + 1 := ⟨_, rfl⟩
        have hm := hm v6_128 ev6_128
        refine lv_iinc (v := v6_128) (lv' := [(6, .int v6_128), (3, .int v3_121), (7, .ref (ro 1 v6.toInt.toNat)), (0, .ref (ca)), (4, .ref (o 1)), (5, .int v5)]) hx hb dL_act_128 hl (k := 5) rfl (by rw [ev6_128]; rfl) (by decide) rfl (fun ls hl => ?_)
        refine lv_goto (tgt := 98) hx hb dL_act_131 (by decide) ?_
        exact ih98 _ _ _ _ _ _ _ _ _ _ _ _ _ _ _ _ hm hT (lv_sub hl [3, 1, 4, 5, 0] rfl) ⟨by omega, by omega⟩
  refine lv_iload_n hx hb dL_act_0 rfl (lv_at hl 2 rfl) ?_
  refine lv_iconst (v := 5) hx hb dL_act_1 (by decide) ?_
  refine w_below hC hN hK (by decide) wq_897 (by decide) hl.1 (Nat.le_of_ble_eq_true rfl) ⟨by omega, by omega⟩ dL_act_2 ?_
  by_cases s5_0 : (blw x2 5) = 0
  · have hm := hm.1 s5_0
    refine w_swi (off := 31) (tgt := 36) 0 hx hb dL_act_5 s5_0 (by decide) (by decide) (by decide) (by decide) ?_
    refine lv_aload_n hx hb dL_act_36 rfl (lv_at hl 1 rfl) ?_
    refine w_get (C := RX6) (T := TX6) (N := 9) (ci := 6) (q0 := 46) (k := 1) hC hK hT.1 fi_X6 rfl rfl rfl (by decide) rfl wq_1168 dL_act_37 ?_
    refine lv_topi (fun v3_40 ev3_40 => ?_)
    have hm := hm v3_40 ev3_40
    refine lv_istore_n (lv' := [(3, .int v3_40), (0, .ref (ca)), (1, .ref (sa)), (2, .int x2)]) hx hb dL_act_40 rfl hl (by decide) rfl (fun ls hl => ?_)
    refine lv_aload_n hx hb dL_act_41 rfl (lv_at hl 2 rfl) ?_
    refine lv_iload_n hx hb dL_act_42 rfl (lv_at hl 3 rfl) ?_
    refine lv_iconst (v := 3) hx hb dL_act_43 (by decide) ?_
    refine lv_ishr hx hb dL_act_44 ?_
    refine lv_iconst (v := 2) hx hb dL_act_45 (by decide) ?_
    refine w_below hC hN hK (by decide) wq_897 (by decide) hl.1 (Nat.le_of_ble_eq_true rfl) ⟨by omega, by omega⟩ dL_act_46 ?_
    obtain ⟨N_49, eN_49⟩ : ∃ y : M2, y = up2 N 1 (fun _ => blw (x2 >>> (3 &&& 31)) 2) := ⟨_, rfl⟩
    have hm := hm N_49 eN_49
    refine w_put (C := RX6) (T := TX6) (N := 9) (ci := 6) (q0 := 46) (k := 1) (ty0 := tyX6) (ty := .int) (ws' := ([] ++ ((CA Z a b q ca tp rd sp P ap F G C) ++ ((SM Z sa o ro nn V S O N_49 U L B) ++ [])))) hC hK hT fi_X6 tyX6_ok nmX6 rfl rfl (by decide) rfl rfl rfl rfl rfl (Nat.le_of_ble_eq_true rfl) (by rw [eN_49]; rfl) wq_1168 dL_act_49 (fun H locs hT => ?_)
    refine lv_aload_n hx hb dL_act_52 rfl (lv_at hl 1 rfl) ?_
    refine lv_aload_n hx hb dL_act_53 rfl (lv_at hl 2 rfl) ?_
    refine w_get (C := RX6) (T := TX6) (N := 9) (ci := 6) (q0 := 46) (k := 1) hC hK hT.1 fi_X6 rfl rfl rfl (by decide) rfl wq_1168 dL_act_54 ?_
    refine kx_X5_whistle hC hN hK (hT.perm (pm2 _ _ _)) (Cut.app (N := 46) (wsF := fun u : Nat × M2 × M2 × M2 => CA Z a b q ca tp rd sp P u.1 u.2.1 u.2.2.1 u.2.2.2) (u0 := (ap, F, G, C)) (fun _ => rfl)) (range_nd _) hm wq_1461 (by decide) hl.1 (Nat.le_of_ble_eq_true rfl) ⟨by omega, by omega⟩ dL_act_57 (fun r_57 ap_57 F_57 G_57 C_57 H locs hm hT => ?_)
    have hT : TS vwCl D ([] ++ ((CA Z a b q ca tp rd sp P ap_57 F_57 G_57 C_57) ++ ((SM Z sa o ro nn V S O N_49 U L B) ++ []))) A s.heap H locs := hT.perm (pm2 _ _ _)
    refine lv_iload_n hx hb dL_act_60 rfl (lv_at hl 0 rfl) ?_
    refine lv_icmp_ne (tgt := 68) hx hb dL_act_61 (by decide) (fun c_61 => ?_) (fun c_61 => ?_)
    · have hm := hm.1 c_61
      refine lv_iconst (v := 0) hx hb dL_act_68 (by decide) ?_
      refine W.widen (k := 2) (n := 12) (by omega) (by omega) ?_
      exact hret 69 _ _ _ _ (ap_57, F_57, G_57, C_57, N_49, U, L, B) hm hT rfl dL_act_69
    · have hm := hm.2 c_61
      refine lv_iconst (v := 1) hx hb dL_act_64 (by decide) ?_
      refine lv_goto (tgt := 69) hx hb dL_act_65 (by decide) ?_
      refine W.widen (k := 2) (n := 12) (by omega) (by omega) ?_
      exact hret 69 _ _ _ _ (ap_57, F_57, G_57, C_57, N_49, U, L, B) hm hT rfl dL_act_69
  have hm := hm.2
  by_cases s5_1 : (blw x2 5) = 1
  · have hm := hm.1 s5_1
    refine w_swi (off := 31) (tgt := 36) 1 hx hb dL_act_5 s5_1 (by decide) (by decide) (by decide) (by decide) ?_
    refine lv_aload_n hx hb dL_act_36 rfl (lv_at hl 1 rfl) ?_
    refine w_get (C := RX6) (T := TX6) (N := 9) (ci := 6) (q0 := 46) (k := 1) hC hK hT.1 fi_X6 rfl rfl rfl (by decide) rfl wq_1168 dL_act_37 ?_
    refine lv_topi (fun v3_40 ev3_40 => ?_)
    have hm := hm v3_40 ev3_40
    refine lv_istore_n (lv' := [(3, .int v3_40), (0, .ref (ca)), (1, .ref (sa)), (2, .int x2)]) hx hb dL_act_40 rfl hl (by decide) rfl (fun ls hl => ?_)
    refine lv_aload_n hx hb dL_act_41 rfl (lv_at hl 2 rfl) ?_
    refine lv_iload_n hx hb dL_act_42 rfl (lv_at hl 3 rfl) ?_
    refine lv_iconst (v := 3) hx hb dL_act_43 (by decide) ?_
    refine lv_ishr hx hb dL_act_44 ?_
    refine lv_iconst (v := 2) hx hb dL_act_45 (by decide) ?_
    refine w_below hC hN hK (by decide) wq_897 (by decide) hl.1 (Nat.le_of_ble_eq_true rfl) ⟨by omega, by omega⟩ dL_act_46 ?_
    obtain ⟨N_49, eN_49⟩ : ∃ y : M2, y = up2 N 1 (fun _ => blw (x2 >>> (3 &&& 31)) 2) := ⟨_, rfl⟩
    have hm := hm N_49 eN_49
    refine w_put (C := RX6) (T := TX6) (N := 9) (ci := 6) (q0 := 46) (k := 1) (ty0 := tyX6) (ty := .int) (ws' := ([] ++ ((CA Z a b q ca tp rd sp P ap F G C) ++ ((SM Z sa o ro nn V S O N_49 U L B) ++ [])))) hC hK hT fi_X6 tyX6_ok nmX6 rfl rfl (by decide) rfl rfl rfl rfl rfl (Nat.le_of_ble_eq_true rfl) (by rw [eN_49]; rfl) wq_1168 dL_act_49 (fun H locs hT => ?_)
    refine lv_aload_n hx hb dL_act_52 rfl (lv_at hl 1 rfl) ?_
    refine lv_aload_n hx hb dL_act_53 rfl (lv_at hl 2 rfl) ?_
    refine w_get (C := RX6) (T := TX6) (N := 9) (ci := 6) (q0 := 46) (k := 1) hC hK hT.1 fi_X6 rfl rfl rfl (by decide) rfl wq_1168 dL_act_54 ?_
    refine kx_X5_whistle hC hN hK (hT.perm (pm2 _ _ _)) (Cut.app (N := 46) (wsF := fun u : Nat × M2 × M2 × M2 => CA Z a b q ca tp rd sp P u.1 u.2.1 u.2.2.1 u.2.2.2) (u0 := (ap, F, G, C)) (fun _ => rfl)) (range_nd _) hm wq_1461 (by decide) hl.1 (Nat.le_of_ble_eq_true rfl) ⟨by omega, by omega⟩ dL_act_57 (fun r_57 ap_57 F_57 G_57 C_57 H locs hm hT => ?_)
    have hT : TS vwCl D ([] ++ ((CA Z a b q ca tp rd sp P ap_57 F_57 G_57 C_57) ++ ((SM Z sa o ro nn V S O N_49 U L B) ++ []))) A s.heap H locs := hT.perm (pm2 _ _ _)
    refine lv_iload_n hx hb dL_act_60 rfl (lv_at hl 0 rfl) ?_
    refine lv_icmp_ne (tgt := 68) hx hb dL_act_61 (by decide) (fun c_61 => ?_) (fun c_61 => ?_)
    · have hm := hm.1 c_61
      refine lv_iconst (v := 0) hx hb dL_act_68 (by decide) ?_
      refine W.widen (k := 2) (n := 12) (by omega) (by omega) ?_
      exact hret 69 _ _ _ _ (ap_57, F_57, G_57, C_57, N_49, U, L, B) hm hT rfl dL_act_69
    · have hm := hm.2 c_61
      refine lv_iconst (v := 1) hx hb dL_act_64 (by decide) ?_
      refine lv_goto (tgt := 69) hx hb dL_act_65 (by decide) ?_
      refine W.widen (k := 2) (n := 12) (by omega) (by omega) ?_
      exact hret 69 _ _ _ _ (ap_57, F_57, G_57, C_57, N_49, U, L, B) hm hT rfl dL_act_69
  have hm := hm.2
  by_cases s5_2 : (blw x2 5) = 2
  · have hm := hm.1 s5_2
    refine w_swi (off := 65) (tgt := 70) 2 hx hb dL_act_5 s5_2 (by decide) (by decide) (by decide) (by decide) ?_
    refine lv_iload_n hx hb dL_act_70 rfl (lv_at hl 2 rfl) ?_
    refine lv_iconst (v := 5) hx hb dL_act_71 (by decide) ?_
    refine lv_ishr hx hb dL_act_72 ?_
    refine lv_iconst (v := 4) hx hb dL_act_73 (by decide) ?_
    refine w_below hC hN hK (by decide) wq_897 (by decide) hl.1 (Nat.le_of_ble_eq_true rfl) ⟨by omega, by omega⟩ dL_act_74 ?_
    refine lv_if_le (tgt := 82) hx hb dL_act_77 (by decide) (fun c_77 => ?_) (fun c_77 => ?_)
    · have hm := hm.1 c_77
      refine lv_iconst (v := 0) hx hb dL_act_82 (by decide) ?_
      refine lv_istore_n (lv' := [(3, .int 0), (0, .ref (ca)), (1, .ref (sa)), (2, .int x2)]) hx hb dL_act_83 rfl hl (by decide) rfl (fun ls hl => ?_)
      refine lv_aload_n hx hb dL_act_84 rfl (lv_at hl 2 rfl) ?_
      refine w_get (C := RX6) (T := TX6) (N := 9) (ci := 6) (q0 := 46) (k := 3) hC hK hT.1 fi_X6 rfl rfl rfl (by decide) rfl wq_1172 dL_act_85 ?_
      refine lv_astore (lv' := [(4, .ref (o 1)), (3, .int 0), (0, .ref (ca)), (1, .ref (sa)), (2, .int x2)]) hx hb dL_act_88 hl (by decide) rfl (fun ls hl => ?_)
      refine lv_aload hx hb dL_act_90 (lv_at hl 0 rfl) ?_
      refine w_alen (q0 := 48) (t0 := 3) hC hK hT.1 rfl rfl dL_act_92 ?_
      refine lv_topi (fun v5_93 ev5_93 => ?_)
      have hm := hm v5_93 ev5_93
      refine lv_istore (lv' := [(5, .int v5_93), (4, .ref (o 1)), (3, .int 0), (0, .ref (ca)), (1, .ref (sa)), (2, .int x2)]) hx hb dL_act_93 hl (by decide) rfl (fun ls hl => ?_)
      refine lv_iconst (v := 0) hx hb dL_act_95 (by decide) ?_
      refine lv_istore (lv' := [(6, .int 0), (5, .int v5_93), (4, .ref (o 1)), (3, .int 0), (0, .ref (ca)), (1, .ref (sa)), (2, .int x2)]) hx hb dL_act_96 hl (by decide) rfl (fun ls hl => ?_)
      exact L98 _ _ _ _ _ _ _ _ _ _ _ _ _ _ _ _ _ hm hT (lv_sub hl [4, 3, 2, 1, 0] rfl) ⟨by omega, by omega⟩
    · have hm := hm.2 c_77
      refine lv_iconst (v := 1) hx hb dL_act_80 (by decide) ?_
      refine W.widen (k := 2) (n := 12) (by omega) (by omega) ?_
      exact hret 81 _ _ _ _ (ap, F, G, C, N, U, L, B) hm hT rfl dL_act_81
  have hm := hm.2
  by_cases s5_3 : (blw x2 5) = 3
  · have hm := hm.1 s5_3
    refine w_swi (off := 143) (tgt := 148) 3 hx hb dL_act_5 s5_3 (by decide) (by decide) (by decide) (by decide) ?_
    refine lv_iload_n hx hb dL_act_148 rfl (lv_at hl 2 rfl) ?_
    refine lv_iconst (v := 4) hx hb dL_act_149 (by decide) ?_
    refine lv_ishr hx hb dL_act_150 ?_
    refine lv_aload_n hx hb dL_act_151 rfl (lv_at hl 1 rfl) ?_
    refine w_get (C := RX6) (T := TX6) (N := 9) (ci := 6) (q0 := 46) (k := 5) hC hK hT.1 fi_X6 rfl rfl rfl (by decide) rfl wq_1176 dL_act_152 ?_
    refine w_alen (q0 := 50) (t0 := 3) hC hK hT.1 rfl rfl dL_act_155 ?_
    refine w_below hC hN hK hm.1 wq_897 (by decide) hl.1 (Nat.le_of_ble_eq_true rfl) ⟨by omega, by omega⟩ dL_act_156 ?_
    have hm := hm.2
    refine lv_topi (fun v3_159 ev3_159 => ?_)
    have hm := hm v3_159 ev3_159
    refine lv_istore_n (lv' := [(3, .int v3_159), (0, .ref (ca)), (1, .ref (sa)), (2, .int x2)]) hx hb dL_act_159 rfl hl (by decide) rfl (fun ls hl => ?_)
    refine lv_aload_n hx hb dL_act_160 rfl (lv_at hl 2 rfl) ?_
    refine w_get (C := RX6) (T := TX6) (N := 9) (ci := 6) (q0 := 46) (k := 5) hC hK hT.1 fi_X6 rfl rfl rfl (by decide) rfl wq_1176 dL_act_161 ?_
    refine lv_iload_n hx hb dL_act_164 rfl (lv_at hl 0 rfl) ?_
    refine w_aaldR (q0 := 50) hC hK hT.1 rfl hm.1 dL_act_165 ?_
    have hm := hm.2
    refine lv_iconst (v := 3) hx hb dL_act_166 (by decide) ?_
    refine wr_ld (jn := 3) (f := (fun X => [] ++ ((CA Z a b q ca tp rd sp P ap F G C) ++ (SM Z sa o ro nn V S O N U X B ++ [])))) (sm_pre (sm_pre (sm_suf (sm_3 Z sa o ro nn V S O N U B) _) _) _) hC hK hT.1 hm.1 (by decide) rfl dL_act_167 ?_
    have hm := hm.2
    refine lv_topi (fun v4_168 ev4_168 => ?_)
    have hm := hm v4_168 ev4_168
    refine lv_istore (lv' := [(4, .int v4_168), (3, .int v3_159), (0, .ref (ca)), (1, .ref (sa)), (2, .int x2)]) hx hb dL_act_168 hl (by decide) rfl (fun ls hl => ?_)
    refine lv_aload_n hx hb dL_act_170 rfl (lv_at hl 3 rfl) ?_
    refine w_get (C := RX6) (T := TX6) (N := 9) (ci := 6) (q0 := 46) (k := 5) hC hK hT.1 fi_X6 rfl rfl rfl (by decide) rfl wq_1176 dL_act_171 ?_
    refine lv_iload_n hx hb dL_act_174 rfl (lv_at hl 1 rfl) ?_
    refine w_aaldR (q0 := 50) hC hK hT.1 rfl hm.1 dL_act_175 ?_
    have hm := hm.2
    refine lv_iconst (v := 3) hx hb dL_act_176 (by decide) ?_
    refine lv_iconst (v := (-1)) hx hb dL_act_177 (by decide) ?_
    refine wr_st (jn := 3) (f := (fun X => [] ++ ((CA Z a b q ca tp rd sp P ap F G C) ++ (SM Z sa o ro nn V S O N U X B ++ [])))) (sm_pre (sm_pre (sm_suf (sm_3 Z sa o ro nn V S O N U B) _) _) _) hC hK hT hm.1 (by decide) rfl dL_act_178 (fun L_178 eL_178 H locs hT => ?_)
    have hm := hm.2 L_178 eL_178
    have hT : TS vwCl D ([] ++ ((CA Z a b q ca tp rd sp P ap F G C) ++ ((SM Z sa o ro nn V S O N U L_178 B) ++ []))) A s.heap H locs := hT
    refine lv_aload_n hx hb dL_act_179 rfl (lv_at hl 2 rfl) ?_
    refine lv_iload_n hx hb dL_act_180 rfl (lv_at hl 1 rfl) ?_
    refine kx_X5_cap hC hN hK (hT.perm (pm2 _ _ _)) (Cut.app (N := 46) (wsF := fun u : Nat × M2 × M2 × M2 => CA Z a b q ca tp rd sp P u.1 u.2.1 u.2.2.1 u.2.2.2) (u0 := (ap, F, G, C)) (fun _ => rfl)) (range_nd _) hm wq_1471 (by decide) hl.1 (Nat.le_of_ble_eq_true rfl) ⟨by omega, by omega⟩ dL_act_181 (fun r_181 ap_181 F_181 G_181 C_181 H locs hm hT => ?_)
    have hT : TS vwCl D ([] ++ ((CA Z a b q ca tp rd sp P ap_181 F_181 G_181 C_181) ++ ((SM Z sa o ro nn V S O N U L_178 B) ++ []))) A s.heap H locs := hT.perm (pm2 _ _ _)
    refine lv_iload hx hb dL_act_184 (lv_at hl 0 rfl) ?_
    refine lv_icmp_ne (tgt := 193) hx hb dL_act_186 (by decide) (fun c_186 => ?_) (fun c_186 => ?_)
    · have hm := hm.1 c_186
      refine lv_iconst (v := 0) hx hb dL_act_193 (by decide) ?_
      refine W.widen (k := 2) (n := 12) (by omega) (by omega) ?_
      exact hret 194 _ _ _ _ (ap_181, F_181, G_181, C_181, N, U, L_178, B) hm hT rfl dL_act_194
    · have hm := hm.2 c_186
      refine lv_iconst (v := 1) hx hb dL_act_189 (by decide) ?_
      refine lv_goto (tgt := 194) hx hb dL_act_190 (by decide) ?_
      refine W.widen (k := 2) (n := 12) (by omega) (by omega) ?_
      exact hret 194 _ _ _ _ (ap_181, F_181, G_181, C_181, N, U, L_178, B) hm hT rfl dL_act_194
  have hm := hm.2
  have hm := hm s5_0 s5_1 s5_2 s5_3
  refine w_swd (tgt := 195) [0, 1, 2, 3] hx hb dL_act_5 (by decide) (by decide) (fun k hk => ?_) (by decide) ?_
  · simp only [List.mem_cons, List.not_mem_nil, or_false] at hk
    rcases hk with rfl | rfl | rfl | rfl
    · exact eq_toInt s5_0
    · exact eq_toInt s5_1
    · exact eq_toInt s5_2
    · exact eq_toInt s5_3
  · refine lv_iload_n hx hb dL_act_195 rfl (lv_at hl 2 rfl) ?_
    refine lv_iconst (v := 4) hx hb dL_act_196 (by decide) ?_
    refine lv_ishr hx hb dL_act_197 ?_
    refine lv_aload_n hx hb dL_act_198 rfl (lv_at hl 1 rfl) ?_
    refine w_get (C := RX6) (T := TX6) (N := 9) (ci := 6) (q0 := 46) (k := 6) hC hK hT.1 fi_X6 rfl rfl rfl (by decide) rfl wq_1178 dL_act_199 ?_
    refine w_alen (q0 := 51) (t0 := 3) hC hK hT.1 rfl rfl dL_act_202 ?_
    refine w_below hC hN hK hm.1 wq_897 (by decide) hl.1 (Nat.le_of_ble_eq_true rfl) ⟨by omega, by omega⟩ dL_act_203 ?_
    have hm := hm.2
    refine lv_topi (fun v3_206 ev3_206 => ?_)
    have hm := hm v3_206 ev3_206
    refine lv_istore_n (lv' := [(3, .int v3_206), (0, .ref (ca)), (1, .ref (sa)), (2, .int x2)]) hx hb dL_act_206 rfl hl (by decide) rfl (fun ls hl => ?_)
    refine lv_aload_n hx hb dL_act_207 rfl (lv_at hl 2 rfl) ?_
    refine w_get (C := RX6) (T := TX6) (N := 9) (ci := 6) (q0 := 46) (k := 6) hC hK hT.1 fi_X6 rfl rfl rfl (by decide) rfl wq_1178 dL_act_208 ?_
    refine lv_iload_n hx hb dL_act_211 rfl (lv_at hl 0 rfl) ?_
    refine w_aaldR (q0 := 51) hC hK hT.1 rfl hm.1 dL_act_212 ?_
    have hm := hm.2
    refine lv_astore (lv' := [(4, .ref (ro 4 v3_206.toInt.toNat)), (3, .int v3_206), (0, .ref (ca)), (1, .ref (sa)), (2, .int x2)]) hx hb dL_act_213 hl (by decide) rfl (fun ls hl => ?_)
    refine lv_aload_n hx hb dL_act_215 rfl (lv_at hl 3 rfl) ?_
    refine w_get (C := RX6) (T := TX6) (N := 9) (ci := 6) (q0 := 46) (k := 0) hC hK hT.1 fi_X6 rfl rfl rfl (by decide) rfl wq_1166 dL_act_216 ?_
    refine lv_iload_n hx hb dL_act_219 rfl (lv_at hl 4 rfl) ?_
    refine lv_bipush (v := 6) hx hb dL_act_220 (by decide) ?_
    refine lv_ishr hx hb dL_act_222 ?_
    refine lv_bipush (v := 30) hx hb dL_act_223 (by decide) ?_
    refine w_below hC hN hK (by decide) wq_897 (by decide) hl.1 (Nat.le_of_ble_eq_true rfl) ⟨by omega, by omega⟩ dL_act_225 ?_
    refine lv_iadd hx hb dL_act_228 ?_
    refine lv_topi (fun v5_229 ev5_229 => ?_)
    have hm := hm v5_229 ev5_229
    refine lv_istore (lv' := [(5, .int v5_229), (4, .ref (ro 4 v3_206.toInt.toNat)), (3, .int v3_206), (0, .ref (ca)), (1, .ref (sa)), (2, .int x2)]) hx hb dL_act_229 hl (by decide) rfl (fun ls hl => ?_)
    refine lv_aload hx hb dL_act_231 (lv_at hl 1 rfl) ?_
    refine lv_iconst (v := 3) hx hb dL_act_233 (by decide) ?_
    refine wr_ld (jn := 3) (f := (fun X => [] ++ ((CA Z a b q ca tp rd sp P ap F G C) ++ (SM Z sa o ro nn V S O N U L X ++ [])))) (sm_pre (sm_pre (sm_suf (sm_4 Z sa o ro nn V S O N U L) _) _) _) hC hK hT.1 hm.1 (by decide) rfl dL_act_234 ?_
    have hm := hm.2
    refine lv_iconst (v := 2) hx hb dL_act_235 (by decide) ?_
    refine lv_icmp_ne (tgt := 243) hx hb dL_act_236 (by decide) (fun c_236 => ?_) (fun c_236 => ?_)
    · have hm := hm.1 c_236
      refine lv_iconst (v := 0) hx hb dL_act_243 (by decide) ?_
      exact L244 _ _ _ _ _ _ _ _ _ _ _ _ _ _ _ _ _ hm hT (lv_sub hl [3, 2, 1, 0] rfl) ⟨by omega, by omega⟩
    · have hm := hm.2 c_236
      refine lv_iconst (v := 1) hx hb dL_act_239 (by decide) ?_
      refine lv_goto (tgt := 244) hx hb dL_act_240 (by decide) ?_
      exact L244 _ _ _ _ _ _ _ _ _ _ _ _ _ _ _ _ _ hm hT (lv_sub hl [3, 2, 1, 0] rfl) ⟨by omega, by omega⟩
