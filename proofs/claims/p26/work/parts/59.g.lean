/-! ===== contracts beside a rider R; answers that are references of what was made; calls of inherited and super methods ===== -/
def RG (R : (Nat → Prop) → R2) : Prop := (∀ (A : Nat → Prop) (U : State) (H H1 : Heap), R A U H → (∀ a : Nat, a < H.size → ¬ A a → H1[a]? = H[a]?) → R A U H1) ∧ (∀ (A B : Nat → Prop) (U : State) (H : Heap), R A U H → (∀ q, B q → A q) → R B U H) ∧ (∀ (A : Nat → Prop) (u U : State) (H : Heap), u.WarmedH U.vm → R A u H → R A U H) ∧ (∀ (A : Nat → Prop) (u U : State) (H : Heap), U.vm = u.vm → R A u H → R A U H)
theorem RD.rg (r : Nat → Nat) : RG (RD r) := ⟨fun _ _ _ _ h hq => h.kept hq, fun _ _ _ _ h hAB => h.narrow hAB, fun _ _ _ _ hW h => h.warm hW, fun _ _ _ _ hv h => h.same hv⟩
def RS (r : Nat → Nat) (q v n : Nat) (b : Nat → Int32) (A : Nat → Prop) : R2 := fun U H => RD r A U H ∧ SE q v n b A U H
theorem RS.rg (r : Nat → Nat) (q v n : Nat) (b : Nat → Int32) : RG (RS r q v n b) :=
  ⟨fun _ _ _ _ h hq => ⟨h.1.kept hq, h.2.kept hq⟩, fun _ _ _ _ h hAB => ⟨h.1.narrow hAB, h.2.narrow hAB⟩, fun _ _ _ _ hW h => ⟨h.1.warm hW, SE.steady _ _ _ hW.alike h.2⟩, fun _ u _ _ hv h => ⟨h.1.same hv, SE.steady _ _ _ (hv ▸ Vm.Alike.refl u.vm) h.2⟩⟩
theorem TS.rg {R : (Nat → Prop) → R2} {cl : List vw_C} {D : va_G} {ws : va_W} {A : Nat → Prop} {s : State} {H : Heap} {locs : List Loc} (hG : RG R) (hT : TS cl D ws A s.heap H locs) (hR : R A s s.heap) : R (va_A ws H.size) s H := by
  refine hG.2.1 _ _ _ _ (hG.1 _ _ _ _ hR hT.2.2.1.2.1) (fun q hq => ?_)
  rcases hq with ⟨k, e, hk⟩ | hq
  · exact hT.2.1.2 k _ hk
  · exact hT.2.2.2 q (Nat.le_trans hT.2.2.1.1 hq)
theorem va_A.appL {wc wr : va_W} {n q : Nat} (h : va_A wc n q) : va_A (wc ++ wr) n q := by
  rcases h with ⟨k, e, hk⟩ | h
  · exact Or.inl ⟨k, e, by rw [List.getElem?_append_left (List.getElem?_eq_some_iff.mp hk).1]; exact hk⟩
  · exact Or.inr h
theorem RG.appL {R : (Nat → Prop) → R2} (hG : RG R) {wc wr : va_W} {n : Nat} {s : State} {H : Heap} (h : R (va_A (wc ++ wr) n) s H) : R (va_A wc n) s H := hG.2.1 _ _ _ _ h (fun _ => va_A.appL)
def preG (R : (Nat → Prop) → R2) (cl : List vw_C) (D : va_G) (Z : Nat → ClassId) (ws : va_W) (sz : Nat) (av : List Value) : Array Value → State → Prop := va_Pc av (fun U => U.heap.size = sz ∧ va_P D cl ws U.heap ∧ va_D (fun _ => True) ws ∧ va_K D cl (tysG Z) U ∧ NW U ∧ R (va_A ws sz) U U.heap)
theorem preG.blind {R : (Nat → Prop) → R2} (hG : RG R) {cl : List vw_C} {D : va_G} {Z : Nat → ClassId} {ws : va_W} {sz : Nat} {av : List Value} : FrameBlind (preG R cl D Z ws sz av) := by
  intro a U g mk h
  obtain ⟨h1, h2, h3, h4, h5, h6, h7⟩ := h
  exact ⟨h1, h2, h3, h4, va_K.moved (u := U) (U := U.calling g mk a) (Vm.Alike.refl U.vm) h5, NW.same (s := U) (U := U.calling g mk a) rfl h6, hG.2.2.2 _ U (U.calling g mk a) _ rfl h7⟩
def poQ (cl : List vw_C) (D : va_G) (Z : Nat → ClassId) {S : Type} (wsF : S → va_W) (g : S → Nat) (u0 : S) (sz : Nat) (K : S → Prop) : Array Value → State → Outcome → State → Prop := fun _ st oc t => (∃ u : S, oc = .returned (some (.ref (g u))) ∧ K u ∧ poB cl D Z wsF (va_A (wsF u0) sz) u t) ∧ va_F (va_A (wsF u0) sz) st t
section OFG
variable {l : Launch} {y : MethodName} {cc : ByteArray} {n : Nat} {ret : Option FieldType} {rn mc ms : Nat} {cl : List vw_C} {D : va_G} {Z : Nat → ClassId} {R : (Nat → Prop) → R2} {sz : Nat} {av : List Value}
variable {S : Type} {wsF : S → va_W} {u0 : S}
theorem rw_ofG {ty : FieldType} {K : Int32 → S → Prop} (hy : plainName y.cls = true) (hn : (lg_sl av).length ≤ n) (hret : ret = some ty)
    (body : ∀ (p : Program) (e : Env) (s : State) (m : MethodId) (args : Array Value) (below : List Frame) (meth : Method) (c : Code) (Q : State → Prop) (A : Nat → Prop), CallFix p m c cc n s args lw_g y.cls → NW s → R A s s.heap → s.heap.size = sz → TS cl D (wsF u0) A s.heap s.heap [] → va_K D cl (tysG Z) s →
      (∀ (pc : Nat) (ls : Array Slot) (H : Heap) (locs : List Loc) (r : Int32) (u : S), K r u → TS cl D (wsF u) A s.heap H locs → narrow ty (.int r) = .int r → decode cc pc = .ok (.ireturn, 1) → W p l e (rk rn mc ms) s m args below meth c H locs mc ms Q (F0 m pc ls [.int r])) →
      ∀ ls : Array Slot, lv_has ls n (lv_args 0 av) → W p l e (rk rn mc ms) s m args below meth c s.heap [] 0 0 Q (F0 m 0 ls [])) :
    Met l y (wy y cc n ret) (rk rn mc ms) (preG R cl D Z (wsF u0) sz av) (poI cl D Z wsF u0 sz K) mc ms (va_A (wsF u0) sz) := by
  refine Met.ofW (cc := cc) (maxL := n) (ret := ret) hy rfl ?_
  intro p e s m args below meth c s₁ B hml hv
  obtain ⟨rfl, hsz, hP, hD, hK, hN, hR⟩ := hv
  have hts : ∀ w ∈ lw_g, w.before av.toArray s = true := fun w hw => atoms_spec (ws := wy y cc n ret) B.pre w (List.mem_cons_of_mem _ hw)
  have hown : s.vm.findClass y.cls = some m.cls := findClass_of_methodNamed B.named
  have hlocks := B.notSynchronized
  have hl := lv_entry av (n := n) hn
  rw [lg_entry_eq]
  refine body p e s m av.toArray below meth c _ (va_A (wsF u0) sz) ⟨B.exec, B.bytes, hml, hown, hts⟩ hN hR hsz ⟨hP, hD.self, va_S.rf, fun q h => Or.inr (hsz ▸ h)⟩ hK ?_ _ hl
  intro pc ls H locs r u hk hT hnar hd
  exact W.zret (ty := ty) B.exec B.bytes (B.returns.trans hret) hnar (fun t ht hW => ⟨⟨r, u, rfl, hk, by rw [ht]; exact hT.1, hT.2.1, va_K.moved hW.alike hK⟩, hT.2.2.1.F ht⟩) hT.2.2.1.2.2 hd
theorem rwv_ofG {K : S → Prop} (hy : plainName y.cls = true) (hn : (lg_sl av).length ≤ n) (hret : ret = none)
    (body : ∀ (p : Program) (e : Env) (s : State) (m : MethodId) (args : Array Value) (below : List Frame) (meth : Method) (c : Code) (Q : State → Prop) (A : Nat → Prop), CallFix p m c cc n s args lw_g y.cls → NW s → R A s s.heap → s.heap.size = sz → meth.name = y.name → TS cl D (wsF u0) A s.heap s.heap [] → va_K D cl (tysG Z) s →
      (∀ (pc : Nat) (ls : Array Slot) (H : Heap) (locs : List Loc) (u : S), K u → TS cl D (wsF u) A s.heap H locs → decode cc pc = .ok (.return_, 1) → W p l e (rk rn mc ms) s m args below meth c H locs mc ms Q (F0 m pc ls [])) →
      ∀ ls : Array Slot, lv_has ls n (lv_args 0 av) → W p l e (rk rn mc ms) s m args below meth c s.heap [] 0 0 Q (F0 m 0 ls [])) :
    Met l y (wy y cc n ret) (rk rn mc ms) (preG R cl D Z (wsF u0) sz av) (poV cl D Z wsF u0 sz K) mc ms (va_A (wsF u0) sz) := by
  refine Met.ofW (cc := cc) (maxL := n) (ret := ret) hy rfl ?_
  intro p e s m args below meth c s₁ B hml hv
  obtain ⟨rfl, hsz, hP, hD, hK, hN, hR⟩ := hv
  have hts : ∀ w ∈ lw_g, w.before av.toArray s = true := fun w hw => atoms_spec (ws := wy y cc n ret) B.pre w (List.mem_cons_of_mem _ hw)
  have hown : s.vm.findClass y.cls = some m.cls := findClass_of_methodNamed B.named
  have hlocks := B.notSynchronized
  have hin : meth.name = y.name := (name_of_methodNamed B.named B.method).1
  have hl := lv_entry av (n := n) hn
  rw [lg_entry_eq]
  refine body p e s m av.toArray below meth c _ (va_A (wsF u0) sz) ⟨B.exec, B.bytes, hml, hown, hts⟩ hN hR hsz hin ⟨hP, hD.self, va_S.rf, fun q h => Or.inr (hsz ▸ h)⟩ hK ?_ _ hl
  intro pc ls H locs u hk hT hd
  exact W.vret B.exec B.bytes (B.returns.trans hret) (fun t ht hW => ⟨⟨u, rfl, hk, by rw [ht]; exact hT.1, hT.2.1, va_K.moved hW.alike hK⟩, hT.2.2.1.F ht⟩) hT.2.2.1.2.2 hd
theorem rwq_ofG {K : S → Prop} {g : S → Nat} {rt : FieldType} (hy : plainName y.cls = true) (hn : (lg_sl av).length ≤ n) (hret : ret = some rt) (hrt : (∃ C, rt = .object C) ∨ ∃ t, rt = .array t)
    (body : ∀ (p : Program) (e : Env) (s : State) (m : MethodId) (args : Array Value) (below : List Frame) (meth : Method) (c : Code) (Q : State → Prop) (A : Nat → Prop), CallFix p m c cc n s args lw_g y.cls → NW s → R A s s.heap → s.heap.size = sz → TS cl D (wsF u0) A s.heap s.heap [] → va_K D cl (tysG Z) s →
      (∀ (pc : Nat) (ls : Array Slot) (H : Heap) (locs : List Loc) (u : S), K u → TS cl D (wsF u) A s.heap H locs → decode cc pc = .ok (.areturn, 1) → W p l e (rk rn mc ms) s m args below meth c H locs mc ms Q (F0 m pc ls [.ref (g u)])) →
      ∀ ls : Array Slot, lv_has ls n (lv_args 0 av) → W p l e (rk rn mc ms) s m args below meth c s.heap [] 0 0 Q (F0 m 0 ls [])) :
    Met l y (wy y cc n ret) (rk rn mc ms) (preG R cl D Z (wsF u0) sz av) (poQ cl D Z wsF g u0 sz K) mc ms (va_A (wsF u0) sz) := by
  refine Met.ofW (cc := cc) (maxL := n) (ret := ret) hy rfl ?_
  intro p e s m args below meth c s₁ B hml hv
  obtain ⟨rfl, hsz, hP, hD, hK, hN, hR⟩ := hv
  have hts : ∀ w ∈ lw_g, w.before av.toArray s = true := fun w hw => atoms_spec (ws := wy y cc n ret) B.pre w (List.mem_cons_of_mem _ hw)
  have hown : s.vm.findClass y.cls = some m.cls := findClass_of_methodNamed B.named
  have hlocks := B.notSynchronized
  have hl := lv_entry av (n := n) hn
  rw [lg_entry_eq]
  refine body p e s m av.toArray below meth c _ (va_A (wsF u0) sz) ⟨B.exec, B.bytes, hml, hown, hts⟩ hN hR hsz ⟨hP, hD.self, va_S.rf, fun q h => Or.inr (hsz ▸ h)⟩ hK ?_ _ hl
  intro pc ls H locs u hk hT hd
  exact W.aret (rt := rt) B.exec B.bytes (B.returns.trans hret) hrt (Or.inr ⟨g u, rfl⟩) (fun t ht hW => ⟨⟨u, rfl, hk, by rw [ht]; exact hT.1, hT.2.1, va_K.moved hW.alike hK⟩, hT.2.2.1.F ht⟩) hT.2.2.1.2.2 hd
end OFG
theorem sel_ni {y : MethodName} {C : String} {s : State} {args : Array Value} (h : (Cond.selects C y y).before args s = true) : ∃ (c : ClassId) (k : Class), s.vm.findClass y.cls = some c ∧ s.vm.classes[c]? = some k ∧ k.isInterface = false := by
  simp only [Cond.before, Cond.holds, Cond.value] at h
  cases h1 : s.vm.findClass C with
  | none => simp [h1] at h
  | some c =>
    cases h2 : s.methodFound? y.cls y.name y.desc with
    | none => simp [h1, h2] at h
    | some r =>
      cases h3 : s.methodNamed? y with
      | none => simp [h1, h2, h3] at h
      | some mk =>
        have hc := findClass_of_methodNamed h3
        obtain ⟨k, hk, -⟩ := Vm.findClass_spec hc
        refine ⟨mk.cls, k, hc, hk, ?_⟩
        simp only [h1, h2, h3] at h
        cases h4 : selectMethod {} s.vm c r with
        | method m' =>
          simp only [h4] at h
          simp [hk] at h
          exact h.2
        | _ => simp [h4] at h
theorem selP {y y0 : MethodName} {C : String} {s : State} {args : Array Value} {n : Nat} (hy : y.cls ≠ "java/lang/invoke/MethodHandle" ∧ y.cls ≠ "java/lang/invoke/VarHandle")
    (hins : (Cond.instantiable C n).before args s = true) (hpriv : (Cond.privateMethod y).before args s = true) (hinst : (Cond.instanceMethod y).before args s = true) (h0 : (Cond.selects C y0 y0).before args s = true) (hcl : y0.cls = y.cls) :
    (Cond.selects C y y).before args s = true := by
  obtain ⟨c, k, hc, hk, -, hniab, -, -⟩ := Cond.instantiable_spec hins
  obtain ⟨c0, k0, hc0, hk0, hn0⟩ := sel_ni h0
  obtain ⟨mk, methM, hnamed, hmethM, -, -⟩ := Cond.instanceMethod_spec hinst
  have hfound : s.methodFound? y.cls y.name y.desc = some mk := State.methodFound?_of_named hnamed hy
  have hsel : selectMethod {} s.vm c mk = .method mk := selectMethod_private hmethM (Cond.privateMethod_at hpriv mk methM hnamed hmethM)
  rw [hcl] at hc0
  have hcc : mk.cls = c0 := Option.some.inj ((findClass_of_methodNamed hnamed).symm.trans hc0)
  simp only [Cond.before, Cond.holds, Cond.value, hc, hfound, hnamed, hsel]
  simp [hcc, hk0, hn0]
section CALLSG
variable {p : Program} {l : Launch} {e : Env} {s : State} {m : MethodId} {args : Array Value} {below : List Frame} {meth : Method} {c : Code} {H H0 : Heap} {locs : List Loc} {cells slots : Nat} {Q : State → Prop}
variable {pc : Nat} {ls : Array Slot} {rest st0 : List Value} {A : Nat → Prop} {cl : List vw_C} {D : va_G} {Z : Nat → ClassId} {ws wr : va_W} {R : (Nat → Prop) → R2} {mc ms : Nat}
variable {y : MethodName} {bytes cc : ByteArray} {maxL nL n index : Nat} {ret : Option FieldType} {rn rn' mcR msR : Nat} {Qc : Array Value → State → Outcome → State → Prop} {free : Addr → Prop} {own host : String} {b : Addr} {As : List Value}
theorem runVG (hG : RG R) (hC : CallFix p m c cc nL s args lw_g own) (hN : NW s) (hR : R (va_A ws H.size) s H) (hM : Met l y (wy y bytes maxL ret) (rk rn' mc ms) (preG R cl D Z ws H.size (.ref b :: As)) Qc mc ms free) (hi : MInfo y bytes maxL ret n) (hl : Cond.methodLink own index y ∈ lw_g) (hin : Cond.instanceMethod y ∈ lw_g) (hse : Cond.selects y.cls y y ∈ lw_g) (hlt : rn' < rn)
    (hP : va_P D cl ws H) (hD : va_D (fun _ => True) ws) (hK : va_K D cl (tysG Z) s) (hrc : ∃ cell : Cell, H[b]? = some cell ∧ cell.vm.isStatics = false ∧ s.vm.findClass y.cls = some cell.cls)
    (hn : As.length = n) (hsize : ls.size = nL) (hstack : st0 = As.reverse ++ .ref b :: rest) (hW : (rest.map fun v => v.category).sum ≤ 8) (hdg : decode cc pc = .ok (.invokevirtual index, 3)) (hf : cells + mc ≤ mcR ∧ slots + ms ≤ msR) :
    va_Run p l e (rk rn mcR msR) s m args below meth c H locs cells slots mc ms (F0 m pc ls st0) rest (Qc (Value.ref b :: As).toArray) free := by
  have hts := hC.2.2.2.2
  refine va_runV (As := As) (rest := rest) (C := y.cls) hC hM ⟨callB_of n hts (wy_good hi.1) rfl rfl rfl (hts _ hi.2.1) (hts _ hl) hi.2.2.2.1 (rk_fit hlt hi.2.2.1), hts _ hin, hts _ hse⟩ ⟨preG.blind hG, hrc, fun U hU hW => ⟨rfl, by rw [hU], by rw [hU]; exact hP, hD, va_K.moved hW.alike hK, NW.warm hW hN, by rw [hU]; exact hG.2.2.1 _ _ _ _ hW hR⟩⟩ rfl hn hsize hstack (lv_room hW) hdg hf
/-- a method of the superclass, inherited by the receiver's class C -/
theorem runUG {C : String} (hG : RG R) (hC : CallFix p m c cc nL s args lw_g own) (hN : NW s) (hR : R (va_A ws H.size) s H) (hM : Met l y (wy y bytes maxL ret) (rk rn' mc ms) (preG R cl D Z ws H.size (.ref b :: As)) Qc mc ms free) (hi : MInfo y bytes maxL ret n) (hl : Cond.methodLink own index y ∈ lw_g) (hsm : Cond.sameMethod y.cls y.cls y.name y.desc ∈ lw_g) (hin : Cond.instanceMethod y ∈ lw_g) (hse : (Cond.selects C y y).before args s = true) (hlt : rn' < rn)
    (hP : va_P D cl ws H) (hD : va_D (fun _ => True) ws) (hK : va_K D cl (tysG Z) s) (hrc : ∃ cell : Cell, H[b]? = some cell ∧ cell.vm.isStatics = false ∧ s.vm.findClass C = some cell.cls)
    (hn : As.length = n) (hsize : ls.size = nL) (hstack : st0 = As.reverse ++ .ref b :: rest) (hW : (rest.map fun v => v.category).sum ≤ 8) (hdg : decode cc pc = .ok (.invokevirtual index, 3)) (hf : cells + mc ≤ mcR ∧ slots + ms ≤ msR) :
    va_Run p l e (rk rn mcR msR) s m args below meth c H locs cells slots mc ms (F0 m pc ls st0) rest (Qc (Value.ref b :: As).toArray) free := by
  have hts := hC.2.2.2.2
  have hcode : (Cond.code y bytes maxL ret).before args s = true := hts _ hi.1
  refine va_runU (As := As) (rest := rest) (C := C) (owner := y.cls) (x := y) hC hM ⟨⟨rfl, rfl, (rk_fit hlt hi.2.2.1).1, (rk_fit hlt hi.2.2.1).2, pay_in hts (wy_good hi.1), List.mem_cons_self⟩, hcode, hts _ hi.2.1, ⟨hi.2.2.2.1.1, hi.2.2.2.1.2.1⟩, fun sig h => ?_, hts _ hl, hts _ hsm, va_Decl.of (hts _ hin) hcode, hse, hts _ hin⟩ ⟨preG.blind hG, hrc, fun U hU hW => ⟨rfl, by rw [hU], by rw [hU]; exact hP, hD, va_K.moved hW.alike hK, NW.warm hW hN, by rw [hU]; exact hG.2.2.1 _ _ _ _ hW hR⟩⟩ rfl hn hsize hstack (lv_room hW) hdg hf
  have h2 := hi.2.2.2.1.2.2
  rw [h] at h2
  exact (Option.some.inj h2).symm
/-- super.m(..) -/
theorem runSUG {C : String} {cC : ClassId} (hat : ClassAt s C cC) (hG : RG R) (hC : CallFix p m c cc nL s args lw_g own) (hN : NW s) (hR : R (va_A ws H.size) s H) (hM : Met l y (wy y bytes maxL ret) (rk rn' mc ms) (preG R cl D Z ws H.size (.ref b :: As)) Qc mc ms free) (hi : MInfo y bytes maxL ret n) (hl : Cond.methodLink own index y ∈ lw_g) (hsm : Cond.sameMethod y.cls y.cls y.name y.desc ∈ lw_g) (hsup : Cond.superclass own y.cls ∈ lw_g) (hin : Cond.instanceMethod y ∈ lw_g) (hno : y.name ≠ "<init>") (hlt : rn' < rn)
    (hP : va_P D cl ws H) (hD : va_D (fun _ => True) ws) (hK : va_K D cl (tysG Z) s) (hrc : ∃ cell : Cell, H[b]? = some cell ∧ cell.vm.isStatics = false ∧ s.vm.findClass C = some cell.cls)
    (hn : As.length = n) (hsize : ls.size = nL) (hstack : st0 = As.reverse ++ .ref b :: rest) (hW : (rest.map fun v => v.category).sum ≤ 8) (hdg : decode cc pc = .ok (.invokespecial index, 3)) (hf : cells + mc ≤ mcR ∧ slots + ms ≤ msR) :
    va_Run p l e (rk rn mcR msR) s m args below meth c H locs cells slots mc ms (F0 m pc ls st0) rest (Qc (Value.ref b :: As).toArray) free := by
  have hts := hC.2.2.2.2
  have hcode : (Cond.code y bytes maxL ret).before args s = true := hts _ hi.1
  refine va_runSU (As := As) (rest := rest) (C := C) hat hC hM ⟨⟨rfl, rfl, (rk_fit hlt hi.2.2.1).1, (rk_fit hlt hi.2.2.1).2, pay_in hts (wy_good hi.1), List.mem_cons_self⟩, hts _ hl, hts _ hsm, hts _ hsup, hts _ hin, hts _ hi.2.1, hcode, hno, fun sig h => ?_⟩ ⟨preG.blind hG, hrc, fun U hU hW => ⟨rfl, by rw [hU], by rw [hU]; exact hP, hD, va_K.moved hW.alike hK, NW.warm hW hN, by rw [hU]; exact hG.2.2.1 _ _ _ _ hW hR⟩⟩ rfl hn hsize hstack (lv_room hW) hdg hf
  have h2 := hi.2.2.2.1.2.2
  rw [h] at h2
  exact (Option.some.inj h2).symm
theorem runSG (hG : RG R) (hC : CallFix p m c cc nL s args lw_g own) (hN : NW s) (hR : R (va_A ws H.size) s H) (hM : Met l y (wy y bytes maxL ret) (rk rn' mc ms) (preG R cl D Z ws H.size As) Qc mc ms free) (hi : MInfo y bytes maxL ret n) (hl : Cond.methodLink own index y ∈ lw_g) (hst : Cond.static y ∈ lw_g) (hlt : rn' < rn)
    (hP : va_P D cl ws H) (hD : va_D (fun _ => True) ws) (hK : va_K D cl (tysG Z) s)
    (hn : As.length = n) (hsize : ls.size = nL) (hstack : st0 = As.reverse ++ rest) (hW : (rest.map fun v => v.category).sum ≤ 8) (hdg : decode cc pc = .ok (.invokestatic index, 3)) (hf : cells + mc ≤ mcR ∧ slots + ms ≤ msR) :
    va_Run p l e (rk rn mcR msR) s m args below meth c H locs cells slots mc ms (F0 m pc ls st0) rest (Qc As.toArray) free := by
  have hts := hC.2.2.2.2
  refine va_runS (As := As) (rest := rest) hC hM ⟨callB_of n hts (wy_good hi.1) rfl rfl rfl (hts _ hi.2.1) (hts _ hl) hi.2.2.2.1 (rk_fit hlt hi.2.2.1), hts _ hst⟩ ⟨preG.blind hG, fun U hU hW => ⟨rfl, by rw [hU], by rw [hU]; exact hP, hD, va_K.moved hW.alike hK, NW.warm hW hN, by rw [hU]; exact hG.2.2.1 _ _ _ _ hW hR⟩⟩ rfl hn hsize hstack (lv_room hW) hdg hf
theorem runIG (hG : RG R) (hC : CallFix p m c cc nL s args lw_g own) (hN : NW s) (hR : R (va_A ws H.size) s H) (hM : Met l y (wy y bytes maxL none) (rk rn' mc ms) (preG R cl D Z ws H.size (.ref b :: As)) Qc mc ms free) (hi : MInfo y bytes maxL none n) (hl : Cond.methodLink own index y ∈ lw_g) (hin : Cond.instanceMethod y ∈ lw_g) (hnm : y.name = "<init>") (hlt : rn' < rn)
    (hP : va_P D cl ws H) (hD : va_D (fun _ => True) ws) (hK : va_K D cl (tysG Z) s)
    (hn : As.length = n) (hsize : ls.size = nL) (hstack : st0 = As.reverse ++ .ref b :: rest) (hW : (rest.map fun v => v.category).sum ≤ 8) (hdg : decode cc pc = .ok (.invokespecial index, 3)) (hf : cells + mc ≤ mcR ∧ slots + ms ≤ msR) :
    va_Run p l e (rk rn mcR msR) s m args below meth c H locs cells slots mc ms (F0 m pc ls st0) rest (Qc (Value.ref b :: As).toArray) free := by
  have hts := hC.2.2.2.2
  refine va_runI (As := As) (rest := rest) hC hM ⟨callB_of n hts (wy_good hi.1) rfl rfl rfl (hts _ hi.2.1) (hts _ hl) hi.2.2.2.1 (rk_fit hlt hi.2.2.1), hnm, hts _ hin⟩ ⟨preG.blind hG, fun U hU hW => ⟨rfl, by rw [hU], by rw [hU]; exact hP, hD, va_K.moved hW.alike hK, NW.warm hW hN, by rw [hU]; exact hG.2.2.1 _ _ _ _ hW hR⟩⟩ rfl hn hsize hstack (lv_room hW) hdg hf
variable {S : Type} {wsF : S → va_W} {u0 : S} {w0 : va_W} {Rm : Room} {av : Array Value}
/-- behind a call whose world stands in front: what was made takes its place -/
theorem goV {K : S → Prop} (hr : va_Run p l e Rm s m args below meth c H locs cells slots mc ms (F0 m pc ls st0) rest (poV vwCl D Z wsF u0 H.size K av) (va_A (wsF u0) H.size)) (hw : wsF u0 = w0) (hT : TS vwCl D (w0 ++ wr) A H0 H locs)
    (kk : ∀ (u : S) (H1 : Heap) (locs1 : List Loc), K u → TS vwCl D (wsF u ++ wr) A H0 H1 locs1 → W p l e Rm s m args below meth c H1 locs1 (cells + mc) (slots + ms) Q (F0 m (pc + 3) ls rest)) : W p l e Rm s m args below meth c H locs cells slots Q (F0 m pc ls st0) := by
  subst hw
  exact rwi_go hr hT app_C app_R app_nd app_dj (fun u H1 locs1 hk hT1 => kk u H1 locs1 hk hT1.front)
theorem goI {K : Int32 → S → Prop} (hr : va_Run p l e Rm s m args below meth c H locs cells slots mc ms (F0 m pc ls st0) rest (poI vwCl D Z wsF u0 H.size K av) (va_A (wsF u0) H.size)) (hw : wsF u0 = w0) (hT : TS vwCl D (w0 ++ wr) A H0 H locs)
    (kk : ∀ (r : Int32) (u : S) (H1 : Heap) (locs1 : List Loc), K r u → TS vwCl D (wsF u ++ wr) A H0 H1 locs1 → W p l e Rm s m args below meth c H1 locs1 (cells + mc) (slots + ms) Q (F0 m (pc + 3) ls (.int r :: rest))) : W p l e Rm s m args below meth c H locs cells slots Q (F0 m pc ls st0) := by
  subst hw
  have hF := va_free hT.2.1 hT.2.2.1 hT.2.2.2 _ (app_C (w0 := wsF u0) (wr := wr))
  refine va_calli hr hT.2.2.1 (fun q _ h => hF q h) hF (fun r u t H1 locs1 ht hvm hk hB hz1 hk1 hS1 => ?_)
  obtain ⟨hP1, hD1, _⟩ := hB
  rw [ht] at hP1
  obtain ⟨hP2, hD2⟩ := va_join hT.1 hT.2.1 _ _ app_C app_R app_nd app_dj hk1 hF hP1 hD1
  exact kk r u H1 locs1 hk (TS.front ⟨hP2, hD2, hS1, hT.2.2.2⟩)
theorem goQ {K : S → Prop} {g : S → Nat} (hr : va_Run p l e Rm s m args below meth c H locs cells slots mc ms (F0 m pc ls st0) rest (poQ vwCl D Z wsF g u0 H.size K av) (va_A (wsF u0) H.size)) (hw : wsF u0 = w0) (hT : TS vwCl D (w0 ++ wr) A H0 H locs)
    (kk : ∀ (u : S) (H1 : Heap) (locs1 : List Loc), K u → TS vwCl D (wsF u ++ wr) A H0 H1 locs1 → W p l e Rm s m args below meth c H1 locs1 (cells + mc) (slots + ms) Q (F0 m (pc + 3) ls (.ref (g u) :: rest))) : W p l e Rm s m args below meth c H locs cells slots Q (F0 m pc ls st0) := by
  subst hw
  have hF := va_free hT.2.1 hT.2.2.1 hT.2.2.2 _ (app_C (w0 := wsF u0) (wr := wr))
  intro T hTh X
  obtain ⟨v, st₀, t, T', L, h0, X', hL, e1, e2, ⟨⟨u, hv, hk, hP1, hD1, hK1⟩, hz, hkk⟩, st⟩ := hr T hTh X
  cases hv
  rw [h0] at hz hkk
  rw [← e1] at hP1 hkk hz
  have hS1 : va_S A H0 T'.heap (locs ++ L) := ⟨Nat.le_trans hT.2.2.1.1 hz, fun q h1 h2 => by rw [hkk q (Nat.lt_of_lt_of_le h1 hT.2.2.1.1) (fun z => h2 (hF q z))]; exact hT.2.2.1.2.1 q h1 h2, fun q hq => by
      rcases List.mem_append.mp hq with h | h
      · exact hT.2.2.1.2.2 q h
      · exact hF _ (hL q h)⟩
  obtain ⟨hP2, hD2⟩ := va_join hT.1 hT.2.1 _ _ app_C app_R app_nd app_dj hkk hF hP1 hD1
  obtain ⟨t2, a1, b1⟩ := kk u T'.heap (locs ++ L) hk (TS.front ⟨hP2, hD2, hS1, hT.2.2.2⟩) T' rfl X'
  exact ⟨t2, st t2 a1, b1⟩
end CALLSG
