/-! ===== words: one list for every method ===== -/
def lw_g : List Cond := lw_tbl.filter goodWord
theorem lw_g_mem {i : Nat} {w : Cond} (h : lw_tbl[i]? = some w) (hg : goodWord w = true) : w ∈ lw_g := List.mem_filter.mpr ⟨List.mem_of_getElem? h, hg⟩
theorem tb_in {w : Cond} (h : w ∈ tables_1) : w ∈ lw_tbl := List.mem_append_right _ h
theorem tb_0 {w : Cond} (h : w ∈ k2_sels lw_privs) : w ∈ lw_tbl := List.mem_append_left _ h
theorem tb_1 {w : Cond} (h : w ∈ tables_1_1) : w ∈ lw_tbl := tb_in (List.mem_append_left _ h)
theorem tb_2 {w : Cond} (h : w ∈ tables_1_2) : w ∈ lw_tbl := tb_in (List.mem_append_right _ (List.mem_append_left _ h))
theorem tb_3 {w : Cond} (h : w ∈ tables_1_3) : w ∈ lw_tbl := tb_in (List.mem_append_right _ (List.mem_append_right _ (List.mem_append_left _ h)))
theorem tb_4 {w : Cond} (h : w ∈ tables_1_4) : w ∈ lw_tbl := tb_in (List.mem_append_right _ (List.mem_append_right _ (List.mem_append_right _ (List.mem_append_left _ h))))
theorem tb_5 {w : Cond} (h : w ∈ tables_1_5) : w ∈ lw_tbl := tb_in (List.mem_append_right _ (List.mem_append_right _ (List.mem_append_right _ (List.mem_append_right _ (List.mem_append_left _ h)))))
theorem tb_6 {w : Cond} (h : w ∈ tables_1_6) : w ∈ lw_tbl := tb_in (List.mem_append_right _ (List.mem_append_right _ (List.mem_append_right _ (List.mem_append_right _ (List.mem_append_right _ h)))))
theorem lw_g_mk {w : Cond} (h : w ∈ lw_tbl) (hg : goodWord w = true) : w ∈ lw_g := List.mem_filter.mpr ⟨h, hg⟩
def wy (y : MethodName) (cc : ByteArray) (n : Nat) (ret : Option FieldType) : List Cond := Cond.code y cc n ret :: lw_g
theorem wy_good {y : MethodName} {cc : ByteArray} {n : Nat} {ret : Option FieldType} (h : Cond.code y cc n ret ∈ lw_g) : GoodIn lw_g (wy y cc n ret) := by
  intro w hw
  have hm : w ∈ lw_g := by
    rcases List.mem_cons.mp hw with h2 | h2
    · rw [h2]; exact h
    · exact h2
  exact ⟨hm, good_of_word (List.mem_filter.mp hm).2⟩
def isNest : Cond → Bool
  | .methodLinkNest _ _ _ _ => true
  | .fieldLinkNest _ _ _ _ _ _ => true
  | .arrayOver t => decide (t = FieldType.array .int)
  | _ => false
theorem ao_moved {u U : State} (hvm : u.vm.Alike U.vm) (h : va_Nw (.arrayOver (.array .int)) u) : va_Nw (.arrayOver (.array .int)) U := by
  unfold va_Nw Cond.before Cond.holds at h
  simp only [Cond.value, beq_iff_eq] at h
  cases hc : u.vm.findClass (FieldType.array .int).toString with
  | none => simp [hc] at h
  | some comp =>
    simp only [hc, Option.bind_some, Option.bind_eq_some_iff, Option.map_eq_some_iff] at h
    obtain ⟨c, hi, k, hk, hb⟩ := h
    obtain ⟨k', hk', he⟩ := hvm.2.2 _ _ hk
    have e0 := va_idx_bare U.vm comp
    have e1 := va_idx_bare u.vm comp
    have eb : U.vm.bare = u.vm.bare := by first | exact hvm.bare_eq | exact hvm.bare_eq.symm
    rw [eb] at e0
    have hi' := e0.symm.trans (e1.trans hi)
    have hkind : k'.kind = k.kind := by rw [he]
    have f1 : U.vm.findClass (FieldType.array .int).toString = some comp := by rw [hvm.findClass]; exact hc
    have f2 : ∀ n, U.vm.findClass n = u.vm.findClass n := fun n => by rw [hvm.findClass]
    unfold va_Nw Cond.before Cond.holds
    simp only [Cond.value]
    rw [f1, Option.bind_some]
    refine (congrArg (fun o : Option Nat => (o.bind (fun c => (U.vm.classes[c]?).map fun (k : Class) => match k.kind with | .array _ ty => decide (ty = FieldType.array .int) && decide (U.vm.findClass ("[" ++ (FieldType.array .int).toString) = some c) | _ => false) == some true)) hi').trans ?_
    simp only [Option.bind_some, hk', Option.map_some, hkind, f2]
    cases hkd : k.kind with
    | array cc ty => rw [hkd] at hb; simpa using hb
    | _ => rw [hkd] at hb; simp at hb
def lw_n : List Cond := lw_tbl.filter isNest
theorem lw_n_mk {w : Cond} (h : w ∈ lw_tbl) (hg : isNest w = true) : w ∈ lw_n := List.mem_filter.mpr ⟨h, hg⟩
theorem lw_n_mem {i : Nat} {w : Cond} (h : lw_tbl[i]? = some w) (hg : isNest w = true) : w ∈ lw_n := List.mem_filter.mpr ⟨List.mem_of_getElem? h, hg⟩
def NW (U : State) : Prop := ∀ w ∈ lw_n, va_Nw w U
theorem NW.warm {s U : State} (hW : s.WarmedH U.vm) (h : NW s) : NW U := by
  intro w hw
  have h1 := (List.mem_filter.mp hw).2
  have h2 := h w hw
  cases w <;> first | exact va_Nw.warmM hW h2 | exact va_Nw.warmF hW h2 | (rename_i t; have e : t = FieldType.array .int := of_decide_eq_true h1; subst e; exact ao_moved hW.alike h2) | (exact absurd h1 (by simp [isNest]))
theorem NW.same {s U : State} (hv : s.vm = U.vm) (h : NW s) : NW U := by
  intro w hw
  have h1 := (List.mem_filter.mp hw).2
  have h2 := h w hw
  have hA : s.vm.Alike U.vm := hv ▸ Vm.Alike.refl s.vm
  cases w <;> first | exact va_Nw.same rfl hv h2 | (rename_i t; have e : t = FieldType.array .int := of_decide_eq_true h1; subst e; exact ao_moved hA h2) | (exact absurd h1 (by simp [isNest]))
/-! ===== room by rank ===== -/
def rk (n mc ms : Nat) : Room := { frames := n, cells := mc, slots := ms, locals := 40 * n }
theorem rk_fit {n n' mc ms mc' ms' maxL : Nat} (h : n' < n) (hm : maxL ≤ 21) : (rk n' mc' ms').frames + 1 ≤ (rk n mc ms).frames ∧ 8 + (maxL + 11) + (rk n' mc' ms').locals ≤ (rk n mc ms).locals := by
  simp only [rk]; omega
/-! ===== what is static of a method ===== -/
def MInfo (y : MethodName) (cc : ByteArray) (maxL : Nat) (ret : Option FieldType) (n : Nat) : Prop :=
  Cond.code y cc maxL ret ∈ lw_g ∧ Cond.initialized y.cls ∈ lw_g ∧ maxL ≤ 21 ∧ (y.cls ≠ "java/lang/invoke/MethodHandle" ∧ y.cls ≠ "java/lang/invoke/VarHandle" ∧ (parseMethodDescriptor y.desc).map (fun d => d.parameters.length) = some n) ∧ plainName y.cls = true
/-! ===== worlds ===== -/
def tysG (Z : Nat → ClassId) : List (ClassId × FieldType) := [(Z 0, .int), (Z 1, .long), (Z 2, .byte), (Z 3, .array .int), (Z 4, .boolean)]
def pre (cl : List vw_C) (D : va_G) (Z : Nat → ClassId) (ws : va_W) (sz : Nat) (av : List Value) : Array Value → State → Prop := va_Pc av (fun U => U.heap.size = sz ∧ va_P D cl ws U.heap ∧ va_D (fun _ => True) ws ∧ va_K D cl (tysG Z) U ∧ NW U)
theorem pre.blind {cl : List vw_C} {D : va_G} {Z : Nat → ClassId} {ws : va_W} {sz : Nat} {av : List Value} : FrameBlind (pre cl D Z ws sz av) := by
  intro a U g mk h
  obtain ⟨h1, h2, h3, h4, h5, h6⟩ := h
  exact ⟨h1, h2, h3, h4, va_K.moved (u := U) (U := U.calling g mk a) (Vm.Alike.refl U.vm) h5, NW.same (s := U) (U := U.calling g mk a) rfl h6⟩
def TS (cl : List vw_C) (D : va_G) (ws : va_W) (A : Nat → Prop) (H0 H : Heap) (locs : List Loc) : Prop := va_P D cl ws H ∧ va_D A ws ∧ va_S A H0 H locs ∧ ∀ q, H0.size ≤ q → A q
section RO
variable {l : Launch} {y : MethodName} {cc : ByteArray} {n : Nat} {ret : Option FieldType} {rn : Nat} {cl : List vw_C} {D : va_G} {Z : Nat → ClassId} {ws : va_W} {sz : Nat} {av : List Value}
/-- a method that writes nothing, its answer an int (or narrower) -/
theorem ro_of {ty : FieldType} {K : Int32 → Prop} (hy : plainName y.cls = true) (hn : (lg_sl av).length ≤ n) (hret : ret = some ty)
    (body : ∀ (p : Program) (e : Env) (s : State) (m : MethodId) (args : Array Value) (below : List Frame) (meth : Method) (c : Code) (Q : State → Prop), CallFix p m c cc n s args lw_g y.cls → NW s → s.heap.size = sz → va_P D cl ws s.heap → va_D (fun _ => True) ws → va_K D cl (tysG Z) s →
      (∀ (pc : Nat) (ls : Array Slot) (r : Int32), K r → narrow ty (.int r) = .int r → decode cc pc = .ok (.ireturn, 1) → W p l e (rk rn 0 0) s m args below meth c s.heap [] 0 0 Q (F0 m pc ls [.int r])) →
      ∀ ls : Array Slot, lv_has ls n (lv_args 0 av) → W p l e (rk rn 0 0) s m args below meth c s.heap [] 0 0 Q (F0 m 0 ls [])) :
    Met l y (wy y cc n ret) (rk rn 0 0) (pre cl D Z ws sz av) (vp_Si K) 0 0 (fun _ => False) := by
  refine Met.ofW (cc := cc) (maxL := n) (ret := ret) hy rfl ?_
  intro p e s m args below meth c s₁ B hml hv
  obtain ⟨rfl, hsz, hP, hD, hK, hN⟩ := hv
  have hts : ∀ w ∈ lw_g, w.before av.toArray s = true := fun w hw => atoms_spec (ws := wy y cc n ret) B.pre w (List.mem_cons_of_mem _ hw)
  have hown : s.vm.findClass y.cls = some m.cls := findClass_of_methodNamed B.named
  have hlocks := B.notSynchronized
  have hl := lv_entry av (n := n) hn
  rw [lg_entry_eq]
  refine body p e s m av.toArray below meth c _ ⟨B.exec, B.bytes, hml, hown, hts⟩ hN hsz hP hD hK ?_ _ hl
  intro pc ls r hr hnar hd
  exact W.zret (ty := ty) B.exec B.bytes (B.returns.trans hret) hnar (fun t ht _ => ⟨r, rfl, hr, ht⟩) (fun q h => by cases h) hd
theorem rol_of {K : Int64 → Prop} (hy : plainName y.cls = true) (hn : (lg_sl av).length ≤ n) (hret : ret = some .long)
    (body : ∀ (p : Program) (e : Env) (s : State) (m : MethodId) (args : Array Value) (below : List Frame) (meth : Method) (c : Code) (Q : State → Prop), CallFix p m c cc n s args lw_g y.cls → NW s → s.heap.size = sz → va_P D cl ws s.heap → va_D (fun _ => True) ws → va_K D cl (tysG Z) s →
      (∀ (pc : Nat) (ls : Array Slot) (r : Int64), K r → decode cc pc = .ok (.lreturn, 1) → W p l e (rk rn 0 0) s m args below meth c s.heap [] 0 0 Q (F0 m pc ls [.long r])) →
      ∀ ls : Array Slot, lv_has ls n (lv_args 0 av) → W p l e (rk rn 0 0) s m args below meth c s.heap [] 0 0 Q (F0 m 0 ls [])) :
    Met l y (wy y cc n ret) (rk rn 0 0) (pre cl D Z ws sz av) (vp_Sl K) 0 0 (fun _ => False) := by
  refine Met.ofW (cc := cc) (maxL := n) (ret := ret) hy rfl ?_
  intro p e s m args below meth c s₁ B hml hv
  obtain ⟨rfl, hsz, hP, hD, hK, hN⟩ := hv
  have hts : ∀ w ∈ lw_g, w.before av.toArray s = true := fun w hw => atoms_spec (ws := wy y cc n ret) B.pre w (List.mem_cons_of_mem _ hw)
  have hown : s.vm.findClass y.cls = some m.cls := findClass_of_methodNamed B.named
  have hlocks := B.notSynchronized
  have hl := lv_entry av (n := n) hn
  rw [lg_entry_eq]
  refine body p e s m av.toArray below meth c _ ⟨B.exec, B.bytes, hml, hown, hts⟩ hN hsz hP hD hK ?_ _ hl
  intro pc ls r hr hd
  exact W.lret B.exec B.bytes (B.returns.trans hret) (fun t ht _ => ⟨r, rfl, hr, ht⟩) (fun q h => by cases h) hd
end RO
section RW
variable {l : Launch} {y : MethodName} {cc : ByteArray} {n : Nat} {ret : Option FieldType} {rn mc ms : Nat} {cl : List vw_C} {D : va_G} {Z : Nat → ClassId} {sz : Nat} {av : List Value} {S : Type} {wsF : S → va_W} {u0 : S}
def poB (cl : List vw_C) (D : va_G) (Z : Nat → ClassId) {S : Type} (wsF : S → va_W) (A : Nat → Prop) (u : S) (t : State) : Prop := va_P D cl (wsF u) t.heap ∧ va_D A (wsF u) ∧ va_K D cl (tysG Z) t
def poI (cl : List vw_C) (D : va_G) (Z : Nat → ClassId) {S : Type} (wsF : S → va_W) (u0 : S) (sz : Nat) (K : Int32 → S → Prop) : Array Value → State → Outcome → State → Prop := va_Qi K (poB cl D Z wsF (va_A (wsF u0) sz)) (va_A (wsF u0) sz)
def poL (cl : List vw_C) (D : va_G) (Z : Nat → ClassId) {S : Type} (wsF : S → va_W) (u0 : S) (sz : Nat) (K : Int64 → S → Prop) : Array Value → State → Outcome → State → Prop := va_Ql K (poB cl D Z wsF (va_A (wsF u0) sz)) (va_A (wsF u0) sz)
def poV (cl : List vw_C) (D : va_G) (Z : Nat → ClassId) {S : Type} (wsF : S → va_W) (u0 : S) (sz : Nat) (K : S → Prop) : Array Value → State → Outcome → State → Prop := va_Qv K (poB cl D Z wsF (va_A (wsF u0) sz)) (va_A (wsF u0) sz)
theorem rw_of {ty : FieldType} {K : Int32 → S → Prop} (hy : plainName y.cls = true) (hn : (lg_sl av).length ≤ n) (hret : ret = some ty)
    (body : ∀ (p : Program) (e : Env) (s : State) (m : MethodId) (args : Array Value) (below : List Frame) (meth : Method) (c : Code) (Q : State → Prop) (A : Nat → Prop), CallFix p m c cc n s args lw_g y.cls → NW s → s.heap.size = sz → TS cl D (wsF u0) A s.heap s.heap [] → va_K D cl (tysG Z) s →
      (∀ (pc : Nat) (ls : Array Slot) (H : Heap) (locs : List Loc) (r : Int32) (u : S), K r u → TS cl D (wsF u) A s.heap H locs → narrow ty (.int r) = .int r → decode cc pc = .ok (.ireturn, 1) → W p l e (rk rn mc ms) s m args below meth c H locs mc ms Q (F0 m pc ls [.int r])) →
      ∀ ls : Array Slot, lv_has ls n (lv_args 0 av) → W p l e (rk rn mc ms) s m args below meth c s.heap [] 0 0 Q (F0 m 0 ls [])) :
    Met l y (wy y cc n ret) (rk rn mc ms) (pre cl D Z (wsF u0) sz av) (poI cl D Z wsF u0 sz K) mc ms (va_A (wsF u0) sz) := by
  refine Met.ofW (cc := cc) (maxL := n) (ret := ret) hy rfl ?_
  intro p e s m args below meth c s₁ B hml hv
  obtain ⟨rfl, hsz, hP, hD, hK, hN⟩ := hv
  have hts : ∀ w ∈ lw_g, w.before av.toArray s = true := fun w hw => atoms_spec (ws := wy y cc n ret) B.pre w (List.mem_cons_of_mem _ hw)
  have hown : s.vm.findClass y.cls = some m.cls := findClass_of_methodNamed B.named
  have hlocks := B.notSynchronized
  have hl := lv_entry av (n := n) hn
  rw [lg_entry_eq]
  refine body p e s m av.toArray below meth c _ (va_A (wsF u0) sz) ⟨B.exec, B.bytes, hml, hown, hts⟩ hN hsz ⟨hP, hD.self, va_S.rf, fun q h => Or.inr (hsz ▸ h)⟩ hK ?_ _ hl
  intro pc ls H locs r u hk hT hnar hd
  exact W.zret (ty := ty) B.exec B.bytes (B.returns.trans hret) hnar (fun t ht hW => ⟨⟨r, u, rfl, hk, by rw [ht]; exact hT.1, hT.2.1, va_K.moved hW.alike hK⟩, hT.2.2.1.F ht⟩) hT.2.2.1.2.2 hd
theorem rwl_of {K : Int64 → S → Prop} (hy : plainName y.cls = true) (hn : (lg_sl av).length ≤ n) (hret : ret = some .long)
    (body : ∀ (p : Program) (e : Env) (s : State) (m : MethodId) (args : Array Value) (below : List Frame) (meth : Method) (c : Code) (Q : State → Prop) (A : Nat → Prop), CallFix p m c cc n s args lw_g y.cls → NW s → s.heap.size = sz → TS cl D (wsF u0) A s.heap s.heap [] → va_K D cl (tysG Z) s →
      (∀ (pc : Nat) (ls : Array Slot) (H : Heap) (locs : List Loc) (r : Int64) (u : S), K r u → TS cl D (wsF u) A s.heap H locs → decode cc pc = .ok (.lreturn, 1) → W p l e (rk rn mc ms) s m args below meth c H locs mc ms Q (F0 m pc ls [.long r])) →
      ∀ ls : Array Slot, lv_has ls n (lv_args 0 av) → W p l e (rk rn mc ms) s m args below meth c s.heap [] 0 0 Q (F0 m 0 ls [])) :
    Met l y (wy y cc n ret) (rk rn mc ms) (pre cl D Z (wsF u0) sz av) (poL cl D Z wsF u0 sz K) mc ms (va_A (wsF u0) sz) := by
  refine Met.ofW (cc := cc) (maxL := n) (ret := ret) hy rfl ?_
  intro p e s m args below meth c s₁ B hml hv
  obtain ⟨rfl, hsz, hP, hD, hK, hN⟩ := hv
  have hts : ∀ w ∈ lw_g, w.before av.toArray s = true := fun w hw => atoms_spec (ws := wy y cc n ret) B.pre w (List.mem_cons_of_mem _ hw)
  have hown : s.vm.findClass y.cls = some m.cls := findClass_of_methodNamed B.named
  have hlocks := B.notSynchronized
  have hl := lv_entry av (n := n) hn
  rw [lg_entry_eq]
  refine body p e s m av.toArray below meth c _ (va_A (wsF u0) sz) ⟨B.exec, B.bytes, hml, hown, hts⟩ hN hsz ⟨hP, hD.self, va_S.rf, fun q h => Or.inr (hsz ▸ h)⟩ hK ?_ _ hl
  intro pc ls H locs r u hk hT hd
  exact W.lret B.exec B.bytes (B.returns.trans hret) (fun t ht hW => ⟨⟨r, u, rfl, hk, by rw [ht]; exact hT.1, hT.2.1, va_K.moved hW.alike hK⟩, hT.2.2.1.F ht⟩) hT.2.2.1.2.2 hd
theorem rwv_of {K : S → Prop} (hy : plainName y.cls = true) (hn : (lg_sl av).length ≤ n) (hret : ret = none)
    (body : ∀ (p : Program) (e : Env) (s : State) (m : MethodId) (args : Array Value) (below : List Frame) (meth : Method) (c : Code) (Q : State → Prop) (A : Nat → Prop), CallFix p m c cc n s args lw_g y.cls → NW s → s.heap.size = sz → meth.name = y.name → TS cl D (wsF u0) A s.heap s.heap [] → va_K D cl (tysG Z) s →
      (∀ (pc : Nat) (ls : Array Slot) (H : Heap) (locs : List Loc) (u : S), K u → TS cl D (wsF u) A s.heap H locs → decode cc pc = .ok (.return_, 1) → W p l e (rk rn mc ms) s m args below meth c H locs mc ms Q (F0 m pc ls [])) →
      ∀ ls : Array Slot, lv_has ls n (lv_args 0 av) → W p l e (rk rn mc ms) s m args below meth c s.heap [] 0 0 Q (F0 m 0 ls [])) :
    Met l y (wy y cc n ret) (rk rn mc ms) (pre cl D Z (wsF u0) sz av) (poV cl D Z wsF u0 sz K) mc ms (va_A (wsF u0) sz) := by
  refine Met.ofW (cc := cc) (maxL := n) (ret := ret) hy rfl ?_
  intro p e s m args below meth c s₁ B hml hv
  obtain ⟨rfl, hsz, hP, hD, hK, hN⟩ := hv
  have hts : ∀ w ∈ lw_g, w.before av.toArray s = true := fun w hw => atoms_spec (ws := wy y cc n ret) B.pre w (List.mem_cons_of_mem _ hw)
  have hown : s.vm.findClass y.cls = some m.cls := findClass_of_methodNamed B.named
  have hlocks := B.notSynchronized
  have hin : meth.name = y.name := (name_of_methodNamed B.named B.method).1
  have hl := lv_entry av (n := n) hn
  rw [lg_entry_eq]
  refine body p e s m av.toArray below meth c _ (va_A (wsF u0) sz) ⟨B.exec, B.bytes, hml, hown, hts⟩ hN hsz hin ⟨hP, hD.self, va_S.rf, fun q h => Or.inr (hsz ▸ h)⟩ hK ?_ _ hl
  intro pc ls H locs u hk hT hd
  exact W.vret B.exec B.bytes (B.returns.trans hret) (fun t ht hW => ⟨⟨u, rfl, hk, by rw [ht]; exact hT.1, hT.2.1, va_K.moved hW.alike hK⟩, hT.2.2.1.F ht⟩) hT.2.2.1.2.2 hd
end RW
section CALLS
variable {p : Program} {l : Launch} {e : Env} {s : State} {m : MethodId} {args : Array Value} {below : List Frame} {meth : Method} {c : Code} {H H0 : Heap} {locs : List Loc} {cells slots : Nat} {Q : State → Prop} {R : Room}
variable {pc : Nat} {ls : Array Slot} {rest st0 : List Value} {a : Array Value} {A : Nat → Prop} {mc ms : Nat} {cl : List vw_C} {D : va_G} {Z : Nat → ClassId} {ws : va_W}
/-- behind a call that wrote nothing -/
theorem ro_go {K : Int32 → Prop} (hr : va_Run p l e R s m args below meth c H locs cells slots 0 0 (F0 m pc ls st0) rest (vp_Si K a) (fun _ => False))
    (kk : ∀ r : Int32, K r → W p l e R s m args below meth c H locs cells slots Q (F0 m (pc + 3) ls (.int r :: rest))) : W p l e R s m args below meth c H locs cells slots Q (F0 m pc ls st0) := by
  intro T hT X
  obtain ⟨v, st₀, t, T', L, h0, X', hL, e1, e2, ⟨r, hv, hk, hh⟩, st⟩ := hr T hT X
  cases hv
  have hL0 : L = [] := List.eq_nil_iff_forall_not_mem.mpr (fun q h => hL q h)
  subst hL0
  rw [List.append_nil] at X'
  obtain ⟨t2, a1, b1⟩ := kk r hk T' (e1.trans (hh.trans h0)) X'
  exact ⟨t2, st t2 a1, b1⟩
theorem rol_go {K : Int64 → Prop} (hr : va_Run p l e R s m args below meth c H locs cells slots 0 0 (F0 m pc ls st0) rest (vp_Sl K a) (fun _ => False))
    (kk : ∀ r : Int64, K r → W p l e R s m args below meth c H locs cells slots Q (F0 m (pc + 3) ls (.long r :: rest))) : W p l e R s m args below meth c H locs cells slots Q (F0 m pc ls st0) := by
  intro T hT X
  obtain ⟨v, st₀, t, T', L, h0, X', hL, e1, e2, ⟨r, hv, hk, hh⟩, st⟩ := hr T hT X
  cases hv
  have hL0 : L = [] := List.eq_nil_iff_forall_not_mem.mpr (fun q h => hL q h)
  subst hL0
  rw [List.append_nil] at X'
  obtain ⟨t2, a1, b1⟩ := kk r hk T' (e1.trans (hh.trans h0)) X'
  exact ⟨t2, st t2 a1, b1⟩
/-- the places of a call: the callee's cells of the caller's, the rest, and how they lie behind it -/
def Cut {S : Type} (ws : va_W) (wsF : S → va_W) (u0 : S) (wr : va_W) (isC isR pm : List Nat) (ws' : S → va_W) : Prop :=
  isC.map (fun i => ws[i]?) = (wsF u0).map some ∧ isR.map (fun i => ws[i]?) = wr.map some ∧ va_nd isR = true ∧ (∀ i ∈ isR, i ∉ isC) ∧ va_nd pm = true ∧ ∀ u, pm.map (fun i => (wr ++ wsF u)[i]?) = (ws' u).map some
theorem map_fm {ws ws' : va_W} : ∀ {is : List Nat}, is.map (fun i => ws[i]?) = ws'.map some → is.filterMap (fun i => ws[i]?) = ws' := by
  intro is
  induction is generalizing ws' with
  | nil => intro h; cases ws' with
    | nil => rfl
    | cons _ _ => simp at h
  | cons i is ih =>
    intro h
    cases ws' with
    | nil => simp at h
    | cons q qs =>
      simp only [List.map_cons, List.cons.injEq] at h
      simp [List.filterMap_cons, h.1, ih h.2]
theorem Cut.join {S : Type} {wsF : S → va_W} {u0 : S} {wr : va_W} {isC isR pm : List Nat} {ws' : S → va_W} (hc : Cut ws wsF u0 wr isC isR pm ws') {H1 : Heap} {locs1 : List Loc} {u : S} (hT : TS cl D ws A H0 H locs)
    (hk : ∀ q : Nat, q < H.size → ¬ va_A (wsF u0) H.size q → H1[q]? = H[q]?) (hP1 : va_P D cl (wsF u) H1) (hD1 : va_D (va_A (wsF u0) H.size) (wsF u)) (hS1 : va_S A H0 H1 locs1) : TS cl D (ws' u) A H0 H1 locs1 := by
  obtain ⟨h1, h2, h3, h4, h5, h6⟩ := hc
  have hF := va_free hT.2.1 hT.2.2.1 hT.2.2.2 isC h1
  obtain ⟨hP, hD⟩ := va_join hT.1 hT.2.1 isC isR h1 h2 h3 h4 hk hF hP1 hD1
  exact ⟨hP.sub pm (map_fm (h6 u)), hD.sub pm h5 (h6 u), hS1, hT.2.2.2⟩
theorem rw_go {S : Type} {wsF : S → va_W} {u0 : S} {K : Int32 → S → Prop} {wr : va_W} {isC isR pm : List Nat} {ws' : S → va_W} (hr : va_Run p l e R s m args below meth c H locs cells slots mc ms (F0 m pc ls st0) rest (poI cl D Z wsF u0 H.size K a) (va_A (wsF u0) H.size))
    (hc : Cut ws wsF u0 wr isC isR pm ws') (hT : TS cl D ws A H0 H locs)
    (kk : ∀ (r : Int32) (u : S) (H1 : Heap) (locs1 : List Loc), K r u → TS cl D (ws' u) A H0 H1 locs1 → W p l e R s m args below meth c H1 locs1 (cells + mc) (slots + ms) Q (F0 m (pc + 3) ls (.int r :: rest))) : W p l e R s m args below meth c H locs cells slots Q (F0 m pc ls st0) := by
  have hF := va_free hT.2.1 hT.2.2.1 hT.2.2.2 isC hc.1
  refine va_calli hr hT.2.2.1 (fun q _ h => hF q h) hF (fun r u t H1 locs1 ht hvm hk hB hz1 hk1 hS1 => ?_)
  obtain ⟨hP1, hD1, _⟩ := hB
  rw [ht] at hP1
  exact kk r u H1 locs1 hk (hc.join hT hk1 hP1 hD1 hS1)
theorem rwl_go {S : Type} {wsF : S → va_W} {u0 : S} {K : Int64 → S → Prop} {wr : va_W} {isC isR pm : List Nat} {ws' : S → va_W} (hr : va_Run p l e R s m args below meth c H locs cells slots mc ms (F0 m pc ls st0) rest (poL cl D Z wsF u0 H.size K a) (va_A (wsF u0) H.size))
    (hc : Cut ws wsF u0 wr isC isR pm ws') (hT : TS cl D ws A H0 H locs)
    (kk : ∀ (r : Int64) (u : S) (H1 : Heap) (locs1 : List Loc), K r u → TS cl D (ws' u) A H0 H1 locs1 → W p l e R s m args below meth c H1 locs1 (cells + mc) (slots + ms) Q (F0 m (pc + 3) ls (.long r :: rest))) : W p l e R s m args below meth c H locs cells slots Q (F0 m pc ls st0) := by
  have hF := va_free hT.2.1 hT.2.2.1 hT.2.2.2 isC hc.1
  refine va_calll hr hT.2.2.1 (fun q _ h => hF q h) hF (fun r u t H1 locs1 ht hvm hk hB hz1 hk1 hS1 => ?_)
  obtain ⟨hP1, hD1, _⟩ := hB
  rw [ht] at hP1
  exact kk r u H1 locs1 hk (hc.join hT hk1 hP1 hD1 hS1)
theorem rwv_go {S : Type} {wsF : S → va_W} {u0 : S} {K : S → Prop} {wr : va_W} {isC isR pm : List Nat} {ws' : S → va_W} (hr : va_Run p l e R s m args below meth c H locs cells slots mc ms (F0 m pc ls st0) rest (poV cl D Z wsF u0 H.size K a) (va_A (wsF u0) H.size))
    (hc : Cut ws wsF u0 wr isC isR pm ws') (hT : TS cl D ws A H0 H locs)
    (kk : ∀ (u : S) (H1 : Heap) (locs1 : List Loc), K u → TS cl D (ws' u) A H0 H1 locs1 → W p l e R s m args below meth c H1 locs1 (cells + mc) (slots + ms) Q (F0 m (pc + 3) ls rest)) : W p l e R s m args below meth c H locs cells slots Q (F0 m pc ls st0) := by
  have hF := va_free hT.2.1 hT.2.2.1 hT.2.2.2 isC hc.1
  refine va_callv hr hT.2.2.1 (fun q _ h => hF q h) hF (fun u t H1 locs1 ht hvm hk hB hz1 hk1 hS1 => ?_)
  obtain ⟨hP1, hD1, _⟩ := hB
  rw [ht] at hP1
  exact kk u H1 locs1 hk (hc.join hT hk1 hP1 hD1 hS1)
variable {y : MethodName} {bytes cc : ByteArray} {maxL nL n index : Nat} {ret : Option FieldType} {rn rn' mcR msR : Nat} {Qc : Array Value → State → Outcome → State → Prop} {free : Addr → Prop} {own host : String} {b : Addr} {As : List Value}
/-- a virtual call (of a method of the receiver's own class) -/
theorem runV (hC : CallFix p m c cc nL s args lw_g own) (hN : NW s) (hM : Met l y (wy y bytes maxL ret) (rk rn' mc ms) (pre cl D Z ws H.size (.ref b :: As)) Qc mc ms free) (hi : MInfo y bytes maxL ret n) (hl : Cond.methodLink own index y ∈ lw_g) (hin : Cond.instanceMethod y ∈ lw_g) (hse : Cond.selects y.cls y y ∈ lw_g) (hlt : rn' < rn)
    (hP : va_P D cl ws H) (hD : va_D (fun _ => True) ws) (hK : va_K D cl (tysG Z) s) {ci q0 : Nat} {fs : List Value} {T : u_T} {N : Nat} (hq : ws[q0]? = some (b, .inr (ci, fs))) (hci : cl[ci]? = some (y.cls, T, N))
    (hn : As.length = n) (hsize : ls.size = nL) (hstack : st0 = As.reverse ++ .ref b :: rest) (hW : (rest.map fun v => v.category).sum ≤ 8) (hdg : decode cc pc = .ok (.invokevirtual index, 3)) (hf : cells + mc ≤ mcR ∧ slots + ms ≤ msR) :
    va_Run p l e (rk rn mcR msR) s m args below meth c H locs cells slots mc ms (F0 m pc ls st0) rest (Qc (Value.ref b :: As).toArray) free := by
  have hts := hC.2.2.2.2
  refine va_runV (As := As) (rest := rest) (C := y.cls) hC hM ⟨callB_of n hts (wy_good hi.1) rfl rfl rfl (hts _ hi.2.1) (hts _ hl) hi.2.2.2.1 (rk_fit hlt hi.2.2.1), hts _ hin, hts _ hse⟩ ⟨pre.blind, va_recv hK hP hci hq, fun U hU hW => ⟨rfl, by rw [hU], by rw [hU]; exact hP, hD, va_K.moved hW.alike hK, NW.warm hW hN⟩⟩ rfl hn hsize hstack (lv_room hW) hdg hf
theorem runVN (hC : CallFix p m c cc nL s args lw_g own) (hN : NW s) (hM : Met l y (wy y bytes maxL ret) (rk rn' mc ms) (pre cl D Z ws H.size (.ref b :: As)) Qc mc ms free) (hi : MInfo y bytes maxL ret n) (hl : Cond.methodLinkNest own index y host ∈ lw_n) (hin : Cond.instanceMethod y ∈ lw_g) (hse : Cond.selects y.cls y y ∈ lw_g) (hlt : rn' < rn)
    (hP : va_P D cl ws H) (hD : va_D (fun _ => True) ws) (hK : va_K D cl (tysG Z) s) {ci q0 : Nat} {fs : List Value} {T : u_T} {N : Nat} (hq : ws[q0]? = some (b, .inr (ci, fs))) (hci : cl[ci]? = some (y.cls, T, N))
    (hn : As.length = n) (hsize : ls.size = nL) (hstack : st0 = As.reverse ++ .ref b :: rest) (hW : (rest.map fun v => v.category).sum ≤ 8) (hdg : decode cc pc = .ok (.invokevirtual index, 3)) (hf : cells + mc ≤ mcR ∧ slots + ms ≤ msR) :
    va_Run p l e (rk rn mcR msR) s m args below meth c H locs cells slots mc ms (F0 m pc ls st0) rest (Qc (Value.ref b :: As).toArray) free := by
  have hts := hC.2.2.2.2
  refine va_runVN (As := As) (rest := rest) (C := y.cls) hC hM ⟨va_cnB n hts (wy_good hi.1) rfl rfl rfl (hN _ hl) (hts _ hi.2.1) hi.2.2.2.1 (rk_fit hlt hi.2.2.1), hts _ hin, hts _ hse⟩ ⟨pre.blind, va_recv hK hP hci hq, fun U hU hW => ⟨rfl, by rw [hU], by rw [hU]; exact hP, hD, va_K.moved hW.alike hK, NW.warm hW hN⟩⟩ rfl hn hsize hstack (lv_room hW) hdg hf
theorem runS (hC : CallFix p m c cc nL s args lw_g own) (hN : NW s) (hM : Met l y (wy y bytes maxL ret) (rk rn' mc ms) (pre cl D Z ws H.size As) Qc mc ms free) (hi : MInfo y bytes maxL ret n) (hl : Cond.methodLink own index y ∈ lw_g) (hst : Cond.static y ∈ lw_g) (hlt : rn' < rn)
    (hP : va_P D cl ws H) (hD : va_D (fun _ => True) ws) (hK : va_K D cl (tysG Z) s)
    (hn : As.length = n) (hsize : ls.size = nL) (hstack : st0 = As.reverse ++ rest) (hW : (rest.map fun v => v.category).sum ≤ 8) (hdg : decode cc pc = .ok (.invokestatic index, 3)) (hf : cells + mc ≤ mcR ∧ slots + ms ≤ msR) :
    va_Run p l e (rk rn mcR msR) s m args below meth c H locs cells slots mc ms (F0 m pc ls st0) rest (Qc As.toArray) free := by
  have hts := hC.2.2.2.2
  refine va_runS (As := As) (rest := rest) hC hM ⟨callB_of n hts (wy_good hi.1) rfl rfl rfl (hts _ hi.2.1) (hts _ hl) hi.2.2.2.1 (rk_fit hlt hi.2.2.1), hts _ hst⟩ ⟨pre.blind, fun U hU hW => ⟨rfl, by rw [hU], by rw [hU]; exact hP, hD, va_K.moved hW.alike hK, NW.warm hW hN⟩⟩ rfl hn hsize hstack (lv_room hW) hdg hf
theorem runSN (hC : CallFix p m c cc nL s args lw_g own) (hN : NW s) (hM : Met l y (wy y bytes maxL ret) (rk rn' mc ms) (pre cl D Z ws H.size As) Qc mc ms free) (hi : MInfo y bytes maxL ret n) (hl : Cond.methodLinkNest own index y host ∈ lw_n) (hst : Cond.static y ∈ lw_g) (hlt : rn' < rn)
    (hP : va_P D cl ws H) (hD : va_D (fun _ => True) ws) (hK : va_K D cl (tysG Z) s)
    (hn : As.length = n) (hsize : ls.size = nL) (hstack : st0 = As.reverse ++ rest) (hW : (rest.map fun v => v.category).sum ≤ 8) (hdg : decode cc pc = .ok (.invokestatic index, 3)) (hf : cells + mc ≤ mcR ∧ slots + ms ≤ msR) :
    va_Run p l e (rk rn mcR msR) s m args below meth c H locs cells slots mc ms (F0 m pc ls st0) rest (Qc As.toArray) free := by
  have hts := hC.2.2.2.2
  refine va_runSN (As := As) (rest := rest) hC hM ⟨va_cnB n hts (wy_good hi.1) rfl rfl rfl (hN _ hl) (hts _ hi.2.1) hi.2.2.2.1 (rk_fit hlt hi.2.2.1), hts _ hst, trivial⟩ ⟨pre.blind, fun U hU hW => ⟨rfl, by rw [hU], by rw [hU]; exact hP, hD, va_K.moved hW.alike hK, NW.warm hW hN⟩⟩ rfl hn hsize hstack (lv_room hW) hdg hf
theorem runI (hC : CallFix p m c cc nL s args lw_g own) (hN : NW s) (hM : Met l y (wy y bytes maxL none) (rk rn' mc ms) (pre cl D Z ws H.size (.ref b :: As)) Qc mc ms free) (hi : MInfo y bytes maxL none n) (hl : Cond.methodLink own index y ∈ lw_g) (hin : Cond.instanceMethod y ∈ lw_g) (hnm : y.name = "<init>") (hlt : rn' < rn)
    (hP : va_P D cl ws H) (hD : va_D (fun _ => True) ws) (hK : va_K D cl (tysG Z) s)
    (hn : As.length = n) (hsize : ls.size = nL) (hstack : st0 = As.reverse ++ .ref b :: rest) (hW : (rest.map fun v => v.category).sum ≤ 8) (hdg : decode cc pc = .ok (.invokespecial index, 3)) (hf : cells + mc ≤ mcR ∧ slots + ms ≤ msR) :
    va_Run p l e (rk rn mcR msR) s m args below meth c H locs cells slots mc ms (F0 m pc ls st0) rest (Qc (Value.ref b :: As).toArray) free := by
  have hts := hC.2.2.2.2
  refine va_runI (As := As) (rest := rest) hC hM ⟨callB_of n hts (wy_good hi.1) rfl rfl rfl (hts _ hi.2.1) (hts _ hl) hi.2.2.2.1 (rk_fit hlt hi.2.2.1), hnm, hts _ hin⟩ ⟨pre.blind, fun U hU hW => ⟨rfl, by rw [hU], by rw [hU]; exact hP, hD, va_K.moved hW.alike hK, NW.warm hW hN⟩⟩ rfl hn hsize hstack (lv_room hW) hdg hf
theorem runIN (hC : CallFix p m c cc nL s args lw_g own) (hN : NW s) (hM : Met l y (wy y bytes maxL none) (rk rn' mc ms) (pre cl D Z ws H.size (.ref b :: As)) Qc mc ms free) (hi : MInfo y bytes maxL none n) (hl : Cond.methodLinkNest own index y host ∈ lw_n) (hin : Cond.instanceMethod y ∈ lw_g) (hnm : y.name = "<init>") (hlt : rn' < rn)
    (hP : va_P D cl ws H) (hD : va_D (fun _ => True) ws) (hK : va_K D cl (tysG Z) s)
    (hn : As.length = n) (hsize : ls.size = nL) (hstack : st0 = As.reverse ++ .ref b :: rest) (hW : (rest.map fun v => v.category).sum ≤ 8) (hdg : decode cc pc = .ok (.invokespecial index, 3)) (hf : cells + mc ≤ mcR ∧ slots + ms ≤ msR) :
    va_Run p l e (rk rn mcR msR) s m args below meth c H locs cells slots mc ms (F0 m pc ls st0) rest (Qc (Value.ref b :: As).toArray) free := by
  have hts := hC.2.2.2.2
  refine va_runIN (As := As) (rest := rest) hC hM ⟨va_cnB n hts (wy_good hi.1) rfl rfl rfl (hN _ hl) (hts _ hi.2.1) hi.2.2.2.1 (rk_fit hlt hi.2.2.1), hnm, hts _ hin⟩ ⟨pre.blind, fun U hU hW => ⟨rfl, by rw [hU], by rw [hU]; exact hP, hD, va_K.moved hW.alike hK, NW.warm hW hN⟩⟩ rfl hn hsize hstack (lv_room hW) hdg hf
end CALLS
