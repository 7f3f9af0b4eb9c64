theorem wq_240 : Cond.arrayClass .int ∈ lw_g := lw_g_mk (tb_1 (List.mem_of_getElem? (i := 176) rfl)) rfl
theorem wq_239 : Cond.arrayClass .long ∈ lw_g := lw_g_mk (tb_1 (List.mem_of_getElem? (i := 175) rfl)) rfl
theorem wq_238 : Cond.arrayClass .byte ∈ lw_g := lw_g_mk (tb_1 (List.mem_of_getElem? (i := 174) rfl)) rfl
theorem wq_96 : Cond.instanceMethod objectInit ∈ lw_g := lw_g_mk (tb_1 (List.mem_of_getElem? (i := 32) rfl)) rfl
theorem wq_97 : Cond.code objectInit ⟨#[0xb1]⟩ 1 none ∈ lw_g := lw_g_mk (tb_1 (List.mem_of_getElem? (i := 33) rfl)) rfl
/-! ===== making cells ===== -/
def zM : M2 := fun _ _ => 0
def zL : L2 := fun _ _ => 0
def asc : List (Nat × Nat) → Nat → Nat
  | [], _ => 0
  | (x, y) :: t, k => if k = x then y else asc t k
theorem TS.dropR {cl : List vw_C} {D : va_G} {ws w2 : va_W} {A : Nat → Prop} {H0 H : Heap} {locs : List Loc} (hT : TS cl D (ws ++ w2) A H0 H locs) : TS cl D ws A H0 H locs := by
  have hk : ∀ (k : Nat) (q : Nat × va_E), ws[k]? = some q → (ws ++ w2)[k]? = some q := fun k q h => by
    rw [List.getElem?_append_left (List.getElem?_eq_some_iff.mp h).1]; exact h
  exact ⟨fun k q h => hT.1 k q (hk k q h), ⟨fun i j p q hi hj => hT.2.1.1 i j p q (hk i p hi) (hk j q hj), fun k q h => hT.2.1.2 k q (hk k q h)⟩, hT.2.2⟩
/-- the world's cells, picked (each once) -/
theorem TS.pick {cl : List vw_C} {D : va_G} {ws ws' : va_W} {A : Nat → Prop} {H0 H : Heap} {locs : List Loc} (hT : TS cl D ws A H0 H locs) (is : List Nat) (hnd : va_nd is = true) (hs : is.map (fun i => ws[i]?) = ws'.map some) : TS cl D ws' A H0 H locs :=
  ⟨hT.1.sub is (map_fm hs), hT.2.1.sub is hnd hs, hT.2.2⟩
theorem ty_same {D : va_G} {cl : List vw_C} {tys : List (ClassId × FieldType)} {s : State} {i j : Nat} {c1 c2 : ClassId} {ty : FieldType} (hK : va_K D cl tys s) (h1 : tys[i]? = some (c1, ty)) (h2 : tys[j]? = some (c2, ty)) (hty : ∀ C, ty ≠ .object C) : c1 = c2 := by
  have a1 := (hK.2 i _ h1).2
  have a2 := (hK.2 j _ h2).2
  cases ty <;> first | exact absurd rfl (hty _) | exact Option.some.inj (a1.symm.trans a2)
section MAKE
variable {p : Program} {l : Launch} {e : Env} {s : State} {m : MethodId} {args : Array Value} {below : List Frame} {meth : Method} {c : Code} {H H0 : Heap} {locs : List Loc} {cells slots : Nat} {Q : State → Prop} {R : Room}
variable {pc : Nat} {ls : Array Slot} {rest st0 : List Value} {A : Nat → Prop} {D : va_G} {Z : Nat → ClassId} {ws ws' : va_W} {a : Nat}
variable {cc : ByteArray} {nL index : Nat} {own : String} {N : Nat} {n : Int32}
theorem w_newI (hC : CallFix p m c cc nL s args lw_g own) (hK : va_K D vwCl (tysG Z) s) (hT : TS vwCl D ws A H0 H locs) (harr : Cond.arrayClass .int ∈ lw_g) (hn : ¬ n < 0) (hN : n.toNatClampNeg = N) (hb : N ≤ 100000) (hcells : cells + 1 ≤ R.cells) (hslots : slots + N ≤ R.slots) (hdg : decode cc pc = .ok (.newarray .int, 2))
    (kk : ∀ (q : Nat) (H1 : Heap), TS vwCl D (ws ++ [(q, .inl (Z 0, N, .inl (fun _ => 0)))]) A H0 H1 locs → W p l e R s m args below meth c H1 locs (cells + 1) (slots + N) Q (F0 m (pc + 2) ls (.ref q :: rest))) : W p l e R s m args below meth c H locs cells slots Q (F0 m pc ls (.int n :: rest)) := by
  refine va_newa (atype := .int) (ty := .int) (N' := N) (a0 := (N, .inl (fun _ => 0))) hC.1 hC.2.1 (hC.2.2.2.2 _ harr) rfl hK hT.1 hT.2.1 hT.2.2.1 hT.2.2.2 (fun cA => rfl) hn hN (by show N * 4 ≤ 536870912; omega) hcells hslots hdg (fun q cA H1 hK1 hP1 hD1 hS1 => ?_)
  have hc : cA = Z 0 := ty_same hK1 (i := 5) (j := 0) (ty := .int) rfl rfl (fun C h => by cases h)
  subst hc
  exact kk q H1 ⟨hP1, hD1, hS1, hT.2.2.2⟩
theorem w_newJ (hC : CallFix p m c cc nL s args lw_g own) (hK : va_K D vwCl (tysG Z) s) (hT : TS vwCl D ws A H0 H locs) (harr : Cond.arrayClass .long ∈ lw_g) (hn : ¬ n < 0) (hN : n.toNatClampNeg = N) (hb : N ≤ 100000) (hcells : cells + 1 ≤ R.cells) (hslots : slots + N ≤ R.slots) (hdg : decode cc pc = .ok (.newarray .long, 2))
    (kk : ∀ (q : Nat) (H1 : Heap), TS vwCl D (ws ++ [(q, .inl (Z 1, N, .inr (.inl (fun _ => 0))))]) A H0 H1 locs → W p l e R s m args below meth c H1 locs (cells + 1) (slots + N) Q (F0 m (pc + 2) ls (.ref q :: rest))) : W p l e R s m args below meth c H locs cells slots Q (F0 m pc ls (.int n :: rest)) := by
  refine va_newa (atype := .long) (ty := .long) (N' := N) (a0 := (N, .inr (.inl (fun _ => 0)))) hC.1 hC.2.1 (hC.2.2.2.2 _ harr) rfl hK hT.1 hT.2.1 hT.2.2.1 hT.2.2.2 (fun cA => rfl) hn hN (by show N * 8 ≤ 536870912; omega) hcells hslots hdg (fun q cA H1 hK1 hP1 hD1 hS1 => ?_)
  have hc : cA = Z 1 := ty_same hK1 (i := 5) (j := 1) (ty := .long) rfl rfl (fun C h => by cases h)
  subst hc
  exact kk q H1 ⟨hP1, hD1, hS1, hT.2.2.2⟩
theorem w_newB (hC : CallFix p m c cc nL s args lw_g own) (hK : va_K D vwCl (tysG Z) s) (hT : TS vwCl D ws A H0 H locs) (harr : Cond.arrayClass .byte ∈ lw_g) (hn : ¬ n < 0) (hN : n.toNatClampNeg = N) (hb : N ≤ 100000) (hcells : cells + 1 ≤ R.cells) (hslots : slots + N ≤ R.slots) (hdg : decode cc pc = .ok (.newarray .byte, 2))
    (kk : ∀ (q : Nat) (H1 : Heap), TS vwCl D (ws ++ [(q, .inl (Z 2, N, .inl (fun _ => 0)))]) A H0 H1 locs → W p l e R s m args below meth c H1 locs (cells + 1) (slots + N) Q (F0 m (pc + 2) ls (.ref q :: rest))) : W p l e R s m args below meth c H locs cells slots Q (F0 m pc ls (.int n :: rest)) := by
  refine va_newa (atype := .byte) (ty := .byte) (N' := N) (a0 := (N, .inl (fun _ => 0))) hC.1 hC.2.1 (hC.2.2.2.2 _ harr) rfl hK hT.1 hT.2.1 hT.2.2.1 hT.2.2.2 (fun cA => rfl) hn hN (by show N * 1 ≤ 536870912; omega) hcells hslots hdg (fun q cA H1 hK1 hP1 hD1 hS1 => ?_)
  have hc : cA = Z 2 := ty_same hK1 (i := 5) (j := 2) (ty := .byte) rfl rfl (fun C h => by cases h)
  subst hc
  exact kk q H1 ⟨hP1, hD1, hS1, hT.2.2.2⟩
theorem w_newO {C : String} {T : u_T} {ci : Nat} {ty0 : Nat → FieldType} {fs : List Value} (hC : CallFix p m c cc nL s args lw_g own) (hK : va_K D vwCl (tysG Z) s) (hT : TS vwCl D ws A H0 H locs) (hin : ∀ w ∈ u_ws C T N, w ∈ lw_g) (hty : ∀ k, k < N → parseFieldDescriptor (T k).2.2.1 = some (ty0 k)) (hcl : Cond.classLink own index C ∈ lw_g) (hinst : Cond.instantiable C N ∈ lw_g) (hini : Cond.initialized C ∈ lw_g) (hc : vwCl[ci]? = some (C, T, N)) (hfs : ∀ j, j < N → defaultValue (ty0 j) = vp_V fs j) (hcells : cells + 1 ≤ R.cells) (hslots : slots + N ≤ R.slots) (hdg : decode cc pc = .ok (.new index, 3))
    (kk : ∀ (q : Nat) (H1 : Heap), TS vwCl D (ws ++ [(q, .inr (ci, fs))]) A H0 H1 locs → W p l e R s m args below meth c H1 locs (cells + 1) (slots + N) Q (F0 m (pc + 3) ls (.ref q :: rest))) : W p l e R s m args below meth c H locs cells slots Q (F0 m pc ls rest) :=
  va_new hC.1 hC.2.1 hC.2.2.2.2 hin ty0 hty hC.2.2.2.1 (hC.2.2.2.2 _ hcl) (hC.2.2.2.2 _ hinst) (hC.2.2.2.2 _ hini) hK hT.1 hT.2.1 hT.2.2.1 hT.2.2.2 hc hfs hcells hslots hdg (fun q H1 hP hD hS => kk q H1 ⟨hP, hD, hS, hT.2.2.2⟩)
theorem w_putF {C : String} {T : u_T} {ci q0 k : Nat} {fs : List Value} {v : Value} {ty0 : Nat → FieldType} {ty : FieldType} (hC : CallFix p m c cc nL s args lw_g own) (hK : va_K D vwCl (tysG Z) s) (hnm0 : meth.name = "<init>") (hT : TS vwCl D ws A H0 H locs) (hin : ∀ w ∈ u_ws C T N, w ∈ lw_g) (hty : ∀ k, k < N → parseFieldDescriptor (T k).2.2.1 = some (ty0 k)) (hnm : ∀ a, a < N → ∀ b, b < N → a ≠ b → (T a).2.1 ≠ (T b).2.1) (hc : vwCl[ci]? = some (C, T, N)) (he : ws[q0]? = some (a, .inr (ci, fs))) (hk : k < N) (h1 : (T k).1 = C) (hown : C = own) (hfin : (T k).2.2.2 = true)
    (hd : ty0 k = ty) (hn : narrow ty v = v) (hfit : fits ty v = true) (hlen : k < fs.length) (hset : ws.set q0 (a, .inr (ci, fs.set k v)) = ws')
    (hl : Cond.fieldLink own index C (T k).2.1 (T k).2.2.1 ∈ lw_g) (hdg : decode cc pc = .ok (.putfield index, 3))
    (kk : ∀ (H1 : Heap) (locs1 : List Loc), TS vwCl D ws' A H0 H1 locs1 → W p l e R s m args below meth c H1 locs1 cells slots Q (F0 m (pc + 3) ls rest)) : W p l e R s m args below meth c H locs cells slots Q (F0 m pc ls (v :: .ref a :: rest)) :=
  va_putF hC.1 hC.2.1 hC.2.2.2.2 hin ty0 hty hnm hC.2.2.2.1 hK hT.1 hT.2.1 hT.2.2.1 q0 he hc k hk (hC.2.2.2.2 _ hl) (fun _ h => by rw [h1] at h; exact h) hfin hnm0 (h1.trans hown) ((hty k hk).trans (by rw [hd])) hn hfit hlen hdg (fun H1 locs1 hP hD hS => kk H1 locs1 ⟨hset ▸ hP, hset ▸ hD, hS, hT.2.2.2⟩)
theorem w_objInit {rn mcR msR : Nat} (hC : CallFix p m c cc nL s args lw_g own) (hl : Cond.methodLink own index objectInit ∈ lw_g) (hi : Cond.instanceMethod objectInit ∈ lw_g) (hcode : Cond.code objectInit ⟨#[0xb1]⟩ 1 none ∈ lw_g) (hsize : ls.size = nL) (hlt : 0 < rn) (hW : (rest.map fun v => v.category).sum ≤ 8) (hdg : decode cc pc = .ok (.invokespecial index, 3))
    (kk : W p l e (rk rn mcR msR) s m args below meth c H locs cells slots Q (F0 m (pc + 3) ls rest)) : W p l e (rk rn mcR msR) s m args below meth c H locs cells slots Q (F0 m pc ls (.ref a :: rest)) := by
  have hts := hC.2.2.2.2
  refine W.objInit hC.1 hC.2.1 hC.2.2.2.1 (hts _ hl) (hts _ hi) (hts _ hcode) rfl (hsize.trans hC.2.2.1.symm) rfl hdg (by show 1 ≤ rn; omega) (by show 2 * 0 + _ + 12 ≤ 40 * rn; omega) ?_
  exact kk
/-- behind a constructor's call: the rest of the world, and what it made -/
theorem rwi_go {mc ms : Nat} {S : Type} {wsF : S → va_W} {u0 : S} {K : S → Prop} {wr : va_W} {isC isR : List Nat} {av : Array Value} (hr : va_Run p l e R s m args below meth c H locs cells slots mc ms (F0 m pc ls st0) rest (poV vwCl D Z wsF u0 H.size K av) (va_A (wsF u0) H.size))
    (hT : TS vwCl D ws A H0 H locs) (h1 : isC.map (fun i => ws[i]?) = (wsF u0).map some) (h2 : isR.map (fun i => ws[i]?) = wr.map some) (h3 : va_nd isR = true) (h4 : ∀ i ∈ isR, i ∉ isC)
    (kk : ∀ (u : S) (H1 : Heap) (locs1 : List Loc), K u → TS vwCl D (wr ++ wsF u) A H0 H1 locs1 → W p l e R s m args below meth c H1 locs1 (cells + mc) (slots + ms) Q (F0 m (pc + 3) ls rest)) : W p l e R s m args below meth c H locs cells slots Q (F0 m pc ls st0) := by
  have hF := va_free hT.2.1 hT.2.2.1 hT.2.2.2 isC h1
  refine va_callv hr hT.2.2.1 (fun q _ h => hF q h) hF (fun u t H1 locs1 ht hvm hk hB hz1 hk1 hS1 => ?_)
  obtain ⟨hP1, hD1, _⟩ := hB
  rw [ht] at hP1
  obtain ⟨hP2, hD2⟩ := va_join hT.1 hT.2.1 isC isR h1 h2 h3 h4 hk1 hF hP1 hD1
  exact kk u H1 locs1 hk ⟨hP2, hD2, hS1, hT.2.2.2⟩
end MAKE
