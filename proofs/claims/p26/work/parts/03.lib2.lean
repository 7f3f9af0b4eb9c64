/-! ===== rows over a world in one list ===== -/
abbrev M2 : Type := Nat → Nat → Int32
abbrev L2 : Type := Nat → Nat → Int64
def up2 (F : M2) (k : Nat) (g : Nat → Int32) : M2 := fun j => if j = k then g else F j
def ul2 (F : L2) (k : Nat) (g : Nat → Int64) : L2 := fun j => if j = k then g else F j
abbrev inb (i : Int32) (n : Nat) : Prop := 0 ≤ i.toInt ∧ i.toInt < (n : Int)
def atv (f : Nat → Int32) (n : Nat) (i : Int32) : Int32 := if inb i n then f i.toInt.toNat else 0
def putv (f : Nat → Int32) (n : Nat) (i x : Int32) : Nat → Int32 := if inb i n then upd f i.toInt.toNat x else f
def atl (f : Nat → Int64) (n : Nat) (i : Int32) : Int64 := if inb i n then f i.toInt.toNat else 0
def putl (f : Nat → Int64) (n : Nat) (i : Int32) (x : Int64) : Nat → Int64 := if inb i n then vp_updL f i.toInt.toNat x else f
theorem inb_in {i : Int32} {n : Nat} : vp_in i n ↔ inb i n := vp_in_iff
theorem tnc (i : Int32) : i.toNatClampNeg = i.toInt.toNat := rfl
theorem i0_lt {i : Int32} : i < 0 ↔ i.toInt < 0 := by rw [Int32.lt_iff_toInt_lt]; rfl
theorem ofN_le {n : Nat} (hn : n < 2 ^ 31) {i : Int32} : Int32.ofNat n ≤ i ↔ (n : Int) ≤ i.toInt := by
  rw [Int32.le_iff_toInt_le, show (Int32.ofNat n).toInt = (n : Int) from nI_toInt hn]
theorem atv_in {f : Nat → Int32} {n : Nat} {i : Int32} (h : inb i n) : atv f n i = f i.toInt.toNat := if_pos h
theorem atv_out {f : Nat → Int32} {n : Nat} {i : Int32} (h : ¬ inb i n) : atv f n i = 0 := if_neg h
theorem atl_in {f : Nat → Int64} {n : Nat} {i : Int32} (h : inb i n) : atl f n i = f i.toInt.toNat := if_pos h
theorem atl_out {f : Nat → Int64} {n : Nat} {i : Int32} (h : ¬ inb i n) : atl f n i = 0 := if_neg h
theorem putv_in {f : Nat → Int32} {n : Nat} {i x : Int32} (h : inb i n) : putv f n i x = upd f i.toInt.toNat x := if_pos h
theorem putv_out {f : Nat → Int32} {n : Nat} {i x : Int32} (h : ¬ inb i n) : putv f n i x = f := if_neg h
theorem putl_in {f : Nat → Int64} {n : Nat} {i : Int32} {x : Int64} (h : inb i n) : putl f n i x = vp_updL f i.toInt.toNat x := if_pos h
theorem putl_out {f : Nat → Int64} {n : Nat} {i : Int32} {x : Int64} (h : ¬ inb i n) : putl f n i x = f := if_neg h
theorem inb_neg {i : Int32} {n : Nat} (h : i < 0) : ¬ inb i n := fun q => absurd (i0_lt.mp h) (by omega)
theorem inb_big {i : Int32} {n : Nat} (hn : n < 2 ^ 31) (h : Int32.ofNat n ≤ i) : ¬ inb i n := fun q => absurd ((ofN_le hn).mp h) (by omega)
theorem inb_mk {i : Int32} {n : Nat} (hn : n < 2 ^ 31) (h : ¬ i < 0) (h2 : ¬ Int32.ofNat n ≤ i) : inb i n := ⟨by have := mt i0_lt.mpr h; omega, by have := mt (ofN_le hn).mpr h2; omega⟩
theorem fi_of {ws : List Cond} (ps : List Nat) (hp : ws = ps.filterMap (fun i => lw_tbl[i]?)) (h : ws.all goodWord = true) : ∀ w ∈ ws, w ∈ lw_g := by
  intro w hw
  have h1 := List.all_eq_true.mp h w hw
  rw [hp] at hw
  obtain ⟨i, -, hi⟩ := List.mem_filterMap.mp hw
  exact lw_g_mem hi h1
section ROWS
variable {p : Program} {l : Launch} {e : Env} {s : State} {m : MethodId} {args : Array Value} {below : List Frame} {meth : Method} {c : Code} {H H0 : Heap} {locs : List Loc} {cells slots : Nat} {Q : State → Prop} {R : Room}
variable {pc : Nat} {ls : Array Slot} {rest : List Value} {A : Nat → Prop} {cl : List vw_C} {D : va_G} {Z : Nat → ClassId} {ws ws' : va_W}
variable {cc : ByteArray} {nL index : Nat} {own host : String} {a : Nat}
theorem w_get {C : String} {T : u_T} {N ci q0 k : Nat} {fs : List Value} {v : Value} (hC : CallFix p m c cc nL s args lw_g own) (hK : va_K D cl (tysG Z) s) (hP : va_P D cl ws H) (hin : ∀ w ∈ u_ws C T N, w ∈ lw_g) (hc : cl[ci]? = some (C, T, N)) (he : ws[q0]? = some (a, .inr (ci, fs))) (hv : fs[k]? = some v) (hk : k < N) (h1 : (T k).1 = C)
    (hl : Cond.fieldLink own index C (T k).2.1 (T k).2.2.1 ∈ lw_g) (hdg : decode cc pc = .ok (.getfield index, 3))
    (kk : W p l e R s m args below meth c H locs cells slots Q (F0 m (pc + 3) ls (v :: rest))) : W p l e R s m args below meth c H locs cells slots Q (F0 m pc ls (.ref a :: rest)) :=
  va_get hC.1 hC.2.1 hC.2.2.2.2 hin hC.2.2.2.1 hK hP q0 he hc k hk (hC.2.2.2.2 _ hl) (fun _ h => by rw [h1] at h; exact h) hv hdg kk
theorem w_getN {C : String} {T : u_T} {N ci q0 k : Nat} {fs : List Value} {v : Value} (hC : CallFix p m c cc nL s args lw_g own) (hN : NW s) (hK : va_K D cl (tysG Z) s) (hP : va_P D cl ws H) (hin : ∀ w ∈ u_ws C T N, w ∈ lw_g) (hc : cl[ci]? = some (C, T, N)) (he : ws[q0]? = some (a, .inr (ci, fs))) (hv : fs[k]? = some v) (hk : k < N) (h1 : (T k).1 = C)
    (hl : Cond.fieldLinkNest own index C (T k).2.1 (T k).2.2.1 host ∈ lw_n) (hdg : decode cc pc = .ok (.getfield index, 3))
    (kk : W p l e R s m args below meth c H locs cells slots Q (F0 m (pc + 3) ls (v :: rest))) : W p l e R s m args below meth c H locs cells slots Q (F0 m pc ls (.ref a :: rest)) :=
  va_getN hC.1 hC.2.1 hC.2.2.2.2 hin hC.2.2.2.1 hK hP q0 he hc k hk (va_Nw.use rfl (hN _ hl)) (fun _ h => by rw [h1] at h; exact h) hv hdg kk
theorem w_put {C : String} {T : u_T} {N ci q0 k : Nat} {fs : List Value} {v : Value} {ty0 : Nat → FieldType} {ty : FieldType} (hC : CallFix p m c cc nL s args lw_g own) (hK : va_K D cl (tysG Z) s) (hT : TS cl D ws A H0 H locs) (hin : ∀ w ∈ u_ws C T N, w ∈ lw_g) (hty : ∀ k, k < N → parseFieldDescriptor (T k).2.2.1 = some (ty0 k)) (hnm : ∀ a, a < N → ∀ b, b < N → a ≠ b → (T a).2.1 ≠ (T b).2.1) (hc : cl[ci]? = some (C, T, N)) (he : ws[q0]? = some (a, .inr (ci, fs))) (hk : k < N) (h1 : (T k).1 = C) (hfin : (T k).2.2.2 = false)
    (hd : ty0 k = ty) (hn : narrow ty v = v) (hfit : fits ty v = true) (hlen : k < fs.length) (hset : ws.set q0 (a, .inr (ci, fs.set k v)) = ws')
    (hl : Cond.fieldLink own index C (T k).2.1 (T k).2.2.1 ∈ lw_g) (hdg : decode cc pc = .ok (.putfield index, 3))
    (kk : ∀ (H1 : Heap) (locs1 : List Loc), TS cl D ws' A H0 H1 locs1 → W p l e R s m args below meth c H1 locs1 cells slots Q (F0 m (pc + 3) ls rest)) : W p l e R s m args below meth c H locs cells slots Q (F0 m pc ls (v :: .ref a :: rest)) :=
  va_put hC.1 hC.2.1 hC.2.2.2.2 hin ty0 hty hnm hC.2.2.2.1 hK hT.1 hT.2.1 hT.2.2.1 q0 he hc k hk (hC.2.2.2.2 _ hl) (fun _ h => by rw [h1] at h; exact h) hfin ((hty k hk).trans (by rw [hd])) hn hfit hlen hdg (fun H1 locs1 hP hD hS => kk H1 locs1 ⟨hset ▸ hP, hset ▸ hD, hS, hT.2.2.2⟩)
theorem w_putN {C : String} {T : u_T} {N ci q0 k : Nat} {fs : List Value} {v : Value} {ty0 : Nat → FieldType} {ty : FieldType} (hC : CallFix p m c cc nL s args lw_g own) (hN : NW s) (hK : va_K D cl (tysG Z) s) (hT : TS cl D ws A H0 H locs) (hin : ∀ w ∈ u_ws C T N, w ∈ lw_g) (hty : ∀ k, k < N → parseFieldDescriptor (T k).2.2.1 = some (ty0 k)) (hnm : ∀ a, a < N → ∀ b, b < N → a ≠ b → (T a).2.1 ≠ (T b).2.1) (hc : cl[ci]? = some (C, T, N)) (he : ws[q0]? = some (a, .inr (ci, fs))) (hk : k < N) (h1 : (T k).1 = C) (hfin : (T k).2.2.2 = false)
    (hd : ty0 k = ty) (hn : narrow ty v = v) (hfit : fits ty v = true) (hlen : k < fs.length) (hset : ws.set q0 (a, .inr (ci, fs.set k v)) = ws')
    (hl : Cond.fieldLinkNest own index C (T k).2.1 (T k).2.2.1 host ∈ lw_n) (hdg : decode cc pc = .ok (.putfield index, 3))
    (kk : ∀ (H1 : Heap) (locs1 : List Loc), TS cl D ws' A H0 H1 locs1 → W p l e R s m args below meth c H1 locs1 cells slots Q (F0 m (pc + 3) ls rest)) : W p l e R s m args below meth c H locs cells slots Q (F0 m pc ls (v :: .ref a :: rest)) :=
  va_putN hC.1 hC.2.1 hC.2.2.2.2 hin ty0 hty hnm hC.2.2.2.1 hK hT.1 hT.2.1 hT.2.2.1 q0 he hc k hk (va_Nw.use rfl (hN _ hl)) (fun _ h => by rw [h1] at h; exact h) hfin ((hty k hk).trans (by rw [hd])) hn hfit hlen hdg (fun H1 locs1 hP hD hS => kk H1 locs1 ⟨hset ▸ hP, hset ▸ hD, hS, hT.2.2.2⟩)
theorem w_iald {q0 n : Nat} {f : Nat → Int32} {i : Int32} (hC : CallFix p m c cc nL s args lw_g own) (hK : va_K D cl (tysG Z) s) (hP : va_P D cl ws H) (ha : ws[q0]? = some (a, .inl (Z 0, n, .inl f))) (hi : inb i n) (hdg : decode cc pc = .ok (.iaload, 1))
    (kk : W p l e R s m args below meth c H locs cells slots Q (F0 m (pc + 1) ls (.int (f i.toInt.toNat) :: rest))) : W p l e R s m args below meth c H locs cells slots Q (F0 m pc ls (.int i :: .ref a :: rest)) :=
  va_iald hC.1 hC.2.1 hK hP q0 0 ha rfl (inb_in.mpr hi) hdg kk
theorem w_bald {q0 n : Nat} {f : Nat → Int32} {i : Int32} (hC : CallFix p m c cc nL s args lw_g own) (hK : va_K D cl (tysG Z) s) (hP : va_P D cl ws H) (ha : ws[q0]? = some (a, .inl (Z 2, n, .inl f))) (hi : inb i n) (hdg : decode cc pc = .ok (.baload, 1))
    (kk : W p l e R s m args below meth c H locs cells slots Q (F0 m (pc + 1) ls (.int (f i.toInt.toNat) :: rest))) : W p l e R s m args below meth c H locs cells slots Q (F0 m pc ls (.int i :: .ref a :: rest)) :=
  va_bald hC.1 hC.2.1 hK hP q0 2 ha rfl (inb_in.mpr hi) hdg kk
theorem w_lald {q0 n : Nat} {f : Nat → Int64} {i : Int32} (hC : CallFix p m c cc nL s args lw_g own) (hK : va_K D cl (tysG Z) s) (hP : va_P D cl ws H) (ha : ws[q0]? = some (a, .inl (Z 1, n, .inr (.inl f)))) (hi : inb i n) (hdg : decode cc pc = .ok (.laload, 1))
    (kk : W p l e R s m args below meth c H locs cells slots Q (F0 m (pc + 1) ls (.long (f i.toInt.toNat) :: rest))) : W p l e R s m args below meth c H locs cells slots Q (F0 m pc ls (.int i :: .ref a :: rest)) :=
  va_lald hC.1 hC.2.1 hK hP q0 1 ha rfl (inb_in.mpr hi) hdg kk
theorem w_iast {q0 n : Nat} {f : Nat → Int32} {i x : Int32} (hC : CallFix p m c cc nL s args lw_g own) (hK : va_K D cl (tysG Z) s) (hT : TS cl D ws A H0 H locs) (ha : ws[q0]? = some (a, .inl (Z 0, n, .inl f))) (hi : inb i n) (hset : ws.set q0 (a, .inl (Z 0, n, .inl (upd f i.toInt.toNat x))) = ws') (hdg : decode cc pc = .ok (.iastore, 1))
    (kk : ∀ (H1 : Heap) (locs1 : List Loc), TS cl D ws' A H0 H1 locs1 → W p l e R s m args below meth c H1 locs1 cells slots Q (F0 m (pc + 1) ls rest)) : W p l e R s m args below meth c H locs cells slots Q (F0 m pc ls (.int x :: .int i :: .ref a :: rest)) :=
  va_iast hC.1 hC.2.1 hK hT.1 hT.2.1 hT.2.2.1 q0 0 ha rfl (inb_in.mpr hi) hdg (fun H1 locs1 hP hD hS => kk H1 locs1 ⟨hset ▸ hP, hset ▸ hD, hS, hT.2.2.2⟩)
theorem w_bast {q0 n : Nat} {f : Nat → Int32} {i x : Int32} (hC : CallFix p m c cc nL s args lw_g own) (hK : va_K D cl (tysG Z) s) (hT : TS cl D ws A H0 H locs) (ha : ws[q0]? = some (a, .inl (Z 2, n, .inl f))) (hi : inb i n) (hset : ws.set q0 (a, .inl (Z 2, n, .inl (upd f i.toInt.toNat (x.toInt8.toInt32)))) = ws') (hdg : decode cc pc = .ok (.bastore, 1))
    (kk : ∀ (H1 : Heap) (locs1 : List Loc), TS cl D ws' A H0 H1 locs1 → W p l e R s m args below meth c H1 locs1 cells slots Q (F0 m (pc + 1) ls rest)) : W p l e R s m args below meth c H locs cells slots Q (F0 m pc ls (.int x :: .int i :: .ref a :: rest)) :=
  va_bast hC.1 hC.2.1 hK hT.1 hT.2.1 hT.2.2.1 q0 2 ha rfl (inb_in.mpr hi) hdg (fun H1 locs1 hP hD hS => kk H1 locs1 ⟨hset ▸ hP, hset ▸ hD, hS, hT.2.2.2⟩)
theorem w_last {q0 n : Nat} {f : Nat → Int64} {i : Int32} {x : Int64} (hC : CallFix p m c cc nL s args lw_g own) (hK : va_K D cl (tysG Z) s) (hT : TS cl D ws A H0 H locs) (ha : ws[q0]? = some (a, .inl (Z 1, n, .inr (.inl f)))) (hi : inb i n) (hset : ws.set q0 (a, .inl (Z 1, n, .inr (.inl (vp_updL f i.toInt.toNat x)))) = ws') (hdg : decode cc pc = .ok (.lastore, 1))
    (kk : ∀ (H1 : Heap) (locs1 : List Loc), TS cl D ws' A H0 H1 locs1 → W p l e R s m args below meth c H1 locs1 cells slots Q (F0 m (pc + 1) ls rest)) : W p l e R s m args below meth c H locs cells slots Q (F0 m pc ls (.long x :: .int i :: .ref a :: rest)) :=
  va_last hC.1 hC.2.1 hK hT.1 hT.2.1 hT.2.2.1 q0 1 ha rfl (inb_in.mpr hi) hdg (fun H1 locs1 hP hD hS => kk H1 locs1 ⟨hset ▸ hP, hset ▸ hD, hS, hT.2.2.2⟩)
theorem w_alen {q0 n t0 : Nat} {x : ((Nat → Int32) ⊕ (Nat → Int64) ⊕ (Nat → UInt32) ⊕ (Nat → UInt64) ⊕ (Nat → Option Nat))} {cA : ClassId} {ty : FieldType} (hC : CallFix p m c cc nL s args lw_g own) (hK : va_K D cl (tysG Z) s) (hP : va_P D cl ws H) (ha : ws[q0]? = some (a, .inl (cA, n, x))) (ht : (tysG Z)[t0]? = some (cA, ty)) (hdg : decode cc pc = .ok (.arraylength, 1))
    (kk : W p l e R s m args below meth c H locs cells slots Q (F0 m (pc + 1) ls (.int (Int32.ofNat n) :: rest))) : W p l e R s m args below meth c H locs cells slots Q (F0 m pc ls (.ref a :: rest)) :=
  va_alen hC.1 hC.2.1 hK hP q0 t0 ha ht rfl hdg kk
/-- a table switch: a value of the table, said as a number; all others -/
theorem w_swi {dflt lo hi off : Int} {offs : Array Int} {len tgt : Nat} {x : Int32} (k : Int32) (hexec : p.tables.exec = Jvm.exec) (hb : c.code = cc) (hdg : decode cc pc = .ok (.tableswitch dflt lo hi offs, len)) (hx : x = k) (h1 : ¬ k.toInt < lo) (h2 : ¬ hi < k.toInt) (ho : offs[(k.toInt - lo).toNat]? = some off) (ht : (pc : Int) + off = (tgt : Int))
    (kk : W p l e R s m args below meth c H locs cells slots Q (F0 m tgt ls rest)) : W p l e R s m args below meth c H locs cells slots Q (F0 m pc ls (.int x :: rest)) := by
  subst hx
  exact lv_tableIn hexec hb hdg h1 h2 ho ht kk
def swOk (dflt lo : Int) (L : List Int) : Nat → List Int → Bool
  | _, [] => true
  | j, o :: os => (o == dflt || L.contains (lo + j)) && swOk dflt lo L (j + 1) os
theorem swOk_at {dflt lo : Int} {L : List Int} : ∀ {os : List Int} {j i : Nat} {o : Int}, swOk dflt lo L j os = true → os[i]? = some o → o = dflt ∨ (lo + ((j + i : Nat) : Int)) ∈ L
  | [], _, _, _, _, h => by simp at h
  | o1 :: os, j, 0, o, h, hi => by
    simp only [List.getElem?_cons_zero, Option.some.injEq] at hi
    subst hi
    simp only [swOk, Bool.and_eq_true, Bool.or_eq_true, beq_iff_eq, List.contains_iff_mem] at h
    simpa using h.1
  | o1 :: os, j, i + 1, o, h, hi => by
    simp only [swOk, Bool.and_eq_true] at h
    rw [List.getElem?_cons_succ] at hi
    have := swOk_at h.2 hi
    rwa [show j + 1 + i = j + (i + 1) by omega] at this
theorem w_swd {dflt lo hi : Int} {offs : Array Int} {len tgt : Nat} {x : Int32} (L : List Int) (hexec : p.tables.exec = Jvm.exec) (hb : c.code = cc) (hdg : decode cc pc = .ok (.tableswitch dflt lo hi offs, len)) (hL : swOk dflt lo L 0 offs.toList = true) (hsz : (hi - lo + 1).toNat ≤ offs.size) (hx : ∀ k ∈ L, ¬ x.toInt = k) (ht : (pc : Int) + dflt = (tgt : Int))
    (kk : W p l e R s m args below meth c H locs cells slots Q (F0 m tgt ls rest)) : W p l e R s m args below meth c H locs cells slots Q (F0 m pc ls (.int x :: rest)) := by
  by_cases h : x.toInt < lo ∨ hi < x.toInt
  · exact lv_tableOut hexec hb hdg h ht kk
  · have h1 : ¬ x.toInt < lo := fun q => h (Or.inl q)
    have h2 : ¬ hi < x.toInt := fun q => h (Or.inr q)
    have hj : (x.toInt - lo).toNat < offs.size := by omega
    have ho : offs[(x.toInt - lo).toNat]? = some offs[(x.toInt - lo).toNat] := Array.getElem?_eq_getElem hj
    have ho2 : offs.toList[(x.toInt - lo).toNat]? = some offs[(x.toInt - lo).toNat] := by rw [Array.getElem?_toList]; exact ho
    rcases swOk_at hL ho2 with q | q
    · refine lv_tableIn hexec hb hdg h1 h2 ho (tgt := tgt) ?_ kk
      rw [q]; exact ht
    · exact absurd (by omega) (hx _ q)
theorem eq_toInt {x k : Int32} (h : ¬ x = k) : ¬ x.toInt = k.toInt := fun q => h (Int32.toInt_inj.mp q)
end ROWS
