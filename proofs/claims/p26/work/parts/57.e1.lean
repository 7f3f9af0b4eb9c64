theorem wq_919 : Cond.classLink RX5 46 "java/lang/IllegalStateException" ∈ lw_g := lw_g_mk (tb_4 (List.mem_of_getElem? (i := 135) rfl)) rfl
theorem wq_88 : Cond.initialized "java/lang/IllegalStateException" ∈ lw_g := lw_g_mk (tb_1 (List.mem_of_getElem? (i := 24) rfl)) rfl
theorem wq_712 : Cond.classLink RX5 57 "java/lang/IllegalArgumentException" ∈ lw_g := lw_g_mk (tb_3 (List.mem_of_getElem? (i := 168) rfl)) rfl
theorem wq_87 : Cond.initialized "java/lang/IllegalArgumentException" ∈ lw_g := lw_g_mk (tb_1 (List.mem_of_getElem? (i := 23) rfl)) rfl
theorem wq_530 : Cond.classLink RX5 109 "java/lang/IndexOutOfBoundsException" ∈ lw_g := lw_g_mk (tb_2 (List.mem_of_getElem? (i := 226) rfl)) rfl
theorem wq_89 : Cond.initialized "java/lang/IndexOutOfBoundsException" ∈ lw_g := lw_g_mk (tb_1 (List.mem_of_getElem? (i := 25) rfl)) rfl
theorem wq_603 : Cond.code yX5_needOneOf cX5_needOneOf 2 none ∈ lw_g := lw_g_mk (tb_3 (List.mem_of_getElem? (i := 59) rfl)) rfl
theorem wq_711 : Cond.code yX5_needMinutes cX5_needMinutes 1 none ∈ lw_g := lw_g_mk (tb_3 (List.mem_of_getElem? (i := 167) rfl)) rfl
theorem wq_602 : Cond.static yX5_needOneOf ∈ lw_g := lw_g_mk (tb_3 (List.mem_of_getElem? (i := 58) rfl)) rfl
theorem wq_710 : Cond.static yX5_needMinutes ∈ lw_g := lw_g_mk (tb_3 (List.mem_of_getElem? (i := 166) rfl)) rfl
theorem dX5_needOneOf_0 : decode cX5_needOneOf 0 = .ok (.iload_n 0, 1) := by decide +kernel
theorem dX5_needOneOf_1 : decode cX5_needOneOf 1 = .ok (.ifCond .lt 8, 3) := by decide +kernel
theorem dX5_needOneOf_4 : decode cX5_needOneOf 4 = .ok (.iload_n 0, 1) := by decide +kernel
theorem dX5_needOneOf_5 : decode cX5_needOneOf 5 = .ok (.iload_n 1, 1) := by decide +kernel
theorem dX5_needOneOf_6 : decode cX5_needOneOf 6 = .ok (.if_icmp .lt 13, 3) := by decide +kernel
theorem dX5_needOneOf_9 : decode cX5_needOneOf 9 = .ok (.new 109, 3) := by decide +kernel
theorem dX5_needOneOf_12 : decode cX5_needOneOf 12 = .ok (.dup, 1) := by decide +kernel
theorem dX5_needOneOf_13 : decode cX5_needOneOf 13 = .ok (.ldc 255, 2) := by decide +kernel
theorem dX5_needOneOf_15 : decode cX5_needOneOf 15 = .ok (.invokespecial 113, 3) := by decide +kernel
theorem dX5_needOneOf_18 : decode cX5_needOneOf 18 = .ok (.athrow, 1) := by decide +kernel
theorem dX5_needOneOf_19 : decode cX5_needOneOf 19 = .ok (.return_, 1) := by decide +kernel
theorem dX5_needMinutes_0 : decode cX5_needMinutes 0 = .ok (.iload_n 0, 1) := by decide +kernel
theorem dX5_needMinutes_1 : decode cX5_needMinutes 1 = .ok (.iconst 1, 1) := by decide +kernel
theorem dX5_needMinutes_2 : decode cX5_needMinutes 2 = .ok (.if_icmp .lt 9, 3) := by decide +kernel
theorem dX5_needMinutes_5 : decode cX5_needMinutes 5 = .ok (.iload_n 0, 1) := by decide +kernel
theorem dX5_needMinutes_6 : decode cX5_needMinutes 6 = .ok (.bipush 120, 2) := by decide +kernel
theorem dX5_needMinutes_8 : decode cX5_needMinutes 8 = .ok (.if_icmp .le 14, 3) := by decide +kernel
theorem dX5_needMinutes_11 : decode cX5_needMinutes 11 = .ok (.new 57, 3) := by decide +kernel
theorem dX5_needMinutes_14 : decode cX5_needMinutes 14 = .ok (.dup, 1) := by decide +kernel
theorem dX5_needMinutes_15 : decode cX5_needMinutes 15 = .ok (.ldc_w 257, 3) := by decide +kernel
theorem dX5_needMinutes_18 : decode cX5_needMinutes 18 = .ok (.invokespecial 61, 3) := by decide +kernel
theorem dX5_needMinutes_21 : decode cX5_needMinutes 21 = .ok (.athrow, 1) := by decide +kernel
theorem dX5_needMinutes_22 : decode cX5_needMinutes 22 = .ok (.return_, 1) := by decide +kernel
theorem mi_X5_needOneOf : MInfo yX5_needOneOf cX5_needOneOf 2 none 2 := ⟨wq_603, wq_78, by decide, ⟨by decide +kernel, by decide +kernel, by decide +kernel⟩, by decide +kernel⟩
theorem mi_X5_needMinutes : MInfo yX5_needMinutes cX5_needMinutes 1 none 1 := ⟨wq_711, wq_78, by decide, ⟨by decide +kernel, by decide +kernel, by decide +kernel⟩, by decide +kernel⟩
def exN (k : Nat) : String := if k = 0 then "java/lang/IllegalStateException" else if k = 1 then "java/lang/IllegalArgumentException" else "java/lang/IndexOutOfBoundsException"
def ikX (k : Nat) : Nat := if k = 0 then 46 else if k = 1 then 57 else 109
def icX (k : Nat) : Nat := if k = 0 then 50 else if k = 1 then 61 else 113
def xNames : List String := ["java/lang/RuntimeException", "java/lang/Exception"]
def XST : List (Nat × String) := [(48, "the tape is full"), (59, "the tape has not so many bytes"), (111, "there is no such count"), (135, "a place does not tell this"), (149, "a bore does not tell this"), (169, "a legger does not tell this"), (192, "a boat does not tell this"), (204, "a turn is that of west or of east"), (210, "a due is 0 to 9999"), (212, "the boat is not out"), (227, "this is not foreseen"), (255, "there is no such one"), (257, "the minutes are 1 to 120")]
def XSat (i : Nat) : Nat × String := XST.getD i (0, "")
theorem xg_0 : ∀ w ∈ Cond.classLink RX5 46 "java/lang/IllegalStateException" :: Cond.initialized "java/lang/IllegalStateException" :: vx_atS RX5 50 "java/lang/IllegalStateException" xNames, vx_ot w = true := by decide +kernel
theorem xg_1 : ∀ w ∈ Cond.classLink RX5 57 "java/lang/IllegalArgumentException" :: Cond.initialized "java/lang/IllegalArgumentException" :: vx_atS RX5 61 "java/lang/IllegalArgumentException" xNames, vx_ot w = true := by decide +kernel
theorem xg_2 : ∀ w ∈ Cond.classLink RX5 109 "java/lang/IndexOutOfBoundsException" :: Cond.initialized "java/lang/IndexOutOfBoundsException" :: vx_atS RX5 113 "java/lang/IndexOutOfBoundsException" xNames, vx_ot w = true := by decide +kernel
/-! ===== riders of throws ===== -/
def isXw : Cond → Bool
  | .declares _ => true
  | .castable _ _ => true
  | _ => false
def lw_x : List Cond := lw_tbl.filter isXw
theorem lw_x_mk {w : Cond} (h : w ∈ lw_tbl) (hg : isXw w = true) : w ∈ lw_x := List.mem_filter.mpr ⟨h, hg⟩
def XW (U : State) : Prop := ∀ w ∈ lw_x, va_Nw w U
theorem XW.warm {s U : State} (hW : s.WarmedH U.vm) (h : XW s) : XW U := by
  intro w hw
  have h1 := (List.mem_filter.mp hw).2
  have h2 := h w hw
  cases w <;> first | exact va_Nw.warmD hW h2 | exact va_Nw.warmC hW h2 | exact absurd h1 (by simp [isXw])
theorem XW.same {s U : State} (hv : s.vm = U.vm) (h : XW s) : XW U := by
  intro w hw
  have h1 := (List.mem_filter.mp hw).2
  have h2 := h w hw
  cases w <;> first | exact va_Nw.same rfl hv h2 | exact absurd h1 (by simp [isXw])
def XNC (_ : State) : Prop := True
theorem XNC.moved {u U : State} (_ : u.vm.Alike U.vm) (_ : XNC u) : XNC U := trivial
def RXD (r : Nat → Nat) (A : Nat → Prop) : R2 := fun U H => RD r A U H ∧ (∀ i < 13, vk_R RX5 (XSat i).1 (XSat i).2 (r (300 + i)) U) ∧ vx_Zq Bundle.tN "UNASSIGNED_STACK" Bundle.steD A U H ∧ vx_Zq Bundle.tN "SUPPRESSED_SENTINEL" Bundle.listD A U H ∧ XW U ∧ XNC U
theorem RXD.kept {r : Nat → Nat} {A : Nat → Prop} {U : State} {H H1 : Heap} (h : RXD r A U H) (hq : ∀ a : Nat, a < H.size → ¬ A a → H1[a]? = H[a]?) : RXD r A U H1 := ⟨h.1.kept hq, h.2.1, h.2.2.1.kept hq, h.2.2.2.1.kept hq, h.2.2.2.2⟩
theorem RXD.narrow {r : Nat → Nat} {A B : Nat → Prop} {U : State} {H : Heap} (h : RXD r A U H) (hAB : ∀ q, B q → A q) : RXD r B U H := ⟨h.1.narrow hAB, h.2.1, h.2.2.1.narrow hAB, h.2.2.2.1.narrow hAB, h.2.2.2.2⟩
theorem RXD.warm {r : Nat → Nat} {A : Nat → Prop} {u U : State} {H : Heap} (hW : u.WarmedH U.vm) (h : RXD r A u H) : RXD r A U H := ⟨h.1.warm hW, fun i hi => (h.2.1 i hi).warm hW, vx_Zq.moved hW.alike h.2.2.1, vx_Zq.moved hW.alike h.2.2.2.1, h.2.2.2.2.1.warm hW, h.2.2.2.2.2.moved hW.alike⟩
theorem RXD.same {r : Nat → Nat} {A : Nat → Prop} {u U : State} {H : Heap} (hv : U.vm = u.vm) (h : RXD r A u H) : RXD r A U H := ⟨h.1.same hv, fun i hi => (h.2.1 i hi).same hv, vx_Zq.moved (hv ▸ Vm.Alike.refl u.vm) h.2.2.1, vx_Zq.moved (hv ▸ Vm.Alike.refl u.vm) h.2.2.2.1, h.2.2.2.2.1.same hv.symm, h.2.2.2.2.2.moved (hv ▸ Vm.Alike.refl u.vm)⟩
theorem fi_of2 {ws : List Cond} (ps : List Nat) (hp : ws = ps.filterMap (fun i => lw_tbl[i]?)) (h : ws.all (fun w => goodWord w || isXw w) = true) : ∀ w ∈ ws, w ∈ lw_g ∨ w ∈ lw_x := by
  intro w hw
  have h1 := List.all_eq_true.mp h w hw
  rw [hp] at hw
  obtain ⟨i, -, hi⟩ := List.mem_filterMap.mp hw
  rcases (Bool.or_eq_true _ _).mp h1 with g | g
  · exact Or.inl (lw_g_mem hi g)
  · exact Or.inr (lw_x_mk (List.mem_of_getElem? hi) g)
theorem XW.use {s : State} (h : XW s) {w : Cond} (hw : w ∈ lw_x) {args : Array Value} : w.before args s = true := by
  have h1 := (List.mem_filter.mp hw).2
  have h2 := h w hw
  cases w <;> first | exact va_Nw.use rfl h2 | exact absurd h1 (by simp [isXw])
theorem xa_0 : ∀ w ∈ vx_atS RX5 50 "java/lang/IllegalStateException" xNames, w ∈ lw_g ∨ w ∈ lw_x := fi_of2 [84, 552, 561, 565, 568, 570, 553, 554, 96, 97, 555, 560, 566, 586, 542, 587, 544, 588, 546, 556, 558, 548, 582, 583, 585, 548, 930, 931, 932, 576, 534, 576, 577, 578, 579, 536, 579, 580, 581, 582, 538, 929, 920, 921, 922, 564, 923, 924, 925, 926, 551, 550, 927] (by decide +kernel) (by decide +kernel)
theorem xa_1 : ∀ w ∈ vx_atS RX5 61 "java/lang/IllegalArgumentException" xNames, w ∈ lw_g ∨ w ∈ lw_x := fi_of2 [84, 552, 561, 565, 568, 570, 553, 554, 96, 97, 555, 560, 566, 586, 542, 587, 544, 588, 546, 556, 558, 548, 582, 583, 585, 548, 723, 724, 725, 576, 534, 576, 577, 578, 579, 536, 579, 580, 581, 582, 538, 722, 713, 714, 715, 563, 716, 717, 718, 719, 551, 550, 720] (by decide +kernel) (by decide +kernel)
theorem xa_2 : ∀ w ∈ vx_atS RX5 113 "java/lang/IndexOutOfBoundsException" xNames, w ∈ lw_g ∨ w ∈ lw_x := fi_of2 [84, 552, 561, 565, 568, 570, 553, 554, 96, 97, 555, 560, 566, 586, 542, 587, 544, 588, 546, 556, 558, 548, 582, 583, 585, 548, 573, 574, 575, 576, 534, 576, 577, 578, 579, 536, 579, 580, 581, 582, 538, 572, 531, 532, 539, 540, 541, 543, 545, 547, 551, 550, 549] (by decide +kernel) (by decide +kernel)
theorem TS.rxd {r : Nat → Nat} {cl : List vw_C} {D : va_G} {ws : va_W} {A : Nat → Prop} {s : State} {H : Heap} {locs : List Loc} (hT : TS cl D ws A s.heap H locs) (hR : RXD r A s s.heap) : RXD r (va_A ws H.size) s H := by
  refine (hR.kept hT.2.2.1.2.1).narrow (fun q hq => ?_)
  rcases hq with ⟨k, e, hk⟩ | hq
  · exact hT.2.1.2 k _ hk
  · exact hT.2.2.2 q (Nat.le_trans hT.2.2.1.1 hq)
theorem RXD.sub {r : Nat → Nat} {ws wc : va_W} {s : State} {H : Heap} {n : Nat} (h : RXD r (va_A ws n) s H) {is : List Nat} (hs : is.map (fun i => ws[i]?) = wc.map some) : RXD r (va_A wc n) s H := by
  refine h.narrow (fun q hq => ?_)
  rcases hq with ⟨k, e, hk⟩ | hq
  · have h1 : (is.map (fun i => ws[i]?))[k]? = some (some (q, e)) := by rw [hs]; simp [hk]
    rw [List.getElem?_map] at h1
    cases h2 : is[k]? with
    | none => rw [h2] at h1; cases h1
    | some i =>
      rw [h2] at h1
      exact Or.inl ⟨i, e, by simpa using h1⟩
  · exact Or.inr hq
def preX (cl : List vw_C) (D : va_G) (Z : Nat → ClassId) (r : Nat → Nat) (ws : va_W) (sz : Nat) (av : List Value) : Array Value → State → Prop := va_Pc av (fun U => U.heap.size = sz ∧ va_P D cl ws U.heap ∧ va_D (fun _ => True) ws ∧ va_K D cl (tysG Z) U ∧ NW U ∧ RXD r (va_A ws sz) U U.heap)
theorem preX.blind {cl : List vw_C} {D : va_G} {Z : Nat → ClassId} {r : Nat → Nat} {ws : va_W} {sz : Nat} {av : List Value} : FrameBlind (preX cl D Z r ws sz av) := by
  intro a U g mk h
  obtain ⟨h1, h2, h3, h4, h5, h6, h7⟩ := h
  exact ⟨h1, h2, h3, h4, va_K.moved (u := U) (U := U.calling g mk a) (Vm.Alike.refl U.vm) h5, NW.same (s := U) (U := U.calling g mk a) rfl h6, RXD.same (u := U) (U := U.calling g mk a) rfl h7⟩
/-- what is thrown: a known class, nothing old written -/
def xcP (KX : Nat → Prop) (sz : Nat) : String → State → State → Prop := vx_X KX (fun E k _ => E = exN k) (fun q => sz ≤ q)
/-- the two ways to a throw's end, in a body that has written nothing yet -/
def XThr (p : Program) (l : Launch) (e : Env) (rn mc ms : Nat) (s : State) (m : MethodId) (args : Array Value) (below : List Frame) (meth : Method) (c : Code) (cc : ByteArray) (nL : Nat) (Q : State → Prop) (KX : Nat → Prop) : Prop :=
  (∀ (k pc : Nat) (ls : Array Slot) (rest : List Value) (ce : Cell) (q9 : Nat) (H1 : Heap) (locs1 : List Loc) (cells slots : Nat), KX k → s.heap.size ≤ H1.size → (∀ q : Nat, q < s.heap.size → H1[q]? = s.heap[q]?) → (∀ z ∈ locs1, s.heap.size ≤ z.base) → H1[q9]? = some ce → ce.vm = .none → s.vm.findClass (exN k) = some ce.cls → cells ≤ mc → slots ≤ ms → vx_W p l e (rk rn mc ms) s m args below meth c H1 locs1 cells slots Q (F0 m pc ls rest) q9) ∧
  (∀ (j k pc : Nat) (ls : Array Slot) (rest : List Value) (cells slots : Nat), j < 13 → KX k → decode cc pc = .ok (.new (ikX k), 3) → decode cc (pc + 3) = .ok (.dup, 1) → decode cc (pc + 4) = .ok (.ldc (XSat j).1, 2) → decode cc (pc + 6) = .ok (.invokespecial (icX k), 3) → decode cc (pc + 9) = .ok (.athrow, 1) → (rest.map fun v => v.category).sum ≤ 8 → ls.size = nL → cells + 1 ≤ mc → slots + 6 ≤ ms → W p l e (rk rn mc ms) s m args below meth c s.heap [] cells slots Q (F0 m pc ls rest))
section OFX
variable {p : Program} {l : Launch} {e : Env} {s : State} {m : MethodId} {args : Array Value} {below : List Frame} {meth : Method} {c : Code}
variable {cc : ByteArray} {nL rn mc ms : Nat} {A : Nat → Prop} {r0 : Nat → Nat}
theorem x_out {Qc : Array Value → State → Outcome → State → Prop} {KX : Nat → Prop} {free : Addr → Prop} (htab : ∀ x ∈ c.exceptionTable.toList, False) (hlocks : meth.locks = false) (hfree : ∀ q : Nat, s.heap.size ≤ q → free q)
    {k pc : Nat} {ls : Array Slot} {rest : List Value} {ce : Cell} {q9 : Nat} {H1 : Heap} {locs1 : List Loc} {cells slots : Nat} (hk : KX k) (hz : s.heap.size ≤ H1.size) (hq : ∀ q : Nat, q < s.heap.size → H1[q]? = s.heap[q]?) (hl : ∀ z ∈ locs1, s.heap.size ≤ z.base) (h1 : H1[q9]? = some ce) (h2 : ce.vm = .none) (h3 : s.vm.findClass (exN k) = some ce.cls) (hc : cells ≤ mc) (hs : slots ≤ ms) :
    vx_W p l e (rk rn mc ms) s m args below meth c H1 locs1 cells slots (vx_MQ below Qc (xcP KX s.heap.size) args s mc ms free) (F0 m pc ls rest) q9 := by
  refine vx_out (fun x hx => (htab x hx).elim) hlocks h1 h2 h3 (fun t ht _ => ⟨k, hk, rfl, ?_, fun q g _ => ?_⟩) (fun z hz => hfree _ (hl z hz)) hc hs
  · rw [ht]; exact hz
  · rw [ht]; exact hq q g
theorem x_new {own : String} {Qc : Array Value → State → Outcome → State → Prop} {KX : Nat → Prop} {free : Addr → Prop} (hC : CallFix p m c cc nL s args lw_g own) (how : own = RX5) (hR : RXD r0 A s s.heap) (hfl : l.stackTraces = false) (htab : ∀ x ∈ c.exceptionTable.toList, False) (hlocks : meth.locks = false) (hrn : 5 < rn)
    {j k pc : Nat} {ls : Array Slot} {rest : List Value} {cells slots : Nat} (hj : j < 13) (hk : KX k) (d0 : decode cc pc = .ok (.new (ikX k), 3)) (d3 : decode cc (pc + 3) = .ok (.dup, 1)) (d4 : decode cc (pc + 4) = .ok (.ldc (XSat j).1, 2)) (d6 : decode cc (pc + 6) = .ok (.invokespecial (icX k), 3)) (d9 : decode cc (pc + 9) = .ok (.athrow, 1)) (hW : (rest.map fun v => v.category).sum ≤ 8) (hls : ls.size = nL) (hc : cells + 1 ≤ mc) (hs : slots + 6 ≤ ms) :
    W p l e (rk rn mc ms) s m args below meth c s.heap [] cells slots (vx_MQ below Qc (xcP KX s.heap.size) args s mc ms free) (F0 m pc ls rest) := by
  subst how
  have hts := hC.2.2.2.2
  have key : ∀ (cls : String) (ik ic : Nat), exN k = cls → ikX k = ik → icX k = ic → Bundle.fit cls = true → Cond.classLink RX5 ik cls ∈ lw_g → Cond.initialized cls ∈ lw_g → (∀ w ∈ vx_atS RX5 ic cls xNames, w ∈ lw_g ∨ w ∈ lw_x) → (∀ w ∈ Cond.classLink RX5 ik cls :: Cond.initialized cls :: vx_atS RX5 ic cls xNames, vx_ot w = true) → W p l e (rk rn mc ms) s m args below meth c s.heap [] cells slots (vx_MQ below Qc (xcP KX s.heap.size) args s mc ms free) (F0 m pc ls rest) := by
    intro cls ik ic e1 e2 e3 hfit hcl hin hat hgood
    rw [e2] at d0
    rw [e3] at d6
    refine vx_throwS (own := RX5) (cls := cls) (text := (XSat j).2) (names := xNames) (sa := r0 (300 + j)) (A := A) hC.1 hC.2.1 hfl hC.2.2.2.1 hfit (by decide +kernel) (hts _ hcl) (hts _ hin) (hR.2.1 j hj) (fun w hw => (hat w hw).elim (hts _) (fun g => hR.2.2.2.2.1.use g)) hgood hR.2.2.1 hR.2.2.2.1 va_S.rf (hls.trans hC.2.2.1.symm) d0 d3 d4 d6 d9 (fun x hx => (htab x hx).elim) ?_ ?_ hc hs hlocks ?_ (fun z hz => by cases hz) hc hs
    · show 2 + 3 < rn
      omega
    · show _ + (13 * (2 + 1) + 43) ≤ 40 * rn
      omega
    · intro t _ hz hq
      exact ⟨k, hk, e1.symm, hz, fun q g _ => hq q g⟩
  rcases k with _ | _ | k
  · exact key _ _ _ rfl rfl rfl (by decide +kernel) wq_919 wq_88 xa_0 xg_0
  · exact key _ _ _ rfl rfl rfl (by decide +kernel) wq_712 wq_87 xa_1 xg_1
  · exact key "java/lang/IndexOutOfBoundsException" 109 113 (by simp [exN]) (by simp [ikX]) (by simp [icX]) (by decide +kernel) wq_530 wq_89 xa_2 xg_2
theorem rwx_of {y : MethodName} {n : Nat} {ret : Option FieldType} {D : va_G} {Z : Nat → ClassId} {sz : Nat} {av : List Value} {S : Type} {wsF : S → va_W} {u0 : S} {ty : FieldType} {K : Int32 → S → Prop} {KX : Nat → Prop} (hfl : l.stackTraces = false) (hown : y.cls = RX5) (hrn : 5 < rn) (hy : plainName y.cls = true) (hn : (lg_sl av).length ≤ n) (hret : ret = some ty)
    (body : ∀ (p : Program) (e : Env) (s : State) (m : MethodId) (args : Array Value) (below : List Frame) (meth : Method) (c : Code) (Q : State → Prop) (A : Nat → Prop), CallFix p m c cc n s args lw_g y.cls → NW s → RXD r0 A s s.heap → s.heap.size = sz → TS vwCl D (wsF u0) A s.heap s.heap [] → va_K D vwCl (tysG Z) s → XThr p l e rn mc ms s m args below meth c cc n Q KX →
      (∀ (pc : Nat) (ls : Array Slot) (H : Heap) (locs : List Loc) (r : Int32) (u : S), K r u → TS vwCl D (wsF u) A s.heap H locs → narrow ty (.int r) = .int r → decode cc pc = .ok (.ireturn, 1) → W p l e (rk rn mc ms) s m args below meth c H locs mc ms Q (F0 m pc ls [.int r])) →
      ∀ ls : Array Slot, lv_has ls n (lv_args 0 av) → W p l e (rk rn mc ms) s m args below meth c s.heap [] 0 0 Q (F0 m 0 ls [])) :
    vx_Met l y (wy y cc n ret) (rk rn mc ms) (preX vwCl D Z r0 (wsF u0) sz av) (poI vwCl D Z wsF u0 sz K) (xcP KX sz) mc ms (va_A (wsF u0) sz) := by
  refine vx_ofW (cc := cc) (maxL := n) (ret := ret) hy rfl ?_
  intro p e s m args below meth c s₁ B hml htab hv
  obtain ⟨rfl, hsz, hP, hD, hK, hN, hR⟩ := hv
  have hts : ∀ w ∈ lw_g, w.before av.toArray s = true := fun w hw => atoms_spec (ws := wy y cc n ret) B.pre w (List.mem_cons_of_mem _ hw)
  have how : s.vm.findClass y.cls = some m.cls := findClass_of_methodNamed B.named
  have hlocks := B.notSynchronized
  have hl := lv_entry av (n := n) hn
  rw [lg_entry_eq]
  subst hsz
  have hC : CallFix p m c cc n s av.toArray lw_g y.cls := ⟨B.exec, B.bytes, hml, how, hts⟩
  refine body p e s m av.toArray below meth c _ (va_A (wsF u0) s.heap.size) hC hN hR rfl ⟨hP, hD.self, va_S.rf, fun q h => Or.inr h⟩ hK ⟨?_, ?_⟩ ?_ _ hl
  · intro k pc ls rest ce q9 H1 locs1 cells slots hk hz hq hl1 h1 h2 h3 hc hs
    exact x_out htab hlocks (fun q h => Or.inr h) hk hz hq hl1 h1 h2 h3 hc hs
  · intro j k pc ls rest cells slots hj hk d0 d3 d4 d6 d9 hW hls hc hs
    exact x_new hC hown hR hfl htab hlocks hrn hj hk d0 d3 d4 d6 d9 hW hls hc hs
  · intro pc ls H locs r u hk hT hnar hd
    exact vx_ret (W.zret (ty := ty) B.exec B.bytes (B.returns.trans hret) hnar (fun t ht hW => ⟨⟨r, u, rfl, hk, by rw [ht]; exact hT.1, hT.2.1, va_K.moved hW.alike hK⟩, hT.2.2.1.F ht⟩) hT.2.2.1.2.2 hd)
end OFX
/-! ===== the tests ahead ===== -/
def preE (r : Nat → Nat) (A : Nat → Prop) (sz : Nat) (av : List Value) : Array Value → State → Prop := va_Pc av (fun U => U.heap.size = sz ∧ RXD r A U U.heap)
theorem preE.blind {r : Nat → Nat} {A : Nat → Prop} {sz : Nat} {av : List Value} : FrameBlind (preE r A sz av) := by
  intro a U g mk h
  obtain ⟨h1, h2, h3⟩ := h
  exact ⟨h1, h2, RXD.same (u := U) (U := U.calling g mk a) rfl h3⟩
set_option maxHeartbeats 4000000 in
theorem x_needOneOf (l : Launch) (hfl : l.stackTraces = false) (r0 : Nat → Nat) (A : Nat → Prop) (sz : Nat) (i n : Int32) : vx_Met l yX5_needOneOf (wy yX5_needOneOf cX5_needOneOf 2 none) (rk 6 1 6) (preE r0 A sz [.int i, .int n]) (fun _ st o t => o = .returned none ∧ (¬ i < 0 ∧ i < n) ∧ t.heap = st.heap) (xcP (fun k => k = 2 ∧ (i < 0 ∨ ¬ i < n)) sz) 1 6 (fun q => sz ≤ q) := by
  refine vx_ofW (cc := cX5_needOneOf) (maxL := 2) (ret := none) (by decide +kernel) rfl ?_
  intro p e s m args below meth c s₁ B hml htab hv
  obtain ⟨rfl, hsz, hR⟩ := hv
  subst hsz
  have hts : ∀ w ∈ lw_g, w.before ([.int i, .int n] : List Value).toArray s = true := fun w hw => atoms_spec (ws := wy yX5_needOneOf cX5_needOneOf 2 none) B.pre w (List.mem_cons_of_mem _ hw)
  have how : s.vm.findClass yX5_needOneOf.cls = some m.cls := findClass_of_methodNamed B.named
  have hl := lv_entry ([.int i, .int n]) (n := 2) (Nat.le_of_ble_eq_true rfl)
  rw [lg_entry_eq]
  generalize (lg_sl ([.int i, .int n]) ++ List.replicate (2 - (lg_sl ([.int i, .int n])).length) Slot.unset).toArray = ls at hl ⊢
  have hl : lv_has ls 2 [(0, .int i), (1, .int n)] := hl
  have hC : CallFix p m c cX5_needOneOf 2 s ([.int i, .int n] : List Value).toArray lw_g yX5_needOneOf.cls := ⟨B.exec, B.bytes, hml, how, hts⟩
  have hx := hC.1
  have hb := hC.2.1
  have thr : (i < 0 ∨ ¬ i < n) → W p l e (rk 6 1 6) s m ([.int i, .int n] : List Value).toArray below meth c s.heap [] 0 0 (vx_MQ below (fun _ st o t => o = .returned none ∧ (¬ i < 0 ∧ i < n) ∧ t.heap = st.heap) (xcP (fun k => k = 2 ∧ (i < 0 ∨ ¬ i < n)) s.heap.size) ([.int i, .int n] : List Value).toArray s 1 6 (fun q => s.heap.size ≤ q)) (F0 m 9 ls []) := fun h =>
    x_new hC rfl hR hfl htab B.notSynchronized (by decide) (j := 11) (k := 2) (by decide) ⟨rfl, h⟩ dX5_needOneOf_9 dX5_needOneOf_12 dX5_needOneOf_13 dX5_needOneOf_15 dX5_needOneOf_18 (Nat.zero_le _) hl.1 (by decide) (by decide)
  refine lv_iload_n hx hb dX5_needOneOf_0 rfl (lv_at hl 0 rfl) ?_
  refine lv_if_lt (tgt := 9) hx hb dX5_needOneOf_1 (by decide) (fun c1 => ?_) (fun c1 => ?_)
  · exact thr (Or.inl c1)
  · refine lv_iload_n hx hb dX5_needOneOf_4 rfl (lv_at hl 0 rfl) ?_
    refine lv_iload_n hx hb dX5_needOneOf_5 rfl (lv_at hl 1 rfl) ?_
    refine lv_icmp_lt (tgt := 19) hx hb dX5_needOneOf_6 (by decide) (fun c2 => ?_) (fun c2 => ?_)
    · refine W.widen (k := 1) (n := 6) (Nat.zero_le _) (Nat.zero_le _) ?_
      exact vx_ret (W.vret hx hb B.returns (fun t ht _ => ⟨rfl, ⟨c1, c2⟩, ht⟩) (fun q h => by cases h) dX5_needOneOf_19)
    · exact thr (Or.inr c2)
theorem c_needOneOf (l : Launch) (i n : Int32) (h1 : ¬ i < 0) (h2 : i < n) : Met l yX5_needOneOf (wy yX5_needOneOf cX5_needOneOf 2 none) (rk 1 0 0) (va_Pc [.int i, .int n] (fun _ => True)) (fun _ st o t => o = .returned none ∧ t.heap = st.heap) 0 0 (fun _ => False) := by
  refine Met.ofW (cc := cX5_needOneOf) (maxL := 2) (ret := none) (by decide +kernel) rfl ?_
  intro p e s m args below meth c s₁ B hml hv
  obtain ⟨rfl, -⟩ := hv
  have hl := lv_entry ([.int i, .int n]) (n := 2) (Nat.le_of_ble_eq_true rfl)
  rw [lg_entry_eq]
  generalize (lg_sl ([.int i, .int n]) ++ List.replicate (2 - (lg_sl ([.int i, .int n])).length) Slot.unset).toArray = ls at hl ⊢
  have hl : lv_has ls 2 [(0, .int i), (1, .int n)] := hl
  have hx := B.exec
  have hb := B.bytes
  refine lv_iload_n hx hb dX5_needOneOf_0 rfl (lv_at hl 0 rfl) ?_
  refine lv_if_lt (tgt := 9) hx hb dX5_needOneOf_1 (by decide) (fun c1 => absurd c1 h1) (fun c1 => ?_)
  refine lv_iload_n hx hb dX5_needOneOf_4 rfl (lv_at hl 0 rfl) ?_
  refine lv_iload_n hx hb dX5_needOneOf_5 rfl (lv_at hl 1 rfl) ?_
  refine lv_icmp_lt (tgt := 19) hx hb dX5_needOneOf_6 (by decide) (fun _ => ?_) (fun c2 => absurd h2 c2)
  exact W.vret hx hb B.returns (fun t ht _ => ⟨rfl, ht⟩) (fun q h => by cases h) dX5_needOneOf_19
set_option maxHeartbeats 4000000 in
theorem x_needMinutes (l : Launch) (hfl : l.stackTraces = false) (r0 : Nat → Nat) (A : Nat → Prop) (sz : Nat) (i : Int32) : vx_Met l yX5_needMinutes (wy yX5_needMinutes cX5_needMinutes 1 none) (rk 6 1 6) (preE r0 A sz [.int i]) (fun _ st o t => o = .returned none ∧ (¬ i < 1 ∧ i ≤ 120) ∧ t.heap = st.heap) (xcP (fun k => k = 1 ∧ (i < 1 ∨ ¬ i ≤ 120)) sz) 1 6 (fun q => sz ≤ q) := by
  refine vx_ofW (cc := cX5_needMinutes) (maxL := 1) (ret := none) (by decide +kernel) rfl ?_
  intro p e s m args below meth c s₁ B hml htab hv
  obtain ⟨rfl, hsz, hR⟩ := hv
  subst hsz
  have hts : ∀ w ∈ lw_g, w.before ([.int i] : List Value).toArray s = true := fun w hw => atoms_spec (ws := wy yX5_needMinutes cX5_needMinutes 1 none) B.pre w (List.mem_cons_of_mem _ hw)
  have how : s.vm.findClass yX5_needMinutes.cls = some m.cls := findClass_of_methodNamed B.named
  have hl := lv_entry ([.int i]) (n := 1) (Nat.le_of_ble_eq_true rfl)
  rw [lg_entry_eq]
  generalize (lg_sl ([.int i]) ++ List.replicate (1 - (lg_sl ([.int i])).length) Slot.unset).toArray = ls at hl ⊢
  have hl : lv_has ls 1 [(0, .int i)] := hl
  have hx := B.exec
  have hb := B.bytes
  have thr : (i < 1 ∨ ¬ i ≤ 120) → W p l e (rk 6 1 6) s m ([.int i] : List Value).toArray below meth c s.heap [] 0 0 (vx_MQ below (fun _ st o t => o = .returned none ∧ (¬ i < 1 ∧ i ≤ 120) ∧ t.heap = st.heap) (xcP (fun k => k = 1 ∧ (i < 1 ∨ ¬ i ≤ 120)) s.heap.size) ([.int i] : List Value).toArray s 1 6 (fun q => s.heap.size ≤ q)) (F0 m 11 ls []) := fun h =>
    vx_throwSW (own := RX5) (cls := "java/lang/IllegalArgumentException") (text := (XSat 12).2) (names := xNames) (sa := r0 (300 + 12)) (A := A) hx hb hfl how (by decide +kernel) (by decide +kernel) (hts _ wq_712) (hts _ wq_87) (hR.2.1 12 (by decide)) (fun w hw => (xa_1 w hw).elim (hts _) (fun g => hR.2.2.2.2.1.use g)) xg_1 hR.2.2.1 hR.2.2.2.1 va_S.rf (hl.1.trans hml.symm) dX5_needMinutes_11 dX5_needMinutes_14 dX5_needMinutes_15 dX5_needMinutes_18 dX5_needMinutes_21 (fun x hx => (htab x hx).elim) (by decide) (by decide) (by decide) (by decide) B.notSynchronized (fun t _ hz hq => ⟨1, ⟨rfl, h⟩, rfl, hz, fun q g _ => hq q g⟩) (fun z hz => by cases hz) (by decide) (by decide)
  refine lv_iload_n hx hb dX5_needMinutes_0 rfl (lv_at hl 0 rfl) ?_
  refine lv_iconst (v := 1) hx hb dX5_needMinutes_1 (by decide) ?_
  refine lv_icmp_lt (tgt := 11) hx hb dX5_needMinutes_2 (by decide) (fun c1 => ?_) (fun c1 => ?_)
  · exact thr (Or.inl c1)
  · refine lv_iload_n hx hb dX5_needMinutes_5 rfl (lv_at hl 0 rfl) ?_
    refine lv_bipush (v := 120) hx hb dX5_needMinutes_6 (by decide) ?_
    refine lv_icmp_le (tgt := 22) hx hb dX5_needMinutes_8 (by decide) (fun c2 => ?_) (fun c2 => ?_)
    · refine W.widen (k := 1) (n := 6) (Nat.zero_le _) (Nat.zero_le _) ?_
      exact vx_ret (W.vret hx hb B.returns (fun t ht _ => ⟨rfl, ⟨c1, c2⟩, ht⟩) (fun q h => by cases h) dX5_needMinutes_22)
    · exact thr (Or.inr c2)
section NEEDS
variable {p : Program} {l : Launch} {e : Env} {s : State} {m : MethodId} {args : Array Value} {below : List Frame} {meth : Method} {c : Code} {cells slots : Nat} {Q : State → Prop} {rn mc ms : Nat}
variable {pc : Nat} {ls : Array Slot} {rest : List Value} {A : Nat → Prop} {cc : ByteArray} {nL nT index : Nat} {own : String} {r0 : Nat → Nat} {KX : Nat → Prop}
theorem w_needOneOf {i n : Int32} (hC : CallFix p m c cc nL s args lw_g own) (hfl : l.stackTraces = false) (hR : RXD r0 A s s.heap) (hT : XThr p l e rn mc ms s m args below meth c cc nT Q KX) (hl : Cond.methodLink own index yX5_needOneOf ∈ lw_g) (hlt : 6 < rn) (hsize : ls.size = nL) (hW : (rest.map fun v => v.category).sum ≤ 8) (hf : cells + 1 ≤ mc ∧ slots + 6 ≤ ms) (hdg : decode cc pc = .ok (.invokestatic index, 3)) (hX : (i < 0 ∨ ¬ i < n) → KX 2)
    (kk : ¬ i < 0 → i < n → W p l e (rk rn mc ms) s m args below meth c s.heap [] (cells + 1) (slots + 6) Q (F0 m (pc + 3) ls rest)) : W p l e (rk rn mc ms) s m args below meth c s.heap [] cells slots Q (F0 m pc ls (.int n :: .int i :: rest)) := by
  have hts := hC.2.2.2.2
  have hr := vx_runS (As := [.int i, .int n]) (rest := rest) (H := s.heap) (locs := []) (cells := cells) (slots := slots) (R := rk rn mc ms) (l := l) (e := e) (below := below) (meth := meth) (g := F0 m pc ls (.int n :: .int i :: rest)) hC (x_needOneOf l hfl r0 A s.heap.size i n) ⟨callB_of 2 hts (wy_good mi_X5_needOneOf.1) rfl rfl rfl (hts _ mi_X5_needOneOf.2.1) (hts _ hl) mi_X5_needOneOf.2.2.2.1 (rk_fit hlt mi_X5_needOneOf.2.2.1), hts _ wq_602⟩ ⟨preE.blind, fun U hU hW => ⟨rfl, by rw [hU], by rw [hU]; exact hR.warm hW⟩⟩ rfl rfl hsize rfl (lv_room hW) hdg hf
  intro T hT0 X
  rcases hr T hT0 X with ⟨v, st₀, t, T', L, h0, X', hL, e1, e2, ⟨hv, ⟨c1, c2⟩, hh⟩, st⟩ | ⟨q, st₀, t, T', L, E, ce, h0, X', hL, e1, e2, ⟨k, ⟨hk, hcon⟩, rfl, hF⟩, hce, hcv, hcl, st⟩
  · cases hv
    obtain ⟨t2, a1, b1⟩ := kk c1 c2 T' (e1.trans (hh.trans h0)) (Stand.forget (locs := []) X' (fun y hy => hL y hy))
    exact ⟨t2, st t2 a1, b1⟩
  · subst hk
    obtain ⟨hz, hq⟩ := hF
    rw [h0] at hz hq
    obtain ⟨t2, a1, b1⟩ := hT.1 2 pc ls rest ce q T'.heap ([] ++ L) (cells + 1) (slots + 6) (hX hcon) (by rw [e1]; exact hz) (fun z g => by rw [e1]; exact hq z g (Nat.not_le.mpr g)) (fun z hz => hL z hz) (by rw [e1]; exact hce) hcv hcl hf.1 hf.2 T' rfl X'
    exact ⟨t2, st.trans a1, b1⟩
theorem w_needMinutes {i : Int32} (hC : CallFix p m c cc nL s args lw_g own) (hfl : l.stackTraces = false) (hR : RXD r0 A s s.heap) (hT : XThr p l e rn mc ms s m args below meth c cc nT Q KX) (hl : Cond.methodLink own index yX5_needMinutes ∈ lw_g) (hlt : 6 < rn) (hsize : ls.size = nL) (hW : (rest.map fun v => v.category).sum ≤ 8) (hf : cells + 1 ≤ mc ∧ slots + 6 ≤ ms) (hdg : decode cc pc = .ok (.invokestatic index, 3)) (hX : (i < 1 ∨ ¬ i ≤ 120) → KX 1)
    (kk : ¬ i < 1 → i ≤ 120 → W p l e (rk rn mc ms) s m args below meth c s.heap [] (cells + 1) (slots + 6) Q (F0 m (pc + 3) ls rest)) : W p l e (rk rn mc ms) s m args below meth c s.heap [] cells slots Q (F0 m pc ls (.int i :: rest)) := by
  have hts := hC.2.2.2.2
  have hr := vx_runS (As := [.int i]) (rest := rest) (H := s.heap) (locs := []) (cells := cells) (slots := slots) (R := rk rn mc ms) (l := l) (e := e) (below := below) (meth := meth) (g := F0 m pc ls (.int i :: rest)) hC (x_needMinutes l hfl r0 A s.heap.size i) ⟨callB_of 1 hts (wy_good mi_X5_needMinutes.1) rfl rfl rfl (hts _ mi_X5_needMinutes.2.1) (hts _ hl) mi_X5_needMinutes.2.2.2.1 (rk_fit hlt mi_X5_needMinutes.2.2.1), hts _ wq_710⟩ ⟨preE.blind, fun U hU hW => ⟨rfl, by rw [hU], by rw [hU]; exact hR.warm hW⟩⟩ rfl rfl hsize rfl (lv_room hW) hdg hf
  intro T hT0 X
  rcases hr T hT0 X with ⟨v, st₀, t, T', L, h0, X', hL, e1, e2, ⟨hv, ⟨c1, c2⟩, hh⟩, st⟩ | ⟨q, st₀, t, T', L, E, ce, h0, X', hL, e1, e2, ⟨k, ⟨hk, hcon⟩, rfl, hF⟩, hce, hcv, hcl, st⟩
  · cases hv
    obtain ⟨t2, a1, b1⟩ := kk c1 c2 T' (e1.trans (hh.trans h0)) (Stand.forget (locs := []) X' (fun y hy => hL y hy))
    exact ⟨t2, st t2 a1, b1⟩
  · subst hk
    obtain ⟨hz, hq⟩ := hF
    rw [h0] at hz hq
    obtain ⟨t2, a1, b1⟩ := hT.1 1 pc ls rest ce q T'.heap ([] ++ L) (cells + 1) (slots + 6) (hX hcon) (by rw [e1]; exact hz) (fun z g => by rw [e1]; exact hq z g (Nat.not_le.mpr g)) (fun z hz => hL z hz) (by rw [e1]; exact hce) hcv hcl hf.1 hf.2 T' rfl X'
    exact ⟨t2, st.trans a1, b1⟩
/-- where nothing is thrown -/
theorem w_needOneOfN {i n : Int32} {H : Heap} {locs : List Loc} {mcR msR : Nat} (hC : CallFix p m c cc nL s args lw_g own) (h1 : ¬ i < 0) (h2 : i < n) (hl : Cond.methodLink own index yX5_needOneOf ∈ lw_g) (hlt : 1 < rn) (hsize : ls.size = nL) (hW : (rest.map fun v => v.category).sum ≤ 8) (hf : cells + 0 ≤ mcR ∧ slots + 0 ≤ msR) (hdg : decode cc pc = .ok (.invokestatic index, 3))
    (kk : W p l e (rk rn mcR msR) s m args below meth c H locs cells slots Q (F0 m (pc + 3) ls rest)) : W p l e (rk rn mcR msR) s m args below meth c H locs cells slots Q (F0 m pc ls (.int n :: .int i :: rest)) := by
  have hts := hC.2.2.2.2
  have hr := va_runS (As := [.int i, .int n]) (rest := rest) (H := H) (locs := locs) (cells := cells) (slots := slots) (R := rk rn mcR msR) (l := l) (e := e) (below := below) (meth := meth) (g := F0 m pc ls (.int n :: .int i :: rest)) hC (c_needOneOf l i n h1 h2) ⟨callB_of 2 hts (wy_good mi_X5_needOneOf.1) rfl rfl rfl (hts _ mi_X5_needOneOf.2.1) (hts _ hl) mi_X5_needOneOf.2.2.2.1 (rk_fit hlt mi_X5_needOneOf.2.2.1), hts _ wq_602⟩ ⟨fun a U g mk q => q, fun U hU hW => ⟨rfl, trivial⟩⟩ rfl rfl hsize rfl (lv_room hW) hdg hf
  intro T hT0 X
  obtain ⟨v, st₀, t, T', L, h0, X', hL, e1, e2, ⟨hv, hh⟩, st⟩ := hr T hT0 X
  cases hv
  have hL0 : L = [] := List.eq_nil_iff_forall_not_mem.mpr (fun q h => hL q h)
  subst hL0
  rw [List.append_nil] at X'
  obtain ⟨t2, a1, b1⟩ := kk T' (e1.trans (hh.trans h0)) X'
  exact ⟨t2, st t2 a1, b1⟩
theorem c_needMinutes (l : Launch) (i : Int32) (h1 : ¬ i < 1) (h2 : i ≤ 120) : Met l yX5_needMinutes (wy yX5_needMinutes cX5_needMinutes 1 none) (rk 1 0 0) (va_Pc [.int i] (fun _ => True)) (fun _ st o t => o = .returned none ∧ t.heap = st.heap) 0 0 (fun _ => False) := by
  refine Met.ofW (cc := cX5_needMinutes) (maxL := 1) (ret := none) (by decide +kernel) rfl ?_
  intro p e s m args below meth c s₁ B hml hv
  obtain ⟨rfl, -⟩ := hv
  have hl := lv_entry ([.int i]) (n := 1) (Nat.le_of_ble_eq_true rfl)
  rw [lg_entry_eq]
  generalize (lg_sl ([.int i]) ++ List.replicate (1 - (lg_sl ([.int i])).length) Slot.unset).toArray = ls at hl ⊢
  have hl : lv_has ls 1 [(0, .int i)] := hl
  have hx := B.exec
  have hb := B.bytes
  refine lv_iload_n hx hb dX5_needMinutes_0 rfl (lv_at hl 0 rfl) ?_
  refine lv_iconst (v := 1) hx hb dX5_needMinutes_1 (by decide) ?_
  refine lv_icmp_lt (tgt := 11) hx hb dX5_needMinutes_2 (by decide) (fun c1 => absurd c1 h1) (fun c1 => ?_)
  refine lv_iload_n hx hb dX5_needMinutes_5 rfl (lv_at hl 0 rfl) ?_
  refine lv_bipush (v := 120) hx hb dX5_needMinutes_6 (by decide) ?_
  refine lv_icmp_le (tgt := 22) hx hb dX5_needMinutes_8 (by decide) (fun _ => ?_) (fun c2 => absurd h2 c2)
  exact W.vret hx hb B.returns (fun t ht _ => ⟨rfl, ht⟩) (fun q h => by cases h) dX5_needMinutes_22
set_option maxHeartbeats 4000000 in
theorem w_needMinutesN {i : Int32} {H : Heap} {locs : List Loc} {mcR msR : Nat} (hC : CallFix p m c cc nL s args lw_g own) (h1 : ¬ i < 1) (h2 : i ≤ 120) (hl : Cond.methodLink own index yX5_needMinutes ∈ lw_g) (hlt : 1 < rn) (hsize : ls.size = nL) (hW : (rest.map fun v => v.category).sum ≤ 8) (hf : cells + 0 ≤ mcR ∧ slots + 0 ≤ msR) (hdg : decode cc pc = .ok (.invokestatic index, 3))
    (kk : W p l e (rk rn mcR msR) s m args below meth c H locs cells slots Q (F0 m (pc + 3) ls rest)) : W p l e (rk rn mcR msR) s m args below meth c H locs cells slots Q (F0 m pc ls (.int i :: rest)) := by
  have hts := hC.2.2.2.2
  have hr := va_runS (As := [.int i]) (rest := rest) (H := H) (locs := locs) (cells := cells) (slots := slots) (R := rk rn mcR msR) (l := l) (e := e) (below := below) (meth := meth) (g := F0 m pc ls (.int i :: rest)) hC (c_needMinutes l i h1 h2) ⟨callB_of 1 hts (wy_good mi_X5_needMinutes.1) rfl rfl rfl (hts _ mi_X5_needMinutes.2.1) (hts _ hl) mi_X5_needMinutes.2.2.2.1 (rk_fit hlt mi_X5_needMinutes.2.2.1), hts _ wq_710⟩ ⟨fun a U g mk q => q, fun U hU hW => ⟨rfl, trivial⟩⟩ rfl rfl hsize rfl (lv_room hW) hdg hf
  intro T hT0 X
  obtain ⟨v, st₀, t, T', L, h0, X', hL, e1, e2, ⟨hv, hh⟩, st⟩ := hr T hT0 X
  cases hv
  have hL0 : L = [] := List.eq_nil_iff_forall_not_mem.mpr (fun q h => hL q h)
  subst hL0
  rw [List.append_nil] at X'
  obtain ⟨t2, a1, b1⟩ := kk T' (e1.trans (hh.trans h0)) X'
  exact ⟨t2, st t2 a1, b1⟩
end NEEDS

