/-! ===== the start: what is selected of the builder's private methods, the classes, the room ===== -/
section STARTS
theorem sel_up {s : State} {args : Array Value} {C : String} {y z : MethodName} (hcl : z.cls = y.cls) (hy : y.cls ≠ "java/lang/invoke/MethodHandle" ∧ y.cls ≠ "java/lang/invoke/VarHandle") (hp : (Cond.privateMethod y).before args s = true) (hi : (Cond.instanceMethod y).before args s = true) (hz : (Cond.selects C z z).before args s = true) : (Cond.selects C y y).before args s = true := by
  obtain ⟨c, r, m, hc, -, hm, -, mk, hmk, hni⟩ := Cond.selects_spec hz
  obtain ⟨my, methM, hnamed, hmethM, -, -⟩ := Cond.instanceMethod_spec hi
  have hfound : s.methodFound? y.cls y.name y.desc = some my := State.methodFound?_of_named hnamed hy
  have e1 := findClass_of_methodNamed hm
  have e2 := findClass_of_methodNamed hnamed
  rw [hcl] at e1
  have hcls : my.cls = m.cls := Option.some.inj (e2.symm.trans e1)
  have hsel : selectMethod {} s.vm c my = .method my := selectMethod_private hmethM (Cond.privateMethod_at hp my methM hnamed hmethM)
  simp only [Cond.before, Cond.holds, Cond.value, hc, hfound, hnamed, hsel, hcls, hmk]
  simp; exact hni
theorem selp_ex {args : Array Value} {s : State} (hts : ∀ w ∈ lw_tbl, w.before args s = true) : SELP s := by
  have hz : (Cond.selects RJ4 ⟨"java/lang/AbstractStringBuilder", "isLatin1", "()Z"⟩ ⟨"java/lang/AbstractStringBuilder", "isLatin1", "()Z"⟩).before args s = true := hts _ (in_tb [1249] (ws := [Cond.selects RJ4 ⟨"java/lang/AbstractStringBuilder", "isLatin1", "()Z"⟩ ⟨"java/lang/AbstractStringBuilder", "isLatin1", "()Z"⟩]) (by decide +kernel) _ List.mem_cons_self)
  have p0 : (Cond.privateMethod yJ5_ensureCapacityInternal_d00df).before args s = true := hts _ (in_tb [1216] (ws := [Cond.privateMethod yJ5_ensureCapacityInternal_d00df]) (by decide +kernel) _ List.mem_cons_self)
  have q0 : (Cond.instanceMethod yJ5_ensureCapacityInternal_d00df).before args s = true := hts _ (in_tb [1217] (ws := [Cond.instanceMethod yJ5_ensureCapacityInternal_d00df]) (by decide +kernel) _ List.mem_cons_self)
  have r0 : (Cond.selects RJ4 yJ5_ensureCapacityInternal_d00df yJ5_ensureCapacityInternal_d00df).before #[] s = true := va_tabs rfl rfl (sel_up (z := ⟨"java/lang/AbstractStringBuilder", "isLatin1", "()Z"⟩) rfl (by decide) p0 q0 hz)
  have p1 : (Cond.privateMethod yJ5_newCapacity_0f7a4).before args s = true := hts _ (in_tb [1220] (ws := [Cond.privateMethod yJ5_newCapacity_0f7a4]) (by decide +kernel) _ List.mem_cons_self)
  have q1 : (Cond.instanceMethod yJ5_newCapacity_0f7a4).before args s = true := hts _ (in_tb [1221] (ws := [Cond.instanceMethod yJ5_newCapacity_0f7a4]) (by decide +kernel) _ List.mem_cons_self)
  have r1 : (Cond.selects RJ4 yJ5_newCapacity_0f7a4 yJ5_newCapacity_0f7a4).before #[] s = true := va_tabs rfl rfl (sel_up (z := ⟨"java/lang/AbstractStringBuilder", "isLatin1", "()Z"⟩) rfl (by decide) p1 q1 hz)
  have p2 : (Cond.privateMethod yJ5_putStringAt_47b60).before args s = true := hts _ (in_tb [1269] (ws := [Cond.privateMethod yJ5_putStringAt_47b60]) (by decide +kernel) _ List.mem_cons_self)
  have q2 : (Cond.instanceMethod yJ5_putStringAt_47b60).before args s = true := hts _ (in_tb [1270] (ws := [Cond.instanceMethod yJ5_putStringAt_47b60]) (by decide +kernel) _ List.mem_cons_self)
  have r2 : (Cond.selects RJ4 yJ5_putStringAt_47b60 yJ5_putStringAt_47b60).before #[] s = true := va_tabs rfl rfl (sel_up (z := ⟨"java/lang/AbstractStringBuilder", "isLatin1", "()Z"⟩) rfl (by decide) p2 q2 hz)
  have p3 : (Cond.privateMethod yJ5_inflateIfNeededFor_a7421).before args s = true := hts _ (in_tb [1273] (ws := [Cond.privateMethod yJ5_inflateIfNeededFor_a7421]) (by decide +kernel) _ List.mem_cons_self)
  have q3 : (Cond.instanceMethod yJ5_inflateIfNeededFor_a7421).before args s = true := hts _ (in_tb [1274] (ws := [Cond.instanceMethod yJ5_inflateIfNeededFor_a7421]) (by decide +kernel) _ List.mem_cons_self)
  have r3 : (Cond.selects RJ4 yJ5_inflateIfNeededFor_a7421 yJ5_inflateIfNeededFor_a7421).before #[] s = true := va_tabs rfl rfl (sel_up (z := ⟨"java/lang/AbstractStringBuilder", "isLatin1", "()Z"⟩) rfl (by decide) p3 q3 hz)
  refine ⟨fun y hy => ?_, va_Nw.of rfl (hts _ (in_tb [1240] (ws := [Cond.castable "[B" "java/lang/Cloneable"]) (by decide +kernel) _ List.mem_cons_self))⟩
  rcases List.mem_cons.mp hy with rfl | hy
  · exact r0
  rcases List.mem_cons.mp hy with rfl | hy
  · exact r1
  rcases List.mem_cons.mp hy with rfl | hy
  · exact r2
  rcases List.mem_cons.mp hy with rfl | hy
  · exact r3
  cases hy
theorem k_ex {args : Array Value} {s : State} (hts : ∀ w ∈ lw_tbl, w.before args s = true) : ∃ (D : va_G) (Z : Nat → ClassId), va_K D vwCl (tysG Z) s := by
  have hg : ∀ w ∈ lw_g, w.before args s = true := fun w hw => hts w (List.mem_filter.mp hw).1
  obtain ⟨c0, i0, k0⟩ := u_known (ws := lw_g) (C := RX0) (T := TX0) (N := 8) (n := 8) hg fi_X0 (hts _ (in_tb [248] (ws := [Cond.instantiable RX0 8]) (by decide +kernel) _ List.mem_cons_self))
  obtain ⟨c1, i1, k1⟩ := u_known (ws := lw_g) (C := RX1) (T := TX1) (N := 19) (n := 19) hg fi_X1 (hts _ (in_tb [242] (ws := [Cond.instantiable RX1 19]) (by decide +kernel) _ List.mem_cons_self))
  obtain ⟨c2, i2, k2⟩ := u_known (ws := lw_g) (C := RX2) (T := TX2) (N := 10) (n := 10) hg fi_X2 (hts _ (in_tb [99] (ws := [Cond.instantiable RX2 10]) (by decide +kernel) _ List.mem_cons_self))
  obtain ⟨c3, i3, k3⟩ := u_known (ws := lw_g) (C := RX3) (T := TX3) (N := 8) (n := 8) hg fi_X3 (hts _ (in_tb [105] (ws := [Cond.instantiable RX3 8]) (by decide +kernel) _ List.mem_cons_self))
  obtain ⟨c4, i4, k4⟩ := u_known (ws := lw_g) (C := RX4) (T := TX4) (N := 15) (n := 15) hg fi_X4 (hts _ (in_tb [420] (ws := [Cond.instantiable RX4 15]) (by decide +kernel) _ List.mem_cons_self))
  obtain ⟨c5, i5, k5⟩ := u_known (ws := lw_g) (C := RX5) (T := TX5) (N := 7) (n := 7) hg fi_X5 (hts _ (in_tb [91] (ws := [Cond.instantiable RX5 7]) (by decide +kernel) _ List.mem_cons_self))
  obtain ⟨c6, i6, k6⟩ := u_known (ws := lw_g) (C := RX6) (T := TX6) (N := 9) (n := 9) hg fi_X6 (hts _ (in_tb [864] (ws := [Cond.instantiable RX6 9]) (by decide +kernel) _ List.mem_cons_self))
  obtain ⟨c7, i7, k7⟩ := u_known (ws := lw_g) (C := RJ0) (T := TJ0) (N := 4) (n := 4) hg fi_J0 (hts _ (in_tb [1381] (ws := [Cond.instantiable RJ0 4]) (by decide +kernel) _ List.mem_cons_self))
  obtain ⟨c8, i8, k8⟩ := u_known (ws := lw_g) (C := RJ4) (T := TJ4) (N := 4) (n := 4) hg fi_J4 (hts _ (in_tb [1355] (ws := [Cond.instantiable RJ4 4]) (by decide +kernel) _ List.mem_cons_self))
  obtain ⟨z_int, a_int, p_int, f_int, g_int, h_int⟩ := Cond.arrayClass_spec (hts _ (in_tb [240] (ws := [Cond.arrayClass .int]) (by decide +kernel) _ List.mem_cons_self))
  obtain ⟨z_long, a_long, p_long, f_long, g_long, h_long⟩ := Cond.arrayClass_spec (hts _ (in_tb [239] (ws := [Cond.arrayClass .long]) (by decide +kernel) _ List.mem_cons_self))
  obtain ⟨z_byte, a_byte, p_byte, f_byte, g_byte, h_byte⟩ := Cond.arrayClass_spec (hts _ (in_tb [238] (ws := [Cond.arrayClass .byte]) (by decide +kernel) _ List.mem_cons_self))
  obtain ⟨z_boolean, a_boolean, p_boolean, f_boolean, g_boolean, h_boolean⟩ := Cond.arrayClass_spec (hts _ (in_tb [1487] (ws := [Cond.arrayClass .boolean]) (by decide +kernel) _ List.mem_cons_self))
  obtain ⟨p_a, z_a, a_a, -, g_a, h_a, f_a⟩ := Cond.arrayOver_specA (t := .int) (hts _ (in_tb [1164] (ws := [Cond.arrayOver (.array .int)]) (by decide +kernel) _ List.mem_cons_self))
  refine ⟨(fun c => match c with | 0 => c0 | 1 => c1 | 2 => c2 | 3 => c3 | 4 => c4 | 5 => c5 | 6 => c6 | 7 => c7 | _ => c8, fun c => match c with | 0 => i0 | 1 => i1 | 2 => i2 | 3 => i3 | 4 => i4 | 5 => i5 | 6 => i6 | 7 => i7 | _ => i8), fun k => match k with | 0 => z_int | 1 => z_long | 2 => z_byte | 3 => z_a | _ => z_boolean, fun c q hq => ?_, fun k q hk => ?_⟩
  · have hc : c < 9 := (List.getElem?_eq_some_iff.mp hq).1
    have hcc : c = 0 ∨ c = 1 ∨ c = 2 ∨ c = 3 ∨ c = 4 ∨ c = 5 ∨ c = 6 ∨ c = 7 ∨ c = 8 := by omega
    rcases hcc with rfl | rfl | rfl | rfl | rfl | rfl | rfl | rfl | rfl
    · have e : (RX0, TX0, 8) = q := Option.some.inj hq
      subst e
      exact k0
    · have e : (RX1, TX1, 19) = q := Option.some.inj hq
      subst e
      exact k1
    · have e : (RX2, TX2, 10) = q := Option.some.inj hq
      subst e
      exact k2
    · have e : (RX3, TX3, 8) = q := Option.some.inj hq
      subst e
      exact k3
    · have e : (RX4, TX4, 15) = q := Option.some.inj hq
      subst e
      exact k4
    · have e : (RX5, TX5, 7) = q := Option.some.inj hq
      subst e
      exact k5
    · have e : (RX6, TX6, 9) = q := Option.some.inj hq
      subst e
      exact k6
    · have e : (RJ0, TJ0, 4) = q := Option.some.inj hq
      subst e
      exact k7
    · have e : (RJ4, TJ4, 4) = q := Option.some.inj hq
      subst e
      exact k8
  · have hc : k < 5 := (List.getElem?_eq_some_iff.mp hk).1
    have hcc : k = 0 ∨ k = 1 ∨ k = 2 ∨ k = 3 ∨ k = 4 := by omega
    rcases hcc with rfl | rfl | rfl | rfl | rfl
    · have e : (z_int, (.int : FieldType)) = q := Option.some.inj hk
      subst e
      exact ⟨fun n z => ⟨(fun k h => by cases h), a_int, g_int, p_int, h_int⟩, f_int⟩
    · have e : (z_long, (.long : FieldType)) = q := Option.some.inj hk
      subst e
      exact ⟨fun n z => ⟨(fun k h => by cases h), a_long, g_long, p_long, h_long⟩, f_long⟩
    · have e : (z_byte, (.byte : FieldType)) = q := Option.some.inj hk
      subst e
      exact ⟨fun n z => ⟨(fun k h => by cases h), a_byte, g_byte, p_byte, h_byte⟩, f_byte⟩
    · have e : (z_a, (.array .int : FieldType)) = q := Option.some.inj hk
      subst e
      exact ⟨fun n z => ⟨(fun k h => by cases h), a_a, g_a, p_a, h_a⟩, f_a⟩
    · have e : (z_boolean, (.boolean : FieldType)) = q := Option.some.inj hk
      subst e
      exact ⟨fun n z => ⟨(fun k h => by cases h), a_boolean, g_boolean, p_boolean, h_boolean⟩, f_boolean⟩
theorem room_le {s : State} {pl : Platform} {r r' : Room} (h : s.hasRoom pl r = true) (h1 : r'.frames ≤ r.frames) (h2 : r'.cells ≤ r.cells) (h3 : r'.slots ≤ r.slots) (h4 : r'.locals ≤ r.locals) : s.hasRoom pl r' = true := by
  simp only [State.hasRoom, Bool.and_eq_true, decide_eq_true_eq] at h ⊢
  obtain ⟨⟨⟨⟨a, b1, b2, b3, b4, b5⟩, c⟩, d⟩, f⟩ := h
  exact ⟨⟨⟨⟨by omega, by omega, by omega, by omega, by omega, b5⟩, by omega⟩, by omega⟩, f⟩
theorem W.dropS {p : Program} {l : Launch} {e : Env} {s : State} {m : MethodId} {args : Array Value} {below : List Frame} {meth : Method} {c : Code} {Q : State → Prop} {R : Room} {H : Heap} {locs L' : List Loc} {cells slots : Nat} {g : JFrame} (hd : ∀ x ∈ locs, x ∈ L' ∨ s.heap.size ≤ x.base) (k : W p l e R s m args below meth c H L' cells slots Q g) : W p l e R s m args below meth c H locs cells slots Q g := fun T hT X => k T hT (X.sift hd)
theorem W.roomIn {p : Program} {l : Launch} {e : Env} {s : State} {m : MethodId} {args : Array Value} {below : List Frame} {meth : Method} {c : Code} {Q : State → Prop} {H : Heap} {locs : List Loc} {cells slots : Nat} {g : JFrame} (k : s.hasRoom e.platform room_1 = true → W p l e (rk 2048 600086 7301442) s m args below meth c H locs cells slots Q g) : W p l e room_1 s m args below meth c H locs cells slots Q g := fun T hT X => k X.room T hT ⟨X.admits, X.cas, X.clock, X.frames, room_le X.room (by decide) (by decide) (by decide) (by decide), X.hears, X.method, X.code, X.here, X.tail, X.warmed, X.limits, X.bytes, X.same⟩
theorem W.roomOut {p : Program} {l : Launch} {e : Env} {s : State} {m : MethodId} {args : Array Value} {below : List Frame} {meth : Method} {c : Code} {Q : State → Prop} {H : Heap} {locs : List Loc} {cells slots : Nat} {g : JFrame} (h : s.hasRoom e.platform room_1 = true) (k : W p l e room_1 s m args below meth c H locs cells slots Q g) : W p l e (rk 2048 600086 7301442) s m args below meth c H locs cells slots Q g := fun T hT X => k T hT ⟨X.admits, X.cas, X.clock, X.frames, h, X.hears, X.method, X.code, X.here, X.tail, X.warmed, X.limits, X.bytes, X.same⟩
end STARTS
