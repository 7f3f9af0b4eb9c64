theorem wq_521 : Cond.code yX5_at cX5_at 2 (some .int) ∈ lw_g := lw_g_mk (tb_2 (List.mem_of_getElem? (i := 217) rfl)) rfl
theorem wq_78 : Cond.initialized RX5 ∈ lw_g := lw_g_mk (tb_1 (List.mem_of_getElem? (i := 14) rfl)) rfl
theorem wq_520 : Cond.static yX5_at ∈ lw_g := lw_g_mk (tb_2 (List.mem_of_getElem? (i := 216) rfl)) rfl
theorem wq_977 : Cond.code yX5_at_ cX5_at_ 2 (some .long) ∈ lw_g := lw_g_mk (tb_4 (List.mem_of_getElem? (i := 193) rfl)) rfl
theorem wq_976 : Cond.static yX5_at_ ∈ lw_g := lw_g_mk (tb_4 (List.mem_of_getElem? (i := 192) rfl)) rfl
theorem wq_178 : Cond.code yX5_put cX5_put 3 none ∈ lw_g := lw_g_mk (tb_1 (List.mem_of_getElem? (i := 114) rfl)) rfl
theorem wq_177 : Cond.static yX5_put ∈ lw_g := lw_g_mk (tb_1 (List.mem_of_getElem? (i := 113) rfl)) rfl
theorem wq_175 : Cond.code yX5_put_ cX5_put_ 4 none ∈ lw_g := lw_g_mk (tb_1 (List.mem_of_getElem? (i := 111) rfl)) rfl
theorem wq_174 : Cond.static yX5_put_ ∈ lw_g := lw_g_mk (tb_1 (List.mem_of_getElem? (i := 110) rfl)) rfl
theorem dX5_at_0 : decode cX5_at 0 = .ok (.iload_n 1, 1) := by decide +kernel
theorem dX5_at_1 : decode cX5_at 1 = .ok (.ifCond .lt 15, 3) := by decide +kernel
theorem dX5_at_4 : decode cX5_at 4 = .ok (.iload_n 1, 1) := by decide +kernel
theorem dX5_at_5 : decode cX5_at 5 = .ok (.aload_n 0, 1) := by decide +kernel
theorem dX5_at_6 : decode cX5_at 6 = .ok (.arraylength, 1) := by decide +kernel
theorem dX5_at_7 : decode cX5_at 7 = .ok (.if_icmp .ge 9, 3) := by decide +kernel
theorem dX5_at_10 : decode cX5_at 10 = .ok (.aload_n 0, 1) := by decide +kernel
theorem dX5_at_11 : decode cX5_at 11 = .ok (.iload_n 1, 1) := by decide +kernel
theorem dX5_at_12 : decode cX5_at 12 = .ok (.iaload, 1) := by decide +kernel
theorem dX5_at_13 : decode cX5_at 13 = .ok (.goto 4, 3) := by decide +kernel
theorem dX5_at_16 : decode cX5_at 16 = .ok (.iconst 0, 1) := by decide +kernel
theorem dX5_at_17 : decode cX5_at 17 = .ok (.ireturn, 1) := by decide +kernel
theorem dX5_at__0 : decode cX5_at_ 0 = .ok (.iload_n 1, 1) := by decide +kernel
theorem dX5_at__1 : decode cX5_at_ 1 = .ok (.ifCond .lt 15, 3) := by decide +kernel
theorem dX5_at__4 : decode cX5_at_ 4 = .ok (.iload_n 1, 1) := by decide +kernel
theorem dX5_at__5 : decode cX5_at_ 5 = .ok (.aload_n 0, 1) := by decide +kernel
theorem dX5_at__6 : decode cX5_at_ 6 = .ok (.arraylength, 1) := by decide +kernel
theorem dX5_at__7 : decode cX5_at_ 7 = .ok (.if_icmp .ge 9, 3) := by decide +kernel
theorem dX5_at__10 : decode cX5_at_ 10 = .ok (.aload_n 0, 1) := by decide +kernel
theorem dX5_at__11 : decode cX5_at_ 11 = .ok (.iload_n 1, 1) := by decide +kernel
theorem dX5_at__12 : decode cX5_at_ 12 = .ok (.laload, 1) := by decide +kernel
theorem dX5_at__13 : decode cX5_at_ 13 = .ok (.goto 4, 3) := by decide +kernel
theorem dX5_at__16 : decode cX5_at_ 16 = .ok (.lconst 0, 1) := by decide +kernel
theorem dX5_at__17 : decode cX5_at_ 17 = .ok (.lreturn, 1) := by decide +kernel
theorem dX5_put_0 : decode cX5_put 0 = .ok (.iload_n 1, 1) := by decide +kernel
theorem dX5_put_1 : decode cX5_put 1 = .ok (.ifCond .lt 13, 3) := by decide +kernel
theorem dX5_put_4 : decode cX5_put 4 = .ok (.iload_n 1, 1) := by decide +kernel
theorem dX5_put_5 : decode cX5_put 5 = .ok (.aload_n 0, 1) := by decide +kernel
theorem dX5_put_6 : decode cX5_put 6 = .ok (.arraylength, 1) := by decide +kernel
theorem dX5_put_7 : decode cX5_put 7 = .ok (.if_icmp .ge 7, 3) := by decide +kernel
theorem dX5_put_10 : decode cX5_put 10 = .ok (.aload_n 0, 1) := by decide +kernel
theorem dX5_put_11 : decode cX5_put 11 = .ok (.iload_n 1, 1) := by decide +kernel
theorem dX5_put_12 : decode cX5_put 12 = .ok (.iload_n 2, 1) := by decide +kernel
theorem dX5_put_13 : decode cX5_put 13 = .ok (.iastore, 1) := by decide +kernel
theorem dX5_put_14 : decode cX5_put 14 = .ok (.return_, 1) := by decide +kernel
theorem dX5_put__0 : decode cX5_put_ 0 = .ok (.iload_n 1, 1) := by decide +kernel
theorem dX5_put__1 : decode cX5_put_ 1 = .ok (.ifCond .lt 13, 3) := by decide +kernel
theorem dX5_put__4 : decode cX5_put_ 4 = .ok (.iload_n 1, 1) := by decide +kernel
theorem dX5_put__5 : decode cX5_put_ 5 = .ok (.aload_n 0, 1) := by decide +kernel
theorem dX5_put__6 : decode cX5_put_ 6 = .ok (.arraylength, 1) := by decide +kernel
theorem dX5_put__7 : decode cX5_put_ 7 = .ok (.if_icmp .ge 7, 3) := by decide +kernel
theorem dX5_put__10 : decode cX5_put_ 10 = .ok (.aload_n 0, 1) := by decide +kernel
theorem dX5_put__11 : decode cX5_put_ 11 = .ok (.iload_n 1, 1) := by decide +kernel
theorem dX5_put__12 : decode cX5_put_ 12 = .ok (.lload_n 2, 1) := by decide +kernel
theorem dX5_put__13 : decode cX5_put_ 13 = .ok (.lastore, 1) := by decide +kernel
theorem dX5_put__14 : decode cX5_put_ 14 = .ok (.return_, 1) := by decide +kernel
theorem mi_X5_at : MInfo yX5_at cX5_at 2 (some .int) 2 := ⟨wq_521, wq_78, by decide, ⟨by decide +kernel, by decide +kernel, by decide +kernel⟩, by decide +kernel⟩
theorem mi_X5_at_ : MInfo yX5_at_ cX5_at_ 2 (some .long) 2 := ⟨wq_977, wq_78, by decide, ⟨by decide +kernel, by decide +kernel, by decide +kernel⟩, by decide +kernel⟩
theorem mi_X5_put : MInfo yX5_put cX5_put 3 none 3 := ⟨wq_178, wq_78, by decide, ⟨by decide +kernel, by decide +kernel, by decide +kernel⟩, by decide +kernel⟩
theorem mi_X5_put_ : MInfo yX5_put_ cX5_put_ 4 none 3 := ⟨wq_175, wq_78, by decide, ⟨by decide +kernel, by decide +kernel, by decide +kernel⟩, by decide +kernel⟩
theorem va_D_one {q : Nat × va_E} : va_D (fun _ => True) [q] := by
  refine ⟨fun i j x y hi hj _ => ?_, fun _ _ _ => trivial⟩
  have h1 : i < 1 := (List.getElem?_eq_some_iff.mp hi).1
  have h2 : j < 1 := (List.getElem?_eq_some_iff.mp hj).1
  omega
theorem va_P_one {D : va_G} {cl : List vw_C} {ws : va_W} {H : Heap} {q0 : Nat} {q : Nat × va_E} (hP : va_P D cl ws H) (h : ws[q0]? = some q) : va_P D cl [q] H := hP.sub [q0] (by simp [h])
/-- one cell of the world is another one -/
theorem TS.set1 {cl : List vw_C} {D : va_G} {ws ws' : va_W} {A : Nat → Prop} {H0 H H1 : Heap} {locs locs1 : List Loc} {q0 a : Nat} {e0 e : va_E} (hT : TS cl D ws A H0 H locs) (ha : ws[q0]? = some (a, e0)) (hset : ws.set q0 (a, e) = ws')
    (hk : ∀ q : Nat, q < H.size → ¬ va_A [(a, e0)] H.size q → H1[q]? = H[q]?) (hP1 : va_P D cl [(a, e)] H1) (hS1 : va_S A H0 H1 locs1) : TS cl D ws' A H0 H1 locs1 := by
  subst hset
  refine ⟨fun k q hq => ?_, hT.2.1.set ha, hS1, hT.2.2.2⟩
  have hl := (List.getElem?_eq_some_iff.mp ha).1
  by_cases hkp : k = q0
  · subst hkp
    rw [List.getElem?_set_self hl] at hq
    cases hq
    exact hP1 0 _ rfl
  · rw [List.getElem?_set_ne (Ne.symm hkp)] at hq
    have hat := hT.1 k q hq
    refine hat.kept (hk q.1 hat.lt (fun z => ?_))
    rcases z with ⟨k2, e2, z⟩ | z
    · have : k2 < 1 := (List.getElem?_eq_some_iff.mp z).1
      have hk2 : k2 = 0 := by omega
      subst hk2
      simp only [List.getElem?_cons_zero, Option.some.injEq, Prod.mk.injEq] at z
      exact hkp (hT.2.1.1 k q0 q (a, e0) hq ha z.1.symm)
    · exact absurd hat.lt (by omega)
set_option maxRecDepth 100000 in
theorem c_at (l : Launch) (D : va_G) (Z : Nat → ClassId) (sz r n : Nat) (f : Nat → Int32) (i : Int32) (hn : n < 2 ^ 31) : Met l yX5_at (wy yX5_at cX5_at 2 (some .int)) (rk 0 0 0) (pre vwCl D Z [(r, .inl (Z 0, n, .inl f))] sz [.ref r, .int i]) (vp_Si (fun v => v = atv f n i)) 0 0 (fun _ => False) := by
  refine ro_of (ty := .int) (by decide +kernel) (Nat.le_of_ble_eq_true rfl) rfl ?_
  intro p e s m args below meth c Q hC hN hsz hP hD hK hret ls hl
  have hx := hC.1
  have hb := hC.2.1
  have hl : lv_has ls 2 [(0, .ref r), (1, .int i)] := hl
  refine lv_iload_n hx hb dX5_at_0 rfl (lv_at hl 1 rfl) ?_
  refine lv_if_lt (tgt := 16) hx hb dX5_at_1 (by decide) (fun c1 => ?_) (fun c1 => ?_)
  · refine lv_iconst (v := 0) hx hb dX5_at_16 (by decide) ?_
    exact hret 17 ls 0 (by rw [atv_out (inb_neg c1)]) rfl dX5_at_17
  · refine lv_iload_n hx hb dX5_at_4 rfl (lv_at hl 1 rfl) ?_
    refine lv_aload_n hx hb dX5_at_5 rfl (lv_at hl 0 rfl) ?_
    refine w_alen (q0 := 0) (t0 := 0) hC hK hP rfl rfl dX5_at_6 ?_
    refine lv_icmp_ge (tgt := 16) hx hb dX5_at_7 (by decide) (fun c2 => ?_) (fun c2 => ?_)
    · refine lv_iconst (v := 0) hx hb dX5_at_16 (by decide) ?_
      exact hret 17 ls 0 (by rw [atv_out (inb_big hn c2)]) rfl dX5_at_17
    · have hi := inb_mk hn c1 c2
      refine lv_aload_n hx hb dX5_at_10 rfl (lv_at hl 0 rfl) ?_
      refine lv_iload_n hx hb dX5_at_11 rfl (lv_at hl 1 rfl) ?_
      refine w_iald (q0 := 0) hC hK hP rfl hi dX5_at_12 ?_
      refine lv_goto (tgt := 17) hx hb dX5_at_13 (by decide) ?_
      exact hret 17 ls _ (by rw [atv_in hi]) rfl dX5_at_17
set_option maxRecDepth 100000 in
theorem c_at_ (l : Launch) (D : va_G) (Z : Nat → ClassId) (sz r n : Nat) (f : Nat → Int64) (i : Int32) (hn : n < 2 ^ 31) : Met l yX5_at_ (wy yX5_at_ cX5_at_ 2 (some .long)) (rk 0 0 0) (pre vwCl D Z [(r, .inl (Z 1, n, .inr (.inl f)))] sz [.ref r, .int i]) (vp_Sl (fun v => v = atl f n i)) 0 0 (fun _ => False) := by
  refine rol_of (by decide +kernel) (Nat.le_of_ble_eq_true rfl) rfl ?_
  intro p e s m args below meth c Q hC hN hsz hP hD hK hret ls hl
  have hx := hC.1
  have hb := hC.2.1
  have hl : lv_has ls 2 [(0, .ref r), (1, .int i)] := hl
  refine lv_iload_n hx hb dX5_at__0 rfl (lv_at hl 1 rfl) ?_
  refine lv_if_lt (tgt := 16) hx hb dX5_at__1 (by decide) (fun c1 => ?_) (fun c1 => ?_)
  · refine lv_lconst (v := 0) hx hb dX5_at__16 (by decide) ?_
    exact hret 17 ls 0 (by rw [atl_out (inb_neg c1)]) dX5_at__17
  · refine lv_iload_n hx hb dX5_at__4 rfl (lv_at hl 1 rfl) ?_
    refine lv_aload_n hx hb dX5_at__5 rfl (lv_at hl 0 rfl) ?_
    refine w_alen (q0 := 0) (t0 := 1) hC hK hP rfl rfl dX5_at__6 ?_
    refine lv_icmp_ge (tgt := 16) hx hb dX5_at__7 (by decide) (fun c2 => ?_) (fun c2 => ?_)
    · refine lv_lconst (v := 0) hx hb dX5_at__16 (by decide) ?_
      exact hret 17 ls 0 (by rw [atl_out (inb_big hn c2)]) dX5_at__17
    · have hi := inb_mk hn c1 c2
      refine lv_aload_n hx hb dX5_at__10 rfl (lv_at hl 0 rfl) ?_
      refine lv_iload_n hx hb dX5_at__11 rfl (lv_at hl 1 rfl) ?_
      refine w_lald (q0 := 0) hC hK hP rfl hi dX5_at__12 ?_
      refine lv_goto (tgt := 17) hx hb dX5_at__13 (by decide) ?_
      exact hret 17 ls _ (by rw [atl_in hi]) dX5_at__17
set_option maxRecDepth 100000 in
theorem c_put (l : Launch) (D : va_G) (Z : Nat → ClassId) (sz r n : Nat) (f : Nat → Int32) (i x : Int32) (hn : n < 2 ^ 31) : Met l yX5_put (wy yX5_put cX5_put 3 none) (rk 0 0 0) (pre vwCl D Z [(r, .inl (Z 0, n, .inl f))] sz [.ref r, .int i, .int x]) (poV vwCl D Z (fun g => [(r, .inl (Z 0, n, .inl g))]) f sz (fun g => g = putv f n i x)) 0 0 (va_A [(r, .inl (Z 0, n, .inl f))] sz) := by
  refine rwv_of (wsF := fun g => [(r, .inl (Z 0, n, .inl g))]) (by decide +kernel) (Nat.le_of_ble_eq_true rfl) rfl ?_
  intro p e s m args below meth c Q A hC hN hsz hnm hT hK hret ls hl
  have hx := hC.1
  have hb := hC.2.1
  have hl : lv_has ls 3 [(0, .ref r), (1, .int i), (2, .int x)] := hl
  refine lv_iload_n hx hb dX5_put_0 rfl (lv_at hl 1 rfl) ?_
  refine lv_if_lt (tgt := 14) hx hb dX5_put_1 (by decide) (fun c1 => ?_) (fun c1 => ?_)
  · exact hret 14 ls _ _ f (by rw [putv_out (inb_neg c1)]) hT dX5_put_14
  · refine lv_iload_n hx hb dX5_put_4 rfl (lv_at hl 1 rfl) ?_
    refine lv_aload_n hx hb dX5_put_5 rfl (lv_at hl 0 rfl) ?_
    refine w_alen (q0 := 0) (t0 := 0) hC hK hT.1 rfl rfl dX5_put_6 ?_
    refine lv_icmp_ge (tgt := 14) hx hb dX5_put_7 (by decide) (fun c2 => ?_) (fun c2 => ?_)
    · exact hret 14 ls _ _ f (by rw [putv_out (inb_big hn c2)]) hT dX5_put_14
    · have hi := inb_mk hn c1 c2
      refine lv_aload_n hx hb dX5_put_10 rfl (lv_at hl 0 rfl) ?_
      refine lv_iload_n hx hb dX5_put_11 rfl (lv_at hl 1 rfl) ?_
      refine lv_iload_n hx hb dX5_put_12 rfl (lv_at hl 2 rfl) ?_
      refine w_iast (q0 := 0) (ws' := [(r, .inl (Z 0, n, .inl (putv f n i x)))]) hC hK hT rfl hi (by rw [putv_in hi]; rfl) dX5_put_13 (fun H locs hT => ?_)
      exact hret 14 ls _ _ _ rfl hT dX5_put_14
set_option maxRecDepth 100000 in
theorem c_put_ (l : Launch) (D : va_G) (Z : Nat → ClassId) (sz r n : Nat) (f : Nat → Int64) (i : Int32) (x : Int64) (hn : n < 2 ^ 31) : Met l yX5_put_ (wy yX5_put_ cX5_put_ 4 none) (rk 0 0 0) (pre vwCl D Z [(r, .inl (Z 1, n, .inr (.inl f)))] sz [.ref r, .int i, .long x]) (poV vwCl D Z (fun g => [(r, .inl (Z 1, n, .inr (.inl g)))]) f sz (fun g => g = putl f n i x)) 0 0 (va_A [(r, .inl (Z 1, n, .inr (.inl f)))] sz) := by
  refine rwv_of (wsF := fun g => [(r, .inl (Z 1, n, .inr (.inl g)))]) (by decide +kernel) (Nat.le_of_ble_eq_true rfl) rfl ?_
  intro p e s m args below meth c Q A hC hN hsz hnm hT hK hret ls hl
  have hx := hC.1
  have hb := hC.2.1
  have hl : lv_has ls 4 [(0, .ref r), (1, .int i), (2, .long x)] := hl
  refine lv_iload_n hx hb dX5_put__0 rfl (lv_at hl 1 rfl) ?_
  refine lv_if_lt (tgt := 14) hx hb dX5_put__1 (by decide) (fun c1 => ?_) (fun c1 => ?_)
  · exact hret 14 ls _ _ f (by rw [putl_out (inb_neg c1)]) hT dX5_put__14
  · refine lv_iload_n hx hb dX5_put__4 rfl (lv_at hl 1 rfl) ?_
    refine lv_aload_n hx hb dX5_put__5 rfl (lv_at hl 0 rfl) ?_
    refine w_alen (q0 := 0) (t0 := 1) hC hK hT.1 rfl rfl dX5_put__6 ?_
    refine lv_icmp_ge (tgt := 14) hx hb dX5_put__7 (by decide) (fun c2 => ?_) (fun c2 => ?_)
    · exact hret 14 ls _ _ f (by rw [putl_out (inb_big hn c2)]) hT dX5_put__14
    · have hi := inb_mk hn c1 c2
      refine lv_aload_n hx hb dX5_put__10 rfl (lv_at hl 0 rfl) ?_
      refine lv_iload_n hx hb dX5_put__11 rfl (lv_at hl 1 rfl) ?_
      refine lv_lload_n hx hb dX5_put__12 rfl (lv_at hl 2 rfl) ?_
      refine w_last (q0 := 0) (ws' := [(r, .inl (Z 1, n, .inr (.inl (putl f n i x))))]) hC hK hT rfl hi (by rw [putl_in hi]; rfl) dX5_put__13 (fun H locs hT => ?_)
      exact hret 14 ls _ _ _ rfl hT dX5_put__14
section ATPUT
variable {p : Program} {l : Launch} {e : Env} {s : State} {m : MethodId} {args : Array Value} {below : List Frame} {meth : Method} {c : Code} {H H0 : Heap} {locs : List Loc} {cells slots : Nat} {Q : State → Prop} {rn mcR msR : Nat}
variable {pc : Nat} {ls : Array Slot} {rest : List Value} {A : Nat → Prop} {D : va_G} {Z : Nat → ClassId} {ws ws' : va_W}
variable {cc : ByteArray} {nL index : Nat} {own : String} {a q0 n : Nat}
theorem w_at {f : Nat → Int32} {i : Int32} (hC : CallFix p m c cc nL s args lw_g own) (hN : NW s) (hK : va_K D vwCl (tysG Z) s) (hP : va_P D vwCl ws H) (hl : Cond.methodLinkNest own index yX5_at RX5 ∈ lw_n) (ha : ws[q0]? = some (a, .inl (Z 0, n, .inl f))) (hn : n < 2 ^ 31) (hlt : 0 < rn) (hsize : ls.size = nL) (hW : (rest.map fun v => v.category).sum ≤ 8) (hf : cells + 0 ≤ mcR ∧ slots + 0 ≤ msR) (hdg : decode cc pc = .ok (.invokestatic index, 3))
    (kk : W p l e (rk rn mcR msR) s m args below meth c H locs cells slots Q (F0 m (pc + 3) ls (.int (atv f n i) :: rest))) : W p l e (rk rn mcR msR) s m args below meth c H locs cells slots Q (F0 m pc ls (.int i :: .ref a :: rest)) :=
  ro_go (runSN (As := [.ref a, .int i]) hC hN (c_at l D Z H.size a n f i hn) mi_X5_at hl wq_520 hlt (va_P_one hP ha) va_D_one hK rfl hsize rfl hW hdg hf) (fun r hr => by rw [hr]; exact kk)
theorem w_atS {f : Nat → Int32} {i : Int32} (hC : CallFix p m c cc nL s args lw_g own) (hN : NW s) (hK : va_K D vwCl (tysG Z) s) (hP : va_P D vwCl ws H) (hl : Cond.methodLink own index yX5_at ∈ lw_g) (ha : ws[q0]? = some (a, .inl (Z 0, n, .inl f))) (hn : n < 2 ^ 31) (hlt : 0 < rn) (hsize : ls.size = nL) (hW : (rest.map fun v => v.category).sum ≤ 8) (hf : cells + 0 ≤ mcR ∧ slots + 0 ≤ msR) (hdg : decode cc pc = .ok (.invokestatic index, 3))
    (kk : W p l e (rk rn mcR msR) s m args below meth c H locs cells slots Q (F0 m (pc + 3) ls (.int (atv f n i) :: rest))) : W p l e (rk rn mcR msR) s m args below meth c H locs cells slots Q (F0 m pc ls (.int i :: .ref a :: rest)) :=
  ro_go (runS (As := [.ref a, .int i]) hC hN (c_at l D Z H.size a n f i hn) mi_X5_at hl wq_520 hlt (va_P_one hP ha) va_D_one hK rfl hsize rfl hW hdg hf) (fun r hr => by rw [hr]; exact kk)
theorem w_atl {f : Nat → Int64} {i : Int32} (hC : CallFix p m c cc nL s args lw_g own) (hN : NW s) (hK : va_K D vwCl (tysG Z) s) (hP : va_P D vwCl ws H) (hl : Cond.methodLinkNest own index yX5_at_ RX5 ∈ lw_n) (ha : ws[q0]? = some (a, .inl (Z 1, n, .inr (.inl f)))) (hn : n < 2 ^ 31) (hlt : 0 < rn) (hsize : ls.size = nL) (hW : (rest.map fun v => v.category).sum ≤ 8) (hf : cells + 0 ≤ mcR ∧ slots + 0 ≤ msR) (hdg : decode cc pc = .ok (.invokestatic index, 3))
    (kk : W p l e (rk rn mcR msR) s m args below meth c H locs cells slots Q (F0 m (pc + 3) ls (.long (atl f n i) :: rest))) : W p l e (rk rn mcR msR) s m args below meth c H locs cells slots Q (F0 m pc ls (.int i :: .ref a :: rest)) :=
  rol_go (runSN (As := [.ref a, .int i]) hC hN (c_at_ l D Z H.size a n f i hn) mi_X5_at_ hl wq_976 hlt (va_P_one hP ha) va_D_one hK rfl hsize rfl hW hdg hf) (fun r hr => by rw [hr]; exact kk)
theorem w_pu {f : Nat → Int32} {i x : Int32} (hC : CallFix p m c cc nL s args lw_g own) (hN : NW s) (hK : va_K D vwCl (tysG Z) s) (hT : TS vwCl D ws A H0 H locs) (hl : Cond.methodLinkNest own index yX5_put RX5 ∈ lw_n) (ha : ws[q0]? = some (a, .inl (Z 0, n, .inl f))) (hset : ws.set q0 (a, .inl (Z 0, n, .inl (putv f n i x))) = ws') (hn : n < 2 ^ 31) (hlt : 0 < rn) (hsize : ls.size = nL) (hW : (rest.map fun v => v.category).sum ≤ 8) (hf : cells + 0 ≤ mcR ∧ slots + 0 ≤ msR) (hdg : decode cc pc = .ok (.invokestatic index, 3))
    (kk : ∀ (H1 : Heap) (locs1 : List Loc), TS vwCl D ws' A H0 H1 locs1 → W p l e (rk rn mcR msR) s m args below meth c H1 locs1 cells slots Q (F0 m (pc + 3) ls rest)) : W p l e (rk rn mcR msR) s m args below meth c H locs cells slots Q (F0 m pc ls (.int x :: .int i :: .ref a :: rest)) := by
  have hF : ∀ q, va_A [(a, .inl (Z 0, n, .inl f))] H.size q → A q := va_free hT.2.1 hT.2.2.1 hT.2.2.2 [q0] (by simp [ha])
  refine va_callv (runSN (As := [.ref a, .int i, .int x]) hC hN (c_put l D Z H.size a n f i x hn) mi_X5_put hl wq_177 hlt (va_P_one hT.1 ha) va_D_one hK rfl hsize rfl hW hdg hf) hT.2.2.1 (fun q _ h => hF q h) hF (fun u t H1 locs1 ht hvm hk hB hz1 hk1 hS1 => ?_)
  obtain ⟨hP1, _, _⟩ := hB
  rw [ht, hk] at hP1
  exact kk H1 locs1 (hT.set1 ha hset hk1 hP1 hS1)
theorem w_puS {f : Nat → Int32} {i x : Int32} (hC : CallFix p m c cc nL s args lw_g own) (hN : NW s) (hK : va_K D vwCl (tysG Z) s) (hT : TS vwCl D ws A H0 H locs) (hl : Cond.methodLink own index yX5_put ∈ lw_g) (ha : ws[q0]? = some (a, .inl (Z 0, n, .inl f))) (hset : ws.set q0 (a, .inl (Z 0, n, .inl (putv f n i x))) = ws') (hn : n < 2 ^ 31) (hlt : 0 < rn) (hsize : ls.size = nL) (hW : (rest.map fun v => v.category).sum ≤ 8) (hf : cells + 0 ≤ mcR ∧ slots + 0 ≤ msR) (hdg : decode cc pc = .ok (.invokestatic index, 3))
    (kk : ∀ (H1 : Heap) (locs1 : List Loc), TS vwCl D ws' A H0 H1 locs1 → W p l e (rk rn mcR msR) s m args below meth c H1 locs1 cells slots Q (F0 m (pc + 3) ls rest)) : W p l e (rk rn mcR msR) s m args below meth c H locs cells slots Q (F0 m pc ls (.int x :: .int i :: .ref a :: rest)) := by
  have hF : ∀ q, va_A [(a, .inl (Z 0, n, .inl f))] H.size q → A q := va_free hT.2.1 hT.2.2.1 hT.2.2.2 [q0] (by simp [ha])
  refine va_callv (runS (As := [.ref a, .int i, .int x]) hC hN (c_put l D Z H.size a n f i x hn) mi_X5_put hl wq_177 hlt (va_P_one hT.1 ha) va_D_one hK rfl hsize rfl hW hdg hf) hT.2.2.1 (fun q _ h => hF q h) hF (fun u t H1 locs1 ht hvm hk hB hz1 hk1 hS1 => ?_)
  obtain ⟨hP1, _, _⟩ := hB
  rw [ht, hk] at hP1
  exact kk H1 locs1 (hT.set1 ha hset hk1 hP1 hS1)
theorem w_pul {f : Nat → Int64} {i : Int32} {x : Int64} (hC : CallFix p m c cc nL s args lw_g own) (hN : NW s) (hK : va_K D vwCl (tysG Z) s) (hT : TS vwCl D ws A H0 H locs) (hl : Cond.methodLinkNest own index yX5_put_ RX5 ∈ lw_n) (ha : ws[q0]? = some (a, .inl (Z 1, n, .inr (.inl f)))) (hset : ws.set q0 (a, .inl (Z 1, n, .inr (.inl (putl f n i x)))) = ws') (hn : n < 2 ^ 31) (hlt : 0 < rn) (hsize : ls.size = nL) (hW : (rest.map fun v => v.category).sum ≤ 8) (hf : cells + 0 ≤ mcR ∧ slots + 0 ≤ msR) (hdg : decode cc pc = .ok (.invokestatic index, 3))
    (kk : ∀ (H1 : Heap) (locs1 : List Loc), TS vwCl D ws' A H0 H1 locs1 → W p l e (rk rn mcR msR) s m args below meth c H1 locs1 cells slots Q (F0 m (pc + 3) ls rest)) : W p l e (rk rn mcR msR) s m args below meth c H locs cells slots Q (F0 m pc ls (.long x :: .int i :: .ref a :: rest)) := by
  have hF : ∀ q, va_A [(a, .inl (Z 1, n, .inr (.inl f)))] H.size q → A q := va_free hT.2.1 hT.2.2.1 hT.2.2.2 [q0] (by simp [ha])
  refine va_callv (runSN (As := [.ref a, .int i, .long x]) hC hN (c_put_ l D Z H.size a n f i x hn) mi_X5_put_ hl wq_174 hlt (va_P_one hT.1 ha) va_D_one hK rfl hsize rfl hW hdg hf) hT.2.2.1 (fun q _ h => hF q h) hF (fun u t H1 locs1 ht hvm hk hB hz1 hk1 hS1 => ?_)
  obtain ⟨hP1, _, _⟩ := hB
  rw [ht, hk] at hP1
  exact kk H1 locs1 (hT.set1 ha hset hk1 hP1 hS1)
end ATPUT
