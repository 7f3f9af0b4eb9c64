theorem wq_1250 : Cond.code yJ5_isLatin1_aae02 cJ5_isLatin1_aae02 1 (some .boolean) ∈ lw_g := lw_g_mk (tb_5 (List.mem_of_getElem? (i := 226) rfl)) rfl
theorem wq_1251 : Cond.fieldLink RJ5 18 RJ0 "COMPACT_STRINGS" "Z" ∈ lw_g := lw_g_mk (tb_5 (List.mem_of_getElem? (i := 227) rfl)) rfl
theorem wq_1275 : Cond.code yJ5_inflateIfNeededFor_a7421 cJ5_inflateIfNeededFor_a7421 2 none ∈ lw_g := lw_g_mk (tb_6 (List.mem_of_getElem? (i := 11) rfl)) rfl
theorem wq_1276 : Cond.methodLink RJ5 40 yJ0_coder_7d493 ∈ lw_g := lw_g_mk (tb_6 (List.mem_of_getElem? (i := 12) rfl)) rfl
theorem wq_1306 : Cond.code yJ0_getBytes_840e7 cJ0_getBytes_840e7 4 none ∈ lw_g := lw_g_mk (tb_6 (List.mem_of_getElem? (i := 42) rfl)) rfl
theorem wq_1307 : Cond.methodLink RJ0 212 arraycopyName ∈ lw_g := lw_g_mk (tb_6 (List.mem_of_getElem? (i := 43) rfl)) rfl
theorem wq_1271 : Cond.code yJ5_putStringAt_47b60 cJ5_putStringAt_47b60 3 none ∈ lw_g := lw_g_mk (tb_6 (List.mem_of_getElem? (i := 7) rfl)) rfl
theorem wq_1272 : Cond.methodLink RJ5 397 yJ5_inflateIfNeededFor_a7421 ∈ lw_g := lw_g_mk (tb_6 (List.mem_of_getElem? (i := 8) rfl)) rfl
theorem wq_1494 : Cond.sameMethod yJ5_inflateIfNeededFor_a7421.cls yJ5_inflateIfNeededFor_a7421.cls yJ5_inflateIfNeededFor_a7421.name yJ5_inflateIfNeededFor_a7421.desc ∈ lw_g := lw_g_mk (tb_6 (List.mem_of_getElem? (i := 230) rfl)) rfl
theorem wq_1274 : Cond.instanceMethod yJ5_inflateIfNeededFor_a7421 ∈ lw_g := lw_g_mk (tb_6 (List.mem_of_getElem? (i := 10) rfl)) rfl
theorem wq_1303 : Cond.methodLink RJ5 399 yJ0_getBytes_840e7 ∈ lw_g := lw_g_mk (tb_6 (List.mem_of_getElem? (i := 39) rfl)) rfl
theorem wq_1304 : Cond.instanceMethod yJ0_getBytes_840e7 ∈ lw_g := lw_g_mk (tb_6 (List.mem_of_getElem? (i := 40) rfl)) rfl
theorem wq_1305 : Cond.selects RJ0 yJ0_getBytes_840e7 yJ0_getBytes_840e7 ∈ lw_g := lw_g_mk (tb_6 (List.mem_of_getElem? (i := 41) rfl)) rfl
theorem dJ5_isLatin1_aae02_0 : decode cJ5_isLatin1_aae02 0 = .ok (.getstatic 18, 3) := by decide +kernel
theorem dJ5_isLatin1_aae02_3 : decode cJ5_isLatin1_aae02 3 = .ok (.ifCond .eq 14, 3) := by decide +kernel
theorem dJ5_isLatin1_aae02_6 : decode cJ5_isLatin1_aae02 6 = .ok (.aload_n 0, 1) := by decide +kernel
theorem dJ5_isLatin1_aae02_7 : decode cJ5_isLatin1_aae02 7 = .ok (.getfield 22, 3) := by decide +kernel
theorem dJ5_isLatin1_aae02_10 : decode cJ5_isLatin1_aae02 10 = .ok (.ifCond .ne 7, 3) := by decide +kernel
theorem dJ5_isLatin1_aae02_13 : decode cJ5_isLatin1_aae02 13 = .ok (.iconst 1, 1) := by decide +kernel
theorem dJ5_isLatin1_aae02_14 : decode cJ5_isLatin1_aae02 14 = .ok (.goto 4, 3) := by decide +kernel
theorem dJ5_isLatin1_aae02_17 : decode cJ5_isLatin1_aae02 17 = .ok (.iconst 0, 1) := by decide +kernel
theorem dJ5_isLatin1_aae02_18 : decode cJ5_isLatin1_aae02 18 = .ok (.ireturn, 1) := by decide +kernel
theorem dJ5_inflateIfNeededFor_a7421_0 : decode cJ5_inflateIfNeededFor_a7421 0 = .ok (.getstatic 18, 3) := by decide +kernel
theorem dJ5_inflateIfNeededFor_a7421_3 : decode cJ5_inflateIfNeededFor_a7421 3 = .ok (.ifCond .eq 18, 3) := by decide +kernel
theorem dJ5_inflateIfNeededFor_a7421_6 : decode cJ5_inflateIfNeededFor_a7421 6 = .ok (.aload_n 0, 1) := by decide +kernel
theorem dJ5_inflateIfNeededFor_a7421_7 : decode cJ5_inflateIfNeededFor_a7421 7 = .ok (.getfield 22, 3) := by decide +kernel
theorem dJ5_inflateIfNeededFor_a7421_10 : decode cJ5_inflateIfNeededFor_a7421 10 = .ok (.aload_n 1, 1) := by decide +kernel
theorem dJ5_inflateIfNeededFor_a7421_11 : decode cJ5_inflateIfNeededFor_a7421 11 = .ok (.invokevirtual 40, 3) := by decide +kernel
theorem dJ5_inflateIfNeededFor_a7421_14 : decode cJ5_inflateIfNeededFor_a7421 14 = .ok (.if_icmp .eq 7, 3) := by decide +kernel
theorem dJ5_inflateIfNeededFor_a7421_17 : decode cJ5_inflateIfNeededFor_a7421 17 = .ok (.aload_n 0, 1) := by decide +kernel
theorem dJ5_inflateIfNeededFor_a7421_18 : decode cJ5_inflateIfNeededFor_a7421 18 = .ok (.invokevirtual 195, 3) := by decide +kernel
theorem dJ5_inflateIfNeededFor_a7421_21 : decode cJ5_inflateIfNeededFor_a7421 21 = .ok (.return_, 1) := by decide +kernel
theorem dJ0_getBytes_840e7_0 : decode cJ0_getBytes_840e7 0 = .ok (.aload_n 0, 1) := by decide +kernel
theorem dJ0_getBytes_840e7_1 : decode cJ0_getBytes_840e7 1 = .ok (.invokevirtual 335, 3) := by decide +kernel
theorem dJ0_getBytes_840e7_4 : decode cJ0_getBytes_840e7 4 = .ok (.iload_n 3, 1) := by decide +kernel
theorem dJ0_getBytes_840e7_5 : decode cJ0_getBytes_840e7 5 = .ok (.if_icmp .ne 23, 3) := by decide +kernel
theorem dJ0_getBytes_840e7_8 : decode cJ0_getBytes_840e7 8 = .ok (.aload_n 0, 1) := by decide +kernel
theorem dJ0_getBytes_840e7_9 : decode cJ0_getBytes_840e7 9 = .ok (.getfield 9, 3) := by decide +kernel
theorem dJ0_getBytes_840e7_12 : decode cJ0_getBytes_840e7 12 = .ok (.iconst 0, 1) := by decide +kernel
theorem dJ0_getBytes_840e7_13 : decode cJ0_getBytes_840e7 13 = .ok (.aload_n 1, 1) := by decide +kernel
theorem dJ0_getBytes_840e7_14 : decode cJ0_getBytes_840e7 14 = .ok (.iload_n 2, 1) := by decide +kernel
theorem dJ0_getBytes_840e7_15 : decode cJ0_getBytes_840e7 15 = .ok (.iload_n 3, 1) := by decide +kernel
theorem dJ0_getBytes_840e7_16 : decode cJ0_getBytes_840e7 16 = .ok (.ishl, 1) := by decide +kernel
theorem dJ0_getBytes_840e7_17 : decode cJ0_getBytes_840e7 17 = .ok (.aload_n 0, 1) := by decide +kernel
theorem dJ0_getBytes_840e7_18 : decode cJ0_getBytes_840e7 18 = .ok (.getfield 9, 3) := by decide +kernel
theorem dJ0_getBytes_840e7_21 : decode cJ0_getBytes_840e7 21 = .ok (.arraylength, 1) := by decide +kernel
theorem dJ0_getBytes_840e7_22 : decode cJ0_getBytes_840e7 22 = .ok (.invokestatic 212, 3) := by decide +kernel
theorem dJ0_getBytes_840e7_25 : decode cJ0_getBytes_840e7 25 = .ok (.goto 18, 3) := by decide +kernel
theorem dJ0_getBytes_840e7_28 : decode cJ0_getBytes_840e7 28 = .ok (.aload_n 0, 1) := by decide +kernel
theorem dJ0_getBytes_840e7_29 : decode cJ0_getBytes_840e7 29 = .ok (.getfield 9, 3) := by decide +kernel
theorem dJ0_getBytes_840e7_32 : decode cJ0_getBytes_840e7 32 = .ok (.iconst 0, 1) := by decide +kernel
theorem dJ0_getBytes_840e7_33 : decode cJ0_getBytes_840e7 33 = .ok (.aload_n 1, 1) := by decide +kernel
theorem dJ0_getBytes_840e7_34 : decode cJ0_getBytes_840e7 34 = .ok (.iload_n 2, 1) := by decide +kernel
theorem dJ0_getBytes_840e7_35 : decode cJ0_getBytes_840e7 35 = .ok (.aload_n 0, 1) := by decide +kernel
theorem dJ0_getBytes_840e7_36 : decode cJ0_getBytes_840e7 36 = .ok (.getfield 9, 3) := by decide +kernel
theorem dJ0_getBytes_840e7_39 : decode cJ0_getBytes_840e7 39 = .ok (.arraylength, 1) := by decide +kernel
theorem dJ0_getBytes_840e7_40 : decode cJ0_getBytes_840e7 40 = .ok (.invokestatic 106, 3) := by decide +kernel
theorem dJ0_getBytes_840e7_43 : decode cJ0_getBytes_840e7 43 = .ok (.return_, 1) := by decide +kernel
theorem dJ5_putStringAt_47b60_0 : decode cJ5_putStringAt_47b60 0 = .ok (.aload_n 0, 1) := by decide +kernel
theorem dJ5_putStringAt_47b60_1 : decode cJ5_putStringAt_47b60 1 = .ok (.aload_n 2, 1) := by decide +kernel
theorem dJ5_putStringAt_47b60_2 : decode cJ5_putStringAt_47b60 2 = .ok (.invokevirtual 397, 3) := by decide +kernel
theorem dJ5_putStringAt_47b60_5 : decode cJ5_putStringAt_47b60 5 = .ok (.aload_n 2, 1) := by decide +kernel
theorem dJ5_putStringAt_47b60_6 : decode cJ5_putStringAt_47b60 6 = .ok (.aload_n 0, 1) := by decide +kernel
theorem dJ5_putStringAt_47b60_7 : decode cJ5_putStringAt_47b60 7 = .ok (.getfield 15, 3) := by decide +kernel
theorem dJ5_putStringAt_47b60_10 : decode cJ5_putStringAt_47b60 10 = .ok (.iload_n 1, 1) := by decide +kernel
theorem dJ5_putStringAt_47b60_11 : decode cJ5_putStringAt_47b60 11 = .ok (.aload_n 0, 1) := by decide +kernel
theorem dJ5_putStringAt_47b60_12 : decode cJ5_putStringAt_47b60 12 = .ok (.getfield 22, 3) := by decide +kernel
theorem dJ5_putStringAt_47b60_15 : decode cJ5_putStringAt_47b60 15 = .ok (.invokevirtual 399, 3) := by decide +kernel
theorem dJ5_putStringAt_47b60_18 : decode cJ5_putStringAt_47b60 18 = .ok (.return_, 1) := by decide +kernel
theorem mi_J5_isLatin1_aae02 : MInfo yJ5_isLatin1_aae02 cJ5_isLatin1_aae02 1 (some .boolean) 0 := ⟨wq_1250, wq_65, by decide, ⟨by decide +kernel, by decide +kernel, by decide +kernel⟩, by decide +kernel⟩
theorem mi_J5_inflateIfNeededFor_a7421 : MInfo yJ5_inflateIfNeededFor_a7421 cJ5_inflateIfNeededFor_a7421 2 none 1 := ⟨wq_1275, wq_65, by decide, ⟨by decide +kernel, by decide +kernel, by decide +kernel⟩, by decide +kernel⟩
theorem mi_J0_getBytes_840e7 : MInfo yJ0_getBytes_840e7 cJ0_getBytes_840e7 4 none 3 := ⟨wq_1306, wq_67, by decide, ⟨by decide +kernel, by decide +kernel, by decide +kernel⟩, by decide +kernel⟩
theorem mi_J5_putStringAt_47b60 : MInfo yJ5_putStringAt_47b60 cJ5_putStringAt_47b60 3 none 2 := ⟨wq_1271, wq_65, by decide, ⟨by decide +kernel, by decide +kernel, by decide +kernel⟩, by decide +kernel⟩
section OFRO
variable {l : Launch} {y : MethodName} {cc : ByteArray} {n : Nat} {ret : Option FieldType} {rn mc ms : Nat} {cl : List vw_C} {D : va_G} {Z : Nat → ClassId} {R : (Nat → Prop) → R2} {sz : Nat} {av : List Value}
theorem ro_ofG {ws : va_W} {ty : FieldType} {K : Int32 → Prop} (hy : plainName y.cls = true) (hn : (lg_sl av).length ≤ n) (hret : ret = some ty)
    (body : ∀ (p : Program) (e : Env) (s : State) (m : MethodId) (args : Array Value) (below : List Frame) (meth : Method) (c : Code) (Q : State → Prop) (A : Nat → Prop), CallFix p m c cc n s args lw_g y.cls → NW s → R A s s.heap → s.heap.size = sz → TS cl D ws A s.heap s.heap [] → va_K D cl (tysG Z) s →
      (∀ (pc : Nat) (ls : Array Slot) (r : Int32), K r → narrow ty (.int r) = .int r → decode cc pc = .ok (.ireturn, 1) → W p l e (rk rn 0 0) s m args below meth c s.heap [] 0 0 Q (F0 m pc ls [.int r])) →
      ∀ ls : Array Slot, lv_has ls n (lv_args 0 av) → W p l e (rk rn 0 0) s m args below meth c s.heap [] 0 0 Q (F0 m 0 ls [])) :
    Met l y (wy y cc n ret) (rk rn 0 0) (preG R cl D Z ws sz av) (vp_Si K) 0 0 (fun _ => False) := by
  refine Met.ofW (cc := cc) (maxL := n) (ret := ret) hy rfl ?_
  intro p e s m args below meth c s₁ B hml hv
  obtain ⟨rfl, hsz, hP, hD, hK, hN, hR⟩ := hv
  have hts : ∀ w ∈ lw_g, w.before av.toArray s = true := fun w hw => atoms_spec (ws := wy y cc n ret) B.pre w (List.mem_cons_of_mem _ hw)
  have hown : s.vm.findClass y.cls = some m.cls := findClass_of_methodNamed B.named
  have hlocks := B.notSynchronized
  have hl := lv_entry av (n := n) hn
  rw [lg_entry_eq]
  refine body p e s m av.toArray below meth c _ (va_A ws sz) ⟨B.exec, B.bytes, hml, hown, hts⟩ hN hR hsz ⟨hP, hD.self, va_S.rf, fun q h => Or.inr (hsz ▸ h)⟩ hK ?_ _ hl
  intro pc ls r hr hnar hd
  exact W.zret (ty := ty) B.exec B.bytes (B.returns.trans hret) hnar (fun t ht _ => ⟨r, rfl, hr, ht⟩) (fun q h => by cases h) hd
end OFRO
theorem JZ.cs {A : Nat → Prop} {U : State} {H : Heap} (h : JZ A U H) : va_Z JSt "COMPACT_STRINGS" "Z" (.int 1) A U H := h.1
theorem byte_nI {x : Nat} (h : x < 128) : (nI x).toInt8.toInt32 = nI x := by
  have key : ∀ a : Fin 128, (nI a.val).toInt8.toInt32 = nI a.val := by decide +kernel
  exact key ⟨x, h⟩
theorem fitb_nI {x : Nat} (h : x < 128) : fits .byte (.int (nI x)) = true := by
  have key : ∀ a : Fin 128, fits .byte (.int (nI a.val)) = true := by decide +kernel
  exact key ⟨x, h⟩
theorem tn_nIb {n : Nat} (h : n < 2 ^ 31) : (nI n).toInt.toNat = n := by rw [nI_toInt h]; rfl
theorem inb_nI {n N : Nat} (h : n < N) (hN : N < 2 ^ 31) : inb (nI n) N := ⟨by rw [nI_toInt (by omega)]; omega, by rw [nI_toInt (by omega)]; omega⟩
set_option maxRecDepth 100000 in
set_option maxHeartbeats 1000000 in
theorem c_sbLat (l : Launch) (D : va_G) (Z rx : Nat → ClassId) (sz b v cap : Nat) (n : Int32) (f : Nat → Int32) : Met l yJ5_isLatin1_aae02 (wy yJ5_isLatin1_aae02 cJ5_isLatin1_aae02 1 (some .boolean)) (rk 0 0 0) (preG (RD rx) vwCl D Z (SBW Z b v cap n f) sz [.ref b]) (vp_Si (fun r => r = 1)) 0 0 (fun _ => False) := by
  refine ro_ofG (ty := .boolean) (by decide +kernel) (Nat.le_of_ble_eq_true rfl) rfl ?_
  intro p e s m args below meth c Q A hC hN hR hsz hT hK hret ls hl
  have hJZ := hR.1
  have hx := hC.1
  have hb := hC.2.1
  have hts := hC.2.2.2.2
  have hl : lv_has ls 1 [(0, .ref b)] := hl
  refine va_gets hx hb hJZ.cs hT.2.2.1 hC.2.2.2.1 (hts _ wq_1251) (fun _ h => h) dJ5_isLatin1_aae02_0 ?_
  refine lv_if_eq (tgt := 17) hx hb dJ5_isLatin1_aae02_3 (by decide) (fun z => absurd z (by decide)) (fun c_3 => ?_)
  refine lv_aload_n hx hb dJ5_isLatin1_aae02_6 rfl (lv_at hl 0 rfl) ?_
  refine w_getJ (C := RJ4) (T := TJ4) (N := 4) (ci := 8) (q0 := 0) (k := 1) hC hK hT.1 fi_J4 rfl rfl rfl (by decide) wq_1364 dJ5_isLatin1_aae02_7 ?_
  refine lv_if_ne (tgt := 17) hx hb dJ5_isLatin1_aae02_10 (by decide) (fun z => absurd rfl z) (fun c_10 => ?_)
  refine lv_iconst (v := 1) hx hb dJ5_isLatin1_aae02_13 (by decide) ?_
  refine lv_goto (tgt := 18) hx hb dJ5_isLatin1_aae02_14 (by decide) ?_
  exact hret 18 ls _ rfl rfl dJ5_isLatin1_aae02_18
set_option maxRecDepth 100000 in
set_option maxHeartbeats 1000000 in
theorem c_inflate (l : Launch) (D : va_G) (Z rx : Nat → ClassId) (sz b v cap q w : Nat) (t : List Nat) (n : Int32) (f bts : Nat → Int32) : Met l yJ5_inflateIfNeededFor_a7421 (wy yJ5_inflateIfNeededFor_a7421 cJ5_inflateIfNeededFor_a7421 2 none) (rk 1 0 0) (preG (RS rx q w t.length bts) vwCl D Z (SBW Z b v cap n f) sz [.ref b, .ref q]) (poV vwCl D Z (fun _ : Unit => SBW Z b v cap n f) () sz (fun _ => True)) 0 0 (va_A (SBW Z b v cap n f) sz) := by
  refine rwv_ofG (wsF := fun _ : Unit => SBW Z b v cap n f) (u0 := ()) (by decide +kernel) (Nat.le_of_ble_eq_true rfl) rfl ?_
  intro p e s m args below meth c Q A hC hN hR hsz hnm hT hK hret ls hl
  have hJZ := hR.1.1
  have hJS : JS q w t.length bts NoA s s.heap := JS.narrow ⟨hR.1.1, hR.2⟩ (fun q z => z.elim)
  have hx := hC.1
  have hb := hC.2.1
  have hts := hC.2.2.2.2
  have hl : lv_has ls 2 [(0, .ref b), (1, .ref q)] := hl
  refine va_gets hx hb hJZ.cs hT.2.2.1 hC.2.2.2.1 (hts _ wq_1251) (fun _ h => h) dJ5_inflateIfNeededFor_a7421_0 ?_
  refine lv_if_eq (tgt := 21) hx hb dJ5_inflateIfNeededFor_a7421_3 (by decide) (fun z => absurd z (by decide)) (fun c_3 => ?_)
  refine lv_aload_n hx hb dJ5_inflateIfNeededFor_a7421_6 rfl (lv_at hl 0 rfl) ?_
  refine w_getJ (C := RJ4) (T := TJ4) (N := 4) (ci := 8) (q0 := 0) (k := 1) hC hK hT.1 fi_J4 rfl rfl rfl (by decide) wq_1364 dJ5_inflateIfNeededFor_a7421_7 ?_
  refine lv_aload_n hx hb dJ5_inflateIfNeededFor_a7421_10 rfl (lv_at hl 1 rfl) ?_
  refine ro_go (runJV (As := []) hC (c_coder l q w t.length bts) mi_J0_coder_7d493 wq_1276 wq_120 wq_121 (by decide) JS.steady hJS hJS.2.recv rfl hl.1 rfl (Nat.le_of_ble_eq_true rfl) dJ5_inflateIfNeededFor_a7421_11 ⟨Nat.zero_le _, Nat.zero_le _⟩) (fun r hr => ?_)
  subst hr
  refine lv_icmp_eq (tgt := 21) hx hb dJ5_inflateIfNeededFor_a7421_14 (by decide) (fun c_14 => ?_) (fun z => absurd rfl z)
  exact hret 21 ls _ _ () trivial hT dJ5_inflateIfNeededFor_a7421_21
set_option maxRecDepth 100000 in
set_option maxHeartbeats 1000000 in
theorem c_getBytes (l : Launch) (D : va_G) (Z rx : Nat → ClassId) (sz v cap q w at_ : Nat) (t : List Nat) (f bts : Nat → Int32) (h1 : at_ + t.length ≤ cap) (h2 : cap ≤ 100000) (hf : BF t.length bts) : Met l yJ0_getBytes_840e7 (wy yJ0_getBytes_840e7 cJ0_getBytes_840e7 4 none) (rk 1 0 0) (preG (RS rx q w t.length bts) vwCl D Z [(v, .inl (Z 2, cap, .inl f))] sz [.ref q, .ref v, .int (nI at_), .int 0]) (poV vwCl D Z (fun g => [(v, .inl (Z 2, cap, .inl g))]) f sz (fun g => g = va_cpy bts f 0 at_ t.length)) 0 0 (va_A [(v, .inl (Z 2, cap, .inl f))] sz) := by
  refine rwv_ofG (wsF := fun g => [(v, .inl (Z 2, cap, .inl g))]) (u0 := f) (by decide +kernel) (Nat.le_of_ble_eq_true rfl) rfl ?_
  intro p e s m args below meth c Q A hC hN hR hsz hnm hT hK hret ls hl
  have hJZ := hR.1.1
  have hJS : JS q w t.length bts NoA s s.heap := JS.narrow ⟨hR.1.1, hR.2⟩ (fun q z => z.elim)
  have hT : TS vwCl D [(v, .inl (Z 2, cap, .inl f))] A s.heap s.heap [] := hT
  have hx := hC.1
  have hb := hC.2.1
  have hts := hC.2.2.2.2
  have hl : lv_has ls 4 [(0, .ref q), (1, .ref v), (2, .int (nI at_)), (3, .int 0)] := hl
  refine lv_aload_n hx hb dJ0_getBytes_840e7_0 rfl (lv_at hl 0 rfl) ?_
  refine ro_go (runJV (As := []) hC (c_coder l q w t.length bts) mi_J0_coder_7d493 wq_119 wq_120 wq_121 (by decide) JS.steady hJS hJS.2.recv rfl hl.1 rfl (Nat.le_of_ble_eq_true rfl) dJ0_getBytes_840e7_1 ⟨Nat.zero_le _, Nat.zero_le _⟩) (fun r hr => ?_)
  subst hr
  refine lv_iload_n hx hb dJ0_getBytes_840e7_4 rfl (lv_at hl 3 rfl) ?_
  refine lv_icmp_ne (tgt := 28) hx hb dJ0_getBytes_840e7_5 (by decide) (fun z => absurd rfl z) (fun c_5 => ?_)
  refine lv_aload_n hx hb dJ0_getBytes_840e7_8 rfl (lv_at hl 0 rfl) ?_
  refine vk_getf hx hb hR.2.2.2.1 hT.2.2.1 hC.2.2.2.1 (hts _ wq_1422) (fun _ h => h) dJ0_getBytes_840e7_9 ?_
  refine lv_iconst (v := 0) hx hb dJ0_getBytes_840e7_12 (by decide) ?_
  refine lv_aload_n hx hb dJ0_getBytes_840e7_13 rfl (lv_at hl 1 rfl) ?_
  refine lv_iload_n hx hb dJ0_getBytes_840e7_14 rfl (lv_at hl 2 rfl) ?_
  refine lv_iload_n hx hb dJ0_getBytes_840e7_15 rfl (lv_at hl 3 rfl) ?_
  refine lv_ishl hx hb dJ0_getBytes_840e7_16 ?_
  rw [sl0]
  refine lv_aload_n hx hb dJ0_getBytes_840e7_17 rfl (lv_at hl 0 rfl) ?_
  refine vk_getf hx hb hR.2.2.2.1 hT.2.2.1 hC.2.2.2.1 (hts _ wq_1422) (fun _ h => h) dJ0_getBytes_840e7_18 ?_
  refine va_tlen hx hb hR.2.2.2.2 hT.2.2.1 rfl dJ0_getBytes_840e7_21 ?_
  refine vk_copyt hx hb (hC.2.2.1.trans hl.1.symm) hC.2.2.2.1 (hts _ wq_1307) (hts _ wq_1245) (hts _ wq_1244) (hts _ wq_73) hK hT.1 hT.2.1 hT.2.2.1 hR.2.2.2.2 0 2 rfl rfl (by decide) (nI_pos (by omega)) (nI_pos (by omega)) (by rw [clampI (by omega), clamp0]; omega) (by rw [nI_clamp (by omega), clampI (by omega)]; exact h1) (fun i hi => by rw [clamp0, Nat.zero_add]; rw [clampI (by omega)] at hi; exact hf i hi) (by show 1 ≤ 1; omega) (Nat.le_of_ble_eq_true rfl) dJ0_getBytes_840e7_22 (fun H1 locs1 hP1 hD1 hS1 => ?_)
  rw [clampI (show t.length < 2 ^ 31 by omega), nI_clamp (show at_ < 2 ^ 31 by omega), clamp0] at hP1 hD1
  have hT : TS vwCl D [(v, .inl (Z 2, cap, .inl (va_cpy bts f 0 at_ t.length)))] A s.heap H1 locs1 := ⟨hP1, hD1, hS1, hT.2.2.2⟩
  refine lv_goto (tgt := 43) hx hb dJ0_getBytes_840e7_25 (by decide) ?_
  exact hret 43 ls _ _ _ rfl hT dJ0_getBytes_840e7_43
set_option maxRecDepth 100000 in
set_option maxHeartbeats 1000000 in
theorem c_putStr (l : Launch) (D : va_G) (Z rx : Nat → ClassId) (sz b v cap q w at_ : Nat) (t : List Nat) (n : Int32) (f bts : Nat → Int32) (h1 : at_ + t.length ≤ cap) (h2 : cap ≤ 100000) (hf : BF t.length bts) : Met l yJ5_putStringAt_47b60 (wy yJ5_putStringAt_47b60 cJ5_putStringAt_47b60 3 none) (rk 2 0 0) (preG (RS rx q w t.length bts) vwCl D Z (sbW Z b (v, cap, n, f)) sz [.ref b, .int (nI at_), .ref q]) (poV vwCl D Z (sbW Z b) (v, cap, n, f) sz (fun u => u = (v, cap, n, va_cpy bts f 0 at_ t.length))) 0 0 (va_A (sbW Z b (v, cap, n, f)) sz) := by
  refine rwv_ofG (by decide +kernel) (Nat.le_of_ble_eq_true rfl) rfl ?_
  intro p e s m args below meth c Q A hC hN hR hsz hnm hT hK hret ls hl
  have hRD := hR.1
  have hT : TS vwCl D (SBW Z b v cap n f) A s.heap s.heap [] := hT
  have hx := hC.1
  have hb := hC.2.1
  have hts := hC.2.2.2.2
  have hl : lv_has ls 3 [(0, .ref b), (1, .int (nI at_)), (2, .ref q)] := hl
  refine lv_aload_n hx hb dJ5_putStringAt_47b60_0 rfl (lv_at hl 0 rfl) ?_
  refine lv_aload_n hx hb dJ5_putStringAt_47b60_1 rfl (lv_at hl 2 rfl) ?_
  have hT0 : TS vwCl D (SBW Z b v cap n f ++ []) A s.heap s.heap [] := hT
  refine goV (u0 := ()) (wsF := fun _ : Unit => SBW Z b v cap n f) (runUG (C := RJ4) (As := [.ref q]) (RS.rg _ _ _ _ _) hC hN (hT.rg (RS.rg _ _ _ _ _) hR) (c_inflate l D Z rx _ b v cap q w t n f bts) mi_J5_inflateIfNeededFor_a7421 wq_1272 wq_1494 wq_1274 (hRD.selp.use (List.mem_of_getElem? (i := 3) rfl)) (by decide) hT.1 hT.D' hK (sb_recv (wr := []) hK hT.1) rfl hl.1 rfl (Nat.le_of_ble_eq_true rfl) dJ5_putStringAt_47b60_2 ⟨Nat.zero_le _, Nat.zero_le _⟩) rfl hT0 (fun u H1 locs1 hk hT => ?_)
  have hT : TS vwCl D (SBW Z b v cap n f) A s.heap H1 locs1 := hT.dropR
  refine lv_aload_n hx hb dJ5_putStringAt_47b60_5 rfl (lv_at hl 2 rfl) ?_
  refine lv_aload_n hx hb dJ5_putStringAt_47b60_6 rfl (lv_at hl 0 rfl) ?_
  refine w_getJ (C := RJ4) (T := TJ4) (N := 4) (ci := 8) (q0 := 0) (k := 0) hC hK hT.1 fi_J4 rfl rfl rfl (by decide) wq_1363 dJ5_putStringAt_47b60_7 ?_
  refine lv_iload_n hx hb dJ5_putStringAt_47b60_10 rfl (lv_at hl 1 rfl) ?_
  refine lv_aload_n hx hb dJ5_putStringAt_47b60_11 rfl (lv_at hl 0 rfl) ?_
  refine w_getJ (C := RJ4) (T := TJ4) (N := 4) (ci := 8) (q0 := 0) (k := 1) hC hK hT.1 fi_J4 rfl rfl rfl (by decide) wq_1364 dJ5_putStringAt_47b60_12 ?_
  have hT1 : TS vwCl D ([(v, .inl (Z 2, cap, .inl f))] ++ [(b, .inr (8, [.ref v, .int 0, .int 0, .int n]))]) A s.heap H1 locs1 := hT.pick [1, 0] (by decide) rfl
  refine goV (u0 := f) (wsF := fun g => [(v, .inl (Z 2, cap, .inl g))]) (runVG (As := [.ref v, .int (nI at_), .int 0]) (RS.rg _ _ _ _ _) hC hN ((RS.rg _ _ _ _ _).appL (hT1.rg (RS.rg _ _ _ _ _) hR)) (c_getBytes l D Z rx _ v cap q w at_ t f bts h1 h2 hf) mi_J0_getBytes_840e7 wq_1303 wq_1304 wq_1305 (by decide) hT1.dropR.1 hT1.dropR.D' hK ((hT.rg (RS.rg _ _ _ _ _) hR).2.recv) rfl hl.1 rfl (Nat.le_of_ble_eq_true rfl) dJ5_putStringAt_47b60_15 ⟨Nat.zero_le _, Nat.zero_le _⟩) rfl hT1 (fun u H2 locs2 hk hT2 => ?_)
  subst hk
  have hT : TS vwCl D (sbW Z b (v, cap, n, va_cpy bts f 0 at_ t.length)) A s.heap H2 locs2 := hT2.front
  exact hret 18 ls _ _ (v, cap, n, va_cpy bts f 0 at_ t.length) rfl hT dJ5_putStringAt_47b60_18
