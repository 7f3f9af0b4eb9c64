theorem wq_1387 : Cond.code yJ0_init_db425 cJ0_init_db425 5 none ∈ lw_g := lw_g_mk (tb_6 (List.mem_of_getElem? (i := 123) rfl)) rfl
theorem wq_1388 : Cond.methodLink RJ0 1 objectInit ∈ lw_g := lw_g_mk (tb_6 (List.mem_of_getElem? (i := 124) rfl)) rfl
theorem wq_1392 : Cond.selects RJ4 yJ5_getValue_6d5f1 yJ5_getValue_6d5f1 ∈ lw_g := lw_g_mk (tb_6 (List.mem_of_getElem? (i := 128) rfl)) rfl
theorem wq_1389 : Cond.methodLink RJ0 552 yJ5_getValue_6d5f1 ∈ lw_g := lw_g_mk (tb_6 (List.mem_of_getElem? (i := 125) rfl)) rfl
theorem wq_1391 : Cond.sameMethod yJ5_getValue_6d5f1.cls yJ5_getValue_6d5f1.cls yJ5_getValue_6d5f1.name yJ5_getValue_6d5f1.desc ∈ lw_g := lw_g_mk (tb_6 (List.mem_of_getElem? (i := 127) rfl)) rfl
theorem wq_1390 : Cond.instanceMethod yJ5_getValue_6d5f1 ∈ lw_g := lw_g_mk (tb_6 (List.mem_of_getElem? (i := 126) rfl)) rfl
theorem wq_1397 : Cond.selects RJ4 yJ5_length_8abf5 yJ4_length_8abf5 ∈ lw_g := lw_g_mk (tb_6 (List.mem_of_getElem? (i := 133) rfl)) rfl
theorem wq_1394 : Cond.methodLink RJ0 549 yJ5_length_8abf5 ∈ lw_g := lw_g_mk (tb_6 (List.mem_of_getElem? (i := 130) rfl)) rfl
theorem wq_1398 : Cond.instanceMethod yJ4_length_8abf5 ∈ lw_g := lw_g_mk (tb_6 (List.mem_of_getElem? (i := 134) rfl)) rfl
theorem wq_1402 : Cond.methodLink RJ0 1047 yJ5_isLatin1_aae02 ∈ lw_g := lw_g_mk (tb_6 (List.mem_of_getElem? (i := 138) rfl)) rfl
theorem wq_1403 : Cond.methodLink RJ0 54 yJ7_copyOfRange_39247 ∈ lw_g := lw_g_mk (tb_6 (List.mem_of_getElem? (i := 139) rfl)) rfl
theorem wq_1404 : Cond.static yJ7_copyOfRange_39247 ∈ lw_g := lw_g_mk (tb_6 (List.mem_of_getElem? (i := 140) rfl)) rfl
theorem wq_1384 : Cond.code yJ0_init_81219 cJ0_init_81219 2 none ∈ lw_g := lw_g_mk (tb_6 (List.mem_of_getElem? (i := 120) rfl)) rfl
theorem wq_1385 : Cond.methodLink RJ0 489 yJ0_init_db425 ∈ lw_g := lw_g_mk (tb_6 (List.mem_of_getElem? (i := 121) rfl)) rfl
theorem wq_1386 : Cond.instanceMethod yJ0_init_db425 ∈ lw_g := lw_g_mk (tb_6 (List.mem_of_getElem? (i := 122) rfl)) rfl
theorem wq_1379 : Cond.code yJ4_toString_0e30d cJ4_toString_0e30d 1 (some (.object "java/lang/String")) ∈ lw_g := lw_g_mk (tb_6 (List.mem_of_getElem? (i := 115) rfl)) rfl
theorem wq_1380 : Cond.classLink RJ4 18 RJ0 ∈ lw_g := lw_g_mk (tb_6 (List.mem_of_getElem? (i := 116) rfl)) rfl
theorem wq_1381 : Cond.instantiable RJ0 4 ∈ lw_g := lw_g_mk (tb_6 (List.mem_of_getElem? (i := 117) rfl)) rfl
theorem wq_1382 : Cond.methodLink RJ4 137 yJ0_init_81219 ∈ lw_g := lw_g_mk (tb_6 (List.mem_of_getElem? (i := 118) rfl)) rfl
theorem wq_1383 : Cond.instanceMethod yJ0_init_81219 ∈ lw_g := lw_g_mk (tb_6 (List.mem_of_getElem? (i := 119) rfl)) rfl
theorem dJ0_init_db425_0 : decode cJ0_init_db425 0 = .ok (.aload_n 0, 1) := by decide +kernel
theorem dJ0_init_db425_1 : decode cJ0_init_db425 1 = .ok (.invokespecial 1, 3) := by decide +kernel
theorem dJ0_init_db425_4 : decode cJ0_init_db425 4 = .ok (.aload_n 1, 1) := by decide +kernel
theorem dJ0_init_db425_5 : decode cJ0_init_db425 5 = .ok (.invokevirtual 552, 3) := by decide +kernel
theorem dJ0_init_db425_8 : decode cJ0_init_db425 8 = .ok (.astore_n 3, 1) := by decide +kernel
theorem dJ0_init_db425_9 : decode cJ0_init_db425 9 = .ok (.aload_n 1, 1) := by decide +kernel
theorem dJ0_init_db425_10 : decode cJ0_init_db425 10 = .ok (.invokevirtual 549, 3) := by decide +kernel
theorem dJ0_init_db425_13 : decode cJ0_init_db425 13 = .ok (.istore 4, 2) := by decide +kernel
theorem dJ0_init_db425_15 : decode cJ0_init_db425 15 = .ok (.aload_n 1, 1) := by decide +kernel
theorem dJ0_init_db425_16 : decode cJ0_init_db425 16 = .ok (.invokevirtual 1047, 3) := by decide +kernel
theorem dJ0_init_db425_19 : decode cJ0_init_db425 19 = .ok (.ifCond .eq 22, 3) := by decide +kernel
theorem dJ0_init_db425_22 : decode cJ0_init_db425 22 = .ok (.aload_n 0, 1) := by decide +kernel
theorem dJ0_init_db425_23 : decode cJ0_init_db425 23 = .ok (.iconst 0, 1) := by decide +kernel
theorem dJ0_init_db425_24 : decode cJ0_init_db425 24 = .ok (.putfield 15, 3) := by decide +kernel
theorem dJ0_init_db425_27 : decode cJ0_init_db425 27 = .ok (.aload_n 0, 1) := by decide +kernel
theorem dJ0_init_db425_28 : decode cJ0_init_db425 28 = .ok (.aload_n 3, 1) := by decide +kernel
theorem dJ0_init_db425_29 : decode cJ0_init_db425 29 = .ok (.iconst 0, 1) := by decide +kernel
theorem dJ0_init_db425_30 : decode cJ0_init_db425 30 = .ok (.iload 4, 2) := by decide +kernel
theorem dJ0_init_db425_32 : decode cJ0_init_db425 32 = .ok (.invokestatic 54, 3) := by decide +kernel
theorem dJ0_init_db425_35 : decode cJ0_init_db425 35 = .ok (.putfield 9, 3) := by decide +kernel
theorem dJ0_init_db425_38 : decode cJ0_init_db425 38 = .ok (.goto 59, 3) := by decide +kernel
theorem dJ0_init_db425_41 : decode cJ0_init_db425 41 = .ok (.getstatic 38, 3) := by decide +kernel
theorem dJ0_init_db425_44 : decode cJ0_init_db425 44 = .ok (.ifCond .eq 35, 3) := by decide +kernel
theorem dJ0_init_db425_47 : decode cJ0_init_db425 47 = .ok (.aload_n 1, 1) := by decide +kernel
theorem dJ0_init_db425_48 : decode cJ0_init_db425 48 = .ok (.getfield 1048, 3) := by decide +kernel
theorem dJ0_init_db425_51 : decode cJ0_init_db425 51 = .ok (.ifCond .eq 28, 3) := by decide +kernel
theorem dJ0_init_db425_54 : decode cJ0_init_db425 54 = .ok (.aload_n 0, 1) := by decide +kernel
theorem dJ0_init_db425_55 : decode cJ0_init_db425 55 = .ok (.aload_n 3, 1) := by decide +kernel
theorem dJ0_init_db425_56 : decode cJ0_init_db425 56 = .ok (.iconst 0, 1) := by decide +kernel
theorem dJ0_init_db425_57 : decode cJ0_init_db425 57 = .ok (.iload 4, 2) := by decide +kernel
theorem dJ0_init_db425_59 : decode cJ0_init_db425 59 = .ok (.invokestatic 1051, 3) := by decide +kernel
theorem dJ0_init_db425_62 : decode cJ0_init_db425 62 = .ok (.putfield 9, 3) := by decide +kernel
theorem dJ0_init_db425_65 : decode cJ0_init_db425 65 = .ok (.aload_n 0, 1) := by decide +kernel
theorem dJ0_init_db425_66 : decode cJ0_init_db425 66 = .ok (.aload_n 0, 1) := by decide +kernel
theorem dJ0_init_db425_67 : decode cJ0_init_db425 67 = .ok (.getfield 9, 3) := by decide +kernel
theorem dJ0_init_db425_70 : decode cJ0_init_db425 70 = .ok (.iload 4, 2) := by decide +kernel
theorem dJ0_init_db425_72 : decode cJ0_init_db425 72 = .ok (.invokestatic 47, 3) := by decide +kernel
theorem dJ0_init_db425_75 : decode cJ0_init_db425 75 = .ok (.putfield 15, 3) := by decide +kernel
theorem dJ0_init_db425_78 : decode cJ0_init_db425 78 = .ok (.return_, 1) := by decide +kernel
theorem dJ0_init_db425_79 : decode cJ0_init_db425 79 = .ok (.aload_n 0, 1) := by decide +kernel
theorem dJ0_init_db425_80 : decode cJ0_init_db425 80 = .ok (.iconst 1, 1) := by decide +kernel
theorem dJ0_init_db425_81 : decode cJ0_init_db425 81 = .ok (.putfield 15, 3) := by decide +kernel
theorem dJ0_init_db425_84 : decode cJ0_init_db425 84 = .ok (.aload_n 0, 1) := by decide +kernel
theorem dJ0_init_db425_85 : decode cJ0_init_db425 85 = .ok (.aload_n 3, 1) := by decide +kernel
theorem dJ0_init_db425_86 : decode cJ0_init_db425 86 = .ok (.iconst 0, 1) := by decide +kernel
theorem dJ0_init_db425_87 : decode cJ0_init_db425 87 = .ok (.iload 4, 2) := by decide +kernel
theorem dJ0_init_db425_89 : decode cJ0_init_db425 89 = .ok (.iconst 1, 1) := by decide +kernel
theorem dJ0_init_db425_90 : decode cJ0_init_db425 90 = .ok (.ishl, 1) := by decide +kernel
theorem dJ0_init_db425_91 : decode cJ0_init_db425 91 = .ok (.invokestatic 54, 3) := by decide +kernel
theorem dJ0_init_db425_94 : decode cJ0_init_db425 94 = .ok (.putfield 9, 3) := by decide +kernel
theorem dJ0_init_db425_97 : decode cJ0_init_db425 97 = .ok (.return_, 1) := by decide +kernel
theorem dJ0_init_81219_0 : decode cJ0_init_81219 0 = .ok (.aload_n 0, 1) := by decide +kernel
theorem dJ0_init_81219_1 : decode cJ0_init_81219 1 = .ok (.aload_n 1, 1) := by decide +kernel
theorem dJ0_init_81219_2 : decode cJ0_init_81219 2 = .ok (.aconst_null, 1) := by decide +kernel
theorem dJ0_init_81219_3 : decode cJ0_init_81219 3 = .ok (.invokespecial 489, 3) := by decide +kernel
theorem dJ0_init_81219_6 : decode cJ0_init_81219 6 = .ok (.return_, 1) := by decide +kernel
theorem dJ4_toString_0e30d_0 : decode cJ4_toString_0e30d 0 = .ok (.new 18, 3) := by decide +kernel
theorem dJ4_toString_0e30d_3 : decode cJ4_toString_0e30d 3 = .ok (.dup, 1) := by decide +kernel
theorem dJ4_toString_0e30d_4 : decode cJ4_toString_0e30d 4 = .ok (.aload_n 0, 1) := by decide +kernel
theorem dJ4_toString_0e30d_5 : decode cJ4_toString_0e30d 5 = .ok (.invokespecial 137, 3) := by decide +kernel
theorem dJ4_toString_0e30d_8 : decode cJ4_toString_0e30d 8 = .ok (.areturn, 1) := by decide +kernel
theorem mi_J0_init_db425 : MInfo yJ0_init_db425 cJ0_init_db425 5 none 2 := ⟨wq_1387, wq_67, by decide, ⟨by decide +kernel, by decide +kernel, by decide +kernel⟩, by decide +kernel⟩
theorem mi_J0_init_81219 : MInfo yJ0_init_81219 cJ0_init_81219 2 none 1 := ⟨wq_1384, wq_67, by decide, ⟨by decide +kernel, by decide +kernel, by decide +kernel⟩, by decide +kernel⟩
theorem mi_J4_toString_0e30d : MInfo yJ4_toString_0e30d cJ4_toString_0e30d 1 (some (.object "java/lang/String")) 0 := ⟨wq_1379, wq_66, by decide, ⟨by decide +kernel, by decide +kernel, by decide +kernel⟩, by decide +kernel⟩
def stC (q w : Nat) : Nat × va_E := (q, .inr (7, [.ref w, .int 0, .int 0, .int 0]))
def stW (Z : Nat → ClassId) (q b v cap N : Nat) (f : Nat → Int32) : Option (Nat × (Nat → Int32)) → va_W
  | none => (q, .inr (7, [.null, .int 0, .int 0, .int 0])) :: SBW Z b v cap (nI N) f
  | some u => stC q u.1 :: (SBW Z b v cap (nI N) f ++ [(u.1, .inl (Z 2, N, .inl u.2))])
section RUNUO
variable {p : Program} {l : Launch} {e : Env} {s : State} {m : MethodId} {args : Array Value} {below : List Frame} {meth : Method} {c : Code} {H H0 : Heap} {locs : List Loc} {cells slots : Nat} {Q : State → Prop}
variable {pc : Nat} {ls : Array Slot} {rest st0 : List Value} {A : Nat → Prop} {cl : List vw_C} {D : va_G} {Z : Nat → ClassId} {ws wr : va_W} {R : (Nat → Prop) → R2} {mc ms : Nat}
variable {x y : MethodName} {bytes cc : ByteArray} {maxL nL n index : Nat} {ret : Option FieldType} {rn rn' mcR msR : Nat} {Qc : Array Value → State → Outcome → State → Prop} {free : Addr → Prop} {own host : String} {b : Addr} {As : List Value}
/-- a method of the superclass is named, the class's own is run -/
theorem runUO {C : String} {b0 : ByteArray} {m0 : Nat} {r0 : Option FieldType} (hG : RG R) (hC : CallFix p m c cc nL s args lw_g own) (hN : NW s) (hR : R (va_A ws H.size) s H) (hM : Met l y (wy y bytes maxL ret) (rk rn' mc ms) (preG R cl D Z ws H.size (.ref b :: As)) Qc mc ms free) (hi : MInfo y bytes maxL ret n) (hl : Cond.methodLink own index x ∈ lw_g) (hsm : Cond.sameMethod x.cls x.cls x.name x.desc ∈ lw_g) (hix : Cond.instanceMethod x ∈ lw_g) (hcx : Cond.code x b0 m0 r0 ∈ lw_g) (hin : Cond.instanceMethod y ∈ lw_g) (hse : Cond.selects C x y ∈ lw_g) (hd : x.cls ≠ "java/lang/invoke/MethodHandle" ∧ x.cls ≠ "java/lang/invoke/VarHandle" ∧ (parseMethodDescriptor x.desc).map (fun d => d.parameters.length) = some n) (hlt : rn' < rn)
    (hP : va_P D cl ws H) (hD : va_D (fun _ => True) ws) (hK : va_K D cl (tysG Z) s) (hrc : ∃ cell : Cell, H[b]? = some cell ∧ cell.vm.isStatics = false ∧ s.vm.findClass C = some cell.cls)
    (hn : As.length = n) (hsize : ls.size = nL) (hstack : st0 = As.reverse ++ .ref b :: rest) (hW : (rest.map fun v => v.category).sum ≤ 8) (hdg : decode cc pc = .ok (.invokevirtual index, 3)) (hf : cells + mc ≤ mcR ∧ slots + ms ≤ msR) :
    va_Run p l e (rk rn mcR msR) s m args below meth c H locs cells slots mc ms (F0 m pc ls st0) rest (Qc (Value.ref b :: As).toArray) free := by
  have hts := hC.2.2.2.2
  refine va_runU (As := As) (rest := rest) (C := C) (owner := x.cls) (x := x) hC hM ⟨⟨rfl, rfl, (rk_fit hlt hi.2.2.1).1, (rk_fit hlt hi.2.2.1).2, pay_in hts (wy_good hi.1), List.mem_cons_self⟩, hts _ hi.1, hts _ hi.2.1, ⟨hd.1, hd.2.1⟩, fun sig h => ?_, hts _ hl, hts _ hsm, va_Decl.of (hts _ hix) (hts _ hcx), hts _ hse, hts _ hin⟩ ⟨preG.blind hG, hrc, fun U hU hW => ⟨rfl, by rw [hU], by rw [hU]; exact hP, hD, va_K.moved hW.alike hK, NW.warm hW hN, by rw [hU]; exact hG.2.2.1 _ _ _ _ hW hR⟩⟩ rfl hn hsize hstack (lv_room hW) hdg hf
  have h2 := hd.2.2
  rw [h] at h2
  exact (Option.some.inj h2).symm
end RUNUO
set_option maxRecDepth 100000 in
set_option maxHeartbeats 1000000 in
theorem c_strInitA (l : Launch) (D : va_G) (Z rx : Nat → ClassId) (sz q b v cap N : Nat) (f : Nat → Int32) (h1 : N ≤ cap) (h2 : cap ≤ 4000) (hf : BF cap f) : Met l yJ0_init_db425 (wy yJ0_init_db425 cJ0_init_db425 5 none) (rk 5 1 4000) (preG (RD rx) vwCl D Z (stW Z q b v cap N f none) sz [.ref q, .ref b, .null]) (poV vwCl D Z (stW Z q b v cap N f) none sz (crK f N)) 1 4000 (va_A (stW Z q b v cap N f none) sz) := by
  refine rwv_ofG (by decide +kernel) (Nat.le_of_ble_eq_true rfl) rfl ?_
  intro p e s m args below meth c Q A hC hN hR hsz hnm hT hK hret ls hl
  have hT : TS vwCl D (SBW Z b v cap (nI N) f ++ [(q, .inr (7, [.null, .int 0, .int 0, .int 0]))]) A s.heap s.heap [] := hT.pick [1, 2, 0] (by decide) rfl
  have hx := hC.1
  have hb := hC.2.1
  have hts := hC.2.2.2.2
  have hl : lv_has ls 5 [(0, .ref q), (1, .ref b), (2, .null)] := hl
  refine lv_aload_n hx hb dJ0_init_db425_0 rfl (lv_at hl 0 rfl) ?_
  refine w_objInit hC wq_1388 wq_96 wq_97 hl.1 (by decide) (Nat.le_of_ble_eq_true rfl) dJ0_init_db425_1 ?_
  refine lv_aload_n hx hb dJ0_init_db425_4 rfl (lv_at hl 1 rfl) ?_
  refine goQ (u0 := ()) (g := fun _ => v) (wsF := fun _ : Unit => SBW Z b v cap (nI N) f) (runUG (C := RJ4) (As := []) (RD.rg rx) hC hN ((RD.rg rx).appL (hT.rg (RD.rg rx) hR)) (c_getValue l D Z rx _ b v cap _ f) mi_J5_getValue_6d5f1 wq_1389 wq_1391 wq_1390 (hts _ wq_1392) (by decide) hT.dropR.1 hT.dropR.D' hK (sb_recv hK hT.1) rfl hl.1 rfl (Nat.le_of_ble_eq_true rfl) dJ0_init_db425_5 ⟨by omega, by omega⟩) rfl hT (fun u H1 locs1 hk hT => ?_)
  refine lv_astore_n (lv' := [(3, .ref v), (0, .ref q), (1, .ref b), (2, .null)]) hx hb dJ0_init_db425_8 rfl hl (by decide) rfl (fun ls hl => ?_)
  refine lv_aload_n hx hb dJ0_init_db425_9 rfl (lv_at hl 2 rfl) ?_
  refine ro_go (runUO (C := RJ4) (x := yJ5_length_8abf5) (As := []) (RD.rg rx) hC hN ((RD.rg rx).appL (hT.rg (RD.rg rx) hR)) (c_sbLen l D Z rx _ b v cap _ f) mi_J4_length_8abf5 wq_1394 wq_1396 wq_1395 wq_1401 wq_1398 wq_1397 ⟨by decide, by decide, by decide +kernel⟩ (by decide) hT.dropR.1 hT.dropR.D' hK (sb_recv hK hT.1) rfl hl.1 rfl (Nat.le_of_ble_eq_true rfl) dJ0_init_db425_10 ⟨Nat.zero_le _, Nat.zero_le _⟩) (fun r hr => ?_)
  subst hr
  refine lv_istore (lv' := [(4, .int (nI N)), (3, .ref v), (0, .ref q), (1, .ref b), (2, .null)]) hx hb dJ0_init_db425_13 hl (by decide) rfl (fun ls hl => ?_)
  refine lv_aload_n hx hb dJ0_init_db425_15 rfl (lv_at hl 3 rfl) ?_
  refine ro_go (runUG (C := RJ4) (As := []) (RD.rg rx) hC hN ((RD.rg rx).appL (hT.rg (RD.rg rx) hR)) (c_sbLat l D Z rx _ b v cap _ f) mi_J5_isLatin1_aae02 wq_1402 wq_1248 wq_1247 (hts _ wq_1249) (by decide) hT.dropR.1 hT.dropR.D' hK (sb_recv hK hT.1) rfl hl.1 rfl (Nat.le_of_ble_eq_true rfl) dJ0_init_db425_16 ⟨Nat.zero_le _, Nat.zero_le _⟩) (fun r hr => ?_)
  subst hr
  refine lv_if_eq (tgt := 41) hx hb dJ0_init_db425_19 (by decide) (fun z => absurd z (by decide)) (fun c_19 => ?_)
  refine lv_aload_n hx hb dJ0_init_db425_22 rfl (lv_at hl 2 rfl) ?_
  refine lv_iconst (v := 0) hx hb dJ0_init_db425_23 (by decide) ?_
  refine w_putF (C := RJ0) (T := TJ0) (N := 4) (ci := 7) (q0 := 2) (k := 1) (ty0 := tyJ0) (ty := .byte) (ws' := SBW Z b v cap (nI N) f ++ [(q, .inr (7, [.null, .int 0, .int 0, .int 0]))]) hC hK hnm hT fi_J0 tyJ0_ok nmJ0 rfl rfl (by decide) rfl rfl rfl rfl rfl rfl (Nat.le_of_ble_eq_true rfl) rfl wq_1423 dJ0_init_db425_24 (fun H24 locs24 hT => ?_)
  refine lv_aload_n hx hb dJ0_init_db425_27 rfl (lv_at hl 2 rfl) ?_
  refine lv_aload_n hx hb dJ0_init_db425_28 rfl (lv_at hl 1 rfl) ?_
  refine lv_iconst (v := 0) hx hb dJ0_init_db425_29 (by decide) ?_
  refine lv_iload hx hb dJ0_init_db425_30 (lv_at hl 0 rfl) ?_
  have hT1 : TS vwCl D (crW Z v cap f N none ++ [(b, .inr (8, [.ref v, .int 0, .int 0, .int (nI N)])), (q, .inr (7, [.null, .int 0, .int 0, .int 0]))]) A s.heap _ _ := hT.pick [1, 0, 2] (by decide) rfl
  refine goQ (u0 := none) (g := fun u => (u.getD (0, fun _ => 0)).1) (wsF := crW Z v cap f N) (runSG (As := [.ref v, .int 0, .int (nI N)]) (RD.rg rx) hC hN ((RD.rg rx).appL (hT1.rg (RD.rg rx) hR)) (c_cor l D Z rx _ v cap N f h1 h2 hf) mi_J7_copyOfRange_39247 wq_1403 wq_1404 (by decide) hT1.dropR.1 hT1.dropR.D' hK rfl hl.1 rfl (Nat.le_of_ble_eq_true rfl) dJ0_init_db425_32 ⟨by omega, by omega⟩) rfl hT1 (fun u H5 locs5 hk hT2 => ?_)
  obtain ⟨w, g, rfl, hg⟩ := hk
  have hT : TS vwCl D [(v, .inl (Z 2, cap, .inl f)), (w, .inl (Z 2, N, .inl g)), (b, .inr (8, [.ref v, .int 0, .int 0, .int (nI N)])), (q, .inr (7, [.null, .int 0, .int 0, .int 0]))] A s.heap H5 locs5 := hT2
  refine w_putF (C := RJ0) (T := TJ0) (N := 4) (ci := 7) (q0 := 3) (k := 0) (ty0 := tyJ0) (ty := .array .byte) (ws' := [(v, .inl (Z 2, cap, .inl f)), (w, .inl (Z 2, N, .inl g)), (b, .inr (8, [.ref v, .int 0, .int 0, .int (nI N)])), stC q w]) hC hK hnm hT fi_J0 tyJ0_ok nmJ0 rfl rfl (by decide) rfl rfl rfl rfl rfl rfl (Nat.le_of_ble_eq_true rfl) rfl wq_1422 dJ0_init_db425_35 (fun H35 locs35 hT => ?_)
  refine lv_goto (tgt := 97) hx hb dJ0_init_db425_38 (by decide) ?_
  refine W.widen (k := 1) (n := 4000) (by omega) (by omega) ?_
  exact hret 97 ls _ _ (some (w, g)) ⟨w, g, rfl, hg⟩ (hT.pick [3, 2, 0, 1] (by decide) rfl) dJ0_init_db425_97
set_option maxRecDepth 100000 in
set_option maxHeartbeats 1000000 in
theorem c_strInit (l : Launch) (D : va_G) (Z rx : Nat → ClassId) (sz q b v cap N : Nat) (f : Nat → Int32) (h1 : N ≤ cap) (h2 : cap ≤ 4000) (hf : BF cap f) : Met l yJ0_init_81219 (wy yJ0_init_81219 cJ0_init_81219 2 none) (rk 6 1 4000) (preG (RD rx) vwCl D Z (stW Z q b v cap N f none) sz [.ref q, .ref b]) (poV vwCl D Z (stW Z q b v cap N f) none sz (crK f N)) 1 4000 (va_A (stW Z q b v cap N f none) sz) := by
  refine rwv_ofG (by decide +kernel) (Nat.le_of_ble_eq_true rfl) rfl ?_
  intro p e s m args below meth c Q A hC hN hR hsz hnm hT hK hret ls hl
  have hx := hC.1
  have hb := hC.2.1
  have hts := hC.2.2.2.2
  have hl : lv_has ls 2 [(0, .ref q), (1, .ref b)] := hl
  refine lv_aload_n hx hb dJ0_init_81219_0 rfl (lv_at hl 0 rfl) ?_
  refine lv_aload_n hx hb dJ0_init_81219_1 rfl (lv_at hl 1 rfl) ?_
  refine lv_null hx hb dJ0_init_81219_2 ?_
  have hT0 : TS vwCl D (stW Z q b v cap N f none ++ []) A s.heap s.heap [] := hT
  refine goV (u0 := none) (wsF := stW Z q b v cap N f) (runIG (As := [.ref b, .null]) (RD.rg rx) hC hN (hT.rg (RD.rg rx) hR) (c_strInitA l D Z rx _ q b v cap N f h1 h2 hf) mi_J0_init_db425 wq_1385 wq_1386 rfl (by decide) hT.1 hT.D' hK rfl hl.1 rfl (Nat.le_of_ble_eq_true rfl) dJ0_init_81219_3 ⟨by omega, by omega⟩) rfl hT0 (fun u H1 locs1 hk hT => ?_)
  have hT : TS vwCl D (stW Z q b v cap N f u) A s.heap H1 locs1 := hT.dropR
  refine W.widen (k := 1) (n := 4000) (by omega) (by omega) ?_
  exact hret 6 ls _ _ u hk hT dJ0_init_81219_6
def tsW (Z : Nat → ClassId) (b v cap N : Nat) (f : Nat → Int32) : Option (Nat × Nat × (Nat → Int32)) → va_W
  | none => SBW Z b v cap (nI N) f
  | some u => SBW Z b v cap (nI N) f ++ [stC u.1 u.2.1, (u.2.1, .inl (Z 2, N, .inl u.2.2))]
def tsK (f : Nat → Int32) (N : Nat) (u : Option (Nat × Nat × (Nat → Int32))) : Prop := ∃ q w g, u = some (q, w, g) ∧ ∀ j, j < N → g j = f j
set_option maxRecDepth 100000 in
set_option maxHeartbeats 1000000 in
theorem c_toString (l : Launch) (D : va_G) (Z rx : Nat → ClassId) (sz b v cap N : Nat) (f : Nat → Int32) (h1 : N ≤ cap) (h2 : cap ≤ 4000) (hf : BF cap f) : Met l yJ4_toString_0e30d (wy yJ4_toString_0e30d cJ4_toString_0e30d 1 (some (.object "java/lang/String"))) (rk 7 2 4004) (preG (RD rx) vwCl D Z (tsW Z b v cap N f none) sz [.ref b]) (poQ vwCl D Z (tsW Z b v cap N f) (fun u => (u.getD (0, 0, fun _ => 0)).1) none sz (tsK f N)) 2 4004 (va_A (tsW Z b v cap N f none) sz) := by
  refine rwq_ofG (by decide +kernel) (Nat.le_of_ble_eq_true rfl) rfl (Or.inl ⟨_, rfl⟩) ?_
  intro p e s m args below meth c Q A hC hN hR hsz hT hK hret ls hl
  have hT : TS vwCl D (SBW Z b v cap (nI N) f) A s.heap s.heap [] := hT
  have hx := hC.1
  have hb := hC.2.1
  have hts := hC.2.2.2.2
  have hl : lv_has ls 1 [(0, .ref b)] := hl
  refine w_newO (C := RJ0) (T := TJ0) (N := 4) (ci := 7) (ty0 := tyJ0) (fs := [.null, .int 0, .int 0, .int 0]) hC hK hT fi_J0 tyJ0_ok wq_1380 wq_1381 wq_67 rfl (by decide) (by show 0 + 1 ≤ 2; omega) (by show 0 + 4 ≤ 4004; omega) dJ4_toString_0e30d_0 (fun q H1 hT => ?_)
  have hT : TS vwCl D (stW Z q b v cap N f none ++ []) A s.heap H1 _ := hT.pick [2, 0, 1] (by decide) rfl
  refine lv_dup hx hb dJ4_toString_0e30d_3 rfl ?_
  refine lv_aload_n hx hb dJ4_toString_0e30d_4 rfl (lv_at hl 0 rfl) ?_
  refine goV (u0 := none) (wsF := stW Z q b v cap N f) (runIG (As := [.ref b]) (RD.rg rx) hC hN ((RD.rg rx).appL (hT.rg (RD.rg rx) hR)) (c_strInit l D Z rx _ q b v cap N f h1 h2 hf) mi_J0_init_81219 wq_1382 wq_1383 rfl (by decide) hT.dropR.1 hT.dropR.D' hK rfl hl.1 rfl (Nat.le_of_ble_eq_true rfl) dJ4_toString_0e30d_5 ⟨by omega, by omega⟩) rfl hT (fun u H2 locs2 hk hT => ?_)
  obtain ⟨w, g, rfl, hg⟩ := hk
  have hT : TS vwCl D (tsW Z b v cap N f (some (q, w, g))) A s.heap H2 locs2 := hT.pick [1, 2, 0, 3] (by decide) rfl
  refine W.widen (k := 2) (n := 4004) (by omega) (by omega) ?_
  exact hret 8 ls _ _ (some (q, w, g)) ⟨q, w, g, rfl, hg⟩ hT dJ4_toString_0e30d_8
/-- a String among the world's cells, for a callee that does not have it in hers -/
theorem SE.of {D : va_G} {Z : Nat → ClassId} {s : State} {args : Array Value} {H : Heap} {ws : va_W} {A : Nat → Prop} {q w n i0 i1 : Nat} {g : Nat → Int32} (hts : ∀ w ∈ lw_g, w.before args s = true) (hK : va_K D vwCl (tysG Z) s) (hP : va_P D vwCl ws H) (h0 : ws[i0]? = some (stC q w)) (h1 : ws[i1]? = some (w, .inl (Z 2, n, .inl g))) (ha : ¬ A q) (hb : ¬ A w) : SE q w n g A s H := by
  obtain ⟨r, hr, cell, q1, q2, q3, q4⟩ := hP i0 _ h0
  have hr : r = (RJ0, TJ0, 4) := Option.some.inj (hr.symm.trans rfl)
  subst hr
  obtain ⟨hS, hfc, kC, hkC, hkind⟩ := hK.1 7 _ rfl
  have hcell : cell.vm.isStatics = false := by rw [q3]; rfl
  have hf : ∀ k (hk : k < 4) (v : Value), [Value.ref w, .int 0, .int 0, .int 0][k]? = some v → va_OF (TJ0 k).1 (TJ0 k).2.1 (TJ0 k).2.2.1 v q A s H := fun k hk v hv => by
    obtain ⟨cf, kf, fi, f, hi, hsl⟩ := hS k hk
    refine ⟨cf, kf, fi, f, cell, hi, (u_facts hfc hkC (u_lays hts fi_J0 hk) hi).1, q1, (by rw [q3]; exact fun h => (by cases h)), ?_, ha⟩
    rw [hsl, q4 k hk]
    simp [vp_V, hv]
  have hc := hP i1 _ h1
  refine ⟨⟨cell, q1, hcell, by rw [q2]; exact hfc, ha⟩, hf 1 (by decide) (.int 0) rfl, hf 0 (by decide) (.ref w) rfl, ⟨_, hc, (hK.2 2 _ rfl).1 n (fun j => .int (g j)), (fun h => (by cases h)), ?_, ?_, fun j hj => ?_, hb⟩⟩
  · show n ≤ (arrV _ _ _).slots.size
    rw [arrV_size]
    exact Nat.le_refl _
  · show (arrV _ _ _).slots.size.toInt32 = _
    rw [arrV_size]
  · show (arrV _ _ _).slots[j]? = _
    rw [arrV_read _ _ hj]
