theorem wq_1225 : Cond.code yJ8_newLength_cabcc cJ8_newLength_cabcc 4 (some .int) ∈ lw_g := lw_g_mk (tb_5 (List.mem_of_getElem? (i := 201) rfl)) rfl
theorem wq_70 : Cond.initialized RJ8 ∈ lw_g := lw_g_mk (tb_1 (List.mem_of_getElem? (i := 6) rfl)) rfl
theorem wq_1227 : Cond.constant RJ8 200 2147483639 ∈ lw_g := lw_g_mk (tb_5 (List.mem_of_getElem? (i := 203) rfl)) rfl
theorem wq_1226 : Cond.methodLink RJ8 194 Lib.Math.max.name ∈ lw_g := lw_g_mk (tb_5 (List.mem_of_getElem? (i := 202) rfl)) rfl
theorem wq_1222 : Cond.code yJ5_newCapacity_0f7a4 cJ5_newCapacity_0f7a4 6 (some .int) ∈ lw_g := lw_g_mk (tb_5 (List.mem_of_getElem? (i := 198) rfl)) rfl
theorem wq_65 : Cond.initialized RJ5 ∈ lw_g := lw_g_mk (tb_1 (List.mem_of_getElem? (i := 1) rfl)) rfl
theorem wq_1231 : Cond.constant RJ5 39 2147483647 ∈ lw_g := lw_g_mk (tb_5 (List.mem_of_getElem? (i := 207) rfl)) rfl
theorem wq_1363 : Cond.fieldLink RJ5 15 RJ5 "value" "[B" ∈ lw_g := lw_g_mk (tb_6 (List.mem_of_getElem? (i := 99) rfl)) rfl
theorem wq_1364 : Cond.fieldLink RJ5 22 RJ5 "coder" "B" ∈ lw_g := lw_g_mk (tb_6 (List.mem_of_getElem? (i := 100) rfl)) rfl
theorem wq_1223 : Cond.methodLink RJ5 114 yJ8_newLength_cabcc ∈ lw_g := lw_g_mk (tb_5 (List.mem_of_getElem? (i := 199) rfl)) rfl
theorem wq_1224 : Cond.static yJ8_newLength_cabcc ∈ lw_g := lw_g_mk (tb_5 (List.mem_of_getElem? (i := 200) rfl)) rfl
theorem dJ8_newLength_cabcc_0 : decode cJ8_newLength_cabcc 0 = .ok (.iload_n 0, 1) := by decide +kernel
theorem dJ8_newLength_cabcc_1 : decode cJ8_newLength_cabcc 1 = .ok (.iload_n 1, 1) := by decide +kernel
theorem dJ8_newLength_cabcc_2 : decode cJ8_newLength_cabcc 2 = .ok (.iload_n 2, 1) := by decide +kernel
theorem dJ8_newLength_cabcc_3 : decode cJ8_newLength_cabcc 3 = .ok (.invokestatic 194, 3) := by decide +kernel
theorem dJ8_newLength_cabcc_6 : decode cJ8_newLength_cabcc 6 = .ok (.iadd, 1) := by decide +kernel
theorem dJ8_newLength_cabcc_7 : decode cJ8_newLength_cabcc 7 = .ok (.istore_n 3, 1) := by decide +kernel
theorem dJ8_newLength_cabcc_8 : decode cJ8_newLength_cabcc 8 = .ok (.iconst 0, 1) := by decide +kernel
theorem dJ8_newLength_cabcc_9 : decode cJ8_newLength_cabcc 9 = .ok (.iload_n 3, 1) := by decide +kernel
theorem dJ8_newLength_cabcc_10 : decode cJ8_newLength_cabcc 10 = .ok (.if_icmp .ge 11, 3) := by decide +kernel
theorem dJ8_newLength_cabcc_13 : decode cJ8_newLength_cabcc 13 = .ok (.iload_n 3, 1) := by decide +kernel
theorem dJ8_newLength_cabcc_14 : decode cJ8_newLength_cabcc 14 = .ok (.ldc 200, 2) := by decide +kernel
theorem dJ8_newLength_cabcc_16 : decode cJ8_newLength_cabcc 16 = .ok (.if_icmp .gt 5, 3) := by decide +kernel
theorem dJ8_newLength_cabcc_19 : decode cJ8_newLength_cabcc 19 = .ok (.iload_n 3, 1) := by decide +kernel
theorem dJ8_newLength_cabcc_20 : decode cJ8_newLength_cabcc 20 = .ok (.ireturn, 1) := by decide +kernel
theorem dJ8_newLength_cabcc_21 : decode cJ8_newLength_cabcc 21 = .ok (.iload_n 0, 1) := by decide +kernel
theorem dJ8_newLength_cabcc_22 : decode cJ8_newLength_cabcc 22 = .ok (.iload_n 1, 1) := by decide +kernel
theorem dJ8_newLength_cabcc_23 : decode cJ8_newLength_cabcc 23 = .ok (.invokestatic 201, 3) := by decide +kernel
theorem dJ8_newLength_cabcc_26 : decode cJ8_newLength_cabcc 26 = .ok (.ireturn, 1) := by decide +kernel
theorem dJ5_newCapacity_0f7a4_0 : decode cJ5_newCapacity_0f7a4 0 = .ok (.aload_n 0, 1) := by decide +kernel
theorem dJ5_newCapacity_0f7a4_1 : decode cJ5_newCapacity_0f7a4 1 = .ok (.getfield 15, 3) := by decide +kernel
theorem dJ5_newCapacity_0f7a4_4 : decode cJ5_newCapacity_0f7a4 4 = .ok (.arraylength, 1) := by decide +kernel
theorem dJ5_newCapacity_0f7a4_5 : decode cJ5_newCapacity_0f7a4 5 = .ok (.istore_n 2, 1) := by decide +kernel
theorem dJ5_newCapacity_0f7a4_6 : decode cJ5_newCapacity_0f7a4 6 = .ok (.iload_n 1, 1) := by decide +kernel
theorem dJ5_newCapacity_0f7a4_7 : decode cJ5_newCapacity_0f7a4 7 = .ok (.aload_n 0, 1) := by decide +kernel
theorem dJ5_newCapacity_0f7a4_8 : decode cJ5_newCapacity_0f7a4 8 = .ok (.getfield 22, 3) := by decide +kernel
theorem dJ5_newCapacity_0f7a4_11 : decode cJ5_newCapacity_0f7a4 11 = .ok (.ishl, 1) := by decide +kernel
theorem dJ5_newCapacity_0f7a4_12 : decode cJ5_newCapacity_0f7a4 12 = .ok (.istore_n 3, 1) := by decide +kernel
theorem dJ5_newCapacity_0f7a4_13 : decode cJ5_newCapacity_0f7a4 13 = .ok (.iload_n 3, 1) := by decide +kernel
theorem dJ5_newCapacity_0f7a4_14 : decode cJ5_newCapacity_0f7a4 14 = .ok (.iload_n 2, 1) := by decide +kernel
theorem dJ5_newCapacity_0f7a4_15 : decode cJ5_newCapacity_0f7a4 15 = .ok (.isub, 1) := by decide +kernel
theorem dJ5_newCapacity_0f7a4_16 : decode cJ5_newCapacity_0f7a4 16 = .ok (.istore 4, 2) := by decide +kernel
theorem dJ5_newCapacity_0f7a4_18 : decode cJ5_newCapacity_0f7a4 18 = .ok (.iload_n 2, 1) := by decide +kernel
theorem dJ5_newCapacity_0f7a4_19 : decode cJ5_newCapacity_0f7a4 19 = .ok (.iload 4, 2) := by decide +kernel
theorem dJ5_newCapacity_0f7a4_21 : decode cJ5_newCapacity_0f7a4 21 = .ok (.iload_n 2, 1) := by decide +kernel
theorem dJ5_newCapacity_0f7a4_22 : decode cJ5_newCapacity_0f7a4 22 = .ok (.iconst 2, 1) := by decide +kernel
theorem dJ5_newCapacity_0f7a4_23 : decode cJ5_newCapacity_0f7a4 23 = .ok (.aload_n 0, 1) := by decide +kernel
theorem dJ5_newCapacity_0f7a4_24 : decode cJ5_newCapacity_0f7a4 24 = .ok (.getfield 22, 3) := by decide +kernel
theorem dJ5_newCapacity_0f7a4_27 : decode cJ5_newCapacity_0f7a4 27 = .ok (.ishl, 1) := by decide +kernel
theorem dJ5_newCapacity_0f7a4_28 : decode cJ5_newCapacity_0f7a4 28 = .ok (.iadd, 1) := by decide +kernel
theorem dJ5_newCapacity_0f7a4_29 : decode cJ5_newCapacity_0f7a4 29 = .ok (.invokestatic 114, 3) := by decide +kernel
theorem dJ5_newCapacity_0f7a4_32 : decode cJ5_newCapacity_0f7a4 32 = .ok (.istore 5, 2) := by decide +kernel
theorem dJ5_newCapacity_0f7a4_34 : decode cJ5_newCapacity_0f7a4 34 = .ok (.iload 5, 2) := by decide +kernel
theorem dJ5_newCapacity_0f7a4_36 : decode cJ5_newCapacity_0f7a4 36 = .ok (.ldc 39, 2) := by decide +kernel
theorem dJ5_newCapacity_0f7a4_38 : decode cJ5_newCapacity_0f7a4 38 = .ok (.if_icmp .ne 13, 3) := by decide +kernel
theorem dJ5_newCapacity_0f7a4_41 : decode cJ5_newCapacity_0f7a4 41 = .ok (.new 120, 3) := by decide +kernel
theorem dJ5_newCapacity_0f7a4_44 : decode cJ5_newCapacity_0f7a4 44 = .ok (.dup, 1) := by decide +kernel
theorem dJ5_newCapacity_0f7a4_45 : decode cJ5_newCapacity_0f7a4 45 = .ok (.ldc 122, 2) := by decide +kernel
theorem dJ5_newCapacity_0f7a4_47 : decode cJ5_newCapacity_0f7a4 47 = .ok (.invokespecial 124, 3) := by decide +kernel
theorem dJ5_newCapacity_0f7a4_50 : decode cJ5_newCapacity_0f7a4 50 = .ok (.athrow, 1) := by decide +kernel
theorem dJ5_newCapacity_0f7a4_51 : decode cJ5_newCapacity_0f7a4 51 = .ok (.iload 5, 2) := by decide +kernel
theorem dJ5_newCapacity_0f7a4_53 : decode cJ5_newCapacity_0f7a4 53 = .ok (.aload_n 0, 1) := by decide +kernel
theorem dJ5_newCapacity_0f7a4_54 : decode cJ5_newCapacity_0f7a4 54 = .ok (.getfield 22, 3) := by decide +kernel
theorem dJ5_newCapacity_0f7a4_57 : decode cJ5_newCapacity_0f7a4 57 = .ok (.ishr, 1) := by decide +kernel
theorem dJ5_newCapacity_0f7a4_58 : decode cJ5_newCapacity_0f7a4 58 = .ok (.ireturn, 1) := by decide +kernel
theorem mi_J8_newLength_cabcc : MInfo yJ8_newLength_cabcc cJ8_newLength_cabcc 4 (some .int) 3 := ⟨wq_1225, wq_70, by decide, ⟨by decide +kernel, by decide +kernel, by decide +kernel⟩, by decide +kernel⟩
theorem mi_J5_newCapacity_0f7a4 : MInfo yJ5_newCapacity_0f7a4 cJ5_newCapacity_0f7a4 6 (some .int) 1 := ⟨wq_1222, wq_65, by decide, ⟨by decide +kernel, by decide +kernel, by decide +kernel⟩, by decide +kernel⟩
/-! ===== StringBuilder ===== -/
def BF (n : Nat) (f : Nat → Int32) : Prop := ∀ i, i < n → fits .byte (.int (f i)) = true
def gcap (cap k : Nat) : Nat := cap + max (k - cap) (cap + 2)
def SBW (Z : Nat → ClassId) (b v cap : Nat) (n : Int32) (f : Nat → Int32) : va_W := [(b, .inr (8, [.ref v, .int 0, .int 0, .int n])), (v, .inl (Z 2, cap, .inl f))]
abbrev SBS : Type := Nat × Nat × Int32 × (Nat → Int32)
abbrev sbW (Z : Nat → ClassId) (b : Nat) (u : SBS) : va_W := SBW Z b u.1 u.2.1 u.2.2.1 u.2.2.2
/-- the builder's cells hold the text T -/
def SBI (u : SBS) (T : List Nat) : Prop := u.2.2.1 = nI T.length ∧ T.length ≤ u.2.1 ∧ u.2.1 ≤ 4000 ∧ BF u.2.1 u.2.2.2 ∧ ∀ j, j < T.length → u.2.2.2 j = nI (T.getD j 0)
theorem sh0 (x : Int32) : x >>> ((0 : Int32) &&& 31) = x := by
  rw [show ((0 : Int32) &&& 31) = 0 from by decide]
  exact Int32.shiftRight_zero
theorem sl0 (x : Int32) : x <<< ((0 : Int32) &&& 31) = x := by
  rw [show ((0 : Int32) &&& 31) = 0 from by decide]
  exact Int32.shiftLeft_zero
theorem sl2 : (2 : Int32) <<< ((0 : Int32) &&& 31) = 2 := by decide
theorem mxv_nI {a b : Nat} (ha : a < 2 ^ 31) (hb : b < 2 ^ 31) : mxv (nI a) (nI b) = nI (max a b) := by
  unfold mxv
  by_cases h : a < b
  · rw [if_pos (nI_lt h hb), Nat.max_eq_right (by omega)]
  · rw [if_neg (nI_nlt (by omega) ha), Nat.max_eq_left (by omega)]
theorem mnv_nI {a b : Nat} (ha : a < 2 ^ 31) (hb : b < 2 ^ 31) : mnv (nI a) (nI b) = nI (min a b) := by
  unfold mnv
  by_cases h : b < a
  · rw [if_pos (nI_lt h ha), Nat.min_eq_right (by omega)]
  · rw [if_neg (nI_nlt (by omega) hb), Nat.min_eq_left (by omega)]
section ROWSJ
variable {p : Program} {l : Launch} {e : Env} {s : State} {m : MethodId} {args : Array Value} {below : List Frame} {meth : Method} {c : Code} {H H0 : Heap} {locs : List Loc} {cells slots : Nat} {Q : State → Prop} {R : Room}
variable {pc : Nat} {ls : Array Slot} {rest st0 : List Value} {A : Nat → Prop} {cl : List vw_C} {D : va_G} {Z : Nat → ClassId} {ws ws' : va_W} {a : Nat}
variable {cc : ByteArray} {nL index : Nat} {own : String}
/-- fields that a superclass declares -/
theorem w_getJ {C : String} {T : u_T} {N ci q0 k : Nat} {fs : List Value} {v : Value} (hC : CallFix p m c cc nL s args lw_g own) (hK : va_K D cl (tysG Z) s) (hP : va_P D cl ws H) (hin : ∀ w ∈ u_ws C T N, w ∈ lw_g) (hc : cl[ci]? = some (C, T, N)) (he : ws[q0]? = some (a, .inr (ci, fs))) (hv : fs[k]? = some v) (hk : k < N)
    (hl : Cond.fieldLink own index (T k).1 (T k).2.1 (T k).2.2.1 ∈ lw_g) (hdg : decode cc pc = .ok (.getfield index, 3))
    (kk : W p l e R s m args below meth c H locs cells slots Q (F0 m (pc + 3) ls (v :: rest))) : W p l e R s m args below meth c H locs cells slots Q (F0 m pc ls (.ref a :: rest)) :=
  va_get hC.1 hC.2.1 hC.2.2.2.2 hin hC.2.2.2.1 hK hP q0 he hc k hk (hC.2.2.2.2 _ hl) (fun _ h => h) hv hdg kk
theorem w_putJ {C : String} {T : u_T} {N ci q0 k : Nat} {fs : List Value} {v : Value} {ty0 : Nat → FieldType} {ty : FieldType} (hC : CallFix p m c cc nL s args lw_g own) (hK : va_K D cl (tysG Z) s) (hT : TS cl D ws A H0 H locs) (hin : ∀ w ∈ u_ws C T N, w ∈ lw_g) (hty : ∀ k, k < N → parseFieldDescriptor (T k).2.2.1 = some (ty0 k)) (hnm : ∀ a, a < N → ∀ b, b < N → a ≠ b → (T a).2.1 ≠ (T b).2.1) (hc : cl[ci]? = some (C, T, N)) (he : ws[q0]? = some (a, .inr (ci, fs))) (hk : k < N) (hfin : (T k).2.2.2 = false)
    (hd : ty0 k = ty) (hn : narrow ty v = v) (hfit : fits ty v = true) (hlen : k < fs.length) (hset : ws.set q0 (a, .inr (ci, fs.set k v)) = ws')
    (hl : Cond.fieldLink own index (T k).1 (T k).2.1 (T k).2.2.1 ∈ lw_g) (hdg : decode cc pc = .ok (.putfield index, 3))
    (kk : ∀ (H1 : Heap) (locs1 : List Loc), TS cl D ws' A H0 H1 locs1 → W p l e R s m args below meth c H1 locs1 cells slots Q (F0 m (pc + 3) ls rest)) : W p l e R s m args below meth c H locs cells slots Q (F0 m pc ls (v :: .ref a :: rest)) :=
  va_put hC.1 hC.2.1 hC.2.2.2.2 hin ty0 hty hnm hC.2.2.2.1 hK hT.1 hT.2.1 hT.2.2.1 q0 he hc k hk (hC.2.2.2.2 _ hl) (fun _ h => h) hfin ((hty k hk).trans (by rw [hd])) hn hfit hlen hdg (fun H1 locs1 hP hD hS => kk H1 locs1 ⟨hset ▸ hP, hset ▸ hD, hS, hT.2.2.2⟩)
end ROWSJ
theorem sb_recv {D : va_G} {Z : Nat → ClassId} {s : State} {H : Heap} {b v cap : Nat} {n : Int32} {f : Nat → Int32} {wr : va_W} (hK : va_K D vwCl (tysG Z) s) (hP : va_P D vwCl (SBW Z b v cap n f ++ wr) H) : ∃ cell : Cell, H[b]? = some cell ∧ cell.vm.isStatics = false ∧ s.vm.findClass RJ4 = some cell.cls := va_recv (q0 := 0) (ci := 8) (cl := vwCl) hK hP rfl rfl
set_option maxRecDepth 100000 in
set_option maxHeartbeats 1000000 in
theorem c_newLen (l : Launch) (D : va_G) (Z : Nat → ClassId) (sz : Nat) (o mn pf : Int32) (h1 : 0 < o + mxv mn pf) (h2 : o + mxv mn pf ≤ 2147483639) : Met l yJ8_newLength_cabcc (wy yJ8_newLength_cabcc cJ8_newLength_cabcc 4 (some .int)) (rk 1 0 0) (pre vwCl D Z [] sz [.int o, .int mn, .int pf]) (vp_Si (fun r => r = o + mxv mn pf)) 0 0 (fun _ => False) := by
  refine ro_of (ty := .int) (by decide +kernel) (Nat.le_of_ble_eq_true rfl) rfl ?_
  intro p e s m args below meth c Q hC hN hsz hP hD hK hret ls hl
  have hx := hC.1
  have hb := hC.2.1
  have hts := hC.2.2.2.2
  have hl : lv_has ls 4 [(0, .int o), (1, .int mn), (2, .int pf)] := hl
  refine lv_iload_n hx hb dJ8_newLength_cabcc_0 rfl (lv_at hl 0 rfl) ?_
  refine lv_iload_n hx hb dJ8_newLength_cabcc_1 rfl (lv_at hl 1 rfl) ?_
  refine lv_iload_n hx hb dJ8_newLength_cabcc_2 rfl (lv_at hl 2 rfl) ?_
  refine w_max hC wq_1226 (by decide) (Nat.le_of_ble_eq_true rfl) hl.1 ⟨Nat.le_refl _, Nat.le_refl _⟩ dJ8_newLength_cabcc_3 ?_
  refine lv_iadd hx hb dJ8_newLength_cabcc_6 ?_
  refine lv_istore_n (lv' := [(3, .int (o + ((mxv mn pf)))), (0, .int o), (1, .int mn), (2, .int pf)]) hx hb dJ8_newLength_cabcc_7 rfl hl (by decide) rfl (fun ls hl => ?_)
  refine lv_iconst (v := 0) hx hb dJ8_newLength_cabcc_8 (by decide) ?_
  refine lv_iload_n hx hb dJ8_newLength_cabcc_9 rfl (lv_at hl 0 rfl) ?_
  refine lv_icmp_ge (tgt := 21) hx hb dJ8_newLength_cabcc_10 (by decide) (fun z => absurd z (Int32.not_le.mpr h1)) (fun c_10 => ?_)
  refine lv_iload_n hx hb dJ8_newLength_cabcc_13 rfl (lv_at hl 0 rfl) ?_
  refine lv_ldc (v := 2147483639) hx hb hC.2.2.2.1 (hts _ wq_1227) dJ8_newLength_cabcc_14 ?_
  refine lv_icmp_gt (tgt := 21) hx hb dJ8_newLength_cabcc_16 (by decide) (fun z => absurd z (Int32.not_lt.mpr h2)) (fun c_16 => ?_)
  refine lv_iload_n hx hb dJ8_newLength_cabcc_19 rfl (lv_at hl 0 rfl) ?_
  exact hret 20 ls _ rfl rfl dJ8_newLength_cabcc_20
theorem va_P_nil {D : va_G} {cl : List vw_C} {H : Heap} : va_P D cl [] H := fun k q h => by simp at h
theorem va_D_nil {A : Nat → Prop} : va_D A [] := ⟨fun i j p q h => by simp at h, fun k q h => by simp at h⟩
set_option maxRecDepth 100000 in
set_option maxHeartbeats 1000000 in
theorem c_newCap (l : Launch) (D : va_G) (Z : Nat → ClassId) (sz b v cap k : Nat) (n : Int32) (f : Nat → Int32) (h1 : cap < k) (h2 : k ≤ 100000) : Met l yJ5_newCapacity_0f7a4 (wy yJ5_newCapacity_0f7a4 cJ5_newCapacity_0f7a4 6 (some .int)) (rk 2 0 0) (pre vwCl D Z (SBW Z b v cap n f) sz [.ref b, .int (nI k)]) (vp_Si (fun r => r = nI (gcap cap k))) 0 0 (fun _ => False) := by
  have hne : ¬ nI (gcap cap k) = 2147483647 := fun z => by
    have := (nI_eq (a := gcap cap k) (b := 2147483647) (by unfold gcap; omega) (by omega)).mp z
    unfold gcap at this
    omega
  have hg : Int32.ofNat cap + mxv (nI (k - cap)) (nI (cap + 2)) = nI (gcap cap k) := by
    rw [mxv_nI (by omega) (by omega)]
    exact nI_add cap _
  refine ro_of (ty := .int) (by decide +kernel) (Nat.le_of_ble_eq_true rfl) rfl ?_
  intro p e s m args below meth c Q hC hN hsz hP hD hK hret ls hl
  generalize hH : s.heap = H at hP hret ⊢
  have hT : TS vwCl D (SBW Z b v cap n f) (fun _ => True) H H [] := ⟨hP, hD, va_S.rf, fun _ _ => trivial⟩
  have hx := hC.1
  have hb := hC.2.1
  have hts := hC.2.2.2.2
  have hl : lv_has ls 6 [(0, .ref b), (1, .int (nI k))] := hl
  refine lv_aload_n hx hb dJ5_newCapacity_0f7a4_0 rfl (lv_at hl 0 rfl) ?_
  refine w_getJ (C := RJ4) (T := TJ4) (N := 4) (ci := 8) (q0 := 0) (k := 0) hC hK hT.1 fi_J4 rfl rfl rfl (by decide) wq_1363 dJ5_newCapacity_0f7a4_1 ?_
  refine w_alen (q0 := 1) (t0 := 2) hC hK hT.1 rfl rfl dJ5_newCapacity_0f7a4_4 ?_
  refine lv_istore_n (lv' := [(2, .int (Int32.ofNat cap)), (0, .ref b), (1, .int (nI k))]) hx hb dJ5_newCapacity_0f7a4_5 rfl hl (by decide) rfl (fun ls hl => ?_)
  refine lv_iload_n hx hb dJ5_newCapacity_0f7a4_6 rfl (lv_at hl 2 rfl) ?_
  refine lv_aload_n hx hb dJ5_newCapacity_0f7a4_7 rfl (lv_at hl 1 rfl) ?_
  refine w_getJ (C := RJ4) (T := TJ4) (N := 4) (ci := 8) (q0 := 0) (k := 1) hC hK hT.1 fi_J4 rfl rfl rfl (by decide) wq_1364 dJ5_newCapacity_0f7a4_8 ?_
  refine lv_ishl hx hb dJ5_newCapacity_0f7a4_11 ?_
  rw [sl0]
  refine lv_istore_n (lv' := [(3, .int (nI k)), (2, .int (Int32.ofNat cap)), (0, .ref b), (1, .int (nI k))]) hx hb dJ5_newCapacity_0f7a4_12 rfl hl (by decide) rfl (fun ls hl => ?_)
  refine lv_iload_n hx hb dJ5_newCapacity_0f7a4_13 rfl (lv_at hl 0 rfl) ?_
  refine lv_iload_n hx hb dJ5_newCapacity_0f7a4_14 rfl (lv_at hl 1 rfl) ?_
  refine lv_isub hx hb dJ5_newCapacity_0f7a4_15 ?_
  rw [show nI k - Int32.ofNat cap = nI (k - cap) from pk_sub (by omega)]
  refine lv_istore (lv' := [(4, .int (nI (k - cap))), (3, .int (nI k)), (2, .int (Int32.ofNat cap)), (0, .ref b), (1, .int (nI k))]) hx hb dJ5_newCapacity_0f7a4_16 hl (by decide) rfl (fun ls hl => ?_)
  refine lv_iload_n hx hb dJ5_newCapacity_0f7a4_18 rfl (lv_at hl 2 rfl) ?_
  refine lv_iload hx hb dJ5_newCapacity_0f7a4_19 (lv_at hl 0 rfl) ?_
  refine lv_iload_n hx hb dJ5_newCapacity_0f7a4_21 rfl (lv_at hl 2 rfl) ?_
  refine lv_iconst (v := 2) hx hb dJ5_newCapacity_0f7a4_22 (by decide) ?_
  refine lv_aload_n hx hb dJ5_newCapacity_0f7a4_23 rfl (lv_at hl 3 rfl) ?_
  refine w_getJ (C := RJ4) (T := TJ4) (N := 4) (ci := 8) (q0 := 0) (k := 1) hC hK hT.1 fi_J4 rfl rfl rfl (by decide) wq_1364 dJ5_newCapacity_0f7a4_24 ?_
  refine lv_ishl hx hb dJ5_newCapacity_0f7a4_27 ?_
  rw [sl0]
  refine lv_iadd hx hb dJ5_newCapacity_0f7a4_28 ?_
  rw [show Int32.ofNat cap + 2 = nI (cap + 2) from nI_add cap 2]
  refine ro_go (runS (As := [.int (Int32.ofNat cap), .int (nI (k - cap)), .int (nI (cap + 2))]) (ws := []) hC hN (c_newLen l D Z H.size _ _ _ ?_ ?_) mi_J8_newLength_cabcc wq_1223 wq_1224 (by decide) (va_P_nil) (va_D_nil) hK rfl hl.1 rfl (Nat.le_of_ble_eq_true rfl) dJ5_newCapacity_0f7a4_29 ⟨Nat.le_refl _, Nat.le_refl _⟩) (fun r hr => ?_)
  · rw [hg]; exact nI_lt (a := 0) (by unfold gcap; omega) (by unfold gcap; omega)
  · rw [hg]; exact nI_le (b := 2147483639) (by unfold gcap; omega) (by omega)
  rw [hg] at hr
  subst hr
  refine lv_istore (lv' := [(5, .int (nI (gcap cap k))), (4, .int (nI (k - cap))), (3, .int (nI k)), (2, .int (Int32.ofNat cap)), (0, .ref b), (1, .int (nI k))]) hx hb dJ5_newCapacity_0f7a4_32 hl (by decide) rfl (fun ls hl => ?_)
  refine lv_iload hx hb dJ5_newCapacity_0f7a4_34 (lv_at hl 0 rfl) ?_
  refine lv_ldc (v := 2147483647) hx hb hC.2.2.2.1 (hts _ wq_1231) dJ5_newCapacity_0f7a4_36 ?_
  refine lv_icmp_ne (tgt := 51) hx hb dJ5_newCapacity_0f7a4_38 (by decide) (fun c_38 => ?_) (fun z => absurd z hne)
  refine lv_iload hx hb dJ5_newCapacity_0f7a4_51 (lv_at hl 0 rfl) ?_
  refine lv_aload_n hx hb dJ5_newCapacity_0f7a4_53 rfl (lv_at hl 4 rfl) ?_
  refine w_getJ (C := RJ4) (T := TJ4) (N := 4) (ci := 8) (q0 := 0) (k := 1) hC hK hT.1 fi_J4 rfl rfl rfl (by decide) wq_1364 dJ5_newCapacity_0f7a4_54 ?_
  refine lv_ishr hx hb dJ5_newCapacity_0f7a4_57 ?_
  rw [sh0]
  exact hret 58 ls _ rfl rfl dJ5_newCapacity_0f7a4_58
