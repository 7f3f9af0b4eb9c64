theorem wq_801 : Cond.static yX5_copy ∈ lw_g := lw_g_mk (tb_4 (List.mem_of_getElem? (i := 17) rfl)) rfl
theorem wq_802 : Cond.code yX5_copy cX5_copy 3 none ∈ lw_g := lw_g_mk (tb_4 (List.mem_of_getElem? (i := 18) rfl)) rfl
theorem dX5_copy_0 : decode cX5_copy 0 = .ok (.iconst 0, 1) := by decide +kernel
theorem dX5_copy_1 : decode cX5_copy 1 = .ok (.istore_n 2, 1) := by decide +kernel
theorem dX5_copy_2 : decode cX5_copy 2 = .ok (.iload_n 2, 1) := by decide +kernel
theorem dX5_copy_3 : decode cX5_copy 3 = .ok (.aload_n 0, 1) := by decide +kernel
theorem dX5_copy_4 : decode cX5_copy 4 = .ok (.arraylength, 1) := by decide +kernel
theorem dX5_copy_5 : decode cX5_copy 5 = .ok (.if_icmp .ge 21, 3) := by decide +kernel
theorem dX5_copy_8 : decode cX5_copy 8 = .ok (.iload_n 2, 1) := by decide +kernel
theorem dX5_copy_9 : decode cX5_copy 9 = .ok (.aload_n 1, 1) := by decide +kernel
theorem dX5_copy_10 : decode cX5_copy 10 = .ok (.arraylength, 1) := by decide +kernel
theorem dX5_copy_11 : decode cX5_copy 11 = .ok (.if_icmp .ge 15, 3) := by decide +kernel
theorem dX5_copy_14 : decode cX5_copy 14 = .ok (.aload_n 1, 1) := by decide +kernel
theorem dX5_copy_15 : decode cX5_copy 15 = .ok (.iload_n 2, 1) := by decide +kernel
theorem dX5_copy_16 : decode cX5_copy 16 = .ok (.aload_n 0, 1) := by decide +kernel
theorem dX5_copy_17 : decode cX5_copy 17 = .ok (.iload_n 2, 1) := by decide +kernel
theorem dX5_copy_18 : decode cX5_copy 18 = .ok (.iaload, 1) := by decide +kernel
theorem dX5_copy_19 : decode cX5_copy 19 = .ok (.iastore, 1) := by decide +kernel
theorem dX5_copy_20 : decode cX5_copy 20 = .ok (.iinc 2 1, 3) := by decide +kernel
theorem dX5_copy_23 : decode cX5_copy 23 = .ok (.goto (-21), 3) := by decide +kernel
theorem dX5_copy_26 : decode cX5_copy 26 = .ok (.return_, 1) := by decide +kernel
theorem mi_X5_copy : MInfo yX5_copy cX5_copy 3 none 2 := ⟨wq_802, wq_78, by decide, ⟨by decide +kernel, by decide +kernel, by decide +kernel⟩, by decide +kernel⟩
theorem arrI_ext {c : ClassId} {n : Nat} {f g : Nat → Int32} (h : ∀ j < n, f j = g j) : vp_cell c (n, .inl f) = vp_cell c (n, .inl g) := by
  rw [vp_cell_i, vp_cell_i]
  have e : (Array.ofFn (n := n) fun j => Value.int (f j.val)) = Array.ofFn (n := n) fun j => Value.int (g j.val) := by
    congr 1
    funext j
    rw [h j.val j.isLt]
  show ({ cls := c, slots := Array.ofFn (n := n) fun j => Value.int (f j.val), vm := .none } : Cell) = _
  rw [e]; rfl
/-- the second of two rows, when it holds what the first holds -/
theorem TS.same2 {D : va_G} {Z : Nat → ClassId} {A : Nat → Prop} {H0 H : Heap} {locs : List Loc} {pre_ : va_W} {x y n : Nat} {f h : Nat → Int32} (hT : TS vwCl D (pre_ ++ [(x, .inl (Z 0, n, .inl f)), (y, .inl (Z 0, n, .inl h))]) A H0 H locs) (he : ∀ j < n, h j = f j) : TS vwCl D (pre_ ++ [(x, .inl (Z 0, n, .inl f)), (y, .inl (Z 0, n, .inl f))]) A H0 H locs := by
  have ha : (pre_ ++ [(x, .inl (Z 0, n, .inl f)), (y, .inl (Z 0, n, .inl h))] : va_W)[pre_.length + 1]? = some (y, .inl (Z 0, n, .inl h)) := by
    rw [List.getElem?_append_right (by omega)]
    simp
  refine hT.set1 (q0 := pre_.length + 1) (a := y) (e := .inl (Z 0, n, .inl f)) ha ?_ (fun _ _ _ => rfl) ?_ hT.2.2.1
  · rw [List.set_append_right _ _ (by omega)]
    simp
  · intro k q hk
    have hk1 : k < 1 := (List.getElem?_eq_some_iff.mp hk).1
    have hk0 : k = 0 := by omega
    subst hk0
    cases hk
    have := hT.1 (pre_.length + 1) _ ha
    show H[y]? = some (vp_cell (Z 0) (n, .inl f))
    rw [← arrI_ext he]
    exact this
theorem i32_succ {i : Int32} {n : Nat} (h0 : 0 ≤ i.toInt) (h1 : i.toInt + 1 ≤ (n : Int)) (hn : n < 2 ^ 31) : (i + 1).toInt = i.toInt + 1 := by
  rw [Int32.toInt_add]
  show Int.bmod (i.toInt + 1) (2 ^ 32) = _
  exact Int.bmod_eq_of_le (by omega) (by omega)
/-- some cells of the world are given anew, the rest is as it was -/
theorem TS.setL {cl : List vw_C} {D : va_G} {ws ws' wc wc' : va_W} {A : Nat → Prop} {H0 H H1 : Heap} {locs locs1 : List Loc} {is : List Nat} (hT : TS cl D ws A H0 H locs) (hsub : is.map (fun i => ws[i]?) = wc.map some)
    (hk : ∀ q : Nat, q < H.size → ¬ va_A wc H.size q → H1[q]? = H[q]?) (hP1 : va_P D cl wc' H1) (hws : ∀ (k : Nat) (q : Nat × va_E), ws'[k]? = some q → (∃ j : Nat, wc'[j]? = some q) ∨ (k ∉ is ∧ ws[k]? = some q)) (hD' : va_D A ws') (hS1 : va_S A H0 H1 locs1) : TS cl D ws' A H0 H1 locs1 := by
  refine ⟨fun k q hq => ?_, hD', hS1, hT.2.2.2⟩
  rcases hws k q hq with ⟨j, hj⟩ | ⟨hn, hq⟩
  · exact hP1 j q hj
  · have hat := hT.1 k q hq
    refine hat.kept (hk q.1 hat.lt (fun z => ?_))
    rcases z with ⟨j, e, z⟩ | z
    · have h1 : (is.map (fun i => ws[i]?))[j]? = some (some (q.1, e)) := by rw [hsub]; simp [z]
      rw [List.getElem?_map] at h1
      cases h2 : is[j]? with
      | none => rw [h2] at h1; cases h1
      | some i =>
        rw [h2] at h1
        have h3 : ws[i]? = some (q.1, e) := by simpa using h1
        have h4 := hT.2.1.1 k i q (q.1, e) hq h3 rfl
        exact hn (h4 ▸ List.mem_of_getElem? h2)
    · exact absurd hat.lt (by omega)
section COPYS
variable {p : Program} {l : Launch} {e : Env} {s : State} {m : MethodId} {args : Array Value} {below : List Frame} {meth : Method} {c : Code} {H H0 : Heap} {locs : List Loc} {cells slots : Nat} {Q : State → Prop} {R : Room}
variable {pc : Nat} {ls : Array Slot} {rest : List Value} {A : Nat → Prop} {D : va_G} {Z : Nat → ClassId} {ws ws' : va_W} {rn mcR msR : Nat}
variable {cc : ByteArray} {nL index : Nat} {own host : String} {x y o n qo q0 q1 : Nat} {f g : Nat → Int32}
set_option maxRecDepth 100000 in
theorem c_copyJ (l : Launch) (D : va_G) (Z : Nat → ClassId) (sz x y n : Nat) (f g : Nat → Int32) (hn : n < 2 ^ 31) : Met l yX5_copy (wy yX5_copy cX5_copy 3 none) (rk 0 0 0) (pre vwCl D Z [(x, .inl (Z 0, n, .inl f)), (y, .inl (Z 0, n, .inl g))] sz [.ref x, .ref y]) (poV vwCl D Z (fun h => [(x, .inl (Z 0, n, .inl f)), (y, .inl (Z 0, n, .inl h))]) g sz (fun h => h = f)) 0 0 (va_A [(x, .inl (Z 0, n, .inl f)), (y, .inl (Z 0, n, .inl g))] sz) := by
  refine rwv_of (wsF := fun h => [(x, .inl (Z 0, n, .inl f)), (y, .inl (Z 0, n, .inl h))]) (u0 := g) (by decide +kernel) (Nat.le_of_ble_eq_true rfl) rfl ?_
  intro p e s m args below meth c Q A hC hN hsz hnm hT hK hret ls hl
  have hx := hC.1
  have hb := hC.2.1
  have hl : lv_has ls 3 [(0, .ref x), (1, .ref y)] := hl
  have L : ∀ (k : Nat) (i : Int32) (h : Nat → Int32) (H : Heap) (locs : List Loc) (ls : Array Slot), 0 ≤ i.toInt → i.toInt + (k : Int) = (n : Int) → (∀ j : Nat, (j : Int) < i.toInt → h j = f j) → TS vwCl D [(x, .inl (Z 0, n, .inl f)), (y, .inl (Z 0, n, .inl h))] A s.heap H locs → lv_has ls 3 [(2, .int i), (0, .ref x), (1, .ref y)] → W p l e (rk 0 0 0) s m args below meth c H locs 0 0 Q (F0 m 2 ls []) := by
    intro k
    induction k with
    | zero =>
      intro i h H locs ls h0 hik he hT hl
      refine lv_iload_n hx hb dX5_copy_2 rfl (lv_at hl 0 rfl) ?_
      refine lv_aload_n hx hb dX5_copy_3 rfl (lv_at hl 1 rfl) ?_
      refine w_alen (q0 := 0) (t0 := 0) hC hK hT.1 rfl rfl dX5_copy_4 ?_
      refine lv_icmp_ge (tgt := 26) hx hb dX5_copy_5 (by decide) (fun c2 => ?_) (fun c2 => ?_)
      · exact hret 26 ls _ _ f rfl (TS.same2 (pre_ := []) hT (fun j hj => he j (by omega))) dX5_copy_26
      · exact absurd ((ofN_le hn).mpr (by omega)) c2
    | succ k ih =>
      intro i h H locs ls h0 hik he hT hl
      have hlt : ¬ Int32.ofNat n ≤ i := fun z => absurd ((ofN_le hn).mp z) (by omega)
      have hi : inb i n := ⟨h0, by omega⟩
      have hin : ((i.toInt.toNat : Nat) : Int) = i.toInt := Int.toNat_of_nonneg h0
      refine lv_iload_n hx hb dX5_copy_2 rfl (lv_at hl 0 rfl) ?_
      refine lv_aload_n hx hb dX5_copy_3 rfl (lv_at hl 1 rfl) ?_
      refine w_alen (q0 := 0) (t0 := 0) hC hK hT.1 rfl rfl dX5_copy_4 ?_
      refine lv_icmp_ge (tgt := 26) hx hb dX5_copy_5 (by decide) (fun c2 => absurd c2 hlt) (fun c2 => ?_)
      refine lv_iload_n hx hb dX5_copy_8 rfl (lv_at hl 0 rfl) ?_
      refine lv_aload_n hx hb dX5_copy_9 rfl (lv_at hl 2 rfl) ?_
      refine w_alen (q0 := 1) (t0 := 0) hC hK hT.1 rfl rfl dX5_copy_10 ?_
      refine lv_icmp_ge (tgt := 26) hx hb dX5_copy_11 (by decide) (fun c2 => absurd c2 hlt) (fun c2 => ?_)
      refine lv_aload_n hx hb dX5_copy_14 rfl (lv_at hl 2 rfl) ?_
      refine lv_iload_n hx hb dX5_copy_15 rfl (lv_at hl 0 rfl) ?_
      refine lv_aload_n hx hb dX5_copy_16 rfl (lv_at hl 1 rfl) ?_
      refine lv_iload_n hx hb dX5_copy_17 rfl (lv_at hl 0 rfl) ?_
      refine w_iald (q0 := 0) hC hK hT.1 rfl hi dX5_copy_18 ?_
      refine w_iast (q0 := 1) (ws' := [(x, .inl (Z 0, n, .inl f)), (y, .inl (Z 0, n, .inl (upd h i.toInt.toNat (f i.toInt.toNat))))]) hC hK hT rfl hi rfl dX5_copy_19 (fun H locs hT => ?_)
      refine lv_iinc (v := i + 1) (lv' := [(2, .int (i + 1)), (0, .ref x), (1, .ref y)]) hx hb dX5_copy_20 hl (k := 0) rfl rfl (by decide) rfl (fun ls hl => ?_)
      refine lv_goto (tgt := 2) hx hb dX5_copy_23 (by decide) ?_
      have hs : (i + 1).toInt = i.toInt + 1 := i32_succ (n := n) (by omega) (by omega) hn
      refine ih (i + 1) _ H locs ls (by omega) (by omega) (fun j hj => ?_) hT hl
      by_cases hj2 : j = i.toInt.toNat
      · subst hj2; exact if_pos rfl
      · show (if j = i.toInt.toNat then _ else h j) = f j
        rw [if_neg hj2]
        exact he j (by omega)
  refine lv_iconst (v := 0) hx hb dX5_copy_0 (by decide) ?_
  refine lv_istore_n (lv' := [(2, .int 0), (0, .ref x), (1, .ref y)]) hx hb dX5_copy_1 rfl hl (by decide) rfl (fun ls hl => ?_)
  exact L n 0 g _ _ ls (by decide) (by show (0 : Int) + (n : Int) = (n : Int); omega) (fun j hj => absurd hj (by show ¬ (j : Int) < (0 : Int); omega)) hT hl
theorem w_cpJ (hC : CallFix p m c cc nL s args lw_g own) (hN : NW s) (hK : va_K D vwCl (tysG Z) s) (hT : TS vwCl D ws A H0 H locs) (hl : Cond.methodLinkNest own index yX5_copy RX5 ∈ lw_n) (h0 : ws[q0]? = some (x, .inl (Z 0, n, .inl f))) (h1 : ws[q1]? = some (y, .inl (Z 0, n, .inl g))) (h01 : q0 ≠ q1) (hset : ws.set q1 (y, .inl (Z 0, n, .inl f)) = ws') (hn : n < 2 ^ 31) (hlt : 0 < rn) (hsize : ls.size = nL) (hW : (rest.map fun v => v.category).sum ≤ 8) (hf : cells + 0 ≤ mcR ∧ slots + 0 ≤ msR) (hdg : decode cc pc = .ok (.invokestatic index, 3))
    (kk : ∀ (H1 : Heap) (locs1 : List Loc), TS vwCl D ws' A H0 H1 locs1 → W p l e (rk rn mcR msR) s m args below meth c H1 locs1 cells slots Q (F0 m (pc + 3) ls rest)) : W p l e (rk rn mcR msR) s m args below meth c H locs cells slots Q (F0 m pc ls (.ref y :: .ref x :: rest)) := by
  have hsub : [q0, q1].map (fun i => ws[i]?) = [(x, .inl (Z 0, n, .inl f)), (y, .inl (Z 0, n, .inl g))].map some := by simp [h0, h1]
  have hnd : va_nd [q0, q1] = true := by simp [va_nd, h01]
  have hF : ∀ q, va_A [(x, .inl (Z 0, n, .inl f)), (y, .inl (Z 0, n, .inl g))] H.size q → A q := va_free hT.2.1 hT.2.2.1 hT.2.2.2 [q0, q1] hsub
  refine va_callv (runSN (As := [.ref x, .ref y]) hC hN (c_copyJ l D Z H.size x y n f g hn) mi_X5_copy hl wq_801 hlt (hT.1.sub [q0, q1] (map_fm hsub)) (hT.D'.sub [q0, q1] hnd hsub) hK rfl hsize rfl hW hdg hf) hT.2.2.1 (fun q _ h => hF q h) hF (fun u t H1 locs1 ht hvm hk hB hz1 hk1 hS1 => ?_)
  obtain ⟨hP1, _, _⟩ := hB
  rw [ht, hk] at hP1
  refine kk H1 locs1 (hT.setL hsub hk1 hP1 (fun k q hq => ?_) (hset ▸ hT.2.1.set h1) hS1)
  rw [← hset] at hq
  by_cases k1 : k = q1
  · subst k1
    rw [List.getElem?_set_self (List.getElem?_eq_some_iff.mp h1).1] at hq
    exact Or.inl ⟨1, hq⟩
  · rw [List.getElem?_set_ne (Ne.symm k1)] at hq
    by_cases k0 : k = q0
    · subst k0; rw [h0] at hq; exact Or.inl ⟨0, hq⟩
    · exact Or.inr ⟨by simp [k0, k1], hq⟩
end COPYS
