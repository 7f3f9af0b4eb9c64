/-! ===== worlds by permutation; cells in front; pools of rows ===== -/
theorem va_D_iff {A : Nat → Prop} {ws : va_W} : va_D A ws ↔ (ws.Pairwise (fun p q => p.1 ≠ q.1)) ∧ ∀ q ∈ ws, A q.1 := by
  constructor
  · intro h
    refine ⟨List.pairwise_iff_getElem.mpr (fun i j hi hj hij e => ?_), fun q hq => ?_⟩
    · exact absurd (h.1 i j _ _ (List.getElem?_eq_getElem hi) (List.getElem?_eq_getElem hj) e) (by omega)
    · obtain ⟨k, hk⟩ := List.mem_iff_getElem?.mp hq
      exact h.2 k q hk
  · intro h
    have hp := List.pairwise_iff_getElem.mp h.1
    refine ⟨fun i j p q hi hj e => ?_, fun k q hk => h.2 q (List.mem_of_getElem? hk)⟩
    obtain ⟨hi1, hi2⟩ := List.getElem?_eq_some_iff.mp hi
    obtain ⟨hj1, hj2⟩ := List.getElem?_eq_some_iff.mp hj
    rcases Nat.lt_trichotomy i j with c | c | c
    · exact absurd (by rw [hi2, hj2]; exact e) (hp i j hi1 hj1 c)
    · exact c
    · exact absurd (by rw [hi2, hj2]; exact e.symm) (hp j i hj1 hi1 c)
theorem va_P_iff {D : va_G} {cl : List vw_C} {ws : va_W} {H : Heap} : va_P D cl ws H ↔ ∀ q ∈ ws, va_at D cl q H :=
  ⟨fun h q hq => by obtain ⟨k, hk⟩ := List.mem_iff_getElem?.mp hq; exact h k q hk, fun h k q hk => h q (List.mem_of_getElem? hk)⟩
theorem va_D.perm {A : Nat → Prop} {ws ws' : va_W} (h : va_D A ws) (hp : ws.Perm ws') : va_D A ws' := by
  have h' := va_D_iff.mp h
  refine va_D_iff.mpr ⟨?_, fun q hq => h'.2 q (hp.mem_iff.mpr hq)⟩
  exact (hp.pairwise_iff (fun h e => h e.symm)).mp h'.1
theorem va_P.perm {D : va_G} {cl : List vw_C} {ws ws' : va_W} {H : Heap} (h : va_P D cl ws H) (hp : ws.Perm ws') : va_P D cl ws' H :=
  va_P_iff.mpr (fun q hq => va_P_iff.mp h q (hp.mem_iff.mpr hq))
theorem TS.perm {cl : List vw_C} {D : va_G} {ws ws' : va_W} {A : Nat → Prop} {H0 H : Heap} {locs : List Loc} (hT : TS cl D ws A H0 H locs) (hp : ws.Perm ws') : TS cl D ws' A H0 H locs :=
  ⟨hT.1.perm hp, hT.2.1.perm hp, hT.2.2⟩
theorem TS.front {cl : List vw_C} {D : va_G} {ws w2 : va_W} {A : Nat → Prop} {H0 H : Heap} {locs : List Loc} (hT : TS cl D (ws ++ w2) A H0 H locs) : TS cl D (w2 ++ ws) A H0 H locs := hT.perm List.perm_append_comm
theorem TS.dropL {cl : List vw_C} {D : va_G} {ws w2 : va_W} {A : Nat → Prop} {H0 H : Heap} {locs : List Loc} (hT : TS cl D (ws ++ w2) A H0 H locs) : TS cl D w2 A H0 H locs := hT.front.dropR
theorem pm2 (a b c : va_W) : (a ++ (b ++ c)).Perm (b ++ (a ++ c)) := by
  rw [← List.append_assoc, ← List.append_assoc]
  exact List.Perm.append_right c List.perm_append_comm
theorem pm3 (a b c d : va_W) : (a ++ (b ++ (c ++ d))).Perm (c ++ (a ++ (b ++ d))) := (List.Perm.append_left a (pm2 b c d)).trans (pm2 a c (b ++ d))
theorem pm3' (a b c d : va_W) : (c ++ (a ++ (b ++ d))).Perm (a ++ (b ++ (c ++ d))) := (pm3 a b c d).symm
theorem va_nd_iff : ∀ l : List Nat, va_nd l = true ↔ l.Nodup
  | [] => by simp [va_nd]
  | a :: l => by simp only [va_nd, Bool.and_eq_true, decide_eq_true_eq, List.nodup_cons, va_nd_iff l]
theorem range_some {ws : va_W} : (List.range ws.length).map (fun i => ws[i]?) = ws.map some := by
  apply List.ext_getElem
  · simp
  · intro i h1 h2
    simp at h1
    simp [h1]
theorem Cut.app {S : Type} {wsF : S → va_W} {u0 : S} {wr : va_W} {N : Nat} (hN : ∀ u, (wsF u).length = N) : Cut (wsF u0 ++ wr) wsF u0 wr (List.range N) ((List.range wr.length).map (fun i => i + N)) (((List.range N).map (fun i => i + wr.length)) ++ List.range wr.length) (fun u => wsF u ++ wr) := by
  refine ⟨?_, ?_, ?_, ?_, ?_, ?_⟩
  · rw [← range_some, hN u0]
    apply List.map_congr_left
    intro i hi
    rw [List.getElem?_append_left (by rw [hN u0]; exact List.mem_range.mp hi)]
  · rw [← range_some, List.map_map]
    apply List.map_congr_left
    intro i hi
    show (wsF u0 ++ wr)[i + N]? = wr[i]?
    rw [List.getElem?_append_right (by rw [hN u0]; omega), hN u0, Nat.add_sub_cancel]
  · rw [va_nd_iff]
    exact List.Pairwise.map _ (fun i j h => by omega) List.nodup_range
  · intro i hi hc
    obtain ⟨j, _, e⟩ := List.mem_map.mp hi
    have := List.mem_range.mp hc
    omega
  · rw [va_nd_iff, List.nodup_append]
    refine ⟨List.Pairwise.map _ (fun i j h => by omega) List.nodup_range, List.nodup_range, fun i hi j hj e => ?_⟩
    obtain ⟨k, _, e2⟩ := List.mem_map.mp hi
    have := List.mem_range.mp hj
    omega
  · intro u
    rw [List.map_append, List.map_append]
    congr 1
    · rw [← range_some, hN u, List.map_map]
      apply List.map_congr_left
      intro i hi
      show (wr ++ wsF u)[i + wr.length]? = (wsF u)[i]?
      rw [List.getElem?_append_right (by omega), Nat.add_sub_cancel]
    · rw [← range_some]
      apply List.map_congr_left
      intro i hi
      rw [List.getElem?_append_left (List.mem_range.mp hi)]
theorem range_nd (N : Nat) : va_nd (List.range N) = true := (va_nd_iff _).mpr List.nodup_range
/-- behind a call whose world stands in front -/
theorem app_C {w0 wr : va_W} : (List.range w0.length).map (fun i => (w0 ++ wr)[i]?) = w0.map some := (Cut.app (S := Unit) (wsF := fun _ => w0) (u0 := ()) (wr := wr) (fun _ => rfl)).1
theorem app_R {w0 wr : va_W} : ((List.range wr.length).map (fun i => i + w0.length)).map (fun i => (w0 ++ wr)[i]?) = wr.map some := (Cut.app (S := Unit) (wsF := fun _ => w0) (u0 := ()) (wr := wr) (fun _ => rfl)).2.1
theorem app_nd {w0 wr : va_W} : va_nd ((List.range wr.length).map (fun i => i + w0.length)) = true := (Cut.app (S := Unit) (wsF := fun _ => w0) (u0 := ()) (wr := wr) (fun _ => rfl)).2.2.1
theorem app_dj {w0 wr : va_W} : ∀ i ∈ (List.range wr.length).map (fun i => i + w0.length), i ∉ List.range w0.length := (Cut.app (S := Unit) (wsF := fun _ => w0) (u0 := ()) (wr := wr) (fun _ => rfl)).2.2.2.1
/-- rows of a pool: n rows of len places, the j-th at r j, holding F j -/
def pool (Z : Nat → ClassId) (r : Nat → Nat) (F : M2) (len n : Nat) : va_W := (List.range n).map (fun j => (r j, .inl (Z 0, len, .inl (F j))))
theorem pool_len {Z : Nat → ClassId} {r : Nat → Nat} {F : M2} {len n : Nat} : (pool Z r F len n).length = n := by simp [pool]
theorem pool_at {Z : Nat → ClassId} {r : Nat → Nat} {F : M2} {len n : Nat} {A B : va_W} {j : Nat} (hj : j < n) : (A ++ (pool Z r F len n ++ B))[A.length + j]? = some (r j, .inl (Z 0, len, .inl (F j))) := by
  rw [List.getElem?_append_right (by omega), Nat.add_sub_cancel_left, List.getElem?_append_left (by rw [pool_len]; exact hj)]
  simp [pool, hj]
theorem pool_set {Z : Nat → ClassId} {r : Nat → Nat} {F : M2} {len n : Nat} {A B : va_W} {j : Nat} {g : Nat → Int32} (hj : j < n) : (A ++ (pool Z r F len n ++ B)).set (A.length + j) (r j, .inl (Z 0, len, .inl g)) = A ++ (pool Z r (up2 F j g) len n ++ B) := by
  rw [List.set_append_right _ _ (by omega), Nat.add_sub_cancel_left, List.set_append_left _ _ (by rw [pool_len]; exact hj)]
  congr 2
  apply List.ext_getElem
  · simp [pool]
  · intro i h1 h2
    simp only [pool, List.length_map, List.length_range] at h2
    rw [List.getElem_set]
    by_cases e : j = i
    · subst e
      simp [pool, up2]
    · simp [pool, up2, e, Ne.symm e]
/-- a row more, behind the others -/
theorem pool_succ {Z : Nat → ClassId} {r r' : Nat → Nat} {F F' : M2} {len n q : Nat} {g : Nat → Int32} (hr : ∀ j, j < n → r' j = r j) (hF : ∀ j, j < n → F' j = F j) (hq : r' n = q) (hg : F' n = g) : pool Z r' F' len (n + 1) = pool Z r F len n ++ [(q, .inl (Z 0, len, .inl g))] := by
  unfold pool
  rw [List.range_succ, List.map_append]
  congr 1
  · apply List.map_congr_left
    intro j hj
    have := List.mem_range.mp hj
    rw [hr j this, hF j this]
  · simp [hq, hg]
theorem pool_cong {Z : Nat → ClassId} {r r' : Nat → Nat} {F F' : M2} {len n : Nat} (hr : ∀ j, j < n → r' j = r j) (hF : ∀ j, j < n → F' j = F j) : pool Z r' F' len n = pool Z r F len n := by
  unfold pool
  apply List.map_congr_left
  intro j hj
  have := List.mem_range.mp hj
  rw [hr j this, hF j this]
section ROWS5
variable {p : Program} {l : Launch} {e : Env} {s : State} {m : MethodId} {args : Array Value} {below : List Frame} {meth : Method} {c : Code} {H H0 : Heap} {locs : List Loc} {cells slots : Nat} {Q : State → Prop} {R : Room}
variable {pc : Nat} {ls : Array Slot} {rest st0 : List Value} {A : Nat → Prop} {D : va_G} {Z : Nat → ClassId} {ws ws' wa wb : va_W} {a : Nat}
variable {cc : ByteArray} {nL index : Nat} {own : String} {N : Nat} {n : Int32}
/-- a row of a pool, read and written -/
theorem w_rld {r : Nat → Nat} {F : M2} {len N : Nat} {i j : Int32} (hC : CallFix p m c cc nL s args lw_g own) (hK : va_K D vwCl (tysG Z) s) (hP : va_P D vwCl ws H) (hw : ws = wa ++ (pool Z r F len N ++ wb)) (hi : inb i N) (hj : inb j len) (hdg : decode cc pc = .ok (.iaload, 1))
    (kk : W p l e R s m args below meth c H locs cells slots Q (F0 m (pc + 1) ls (.int (F i.toInt.toNat j.toInt.toNat) :: rest))) : W p l e R s m args below meth c H locs cells slots Q (F0 m pc ls (.int j :: .ref (r i.toInt.toNat) :: rest)) := by
  subst hw
  exact w_iald (q0 := wa.length + i.toInt.toNat) hC hK hP (pool_at (by omega)) hj hdg kk
theorem w_rst {r : Nat → Nat} {F : M2} {len N : Nat} {i j x : Int32} (hC : CallFix p m c cc nL s args lw_g own) (hK : va_K D vwCl (tysG Z) s) (hT : TS vwCl D ws A H0 H locs) (hw : ws = wa ++ (pool Z r F len N ++ wb)) (hi : inb i N) (hj : inb j len) (hw' : wa ++ (pool Z r (up2 F i.toInt.toNat (upd (F i.toInt.toNat) j.toInt.toNat x)) len N ++ wb) = ws') (hdg : decode cc pc = .ok (.iastore, 1))
    (kk : ∀ (H1 : Heap) (locs1 : List Loc), TS vwCl D ws' A H0 H1 locs1 → W p l e R s m args below meth c H1 locs1 cells slots Q (F0 m (pc + 1) ls rest)) : W p l e R s m args below meth c H locs cells slots Q (F0 m pc ls (.int x :: .int j :: .ref (r i.toInt.toNat) :: rest)) := by
  subst hw
  exact w_iast (q0 := wa.length + i.toInt.toNat) (ws' := ws') hC hK hT (pool_at (by omega)) hj ((pool_set (by omega)).trans hw') hdg kk
theorem w_rlen {r : Nat → Nat} {F : M2} {len N : Nat} {i : Int32} (hC : CallFix p m c cc nL s args lw_g own) (hK : va_K D vwCl (tysG Z) s) (hP : va_P D vwCl ws H) (hw : ws = wa ++ (pool Z r F len N ++ wb)) (hi : inb i N) (hdg : decode cc pc = .ok (.arraylength, 1))
    (kk : W p l e R s m args below meth c H locs cells slots Q (F0 m (pc + 1) ls (.int (Int32.ofNat len) :: rest))) : W p l e R s m args below meth c H locs cells slots Q (F0 m pc ls (.ref (r i.toInt.toNat) :: rest)) := by
  subst hw
  exact w_alen (q0 := wa.length + i.toInt.toNat) (t0 := 0) hC hK hP (pool_at (by omega)) rfl hdg kk
/-- boolean rows -/
theorem w_newZ (hC : CallFix p m c cc nL s args lw_g own) (hK : va_K D vwCl (tysG Z) s) (hT : TS vwCl D ws A H0 H locs) (harr : Cond.arrayClass .boolean ∈ lw_g) (hn : ¬ n < 0) (hN : n.toNatClampNeg = N) (hb : N ≤ 100000) (hcells : cells + 1 ≤ R.cells) (hslots : slots + N ≤ R.slots) (hdg : decode cc pc = .ok (.newarray .boolean, 2))
    (kk : ∀ (q : Nat) (H1 : Heap), TS vwCl D (ws ++ [(q, .inl (Z 4, N, .inl (fun _ => 0)))]) A H0 H1 locs → W p l e R s m args below meth c H1 locs (cells + 1) (slots + N) Q (F0 m (pc + 2) ls (.ref q :: rest))) : W p l e R s m args below meth c H locs cells slots Q (F0 m pc ls (.int n :: rest)) := by
  refine va_newa (atype := .boolean) (ty := .boolean) (N' := N) (a0 := (N, .inl (fun _ => 0))) hC.1 hC.2.1 (hC.2.2.2.2 _ harr) rfl hK hT.1 hT.2.1 hT.2.2.1 hT.2.2.2 (fun cA => rfl) hn hN (by show N * 1 ≤ 536870912; omega) hcells hslots hdg (fun q cA H1 hK1 hP1 hD1 hS1 => ?_)
  have hc : cA = Z 4 := ty_same hK1 (i := 5) (j := 4) (ty := .boolean) rfl rfl (fun C h => by cases h)
  subst hc
  exact kk q H1 ⟨hP1, hD1, hS1, hT.2.2.2⟩
theorem w_zald {q0 n : Nat} {f : Nat → Int32} {i : Int32} (hC : CallFix p m c cc nL s args lw_g own) (hK : va_K D vwCl (tysG Z) s) (hP : va_P D vwCl ws H) (ha : ws[q0]? = some (a, .inl (Z 4, n, .inl f))) (hi : inb i n) (hdg : decode cc pc = .ok (.baload, 1))
    (kk : W p l e R s m args below meth c H locs cells slots Q (F0 m (pc + 1) ls (.int (f i.toInt.toNat) :: rest))) : W p l e R s m args below meth c H locs cells slots Q (F0 m pc ls (.int i :: .ref a :: rest)) :=
  va_zald hC.1 hC.2.1 hK hP q0 4 ha rfl (inb_in.mpr hi) hdg kk
theorem w_zast {q0 n : Nat} {f : Nat → Int32} {i x : Int32} (hC : CallFix p m c cc nL s args lw_g own) (hK : va_K D vwCl (tysG Z) s) (hT : TS vwCl D ws A H0 H locs) (ha : ws[q0]? = some (a, .inl (Z 4, n, .inl f))) (hi : inb i n) (hset : ws.set q0 (a, .inl (Z 4, n, .inl (upd f i.toInt.toNat (vp_nar .boolean x)))) = ws') (hdg : decode cc pc = .ok (.bastore, 1))
    (kk : ∀ (H1 : Heap) (locs1 : List Loc), TS vwCl D ws' A H0 H1 locs1 → W p l e R s m args below meth c H1 locs1 cells slots Q (F0 m (pc + 1) ls rest)) : W p l e R s m args below meth c H locs cells slots Q (F0 m pc ls (.int x :: .int i :: .ref a :: rest)) :=
  va_zast hC.1 hC.2.1 hK hT.1 hT.2.1 hT.2.2.1 q0 4 ha rfl (inb_in.mpr hi) hdg (fun H1 locs1 hP hD hS => kk H1 locs1 ⟨hset ▸ hP, hset ▸ hD, hS, hT.2.2.2⟩)
/-- new int[n][] -/
theorem w_newA (hC : CallFix p m c cc nL s args lw_g own) (hK : va_K D vwCl (tysG Z) s) (hT : TS vwCl D ws A H0 H locs) (hN : NW s) (hcl : Cond.classLink own index "[I" ∈ lw_g) (hov : Cond.arrayOver (.array .int) ∈ lw_n) (hn : ¬ n < 0) (hN' : n.toNatClampNeg = N) (hb : N ≤ 100000) (hcells : cells + 1 ≤ R.cells) (hslots : slots + N ≤ R.slots) (hdg : decode cc pc = .ok (.anewarray index, 3))
    (kk : ∀ (q : Nat) (H1 : Heap), TS vwCl D (ws ++ [(q, .inl (Z 3, N, .inr (.inr (.inr (.inr (fun _ => none))))))]) A H0 H1 locs → W p l e R s m args below meth c H1 locs (cells + 1) (slots + N) Q (F0 m (pc + 3) ls (.ref q :: rest))) : W p l e R s m args below meth c H locs cells slots Q (F0 m pc ls (.int n :: rest)) := by
  subst hN'
  refine W.anewA (t := .int) hC.1 hC.2.1 hC.2.2.2.1 (hC.2.2.2.2 _ hcl) (show (Cond.arrayOver (.array .int)).before args s = true from hN _ hov) rfl hdg rfl hn (by omega) hcells hslots fun cA kA comp f1 f2 f3 f4 => ?_
  have e1 : cA = Z 3 := Option.some.inj (f1.symm.trans (hK.2 3 _ rfl).2)
  subst e1
  generalize hH1 : H.push ({ cls := Z 3, slots := Array.replicate n.toNatClampNeg .null, vm := .none } : Cell) = H1
  have z1 : H1.size = H.size + 1 := by rw [← hH1, Array.size_push]
  have e1 : H1[H.size]? = some (arrV (Z 3) n.toNatClampNeg (fun _ => .null)) := by rw [← hH1, Array.getElem?_push_size, ← arrV_new]
  have o1 : ∀ q : Nat, q < H.size → H1[q]? = H[q]? := fun q hq => by rw [← hH1, Array.getElem?_push, if_neg (Nat.ne_of_lt hq)]
  have hk : ∀ (k : Nat) (x : Nat × va_E), ws[k]? = some x → H1[x.1]? = H[x.1]? := fun k x hx => o1 x.1 ((hT.1 k x hx).lt)
  refine kk H.size H1 ⟨(hT.1.kept hk).app (fun k x hx => ?_), hT.2.1.push hT.1 rfl (hT.2.2.2 _ hT.2.2.1.1), ⟨Nat.le_trans hT.2.2.1.1 (by omega), fun x h1 h2 => (o1 x (Nat.lt_of_lt_of_le h1 hT.2.2.1.1)).trans (hT.2.2.1.2.1 x h1 h2), hT.2.2.1.2.2⟩, hT.2.2.2⟩
  have hz : k < 1 := (List.getElem?_eq_some_iff.mp hx).1
  rw [show k = 0 by omega] at hx
  cases hx
  show H1[H.size]? = some (vp_cell _ _)
  rw [vp_cell_q]
  exact e1
/-- an int[] into an int[][] -/
theorem w_aast {q0 qk len i0 n0 : Nat} {g : Nat → Option Nat} {f : Nat → Int32} {i : Int32} {v : Nat} (hC : CallFix p m c cc nL s args lw_g own) (hK : va_K D vwCl (tysG Z) s) (hT : TS vwCl D ws A H0 H locs) (hN : NW s) (hov : Cond.arrayOver (.array .int) ∈ lw_n) (ha : ws[q0]? = some (a, .inl (Z 3, n0, .inr (.inr (.inr (.inr g)))))) (hv : ws[qk]? = some (v, .inl (Z 0, len, .inl f))) (hi : inb i n0) (hset : ws.set q0 (a, .inl (Z 3, n0, .inr (.inr (.inr (.inr (va_up g i.toInt.toNat (some v))))))) = ws') (hdg : decode cc pc = .ok (.aastore, 1))
    (kk : ∀ (H1 : Heap) (locs1 : List Loc), TS vwCl D ws' A H0 H1 locs1 → W p l e R s m args below meth c H1 locs1 cells slots Q (F0 m (pc + 1) ls rest)) : W p l e R s m args below meth c H locs cells slots Q (F0 m pc ls (.ref v :: .int i :: .ref a :: rest)) := by
  have hin := inb_in.mpr hi
  have hlt : i.toNatClampNeg < n0 := Nat.not_le.mp fun q => hin (Or.inr q)
  have h0 : ¬ i < 0 := fun q => hin (Or.inl q)
  obtain ⟨comp, cA, kA, k1, -, k2, k3, k4⟩ := arrayOverA_spec (show (Cond.arrayOver (.array .int)).before args s = true from hN _ hov)
  have e1 : cA = Z 3 := Option.some.inj (k4.symm.trans (hK.2 3 _ rfl).2)
  have e2 : comp = Z 0 := Option.some.inj (k1.symm.trans (hK.2 0 _ rfl).2)
  subst e1
  subst e2
  obtain ⟨kC, hkC, -⟩ := Vm.findClass_spec k1
  have hself : s.vm.assignable (Z 0) (Z 0) = true := by
    show s.vm.assignableAux (255 + 1) (Z 0) (Z 0) = true
    rw [Vm.assignableAux, Bool.or_eq_true, beq_iff_eq]
    exact Or.inl rfl
  refine W.aast hC.1 hC.2.1 (hT.1 q0 _ ha) (fun q h => by cases h) (fun h => by cases h) k2 k3 rfl hkC ⟨h0, by show _ < (arrV _ _ _).slots.size; rw [arrV_size]; exact hlt⟩ (hT.1 qk _ hv) (fun q h => by cases h) hkC hself rfl rfl hdg fun H1 e z oq => ?_
  have hP1 : va_P D vwCl ws' H1 := by
    rw [← hset]
    refine hT.1.set hT.2.1 ha ?_ oq
    show H1[a]? = some (vp_cell _ _)
    rw [e]
    rw [vp_cell_q, vp_cell_q, arrV_store]
    congr 2
    funext q
    by_cases hq : q = i.toNatClampNeg
    · subst hq
      simp [updV, va_up, va_rf]
    · simp only [updV, va_up, if_neg hq, ← tnc]
  have hD1 : va_D A ws' := by rw [← hset]; exact hT.2.1.set ha
  exact kk H1 _ ⟨hP1, hD1, hT.2.2.1.put z oq (hT.2.1.2 q0 _ ha), hT.2.2.2⟩
end ROWS5
