theorem wq_507 : Cond.methodLink RL 200 yX5_count ∈ lw_g := lw_g_mk (tb_2 (List.mem_of_getElem? (i := 203) rfl)) rfl
theorem wq_873 : Cond.methodLink RL 256 yX6_isSame ∈ lw_g := lw_g_mk (tb_4 (List.mem_of_getElem? (i := 89) rfl)) rfl
theorem wq_874 : Cond.instanceMethod yX6_isSame ∈ lw_g := lw_g_mk (tb_4 (List.mem_of_getElem? (i := 90) rfl)) rfl
theorem wq_875 : Cond.selects RX6 yX6_isSame yX6_isSame ∈ lw_g := lw_g_mk (tb_4 (List.mem_of_getElem? (i := 91) rfl)) rfl
theorem wq_1457 : Cond.methodLink RL 203 yL_act ∈ lw_g := lw_g_mk (tb_6 (List.mem_of_getElem? (i := 193) rfl)) rfl
theorem wq_1486 : Cond.classLink RL 207 "[[I" ∈ lw_g := lw_g_mk (tb_6 (List.mem_of_getElem? (i := 222) rfl)) rfl
theorem wq_1487 : Cond.arrayClass .boolean ∈ lw_g := lw_g_mk (tb_6 (List.mem_of_getElem? (i := 223) rfl)) rfl
theorem wq_647 : Cond.methodLink RL 211 yX5_canEnter ∈ lw_g := lw_g_mk (tb_3 (List.mem_of_getElem? (i := 103) rfl)) rfl
theorem wq_638 : Cond.methodLink RL 208 yX5_boat ∈ lw_g := lw_g_mk (tb_3 (List.mem_of_getElem? (i := 94) rfl)) rfl
theorem wq_643 : Cond.methodLink RL 215 yX5_crew ∈ lw_g := lw_g_mk (tb_3 (List.mem_of_getElem? (i := 99) rfl)) rfl
theorem wq_597 : Cond.methodLink RL 218 yX5_place ∈ lw_g := lw_g_mk (tb_3 (List.mem_of_getElem? (i := 53) rfl)) rfl
theorem wq_624 : Cond.methodLink RL 221 yX5_legger ∈ lw_g := lw_g_mk (tb_3 (List.mem_of_getElem? (i := 80) rfl)) rfl
theorem wq_615 : Cond.methodLink RL 224 yX5_bore ∈ lw_g := lw_g_mk (tb_3 (List.mem_of_getElem? (i := 71) rfl)) rfl
theorem wq_816 : Cond.methodLink RL 230 yX5_digest ∈ lw_g := lw_g_mk (tb_4 (List.mem_of_getElem? (i := 32) rfl)) rfl
theorem wq_701 : Cond.methodLink RL 227 yX5_worst ∈ lw_g := lw_g_mk (tb_3 (List.mem_of_getElem? (i := 157) rfl)) rfl
theorem wq_792 : Cond.methodLink RL 237 yX5_until ∈ lw_g := lw_g_mk (tb_4 (List.mem_of_getElem? (i := 8) rfl)) rfl
theorem wq_808 : Cond.methodLink RL 240 yX5_advise ∈ lw_g := lw_g_mk (tb_4 (List.mem_of_getElem? (i := 24) rfl)) rfl
theorem wq_803 : Cond.methodLink RL 234 yX5_foresee ∈ lw_g := lw_g_mk (tb_4 (List.mem_of_getElem? (i := 19) rfl)) rfl
theorem wq_812 : Cond.methodLink RL 243 yX5_missed ∈ lw_g := lw_g_mk (tb_4 (List.mem_of_getElem? (i := 28) rfl)) rfl
theorem wq_705 : Cond.methodLink RL 246 yX5_pass ∈ lw_g := lw_g_mk (tb_3 (List.mem_of_getElem? (i := 161) rfl)) rfl
theorem wq_828 : Cond.methodLink RL 249 yX6_pass ∈ lw_g := lw_g_mk (tb_4 (List.mem_of_getElem? (i := 44) rfl)) rfl
theorem wq_1485 : Cond.methodLink RL 251 Lib.Math.max.name ∈ lw_g := lw_g_mk (tb_6 (List.mem_of_getElem? (i := 221) rfl)) rfl
theorem wq_829 : Cond.instanceMethod yX6_pass ∈ lw_g := lw_g_mk (tb_4 (List.mem_of_getElem? (i := 45) rfl)) rfl
theorem wq_830 : Cond.selects RX6 yX6_pass yX6_pass ∈ lw_g := lw_g_mk (tb_4 (List.mem_of_getElem? (i := 46) rfl)) rfl
theorem wq_817 : Cond.instanceMethod yX5_digest ∈ lw_g := lw_g_mk (tb_4 (List.mem_of_getElem? (i := 33) rfl)) rfl
theorem wq_818 : Cond.selects RX5 yX5_digest yX5_digest ∈ lw_g := lw_g_mk (tb_4 (List.mem_of_getElem? (i := 34) rfl)) rfl
theorem wq_706 : Cond.instanceMethod yX5_pass ∈ lw_g := lw_g_mk (tb_3 (List.mem_of_getElem? (i := 162) rfl)) rfl
theorem wq_707 : Cond.selects RX5 yX5_pass yX5_pass ∈ lw_g := lw_g_mk (tb_3 (List.mem_of_getElem? (i := 163) rfl)) rfl
theorem wq_793 : Cond.instanceMethod yX5_until ∈ lw_g := lw_g_mk (tb_4 (List.mem_of_getElem? (i := 9) rfl)) rfl
theorem wq_794 : Cond.selects RX5 yX5_until yX5_until ∈ lw_g := lw_g_mk (tb_4 (List.mem_of_getElem? (i := 10) rfl)) rfl
theorem wq_804 : Cond.instanceMethod yX5_foresee ∈ lw_g := lw_g_mk (tb_4 (List.mem_of_getElem? (i := 20) rfl)) rfl
theorem wq_805 : Cond.selects RX5 yX5_foresee yX5_foresee ∈ lw_g := lw_g_mk (tb_4 (List.mem_of_getElem? (i := 21) rfl)) rfl
theorem wq_809 : Cond.instanceMethod yX5_advise ∈ lw_g := lw_g_mk (tb_4 (List.mem_of_getElem? (i := 25) rfl)) rfl
theorem wq_810 : Cond.selects RX5 yX5_advise yX5_advise ∈ lw_g := lw_g_mk (tb_4 (List.mem_of_getElem? (i := 26) rfl)) rfl
theorem wq_813 : Cond.instanceMethod yX5_missed ∈ lw_g := lw_g_mk (tb_4 (List.mem_of_getElem? (i := 29) rfl)) rfl
theorem wq_814 : Cond.selects RX5 yX5_missed yX5_missed ∈ lw_g := lw_g_mk (tb_4 (List.mem_of_getElem? (i := 30) rfl)) rfl
theorem TS.cfront {cl : List vw_C} {D : va_G} {ws : va_W} {x : Nat × va_E} {A : Nat → Prop} {H0 H : Heap} {locs : List Loc} (hT : TS cl D (ws ++ [x]) A H0 H locs) : TS cl D (x :: ws) A H0 H locs := hT.front
theorem pool_get {Z : Nat → ClassId} {r : Nat → Nat} {F : M2} {len n k : Nat} {q : Nat × va_E} (h : (pool Z r F len n)[k]? = some q) : k < n ∧ q = (r k, .inl (Z 0, len, .inl (F k))) := by
  have hk : k < n := by
    have := (List.getElem?_eq_some_iff.mp h).1
    rwa [pool_len] at this
  refine ⟨hk, ?_⟩
  have h2 := pool_at (Z := Z) (r := r) (F := F) (len := len) (A := []) (B := []) hk
  simp only [List.append_nil, List.nil_append, List.length_nil, Nat.zero_add] at h2
  exact Option.some.inj (h.symm.trans h2)
theorem pool_hf {Z : Nat → ClassId} {r : Nat → Nat} {len N : Nat} {R : va_W} : ∃ wa wb : va_W, ∀ X : M2, pool Z r X len N ++ R = wa ++ (pool Z r X len N ++ wb) := ⟨[], R, fun _ => rfl⟩
theorem pmM (a b c d P : va_W) (x : Nat × va_E) : ((a ++ (b ++ (c ++ d))) ++ (x :: P)).Perm (x :: (a ++ (b ++ (c ++ (P ++ d))))) := by
  refine List.perm_append_comm.trans ?_
  refine List.Perm.cons x ?_
  refine (pm2 P a (b ++ (c ++ d))).trans (List.Perm.append_left a ?_)
  refine (pm2 P b (c ++ d)).trans (List.Perm.append_left b ?_)
  exact pm2 P c d
theorem ts_app {cl : List vw_C} {D : va_G} {ws L : va_W} {A : Nat → Prop} {H0 H H1 : Heap} {locs : List Loc} (hT : TS cl D ws A H0 H locs) (hold : ∀ q : Nat, q < H.size → H1[q]? = H[q]?) (hsz : H.size ≤ H1.size) (hL : va_P D cl L H1) (hfr : ∀ (k : Nat) (q : Nat × va_E), L[k]? = some q → q.1 = H.size + k) : TS cl D (ws ++ L) A H0 H1 locs := by
  have hcase : ∀ (k : Nat) (q : Nat × va_E), (ws ++ L)[k]? = some q → (k < ws.length ∧ ws[k]? = some q) ∨ (ws.length ≤ k ∧ L[k - ws.length]? = some q) := fun k q h => by
    by_cases hk : k < ws.length
    · rw [List.getElem?_append_left hk] at h; exact Or.inl ⟨hk, h⟩
    · rw [List.getElem?_append_right (by omega)] at h; exact Or.inr ⟨by omega, h⟩
  refine ⟨fun k q h => ?_, ⟨fun i j p q hi hj hpq => ?_, fun k q h => ?_⟩, ⟨Nat.le_trans hT.2.2.1.1 hsz, fun q h1 h2 => ?_, hT.2.2.1.2.2⟩, hT.2.2.2⟩
  · rcases hcase k q h with ⟨_, h⟩ | ⟨_, h⟩
    · have hat := hT.1 k q h
      exact hat.kept (hold _ hat.lt)
    · exact hL _ q h
  · rcases hcase i p hi with ⟨i1, hi⟩ | ⟨i1, hi⟩ <;> rcases hcase j q hj with ⟨j1, hj⟩ | ⟨j1, hj⟩
    · exact hT.2.1.1 i j p q hi hj hpq
    · have a1 := (hT.1 i p hi).lt
      have a2 := hfr _ q hj
      omega
    · have a1 := (hT.1 j q hj).lt
      have a2 := hfr _ p hi
      omega
    · have a1 := hfr _ p hi
      have a2 := hfr _ q hj
      omega
  · rcases hcase k q h with ⟨_, h⟩ | ⟨_, h⟩
    · exact hT.2.1.2 k q h
    · exact hT.2.2.2 _ (by have := hfr _ q h; have := hT.2.2.1.1; omega)
  · rw [hold q (Nat.lt_of_lt_of_le h1 hT.2.2.1.1)]; exact hT.2.2.1.2.1 q h1 h2
section MULTI7
variable {p : Program} {l : Launch} {e : Env} {s : State} {m : MethodId} {args : Array Value} {below : List Frame} {meth : Method} {c : Code} {H H0 : Heap} {locs : List Loc} {cells slots : Nat} {Q : State → Prop} {R : Room}
variable {pc : Nat} {ls : Array Slot} {rest : List Value} {A : Nat → Prop} {D : va_G} {Z : Nat → ClassId} {ws : va_W}
variable {cc : ByteArray} {nL index : Nat} {own : String}
theorem w_multi {N : Nat} {n : Int32} (hC : CallFix p m c cc nL s args lw_g own) (hK : va_K D vwCl (tysG Z) s) (hT : TS vwCl D ws A H0 H locs) (hcl : Cond.classLink own index "[[I" ∈ lw_g) (hN : NW s) (hov : Cond.arrayOver (.array .int) ∈ lw_n) (harr : Cond.arrayClass .int ∈ lw_g) (hn : ¬ n < 0) (hNn : n.toNatClampNeg = N) (hb : N ≤ 1000) (hcells : cells + (1 + N) ≤ R.cells) (hslots : slots + (N + N * 7) ≤ R.slots) (hdg : decode cc pc = .ok (.multianewarray index 2, 4))
    (kk : ∀ (h : Nat) (r : Nat → Nat) (H1 : Heap), TS vwCl D (ws ++ ((h, .inl (Z 3, N, .inr (.inr (.inr (.inr (fun j => if j < N then some (r j) else none)))))) :: pool Z r zM 7 N)) A H0 H1 locs → W p l e R s m args below meth c H1 locs (cells + 1 + N) (slots + N + N * 7) Q (F0 m (pc + 4) ls (.ref h :: rest))) : W p l e R s m args below meth c H locs cells slots Q (F0 m pc ls (.int 7 :: .int n :: rest)) := by
  subst hNn
  intro T hTh X
  have hts := hC.2.2.2.2
  obtain ⟨vm₁, cA, comp, hW, hfA, hfC, hO, hI, X1, step⟩ := Jvm.Stand.multianewarray2F X hC.1 (ty := .int) hC.2.2.2.1 (hts _ hcl) (show (Cond.arrayOver (.array .int)).before args s = true from hN _ hov) (hts _ harr) (g := F0 m pc ls (.int 7 :: .int n :: rest)) (n := n) (k := 7) (rest := rest) rfl (by rw [hC.2.1]; exact hdg) rfl hn (by decide) (by omega) (by decide) (by decide) rfl rfl (by exact hcells) (by exact hslots)
  have e1 : cA = Z 3 := Option.some.inj (hfA.symm.trans (hK.2 3 _ rfl).2)
  have e2 : comp = Z 0 := Option.some.inj (hfC.symm.trans (hK.2 0 _ rfl).2)
  subst e1
  subst e2
  have hh : (T.setVm vm₁).heap = H := hTh
  obtain ⟨N, eN⟩ : ∃ N, N = n.toNatClampNeg := ⟨_, rfl⟩
  rw [← eN] at X1 step kk hb
  generalize hF : Jvm.Free.Multi.fill (T.setVm vm₁) (Z 3) (Z 0) N (7 : Int32).toNatClampNeg (defaultValue .int) N = F at X1 step
  have f1 := (Jvm.Free.Multi.fill_facts (T.setVm vm₁) (Z 3) (Z 0) N 7 (defaultValue .int) N).1
  have f2 := (Jvm.Free.Multi.fill_facts (T.setVm vm₁) (Z 3) (Z 0) N 7 (defaultValue .int) N).2.1
  have f3 : ∀ a : Addr, a < H.size → F.heap[a]? = H[a]? := fun a ha => by rw [← hF, ← hh]; exact Jvm.Free.Multi.fill_old (T.setVm vm₁) (Z 3) (Z 0) N 7 (defaultValue .int) (by rw [hh]; exact ha) N
  have f4 : ∀ j, j < N → F.heap[H.size + 1 + j]? = some (Jvm.Free.Multi.innerC (Z 0) 7 (defaultValue .int)) := fun j hj => by rw [← hF, ← hh]; exact Jvm.Free.Multi.fill_inner (T.setVm vm₁) (Z 3) (Z 0) N 7 (defaultValue .int) N j hj
  have f1 : F.heap.size = H.size + 1 + N := by rw [← hF, ← hh]; exact f1
  have f2 : F.heap[H.size]? = some (Jvm.Free.Multi.outerC (Z 3) N H.size N) := by rw [← hF, ← hh]; exact f2
  have hin : ∀ j, j < N → F.heap[H.size + 1 + j]? = some (vp_cell (Z 0) (7, .inl (fun _ => 0))) := fun j hj => (f4 j hj).trans rfl
  have hout : F.heap[H.size]? = some (vp_cell (Z 3) (N, .inr (.inr (.inr (.inr (fun j => if j < N then some (H.size + 1 + j) else none)))))) := by
    rw [f2, vp_cell_q]
    have os : (Jvm.Free.Multi.outerC (Z 3) N H.size N).slots = (arrV (Z 3) N (fun j => va_rf (if j < N then some (H.size + 1 + j) else none))).slots := by
      obtain ⟨o1, o2, o3⟩ := Jvm.Free.Multi.outerC_facts (Z 3) N H.size N
      apply Array.ext_getElem?
      intro j
      by_cases hj : j < N
      · rw [Jvm.Free.Multi.outerC_slot (Z 3) N H.size N j hj, if_pos hj, arrV_read _ _ hj, if_pos hj]; rfl
      · rw [Array.getElem?_eq_none (by omega), Array.getElem?_eq_none (by rw [arrV_size]; omega)]
    have eta : ∀ i, Jvm.Free.Multi.outerC (Z 3) N H.size i = { cls := Z 3, slots := (Jvm.Free.Multi.outerC (Z 3) N H.size i).slots, vm := .none } := by
      intro i
      induction i with
      | zero => rfl
      | succ i ih =>
        show (Jvm.Free.Multi.outerC (Z 3) N H.size i).setSlot i (.ref (H.size + 1 + i)) = { cls := Z 3, slots := ((Jvm.Free.Multi.outerC (Z 3) N H.size i).setSlot i (.ref (H.size + 1 + i))).slots, vm := .none }
        generalize Jvm.Free.Multi.outerC (Z 3) N H.size i = x at ih ⊢
        rw [ih]
        rfl
    rw [eta N, os]
    rfl
  have hTT : TS vwCl D (ws ++ ((H.size, .inl (Z 3, N, .inr (.inr (.inr (.inr (fun j => if j < N then some (H.size + 1 + j) else none)))))) :: pool Z (fun j => H.size + 1 + j) zM 7 N)) A H0 F.heap locs := by
    refine ts_app hT f3 (by omega) (fun k q hk => ?_) (fun k q hk => ?_)
    · rcases k with _ | k
      · cases hk; exact hout
      · obtain ⟨h1, rfl⟩ := pool_get (show (pool Z (fun j => H.size + 1 + j) zM 7 N)[k]? = some q from hk)
        exact hin k h1
    · rcases k with _ | k
      · cases hk; rfl
      · obtain ⟨h1, rfl⟩ := pool_get (show (pool Z (fun j => H.size + 1 + j) zM 7 N)[k]? = some q from hk)
        show H.size + 1 + k = H.size + (k + 1)
        omega
  obtain ⟨t, a1, b1⟩ := kk H.size (fun j => H.size + 1 + j) F.heap hTT F rfl X1
  rw [hTh] at step
  exact ⟨t, step t a1, b1⟩
end MULTI7

section ROWSSM7
variable {p : Program} {l : Launch} {e : Env} {s : State} {m : MethodId} {args : Array Value} {below : List Frame} {meth : Method} {c : Code} {H H0 : Heap} {locs : List Loc} {cells slots : Nat} {Q : State → Prop} {R : Room} {rn mcR msR : Nat}
variable {pc : Nat} {ls : Array Slot} {rest : List Value} {A : Nat → Prop} {D : va_G}
variable {cc : ByteArray} {nL index : Nat} {own host : String}
end ROWSSM7
section LX6_pass0x
variable {p : Program} {l : Launch} {e : Env} {s : State} {m : MethodId} {args : Array Value} {below : List Frame} {meth : Method} {c : Code} {H H0 : Heap} {locs : List Loc} {cells slots : Nat} {Q : State → Prop} {R : Room} {rn mcR msR : Nat}
variable {pc : Nat} {ls : Array Slot} {rest : List Value} {A : Nat → Prop} {D : va_G}
variable {cc : ByteArray} {nL index : Nat} {own host : String}
theorem kx_X6_pass {Z : Nat → ClassId} {sa : Nat} {o : Nat → Nat} {ro : Nat → Nat → Nat} {nn : Nat → Nat} {V S O : M2} {N : M2} {U : M2} {L : M2} {B : M2} {K : M2 → M2 → M2 → M2 → Prop} {ws wr : va_W} {isC isR pm : List Nat} {ws' : M2 × M2 × M2 × M2 → va_W} (hC : CallFix p m c cc nL s args lw_g own) (hN : NW s) (hK : va_K D vwCl (tysG Z) s) (hT : TS vwCl D ws A H0 H locs) (hc : Cut ws (fun u : M2 × M2 × M2 × M2 => SM Z sa o ro nn V S O u.1 u.2.1 u.2.2.1 u.2.2.2) (N, U, L, B) wr isC isR pm ws') (hnd : va_nd isC = true) (hm : wp_X6_pass nn V S O N U L B K) (hl : Cond.methodLink own index yX6_pass ∈ lw_g) (hlt : 5 < rn) (hsize : ls.size = nL) (hW : (rest.map fun v => v.category).sum ≤ 8) (hf : cells + 1 ≤ mcR ∧ slots + 64 ≤ msR) (hdg : decode cc pc = .ok (.invokevirtual index, 3)) (kk : ∀ (N1 : M2) (U1 : M2) (L1 : M2) (B1 : M2) (H1 : Heap) (locs1 : List Loc), K N1 U1 L1 B1 → TS vwCl D (ws' (N1, U1, L1, B1)) A H0 H1 locs1 → W p l e (rk rn mcR msR) s m args below meth c H1 locs1 (cells + 1) (slots + 64) Q (F0 m (pc + 3) ls (rest))) : W p l e (rk rn mcR msR) s m args below meth c H locs cells slots Q (F0 m pc ls (.ref (sa) :: rest)) :=
  rwv_go (wsF := (fun u : M2 × M2 × M2 × M2 => SM Z sa o ro nn V S O u.1 u.2.1 u.2.2.1 u.2.2.2)) (u0 := (N, U, L, B)) (wr := wr) (isC := isC) (isR := isR) (pm := pm) (ws' := ws') (runV (As := []) hC hN (c_X6_pass l D Z sa o ro nn V S O N U L B H.size K hm) mi_X6_pass hl wq_829 wq_830 hlt (hT.1.sub isC (map_fm hc.1)) (hT.D'.sub isC hnd hc.1) hK (q0 := 0) rfl rfl rfl hsize rfl hW hdg hf) hc hT (fun u H1 locs1 hk hT1 => kk u.1 u.2.1 u.2.2.1 u.2.2.2 H1 locs1 hk hT1)
end LX6_pass0x
section LX5_digest0
variable {p : Program} {l : Launch} {e : Env} {s : State} {m : MethodId} {args : Array Value} {below : List Frame} {meth : Method} {c : Code} {H H0 : Heap} {locs : List Loc} {cells slots : Nat} {Q : State → Prop} {R : Room} {rn mcR msR : Nat}
variable {pc : Nat} {ls : Array Slot} {rest : List Value} {A : Nat → Prop} {D : va_G}
variable {cc : ByteArray} {nL index : Nat} {own host : String}
theorem k_X5_digest {Z : Nat → ClassId} {a b q : Nat → Nat} {ca tp rd sp : Nat} {P : M2} {ap : Nat} {F : M2} {G : M2} {C : M2} {K : Int64 → Prop} (hC : CallFix p m c cc nL s args lw_g own) (hN : NW s) (hK : va_K D vwCl (tysG Z) s) (hP : va_P D vwCl (CA Z a b q ca tp rd sp P ap F G C) H) (hD : va_D (fun _ => True) (CA Z a b q ca tp rd sp P ap F G C)) (hm : wp_X5_digest q P ap F G C K) (hl : Cond.methodLink own index yX5_digest ∈ lw_g) (hlt : 8 < rn) (hsize : ls.size = nL) (hW : (rest.map fun v => v.category).sum ≤ 8) (hf : cells + 0 ≤ mcR ∧ slots + 0 ≤ msR) (hdg : decode cc pc = .ok (.invokevirtual index, 3)) (kk : ∀ r : Int64, K r → W p l e (rk rn mcR msR) s m args below meth c H locs cells slots Q (F0 m (pc + 3) ls (.long r :: rest))) : W p l e (rk rn mcR msR) s m args below meth c H locs cells slots Q (F0 m pc ls (.ref (ca) :: rest)) :=
  rol_go (runV (As := []) hC hN (c_X5_digest l D Z a b q ca tp rd sp P ap F G C H.size K hm) mi_X5_digest hl wq_817 wq_818 hlt hP hD hK (q0 := 45) rfl rfl rfl hsize rfl hW hdg hf) kk
end LX5_digest0
section LX5_pass0x
variable {p : Program} {l : Launch} {e : Env} {s : State} {m : MethodId} {args : Array Value} {below : List Frame} {meth : Method} {c : Code} {H H0 : Heap} {locs : List Loc} {cells slots : Nat} {Q : State → Prop} {R : Room} {rn mcR msR : Nat}
variable {pc : Nat} {ls : Array Slot} {rest : List Value} {A : Nat → Prop} {D : va_G}
variable {cc : ByteArray} {nL index : Nat} {own host : String}
theorem kx_X5_pass {Z : Nat → ClassId} {a b q : Nat → Nat} {ca tp rd sp : Nat} {P : M2} {ap : Nat} {F : M2} {G : M2} {C : M2} {x1 : Int32} {K : Int32 → Nat → M2 → M2 → M2 → Prop} {ws wr : va_W} {isC isR pm : List Nat} {ws' : Nat × M2 × M2 × M2 → va_W} (hC : CallFix p m c cc nL s args lw_g own) (hN : NW s) (hK : va_K D vwCl (tysG Z) s) (hT : TS vwCl D ws A H0 H locs) (hc : Cut ws (fun u : Nat × M2 × M2 × M2 => CA Z a b q ca tp rd sp P u.1 u.2.1 u.2.2.1 u.2.2.2) (ap, F, G, C) wr isC isR pm ws') (hnd : va_nd isC = true) (hm : wp_X5_pass q P (fun _ => False) ap F G C x1 K) (hl : Cond.methodLink own index yX5_pass ∈ lw_g) (hlt : 7 < rn) (hsize : ls.size = nL) (hW : (rest.map fun v => v.category).sum ≤ 8) (hf : cells + 0 ≤ mcR ∧ slots + 0 ≤ msR) (hdg : decode cc pc = .ok (.invokevirtual index, 3)) (kk : ∀ (r : Int32) (ap1 : Nat) (F1 : M2) (G1 : M2) (C1 : M2) (H1 : Heap) (locs1 : List Loc), K r ap1 F1 G1 C1 → TS vwCl D (ws' (ap1, F1, G1, C1)) A H0 H1 locs1 → W p l e (rk rn mcR msR) s m args below meth c H1 locs1 cells slots Q (F0 m (pc + 3) ls (.int r :: rest))) : W p l e (rk rn mcR msR) s m args below meth c H locs cells slots Q (F0 m pc ls (.int x1 :: .ref (ca) :: rest)) :=
  rw_go (wsF := (fun u : Nat × M2 × M2 × M2 => CA Z a b q ca tp rd sp P u.1 u.2.1 u.2.2.1 u.2.2.2)) (u0 := (ap, F, G, C)) (wr := wr) (isC := isC) (isR := isR) (pm := pm) (ws' := ws') (runV (As := [.int x1]) hC hN (c_X5_pass l D Z a b q ca tp rd sp P ap F G C H.size x1 K hm) mi_X5_pass hl wq_706 wq_707 hlt (hT.1.sub isC (map_fm hc.1)) (hT.D'.sub isC hnd hc.1) hK (q0 := 45) rfl rfl rfl hsize rfl hW hdg hf) hc hT (fun r u H1 locs1 hk hT1 => kk r u.1 u.2.1 u.2.2.1 u.2.2.2 H1 locs1 hk hT1)
end LX5_pass0x
section LX5_until0x
variable {p : Program} {l : Launch} {e : Env} {s : State} {m : MethodId} {args : Array Value} {below : List Frame} {meth : Method} {c : Code} {H H0 : Heap} {locs : List Loc} {cells slots : Nat} {Q : State → Prop} {R : Room} {rn mcR msR : Nat}
variable {pc : Nat} {ls : Array Slot} {rest : List Value} {A : Nat → Prop} {D : va_G}
variable {cc : ByteArray} {nL index : Nat} {own host : String}
theorem kx_X5_until {Z : Nat → ClassId} {a b q : Nat → Nat} {ca tp rd sp : Nat} {P : M2} {ap : Nat} {F : M2} {G : M2} {C : M2} {x1 : Int32} {K : Int32 → Nat → M2 → M2 → M2 → Prop} {ws wr : va_W} {isC isR pm : List Nat} {ws' : Nat × M2 × M2 × M2 → va_W} (hC : CallFix p m c cc nL s args lw_g own) (hN : NW s) (hK : va_K D vwCl (tysG Z) s) (hT : TS vwCl D ws A H0 H locs) (hc : Cut ws (fun u : Nat × M2 × M2 × M2 => CA Z a b q ca tp rd sp P u.1 u.2.1 u.2.2.1 u.2.2.2) (ap, F, G, C) wr isC isR pm ws') (hnd : va_nd isC = true) (hm : wp_X5_until q P (fun _ => False) ap F G C x1 K) (hl : Cond.methodLink own index yX5_until ∈ lw_g) (hlt : 7 < rn) (hsize : ls.size = nL) (hW : (rest.map fun v => v.category).sum ≤ 8) (hf : cells + 0 ≤ mcR ∧ slots + 0 ≤ msR) (hdg : decode cc pc = .ok (.invokevirtual index, 3)) (kk : ∀ (r : Int32) (ap1 : Nat) (F1 : M2) (G1 : M2) (C1 : M2) (H1 : Heap) (locs1 : List Loc), K r ap1 F1 G1 C1 → TS vwCl D (ws' (ap1, F1, G1, C1)) A H0 H1 locs1 → W p l e (rk rn mcR msR) s m args below meth c H1 locs1 cells slots Q (F0 m (pc + 3) ls (.int r :: rest))) : W p l e (rk rn mcR msR) s m args below meth c H locs cells slots Q (F0 m pc ls (.int x1 :: .ref (ca) :: rest)) :=
  rw_go (wsF := (fun u : Nat × M2 × M2 × M2 => CA Z a b q ca tp rd sp P u.1 u.2.1 u.2.2.1 u.2.2.2)) (u0 := (ap, F, G, C)) (wr := wr) (isC := isC) (isR := isR) (pm := pm) (ws' := ws') (runV (As := [.int x1]) hC hN (c_X5_until l D Z a b q ca tp rd sp P ap F G C H.size x1 K hm) mi_X5_until hl wq_793 wq_794 hlt (hT.1.sub isC (map_fm hc.1)) (hT.D'.sub isC hnd hc.1) hK (q0 := 45) rfl rfl rfl hsize rfl hW hdg hf) hc hT (fun r u H1 locs1 hk hT1 => kk r u.1 u.2.1 u.2.2.1 u.2.2.2 H1 locs1 hk hT1)
end LX5_until0x
section LX5_foresee0x
variable {p : Program} {l : Launch} {e : Env} {s : State} {m : MethodId} {args : Array Value} {below : List Frame} {meth : Method} {c : Code} {H H0 : Heap} {locs : List Loc} {cells slots : Nat} {Q : State → Prop} {R : Room} {rn mcR msR : Nat}
variable {pc : Nat} {ls : Array Slot} {rest : List Value} {A : Nat → Prop} {D : va_G}
variable {cc : ByteArray} {nL index : Nat} {own host : String}
theorem kx_X5_foresee {Z : Nat → ClassId} {a b q : Nat → Nat} {ca tp rd sp : Nat} {P : M2} {ap : Nat} {F : M2} {G : M2} {C : M2} {x1 : Int32} {x2 : Int32} {K : Int32 → Nat → M2 → M2 → M2 → Prop} {ws wr : va_W} {isC isR pm : List Nat} {ws' : Nat × M2 × M2 × M2 → va_W} (hC : CallFix p m c cc nL s args lw_g own) (hN : NW s) (hK : va_K D vwCl (tysG Z) s) (hT : TS vwCl D ws A H0 H locs) (hc : Cut ws (fun u : Nat × M2 × M2 × M2 => CA Z a b q ca tp rd sp P u.1 u.2.1 u.2.2.1 u.2.2.2) (ap, F, G, C) wr isC isR pm ws') (hnd : va_nd isC = true) (hm : wp_X5_foresee q P (fun _ => False) ap F G C x1 x2 K) (hl : Cond.methodLink own index yX5_foresee ∈ lw_g) (hlt : 7 < rn) (hsize : ls.size = nL) (hW : (rest.map fun v => v.category).sum ≤ 8) (hf : cells + 0 ≤ mcR ∧ slots + 0 ≤ msR) (hdg : decode cc pc = .ok (.invokevirtual index, 3)) (kk : ∀ (r : Int32) (ap1 : Nat) (F1 : M2) (G1 : M2) (C1 : M2) (H1 : Heap) (locs1 : List Loc), K r ap1 F1 G1 C1 → TS vwCl D (ws' (ap1, F1, G1, C1)) A H0 H1 locs1 → W p l e (rk rn mcR msR) s m args below meth c H1 locs1 cells slots Q (F0 m (pc + 3) ls (.int r :: rest))) : W p l e (rk rn mcR msR) s m args below meth c H locs cells slots Q (F0 m pc ls (.int x2 :: .int x1 :: .ref (ca) :: rest)) :=
  rw_go (wsF := (fun u : Nat × M2 × M2 × M2 => CA Z a b q ca tp rd sp P u.1 u.2.1 u.2.2.1 u.2.2.2)) (u0 := (ap, F, G, C)) (wr := wr) (isC := isC) (isR := isR) (pm := pm) (ws' := ws') (runV (As := [.int x1, .int x2]) hC hN (c_X5_foresee l D Z a b q ca tp rd sp P ap F G C H.size x1 x2 K hm) mi_X5_foresee hl wq_804 wq_805 hlt (hT.1.sub isC (map_fm hc.1)) (hT.D'.sub isC hnd hc.1) hK (q0 := 45) rfl rfl rfl hsize rfl hW hdg hf) hc hT (fun r u H1 locs1 hk hT1 => kk r u.1 u.2.1 u.2.2.1 u.2.2.2 H1 locs1 hk hT1)
end LX5_foresee0x
section LX5_advise0x
variable {p : Program} {l : Launch} {e : Env} {s : State} {m : MethodId} {args : Array Value} {below : List Frame} {meth : Method} {c : Code} {H H0 : Heap} {locs : List Loc} {cells slots : Nat} {Q : State → Prop} {R : Room} {rn mcR msR : Nat}
variable {pc : Nat} {ls : Array Slot} {rest : List Value} {A : Nat → Prop} {D : va_G}
variable {cc : ByteArray} {nL index : Nat} {own host : String}
theorem kx_X5_advise {Z : Nat → ClassId} {a b q : Nat → Nat} {ca tp rd sp : Nat} {P : M2} {ap : Nat} {F : M2} {G : M2} {C : M2} {x1 : Int32} {K : Int32 → Nat → M2 → M2 → M2 → Prop} {ws wr : va_W} {isC isR pm : List Nat} {ws' : Nat × M2 × M2 × M2 → va_W} (hC : CallFix p m c cc nL s args lw_g own) (hN : NW s) (hK : va_K D vwCl (tysG Z) s) (hT : TS vwCl D ws A H0 H locs) (hc : Cut ws (fun u : Nat × M2 × M2 × M2 => CA Z a b q ca tp rd sp P u.1 u.2.1 u.2.2.1 u.2.2.2) (ap, F, G, C) wr isC isR pm ws') (hnd : va_nd isC = true) (hm : wp_X5_advise q P (fun _ => False) ap F G C x1 K) (hl : Cond.methodLink own index yX5_advise ∈ lw_g) (hlt : 7 < rn) (hsize : ls.size = nL) (hW : (rest.map fun v => v.category).sum ≤ 8) (hf : cells + 0 ≤ mcR ∧ slots + 0 ≤ msR) (hdg : decode cc pc = .ok (.invokevirtual index, 3)) (kk : ∀ (r : Int32) (ap1 : Nat) (F1 : M2) (G1 : M2) (C1 : M2) (H1 : Heap) (locs1 : List Loc), K r ap1 F1 G1 C1 → TS vwCl D (ws' (ap1, F1, G1, C1)) A H0 H1 locs1 → W p l e (rk rn mcR msR) s m args below meth c H1 locs1 cells slots Q (F0 m (pc + 3) ls (.int r :: rest))) : W p l e (rk rn mcR msR) s m args below meth c H locs cells slots Q (F0 m pc ls (.int x1 :: .ref (ca) :: rest)) :=
  rw_go (wsF := (fun u : Nat × M2 × M2 × M2 => CA Z a b q ca tp rd sp P u.1 u.2.1 u.2.2.1 u.2.2.2)) (u0 := (ap, F, G, C)) (wr := wr) (isC := isC) (isR := isR) (pm := pm) (ws' := ws') (runV (As := [.int x1]) hC hN (c_X5_advise l D Z a b q ca tp rd sp P ap F G C H.size x1 K hm) mi_X5_advise hl wq_809 wq_810 hlt (hT.1.sub isC (map_fm hc.1)) (hT.D'.sub isC hnd hc.1) hK (q0 := 45) rfl rfl rfl hsize rfl hW hdg hf) hc hT (fun r u H1 locs1 hk hT1 => kk r u.1 u.2.1 u.2.2.1 u.2.2.2 H1 locs1 hk hT1)
end LX5_advise0x
section LX5_missed0x
variable {p : Program} {l : Launch} {e : Env} {s : State} {m : MethodId} {args : Array Value} {below : List Frame} {meth : Method} {c : Code} {H H0 : Heap} {locs : List Loc} {cells slots : Nat} {Q : State → Prop} {R : Room} {rn mcR msR : Nat}
variable {pc : Nat} {ls : Array Slot} {rest : List Value} {A : Nat → Prop} {D : va_G}
variable {cc : ByteArray} {nL index : Nat} {own host : String}
theorem kx_X5_missed {Z : Nat → ClassId} {a b q : Nat → Nat} {ca tp rd sp : Nat} {P : M2} {ap : Nat} {F : M2} {G : M2} {C : M2} {x1 : Int32} {K : Int32 → Nat → M2 → M2 → M2 → Prop} {ws wr : va_W} {isC isR pm : List Nat} {ws' : Nat × M2 × M2 × M2 → va_W} (hC : CallFix p m c cc nL s args lw_g own) (hN : NW s) (hK : va_K D vwCl (tysG Z) s) (hT : TS vwCl D ws A H0 H locs) (hc : Cut ws (fun u : Nat × M2 × M2 × M2 => CA Z a b q ca tp rd sp P u.1 u.2.1 u.2.2.1 u.2.2.2) (ap, F, G, C) wr isC isR pm ws') (hnd : va_nd isC = true) (hm : wp_X5_missed q P (fun _ => False) ap F G C x1 K) (hl : Cond.methodLink own index yX5_missed ∈ lw_g) (hlt : 7 < rn) (hsize : ls.size = nL) (hW : (rest.map fun v => v.category).sum ≤ 8) (hf : cells + 0 ≤ mcR ∧ slots + 0 ≤ msR) (hdg : decode cc pc = .ok (.invokevirtual index, 3)) (kk : ∀ (r : Int32) (ap1 : Nat) (F1 : M2) (G1 : M2) (C1 : M2) (H1 : Heap) (locs1 : List Loc), K r ap1 F1 G1 C1 → TS vwCl D (ws' (ap1, F1, G1, C1)) A H0 H1 locs1 → W p l e (rk rn mcR msR) s m args below meth c H1 locs1 cells slots Q (F0 m (pc + 3) ls (.int r :: rest))) : W p l e (rk rn mcR msR) s m args below meth c H locs cells slots Q (F0 m pc ls (.int x1 :: .ref (ca) :: rest)) :=
  rw_go (wsF := (fun u : Nat × M2 × M2 × M2 => CA Z a b q ca tp rd sp P u.1 u.2.1 u.2.2.1 u.2.2.2)) (u0 := (ap, F, G, C)) (wr := wr) (isC := isC) (isR := isR) (pm := pm) (ws' := ws') (runV (As := [.int x1]) hC hN (c_X5_missed l D Z a b q ca tp rd sp P ap F G C H.size x1 K hm) mi_X5_missed hl wq_813 wq_814 hlt (hT.1.sub isC (map_fm hc.1)) (hT.D'.sub isC hnd hc.1) hK (q0 := 45) rfl rfl rfl hsize rfl hW hdg hf) hc hT (fun r u H1 locs1 hk hT1 => kk r u.1 u.2.1 u.2.2.1 u.2.2.2 H1 locs1 hk hT1)
end LX5_missed0x
theorem dL_law_0 : decode cL_law 0 = .ok (.new 32, 3) := by decide +kernel
theorem dL_law_3 : decode cL_law 3 = .ok (.dup, 1) := by decide +kernel
theorem dL_law_4 : decode cL_law 4 = .ok (.invokespecial 34, 3) := by decide +kernel
theorem dL_law_7 : decode cL_law 7 = .ok (.astore_n 1, 1) := by decide +kernel
theorem dL_law_8 : decode cL_law 8 = .ok (.aload_n 0, 1) := by decide +kernel
theorem dL_law_9 : decode cL_law 9 = .ok (.aload_n 1, 1) := by decide +kernel
theorem dL_law_10 : decode cL_law 10 = .ok (.invokestatic 191, 3) := by decide +kernel
theorem dL_law_13 : decode cL_law 13 = .ok (.astore_n 2, 1) := by decide +kernel
theorem dL_law_14 : decode cL_law 14 = .ok (.new 10, 3) := by decide +kernel
theorem dL_law_17 : decode cL_law 17 = .ok (.dup, 1) := by decide +kernel
theorem dL_law_18 : decode cL_law 18 = .ok (.invokespecial 195, 3) := by decide +kernel
theorem dL_law_21 : decode cL_law 21 = .ok (.astore_n 3, 1) := by decide +kernel
theorem dL_law_22 : decode cL_law 22 = .ok (.aload_n 3, 1) := by decide +kernel
theorem dL_law_23 : decode cL_law 23 = .ok (.aload_n 1, 1) := by decide +kernel
theorem dL_law_24 : decode cL_law 24 = .ok (.invokevirtual 50, 3) := by decide +kernel
theorem dL_law_27 : decode cL_law 27 = .ok (.invokestatic 196, 3) := by decide +kernel
theorem dL_law_30 : decode cL_law 30 = .ok (.ifCond .eq 5, 3) := by decide +kernel
theorem dL_law_33 : decode cL_law 33 = .ok (.iconst 0, 1) := by decide +kernel
theorem dL_law_34 : decode cL_law 34 = .ok (.ireturn, 1) := by decide +kernel
theorem dL_law_35 : decode cL_law 35 = .ok (.aload_n 3, 1) := by decide +kernel
theorem dL_law_36 : decode cL_law 36 = .ok (.iconst 3, 1) := by decide +kernel
theorem dL_law_37 : decode cL_law 37 = .ok (.invokevirtual 200, 3) := by decide +kernel
theorem dL_law_40 : decode cL_law 40 = .ok (.istore 4, 2) := by decide +kernel
theorem dL_law_42 : decode cL_law 42 = .ok (.aload_n 3, 1) := by decide +kernel
theorem dL_law_43 : decode cL_law 43 = .ok (.iconst 5, 1) := by decide +kernel
theorem dL_law_44 : decode cL_law 44 = .ok (.invokevirtual 200, 3) := by decide +kernel
theorem dL_law_47 : decode cL_law 47 = .ok (.istore 5, 2) := by decide +kernel
theorem dL_law_49 : decode cL_law 49 = .ok (.aload_n 3, 1) := by decide +kernel
theorem dL_law_50 : decode cL_law 50 = .ok (.bipush 6, 2) := by decide +kernel
theorem dL_law_52 : decode cL_law 52 = .ok (.invokevirtual 200, 3) := by decide +kernel
theorem dL_law_55 : decode cL_law 55 = .ok (.istore 6, 2) := by decide +kernel
theorem dL_law_57 : decode cL_law 57 = .ok (.iconst 0, 1) := by decide +kernel
theorem dL_law_58 : decode cL_law 58 = .ok (.istore 7, 2) := by decide +kernel
theorem dL_law_60 : decode cL_law 60 = .ok (.iload 7, 2) := by decide +kernel
theorem dL_law_62 : decode cL_law 62 = .ok (.bipush 80, 2) := by decide +kernel
theorem dL_law_64 : decode cL_law 64 = .ok (.if_icmp .ge 1656, 3) := by decide +kernel
theorem dL_law_67 : decode cL_law 67 = .ok (.aload_n 0, 1) := by decide +kernel
theorem dL_law_68 : decode cL_law 68 = .ok (.iload 7, 2) := by decide +kernel
theorem dL_law_70 : decode cL_law 70 = .ok (.bipush 16, 2) := by decide +kernel
theorem dL_law_72 : decode cL_law 72 = .ok (.irem, 1) := by decide +kernel
theorem dL_law_73 : decode cL_law 73 = .ok (.invokestatic 96, 3) := by decide +kernel
theorem dL_law_76 : decode cL_law 76 = .ok (.iload 7, 2) := by decide +kernel
theorem dL_law_78 : decode cL_law 78 = .ok (.bipush 16, 2) := by decide +kernel
theorem dL_law_80 : decode cL_law 80 = .ok (.idiv, 1) := by decide +kernel
theorem dL_law_81 : decode cL_law 81 = .ok (.iconst 4, 1) := by decide +kernel
theorem dL_law_82 : decode cL_law 82 = .ok (.imul, 1) := by decide +kernel
theorem dL_law_83 : decode cL_law 83 = .ok (.ishr, 1) := by decide +kernel
theorem dL_law_84 : decode cL_law 84 = .ok (.bipush 47, 2) := by decide +kernel
theorem dL_law_86 : decode cL_law 86 = .ok (.iload 7, 2) := by decide +kernel
theorem dL_law_88 : decode cL_law 88 = .ok (.imul, 1) := by decide +kernel
theorem dL_law_89 : decode cL_law 89 = .ok (.iadd, 1) := by decide +kernel
theorem dL_law_90 : decode cL_law 90 = .ok (.istore 8, 2) := by decide +kernel
theorem dL_law_92 : decode cL_law 92 = .ok (.iload 8, 2) := by decide +kernel
theorem dL_law_94 : decode cL_law 94 = .ok (.iconst 5, 1) := by decide +kernel
theorem dL_law_95 : decode cL_law 95 = .ok (.invokestatic 102, 3) := by decide +kernel
theorem dL_law_98 : decode cL_law 98 = .ok (.ifCond .ne 17, 3) := by decide +kernel
theorem dL_law_101 : decode cL_law 101 = .ok (.aload_n 3, 1) := by decide +kernel
theorem dL_law_102 : decode cL_law 102 = .ok (.aload_n 2, 1) := by decide +kernel
theorem dL_law_103 : decode cL_law 103 = .ok (.iload 8, 2) := by decide +kernel
theorem dL_law_105 : decode cL_law 105 = .ok (.iconst 5, 1) := by decide +kernel
theorem dL_law_106 : decode cL_law 106 = .ok (.idiv, 1) := by decide +kernel
theorem dL_law_107 : decode cL_law 107 = .ok (.invokestatic 203, 3) := by decide +kernel
theorem dL_law_110 : decode cL_law 110 = .ok (.ifCond .ne 5, 3) := by decide +kernel
theorem dL_law_113 : decode cL_law 113 = .ok (.iconst 0, 1) := by decide +kernel
theorem dL_law_114 : decode cL_law 114 = .ok (.ireturn, 1) := by decide +kernel
theorem dL_law_115 : decode cL_law 115 = .ok (.iload 6, 2) := by decide +kernel
theorem dL_law_117 : decode cL_law 117 = .ok (.bipush 7, 2) := by decide +kernel
theorem dL_law_119 : decode cL_law 119 = .ok (.multianewarray 207 2, 4) := by decide +kernel
theorem dL_law_123 : decode cL_law 123 = .ok (.astore 9, 2) := by decide +kernel
theorem dL_law_125 : decode cL_law 125 = .ok (.iload 5, 2) := by decide +kernel
theorem dL_law_127 : decode cL_law 127 = .ok (.bipush 7, 2) := by decide +kernel
theorem dL_law_129 : decode cL_law 129 = .ok (.multianewarray 207 2, 4) := by decide +kernel
theorem dL_law_133 : decode cL_law 133 = .ok (.astore 10, 2) := by decide +kernel
theorem dL_law_135 : decode cL_law 135 = .ok (.iload 4, 2) := by decide +kernel
theorem dL_law_137 : decode cL_law 137 = .ok (.newarray .int, 2) := by decide +kernel
theorem dL_law_139 : decode cL_law 139 = .ok (.astore 11, 2) := by decide +kernel
theorem dL_law_141 : decode cL_law 141 = .ok (.iload 6, 2) := by decide +kernel
theorem dL_law_143 : decode cL_law 143 = .ok (.newarray .boolean, 2) := by decide +kernel
theorem dL_law_145 : decode cL_law 145 = .ok (.astore 12, 2) := by decide +kernel
theorem dL_law_147 : decode cL_law 147 = .ok (.iconst 0, 1) := by decide +kernel
theorem dL_law_148 : decode cL_law 148 = .ok (.istore 13, 2) := by decide +kernel
theorem dL_law_150 : decode cL_law 150 = .ok (.iconst 0, 1) := by decide +kernel
theorem dL_law_151 : decode cL_law 151 = .ok (.istore 14, 2) := by decide +kernel
theorem dL_law_153 : decode cL_law 153 = .ok (.iconst 0, 1) := by decide +kernel
theorem dL_law_154 : decode cL_law 154 = .ok (.istore 15, 2) := by decide +kernel
theorem dL_law_156 : decode cL_law 156 = .ok (.iload 15, 2) := by decide +kernel
theorem dL_law_158 : decode cL_law 158 = .ok (.iload 6, 2) := by decide +kernel
theorem dL_law_160 : decode cL_law 160 = .ok (.if_icmp .ge 288, 3) := by decide +kernel
theorem dL_law_163 : decode cL_law 163 = .ok (.iconst 0, 1) := by decide +kernel
theorem dL_law_164 : decode cL_law 164 = .ok (.istore 16, 2) := by decide +kernel
theorem dL_law_166 : decode cL_law 166 = .ok (.iload 16, 2) := by decide +kernel
theorem dL_law_168 : decode cL_law 168 = .ok (.bipush 7, 2) := by decide +kernel
theorem dL_law_170 : decode cL_law 170 = .ok (.if_icmp .ge 25, 3) := by decide +kernel
theorem dL_law_173 : decode cL_law 173 = .ok (.aload 9, 2) := by decide +kernel
theorem dL_law_175 : decode cL_law 175 = .ok (.iload 15, 2) := by decide +kernel
theorem dL_law_177 : decode cL_law 177 = .ok (.aaload, 1) := by decide +kernel
theorem dL_law_178 : decode cL_law 178 = .ok (.iload 16, 2) := by decide +kernel
theorem dL_law_180 : decode cL_law 180 = .ok (.aload_n 3, 1) := by decide +kernel
theorem dL_law_181 : decode cL_law 181 = .ok (.iload 15, 2) := by decide +kernel
theorem dL_law_183 : decode cL_law 183 = .ok (.iload 16, 2) := by decide +kernel
theorem dL_law_185 : decode cL_law 185 = .ok (.invokevirtual 208, 3) := by decide +kernel
theorem dL_law_188 : decode cL_law 188 = .ok (.iastore, 1) := by decide +kernel
theorem dL_law_189 : decode cL_law 189 = .ok (.iinc 16 1, 3) := by decide +kernel
theorem dL_law_192 : decode cL_law 192 = .ok (.goto (-26), 3) := by decide +kernel
theorem dL_law_195 : decode cL_law 195 = .ok (.aload 9, 2) := by decide +kernel
theorem dL_law_197 : decode cL_law 197 = .ok (.iload 15, 2) := by decide +kernel
theorem dL_law_199 : decode cL_law 199 = .ok (.aaload, 1) := by decide +kernel
theorem dL_law_200 : decode cL_law 200 = .ok (.astore 16, 2) := by decide +kernel
theorem dL_law_202 : decode cL_law 202 = .ok (.aload 12, 2) := by decide +kernel
theorem dL_law_204 : decode cL_law 204 = .ok (.iload 15, 2) := by decide +kernel
theorem dL_law_206 : decode cL_law 206 = .ok (.aload_n 3, 1) := by decide +kernel
theorem dL_law_207 : decode cL_law 207 = .ok (.iload 15, 2) := by decide +kernel
theorem dL_law_209 : decode cL_law 209 = .ok (.invokevirtual 211, 3) := by decide +kernel
theorem dL_law_212 : decode cL_law 212 = .ok (.bastore, 1) := by decide +kernel
theorem dL_law_213 : decode cL_law 213 = .ok (.aload 16, 2) := by decide +kernel
theorem dL_law_215 : decode cL_law 215 = .ok (.iconst 3, 1) := by decide +kernel
theorem dL_law_216 : decode cL_law 216 = .ok (.iaload, 1) := by decide +kernel
theorem dL_law_217 : decode cL_law 217 = .ok (.ifCond .lt 148, 3) := by decide +kernel
theorem dL_law_220 : decode cL_law 220 = .ok (.aload 16, 2) := by decide +kernel
theorem dL_law_222 : decode cL_law 222 = .ok (.iconst 3, 1) := by decide +kernel
theorem dL_law_223 : decode cL_law 223 = .ok (.iaload, 1) := by decide +kernel
theorem dL_law_224 : decode cL_law 224 = .ok (.iconst 2, 1) := by decide +kernel
theorem dL_law_225 : decode cL_law 225 = .ok (.if_icmp .gt 140, 3) := by decide +kernel
theorem dL_law_228 : decode cL_law 228 = .ok (.aload 16, 2) := by decide +kernel
theorem dL_law_230 : decode cL_law 230 = .ok (.iconst 3, 1) := by decide +kernel
theorem dL_law_231 : decode cL_law 231 = .ok (.iaload, 1) := by decide +kernel
theorem dL_law_232 : decode cL_law 232 = .ok (.iconst 1, 1) := by decide +kernel
theorem dL_law_233 : decode cL_law 233 = .ok (.if_icmp .ne 7, 3) := by decide +kernel
theorem dL_law_236 : decode cL_law 236 = .ok (.iconst 1, 1) := by decide +kernel
theorem dL_law_237 : decode cL_law 237 = .ok (.goto 4, 3) := by decide +kernel
theorem dL_law_240 : decode cL_law 240 = .ok (.iconst 0, 1) := by decide +kernel
theorem dL_law_241 : decode cL_law 241 = .ok (.aload 16, 2) := by decide +kernel
theorem dL_law_243 : decode cL_law 243 = .ok (.iconst 4, 1) := by decide +kernel
theorem dL_law_244 : decode cL_law 244 = .ok (.iaload, 1) := by decide +kernel
theorem dL_law_245 : decode cL_law 245 = .ok (.ifCond .lt 7, 3) := by decide +kernel
theorem dL_law_248 : decode cL_law 248 = .ok (.iconst 1, 1) := by decide +kernel
theorem dL_law_249 : decode cL_law 249 = .ok (.goto 4, 3) := by decide +kernel
theorem dL_law_252 : decode cL_law 252 = .ok (.iconst 0, 1) := by decide +kernel
theorem dL_law_253 : decode cL_law 253 = .ok (.if_icmp .ne 112, 3) := by decide +kernel
theorem dL_law_256 : decode cL_law 256 = .ok (.aload 16, 2) := by decide +kernel
theorem dL_law_258 : decode cL_law 258 = .ok (.iconst 4, 1) := by decide +kernel
theorem dL_law_259 : decode cL_law 259 = .ok (.iaload, 1) := by decide +kernel
theorem dL_law_260 : decode cL_law 260 = .ok (.iload 4, 2) := by decide +kernel
theorem dL_law_262 : decode cL_law 262 = .ok (.if_icmp .ge 103, 3) := by decide +kernel
theorem dL_law_265 : decode cL_law 265 = .ok (.aload 16, 2) := by decide +kernel
theorem dL_law_267 : decode cL_law 267 = .ok (.iconst 5, 1) := by decide +kernel
theorem dL_law_268 : decode cL_law 268 = .ok (.iaload, 1) := by decide +kernel
theorem dL_law_269 : decode cL_law 269 = .ok (.ifCond .lt 96, 3) := by decide +kernel
theorem dL_law_272 : decode cL_law 272 = .ok (.aload 16, 2) := by decide +kernel
theorem dL_law_274 : decode cL_law 274 = .ok (.iconst 3, 1) := by decide +kernel
theorem dL_law_275 : decode cL_law 275 = .ok (.iaload, 1) := by decide +kernel
theorem dL_law_276 : decode cL_law 276 = .ok (.iconst 1, 1) := by decide +kernel
theorem dL_law_277 : decode cL_law 277 = .ok (.if_icmp .eq 10, 3) := by decide +kernel
theorem dL_law_280 : decode cL_law 280 = .ok (.aload 16, 2) := by decide +kernel
theorem dL_law_282 : decode cL_law 282 = .ok (.iconst 5, 1) := by decide +kernel
theorem dL_law_283 : decode cL_law 283 = .ok (.iaload, 1) := by decide +kernel
theorem dL_law_284 : decode cL_law 284 = .ok (.ifCond .ne 81, 3) := by decide +kernel
theorem dL_law_287 : decode cL_law 287 = .ok (.aload 16, 2) := by decide +kernel
theorem dL_law_289 : decode cL_law 289 = .ok (.iconst 3, 1) := by decide +kernel
theorem dL_law_290 : decode cL_law 290 = .ok (.iaload, 1) := by decide +kernel
theorem dL_law_291 : decode cL_law 291 = .ok (.iconst 1, 1) := by decide +kernel
theorem dL_law_292 : decode cL_law 292 = .ok (.if_icmp .ne 14, 3) := by decide +kernel
theorem dL_law_295 : decode cL_law 295 = .ok (.aload 16, 2) := by decide +kernel
theorem dL_law_297 : decode cL_law 297 = .ok (.iconst 5, 1) := by decide +kernel
theorem dL_law_298 : decode cL_law 298 = .ok (.iaload, 1) := by decide +kernel
theorem dL_law_299 : decode cL_law 299 = .ok (.aload 16, 2) := by decide +kernel
theorem dL_law_301 : decode cL_law 301 = .ok (.iconst 0, 1) := by decide +kernel
theorem dL_law_302 : decode cL_law 302 = .ok (.iaload, 1) := by decide +kernel
theorem dL_law_303 : decode cL_law 303 = .ok (.if_icmp .ge 62, 3) := by decide +kernel
theorem dL_law_306 : decode cL_law 306 = .ok (.aload 16, 2) := by decide +kernel
theorem dL_law_308 : decode cL_law 308 = .ok (.iconst 3, 1) := by decide +kernel
theorem dL_law_309 : decode cL_law 309 = .ok (.iaload, 1) := by decide +kernel
theorem dL_law_310 : decode cL_law 310 = .ok (.iconst 2, 1) := by decide +kernel
theorem dL_law_311 : decode cL_law 311 = .ok (.if_icmp .ne 7, 3) := by decide +kernel
theorem dL_law_314 : decode cL_law 314 = .ok (.iconst 1, 1) := by decide +kernel
theorem dL_law_315 : decode cL_law 315 = .ok (.goto 4, 3) := by decide +kernel
theorem dL_law_318 : decode cL_law 318 = .ok (.iconst 0, 1) := by decide +kernel
theorem dL_law_319 : decode cL_law 319 = .ok (.aload 16, 2) := by decide +kernel
theorem dL_law_321 : decode cL_law 321 = .ok (.bipush 6, 2) := by decide +kernel
theorem dL_law_323 : decode cL_law 323 = .ok (.iaload, 1) := by decide +kernel
theorem dL_law_324 : decode cL_law 324 = .ok (.ifCond .lt 7, 3) := by decide +kernel
theorem dL_law_327 : decode cL_law 327 = .ok (.iconst 1, 1) := by decide +kernel
theorem dL_law_328 : decode cL_law 328 = .ok (.goto 4, 3) := by decide +kernel
theorem dL_law_331 : decode cL_law 331 = .ok (.iconst 0, 1) := by decide +kernel
theorem dL_law_332 : decode cL_law 332 = .ok (.if_icmp .ne 33, 3) := by decide +kernel
theorem dL_law_335 : decode cL_law 335 = .ok (.aload 16, 2) := by decide +kernel
theorem dL_law_337 : decode cL_law 337 = .ok (.bipush 6, 2) := by decide +kernel
theorem dL_law_339 : decode cL_law 339 = .ok (.iaload, 1) := by decide +kernel
theorem dL_law_340 : decode cL_law 340 = .ok (.aload_n 3, 1) := by decide +kernel
theorem dL_law_341 : decode cL_law 341 = .ok (.iconst 0, 1) := by decide +kernel
theorem dL_law_342 : decode cL_law 342 = .ok (.invokevirtual 200, 3) := by decide +kernel
theorem dL_law_345 : decode cL_law 345 = .ok (.if_icmp .ge 20, 3) := by decide +kernel
theorem dL_law_348 : decode cL_law 348 = .ok (.aload_n 3, 1) := by decide +kernel
theorem dL_law_349 : decode cL_law 349 = .ok (.iload 15, 2) := by decide +kernel
theorem dL_law_351 : decode cL_law 351 = .ok (.iconst 0, 1) := by decide +kernel
theorem dL_law_352 : decode cL_law 352 = .ok (.invokevirtual 215, 3) := by decide +kernel
theorem dL_law_355 : decode cL_law 355 = .ok (.aload_n 3, 1) := by decide +kernel
theorem dL_law_356 : decode cL_law 356 = .ok (.iload 15, 2) := by decide +kernel
theorem dL_law_358 : decode cL_law 358 = .ok (.iconst 1, 1) := by decide +kernel
theorem dL_law_359 : decode cL_law 359 = .ok (.invokevirtual 215, 3) := by decide +kernel
theorem dL_law_362 : decode cL_law 362 = .ok (.if_icmp .ne 5, 3) := by decide +kernel
theorem dL_law_365 : decode cL_law 365 = .ok (.iconst 0, 1) := by decide +kernel
theorem dL_law_366 : decode cL_law 366 = .ok (.ireturn, 1) := by decide +kernel
theorem dL_law_367 : decode cL_law 367 = .ok (.aload 16, 2) := by decide +kernel
theorem dL_law_369 : decode cL_law 369 = .ok (.iconst 3, 1) := by decide +kernel
theorem dL_law_370 : decode cL_law 370 = .ok (.iaload, 1) := by decide +kernel
theorem dL_law_371 : decode cL_law 371 = .ok (.iconst 1, 1) := by decide +kernel
theorem dL_law_372 : decode cL_law 372 = .ok (.if_icmp .eq 6, 3) := by decide +kernel
theorem dL_law_375 : decode cL_law 375 = .ok (.goto 67, 3) := by decide +kernel
theorem dL_law_378 : decode cL_law 378 = .ok (.iinc 13 1, 3) := by decide +kernel
theorem dL_law_381 : decode cL_law 381 = .ok (.iload 14, 2) := by decide +kernel
theorem dL_law_383 : decode cL_law 383 = .ok (.iconst 1, 1) := by decide +kernel
theorem dL_law_384 : decode cL_law 384 = .ok (.aload 16, 2) := by decide +kernel
theorem dL_law_386 : decode cL_law 386 = .ok (.iconst 1, 1) := by decide +kernel
theorem dL_law_387 : decode cL_law 387 = .ok (.iaload, 1) := by decide +kernel
theorem dL_law_388 : decode cL_law 388 = .ok (.ishl, 1) := by decide +kernel
theorem dL_law_389 : decode cL_law 389 = .ok (.ior, 1) := by decide +kernel
theorem dL_law_390 : decode cL_law 390 = .ok (.istore 14, 2) := by decide +kernel
theorem dL_law_392 : decode cL_law 392 = .ok (.aload_n 3, 1) := by decide +kernel
theorem dL_law_393 : decode cL_law 393 = .ok (.aload 16, 2) := by decide +kernel
theorem dL_law_395 : decode cL_law 395 = .ok (.iconst 4, 1) := by decide +kernel
theorem dL_law_396 : decode cL_law 396 = .ok (.iaload, 1) := by decide +kernel
theorem dL_law_397 : decode cL_law 397 = .ok (.iconst 3, 1) := by decide +kernel
theorem dL_law_398 : decode cL_law 398 = .ok (.invokevirtual 218, 3) := by decide +kernel
theorem dL_law_401 : decode cL_law 401 = .ok (.iload 15, 2) := by decide +kernel
theorem dL_law_403 : decode cL_law 403 = .ok (.if_icmp .ne 37, 3) := by decide +kernel
theorem dL_law_406 : decode cL_law 406 = .ok (.aload_n 3, 1) := by decide +kernel
theorem dL_law_407 : decode cL_law 407 = .ok (.aload_n 3, 1) := by decide +kernel
theorem dL_law_408 : decode cL_law 408 = .ok (.iload 15, 2) := by decide +kernel
theorem dL_law_410 : decode cL_law 410 = .ok (.iconst 0, 1) := by decide +kernel
theorem dL_law_411 : decode cL_law 411 = .ok (.invokevirtual 215, 3) := by decide +kernel
theorem dL_law_414 : decode cL_law 414 = .ok (.iconst 4, 1) := by decide +kernel
theorem dL_law_415 : decode cL_law 415 = .ok (.invokevirtual 221, 3) := by decide +kernel
theorem dL_law_418 : decode cL_law 418 = .ok (.iload 15, 2) := by decide +kernel
theorem dL_law_420 : decode cL_law 420 = .ok (.if_icmp .ne 20, 3) := by decide +kernel
theorem dL_law_423 : decode cL_law 423 = .ok (.aload_n 3, 1) := by decide +kernel
theorem dL_law_424 : decode cL_law 424 = .ok (.aload_n 3, 1) := by decide +kernel
theorem dL_law_425 : decode cL_law 425 = .ok (.iload 15, 2) := by decide +kernel
theorem dL_law_427 : decode cL_law 427 = .ok (.iconst 1, 1) := by decide +kernel
theorem dL_law_428 : decode cL_law 428 = .ok (.invokevirtual 215, 3) := by decide +kernel
theorem dL_law_431 : decode cL_law 431 = .ok (.iconst 4, 1) := by decide +kernel
theorem dL_law_432 : decode cL_law 432 = .ok (.invokevirtual 221, 3) := by decide +kernel
theorem dL_law_435 : decode cL_law 435 = .ok (.iload 15, 2) := by decide +kernel
theorem dL_law_437 : decode cL_law 437 = .ok (.if_icmp .eq 5, 3) := by decide +kernel
theorem dL_law_440 : decode cL_law 440 = .ok (.iconst 0, 1) := by decide +kernel
theorem dL_law_441 : decode cL_law 441 = .ok (.ireturn, 1) := by decide +kernel
theorem dL_law_442 : decode cL_law 442 = .ok (.iinc 15 1, 3) := by decide +kernel
theorem dL_law_445 : decode cL_law 445 = .ok (.goto (-289), 3) := by decide +kernel
theorem dL_law_448 : decode cL_law 448 = .ok (.iconst 0, 1) := by decide +kernel
theorem dL_law_449 : decode cL_law 449 = .ok (.istore 15, 2) := by decide +kernel
theorem dL_law_451 : decode cL_law 451 = .ok (.iconst 0, 1) := by decide +kernel
theorem dL_law_452 : decode cL_law 452 = .ok (.istore 16, 2) := by decide +kernel
theorem dL_law_454 : decode cL_law 454 = .ok (.iload 16, 2) := by decide +kernel
theorem dL_law_456 : decode cL_law 456 = .ok (.iload 5, 2) := by decide +kernel
theorem dL_law_458 : decode cL_law 458 = .ok (.if_icmp .ge 217, 3) := by decide +kernel
theorem dL_law_461 : decode cL_law 461 = .ok (.iconst 0, 1) := by decide +kernel
theorem dL_law_462 : decode cL_law 462 = .ok (.istore 17, 2) := by decide +kernel
theorem dL_law_464 : decode cL_law 464 = .ok (.iload 17, 2) := by decide +kernel
theorem dL_law_466 : decode cL_law 466 = .ok (.bipush 7, 2) := by decide +kernel
theorem dL_law_468 : decode cL_law 468 = .ok (.if_icmp .ge 25, 3) := by decide +kernel
theorem dL_law_471 : decode cL_law 471 = .ok (.aload 10, 2) := by decide +kernel
theorem dL_law_473 : decode cL_law 473 = .ok (.iload 16, 2) := by decide +kernel
theorem dL_law_475 : decode cL_law 475 = .ok (.aaload, 1) := by decide +kernel
theorem dL_law_476 : decode cL_law 476 = .ok (.iload 17, 2) := by decide +kernel
theorem dL_law_478 : decode cL_law 478 = .ok (.aload_n 3, 1) := by decide +kernel
theorem dL_law_479 : decode cL_law 479 = .ok (.iload 16, 2) := by decide +kernel
theorem dL_law_481 : decode cL_law 481 = .ok (.iload 17, 2) := by decide +kernel
theorem dL_law_483 : decode cL_law 483 = .ok (.invokevirtual 221, 3) := by decide +kernel
theorem dL_law_486 : decode cL_law 486 = .ok (.iastore, 1) := by decide +kernel
theorem dL_law_487 : decode cL_law 487 = .ok (.iinc 17 1, 3) := by decide +kernel
theorem dL_law_490 : decode cL_law 490 = .ok (.goto (-26), 3) := by decide +kernel
theorem dL_law_493 : decode cL_law 493 = .ok (.aload 10, 2) := by decide +kernel
theorem dL_law_495 : decode cL_law 495 = .ok (.iload 16, 2) := by decide +kernel
theorem dL_law_497 : decode cL_law 497 = .ok (.aaload, 1) := by decide +kernel
theorem dL_law_498 : decode cL_law 498 = .ok (.astore 17, 2) := by decide +kernel
theorem dL_law_500 : decode cL_law 500 = .ok (.iload 15, 2) := by decide +kernel
theorem dL_law_502 : decode cL_law 502 = .ok (.aload 17, 2) := by decide +kernel
theorem dL_law_504 : decode cL_law 504 = .ok (.iconst 3, 1) := by decide +kernel
theorem dL_law_505 : decode cL_law 505 = .ok (.iaload, 1) := by decide +kernel
theorem dL_law_506 : decode cL_law 506 = .ok (.ifCond .ne 7, 3) := by decide +kernel
theorem dL_law_509 : decode cL_law 509 = .ok (.iconst 1, 1) := by decide +kernel
theorem dL_law_510 : decode cL_law 510 = .ok (.goto 4, 3) := by decide +kernel
theorem dL_law_513 : decode cL_law 513 = .ok (.iconst 0, 1) := by decide +kernel
theorem dL_law_514 : decode cL_law 514 = .ok (.iadd, 1) := by decide +kernel
theorem dL_law_515 : decode cL_law 515 = .ok (.istore 15, 2) := by decide +kernel
theorem dL_law_517 : decode cL_law 517 = .ok (.aload 17, 2) := by decide +kernel
theorem dL_law_519 : decode cL_law 519 = .ok (.iconst 2, 1) := by decide +kernel
theorem dL_law_520 : decode cL_law 520 = .ok (.iaload, 1) := by decide +kernel
theorem dL_law_521 : decode cL_law 521 = .ok (.ifCond .lt 111, 3) := by decide +kernel
theorem dL_law_524 : decode cL_law 524 = .ok (.aload 17, 2) := by decide +kernel
theorem dL_law_526 : decode cL_law 526 = .ok (.iconst 2, 1) := by decide +kernel
theorem dL_law_527 : decode cL_law 527 = .ok (.iaload, 1) := by decide +kernel
theorem dL_law_528 : decode cL_law 528 = .ok (.bipush 10, 2) := by decide +kernel
theorem dL_law_530 : decode cL_law 530 = .ok (.aload 17, 2) := by decide +kernel
theorem dL_law_532 : decode cL_law 532 = .ok (.iconst 1, 1) := by decide +kernel
theorem dL_law_533 : decode cL_law 533 = .ok (.iaload, 1) := by decide +kernel
theorem dL_law_534 : decode cL_law 534 = .ok (.imul, 1) := by decide +kernel
theorem dL_law_535 : decode cL_law 535 = .ok (.if_icmp .gt 97, 3) := by decide +kernel
theorem dL_law_538 : decode cL_law 538 = .ok (.aload 17, 2) := by decide +kernel
theorem dL_law_540 : decode cL_law 540 = .ok (.iconst 3, 1) := by decide +kernel
theorem dL_law_541 : decode cL_law 541 = .ok (.iaload, 1) := by decide +kernel
theorem dL_law_542 : decode cL_law 542 = .ok (.iconst 1, 1) := by decide +kernel
theorem dL_law_543 : decode cL_law 543 = .ok (.if_icmp .ne 7, 3) := by decide +kernel
theorem dL_law_546 : decode cL_law 546 = .ok (.iconst 1, 1) := by decide +kernel
theorem dL_law_547 : decode cL_law 547 = .ok (.goto 4, 3) := by decide +kernel
theorem dL_law_550 : decode cL_law 550 = .ok (.iconst 0, 1) := by decide +kernel
theorem dL_law_551 : decode cL_law 551 = .ok (.aload 17, 2) := by decide +kernel
theorem dL_law_553 : decode cL_law 553 = .ok (.bipush 6, 2) := by decide +kernel
theorem dL_law_555 : decode cL_law 555 = .ok (.iaload, 1) := by decide +kernel
theorem dL_law_556 : decode cL_law 556 = .ok (.ifCond .ge 7, 3) := by decide +kernel
theorem dL_law_559 : decode cL_law 559 = .ok (.iconst 1, 1) := by decide +kernel
theorem dL_law_560 : decode cL_law 560 = .ok (.goto 4, 3) := by decide +kernel
theorem dL_law_563 : decode cL_law 563 = .ok (.iconst 0, 1) := by decide +kernel
theorem dL_law_564 : decode cL_law 564 = .ok (.if_icmp .ne 68, 3) := by decide +kernel
theorem dL_law_567 : decode cL_law 567 = .ok (.aload 17, 2) := by decide +kernel
theorem dL_law_569 : decode cL_law 569 = .ok (.iconst 5, 1) := by decide +kernel
theorem dL_law_570 : decode cL_law 570 = .ok (.iaload, 1) := by decide +kernel
theorem dL_law_571 : decode cL_law 571 = .ok (.ifCond .lt 61, 3) := by decide +kernel
theorem dL_law_574 : decode cL_law 574 = .ok (.aload 17, 2) := by decide +kernel
theorem dL_law_576 : decode cL_law 576 = .ok (.iconst 5, 1) := by decide +kernel
theorem dL_law_577 : decode cL_law 577 = .ok (.iaload, 1) := by decide +kernel
theorem dL_law_578 : decode cL_law 578 = .ok (.bipush 9, 2) := by decide +kernel
theorem dL_law_580 : decode cL_law 580 = .ok (.if_icmp .gt 52, 3) := by decide +kernel
theorem dL_law_583 : decode cL_law 583 = .ok (.aload 17, 2) := by decide +kernel
theorem dL_law_585 : decode cL_law 585 = .ok (.iconst 4, 1) := by decide +kernel
theorem dL_law_586 : decode cL_law 586 = .ok (.iaload, 1) := by decide +kernel
theorem dL_law_587 : decode cL_law 587 = .ok (.ifCond .lt 10, 3) := by decide +kernel
theorem dL_law_590 : decode cL_law 590 = .ok (.aload 17, 2) := by decide +kernel
theorem dL_law_592 : decode cL_law 592 = .ok (.iconst 5, 1) := by decide +kernel
theorem dL_law_593 : decode cL_law 593 = .ok (.iaload, 1) := by decide +kernel
theorem dL_law_594 : decode cL_law 594 = .ok (.ifCond .gt 38, 3) := by decide +kernel
theorem dL_law_597 : decode cL_law 597 = .ok (.aload 17, 2) := by decide +kernel
theorem dL_law_599 : decode cL_law 599 = .ok (.iconst 4, 1) := by decide +kernel
theorem dL_law_600 : decode cL_law 600 = .ok (.iaload, 1) := by decide +kernel
theorem dL_law_601 : decode cL_law 601 = .ok (.ifCond .lt 33, 3) := by decide +kernel
theorem dL_law_604 : decode cL_law 604 = .ok (.aload_n 3, 1) := by decide +kernel
theorem dL_law_605 : decode cL_law 605 = .ok (.aload 17, 2) := by decide +kernel
theorem dL_law_607 : decode cL_law 607 = .ok (.iconst 4, 1) := by decide +kernel
theorem dL_law_608 : decode cL_law 608 = .ok (.iaload, 1) := by decide +kernel
theorem dL_law_609 : decode cL_law 609 = .ok (.iconst 0, 1) := by decide +kernel
theorem dL_law_610 : decode cL_law 610 = .ok (.invokevirtual 215, 3) := by decide +kernel
theorem dL_law_613 : decode cL_law 613 = .ok (.iload 16, 2) := by decide +kernel
theorem dL_law_615 : decode cL_law 615 = .ok (.if_icmp .eq 19, 3) := by decide +kernel
theorem dL_law_618 : decode cL_law 618 = .ok (.aload_n 3, 1) := by decide +kernel
theorem dL_law_619 : decode cL_law 619 = .ok (.aload 17, 2) := by decide +kernel
theorem dL_law_621 : decode cL_law 621 = .ok (.iconst 4, 1) := by decide +kernel
theorem dL_law_622 : decode cL_law 622 = .ok (.iaload, 1) := by decide +kernel
theorem dL_law_623 : decode cL_law 623 = .ok (.iconst 1, 1) := by decide +kernel
theorem dL_law_624 : decode cL_law 624 = .ok (.invokevirtual 215, 3) := by decide +kernel
theorem dL_law_627 : decode cL_law 627 = .ok (.iload 16, 2) := by decide +kernel
theorem dL_law_629 : decode cL_law 629 = .ok (.if_icmp .eq 5, 3) := by decide +kernel
theorem dL_law_632 : decode cL_law 632 = .ok (.iconst 0, 1) := by decide +kernel
theorem dL_law_633 : decode cL_law 633 = .ok (.ireturn, 1) := by decide +kernel
theorem dL_law_634 : decode cL_law 634 = .ok (.aload 17, 2) := by decide +kernel
theorem dL_law_636 : decode cL_law 636 = .ok (.bipush 6, 2) := by decide +kernel
theorem dL_law_638 : decode cL_law 638 = .ok (.iaload, 1) := by decide +kernel
theorem dL_law_639 : decode cL_law 639 = .ok (.ifCond .lt 30, 3) := by decide +kernel
theorem dL_law_642 : decode cL_law 642 = .ok (.aload_n 3, 1) := by decide +kernel
theorem dL_law_643 : decode cL_law 643 = .ok (.aload_n 3, 1) := by decide +kernel
theorem dL_law_644 : decode cL_law 644 = .ok (.aload 17, 2) := by decide +kernel
theorem dL_law_646 : decode cL_law 646 = .ok (.bipush 6, 2) := by decide +kernel
theorem dL_law_648 : decode cL_law 648 = .ok (.iaload, 1) := by decide +kernel
theorem dL_law_649 : decode cL_law 649 = .ok (.iconst 0, 1) := by decide +kernel
theorem dL_law_650 : decode cL_law 650 = .ok (.invokevirtual 218, 3) := by decide +kernel
theorem dL_law_653 : decode cL_law 653 = .ok (.iconst 1, 1) := by decide +kernel
theorem dL_law_654 : decode cL_law 654 = .ok (.invokevirtual 224, 3) := by decide +kernel
theorem dL_law_657 : decode cL_law 657 = .ok (.aload 17, 2) := by decide +kernel
theorem dL_law_659 : decode cL_law 659 = .ok (.iconst 0, 1) := by decide +kernel
theorem dL_law_660 : decode cL_law 660 = .ok (.iaload, 1) := by decide +kernel
theorem dL_law_661 : decode cL_law 661 = .ok (.iadd, 1) := by decide +kernel
theorem dL_law_662 : decode cL_law 662 = .ok (.bipush 12, 2) := by decide +kernel
theorem dL_law_664 : decode cL_law 664 = .ok (.if_icmp .gt 5, 3) := by decide +kernel
theorem dL_law_667 : decode cL_law 667 = .ok (.iconst 0, 1) := by decide +kernel
theorem dL_law_668 : decode cL_law 668 = .ok (.ireturn, 1) := by decide +kernel
theorem dL_law_669 : decode cL_law 669 = .ok (.iinc 16 1, 3) := by decide +kernel
theorem dL_law_672 : decode cL_law 672 = .ok (.goto (-218), 3) := by decide +kernel
theorem dL_law_675 : decode cL_law 675 = .ok (.iconst 0, 1) := by decide +kernel
theorem dL_law_676 : decode cL_law 676 = .ok (.istore 16, 2) := by decide +kernel
theorem dL_law_678 : decode cL_law 678 = .ok (.iconst 0, 1) := by decide +kernel
theorem dL_law_679 : decode cL_law 679 = .ok (.istore 17, 2) := by decide +kernel
theorem dL_law_681 : decode cL_law 681 = .ok (.iconst 0, 1) := by decide +kernel
theorem dL_law_682 : decode cL_law 682 = .ok (.istore 18, 2) := by decide +kernel
theorem dL_law_684 : decode cL_law 684 = .ok (.iconst 0, 1) := by decide +kernel
theorem dL_law_685 : decode cL_law 685 = .ok (.istore 19, 2) := by decide +kernel
theorem dL_law_687 : decode cL_law 687 = .ok (.iload 19, 2) := by decide +kernel
theorem dL_law_689 : decode cL_law 689 = .ok (.iload 4, 2) := by decide +kernel
theorem dL_law_691 : decode cL_law 691 = .ok (.if_icmp .ge 107, 3) := by decide +kernel
theorem dL_law_694 : decode cL_law 694 = .ok (.aload 11, 2) := by decide +kernel
theorem dL_law_696 : decode cL_law 696 = .ok (.iload 19, 2) := by decide +kernel
theorem dL_law_698 : decode cL_law 698 = .ok (.aload_n 3, 1) := by decide +kernel
theorem dL_law_699 : decode cL_law 699 = .ok (.iload 19, 2) := by decide +kernel
theorem dL_law_701 : decode cL_law 701 = .ok (.iconst 1, 1) := by decide +kernel
theorem dL_law_702 : decode cL_law 702 = .ok (.invokevirtual 218, 3) := by decide +kernel
theorem dL_law_705 : decode cL_law 705 = .ok (.iastore, 1) := by decide +kernel
theorem dL_law_706 : decode cL_law 706 = .ok (.iload 16, 2) := by decide +kernel
theorem dL_law_708 : decode cL_law 708 = .ok (.aload 11, 2) := by decide +kernel
theorem dL_law_710 : decode cL_law 710 = .ok (.iload 19, 2) := by decide +kernel
theorem dL_law_712 : decode cL_law 712 = .ok (.iaload, 1) := by decide +kernel
theorem dL_law_713 : decode cL_law 713 = .ok (.iadd, 1) := by decide +kernel
theorem dL_law_714 : decode cL_law 714 = .ok (.istore 16, 2) := by decide +kernel
theorem dL_law_716 : decode cL_law 716 = .ok (.iload 17, 2) := by decide +kernel
theorem dL_law_718 : decode cL_law 718 = .ok (.aload_n 3, 1) := by decide +kernel
theorem dL_law_719 : decode cL_law 719 = .ok (.iload 19, 2) := by decide +kernel
theorem dL_law_721 : decode cL_law 721 = .ok (.iconst 2, 1) := by decide +kernel
theorem dL_law_722 : decode cL_law 722 = .ok (.invokevirtual 218, 3) := by decide +kernel
theorem dL_law_725 : decode cL_law 725 = .ok (.iadd, 1) := by decide +kernel
theorem dL_law_726 : decode cL_law 726 = .ok (.istore 17, 2) := by decide +kernel
theorem dL_law_728 : decode cL_law 728 = .ok (.iload 18, 2) := by decide +kernel
theorem dL_law_730 : decode cL_law 730 = .ok (.aload_n 3, 1) := by decide +kernel
theorem dL_law_731 : decode cL_law 731 = .ok (.iload 19, 2) := by decide +kernel
theorem dL_law_733 : decode cL_law 733 = .ok (.iconst 3, 1) := by decide +kernel
theorem dL_law_734 : decode cL_law 734 = .ok (.invokevirtual 218, 3) := by decide +kernel
theorem dL_law_737 : decode cL_law 737 = .ok (.ifCond .ge 7, 3) := by decide +kernel
theorem dL_law_740 : decode cL_law 740 = .ok (.iconst 0, 1) := by decide +kernel
theorem dL_law_741 : decode cL_law 741 = .ok (.goto 4, 3) := by decide +kernel
theorem dL_law_744 : decode cL_law 744 = .ok (.iconst 1, 1) := by decide +kernel
theorem dL_law_745 : decode cL_law 745 = .ok (.iadd, 1) := by decide +kernel
theorem dL_law_746 : decode cL_law 746 = .ok (.istore 18, 2) := by decide +kernel
theorem dL_law_748 : decode cL_law 748 = .ok (.aload 11, 2) := by decide +kernel
theorem dL_law_750 : decode cL_law 750 = .ok (.iload 19, 2) := by decide +kernel
theorem dL_law_752 : decode cL_law 752 = .ok (.iaload, 1) := by decide +kernel
theorem dL_law_753 : decode cL_law 753 = .ok (.ifCond .lt 37, 3) := by decide +kernel
theorem dL_law_756 : decode cL_law 756 = .ok (.aload 11, 2) := by decide +kernel
theorem dL_law_758 : decode cL_law 758 = .ok (.iload 19, 2) := by decide +kernel
theorem dL_law_760 : decode cL_law 760 = .ok (.iaload, 1) := by decide +kernel
theorem dL_law_761 : decode cL_law 761 = .ok (.bipush 100, 2) := by decide +kernel
theorem dL_law_763 : decode cL_law 763 = .ok (.if_icmp .gt 27, 3) := by decide +kernel
theorem dL_law_766 : decode cL_law 766 = .ok (.aload 11, 2) := by decide +kernel
theorem dL_law_768 : decode cL_law 768 = .ok (.iload 19, 2) := by decide +kernel
theorem dL_law_770 : decode cL_law 770 = .ok (.iaload, 1) := by decide +kernel
theorem dL_law_771 : decode cL_law 771 = .ok (.aload 11, 2) := by decide +kernel
theorem dL_law_773 : decode cL_law 773 = .ok (.aload_n 3, 1) := by decide +kernel
theorem dL_law_774 : decode cL_law 774 = .ok (.invokevirtual 227, 3) := by decide +kernel
theorem dL_law_777 : decode cL_law 777 = .ok (.iaload, 1) := by decide +kernel
theorem dL_law_778 : decode cL_law 778 = .ok (.if_icmp .ge 14, 3) := by decide +kernel
theorem dL_law_781 : decode cL_law 781 = .ok (.aload_n 3, 1) := by decide +kernel
theorem dL_law_782 : decode cL_law 782 = .ok (.invokevirtual 227, 3) := by decide +kernel
theorem dL_law_785 : decode cL_law 785 = .ok (.iload 19, 2) := by decide +kernel
theorem dL_law_787 : decode cL_law 787 = .ok (.if_icmp .ge 5, 3) := by decide +kernel
theorem dL_law_790 : decode cL_law 790 = .ok (.iconst 0, 1) := by decide +kernel
theorem dL_law_791 : decode cL_law 791 = .ok (.ireturn, 1) := by decide +kernel
theorem dL_law_792 : decode cL_law 792 = .ok (.iinc 19 1, 3) := by decide +kernel
theorem dL_law_795 : decode cL_law 795 = .ok (.goto (-108), 3) := by decide +kernel
theorem dL_law_798 : decode cL_law 798 = .ok (.iload 14, 2) := by decide +kernel
theorem dL_law_800 : decode cL_law 800 = .ok (.iconst 3, 1) := by decide +kernel
theorem dL_law_801 : decode cL_law 801 = .ok (.if_icmp .eq 71, 3) := by decide +kernel
theorem dL_law_804 : decode cL_law 804 = .ok (.iload 18, 2) := by decide +kernel
theorem dL_law_806 : decode cL_law 806 = .ok (.iload 13, 2) := by decide +kernel
theorem dL_law_808 : decode cL_law 808 = .ok (.if_icmp .ne 64, 3) := by decide +kernel
theorem dL_law_811 : decode cL_law 811 = .ok (.aload_n 3, 1) := by decide +kernel
theorem dL_law_812 : decode cL_law 812 = .ok (.bipush 9, 2) := by decide +kernel
theorem dL_law_814 : decode cL_law 814 = .ok (.invokevirtual 200, 3) := by decide +kernel
theorem dL_law_817 : decode cL_law 817 = .ok (.iload 13, 2) := by decide +kernel
theorem dL_law_819 : decode cL_law 819 = .ok (.if_icmp .ne 53, 3) := by decide +kernel
theorem dL_law_822 : decode cL_law 822 = .ok (.aload_n 3, 1) := by decide +kernel
theorem dL_law_823 : decode cL_law 823 = .ok (.bipush 8, 2) := by decide +kernel
theorem dL_law_825 : decode cL_law 825 = .ok (.invokevirtual 200, 3) := by decide +kernel
theorem dL_law_828 : decode cL_law 828 = .ok (.iload 13, 2) := by decide +kernel
theorem dL_law_830 : decode cL_law 830 = .ok (.iadd, 1) := by decide +kernel
theorem dL_law_831 : decode cL_law 831 = .ok (.aload_n 3, 1) := by decide +kernel
theorem dL_law_832 : decode cL_law 832 = .ok (.bipush 10, 2) := by decide +kernel
theorem dL_law_834 : decode cL_law 834 = .ok (.invokevirtual 200, 3) := by decide +kernel
theorem dL_law_837 : decode cL_law 837 = .ok (.iadd, 1) := by decide +kernel
theorem dL_law_838 : decode cL_law 838 = .ok (.iload 6, 2) := by decide +kernel
theorem dL_law_840 : decode cL_law 840 = .ok (.if_icmp .ne 32, 3) := by decide +kernel
theorem dL_law_843 : decode cL_law 843 = .ok (.aload_n 3, 1) := by decide +kernel
theorem dL_law_844 : decode cL_law 844 = .ok (.bipush 11, 2) := by decide +kernel
theorem dL_law_846 : decode cL_law 846 = .ok (.invokevirtual 200, 3) := by decide +kernel
theorem dL_law_849 : decode cL_law 849 = .ok (.iload 16, 2) := by decide +kernel
theorem dL_law_851 : decode cL_law 851 = .ok (.if_icmp .ne 21, 3) := by decide +kernel
theorem dL_law_854 : decode cL_law 854 = .ok (.aload_n 3, 1) := by decide +kernel
theorem dL_law_855 : decode cL_law 855 = .ok (.bipush 12, 2) := by decide +kernel
theorem dL_law_857 : decode cL_law 857 = .ok (.invokevirtual 200, 3) := by decide +kernel
theorem dL_law_860 : decode cL_law 860 = .ok (.iload 15, 2) := by decide +kernel
theorem dL_law_862 : decode cL_law 862 = .ok (.if_icmp .ne 10, 3) := by decide +kernel
theorem dL_law_865 : decode cL_law 865 = .ok (.iload 17, 2) := by decide +kernel
theorem dL_law_867 : decode cL_law 867 = .ok (.iload 15, 2) := by decide +kernel
theorem dL_law_869 : decode cL_law 869 = .ok (.if_icmp .eq 5, 3) := by decide +kernel
theorem dL_law_872 : decode cL_law 872 = .ok (.iconst 0, 1) := by decide +kernel
theorem dL_law_873 : decode cL_law 873 = .ok (.ireturn, 1) := by decide +kernel
theorem dL_law_874 : decode cL_law 874 = .ok (.aload_n 3, 1) := by decide +kernel
theorem dL_law_875 : decode cL_law 875 = .ok (.iconst 1, 1) := by decide +kernel
theorem dL_law_876 : decode cL_law 876 = .ok (.invokevirtual 200, 3) := by decide +kernel
theorem dL_law_879 : decode cL_law 879 = .ok (.istore 19, 2) := by decide +kernel
theorem dL_law_881 : decode cL_law 881 = .ok (.aload_n 3, 1) := by decide +kernel
theorem dL_law_882 : decode cL_law 882 = .ok (.bipush 10, 2) := by decide +kernel
theorem dL_law_884 : decode cL_law 884 = .ok (.invokevirtual 200, 3) := by decide +kernel
theorem dL_law_887 : decode cL_law 887 = .ok (.istore 20, 2) := by decide +kernel
theorem dL_law_889 : decode cL_law 889 = .ok (.aload_n 3, 1) := by decide +kernel
theorem dL_law_890 : decode cL_law 890 = .ok (.invokevirtual 230, 3) := by decide +kernel
theorem dL_law_893 : decode cL_law 893 = .ok (.lstore 21, 2) := by decide +kernel
theorem dL_law_895 : decode cL_law 895 = .ok (.bipush 13, 2) := by decide +kernel
theorem dL_law_897 : decode cL_law 897 = .ok (.newarray .int, 2) := by decide +kernel
theorem dL_law_899 : decode cL_law 899 = .ok (.astore 23, 2) := by decide +kernel
theorem dL_law_901 : decode cL_law 901 = .ok (.bipush 8, 2) := by decide +kernel
theorem dL_law_903 : decode cL_law 903 = .ok (.istore 24, 2) := by decide +kernel
theorem dL_law_905 : decode cL_law 905 = .ok (.iload 24, 2) := by decide +kernel
theorem dL_law_907 : decode cL_law 907 = .ok (.bipush 13, 2) := by decide +kernel
theorem dL_law_909 : decode cL_law 909 = .ok (.if_icmp .ge 21, 3) := by decide +kernel
theorem dL_law_912 : decode cL_law 912 = .ok (.aload 23, 2) := by decide +kernel
theorem dL_law_914 : decode cL_law 914 = .ok (.iload 24, 2) := by decide +kernel
theorem dL_law_916 : decode cL_law 916 = .ok (.aload_n 3, 1) := by decide +kernel
theorem dL_law_917 : decode cL_law 917 = .ok (.iconst 1, 1) := by decide +kernel
theorem dL_law_918 : decode cL_law 918 = .ok (.iload 24, 2) := by decide +kernel
theorem dL_law_920 : decode cL_law 920 = .ok (.invokevirtual 234, 3) := by decide +kernel
theorem dL_law_923 : decode cL_law 923 = .ok (.iastore, 1) := by decide +kernel
theorem dL_law_924 : decode cL_law 924 = .ok (.iinc 24 1, 3) := by decide +kernel
theorem dL_law_927 : decode cL_law 927 = .ok (.goto (-22), 3) := by decide +kernel
theorem dL_law_930 : decode cL_law 930 = .ok (.iload 8, 2) := by decide +kernel
theorem dL_law_932 : decode cL_law 932 = .ok (.iconst 3, 1) := by decide +kernel
theorem dL_law_933 : decode cL_law 933 = .ok (.ishr, 1) := by decide +kernel
theorem dL_law_934 : decode cL_law 934 = .ok (.iload 6, 2) := by decide +kernel
theorem dL_law_936 : decode cL_law 936 = .ok (.invokestatic 102, 3) := by decide +kernel
theorem dL_law_939 : decode cL_law 939 = .ok (.istore 24, 2) := by decide +kernel
theorem dL_law_941 : decode cL_law 941 = .ok (.aload_n 3, 1) := by decide +kernel
theorem dL_law_942 : decode cL_law 942 = .ok (.iload 24, 2) := by decide +kernel
theorem dL_law_944 : decode cL_law 944 = .ok (.invokevirtual 237, 3) := by decide +kernel
theorem dL_law_947 : decode cL_law 947 = .ok (.istore 25, 2) := by decide +kernel
theorem dL_law_949 : decode cL_law 949 = .ok (.iload 7, 2) := by decide +kernel
theorem dL_law_951 : decode cL_law 951 = .ok (.bipush 16, 2) := by decide +kernel
theorem dL_law_953 : decode cL_law 953 = .ok (.irem, 1) := by decide +kernel
theorem dL_law_954 : decode cL_law 954 = .ok (.ifCond .ne 21, 3) := by decide +kernel
theorem dL_law_957 : decode cL_law 957 = .ok (.aload_n 3, 1) := by decide +kernel
theorem dL_law_958 : decode cL_law 958 = .ok (.iconst 1, 1) := by decide +kernel
theorem dL_law_959 : decode cL_law 959 = .ok (.iload 8, 2) := by decide +kernel
theorem dL_law_961 : decode cL_law 961 = .ok (.iconst 4, 1) := by decide +kernel
theorem dL_law_962 : decode cL_law 962 = .ok (.ishr, 1) := by decide +kernel
theorem dL_law_963 : decode cL_law 963 = .ok (.bipush 60, 2) := by decide +kernel
theorem dL_law_965 : decode cL_law 965 = .ok (.invokestatic 102, 3) := by decide +kernel
theorem dL_law_968 : decode cL_law 968 = .ok (.iadd, 1) := by decide +kernel
theorem dL_law_969 : decode cL_law 969 = .ok (.invokevirtual 240, 3) := by decide +kernel
theorem dL_law_972 : decode cL_law 972 = .ok (.goto 4, 3) := by decide +kernel
theorem dL_law_975 : decode cL_law 975 = .ok (.iconst 0, 1) := by decide +kernel
theorem dL_law_976 : decode cL_law 976 = .ok (.istore 26, 2) := by decide +kernel
theorem dL_law_978 : decode cL_law 978 = .ok (.iload 7, 2) := by decide +kernel
theorem dL_law_980 : decode cL_law 980 = .ok (.bipush 16, 2) := by decide +kernel
theorem dL_law_982 : decode cL_law 982 = .ok (.irem, 1) := by decide +kernel
theorem dL_law_983 : decode cL_law 983 = .ok (.iconst 5, 1) := by decide +kernel
theorem dL_law_984 : decode cL_law 984 = .ok (.if_icmp .ne 21, 3) := by decide +kernel
theorem dL_law_987 : decode cL_law 987 = .ok (.aload_n 3, 1) := by decide +kernel
theorem dL_law_988 : decode cL_law 988 = .ok (.iconst 1, 1) := by decide +kernel
theorem dL_law_989 : decode cL_law 989 = .ok (.iload 8, 2) := by decide +kernel
theorem dL_law_991 : decode cL_law 991 = .ok (.iconst 4, 1) := by decide +kernel
theorem dL_law_992 : decode cL_law 992 = .ok (.ishr, 1) := by decide +kernel
theorem dL_law_993 : decode cL_law 993 = .ok (.bipush 60, 2) := by decide +kernel
theorem dL_law_995 : decode cL_law 995 = .ok (.invokestatic 102, 3) := by decide +kernel
theorem dL_law_998 : decode cL_law 998 = .ok (.iadd, 1) := by decide +kernel
theorem dL_law_999 : decode cL_law 999 = .ok (.invokevirtual 243, 3) := by decide +kernel
theorem dL_law_1002 : decode cL_law 1002 = .ok (.goto 4, 3) := by decide +kernel
theorem dL_law_1005 : decode cL_law 1005 = .ok (.iconst 0, 1) := by decide +kernel
theorem dL_law_1006 : decode cL_law 1006 = .ok (.istore 27, 2) := by decide +kernel
theorem dL_law_1008 : decode cL_law 1008 = .ok (.aload_n 3, 1) := by decide +kernel
theorem dL_law_1009 : decode cL_law 1009 = .ok (.invokevirtual 230, 3) := by decide +kernel
theorem dL_law_1012 : decode cL_law 1012 = .ok (.lload 21, 2) := by decide +kernel
theorem dL_law_1014 : decode cL_law 1014 = .ok (.lcmp, 1) := by decide +kernel
theorem dL_law_1015 : decode cL_law 1015 = .ok (.ifCond .ne 55, 3) := by decide +kernel
theorem dL_law_1018 : decode cL_law 1018 = .ok (.iload 26, 2) := by decide +kernel
theorem dL_law_1020 : decode cL_law 1020 = .ok (.ifCond .lt 50, 3) := by decide +kernel
theorem dL_law_1023 : decode cL_law 1023 = .ok (.iload 26, 2) := by decide +kernel
theorem dL_law_1025 : decode cL_law 1025 = .ok (.iconst 1, 1) := by decide +kernel
theorem dL_law_1026 : decode cL_law 1026 = .ok (.if_icmp .gt 44, 3) := by decide +kernel
theorem dL_law_1029 : decode cL_law 1029 = .ok (.iload 27, 2) := by decide +kernel
theorem dL_law_1031 : decode cL_law 1031 = .ok (.ifCond .lt 39, 3) := by decide +kernel
theorem dL_law_1034 : decode cL_law 1034 = .ok (.iload 27, 2) := by decide +kernel
theorem dL_law_1036 : decode cL_law 1036 = .ok (.iload 5, 2) := by decide +kernel
theorem dL_law_1038 : decode cL_law 1038 = .ok (.if_icmp .ge 32, 3) := by decide +kernel
theorem dL_law_1041 : decode cL_law 1041 = .ok (.iload 25, 2) := by decide +kernel
theorem dL_law_1043 : decode cL_law 1043 = .ok (.ifCond .ne 7, 3) := by decide +kernel
theorem dL_law_1046 : decode cL_law 1046 = .ok (.iconst 1, 1) := by decide +kernel
theorem dL_law_1047 : decode cL_law 1047 = .ok (.goto 4, 3) := by decide +kernel
theorem dL_law_1050 : decode cL_law 1050 = .ok (.iconst 0, 1) := by decide +kernel
theorem dL_law_1051 : decode cL_law 1051 = .ok (.aload 9, 2) := by decide +kernel
theorem dL_law_1053 : decode cL_law 1053 = .ok (.iload 24, 2) := by decide +kernel
theorem dL_law_1055 : decode cL_law 1055 = .ok (.aaload, 1) := by decide +kernel
theorem dL_law_1056 : decode cL_law 1056 = .ok (.iconst 3, 1) := by decide +kernel
theorem dL_law_1057 : decode cL_law 1057 = .ok (.iaload, 1) := by decide +kernel
theorem dL_law_1058 : decode cL_law 1058 = .ok (.iconst 2, 1) := by decide +kernel
theorem dL_law_1059 : decode cL_law 1059 = .ok (.if_icmp .ne 7, 3) := by decide +kernel
theorem dL_law_1062 : decode cL_law 1062 = .ok (.iconst 1, 1) := by decide +kernel
theorem dL_law_1063 : decode cL_law 1063 = .ok (.goto 4, 3) := by decide +kernel
theorem dL_law_1066 : decode cL_law 1066 = .ok (.iconst 0, 1) := by decide +kernel
theorem dL_law_1067 : decode cL_law 1067 = .ok (.if_icmp .eq 5, 3) := by decide +kernel
theorem dL_law_1070 : decode cL_law 1070 = .ok (.iconst 0, 1) := by decide +kernel
theorem dL_law_1071 : decode cL_law 1071 = .ok (.ireturn, 1) := by decide +kernel
theorem dL_law_1072 : decode cL_law 1072 = .ok (.aload_n 3, 1) := by decide +kernel
theorem dL_law_1073 : decode cL_law 1073 = .ok (.iconst 1, 1) := by decide +kernel
theorem dL_law_1074 : decode cL_law 1074 = .ok (.invokevirtual 246, 3) := by decide +kernel
theorem dL_law_1077 : decode cL_law 1077 = .ok (.istore 28, 2) := by decide +kernel
theorem dL_law_1079 : decode cL_law 1079 = .ok (.aload_n 2, 1) := by decide +kernel
theorem dL_law_1080 : decode cL_law 1080 = .ok (.invokevirtual 249, 3) := by decide +kernel
theorem dL_law_1083 : decode cL_law 1083 = .ok (.bipush 8, 2) := by decide +kernel
theorem dL_law_1085 : decode cL_law 1085 = .ok (.istore 29, 2) := by decide +kernel
theorem dL_law_1087 : decode cL_law 1087 = .ok (.iload 29, 2) := by decide +kernel
theorem dL_law_1089 : decode cL_law 1089 = .ok (.bipush 13, 2) := by decide +kernel
theorem dL_law_1091 : decode cL_law 1091 = .ok (.if_icmp .ge 25, 3) := by decide +kernel
theorem dL_law_1094 : decode cL_law 1094 = .ok (.aload_n 3, 1) := by decide +kernel
theorem dL_law_1095 : decode cL_law 1095 = .ok (.iload 29, 2) := by decide +kernel
theorem dL_law_1097 : decode cL_law 1097 = .ok (.invokevirtual 200, 3) := by decide +kernel
theorem dL_law_1100 : decode cL_law 1100 = .ok (.aload 23, 2) := by decide +kernel
theorem dL_law_1102 : decode cL_law 1102 = .ok (.iload 29, 2) := by decide +kernel
theorem dL_law_1104 : decode cL_law 1104 = .ok (.iaload, 1) := by decide +kernel
theorem dL_law_1105 : decode cL_law 1105 = .ok (.if_icmp .eq 5, 3) := by decide +kernel
theorem dL_law_1108 : decode cL_law 1108 = .ok (.iconst 0, 1) := by decide +kernel
theorem dL_law_1109 : decode cL_law 1109 = .ok (.ireturn, 1) := by decide +kernel
theorem dL_law_1110 : decode cL_law 1110 = .ok (.iinc 29 1, 3) := by decide +kernel
theorem dL_law_1113 : decode cL_law 1113 = .ok (.goto (-26), 3) := by decide +kernel
theorem dL_law_1116 : decode cL_law 1116 = .ok (.aload_n 3, 1) := by decide +kernel
theorem dL_law_1117 : decode cL_law 1117 = .ok (.bipush 10, 2) := by decide +kernel
theorem dL_law_1119 : decode cL_law 1119 = .ok (.invokevirtual 200, 3) := by decide +kernel
theorem dL_law_1122 : decode cL_law 1122 = .ok (.iload 20, 2) := by decide +kernel
theorem dL_law_1124 : decode cL_law 1124 = .ok (.iload 28, 2) := by decide +kernel
theorem dL_law_1126 : decode cL_law 1126 = .ok (.iadd, 1) := by decide +kernel
theorem dL_law_1127 : decode cL_law 1127 = .ok (.if_icmp .ne 33, 3) := by decide +kernel
theorem dL_law_1130 : decode cL_law 1130 = .ok (.iload 25, 2) := by decide +kernel
theorem dL_law_1132 : decode cL_law 1132 = .ok (.ifCond .le 16, 3) := by decide +kernel
theorem dL_law_1135 : decode cL_law 1135 = .ok (.aload_n 3, 1) := by decide +kernel
theorem dL_law_1136 : decode cL_law 1136 = .ok (.iload 24, 2) := by decide +kernel
theorem dL_law_1138 : decode cL_law 1138 = .ok (.invokevirtual 237, 3) := by decide +kernel
theorem dL_law_1141 : decode cL_law 1141 = .ok (.iload 25, 2) := by decide +kernel
theorem dL_law_1143 : decode cL_law 1143 = .ok (.iconst 1, 1) := by decide +kernel
theorem dL_law_1144 : decode cL_law 1144 = .ok (.isub, 1) := by decide +kernel
theorem dL_law_1145 : decode cL_law 1145 = .ok (.if_icmp .ne 15, 3) := by decide +kernel
theorem dL_law_1148 : decode cL_law 1148 = .ok (.aload_n 2, 1) := by decide +kernel
theorem dL_law_1149 : decode cL_law 1149 = .ok (.getfield 170, 3) := by decide +kernel
theorem dL_law_1152 : decode cL_law 1152 = .ok (.aload_n 3, 1) := by decide +kernel
theorem dL_law_1153 : decode cL_law 1153 = .ok (.iconst 1, 1) := by decide +kernel
theorem dL_law_1154 : decode cL_law 1154 = .ok (.invokevirtual 200, 3) := by decide +kernel
theorem dL_law_1157 : decode cL_law 1157 = .ok (.if_icmp .eq 5, 3) := by decide +kernel
theorem dL_law_1160 : decode cL_law 1160 = .ok (.iconst 0, 1) := by decide +kernel
theorem dL_law_1161 : decode cL_law 1161 = .ok (.ireturn, 1) := by decide +kernel
theorem dL_law_1162 : decode cL_law 1162 = .ok (.iconst 0, 1) := by decide +kernel
theorem dL_law_1163 : decode cL_law 1163 = .ok (.istore 29, 2) := by decide +kernel
theorem dL_law_1165 : decode cL_law 1165 = .ok (.iconst 0, 1) := by decide +kernel
theorem dL_law_1166 : decode cL_law 1166 = .ok (.istore 30, 2) := by decide +kernel
theorem dL_law_1168 : decode cL_law 1168 = .ok (.iload 30, 2) := by decide +kernel
theorem dL_law_1170 : decode cL_law 1170 = .ok (.iload 6, 2) := by decide +kernel
theorem dL_law_1172 : decode cL_law 1172 = .ok (.if_icmp .ge 309, 3) := by decide +kernel
theorem dL_law_1175 : decode cL_law 1175 = .ok (.aload 9, 2) := by decide +kernel
theorem dL_law_1177 : decode cL_law 1177 = .ok (.iload 30, 2) := by decide +kernel
theorem dL_law_1179 : decode cL_law 1179 = .ok (.aaload, 1) := by decide +kernel
theorem dL_law_1180 : decode cL_law 1180 = .ok (.astore 31, 2) := by decide +kernel
theorem dL_law_1182 : decode cL_law 1182 = .ok (.aload_n 3, 1) := by decide +kernel
theorem dL_law_1183 : decode cL_law 1183 = .ok (.iload 30, 2) := by decide +kernel
theorem dL_law_1185 : decode cL_law 1185 = .ok (.iconst 3, 1) := by decide +kernel
theorem dL_law_1186 : decode cL_law 1186 = .ok (.invokevirtual 208, 3) := by decide +kernel
theorem dL_law_1189 : decode cL_law 1189 = .ok (.istore 32, 2) := by decide +kernel
theorem dL_law_1191 : decode cL_law 1191 = .ok (.aload_n 3, 1) := by decide +kernel
theorem dL_law_1192 : decode cL_law 1192 = .ok (.iload 30, 2) := by decide +kernel
theorem dL_law_1194 : decode cL_law 1194 = .ok (.iconst 0, 1) := by decide +kernel
theorem dL_law_1195 : decode cL_law 1195 = .ok (.invokevirtual 208, 3) := by decide +kernel
theorem dL_law_1198 : decode cL_law 1198 = .ok (.aload 31, 2) := by decide +kernel
theorem dL_law_1200 : decode cL_law 1200 = .ok (.iconst 0, 1) := by decide +kernel
theorem dL_law_1201 : decode cL_law 1201 = .ok (.iaload, 1) := by decide +kernel
theorem dL_law_1202 : decode cL_law 1202 = .ok (.if_icmp .ne 64, 3) := by decide +kernel
theorem dL_law_1205 : decode cL_law 1205 = .ok (.aload_n 3, 1) := by decide +kernel
theorem dL_law_1206 : decode cL_law 1206 = .ok (.iload 30, 2) := by decide +kernel
theorem dL_law_1208 : decode cL_law 1208 = .ok (.iconst 1, 1) := by decide +kernel
theorem dL_law_1209 : decode cL_law 1209 = .ok (.invokevirtual 208, 3) := by decide +kernel
theorem dL_law_1212 : decode cL_law 1212 = .ok (.aload 31, 2) := by decide +kernel
theorem dL_law_1214 : decode cL_law 1214 = .ok (.iconst 1, 1) := by decide +kernel
theorem dL_law_1215 : decode cL_law 1215 = .ok (.iaload, 1) := by decide +kernel
theorem dL_law_1216 : decode cL_law 1216 = .ok (.if_icmp .ne 50, 3) := by decide +kernel
theorem dL_law_1219 : decode cL_law 1219 = .ok (.aload_n 3, 1) := by decide +kernel
theorem dL_law_1220 : decode cL_law 1220 = .ok (.iload 30, 2) := by decide +kernel
theorem dL_law_1222 : decode cL_law 1222 = .ok (.iconst 2, 1) := by decide +kernel
theorem dL_law_1223 : decode cL_law 1223 = .ok (.invokevirtual 208, 3) := by decide +kernel
theorem dL_law_1226 : decode cL_law 1226 = .ok (.aload 31, 2) := by decide +kernel
theorem dL_law_1228 : decode cL_law 1228 = .ok (.iconst 2, 1) := by decide +kernel
theorem dL_law_1229 : decode cL_law 1229 = .ok (.iaload, 1) := by decide +kernel
theorem dL_law_1230 : decode cL_law 1230 = .ok (.if_icmp .ne 36, 3) := by decide +kernel
theorem dL_law_1233 : decode cL_law 1233 = .ok (.iload 32, 2) := by decide +kernel
theorem dL_law_1235 : decode cL_law 1235 = .ok (.aload 31, 2) := by decide +kernel
theorem dL_law_1237 : decode cL_law 1237 = .ok (.iconst 3, 1) := by decide +kernel
theorem dL_law_1238 : decode cL_law 1238 = .ok (.iaload, 1) := by decide +kernel
theorem dL_law_1239 : decode cL_law 1239 = .ok (.if_icmp .lt 27, 3) := by decide +kernel
theorem dL_law_1242 : decode cL_law 1242 = .ok (.aload 31, 2) := by decide +kernel
theorem dL_law_1244 : decode cL_law 1244 = .ok (.iconst 3, 1) := by decide +kernel
theorem dL_law_1245 : decode cL_law 1245 = .ok (.iaload, 1) := by decide +kernel
theorem dL_law_1246 : decode cL_law 1246 = .ok (.iconst 2, 1) := by decide +kernel
theorem dL_law_1247 : decode cL_law 1247 = .ok (.if_icmp .ne 21, 3) := by decide +kernel
theorem dL_law_1250 : decode cL_law 1250 = .ok (.aload_n 3, 1) := by decide +kernel
theorem dL_law_1251 : decode cL_law 1251 = .ok (.iload 30, 2) := by decide +kernel
theorem dL_law_1253 : decode cL_law 1253 = .ok (.bipush 6, 2) := by decide +kernel
theorem dL_law_1255 : decode cL_law 1255 = .ok (.invokevirtual 208, 3) := by decide +kernel
theorem dL_law_1258 : decode cL_law 1258 = .ok (.aload 31, 2) := by decide +kernel
theorem dL_law_1260 : decode cL_law 1260 = .ok (.bipush 6, 2) := by decide +kernel
theorem dL_law_1262 : decode cL_law 1262 = .ok (.iaload, 1) := by decide +kernel
theorem dL_law_1263 : decode cL_law 1263 = .ok (.if_icmp .eq 5, 3) := by decide +kernel
theorem dL_law_1266 : decode cL_law 1266 = .ok (.iconst 0, 1) := by decide +kernel
theorem dL_law_1267 : decode cL_law 1267 = .ok (.ireturn, 1) := by decide +kernel
theorem dL_law_1268 : decode cL_law 1268 = .ok (.aload 31, 2) := by decide +kernel
theorem dL_law_1270 : decode cL_law 1270 = .ok (.iconst 3, 1) := by decide +kernel
theorem dL_law_1271 : decode cL_law 1271 = .ok (.iaload, 1) := by decide +kernel
theorem dL_law_1272 : decode cL_law 1272 = .ok (.ifCond .ne 12, 3) := by decide +kernel
theorem dL_law_1275 : decode cL_law 1275 = .ok (.iload 32, 2) := by decide +kernel
theorem dL_law_1277 : decode cL_law 1277 = .ok (.ifCond .le 7, 3) := by decide +kernel
theorem dL_law_1280 : decode cL_law 1280 = .ok (.iconst 1, 1) := by decide +kernel
theorem dL_law_1281 : decode cL_law 1281 = .ok (.goto 4, 3) := by decide +kernel
theorem dL_law_1284 : decode cL_law 1284 = .ok (.iconst 0, 1) := by decide +kernel
theorem dL_law_1285 : decode cL_law 1285 = .ok (.istore 33, 2) := by decide +kernel
theorem dL_law_1287 : decode cL_law 1287 = .ok (.iload 29, 2) := by decide +kernel
theorem dL_law_1289 : decode cL_law 1289 = .ok (.iload 33, 2) := by decide +kernel
theorem dL_law_1291 : decode cL_law 1291 = .ok (.ifCond .eq 7, 3) := by decide +kernel
theorem dL_law_1294 : decode cL_law 1294 = .ok (.iconst 1, 1) := by decide +kernel
theorem dL_law_1295 : decode cL_law 1295 = .ok (.goto 4, 3) := by decide +kernel
theorem dL_law_1298 : decode cL_law 1298 = .ok (.iconst 0, 1) := by decide +kernel
theorem dL_law_1299 : decode cL_law 1299 = .ok (.iadd, 1) := by decide +kernel
theorem dL_law_1300 : decode cL_law 1300 = .ok (.istore 29, 2) := by decide +kernel
theorem dL_law_1302 : decode cL_law 1302 = .ok (.iload 33, 2) := by decide +kernel
theorem dL_law_1304 : decode cL_law 1304 = .ok (.ifCond .eq 29, 3) := by decide +kernel
theorem dL_law_1307 : decode cL_law 1307 = .ok (.aload 31, 2) := by decide +kernel
theorem dL_law_1309 : decode cL_law 1309 = .ok (.iconst 2, 1) := by decide +kernel
theorem dL_law_1310 : decode cL_law 1310 = .ok (.iaload, 1) := by decide +kernel
theorem dL_law_1311 : decode cL_law 1311 = .ok (.aload_n 3, 1) := by decide +kernel
theorem dL_law_1312 : decode cL_law 1312 = .ok (.iconst 0, 1) := by decide +kernel
theorem dL_law_1313 : decode cL_law 1313 = .ok (.invokevirtual 200, 3) := by decide +kernel
theorem dL_law_1316 : decode cL_law 1316 = .ok (.if_icmp .ge 15, 3) := by decide +kernel
theorem dL_law_1319 : decode cL_law 1319 = .ok (.aload 31, 2) := by decide +kernel
theorem dL_law_1321 : decode cL_law 1321 = .ok (.iconst 1, 1) := by decide +kernel
theorem dL_law_1322 : decode cL_law 1322 = .ok (.iaload, 1) := by decide +kernel
theorem dL_law_1323 : decode cL_law 1323 = .ok (.aload_n 3, 1) := by decide +kernel
theorem dL_law_1324 : decode cL_law 1324 = .ok (.iconst 1, 1) := by decide +kernel
theorem dL_law_1325 : decode cL_law 1325 = .ok (.invokevirtual 200, 3) := by decide +kernel
theorem dL_law_1328 : decode cL_law 1328 = .ok (.if_icmp .eq 5, 3) := by decide +kernel
theorem dL_law_1331 : decode cL_law 1331 = .ok (.iconst 0, 1) := by decide +kernel
theorem dL_law_1332 : decode cL_law 1332 = .ok (.ireturn, 1) := by decide +kernel
theorem dL_law_1333 : decode cL_law 1333 = .ok (.aload 31, 2) := by decide +kernel
theorem dL_law_1335 : decode cL_law 1335 = .ok (.iconst 3, 1) := by decide +kernel
theorem dL_law_1336 : decode cL_law 1336 = .ok (.iaload, 1) := by decide +kernel
theorem dL_law_1337 : decode cL_law 1337 = .ok (.iconst 1, 1) := by decide +kernel
theorem dL_law_1338 : decode cL_law 1338 = .ok (.if_icmp .ne 10, 3) := by decide +kernel
theorem dL_law_1341 : decode cL_law 1341 = .ok (.aload 31, 2) := by decide +kernel
theorem dL_law_1343 : decode cL_law 1343 = .ok (.iconst 4, 1) := by decide +kernel
theorem dL_law_1344 : decode cL_law 1344 = .ok (.iaload, 1) := by decide +kernel
theorem dL_law_1345 : decode cL_law 1345 = .ok (.goto 18, 3) := by decide +kernel
theorem dL_law_1348 : decode cL_law 1348 = .ok (.aload 31, 2) := by decide +kernel
theorem dL_law_1350 : decode cL_law 1350 = .ok (.iconst 1, 1) := by decide +kernel
theorem dL_law_1351 : decode cL_law 1351 = .ok (.iaload, 1) := by decide +kernel
theorem dL_law_1352 : decode cL_law 1352 = .ok (.ifCond .ne 7, 3) := by decide +kernel
theorem dL_law_1355 : decode cL_law 1355 = .ok (.iconst 0, 1) := by decide +kernel
theorem dL_law_1356 : decode cL_law 1356 = .ok (.goto 7, 3) := by decide +kernel
theorem dL_law_1359 : decode cL_law 1359 = .ok (.iload 4, 2) := by decide +kernel
theorem dL_law_1361 : decode cL_law 1361 = .ok (.iconst 1, 1) := by decide +kernel
theorem dL_law_1362 : decode cL_law 1362 = .ok (.isub, 1) := by decide +kernel
theorem dL_law_1363 : decode cL_law 1363 = .ok (.istore 34, 2) := by decide +kernel
theorem dL_law_1365 : decode cL_law 1365 = .ok (.iload 32, 2) := by decide +kernel
theorem dL_law_1367 : decode cL_law 1367 = .ok (.iconst 1, 1) := by decide +kernel
theorem dL_law_1368 : decode cL_law 1368 = .ok (.if_icmp .ne 39, 3) := by decide +kernel
theorem dL_law_1371 : decode cL_law 1371 = .ok (.aload 31, 2) := by decide +kernel
theorem dL_law_1373 : decode cL_law 1373 = .ok (.iconst 1, 1) := by decide +kernel
theorem dL_law_1374 : decode cL_law 1374 = .ok (.iaload, 1) := by decide +kernel
theorem dL_law_1375 : decode cL_law 1375 = .ok (.ifCond .ne 18, 3) := by decide +kernel
theorem dL_law_1378 : decode cL_law 1378 = .ok (.aload_n 3, 1) := by decide +kernel
theorem dL_law_1379 : decode cL_law 1379 = .ok (.iload 30, 2) := by decide +kernel
theorem dL_law_1381 : decode cL_law 1381 = .ok (.iconst 4, 1) := by decide +kernel
theorem dL_law_1382 : decode cL_law 1382 = .ok (.invokevirtual 208, 3) := by decide +kernel
theorem dL_law_1385 : decode cL_law 1385 = .ok (.iload 34, 2) := by decide +kernel
theorem dL_law_1387 : decode cL_law 1387 = .ok (.if_icmp .ge 20, 3) := by decide +kernel
theorem dL_law_1390 : decode cL_law 1390 = .ok (.goto 15, 3) := by decide +kernel
theorem dL_law_1393 : decode cL_law 1393 = .ok (.aload_n 3, 1) := by decide +kernel
theorem dL_law_1394 : decode cL_law 1394 = .ok (.iload 30, 2) := by decide +kernel
theorem dL_law_1396 : decode cL_law 1396 = .ok (.iconst 4, 1) := by decide +kernel
theorem dL_law_1397 : decode cL_law 1397 = .ok (.invokevirtual 208, 3) := by decide +kernel
theorem dL_law_1400 : decode cL_law 1400 = .ok (.iload 34, 2) := by decide +kernel
theorem dL_law_1402 : decode cL_law 1402 = .ok (.if_icmp .le 5, 3) := by decide +kernel
theorem dL_law_1405 : decode cL_law 1405 = .ok (.iconst 0, 1) := by decide +kernel
theorem dL_law_1406 : decode cL_law 1406 = .ok (.ireturn, 1) := by decide +kernel
theorem dL_law_1407 : decode cL_law 1407 = .ok (.iload 32, 2) := by decide +kernel
theorem dL_law_1409 : decode cL_law 1409 = .ok (.iconst 2, 1) := by decide +kernel
theorem dL_law_1410 : decode cL_law 1410 = .ok (.if_icmp .ne 65, 3) := by decide +kernel
theorem dL_law_1413 : decode cL_law 1413 = .ok (.aload 31, 2) := by decide +kernel
theorem dL_law_1415 : decode cL_law 1415 = .ok (.iconst 3, 1) := by decide +kernel
theorem dL_law_1416 : decode cL_law 1416 = .ok (.iaload, 1) := by decide +kernel
theorem dL_law_1417 : decode cL_law 1417 = .ok (.iconst 2, 1) := by decide +kernel
theorem dL_law_1418 : decode cL_law 1418 = .ok (.if_icmp .ge 57, 3) := by decide +kernel
theorem dL_law_1421 : decode cL_law 1421 = .ok (.aload_n 3, 1) := by decide +kernel
theorem dL_law_1422 : decode cL_law 1422 = .ok (.iload 30, 2) := by decide +kernel
theorem dL_law_1424 : decode cL_law 1424 = .ok (.bipush 6, 2) := by decide +kernel
theorem dL_law_1426 : decode cL_law 1426 = .ok (.invokevirtual 208, 3) := by decide +kernel
theorem dL_law_1429 : decode cL_law 1429 = .ok (.aload_n 3, 1) := by decide +kernel
theorem dL_law_1430 : decode cL_law 1430 = .ok (.iconst 0, 1) := by decide +kernel
theorem dL_law_1431 : decode cL_law 1431 = .ok (.invokevirtual 200, 3) := by decide +kernel
theorem dL_law_1434 : decode cL_law 1434 = .ok (.iconst 1, 1) := by decide +kernel
theorem dL_law_1435 : decode cL_law 1435 = .ok (.isub, 1) := by decide +kernel
theorem dL_law_1436 : decode cL_law 1436 = .ok (.if_icmp .ne 37, 3) := by decide +kernel
theorem dL_law_1439 : decode cL_law 1439 = .ok (.aload_n 3, 1) := by decide +kernel
theorem dL_law_1440 : decode cL_law 1440 = .ok (.aload_n 3, 1) := by decide +kernel
theorem dL_law_1441 : decode cL_law 1441 = .ok (.iload 30, 2) := by decide +kernel
theorem dL_law_1443 : decode cL_law 1443 = .ok (.iconst 0, 1) := by decide +kernel
theorem dL_law_1444 : decode cL_law 1444 = .ok (.invokevirtual 215, 3) := by decide +kernel
theorem dL_law_1447 : decode cL_law 1447 = .ok (.iconst 5, 1) := by decide +kernel
theorem dL_law_1448 : decode cL_law 1448 = .ok (.invokevirtual 221, 3) := by decide +kernel
theorem dL_law_1451 : decode cL_law 1451 = .ok (.bipush 9, 2) := by decide +kernel
theorem dL_law_1453 : decode cL_law 1453 = .ok (.if_icmp .ne 20, 3) := by decide +kernel
theorem dL_law_1456 : decode cL_law 1456 = .ok (.aload_n 3, 1) := by decide +kernel
theorem dL_law_1457 : decode cL_law 1457 = .ok (.aload_n 3, 1) := by decide +kernel
theorem dL_law_1458 : decode cL_law 1458 = .ok (.iload 30, 2) := by decide +kernel
theorem dL_law_1460 : decode cL_law 1460 = .ok (.iconst 1, 1) := by decide +kernel
theorem dL_law_1461 : decode cL_law 1461 = .ok (.invokevirtual 215, 3) := by decide +kernel
theorem dL_law_1464 : decode cL_law 1464 = .ok (.iconst 5, 1) := by decide +kernel
theorem dL_law_1465 : decode cL_law 1465 = .ok (.invokevirtual 221, 3) := by decide +kernel
theorem dL_law_1468 : decode cL_law 1468 = .ok (.bipush 9, 2) := by decide +kernel
theorem dL_law_1470 : decode cL_law 1470 = .ok (.if_icmp .eq 5, 3) := by decide +kernel
theorem dL_law_1473 : decode cL_law 1473 = .ok (.iconst 0, 1) := by decide +kernel
theorem dL_law_1474 : decode cL_law 1474 = .ok (.ireturn, 1) := by decide +kernel
theorem dL_law_1475 : decode cL_law 1475 = .ok (.iinc 30 1, 3) := by decide +kernel
theorem dL_law_1478 : decode cL_law 1478 = .ok (.goto (-310), 3) := by decide +kernel
theorem dL_law_1481 : decode cL_law 1481 = .ok (.iload 29, 2) := by decide +kernel
theorem dL_law_1483 : decode cL_law 1483 = .ok (.iconst 1, 1) := by decide +kernel
theorem dL_law_1484 : decode cL_law 1484 = .ok (.if_icmp .le 5, 3) := by decide +kernel
theorem dL_law_1487 : decode cL_law 1487 = .ok (.iconst 0, 1) := by decide +kernel
theorem dL_law_1488 : decode cL_law 1488 = .ok (.ireturn, 1) := by decide +kernel
theorem dL_law_1489 : decode cL_law 1489 = .ok (.iconst 0, 1) := by decide +kernel
theorem dL_law_1490 : decode cL_law 1490 = .ok (.istore 30, 2) := by decide +kernel
theorem dL_law_1492 : decode cL_law 1492 = .ok (.iload 30, 2) := by decide +kernel
theorem dL_law_1494 : decode cL_law 1494 = .ok (.iload 6, 2) := by decide +kernel
theorem dL_law_1496 : decode cL_law 1496 = .ok (.if_icmp .ge 43, 3) := by decide +kernel
theorem dL_law_1499 : decode cL_law 1499 = .ok (.aload 12, 2) := by decide +kernel
theorem dL_law_1501 : decode cL_law 1501 = .ok (.iload 30, 2) := by decide +kernel
theorem dL_law_1503 : decode cL_law 1503 = .ok (.baload, 1) := by decide +kernel
theorem dL_law_1504 : decode cL_law 1504 = .ok (.ifCond .eq 29, 3) := by decide +kernel
theorem dL_law_1507 : decode cL_law 1507 = .ok (.iload 19, 2) := by decide +kernel
theorem dL_law_1509 : decode cL_law 1509 = .ok (.aload_n 3, 1) := by decide +kernel
theorem dL_law_1510 : decode cL_law 1510 = .ok (.iconst 1, 1) := by decide +kernel
theorem dL_law_1511 : decode cL_law 1511 = .ok (.invokevirtual 200, 3) := by decide +kernel
theorem dL_law_1514 : decode cL_law 1514 = .ok (.if_icmp .ne 19, 3) := by decide +kernel
theorem dL_law_1517 : decode cL_law 1517 = .ok (.iload 29, 2) := by decide +kernel
theorem dL_law_1519 : decode cL_law 1519 = .ok (.ifCond .ne 14, 3) := by decide +kernel
theorem dL_law_1522 : decode cL_law 1522 = .ok (.aload_n 3, 1) := by decide +kernel
theorem dL_law_1523 : decode cL_law 1523 = .ok (.bipush 7, 2) := by decide +kernel
theorem dL_law_1525 : decode cL_law 1525 = .ok (.invokevirtual 200, 3) := by decide +kernel
theorem dL_law_1528 : decode cL_law 1528 = .ok (.ifCond .ne 5, 3) := by decide +kernel
theorem dL_law_1531 : decode cL_law 1531 = .ok (.iconst 0, 1) := by decide +kernel
theorem dL_law_1532 : decode cL_law 1532 = .ok (.ireturn, 1) := by decide +kernel
theorem dL_law_1533 : decode cL_law 1533 = .ok (.iinc 30 1, 3) := by decide +kernel
theorem dL_law_1536 : decode cL_law 1536 = .ok (.goto (-44), 3) := by decide +kernel
theorem dL_law_1539 : decode cL_law 1539 = .ok (.iconst 0, 1) := by decide +kernel
theorem dL_law_1540 : decode cL_law 1540 = .ok (.istore 30, 2) := by decide +kernel
theorem dL_law_1542 : decode cL_law 1542 = .ok (.iload 30, 2) := by decide +kernel
theorem dL_law_1544 : decode cL_law 1544 = .ok (.iload 5, 2) := by decide +kernel
theorem dL_law_1546 : decode cL_law 1546 = .ok (.if_icmp .ge 107, 3) := by decide +kernel
theorem dL_law_1549 : decode cL_law 1549 = .ok (.aload 10, 2) := by decide +kernel
theorem dL_law_1551 : decode cL_law 1551 = .ok (.iload 30, 2) := by decide +kernel
theorem dL_law_1553 : decode cL_law 1553 = .ok (.aaload, 1) := by decide +kernel
theorem dL_law_1554 : decode cL_law 1554 = .ok (.astore 31, 2) := by decide +kernel
theorem dL_law_1556 : decode cL_law 1556 = .ok (.aload_n 3, 1) := by decide +kernel
theorem dL_law_1557 : decode cL_law 1557 = .ok (.iload 30, 2) := by decide +kernel
theorem dL_law_1559 : decode cL_law 1559 = .ok (.iconst 2, 1) := by decide +kernel
theorem dL_law_1560 : decode cL_law 1560 = .ok (.invokevirtual 221, 3) := by decide +kernel
theorem dL_law_1563 : decode cL_law 1563 = .ok (.aload 31, 2) := by decide +kernel
theorem dL_law_1565 : decode cL_law 1565 = .ok (.iconst 2, 1) := by decide +kernel
theorem dL_law_1566 : decode cL_law 1566 = .ok (.iaload, 1) := by decide +kernel
theorem dL_law_1567 : decode cL_law 1567 = .ok (.isub, 1) := by decide +kernel
theorem dL_law_1568 : decode cL_law 1568 = .ok (.istore 32, 2) := by decide +kernel
theorem dL_law_1570 : decode cL_law 1570 = .ok (.iload 32, 2) := by decide +kernel
theorem dL_law_1572 : decode cL_law 1572 = .ok (.iconst 2, 1) := by decide +kernel
theorem dL_law_1573 : decode cL_law 1573 = .ok (.if_icmp .gt 72, 3) := by decide +kernel
theorem dL_law_1576 : decode cL_law 1576 = .ok (.iload 32, 2) := by decide +kernel
theorem dL_law_1578 : decode cL_law 1578 = .ok (.bipush (-5), 2) := by decide +kernel
theorem dL_law_1580 : decode cL_law 1580 = .ok (.if_icmp .lt 65, 3) := by decide +kernel
theorem dL_law_1583 : decode cL_law 1583 = .ok (.aload_n 3, 1) := by decide +kernel
theorem dL_law_1584 : decode cL_law 1584 = .ok (.iload 30, 2) := by decide +kernel
theorem dL_law_1586 : decode cL_law 1586 = .ok (.iconst 4, 1) := by decide +kernel
theorem dL_law_1587 : decode cL_law 1587 = .ok (.invokevirtual 221, 3) := by decide +kernel
theorem dL_law_1590 : decode cL_law 1590 = .ok (.ifCond .lt 9, 3) := by decide +kernel
theorem dL_law_1593 : decode cL_law 1593 = .ok (.iload 32, 2) := by decide +kernel
theorem dL_law_1595 : decode cL_law 1595 = .ok (.iconst 1, 1) := by decide +kernel
theorem dL_law_1596 : decode cL_law 1596 = .ok (.if_icmp .gt 49, 3) := by decide +kernel
theorem dL_law_1599 : decode cL_law 1599 = .ok (.aload_n 3, 1) := by decide +kernel
theorem dL_law_1600 : decode cL_law 1600 = .ok (.iload 30, 2) := by decide +kernel
theorem dL_law_1602 : decode cL_law 1602 = .ok (.iconst 0, 1) := by decide +kernel
theorem dL_law_1603 : decode cL_law 1603 = .ok (.invokevirtual 221, 3) := by decide +kernel
theorem dL_law_1606 : decode cL_law 1606 = .ok (.aload 31, 2) := by decide +kernel
theorem dL_law_1608 : decode cL_law 1608 = .ok (.iconst 0, 1) := by decide +kernel
theorem dL_law_1609 : decode cL_law 1609 = .ok (.iaload, 1) := by decide +kernel
theorem dL_law_1610 : decode cL_law 1610 = .ok (.if_icmp .ne 35, 3) := by decide +kernel
theorem dL_law_1613 : decode cL_law 1613 = .ok (.aload_n 3, 1) := by decide +kernel
theorem dL_law_1614 : decode cL_law 1614 = .ok (.iload 30, 2) := by decide +kernel
theorem dL_law_1616 : decode cL_law 1616 = .ok (.iconst 5, 1) := by decide +kernel
theorem dL_law_1617 : decode cL_law 1617 = .ok (.invokevirtual 221, 3) := by decide +kernel
theorem dL_law_1620 : decode cL_law 1620 = .ok (.bipush 9, 2) := by decide +kernel
theorem dL_law_1622 : decode cL_law 1622 = .ok (.if_icmp .eq 25, 3) := by decide +kernel
theorem dL_law_1625 : decode cL_law 1625 = .ok (.aload_n 3, 1) := by decide +kernel
theorem dL_law_1626 : decode cL_law 1626 = .ok (.iload 30, 2) := by decide +kernel
theorem dL_law_1628 : decode cL_law 1628 = .ok (.iconst 5, 1) := by decide +kernel
theorem dL_law_1629 : decode cL_law 1629 = .ok (.invokevirtual 221, 3) := by decide +kernel
theorem dL_law_1632 : decode cL_law 1632 = .ok (.iconst 0, 1) := by decide +kernel
theorem dL_law_1633 : decode cL_law 1633 = .ok (.aload 31, 2) := by decide +kernel
theorem dL_law_1635 : decode cL_law 1635 = .ok (.iconst 5, 1) := by decide +kernel
theorem dL_law_1636 : decode cL_law 1636 = .ok (.iaload, 1) := by decide +kernel
theorem dL_law_1637 : decode cL_law 1637 = .ok (.iconst 1, 1) := by decide +kernel
theorem dL_law_1638 : decode cL_law 1638 = .ok (.isub, 1) := by decide +kernel
theorem dL_law_1639 : decode cL_law 1639 = .ok (.invokestatic 251, 3) := by decide +kernel
theorem dL_law_1642 : decode cL_law 1642 = .ok (.if_icmp .eq 5, 3) := by decide +kernel
theorem dL_law_1645 : decode cL_law 1645 = .ok (.iconst 0, 1) := by decide +kernel
theorem dL_law_1646 : decode cL_law 1646 = .ok (.ireturn, 1) := by decide +kernel
theorem dL_law_1647 : decode cL_law 1647 = .ok (.iinc 30 1, 3) := by decide +kernel
theorem dL_law_1650 : decode cL_law 1650 = .ok (.goto (-108), 3) := by decide +kernel
theorem dL_law_1653 : decode cL_law 1653 = .ok (.iconst 0, 1) := by decide +kernel
theorem dL_law_1654 : decode cL_law 1654 = .ok (.istore 30, 2) := by decide +kernel
theorem dL_law_1656 : decode cL_law 1656 = .ok (.iload 30, 2) := by decide +kernel
theorem dL_law_1658 : decode cL_law 1658 = .ok (.iload 4, 2) := by decide +kernel
theorem dL_law_1660 : decode cL_law 1660 = .ok (.if_icmp .ge 54, 3) := by decide +kernel
theorem dL_law_1663 : decode cL_law 1663 = .ok (.aload_n 3, 1) := by decide +kernel
theorem dL_law_1664 : decode cL_law 1664 = .ok (.iload 30, 2) := by decide +kernel
theorem dL_law_1666 : decode cL_law 1666 = .ok (.iconst 1, 1) := by decide +kernel
theorem dL_law_1667 : decode cL_law 1667 = .ok (.invokevirtual 218, 3) := by decide +kernel
theorem dL_law_1670 : decode cL_law 1670 = .ok (.aload 11, 2) := by decide +kernel
theorem dL_law_1672 : decode cL_law 1672 = .ok (.iload 30, 2) := by decide +kernel
theorem dL_law_1674 : decode cL_law 1674 = .ok (.iaload, 1) := by decide +kernel
theorem dL_law_1675 : decode cL_law 1675 = .ok (.bipush 6, 2) := by decide +kernel
theorem dL_law_1677 : decode cL_law 1677 = .ok (.isub, 1) := by decide +kernel
theorem dL_law_1678 : decode cL_law 1678 = .ok (.if_icmp .lt 28, 3) := by decide +kernel
theorem dL_law_1681 : decode cL_law 1681 = .ok (.aload_n 3, 1) := by decide +kernel
theorem dL_law_1682 : decode cL_law 1682 = .ok (.iload 30, 2) := by decide +kernel
theorem dL_law_1684 : decode cL_law 1684 = .ok (.iconst 1, 1) := by decide +kernel
theorem dL_law_1685 : decode cL_law 1685 = .ok (.invokevirtual 218, 3) := by decide +kernel
theorem dL_law_1688 : decode cL_law 1688 = .ok (.aload 11, 2) := by decide +kernel
theorem dL_law_1690 : decode cL_law 1690 = .ok (.iload 30, 2) := by decide +kernel
theorem dL_law_1692 : decode cL_law 1692 = .ok (.iaload, 1) := by decide +kernel
theorem dL_law_1693 : decode cL_law 1693 = .ok (.if_icmp .ge 15, 3) := by decide +kernel
theorem dL_law_1696 : decode cL_law 1696 = .ok (.aload_n 3, 1) := by decide +kernel
theorem dL_law_1697 : decode cL_law 1697 = .ok (.iload 30, 2) := by decide +kernel
theorem dL_law_1699 : decode cL_law 1699 = .ok (.iconst 3, 1) := by decide +kernel
theorem dL_law_1700 : decode cL_law 1700 = .ok (.invokevirtual 218, 3) := by decide +kernel
theorem dL_law_1703 : decode cL_law 1703 = .ok (.ifCond .ge 5, 3) := by decide +kernel
theorem dL_law_1706 : decode cL_law 1706 = .ok (.iconst 0, 1) := by decide +kernel
theorem dL_law_1707 : decode cL_law 1707 = .ok (.ireturn, 1) := by decide +kernel
theorem dL_law_1708 : decode cL_law 1708 = .ok (.iinc 30 1, 3) := by decide +kernel
theorem dL_law_1711 : decode cL_law 1711 = .ok (.goto (-55), 3) := by decide +kernel
theorem dL_law_1714 : decode cL_law 1714 = .ok (.iinc 7 1, 3) := by decide +kernel
theorem dL_law_1717 : decode cL_law 1717 = .ok (.goto (-1657), 3) := by decide +kernel
theorem dL_law_1720 : decode cL_law 1720 = .ok (.aload_n 2, 1) := by decide +kernel
theorem dL_law_1721 : decode cL_law 1721 = .ok (.aload_n 3, 1) := by decide +kernel
theorem dL_law_1722 : decode cL_law 1722 = .ok (.invokevirtual 256, 3) := by decide +kernel
theorem dL_law_1725 : decode cL_law 1725 = .ok (.ireturn, 1) := by decide +kernel
def wl_L_law_1656 (q : Nat → Nat) (P : M2) (nn : Nat → Nat) (V : M2) (S : M2) (O : M2) (xs : Nat → Int32) (Ln : Nat) (C60 : Nat → M2 → M2 → M2 → M2 → M2 → M2 → M2 → Int32 → Int32 → Int32 → Int32 → Prop) (K : Int32 → Prop) : Nat → Nat → M2 → M2 → M2 → M2 → M2 → M2 → M2 → (Nat → Int32) → Int32 → Int32 → Int32 → Int32 → Int32 → Prop
  | 0, _, _, _, _, _, _, _, _, _, _, _, _, _, _ => False
  | n + 1, ap, F, G, C, N, U, L, B, e137, v4, v5, v6, v7, v30 => ((v4 ≤ v30 → (∀ v7_1714 : Int32, v7_1714 = v7 + 1 → C60 ap F G C N U L B v4 v5 v6 v7_1714)) ∧ (¬ v4 ≤ v30 → wp_X5_place q P (fun _ => False) ap F G C v30 1 (fun r_1667 => (inb v30 (v4.toInt.toNat) ∧ ((r_1667 < ((e137 v30.toInt.toNat) - (6 : Int32)) → False) ∧ (¬ r_1667 < ((e137 v30.toInt.toNat) - (6 : Int32)) → wp_X5_place q P (fun _ => False) ap F G C v30 1 (fun r_1685 => (inb v30 (v4.toInt.toNat) ∧ (((e137 v30.toInt.toNat) ≤ r_1685 → (∀ v30_1708 : Int32, v30_1708 = v30 + 1 → wl_L_law_1656 q P nn V S O xs Ln C60 K n ap F G C N U L B e137 v4 v5 v6 v7 v30_1708)) ∧ (¬ (e137 v30.toInt.toNat) ≤ r_1685 → wp_X5_place q P (fun _ => False) ap F G C v30 3 (fun r_1700 => ((0 ≤ r_1700 → (∀ v30_1708 : Int32, v30_1708 = v30 + 1 → wl_L_law_1656 q P nn V S O xs Ln C60 K n ap F G C N U L B e137 v4 v5 v6 v7 v30_1708)) ∧ (¬ 0 ≤ r_1700 → False)))))))))))))
def wj_L_law_1599 (q : Nat → Nat) (P : M2) (nn : Nat → Nat) (V : M2) (S : M2) (O : M2) (xs : Nat → Int32) (Ln : Nat) (C60 : Nat → M2 → M2 → M2 → M2 → M2 → M2 → M2 → Int32 → Int32 → Int32 → Int32 → Prop) (C1542 : Nat → M2 → M2 → M2 → M2 → M2 → M2 → M2 → (Nat → Int32) → M2 → Int32 → Int32 → Int32 → Int32 → Int32 → Prop) (K : Int32 → Prop) (ap : Nat) (F : M2) (G : M2) (C : M2) (N : M2) (U : M2) (L : M2) (B : M2) (e137 : (Nat → Int32)) (e129 : M2) (v4 : Int32) (v5 : Int32) (v6 : Int32) (v7 : Int32) (v30 : Int32) (v31 : Int32) : Prop := wp_X5_legger q P (fun _ => False) ap F G C v30 0 (fun r_1603 => (inb v31 (v5.toInt.toNat) ∧ ((¬ r_1603 = (e129 v31.toInt.toNat 0) → False) ∧ (r_1603 = (e129 v31.toInt.toNat 0) → wp_X5_legger q P (fun _ => False) ap F G C v30 5 (fun r_1617 => ((r_1617 = 9 → (∀ v30_1647 : Int32, v30_1647 = v30 + 1 → C1542 ap F G C N U L B e137 e129 v4 v5 v6 v7 v30_1647)) ∧ (¬ r_1617 = 9 → wp_X5_legger q P (fun _ => False) ap F G C v30 5 (fun r_1629 => (inb v31 (v5.toInt.toNat) ∧ ((r_1629 = (mxv 0 ((e129 v31.toInt.toNat 5) - (1 : Int32))) → (∀ v30_1647 : Int32, v30_1647 = v30 + 1 → C1542 ap F G C N U L B e137 e129 v4 v5 v6 v7 v30_1647)) ∧ (¬ r_1629 = (mxv 0 ((e129 v31.toInt.toNat 5) - (1 : Int32))) → False)))))))))))
def wl_L_law_1542 (q : Nat → Nat) (P : M2) (nn : Nat → Nat) (V : M2) (S : M2) (O : M2) (xs : Nat → Int32) (Ln : Nat) (C60 : Nat → M2 → M2 → M2 → M2 → M2 → M2 → M2 → Int32 → Int32 → Int32 → Int32 → Prop) (K : Int32 → Prop) : Nat → Nat → M2 → M2 → M2 → M2 → M2 → M2 → M2 → (Nat → Int32) → M2 → Int32 → Int32 → Int32 → Int32 → Int32 → Prop
  | 0, _, _, _, _, _, _, _, _, _, _, _, _, _, _, _ => False
  | n + 1, ap, F, G, C, N, U, L, B, e137, e129, v4, v5, v6, v7, v30 => ((v5 ≤ v30 → wl_L_law_1656 q P nn V S O xs Ln C60 K fK ap F G C N U L B e137 v4 v5 v6 v7 0) ∧ (¬ v5 ≤ v30 → (inb v30 (v5.toInt.toNat) ∧ wp_X5_legger q P (fun _ => False) ap F G C v30 2 (fun r_1560 => (inb v30 (v5.toInt.toNat) ∧ (∀ v32_1568 : Int32, v32_1568 = r_1560 - (e129 v30.toInt.toNat 2) → ((2 < v32_1568 → False) ∧ (¬ 2 < v32_1568 → ((v32_1568 < ((-5)) → False) ∧ (¬ v32_1568 < ((-5)) → wp_X5_legger q P (fun _ => False) ap F G C v30 4 (fun r_1587 => ((r_1587 < 0 → wj_L_law_1599 q P nn V S O xs Ln C60 (wl_L_law_1542 q P nn V S O xs Ln C60 K n) K ap F G C N U L B e137 e129 v4 v5 v6 v7 v30 v30) ∧ (¬ r_1587 < 0 → ((1 < v32_1568 → False) ∧ (¬ 1 < v32_1568 → wj_L_law_1599 q P nn V S O xs Ln C60 (wl_L_law_1542 q P nn V S O xs Ln C60 K n) K ap F G C N U L B e137 e129 v4 v5 v6 v7 v30 v30)))))))))))))))
def wl_L_law_1492 (q : Nat → Nat) (P : M2) (nn : Nat → Nat) (V : M2) (S : M2) (O : M2) (xs : Nat → Int32) (Ln : Nat) (C60 : Nat → M2 → M2 → M2 → M2 → M2 → M2 → M2 → Int32 → Int32 → Int32 → Int32 → Prop) (K : Int32 → Prop) : Nat → Nat → M2 → M2 → M2 → M2 → M2 → M2 → M2 → (Nat → Int32) → (Nat → Int32) → M2 → Int32 → Int32 → Int32 → Int32 → Int32 → Int32 → Int32 → Prop
  | 0, _, _, _, _, _, _, _, _, _, _, _, _, _, _, _, _, _, _ => False
  | n + 1, ap, F, G, C, N, U, L, B, e143, e137, e129, v4, v5, v6, v7, v19, v29, v30 => ((v6 ≤ v30 → wl_L_law_1542 q P nn V S O xs Ln C60 K fK ap F G C N U L B e137 e129 v4 v5 v6 v7 0) ∧ (¬ v6 ≤ v30 → (inb v30 (v6.toInt.toNat) ∧ (((e143 v30.toInt.toNat) = 0 → (∀ v30_1533 : Int32, v30_1533 = v30 + 1 → wl_L_law_1492 q P nn V S O xs Ln C60 K n ap F G C N U L B e143 e137 e129 v4 v5 v6 v7 v19 v29 v30_1533)) ∧ (¬ (e143 v30.toInt.toNat) = 0 → wp_X5_count q P (fun _ => False) ap F G C 1 (fun r_1511 => ((¬ v19 = r_1511 → (∀ v30_1533 : Int32, v30_1533 = v30 + 1 → wl_L_law_1492 q P nn V S O xs Ln C60 K n ap F G C N U L B e143 e137 e129 v4 v5 v6 v7 v19 v29 v30_1533)) ∧ (v19 = r_1511 → ((¬ v29 = 0 → (∀ v30_1533 : Int32, v30_1533 = v30 + 1 → wl_L_law_1492 q P nn V S O xs Ln C60 K n ap F G C N U L B e143 e137 e129 v4 v5 v6 v7 v19 v29 v30_1533)) ∧ (v29 = 0 → wp_X5_count q P (fun _ => False) ap F G C 7 (fun r_1525 => ((¬ r_1525 = 0 → (∀ v30_1533 : Int32, v30_1533 = v30 + 1 → wl_L_law_1492 q P nn V S O xs Ln C60 K n ap F G C N U L B e143 e137 e129 v4 v5 v6 v7 v19 v29 v30_1533)) ∧ (r_1525 = 0 → False)))))))))))))
def wj_L_law_1407 (q : Nat → Nat) (P : M2) (nn : Nat → Nat) (V : M2) (S : M2) (O : M2) (xs : Nat → Int32) (Ln : Nat) (C60 : Nat → M2 → M2 → M2 → M2 → M2 → M2 → M2 → Int32 → Int32 → Int32 → Int32 → Prop) (C1168 : Nat → M2 → M2 → M2 → M2 → M2 → M2 → M2 → (Nat → Int32) → (Nat → Int32) → M2 → M2 → Int32 → Int32 → Int32 → Int32 → Int32 → Int32 → Int32 → Prop) (K : Int32 → Prop) (ap : Nat) (F : M2) (G : M2) (C : M2) (N : M2) (U : M2) (L : M2) (B : M2) (e143 : (Nat → Int32)) (e137 : (Nat → Int32)) (e129 : M2) (e119 : M2) (v4 : Int32) (v5 : Int32) (v6 : Int32) (v7 : Int32) (v19 : Int32) (v29 : Int32) (v30 : Int32) (v31 : Int32) (v32 : Int32) : Prop := ((¬ v32 = 2 → (∀ v30_1475 : Int32, v30_1475 = v30 + 1 → C1168 ap F G C N U L B e143 e137 e129 e119 v4 v5 v6 v7 v19 v29 v30_1475)) ∧ (v32 = 2 → (inb v31 (v6.toInt.toNat) ∧ ((2 ≤ (e119 v31.toInt.toNat 3) → (∀ v30_1475 : Int32, v30_1475 = v30 + 1 → C1168 ap F G C N U L B e143 e137 e129 e119 v4 v5 v6 v7 v19 v29 v30_1475)) ∧ (¬ 2 ≤ (e119 v31.toInt.toNat 3) → wp_X5_boat q P (fun _ => False) ap F G C v30 6 (fun r_1426 => wp_X5_count q P (fun _ => False) ap F G C 0 (fun r_1431 => ((¬ r_1426 = (r_1431 - (1 : Int32)) → False) ∧ (r_1426 = (r_1431 - (1 : Int32)) → wp_X5_crew q P (fun _ => False) ap F G C v30 0 (fun r_1444 => wp_X5_legger q P (fun _ => False) ap F G C r_1444 5 (fun r_1448 => ((¬ r_1448 = 9 → False) ∧ (r_1448 = 9 → wp_X5_crew q P (fun _ => False) ap F G C v30 1 (fun r_1461 => wp_X5_legger q P (fun _ => False) ap F G C r_1461 5 (fun r_1465 => ((r_1465 = 9 → (∀ v30_1475 : Int32, v30_1475 = v30 + 1 → C1168 ap F G C N U L B e143 e137 e129 e119 v4 v5 v6 v7 v19 v29 v30_1475)) ∧ (¬ r_1465 = 9 → False)))))))))))))))))
def wj_L_law_1363 (q : Nat → Nat) (P : M2) (nn : Nat → Nat) (V : M2) (S : M2) (O : M2) (xs : Nat → Int32) (Ln : Nat) (C60 : Nat → M2 → M2 → M2 → M2 → M2 → M2 → M2 → Int32 → Int32 → Int32 → Int32 → Prop) (C1168 : Nat → M2 → M2 → M2 → M2 → M2 → M2 → M2 → (Nat → Int32) → (Nat → Int32) → M2 → M2 → Int32 → Int32 → Int32 → Int32 → Int32 → Int32 → Int32 → Prop) (K : Int32 → Prop) (ap : Nat) (F : M2) (G : M2) (C : M2) (N : M2) (U : M2) (L : M2) (B : M2) (e143 : (Nat → Int32)) (e137 : (Nat → Int32)) (e129 : M2) (e119 : M2) (v4 : Int32) (v5 : Int32) (v6 : Int32) (v7 : Int32) (v19 : Int32) (v29 : Int32) (v30 : Int32) (v31 : Int32) (v32 : Int32) (q0 : Int32) : Prop := ((¬ v32 = 1 → wj_L_law_1407 q P nn V S O xs Ln C60 C1168 K ap F G C N U L B e143 e137 e129 e119 v4 v5 v6 v7 v19 v29 v30 v31 v32) ∧ (v32 = 1 → (inb v31 (v6.toInt.toNat) ∧ ((¬ (e119 v31.toInt.toNat 1) = 0 → wp_X5_boat q P (fun _ => False) ap F G C v30 4 (fun r_1397 => ((r_1397 ≤ q0 → wj_L_law_1407 q P nn V S O xs Ln C60 C1168 K ap F G C N U L B e143 e137 e129 e119 v4 v5 v6 v7 v19 v29 v30 v31 v32) ∧ (¬ r_1397 ≤ q0 → False)))) ∧ ((e119 v31.toInt.toNat 1) = 0 → wp_X5_boat q P (fun _ => False) ap F G C v30 4 (fun r_1382 => ((q0 ≤ r_1382 → wj_L_law_1407 q P nn V S O xs Ln C60 C1168 K ap F G C N U L B e143 e137 e129 e119 v4 v5 v6 v7 v19 v29 v30 v31 v32) ∧ (¬ q0 ≤ r_1382 → False))))))))
def wj_L_law_1333 (q : Nat → Nat) (P : M2) (nn : Nat → Nat) (V : M2) (S : M2) (O : M2) (xs : Nat → Int32) (Ln : Nat) (C60 : Nat → M2 → M2 → M2 → M2 → M2 → M2 → M2 → Int32 → Int32 → Int32 → Int32 → Prop) (C1168 : Nat → M2 → M2 → M2 → M2 → M2 → M2 → M2 → (Nat → Int32) → (Nat → Int32) → M2 → M2 → Int32 → Int32 → Int32 → Int32 → Int32 → Int32 → Int32 → Prop) (K : Int32 → Prop) (ap : Nat) (F : M2) (G : M2) (C : M2) (N : M2) (U : M2) (L : M2) (B : M2) (e143 : (Nat → Int32)) (e137 : (Nat → Int32)) (e129 : M2) (e119 : M2) (v4 : Int32) (v5 : Int32) (v6 : Int32) (v7 : Int32) (v19 : Int32) (v29 : Int32) (v30 : Int32) (v31 : Int32) (v32 : Int32) : Prop := (inb v31 (v6.toInt.toNat) ∧ ((¬ (e119 v31.toInt.toNat 3) = 1 → (inb v31 (v6.toInt.toNat) ∧ ((¬ (e119 v31.toInt.toNat 1) = 0 → wj_L_law_1363 q P nn V S O xs Ln C60 C1168 K ap F G C N U L B e143 e137 e129 e119 v4 v5 v6 v7 v19 v29 v30 v31 v32 (v4 - (1 : Int32))) ∧ ((e119 v31.toInt.toNat 1) = 0 → wj_L_law_1363 q P nn V S O xs Ln C60 C1168 K ap F G C N U L B e143 e137 e129 e119 v4 v5 v6 v7 v19 v29 v30 v31 v32 0)))) ∧ ((e119 v31.toInt.toNat 3) = 1 → (inb v31 (v6.toInt.toNat) ∧ wj_L_law_1363 q P nn V S O xs Ln C60 C1168 K ap F G C N U L B e143 e137 e129 e119 v4 v5 v6 v7 v19 v29 v30 v31 v32 (e119 v31.toInt.toNat 4)))))
def wj_L_law_1299 (q : Nat → Nat) (P : M2) (nn : Nat → Nat) (V : M2) (S : M2) (O : M2) (xs : Nat → Int32) (Ln : Nat) (C60 : Nat → M2 → M2 → M2 → M2 → M2 → M2 → M2 → Int32 → Int32 → Int32 → Int32 → Prop) (C1168 : Nat → M2 → M2 → M2 → M2 → M2 → M2 → M2 → (Nat → Int32) → (Nat → Int32) → M2 → M2 → Int32 → Int32 → Int32 → Int32 → Int32 → Int32 → Int32 → Prop) (K : Int32 → Prop) (ap : Nat) (F : M2) (G : M2) (C : M2) (N : M2) (U : M2) (L : M2) (B : M2) (e143 : (Nat → Int32)) (e137 : (Nat → Int32)) (e129 : M2) (e119 : M2) (v4 : Int32) (v5 : Int32) (v6 : Int32) (v7 : Int32) (v19 : Int32) (v30 : Int32) (v31 : Int32) (v32 : Int32) (v33 : Int32) (q0 : Int32) (q1 : Int32) : Prop := (∀ v29_1300 : Int32, v29_1300 = q1 + q0 → ((v33 = 0 → wj_L_law_1333 q P nn V S O xs Ln C60 C1168 K ap F G C N U L B e143 e137 e129 e119 v4 v5 v6 v7 v19 v29_1300 v30 v31 v32) ∧ (¬ v33 = 0 → (inb v31 (v6.toInt.toNat) ∧ wp_X5_count q P (fun _ => False) ap F G C 0 (fun r_1313 => ((r_1313 ≤ (e119 v31.toInt.toNat 2) → False) ∧ (¬ r_1313 ≤ (e119 v31.toInt.toNat 2) → (inb v31 (v6.toInt.toNat) ∧ wp_X5_count q P (fun _ => False) ap F G C 1 (fun r_1325 => (((e119 v31.toInt.toNat 1) = r_1325 → wj_L_law_1333 q P nn V S O xs Ln C60 C1168 K ap F G C N U L B e143 e137 e129 e119 v4 v5 v6 v7 v19 v29_1300 v30 v31 v32) ∧ (¬ (e119 v31.toInt.toNat 1) = r_1325 → False)))))))))))
def wj_L_law_1284 (q : Nat → Nat) (P : M2) (nn : Nat → Nat) (V : M2) (S : M2) (O : M2) (xs : Nat → Int32) (Ln : Nat) (C60 : Nat → M2 → M2 → M2 → M2 → M2 → M2 → M2 → Int32 → Int32 → Int32 → Int32 → Prop) (C1168 : Nat → M2 → M2 → M2 → M2 → M2 → M2 → M2 → (Nat → Int32) → (Nat → Int32) → M2 → M2 → Int32 → Int32 → Int32 → Int32 → Int32 → Int32 → Int32 → Prop) (K : Int32 → Prop) (ap : Nat) (F : M2) (G : M2) (C : M2) (N : M2) (U : M2) (L : M2) (B : M2) (e143 : (Nat → Int32)) (e137 : (Nat → Int32)) (e129 : M2) (e119 : M2) (v4 : Int32) (v5 : Int32) (v6 : Int32) (v7 : Int32) (v19 : Int32) (v29 : Int32) (v30 : Int32) (v31 : Int32) (v32 : Int32) : Prop := (((0 : Int32) = 0 → wj_L_law_1299 q P nn V S O xs Ln C60 C1168 K ap F G C N U L B e143 e137 e129 e119 v4 v5 v6 v7 v19 v30 v31 v32 0 0 v29) ∧ (¬ (0 : Int32) = 0 → wj_L_law_1299 q P nn V S O xs Ln C60 C1168 K ap F G C N U L B e143 e137 e129 e119 v4 v5 v6 v7 v19 v30 v31 v32 0 1 v29))
def wj_L_law_1268 (q : Nat → Nat) (P : M2) (nn : Nat → Nat) (V : M2) (S : M2) (O : M2) (xs : Nat → Int32) (Ln : Nat) (C60 : Nat → M2 → M2 → M2 → M2 → M2 → M2 → M2 → Int32 → Int32 → Int32 → Int32 → Prop) (C1168 : Nat → M2 → M2 → M2 → M2 → M2 → M2 → M2 → (Nat → Int32) → (Nat → Int32) → M2 → M2 → Int32 → Int32 → Int32 → Int32 → Int32 → Int32 → Int32 → Prop) (K : Int32 → Prop) (ap : Nat) (F : M2) (G : M2) (C : M2) (N : M2) (U : M2) (L : M2) (B : M2) (e143 : (Nat → Int32)) (e137 : (Nat → Int32)) (e129 : M2) (e119 : M2) (v4 : Int32) (v5 : Int32) (v6 : Int32) (v7 : Int32) (v19 : Int32) (v29 : Int32) (v30 : Int32) (v31 : Int32) (v32 : Int32) : Prop := (inb v31 (v6.toInt.toNat) ∧ ((¬ (e119 v31.toInt.toNat 3) = 0 → wj_L_law_1284 q P nn V S O xs Ln C60 C1168 K ap F G C N U L B e143 e137 e129 e119 v4 v5 v6 v7 v19 v29 v30 v31 v32) ∧ ((e119 v31.toInt.toNat 3) = 0 → ((v32 ≤ 0 → wj_L_law_1284 q P nn V S O xs Ln C60 C1168 K ap F G C N U L B e143 e137 e129 e119 v4 v5 v6 v7 v19 v29 v30 v31 v32) ∧ (¬ v32 ≤ 0 → (((1 : Int32) = 0 → wj_L_law_1299 q P nn V S O xs Ln C60 C1168 K ap F G C N U L B e143 e137 e129 e119 v4 v5 v6 v7 v19 v30 v31 v32 1 0 v29) ∧ (¬ (1 : Int32) = 0 → wj_L_law_1299 q P nn V S O xs Ln C60 C1168 K ap F G C N U L B e143 e137 e129 e119 v4 v5 v6 v7 v19 v30 v31 v32 1 1 v29)))))))
def wl_L_law_1168 (q : Nat → Nat) (P : M2) (nn : Nat → Nat) (V : M2) (S : M2) (O : M2) (xs : Nat → Int32) (Ln : Nat) (C60 : Nat → M2 → M2 → M2 → M2 → M2 → M2 → M2 → Int32 → Int32 → Int32 → Int32 → Prop) (K : Int32 → Prop) : Nat → Nat → M2 → M2 → M2 → M2 → M2 → M2 → M2 → (Nat → Int32) → (Nat → Int32) → M2 → M2 → Int32 → Int32 → Int32 → Int32 → Int32 → Int32 → Int32 → Prop
  | 0, _, _, _, _, _, _, _, _, _, _, _, _, _, _, _, _, _, _, _ => False
  | n + 1, ap, F, G, C, N, U, L, B, e143, e137, e129, e119, v4, v5, v6, v7, v19, v29, v30 => ((v6 ≤ v30 → ((v29 ≤ 1 → wl_L_law_1492 q P nn V S O xs Ln C60 K fK ap F G C N U L B e143 e137 e129 v4 v5 v6 v7 v19 v29 0) ∧ (¬ v29 ≤ 1 → False))) ∧ (¬ v6 ≤ v30 → (inb v30 (v6.toInt.toNat) ∧ wp_X5_boat q P (fun _ => False) ap F G C v30 3 (fun r_1186 => wp_X5_boat q P (fun _ => False) ap F G C v30 0 (fun r_1195 => (inb v30 (v6.toInt.toNat) ∧ ((¬ r_1195 = (e119 v30.toInt.toNat 0) → False) ∧ (r_1195 = (e119 v30.toInt.toNat 0) → wp_X5_boat q P (fun _ => False) ap F G C v30 1 (fun r_1209 => (inb v30 (v6.toInt.toNat) ∧ ((¬ r_1209 = (e119 v30.toInt.toNat 1) → False) ∧ (r_1209 = (e119 v30.toInt.toNat 1) → wp_X5_boat q P (fun _ => False) ap F G C v30 2 (fun r_1223 => (inb v30 (v6.toInt.toNat) ∧ ((¬ r_1223 = (e119 v30.toInt.toNat 2) → False) ∧ (r_1223 = (e119 v30.toInt.toNat 2) → (inb v30 (v6.toInt.toNat) ∧ ((r_1186 < (e119 v30.toInt.toNat 3) → False) ∧ (¬ r_1186 < (e119 v30.toInt.toNat 3) → (inb v30 (v6.toInt.toNat) ∧ ((¬ (e119 v30.toInt.toNat 3) = 2 → wj_L_law_1268 q P nn V S O xs Ln C60 (wl_L_law_1168 q P nn V S O xs Ln C60 K n) K ap F G C N U L B e143 e137 e129 e119 v4 v5 v6 v7 v19 v29 v30 v30 r_1186) ∧ ((e119 v30.toInt.toNat 3) = 2 → wp_X5_boat q P (fun _ => False) ap F G C v30 6 (fun r_1255 => (inb v30 (v6.toInt.toNat) ∧ ((r_1255 = (e119 v30.toInt.toNat 6) → wj_L_law_1268 q P nn V S O xs Ln C60 (wl_L_law_1168 q P nn V S O xs Ln C60 K n) K ap F G C N U L B e143 e137 e129 e119 v4 v5 v6 v7 v19 v29 v30 v30 r_1186) ∧ (¬ r_1255 = (e119 v30.toInt.toNat 6) → False))))))))))))))))))))))))))
def wj_L_law_1148 (q : Nat → Nat) (P : M2) (nn : Nat → Nat) (V : M2) (S : M2) (O : M2) (xs : Nat → Int32) (Ln : Nat) (C60 : Nat → M2 → M2 → M2 → M2 → M2 → M2 → M2 → Int32 → Int32 → Int32 → Int32 → Prop) (K : Int32 → Prop) (ap : Nat) (F : M2) (G : M2) (C : M2) (N : M2) (U : M2) (L : M2) (B : M2) (e143 : (Nat → Int32)) (e137 : (Nat → Int32)) (e129 : M2) (e119 : M2) (v4 : Int32) (v5 : Int32) (v6 : Int32) (v7 : Int32) (v19 : Int32) : Prop := wp_X5_count q P (fun _ => False) ap F G C 1 (fun r_1154 => (((N 1 0) = r_1154 → wl_L_law_1168 q P nn V S O xs Ln C60 K fK ap F G C N U L B e143 e137 e129 e119 v4 v5 v6 v7 v19 0 0) ∧ (¬ (N 1 0) = r_1154 → False)))
def wl_L_law_1087 (q : Nat → Nat) (P : M2) (nn : Nat → Nat) (V : M2) (S : M2) (O : M2) (xs : Nat → Int32) (Ln : Nat) (C60 : Nat → M2 → M2 → M2 → M2 → M2 → M2 → M2 → Int32 → Int32 → Int32 → Int32 → Prop) (K : Int32 → Prop) : Nat → Nat → M2 → M2 → M2 → M2 → M2 → M2 → M2 → (Nat → Int32) → (Nat → Int32) → (Nat → Int32) → M2 → M2 → Int32 → Int32 → Int32 → Int32 → Int32 → Int32 → Int32 → Int32 → Int32 → Int32 → Prop
  | 0, _, _, _, _, _, _, _, _, _, _, _, _, _, _, _, _, _, _, _, _, _, _, _ => False
  | n + 1, ap, F, G, C, N, U, L, B, e897, e143, e137, e129, e119, v4, v5, v6, v7, v19, v20, v24, v25, v28, v29 => ((13 ≤ v29 → wp_X5_count q P (fun _ => False) ap F G C 10 (fun r_1119 => ((¬ r_1119 = (v20 + v28) → False) ∧ (r_1119 = (v20 + v28) → ((v25 ≤ 0 → wj_L_law_1148 q P nn V S O xs Ln C60 K ap F G C N U L B e143 e137 e129 e119 v4 v5 v6 v7 v19) ∧ (¬ v25 ≤ 0 → wp_X5_until q P (fun _ => False) ap F G C v24 (fun r_1138 ap_1138 F_1138 G_1138 C_1138 => ((¬ r_1138 = (v25 - (1 : Int32)) → False) ∧ (r_1138 = (v25 - (1 : Int32)) → wj_L_law_1148 q P nn V S O xs Ln C60 K ap_1138 F_1138 G_1138 C_1138 N U L B e143 e137 e129 e119 v4 v5 v6 v7 v19))))))))) ∧ (¬ 13 ≤ v29 → wp_X5_count q P (fun _ => False) ap F G C v29 (fun r_1097 => (inb v29 (13) ∧ ((r_1097 = (e897 v29.toInt.toNat) → (∀ v29_1110 : Int32, v29_1110 = v29 + 1 → wl_L_law_1087 q P nn V S O xs Ln C60 K n ap F G C N U L B e897 e143 e137 e129 e119 v4 v5 v6 v7 v19 v20 v24 v25 v28 v29_1110)) ∧ (¬ r_1097 = (e897 v29.toInt.toNat) → False))))))
def wj_L_law_1067 (q : Nat → Nat) (P : M2) (nn : Nat → Nat) (V : M2) (S : M2) (O : M2) (xs : Nat → Int32) (Ln : Nat) (C60 : Nat → M2 → M2 → M2 → M2 → M2 → M2 → M2 → Int32 → Int32 → Int32 → Int32 → Prop) (K : Int32 → Prop) (ap : Nat) (F : M2) (G : M2) (C : M2) (N : M2) (U : M2) (L : M2) (B : M2) (e897 : (Nat → Int32)) (e143 : (Nat → Int32)) (e137 : (Nat → Int32)) (e129 : M2) (e119 : M2) (v4 : Int32) (v5 : Int32) (v6 : Int32) (v7 : Int32) (v19 : Int32) (v20 : Int32) (v24 : Int32) (v25 : Int32) (q0 : Int32) (q1 : Int32) : Prop := ((q1 = q0 → wp_X5_pass q P (fun _ => False) ap F G C 1 (fun r_1074 ap_1074 F_1074 G_1074 C_1074 => wp_X6_pass nn V S O N U L B (fun N_1080 U_1080 L_1080 B_1080 => wl_L_law_1087 q P nn V S O xs Ln C60 K fK ap_1074 F_1074 G_1074 C_1074 N_1080 U_1080 L_1080 B_1080 e897 e143 e137 e129 e119 v4 v5 v6 v7 v19 v20 v24 v25 r_1074 8))) ∧ (¬ q1 = q0 → False))
def wj_L_law_1051 (q : Nat → Nat) (P : M2) (nn : Nat → Nat) (V : M2) (S : M2) (O : M2) (xs : Nat → Int32) (Ln : Nat) (C60 : Nat → M2 → M2 → M2 → M2 → M2 → M2 → M2 → Int32 → Int32 → Int32 → Int32 → Prop) (K : Int32 → Prop) (ap : Nat) (F : M2) (G : M2) (C : M2) (N : M2) (U : M2) (L : M2) (B : M2) (e897 : (Nat → Int32)) (e143 : (Nat → Int32)) (e137 : (Nat → Int32)) (e129 : M2) (e119 : M2) (v4 : Int32) (v5 : Int32) (v6 : Int32) (v7 : Int32) (v19 : Int32) (v20 : Int32) (v24 : Int32) (v25 : Int32) (q0 : Int32) : Prop := (inb v24 (v6.toInt.toNat) ∧ (inb v24 (v6.toInt.toNat) ∧ ((¬ (e119 v24.toInt.toNat 3) = 2 → wj_L_law_1067 q P nn V S O xs Ln C60 K ap F G C N U L B e897 e143 e137 e129 e119 v4 v5 v6 v7 v19 v20 v24 v25 0 q0) ∧ ((e119 v24.toInt.toNat 3) = 2 → wj_L_law_1067 q P nn V S O xs Ln C60 K ap F G C N U L B e897 e143 e137 e129 e119 v4 v5 v6 v7 v19 v20 v24 v25 1 q0))))
def wj_L_law_1006 (q : Nat → Nat) (P : M2) (nn : Nat → Nat) (V : M2) (S : M2) (O : M2) (xs : Nat → Int32) (Ln : Nat) (C60 : Nat → M2 → M2 → M2 → M2 → M2 → M2 → M2 → Int32 → Int32 → Int32 → Int32 → Prop) (K : Int32 → Prop) (ap : Nat) (F : M2) (G : M2) (C : M2) (N : M2) (U : M2) (L : M2) (B : M2) (e897 : (Nat → Int32)) (e143 : (Nat → Int32)) (e137 : (Nat → Int32)) (e129 : M2) (e119 : M2) (v4 : Int32) (v5 : Int32) (v6 : Int32) (v7 : Int32) (v19 : Int32) (v20 : Int32) (v21 : Int64) (v24 : Int32) (v25 : Int32) (v26 : Int32) (q0 : Int32) : Prop := wp_X5_digest q P ap F G C (fun r_1009 => ((¬ (lg_cmp r_1009 v21) = 0 → False) ∧ ((lg_cmp r_1009 v21) = 0 → ((v26 < 0 → False) ∧ (¬ v26 < 0 → ((1 < v26 → False) ∧ (¬ 1 < v26 → ((q0 < 0 → False) ∧ (¬ q0 < 0 → ((v5 ≤ q0 → False) ∧ (¬ v5 ≤ q0 → ((¬ v25 = 0 → wj_L_law_1051 q P nn V S O xs Ln C60 K ap F G C N U L B e897 e143 e137 e129 e119 v4 v5 v6 v7 v19 v20 v24 v25 0) ∧ (v25 = 0 → wj_L_law_1051 q P nn V S O xs Ln C60 K ap F G C N U L B e897 e143 e137 e129 e119 v4 v5 v6 v7 v19 v20 v24 v25 1)))))))))))))
def wj_L_law_976 (q : Nat → Nat) (P : M2) (nn : Nat → Nat) (V : M2) (S : M2) (O : M2) (xs : Nat → Int32) (Ln : Nat) (C60 : Nat → M2 → M2 → M2 → M2 → M2 → M2 → M2 → Int32 → Int32 → Int32 → Int32 → Prop) (K : Int32 → Prop) (ap : Nat) (F : M2) (G : M2) (C : M2) (N : M2) (U : M2) (L : M2) (B : M2) (e897 : (Nat → Int32)) (e143 : (Nat → Int32)) (e137 : (Nat → Int32)) (e129 : M2) (e119 : M2) (v4 : Int32) (v5 : Int32) (v6 : Int32) (v7 : Int32) (v8 : Int32) (v19 : Int32) (v20 : Int32) (v21 : Int64) (v24 : Int32) (v25 : Int32) (q0 : Int32) : Prop := ((¬ (v7 - v7 / (16 : Int32) * (16 : Int32)) = 5 → wj_L_law_1006 q P nn V S O xs Ln C60 K ap F G C N U L B e897 e143 e137 e129 e119 v4 v5 v6 v7 v19 v20 v21 v24 v25 q0 0) ∧ ((v7 - v7 / (16 : Int32) * (16 : Int32)) = 5 → wp_X5_missed q P (fun _ => False) ap F G C ((1 : Int32) + (blw (v8 >>> ((4 : Int32) &&& 31)) 60)) (fun r_999 ap_999 F_999 G_999 C_999 => wj_L_law_1006 q P nn V S O xs Ln C60 K ap_999 F_999 G_999 C_999 N U L B e897 e143 e137 e129 e119 v4 v5 v6 v7 v19 v20 v21 v24 v25 q0 r_999)))
def wl_L_law_905 (q : Nat → Nat) (P : M2) (nn : Nat → Nat) (V : M2) (S : M2) (O : M2) (xs : Nat → Int32) (Ln : Nat) (C60 : Nat → M2 → M2 → M2 → M2 → M2 → M2 → M2 → Int32 → Int32 → Int32 → Int32 → Prop) (K : Int32 → Prop) : Nat → Nat → M2 → M2 → M2 → M2 → M2 → M2 → M2 → (Nat → Int32) → (Nat → Int32) → (Nat → Int32) → M2 → M2 → Int32 → Int32 → Int32 → Int32 → Int32 → Int32 → Int32 → Int64 → Int32 → Prop
  | 0, _, _, _, _, _, _, _, _, _, _, _, _, _, _, _, _, _, _, _, _, _, _ => False
  | n + 1, ap, F, G, C, N, U, L, B, e897, e143, e137, e129, e119, v4, v5, v6, v7, v8, v19, v20, v21, v24 => ((13 ≤ v24 → (¬ v6 = 0 ∧ (∀ v24_939 : Int32, v24_939 = blw (v8 >>> ((3 : Int32) &&& 31)) v6 → wp_X5_until q P (fun _ => False) ap F G C v24_939 (fun r_944 ap_944 F_944 G_944 C_944 => ((¬ (v7 - v7 / (16 : Int32) * (16 : Int32)) = 0 → wj_L_law_976 q P nn V S O xs Ln C60 K ap_944 F_944 G_944 C_944 N U L B e897 e143 e137 e129 e119 v4 v5 v6 v7 v8 v19 v20 v21 v24_939 r_944 0) ∧ ((v7 - v7 / (16 : Int32) * (16 : Int32)) = 0 → wp_X5_advise q P (fun _ => False) ap_944 F_944 G_944 C_944 ((1 : Int32) + (blw (v8 >>> ((4 : Int32) &&& 31)) 60)) (fun r_969 ap_969 F_969 G_969 C_969 => wj_L_law_976 q P nn V S O xs Ln C60 K ap_969 F_969 G_969 C_969 N U L B e897 e143 e137 e129 e119 v4 v5 v6 v7 v8 v19 v20 v21 v24_939 r_944 r_969))))))) ∧ (¬ 13 ≤ v24 → wp_X5_foresee q P (fun _ => False) ap F G C 1 v24 (fun r_920 ap_920 F_920 G_920 C_920 => (inb v24 (13) ∧ ∀ e897_923 : Nat → Int32, e897_923 = upd e897 v24.toInt.toNat r_920 → (∀ v24_924 : Int32, v24_924 = v24 + 1 → wl_L_law_905 q P nn V S O xs Ln C60 K n ap_920 F_920 G_920 C_920 N U L B e897_923 e143 e137 e129 e119 v4 v5 v6 v7 v8 v19 v20 v21 v24_924)))))
def wj_L_law_745 (q : Nat → Nat) (P : M2) (nn : Nat → Nat) (V : M2) (S : M2) (O : M2) (xs : Nat → Int32) (Ln : Nat) (C60 : Nat → M2 → M2 → M2 → M2 → M2 → M2 → M2 → Int32 → Int32 → Int32 → Int32 → Prop) (C687 : Nat → M2 → M2 → M2 → M2 → M2 → M2 → M2 → (Nat → Int32) → (Nat → Int32) → M2 → M2 → Int32 → Int32 → Int32 → Int32 → Int32 → Int32 → Int32 → Int32 → Int32 → Int32 → Int32 → Int32 → Prop) (K : Int32 → Prop) (ap : Nat) (F : M2) (G : M2) (C : M2) (N : M2) (U : M2) (L : M2) (B : M2) (e143 : (Nat → Int32)) (e137 : (Nat → Int32)) (e129 : M2) (e119 : M2) (v4 : Int32) (v5 : Int32) (v6 : Int32) (v7 : Int32) (v8 : Int32) (v13 : Int32) (v14 : Int32) (v15 : Int32) (v16 : Int32) (v17 : Int32) (v19 : Int32) (q0 : Int32) (q1 : Int32) : Prop := (∀ v18_746 : Int32, v18_746 = q1 + q0 → (inb v19 (v4.toInt.toNat) ∧ (((e137 v19.toInt.toNat) < 0 → False) ∧ (¬ (e137 v19.toInt.toNat) < 0 → (inb v19 (v4.toInt.toNat) ∧ ((100 < (e137 v19.toInt.toNat) → False) ∧ (¬ 100 < (e137 v19.toInt.toNat) → (inb v19 (v4.toInt.toNat) ∧ wp_X5_worst q P ap F G C (fun r_774 => (inb r_774 (v4.toInt.toNat) ∧ (((e137 r_774.toInt.toNat) ≤ (e137 v19.toInt.toNat) → (∀ v19_792 : Int32, v19_792 = v19 + 1 → C687 ap F G C N U L B e143 e137 e129 e119 v4 v5 v6 v7 v8 v13 v14 v15 v16 v17 v18_746 v19_792)) ∧ (¬ (e137 r_774.toInt.toNat) ≤ (e137 v19.toInt.toNat) → wp_X5_worst q P ap F G C (fun r_782 => ((v19 ≤ r_782 → (∀ v19_792 : Int32, v19_792 = v19 + 1 → C687 ap F G C N U L B e143 e137 e129 e119 v4 v5 v6 v7 v8 v13 v14 v15 v16 v17 v18_746 v19_792)) ∧ (¬ v19 ≤ r_782 → False)))))))))))))))
def wl_L_law_687 (q : Nat → Nat) (P : M2) (nn : Nat → Nat) (V : M2) (S : M2) (O : M2) (xs : Nat → Int32) (Ln : Nat) (C60 : Nat → M2 → M2 → M2 → M2 → M2 → M2 → M2 → Int32 → Int32 → Int32 → Int32 → Prop) (K : Int32 → Prop) : Nat → Nat → M2 → M2 → M2 → M2 → M2 → M2 → M2 → (Nat → Int32) → (Nat → Int32) → M2 → M2 → Int32 → Int32 → Int32 → Int32 → Int32 → Int32 → Int32 → Int32 → Int32 → Int32 → Int32 → Int32 → Prop
  | 0, _, _, _, _, _, _, _, _, _, _, _, _, _, _, _, _, _, _, _, _, _, _, _, _ => False
  | n + 1, ap, F, G, C, N, U, L, B, e143, e137, e129, e119, v4, v5, v6, v7, v8, v13, v14, v15, v16, v17, v18, v19 => ((v4 ≤ v19 → ((v14 = 3 → False) ∧ (¬ v14 = 3 → ((¬ v18 = v13 → False) ∧ (v18 = v13 → wp_X5_count q P (fun _ => False) ap F G C 9 (fun r_814 => ((¬ r_814 = v13 → False) ∧ (r_814 = v13 → wp_X5_count q P (fun _ => False) ap F G C 8 (fun r_825 => wp_X5_count q P (fun _ => False) ap F G C 10 (fun r_834 => ((¬ ((r_825 + v13) + r_834) = v6 → False) ∧ (((r_825 + v13) + r_834) = v6 → wp_X5_count q P (fun _ => False) ap F G C 11 (fun r_846 => ((¬ r_846 = v16 → False) ∧ (r_846 = v16 → wp_X5_count q P (fun _ => False) ap F G C 12 (fun r_857 => ((¬ r_857 = v15 → False) ∧ (r_857 = v15 → ((v17 = v15 → wp_X5_count q P (fun _ => False) ap F G C 1 (fun r_876 => wp_X5_count q P (fun _ => False) ap F G C 10 (fun r_884 => wp_X5_digest q P ap F G C (fun r_890 => wl_L_law_905 q P nn V S O xs Ln C60 K fK ap F G C N U L B ((fun _ => 0)) e143 e137 e129 e119 v4 v5 v6 v7 v8 r_876 r_884 r_890 8)))) ∧ (¬ v17 = v15 → False)))))))))))))))))))) ∧ (¬ v4 ≤ v19 → wp_X5_place q P (fun _ => False) ap F G C v19 1 (fun r_702 => (inb v19 (v4.toInt.toNat) ∧ ∀ e137_705 : Nat → Int32, e137_705 = upd e137 v19.toInt.toNat r_702 → (inb v19 (v4.toInt.toNat) ∧ (∀ v16_714 : Int32, v16_714 = v16 + (e137_705 v19.toInt.toNat) → wp_X5_place q P (fun _ => False) ap F G C v19 2 (fun r_722 => (∀ v17_726 : Int32, v17_726 = v17 + r_722 → wp_X5_place q P (fun _ => False) ap F G C v19 3 (fun r_734 => ((0 ≤ r_734 → wj_L_law_745 q P nn V S O xs Ln C60 (wl_L_law_687 q P nn V S O xs Ln C60 K n) K ap F G C N U L B e143 e137_705 e129 e119 v4 v5 v6 v7 v8 v13 v14 v15 v16_714 v17_726 v19 1 v18) ∧ (¬ 0 ≤ r_734 → wj_L_law_745 q P nn V S O xs Ln C60 (wl_L_law_687 q P nn V S O xs Ln C60 K n) K ap F G C N U L B e143 e137_705 e129 e119 v4 v5 v6 v7 v8 v13 v14 v15 v16_714 v17_726 v19 0 v18)))))))))))
def wj_L_law_634 (q : Nat → Nat) (P : M2) (nn : Nat → Nat) (V : M2) (S : M2) (O : M2) (xs : Nat → Int32) (Ln : Nat) (C60 : Nat → M2 → M2 → M2 → M2 → M2 → M2 → M2 → Int32 → Int32 → Int32 → Int32 → Prop) (C454 : Nat → M2 → M2 → M2 → M2 → M2 → M2 → M2 → (Nat → Int32) → (Nat → Int32) → M2 → M2 → Int32 → Int32 → Int32 → Int32 → Int32 → Int32 → Int32 → Int32 → Int32 → Prop) (K : Int32 → Prop) (ap : Nat) (F : M2) (G : M2) (C : M2) (N : M2) (U : M2) (L : M2) (B : M2) (e143 : (Nat → Int32)) (e137 : (Nat → Int32)) (e129 : M2) (e119 : M2) (v4 : Int32) (v5 : Int32) (v6 : Int32) (v7 : Int32) (v8 : Int32) (v13 : Int32) (v14 : Int32) (v15 : Int32) (v16 : Int32) (v17 : Int32) : Prop := (inb v17 (v5.toInt.toNat) ∧ (((e129 v17.toInt.toNat 6) < 0 → (∀ v16_669 : Int32, v16_669 = v16 + 1 → C454 ap F G C N U L B e143 e137 e129 e119 v4 v5 v6 v7 v8 v13 v14 v15 v16_669)) ∧ (¬ (e129 v17.toInt.toNat 6) < 0 → (inb v17 (v5.toInt.toNat) ∧ wp_X5_place q P (fun _ => False) ap F G C (e129 v17.toInt.toNat 6) 0 (fun r_650 => wp_X5_bore q P (fun _ => False) ap F G C r_650 1 (fun r_654 => (inb v17 (v5.toInt.toNat) ∧ ((12 < (r_654 + (e129 v17.toInt.toNat 0)) → (∀ v16_669 : Int32, v16_669 = v16 + 1 → C454 ap F G C N U L B e143 e137 e129 e119 v4 v5 v6 v7 v8 v13 v14 v15 v16_669)) ∧ (¬ 12 < (r_654 + (e129 v17.toInt.toNat 0)) → False)))))))))
def wj_L_law_597 (q : Nat → Nat) (P : M2) (nn : Nat → Nat) (V : M2) (S : M2) (O : M2) (xs : Nat → Int32) (Ln : Nat) (C60 : Nat → M2 → M2 → M2 → M2 → M2 → M2 → M2 → Int32 → Int32 → Int32 → Int32 → Prop) (C454 : Nat → M2 → M2 → M2 → M2 → M2 → M2 → M2 → (Nat → Int32) → (Nat → Int32) → M2 → M2 → Int32 → Int32 → Int32 → Int32 → Int32 → Int32 → Int32 → Int32 → Int32 → Prop) (K : Int32 → Prop) (ap : Nat) (F : M2) (G : M2) (C : M2) (N : M2) (U : M2) (L : M2) (B : M2) (e143 : (Nat → Int32)) (e137 : (Nat → Int32)) (e129 : M2) (e119 : M2) (v4 : Int32) (v5 : Int32) (v6 : Int32) (v7 : Int32) (v8 : Int32) (v13 : Int32) (v14 : Int32) (v15 : Int32) (v16 : Int32) (v17 : Int32) : Prop := (inb v17 (v5.toInt.toNat) ∧ (((e129 v17.toInt.toNat 4) < 0 → wj_L_law_634 q P nn V S O xs Ln C60 C454 K ap F G C N U L B e143 e137 e129 e119 v4 v5 v6 v7 v8 v13 v14 v15 v16 v17) ∧ (¬ (e129 v17.toInt.toNat 4) < 0 → (inb v17 (v5.toInt.toNat) ∧ wp_X5_crew q P (fun _ => False) ap F G C (e129 v17.toInt.toNat 4) 0 (fun r_610 => ((r_610 = v16 → wj_L_law_634 q P nn V S O xs Ln C60 C454 K ap F G C N U L B e143 e137 e129 e119 v4 v5 v6 v7 v8 v13 v14 v15 v16 v17) ∧ (¬ r_610 = v16 → (inb v17 (v5.toInt.toNat) ∧ wp_X5_crew q P (fun _ => False) ap F G C (e129 v17.toInt.toNat 4) 1 (fun r_624 => ((r_624 = v16 → wj_L_law_634 q P nn V S O xs Ln C60 C454 K ap F G C N U L B e143 e137 e129 e119 v4 v5 v6 v7 v8 v13 v14 v15 v16 v17) ∧ (¬ r_624 = v16 → False)))))))))))
def wj_L_law_564 (q : Nat → Nat) (P : M2) (nn : Nat → Nat) (V : M2) (S : M2) (O : M2) (xs : Nat → Int32) (Ln : Nat) (C60 : Nat → M2 → M2 → M2 → M2 → M2 → M2 → M2 → Int32 → Int32 → Int32 → Int32 → Prop) (C454 : Nat → M2 → M2 → M2 → M2 → M2 → M2 → M2 → (Nat → Int32) → (Nat → Int32) → M2 → M2 → Int32 → Int32 → Int32 → Int32 → Int32 → Int32 → Int32 → Int32 → Int32 → Prop) (K : Int32 → Prop) (ap : Nat) (F : M2) (G : M2) (C : M2) (N : M2) (U : M2) (L : M2) (B : M2) (e143 : (Nat → Int32)) (e137 : (Nat → Int32)) (e129 : M2) (e119 : M2) (v4 : Int32) (v5 : Int32) (v6 : Int32) (v7 : Int32) (v8 : Int32) (v13 : Int32) (v14 : Int32) (v15 : Int32) (v16 : Int32) (v17 : Int32) (q0 : Int32) (q1 : Int32) : Prop := ((¬ q1 = q0 → False) ∧ (q1 = q0 → (inb v17 (v5.toInt.toNat) ∧ (((e129 v17.toInt.toNat 5) < 0 → False) ∧ (¬ (e129 v17.toInt.toNat 5) < 0 → (inb v17 (v5.toInt.toNat) ∧ ((9 < (e129 v17.toInt.toNat 5) → False) ∧ (¬ 9 < (e129 v17.toInt.toNat 5) → (inb v17 (v5.toInt.toNat) ∧ (((e129 v17.toInt.toNat 4) < 0 → wj_L_law_597 q P nn V S O xs Ln C60 C454 K ap F G C N U L B e143 e137 e129 e119 v4 v5 v6 v7 v8 v13 v14 v15 v16 v17) ∧ (¬ (e129 v17.toInt.toNat 4) < 0 → (inb v17 (v5.toInt.toNat) ∧ ((0 < (e129 v17.toInt.toNat 5) → False) ∧ (¬ 0 < (e129 v17.toInt.toNat 5) → wj_L_law_597 q P nn V S O xs Ln C60 C454 K ap F G C N U L B e143 e137 e129 e119 v4 v5 v6 v7 v8 v13 v14 v15 v16 v17))))))))))))))
def wj_L_law_514 (q : Nat → Nat) (P : M2) (nn : Nat → Nat) (V : M2) (S : M2) (O : M2) (xs : Nat → Int32) (Ln : Nat) (C60 : Nat → M2 → M2 → M2 → M2 → M2 → M2 → M2 → Int32 → Int32 → Int32 → Int32 → Prop) (C454 : Nat → M2 → M2 → M2 → M2 → M2 → M2 → M2 → (Nat → Int32) → (Nat → Int32) → M2 → M2 → Int32 → Int32 → Int32 → Int32 → Int32 → Int32 → Int32 → Int32 → Int32 → Prop) (K : Int32 → Prop) (ap : Nat) (F : M2) (G : M2) (C : M2) (N : M2) (U : M2) (L : M2) (B : M2) (e143 : (Nat → Int32)) (e137 : (Nat → Int32)) (e129 : M2) (e119 : M2) (v4 : Int32) (v5 : Int32) (v6 : Int32) (v7 : Int32) (v8 : Int32) (v13 : Int32) (v14 : Int32) (v16 : Int32) (v17 : Int32) (q0 : Int32) (q1 : Int32) : Prop := (∀ v15_515 : Int32, v15_515 = q1 + q0 → (inb v17 (v5.toInt.toNat) ∧ (((e129 v17.toInt.toNat 2) < 0 → False) ∧ (¬ (e129 v17.toInt.toNat 2) < 0 → (inb v17 (v5.toInt.toNat) ∧ (inb v17 (v5.toInt.toNat) ∧ ((((10 : Int32) * (e129 v17.toInt.toNat 1)) < (e129 v17.toInt.toNat 2) → False) ∧ (¬ ((10 : Int32) * (e129 v17.toInt.toNat 1)) < (e129 v17.toInt.toNat 2) → (inb v17 (v5.toInt.toNat) ∧ ((¬ (e129 v17.toInt.toNat 3) = 1 → (inb v17 (v5.toInt.toNat) ∧ ((0 ≤ (e129 v17.toInt.toNat 6) → wj_L_law_564 q P nn V S O xs Ln C60 C454 K ap F G C N U L B e143 e137 e129 e119 v4 v5 v6 v7 v8 v13 v14 v15_515 v16 v17 0 0) ∧ (¬ 0 ≤ (e129 v17.toInt.toNat 6) → wj_L_law_564 q P nn V S O xs Ln C60 C454 K ap F G C N U L B e143 e137 e129 e119 v4 v5 v6 v7 v8 v13 v14 v15_515 v16 v17 1 0)))) ∧ ((e129 v17.toInt.toNat 3) = 1 → (inb v17 (v5.toInt.toNat) ∧ ((0 ≤ (e129 v17.toInt.toNat 6) → wj_L_law_564 q P nn V S O xs Ln C60 C454 K ap F G C N U L B e143 e137 e129 e119 v4 v5 v6 v7 v8 v13 v14 v15_515 v16 v17 0 1) ∧ (¬ 0 ≤ (e129 v17.toInt.toNat 6) → wj_L_law_564 q P nn V S O xs Ln C60 C454 K ap F G C N U L B e143 e137 e129 e119 v4 v5 v6 v7 v8 v13 v14 v15_515 v16 v17 1 1))))))))))))))
def wl_L_law_464 (q : Nat → Nat) (P : M2) (nn : Nat → Nat) (V : M2) (S : M2) (O : M2) (xs : Nat → Int32) (Ln : Nat) (C60 : Nat → M2 → M2 → M2 → M2 → M2 → M2 → M2 → Int32 → Int32 → Int32 → Int32 → Prop) (C454 : Nat → M2 → M2 → M2 → M2 → M2 → M2 → M2 → (Nat → Int32) → (Nat → Int32) → M2 → M2 → Int32 → Int32 → Int32 → Int32 → Int32 → Int32 → Int32 → Int32 → Int32 → Prop) (K : Int32 → Prop) : Nat → Nat → M2 → M2 → M2 → M2 → M2 → M2 → M2 → (Nat → Int32) → (Nat → Int32) → M2 → M2 → Int32 → Int32 → Int32 → Int32 → Int32 → Int32 → Int32 → Int32 → Int32 → Int32 → Prop
  | 0, _, _, _, _, _, _, _, _, _, _, _, _, _, _, _, _, _, _, _, _, _, _ => False
  | n + 1, ap, F, G, C, N, U, L, B, e143, e137, e129, e119, v4, v5, v6, v7, v8, v13, v14, v15, v16, v17 => ((7 ≤ v17 → (inb v16 (v5.toInt.toNat) ∧ (inb v16 (v5.toInt.toNat) ∧ ((¬ (e129 v16.toInt.toNat 3) = 0 → wj_L_law_514 q P nn V S O xs Ln C60 C454 K ap F G C N U L B e143 e137 e129 e119 v4 v5 v6 v7 v8 v13 v14 v16 v16 0 v15) ∧ ((e129 v16.toInt.toNat 3) = 0 → wj_L_law_514 q P nn V S O xs Ln C60 C454 K ap F G C N U L B e143 e137 e129 e119 v4 v5 v6 v7 v8 v13 v14 v16 v16 1 v15))))) ∧ (¬ 7 ≤ v17 → (inb v16 (v5.toInt.toNat) ∧ wp_X5_legger q P (fun _ => False) ap F G C v16 v17 (fun r_483 => (inb v16 (v5.toInt.toNat) ∧ inb v17 7 ∧ ∀ e129_486 : M2, e129_486 = up2 e129 v16.toInt.toNat (upd (e129 v16.toInt.toNat) v17.toInt.toNat r_483) → (∀ v17_487 : Int32, v17_487 = v17 + 1 → wl_L_law_464 q P nn V S O xs Ln C60 C454 K n ap F G C N U L B e143 e137 e129_486 e119 v4 v5 v6 v7 v8 v13 v14 v15 v16 v17_487))))))
def wl_L_law_454 (q : Nat → Nat) (P : M2) (nn : Nat → Nat) (V : M2) (S : M2) (O : M2) (xs : Nat → Int32) (Ln : Nat) (C60 : Nat → M2 → M2 → M2 → M2 → M2 → M2 → M2 → Int32 → Int32 → Int32 → Int32 → Prop) (K : Int32 → Prop) : Nat → Nat → M2 → M2 → M2 → M2 → M2 → M2 → M2 → (Nat → Int32) → (Nat → Int32) → M2 → M2 → Int32 → Int32 → Int32 → Int32 → Int32 → Int32 → Int32 → Int32 → Int32 → Prop
  | 0, _, _, _, _, _, _, _, _, _, _, _, _, _, _, _, _, _, _, _, _, _ => False
  | n + 1, ap, F, G, C, N, U, L, B, e143, e137, e129, e119, v4, v5, v6, v7, v8, v13, v14, v15, v16 => ((v5 ≤ v16 → wl_L_law_687 q P nn V S O xs Ln C60 K fK ap F G C N U L B e143 e137 e129 e119 v4 v5 v6 v7 v8 v13 v14 v15 0 0 0 0) ∧ (¬ v5 ≤ v16 → wl_L_law_464 q P nn V S O xs Ln C60 (wl_L_law_454 q P nn V S O xs Ln C60 K n) K fK ap F G C N U L B e143 e137 e129 e119 v4 v5 v6 v7 v8 v13 v14 v15 v16 0))
def wj_L_law_332 (q : Nat → Nat) (P : M2) (nn : Nat → Nat) (V : M2) (S : M2) (O : M2) (xs : Nat → Int32) (Ln : Nat) (C60 : Nat → M2 → M2 → M2 → M2 → M2 → M2 → M2 → Int32 → Int32 → Int32 → Int32 → Prop) (C156 : Nat → M2 → M2 → M2 → M2 → M2 → M2 → M2 → (Nat → Int32) → (Nat → Int32) → M2 → M2 → Int32 → Int32 → Int32 → Int32 → Int32 → Int32 → Int32 → Int32 → Prop) (K : Int32 → Prop) (ap : Nat) (F : M2) (G : M2) (C : M2) (N : M2) (U : M2) (L : M2) (B : M2) (e143 : (Nat → Int32)) (e137 : (Nat → Int32)) (e129 : M2) (e119 : M2) (v4 : Int32) (v5 : Int32) (v6 : Int32) (v7 : Int32) (v8 : Int32) (v13 : Int32) (v14 : Int32) (v15 : Int32) (v16 : Int32) (q0 : Int32) (q1 : Int32) : Prop := ((¬ q1 = q0 → False) ∧ (q1 = q0 → (inb v16 (v6.toInt.toNat) ∧ wp_X5_count q P (fun _ => False) ap F G C 0 (fun r_342 => ((r_342 ≤ (e119 v16.toInt.toNat 6) → False) ∧ (¬ r_342 ≤ (e119 v16.toInt.toNat 6) → wp_X5_crew q P (fun _ => False) ap F G C v15 0 (fun r_352 => wp_X5_crew q P (fun _ => False) ap F G C v15 1 (fun r_359 => ((¬ r_352 = r_359 → (inb v16 (v6.toInt.toNat) ∧ (((e119 v16.toInt.toNat 3) = 1 → (∀ v13_378 : Int32, v13_378 = v13 + 1 → (inb v16 (v6.toInt.toNat) ∧ (∀ v14_390 : Int32, v14_390 = v14 ||| ((1 : Int32) <<< ((e119 v16.toInt.toNat 1) &&& 31)) → (inb v16 (v6.toInt.toNat) ∧ wp_X5_place q P (fun _ => False) ap F G C (e119 v16.toInt.toNat 4) 3 (fun r_398 => ((¬ r_398 = v15 → False) ∧ (r_398 = v15 → wp_X5_crew q P (fun _ => False) ap F G C v15 0 (fun r_411 => wp_X5_legger q P (fun _ => False) ap F G C r_411 4 (fun r_415 => ((¬ r_415 = v15 → False) ∧ (r_415 = v15 → wp_X5_crew q P (fun _ => False) ap F G C v15 1 (fun r_428 => wp_X5_legger q P (fun _ => False) ap F G C r_428 4 (fun r_432 => ((r_432 = v15 → (∀ v15_442 : Int32, v15_442 = v15 + 1 → C156 ap F G C N U L B e143 e137 e129 e119 v4 v5 v6 v7 v8 v13_378 v14_390 v15_442)) ∧ (¬ r_432 = v15 → False)))))))))))))))) ∧ (¬ (e119 v16.toInt.toNat 3) = 1 → (∀ v15_442 : Int32, v15_442 = v15 + 1 → C156 ap F G C N U L B e143 e137 e129 e119 v4 v5 v6 v7 v8 v13 v14 v15_442))))) ∧ (r_352 = r_359 → False))))))))))
def wj_L_law_306 (q : Nat → Nat) (P : M2) (nn : Nat → Nat) (V : M2) (S : M2) (O : M2) (xs : Nat → Int32) (Ln : Nat) (C60 : Nat → M2 → M2 → M2 → M2 → M2 → M2 → M2 → Int32 → Int32 → Int32 → Int32 → Prop) (C156 : Nat → M2 → M2 → M2 → M2 → M2 → M2 → M2 → (Nat → Int32) → (Nat → Int32) → M2 → M2 → Int32 → Int32 → Int32 → Int32 → Int32 → Int32 → Int32 → Int32 → Prop) (K : Int32 → Prop) (ap : Nat) (F : M2) (G : M2) (C : M2) (N : M2) (U : M2) (L : M2) (B : M2) (e143 : (Nat → Int32)) (e137 : (Nat → Int32)) (e129 : M2) (e119 : M2) (v4 : Int32) (v5 : Int32) (v6 : Int32) (v7 : Int32) (v8 : Int32) (v13 : Int32) (v14 : Int32) (v15 : Int32) (v16 : Int32) : Prop := (inb v16 (v6.toInt.toNat) ∧ ((¬ (e119 v16.toInt.toNat 3) = 2 → (inb v16 (v6.toInt.toNat) ∧ (((e119 v16.toInt.toNat 6) < 0 → wj_L_law_332 q P nn V S O xs Ln C60 C156 K ap F G C N U L B e143 e137 e129 e119 v4 v5 v6 v7 v8 v13 v14 v15 v16 0 0) ∧ (¬ (e119 v16.toInt.toNat 6) < 0 → wj_L_law_332 q P nn V S O xs Ln C60 C156 K ap F G C N U L B e143 e137 e129 e119 v4 v5 v6 v7 v8 v13 v14 v15 v16 1 0)))) ∧ ((e119 v16.toInt.toNat 3) = 2 → (inb v16 (v6.toInt.toNat) ∧ (((e119 v16.toInt.toNat 6) < 0 → wj_L_law_332 q P nn V S O xs Ln C60 C156 K ap F G C N U L B e143 e137 e129 e119 v4 v5 v6 v7 v8 v13 v14 v15 v16 0 1) ∧ (¬ (e119 v16.toInt.toNat 6) < 0 → wj_L_law_332 q P nn V S O xs Ln C60 C156 K ap F G C N U L B e143 e137 e129 e119 v4 v5 v6 v7 v8 v13 v14 v15 v16 1 1))))))
def wj_L_law_287 (q : Nat → Nat) (P : M2) (nn : Nat → Nat) (V : M2) (S : M2) (O : M2) (xs : Nat → Int32) (Ln : Nat) (C60 : Nat → M2 → M2 → M2 → M2 → M2 → M2 → M2 → Int32 → Int32 → Int32 → Int32 → Prop) (C156 : Nat → M2 → M2 → M2 → M2 → M2 → M2 → M2 → (Nat → Int32) → (Nat → Int32) → M2 → M2 → Int32 → Int32 → Int32 → Int32 → Int32 → Int32 → Int32 → Int32 → Prop) (K : Int32 → Prop) (ap : Nat) (F : M2) (G : M2) (C : M2) (N : M2) (U : M2) (L : M2) (B : M2) (e143 : (Nat → Int32)) (e137 : (Nat → Int32)) (e129 : M2) (e119 : M2) (v4 : Int32) (v5 : Int32) (v6 : Int32) (v7 : Int32) (v8 : Int32) (v13 : Int32) (v14 : Int32) (v15 : Int32) (v16 : Int32) : Prop := (inb v16 (v6.toInt.toNat) ∧ ((¬ (e119 v16.toInt.toNat 3) = 1 → wj_L_law_306 q P nn V S O xs Ln C60 C156 K ap F G C N U L B e143 e137 e129 e119 v4 v5 v6 v7 v8 v13 v14 v15 v16) ∧ ((e119 v16.toInt.toNat 3) = 1 → (inb v16 (v6.toInt.toNat) ∧ (inb v16 (v6.toInt.toNat) ∧ (((e119 v16.toInt.toNat 0) ≤ (e119 v16.toInt.toNat 5) → False) ∧ (¬ (e119 v16.toInt.toNat 0) ≤ (e119 v16.toInt.toNat 5) → wj_L_law_306 q P nn V S O xs Ln C60 C156 K ap F G C N U L B e143 e137 e129 e119 v4 v5 v6 v7 v8 v13 v14 v15 v16)))))))
def wj_L_law_253 (q : Nat → Nat) (P : M2) (nn : Nat → Nat) (V : M2) (S : M2) (O : M2) (xs : Nat → Int32) (Ln : Nat) (C60 : Nat → M2 → M2 → M2 → M2 → M2 → M2 → M2 → Int32 → Int32 → Int32 → Int32 → Prop) (C156 : Nat → M2 → M2 → M2 → M2 → M2 → M2 → M2 → (Nat → Int32) → (Nat → Int32) → M2 → M2 → Int32 → Int32 → Int32 → Int32 → Int32 → Int32 → Int32 → Int32 → Prop) (K : Int32 → Prop) (ap : Nat) (F : M2) (G : M2) (C : M2) (N : M2) (U : M2) (L : M2) (B : M2) (e143 : (Nat → Int32)) (e137 : (Nat → Int32)) (e129 : M2) (e119 : M2) (v4 : Int32) (v5 : Int32) (v6 : Int32) (v7 : Int32) (v8 : Int32) (v13 : Int32) (v14 : Int32) (v15 : Int32) (v16 : Int32) (q0 : Int32) (q1 : Int32) : Prop := ((¬ q1 = q0 → False) ∧ (q1 = q0 → (inb v16 (v6.toInt.toNat) ∧ ((v4 ≤ (e119 v16.toInt.toNat 4) → False) ∧ (¬ v4 ≤ (e119 v16.toInt.toNat 4) → (inb v16 (v6.toInt.toNat) ∧ (((e119 v16.toInt.toNat 5) < 0 → False) ∧ (¬ (e119 v16.toInt.toNat 5) < 0 → (inb v16 (v6.toInt.toNat) ∧ (((e119 v16.toInt.toNat 3) = 1 → wj_L_law_287 q P nn V S O xs Ln C60 C156 K ap F G C N U L B e143 e137 e129 e119 v4 v5 v6 v7 v8 v13 v14 v15 v16) ∧ (¬ (e119 v16.toInt.toNat 3) = 1 → (inb v16 (v6.toInt.toNat) ∧ ((¬ (e119 v16.toInt.toNat 5) = 0 → False) ∧ ((e119 v16.toInt.toNat 5) = 0 → wj_L_law_287 q P nn V S O xs Ln C60 C156 K ap F G C N U L B e143 e137 e129 e119 v4 v5 v6 v7 v8 v13 v14 v15 v16))))))))))))))
def wl_L_law_166 (q : Nat → Nat) (P : M2) (nn : Nat → Nat) (V : M2) (S : M2) (O : M2) (xs : Nat → Int32) (Ln : Nat) (C60 : Nat → M2 → M2 → M2 → M2 → M2 → M2 → M2 → Int32 → Int32 → Int32 → Int32 → Prop) (C156 : Nat → M2 → M2 → M2 → M2 → M2 → M2 → M2 → (Nat → Int32) → (Nat → Int32) → M2 → M2 → Int32 → Int32 → Int32 → Int32 → Int32 → Int32 → Int32 → Int32 → Prop) (K : Int32 → Prop) : Nat → Nat → M2 → M2 → M2 → M2 → M2 → M2 → M2 → (Nat → Int32) → (Nat → Int32) → M2 → M2 → Int32 → Int32 → Int32 → Int32 → Int32 → Int32 → Int32 → Int32 → Int32 → Prop
  | 0, _, _, _, _, _, _, _, _, _, _, _, _, _, _, _, _, _, _, _, _, _ => False
  | n + 1, ap, F, G, C, N, U, L, B, e143, e137, e129, e119, v4, v5, v6, v7, v8, v13, v14, v15, v16 => ((7 ≤ v16 → (inb v15 (v6.toInt.toNat) ∧ wp_X5_canEnter q P (fun _ => False) ap F G C v15 (fun r_209 ap_209 F_209 G_209 C_209 => (inb v15 (v6.toInt.toNat) ∧ ∀ e143_212 : Nat → Int32, e143_212 = upd e143 v15.toInt.toNat (vp_nar .boolean r_209) → (inb v15 (v6.toInt.toNat) ∧ (((e119 v15.toInt.toNat 3) < 0 → False) ∧ (¬ (e119 v15.toInt.toNat 3) < 0 → (inb v15 (v6.toInt.toNat) ∧ ((2 < (e119 v15.toInt.toNat 3) → False) ∧ (¬ 2 < (e119 v15.toInt.toNat 3) → (inb v15 (v6.toInt.toNat) ∧ ((¬ (e119 v15.toInt.toNat 3) = 1 → (inb v15 (v6.toInt.toNat) ∧ (((e119 v15.toInt.toNat 4) < 0 → wj_L_law_253 q P nn V S O xs Ln C60 C156 K ap_209 F_209 G_209 C_209 N U L B e143_212 e137 e129 e119 v4 v5 v6 v7 v8 v13 v14 v15 v15 0 0) ∧ (¬ (e119 v15.toInt.toNat 4) < 0 → wj_L_law_253 q P nn V S O xs Ln C60 C156 K ap_209 F_209 G_209 C_209 N U L B e143_212 e137 e129 e119 v4 v5 v6 v7 v8 v13 v14 v15 v15 1 0)))) ∧ ((e119 v15.toInt.toNat 3) = 1 → (inb v15 (v6.toInt.toNat) ∧ (((e119 v15.toInt.toNat 4) < 0 → wj_L_law_253 q P nn V S O xs Ln C60 C156 K ap_209 F_209 G_209 C_209 N U L B e143_212 e137 e129 e119 v4 v5 v6 v7 v8 v13 v14 v15 v15 0 1) ∧ (¬ (e119 v15.toInt.toNat 4) < 0 → wj_L_law_253 q P nn V S O xs Ln C60 C156 K ap_209 F_209 G_209 C_209 N U L B e143_212 e137 e129 e119 v4 v5 v6 v7 v8 v13 v14 v15 v15 1 1)))))))))))))))) ∧ (¬ 7 ≤ v16 → (inb v15 (v6.toInt.toNat) ∧ wp_X5_boat q P (fun _ => False) ap F G C v15 v16 (fun r_185 => (inb v15 (v6.toInt.toNat) ∧ inb v16 7 ∧ ∀ e119_188 : M2, e119_188 = up2 e119 v15.toInt.toNat (upd (e119 v15.toInt.toNat) v16.toInt.toNat r_185) → (∀ v16_189 : Int32, v16_189 = v16 + 1 → wl_L_law_166 q P nn V S O xs Ln C60 C156 K n ap F G C N U L B e143 e137 e129 e119_188 v4 v5 v6 v7 v8 v13 v14 v15 v16_189))))))
def wl_L_law_156 (q : Nat → Nat) (P : M2) (nn : Nat → Nat) (V : M2) (S : M2) (O : M2) (xs : Nat → Int32) (Ln : Nat) (C60 : Nat → M2 → M2 → M2 → M2 → M2 → M2 → M2 → Int32 → Int32 → Int32 → Int32 → Prop) (K : Int32 → Prop) : Nat → Nat → M2 → M2 → M2 → M2 → M2 → M2 → M2 → (Nat → Int32) → (Nat → Int32) → M2 → M2 → Int32 → Int32 → Int32 → Int32 → Int32 → Int32 → Int32 → Int32 → Prop
  | 0, _, _, _, _, _, _, _, _, _, _, _, _, _, _, _, _, _, _, _, _ => False
  | n + 1, ap, F, G, C, N, U, L, B, e143, e137, e129, e119, v4, v5, v6, v7, v8, v13, v14, v15 => ((v6 ≤ v15 → wl_L_law_454 q P nn V S O xs Ln C60 K fK ap F G C N U L B e143 e137 e129 e119 v4 v5 v6 v7 v8 v13 v14 0 0) ∧ (¬ v6 ≤ v15 → wl_L_law_166 q P nn V S O xs Ln C60 (wl_L_law_156 q P nn V S O xs Ln C60 K n) K fK ap F G C N U L B e143 e137 e129 e119 v4 v5 v6 v7 v8 v13 v14 v15 0))
def wj_L_law_115 (q : Nat → Nat) (P : M2) (nn : Nat → Nat) (V : M2) (S : M2) (O : M2) (xs : Nat → Int32) (Ln : Nat) (C60 : Nat → M2 → M2 → M2 → M2 → M2 → M2 → M2 → Int32 → Int32 → Int32 → Int32 → Prop) (K : Int32 → Prop) (ap : Nat) (F : M2) (G : M2) (C : M2) (N : M2) (U : M2) (L : M2) (B : M2) (v4 : Int32) (v5 : Int32) (v6 : Int32) (v7 : Int32) (v8 : Int32) : Prop := (v6 = Int32.ofNat (v6.toInt.toNat) ∧ v6.toInt.toNat ≤ 64 ∧ (v5 = Int32.ofNat (v5.toInt.toNat) ∧ v5.toInt.toNat ≤ 64 ∧ (v4 = Int32.ofNat (v4.toInt.toNat) ∧ v4.toInt.toNat ≤ 64 ∧ (v6 = Int32.ofNat (v6.toInt.toNat) ∧ v6.toInt.toNat ≤ 64 ∧ wl_L_law_156 q P nn V S O xs Ln C60 K fK ap F G C N U L B ((fun _ => 0)) ((fun _ => 0)) zM zM v4 v5 v6 v7 v8 0 0 0))))
def wl_L_law_60 (q : Nat → Nat) (P : M2) (nn : Nat → Nat) (V : M2) (S : M2) (O : M2) (xs : Nat → Int32) (Ln : Nat) (K : Int32 → Prop) : Nat → Nat → M2 → M2 → M2 → M2 → M2 → M2 → M2 → Int32 → Int32 → Int32 → Int32 → Prop
  | 0, _, _, _, _, _, _, _, _, _, _, _, _ => False
  | n + 1, ap, F, G, C, N, U, L, B, v4, v5, v6, v7 => ((80 ≤ v7 → wp_X6_isSame q P nn V S O ap F G C N U L B (fun r_1722 ap_1722 F_1722 G_1722 C_1722 N_1722 U_1722 L_1722 B_1722 => K r_1722)) ∧ (¬ 80 ≤ v7 → (¬ (v7 - v7 / (16 : Int32) * (16 : Int32)) < 0 ∧ (∀ v8_90 : Int32, v8_90 = ((celv xs Ln (v7 - v7 / (16 : Int32) * (16 : Int32))) >>> (((v7 / (16 : Int32)) * (4 : Int32)) &&& 31)) + ((47 : Int32) * v7) → ((¬ (blw v8_90 5) = 0 → wj_L_law_115 q P nn V S O xs Ln (wl_L_law_60 q P nn V S O xs Ln K n) K ap F G C N U L B v4 v5 v6 v7 v8_90) ∧ ((blw v8_90 5) = 0 → wp_L_act q P nn V S O ap F G C N U L B (v8_90 / (5 : Int32)) (fun r_107 ap_107 F_107 G_107 C_107 N_107 U_107 L_107 B_107 => ((¬ r_107 = 0 → wj_L_law_115 q P nn V S O xs Ln (wl_L_law_60 q P nn V S O xs Ln K n) K ap_107 F_107 G_107 C_107 N_107 U_107 L_107 B_107 v4 v5 v6 v7 v8_90) ∧ (r_107 = 0 → False)))))))))
def wp_L_law (q : Nat → Nat) (P : M2) (nn : Nat → Nat) (V : M2) (S : M2) (O : M2) (xs : Nat → Int32) (Ln : Nat) (ap : Nat) (F : M2) (G : M2) (C : M2) (N : M2) (U : M2) (L : M2) (B : M2) (K : Int32 → Prop) : Prop := wp_X5_count q P (fun _ => False) ap F G C 3 (fun r_37 => wp_X5_count q P (fun _ => False) ap F G C 5 (fun r_44 => wp_X5_count q P (fun _ => False) ap F G C 6 (fun r_52 => wl_L_law_60 q P nn V S O xs Ln K 81 ap F G C N U L B r_37 r_44 r_52 0)))
