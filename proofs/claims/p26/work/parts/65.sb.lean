theorem wq_1204 : Cond.instanceMethod yJ4_append_15ec4 ∈ lw_g := lw_g_mk (tb_5 (List.mem_of_getElem? (i := 180) rfl)) rfl
theorem wq_1205 : Cond.selects RJ4 yJ4_append_15ec4 yJ4_append_15ec4 ∈ lw_g := lw_g_mk (tb_5 (List.mem_of_getElem? (i := 181) rfl)) rfl
theorem wq_1310 : Cond.instanceMethod yJ4_append_bf812 ∈ lw_g := lw_g_mk (tb_6 (List.mem_of_getElem? (i := 46) rfl)) rfl
theorem wq_1311 : Cond.selects RJ4 yJ4_append_bf812 yJ4_append_bf812 ∈ lw_g := lw_g_mk (tb_6 (List.mem_of_getElem? (i := 47) rfl)) rfl
theorem wq_1377 : Cond.instanceMethod yJ4_toString_0e30d ∈ lw_g := lw_g_mk (tb_6 (List.mem_of_getElem? (i := 113) rfl)) rfl
theorem wq_1378 : Cond.selects RJ4 yJ4_toString_0e30d yJ4_toString_0e30d ∈ lw_g := lw_g_mk (tb_6 (List.mem_of_getElem? (i := 114) rfl)) rfl
theorem wq_1357 : Cond.instanceMethod yJ4_init_da8c8 ∈ lw_g := lw_g_mk (tb_6 (List.mem_of_getElem? (i := 93) rfl)) rfl
theorem wq_1355 : Cond.instantiable RJ4 4 ∈ lw_g := lw_g_mk (tb_6 (List.mem_of_getElem? (i := 91) rfl)) rfl
theorem wq_1161 : Cond.code yX6_init cX6_init 1 none ∈ lw_g := lw_g_mk (tb_5 (List.mem_of_getElem? (i := 137) rfl)) rfl
theorem wq_1162 : Cond.methodLink RX6 1 objectInit ∈ lw_g := lw_g_mk (tb_5 (List.mem_of_getElem? (i := 138) rfl)) rfl
theorem wq_1163 : Cond.classLink RX6 7 "[I" ∈ lw_g := lw_g_mk (tb_5 (List.mem_of_getElem? (i := 139) rfl)) rfl
theorem wn_1164 : Cond.arrayOver (.array .int) ∈ lw_n := lw_n_mk (tb_5 (List.mem_of_getElem? (i := 140) rfl)) rfl
theorem dX6_init_0 : decode cX6_init 0 = .ok (.aload_n 0, 1) := by decide +kernel
theorem dX6_init_1 : decode cX6_init 1 = .ok (.invokespecial 1, 3) := by decide +kernel
theorem dX6_init_4 : decode cX6_init 4 = .ok (.aload_n 0, 1) := by decide +kernel
theorem dX6_init_5 : decode cX6_init 5 = .ok (.iconst 0, 1) := by decide +kernel
theorem dX6_init_6 : decode cX6_init 6 = .ok (.anewarray 7, 3) := by decide +kernel
theorem dX6_init_9 : decode cX6_init 9 = .ok (.putfield 9, 3) := by decide +kernel
theorem dX6_init_12 : decode cX6_init 12 = .ok (.aload_n 0, 1) := by decide +kernel
theorem dX6_init_13 : decode cX6_init 13 = .ok (.iconst 0, 1) := by decide +kernel
theorem dX6_init_14 : decode cX6_init 14 = .ok (.anewarray 7, 3) := by decide +kernel
theorem dX6_init_17 : decode cX6_init 17 = .ok (.putfield 15, 3) := by decide +kernel
theorem dX6_init_20 : decode cX6_init 20 = .ok (.aload_n 0, 1) := by decide +kernel
theorem dX6_init_21 : decode cX6_init 21 = .ok (.iconst 0, 1) := by decide +kernel
theorem dX6_init_22 : decode cX6_init 22 = .ok (.anewarray 7, 3) := by decide +kernel
theorem dX6_init_25 : decode cX6_init 25 = .ok (.putfield 18, 3) := by decide +kernel
theorem dX6_init_28 : decode cX6_init 28 = .ok (.aload_n 0, 1) := by decide +kernel
theorem dX6_init_29 : decode cX6_init 29 = .ok (.iconst 0, 1) := by decide +kernel
theorem dX6_init_30 : decode cX6_init 30 = .ok (.anewarray 7, 3) := by decide +kernel
theorem dX6_init_33 : decode cX6_init 33 = .ok (.putfield 21, 3) := by decide +kernel
theorem dX6_init_36 : decode cX6_init 36 = .ok (.aload_n 0, 1) := by decide +kernel
theorem dX6_init_37 : decode cX6_init 37 = .ok (.iconst 0, 1) := by decide +kernel
theorem dX6_init_38 : decode cX6_init 38 = .ok (.anewarray 7, 3) := by decide +kernel
theorem dX6_init_41 : decode cX6_init 41 = .ok (.putfield 24, 3) := by decide +kernel
theorem dX6_init_44 : decode cX6_init 44 = .ok (.aload_n 0, 1) := by decide +kernel
theorem dX6_init_45 : decode cX6_init 45 = .ok (.iconst 0, 1) := by decide +kernel
theorem dX6_init_46 : decode cX6_init 46 = .ok (.anewarray 7, 3) := by decide +kernel
theorem dX6_init_49 : decode cX6_init 49 = .ok (.putfield 27, 3) := by decide +kernel
theorem dX6_init_52 : decode cX6_init 52 = .ok (.aload_n 0, 1) := by decide +kernel
theorem dX6_init_53 : decode cX6_init 53 = .ok (.iconst (-1), 1) := by decide +kernel
theorem dX6_init_54 : decode cX6_init 54 = .ok (.putfield 30, 3) := by decide +kernel
theorem dX6_init_57 : decode cX6_init 57 = .ok (.return_, 1) := by decide +kernel
theorem mi_X6_init : MInfo yX6_init cX6_init 1 none 0 := ⟨wq_1161, wq_69, by decide, ⟨by decide +kernel, by decide +kernel, by decide +kernel⟩, by decide +kernel⟩
theorem notA {cl : List vw_C} {D : va_G} {w0 wr : va_W} {A : Nat → Prop} {H0 H : Heap} {locs : List Loc} (hT : TS cl D (w0 ++ wr) A H0 H locs) {i q : Nat} {e : va_E} (hi : wr[i]? = some (q, e)) : ¬ va_A w0 H.size q := by
  have h2 : (w0 ++ wr)[w0.length + i]? = some (q, e) := by rw [List.getElem?_append_right (by omega), Nat.add_sub_cancel_left]; exact hi
  intro z
  rcases z with ⟨k, e', hk⟩ | z
  · obtain ⟨hk1, hk2⟩ := List.getElem?_eq_some_iff.mp hk
    have h1 : (w0 ++ wr)[k]? = some (q, e') := by rw [List.getElem?_append_left hk1]; exact hk
    have := hT.2.1.1 k (w0.length + i) _ _ h1 h2 rfl
    omega
  · exact absurd (hT.1 _ _ h2).lt (Nat.not_lt.mpr z)
def TXT (T : List Nat) : Prop := ∀ x ∈ T, x < 128
theorem TXT.app {T t : List Nat} (h1 : TXT T) (h2 : TXT t) : TXT (T ++ t) := fun x hx => (List.mem_append.mp hx).elim (h1 x) (h2 x)
theorem lst_txt : ∀ i, i < 43 → (lst i).all (fun x => Nat.blt x 128) = true := by decide +kernel
theorem TXT.lst {i : Nat} (hi : i < 43) : TXT (lst i) := fun x hx => (by
  have := List.all_eq_true.mp (lst_txt i hi) x hx
  have h9 : x ≤ 127 := by simpa [Nat.blt] using this
  omega)
theorem TXT.decs {x : Nat} (h : x ≤ 99) : TXT (decs x) := by
  intro y hy
  unfold _root_.Jvm.Pilot.CTunnelLeggersLaw_law_r7561_418b36.decs at hy
  split at hy
  · rw [List.mem_singleton.mp hy]; omega
  · rcases List.mem_cons.mp hy with e | hy
    · rw [e]; omega
    · rw [List.mem_singleton.mp hy]; omega
theorem fitsB : ∀ x : Nat, x < 128 → fits .byte (.int (nI x)) = true := by decide +kernel
theorem TXT.bf {t : List Nat} {g : Nat → Int32} (h : TXT t) (hg : ∀ j, j < t.length → g j = nI (t.getD j 0)) : BF t.length g := by
  intro i hi
  rw [hg i hi]
  apply fitsB
  rw [List.getD_eq_getElem?_getD, List.getElem?_eq_getElem hi]
  exact h _ (List.getElem_mem hi)
def SPf (Z : Nat → ClassId) (sa : Nat) (o : Nat → Nat) (ro : Nat → Nat → Nat) (nn kk : Nat → Nat) (N : M2) : va_W := [(sa, .inr (6, [.int (N 0 0), .int (N 1 0), .ref (o 0), .ref (o 1), .ref (o 2), .ref (o 3), .ref (o 4), .ref (o 5), .int (N 2 0)])), (o 0, .inl (Z 3, nn 0, .inr (.inr (.inr (.inr (fun j => if j < kk 0 then some (ro 0 j) else none)))))), (o 1, .inl (Z 3, nn 1, .inr (.inr (.inr (.inr (fun j => if j < kk 1 then some (ro 1 j) else none)))))), (o 2, .inl (Z 3, nn 2, .inr (.inr (.inr (.inr (fun j => if j < kk 2 then some (ro 2 j) else none)))))), (o 3, .inl (Z 3, nn 3, .inr (.inr (.inr (.inr (fun j => if j < kk 3 then some (ro 3 j) else none)))))), (o 4, .inl (Z 3, nn 4, .inr (.inr (.inr (.inr (fun j => if j < kk 4 then some (ro 4 j) else none)))))), (o 5, .inl (Z 3, nn 5, .inr (.inr (.inr (.inr (fun j => if j < kk 5 then some (ro 5 j) else none))))))]
def siW (Z : Nat → ClassId) (sa : Nat) : Option (Nat → Nat) → va_W
  | none => [(sa, .inr (6, [.int 0, .int 0, .null, .null, .null, .null, .null, .null, .int 0]))]
  | some o => SPf Z sa o (fun _ _ => 0) (fun _ => 0) (fun _ => 0) (up2 zM 2 (fun _ => -1))
theorem noneF (r : Nat → Nat) : (fun j => if j < 0 then some (r j) else none) = (fun _ => (none : Option Nat)) := funext fun j => if_neg (Nat.not_lt_zero j)
section ROWSB
variable {p : Program} {l : Launch} {e : Env} {s : State} {m : MethodId} {args : Array Value} {below : List Frame} {meth : Method} {c : Code} {H : Heap} {locs : List Loc} {cells slots : Nat} {Q : State → Prop} {rn mcR msR : Nat}
variable {pc : Nat} {ls : Array Slot} {rest : List Value} {A : Nat → Prop} {D : va_G} {Z : Nat → ClassId} {ws wr : va_W} {rx : Nat → Nat} {u : SBS} {T : List Nat} {b : Nat}
variable {cc : ByteArray} {nL index : Nat} {own : String}
theorem w_sbNew {R : Room} (hC : CallFix p m c cc nL s args lw_g own) (hK : va_K D vwCl (tysG Z) s) (hT : TS vwCl D ws A s.heap H locs) (hcl : Cond.classLink own index RJ4 ∈ lw_g) (hcells : cells + 1 ≤ R.cells) (hslots : slots + 4 ≤ R.slots) (hdg : decode cc pc = .ok (.new index, 3))
    (kk : ∀ (q : Nat) (H1 : Heap), TS vwCl D (sbN Z q none ++ ws) A s.heap H1 locs → W p l e R s m args below meth c H1 locs (cells + 1) (slots + 4) Q (F0 m (pc + 3) ls (.ref q :: rest))) : W p l e R s m args below meth c H locs cells slots Q (F0 m pc ls rest) :=
  w_newO (C := RJ4) (T := TJ4) (N := 4) (ci := 8) (ty0 := tyJ4) (fs := [.null, .int 0, .int 0, .int 0]) hC hK hT fi_J4 tyJ4_ok hcl wq_1355 wq_66 rfl (by decide) hcells hslots hdg (fun q H1 hT1 => kk q H1 hT1.front)
theorem w_sbIni (hC : CallFix p m c cc nL s args lw_g own) (hN : NW s) (hK : va_K D vwCl (tysG Z) s) (hR : RD rx A s s.heap) (hT : TS vwCl D (sbN Z b none ++ wr) A s.heap H locs) (hl : Cond.methodLink own index yJ4_init_da8c8 ∈ lw_g) (hlt : 2 < rn) (hsize : ls.size = nL) (hW : (rest.map fun v => v.category).sum ≤ 8) (hdg : decode cc pc = .ok (.invokespecial index, 3)) (hf : cells + 1 ≤ mcR ∧ slots + 16 ≤ msR)
    (kk : ∀ (u : SBS) (H1 : Heap) (locs1 : List Loc), SBI u [] → TS vwCl D (sbW Z b u ++ wr) A s.heap H1 locs1 → W p l e (rk rn mcR msR) s m args below meth c H1 locs1 (cells + 1) (slots + 16) Q (F0 m (pc + 3) ls rest)) : W p l e (rk rn mcR msR) s m args below meth c H locs cells slots Q (F0 m pc ls (.ref b :: rest)) := by
  refine goV (u0 := none) (wsF := sbN Z b) (runIG (As := []) (RD.rg rx) hC hN ((RD.rg rx).appL (hT.rg (RD.rg rx) hR)) (c_sbInit l D Z rx _ b) mi_J4_init_da8c8 hl wq_1357 rfl hlt hT.dropR.1 hT.dropR.D' hK rfl hsize rfl hW hdg hf) rfl hT (fun u H1 locs1 hk hT1 => ?_)
  obtain ⟨q, rfl⟩ := hk
  exact kk (q, 16, 0, fun _ => 0) H1 locs1 (SBI.nil q) hT1
theorem w_sbApp {q w : Nat} {t : List Nat} {bts : Nat → Int32} (hC : CallFix p m c cc nL s args lw_g own) (hN : NW s) (hK : va_K D vwCl (tysG Z) s) (hR : RD rx A s s.heap) (hT : TS vwCl D (sbW Z b u ++ wr) A s.heap H locs) (hI : SBI u T) (hE : SE q w t.length bts (va_A (sbW Z b u) H.size) s H) (ht : TXT t) (hby : ∀ j, j < t.length → bts j = nI (t.getD j 0)) (hlen : (T ++ t).length ≤ 1500) (hl : Cond.methodLink own index yJ4_append_15ec4 ∈ lw_g) (hlt : 5 < rn) (hsize : ls.size = nL) (hW : (rest.map fun v => v.category).sum ≤ 8) (hdg : decode cc pc = .ok (.invokevirtual index, 3)) (hf : cells + 1 ≤ mcR ∧ slots + 4000 ≤ msR)
    (kk : ∀ (u1 : SBS) (H1 : Heap) (locs1 : List Loc), SBI u1 (T ++ t) → TS vwCl D (sbW Z b u1 ++ wr) A s.heap H1 locs1 → W p l e (rk rn mcR msR) s m args below meth c H1 locs1 (cells + 1) (slots + 4000) Q (F0 m (pc + 3) ls (.ref b :: rest))) : W p l e (rk rn mcR msR) s m args below meth c H locs cells slots Q (F0 m pc ls (.ref q :: .ref b :: rest)) := by
  obtain ⟨v, cap, n, f⟩ := u
  exact goQ (u0 := (v, cap, n, f)) (g := fun _ => b) (wsF := sbW Z b) (runVG (As := [.ref q]) (RS.rg rx q w t.length bts) hC hN ⟨(RD.rg rx).appL (hT.rg (RD.rg rx) hR), hE⟩ (c_sbApp l D Z rx _ b v cap q w T t n f bts hI hby (ht.bf hby) hlen) mi_J4_append_15ec4 hl wq_1204 wq_1205 hlt hT.dropR.1 hT.dropR.D' hK (sb_recv hK hT.1) rfl hsize rfl hW hdg hf) rfl hT (fun u1 H1 locs1 hk hT1 => kk u1 H1 locs1 hk hT1)
theorem w_sbLit {i : Nat} (hi : i < 43) (hC : CallFix p m c cc nL s args lw_g own) (hN : NW s) (hK : va_K D vwCl (tysG Z) s) (hR : RD rx A s s.heap) (hT : TS vwCl D (sbW Z b u ++ wr) A s.heap H locs) (hI : SBI u T) (hlen : (T ++ lst i).length ≤ 1500) (hl : Cond.methodLink own index yJ4_append_15ec4 ∈ lw_g) (hlt : 5 < rn) (hsize : ls.size = nL) (hW : (rest.map fun v => v.category).sum ≤ 8) (hdg : decode cc pc = .ok (.invokevirtual index, 3)) (hf : cells + 1 ≤ mcR ∧ slots + 4000 ≤ msR)
    (kk : ∀ (u1 : SBS) (H1 : Heap) (locs1 : List Loc), SBI u1 (T ++ lst i) → TS vwCl D (sbW Z b u1 ++ wr) A s.heap H1 locs1 → W p l e (rk rn mcR msR) s m args below meth c H1 locs1 (cells + 1) (slots + 4000) Q (F0 m (pc + 3) ls (.ref b :: rest))) : W p l e (rk rn mcR msR) s m args below meth c H locs cells slots Q (F0 m pc ls (.ref (rx (500 + i)) :: .ref b :: rest)) :=
  w_sbApp (w := rx (600 + i)) (t := lst i) (bts := lsb i) hC hN hK hR hT hI (((RD.rg rx).appL (hT.rg (RD.rg rx) hR)).2.2.2.1 i hi) (TXT.lst hi) (fun _ _ => rfl) hlen hl hlt hsize hW hdg hf kk
theorem w_sbInt {x : Nat} (hx : x ≤ 99) (hC : CallFix p m c cc nL s args lw_g own) (hN : NW s) (hK : va_K D vwCl (tysG Z) s) (hR : RD rx A s s.heap) (hT : TS vwCl D (sbW Z b u ++ wr) A s.heap H locs) (hI : SBI u T) (hlen : (T ++ decs x).length ≤ 1500) (hl : Cond.methodLink own index yJ4_append_bf812 ∈ lw_g) (hlt : 5 < rn) (hsize : ls.size = nL) (hW : (rest.map fun v => v.category).sum ≤ 8) (hdg : decode cc pc = .ok (.invokevirtual index, 3)) (hf : cells + 1 ≤ mcR ∧ slots + 4000 ≤ msR)
    (kk : ∀ (u1 : SBS) (H1 : Heap) (locs1 : List Loc), SBI u1 (T ++ decs x) → TS vwCl D (sbW Z b u1 ++ wr) A s.heap H1 locs1 → W p l e (rk rn mcR msR) s m args below meth c H1 locs1 (cells + 1) (slots + 4000) Q (F0 m (pc + 3) ls (.ref b :: rest))) : W p l e (rk rn mcR msR) s m args below meth c H locs cells slots Q (F0 m pc ls (.int (nI x) :: .ref b :: rest)) := by
  obtain ⟨v, cap, n, f⟩ := u
  exact goQ (u0 := (v, cap, n, f)) (g := fun _ => b) (wsF := sbW Z b) (runVG (As := [.int (nI x)]) (RD.rg rx) hC hN ((RD.rg rx).appL (hT.rg (RD.rg rx) hR)) (c_sbAppI l D Z rx _ b v cap x T n f hI hx hlen) mi_J4_append_bf812 hl wq_1310 wq_1311 hlt hT.dropR.1 hT.dropR.D' hK (sb_recv hK hT.1) rfl hsize rfl hW hdg hf) rfl hT (fun u1 H1 locs1 hk hT1 => kk u1 H1 locs1 hk hT1)
theorem w_sbStr (hC : CallFix p m c cc nL s args lw_g own) (hN : NW s) (hK : va_K D vwCl (tysG Z) s) (hR : RD rx A s s.heap) (hT : TS vwCl D (sbW Z b u ++ wr) A s.heap H locs) (hI : SBI u T) (hl : Cond.methodLink own index yJ4_toString_0e30d ∈ lw_g) (hlt : 7 < rn) (hsize : ls.size = nL) (hW : (rest.map fun v => v.category).sum ≤ 8) (hdg : decode cc pc = .ok (.invokevirtual index, 3)) (hf : cells + 2 ≤ mcR ∧ slots + 4004 ≤ msR)
    (kk : ∀ (q w : Nat) (g : Nat → Int32) (H1 : Heap) (locs1 : List Loc), (∀ j, j < T.length → g j = nI (T.getD j 0)) → TS vwCl D ([stC q w, (w, .inl (Z 2, T.length, .inl g))] ++ wr) A s.heap H1 locs1 → W p l e (rk rn mcR msR) s m args below meth c H1 locs1 (cells + 2) (slots + 4004) Q (F0 m (pc + 3) ls (.ref q :: rest))) : W p l e (rk rn mcR msR) s m args below meth c H locs cells slots Q (F0 m pc ls (.ref b :: rest)) := by
  obtain ⟨v, cap, n, f⟩ := u
  obtain ⟨h1, h2, h3, h4, h5⟩ := hI
  have h1 : n = nI T.length := h1
  subst h1
  refine goQ (u0 := none) (g := fun u => (u.getD (0, 0, fun _ => 0)).1) (wsF := tsW Z b v cap T.length f) (runVG (As := []) (RD.rg rx) hC hN ((RD.rg rx).appL (hT.rg (RD.rg rx) hR)) (c_toString l D Z rx _ b v cap T.length f h2 h3 h4) mi_J4_toString_0e30d hl wq_1377 wq_1378 hlt hT.dropR.1 hT.dropR.D' hK (sb_recv hK hT.1) rfl hsize rfl hW hdg hf) rfl hT (fun u1 H1 locs1 hk hT1 => ?_)
  obtain ⟨q, w, g, rfl, hg⟩ := hk
  exact kk q w g H1 locs1 (fun j hj => (hg j hj).trans (h5 j hj)) (hT1.sub (List.Sublist.append (List.sublist_append_right _ _) (List.Sublist.refl _)))
end ROWSB
set_option maxRecDepth 100000 in
set_option maxHeartbeats 4000000 in
theorem c_X6_init (l : Launch) (D : va_G) (Z : Nat → ClassId) (sz sa : Nat) : Met l yX6_init (wy yX6_init cX6_init 1 none) (rk 1 6 0) (preG (fun _ _ _ => True) vwCl D Z (siW Z sa none) sz [.ref sa]) (poV vwCl D Z (siW Z sa) none sz (fun u => ∃ o, u = some o)) 6 0 (va_A (siW Z sa none) sz) := by
  refine rwv_ofG (by decide +kernel) (Nat.le_of_ble_eq_true rfl) rfl ?_
  intro p e s m args below meth c Q A hC hN hR hsz hnm hT hK hret ls hl
  have hx := hC.1
  have hb := hC.2.1
  have hl : lv_has ls 1 [(0, .ref sa)] := hl
  have hT : TS vwCl D [(sa, .inr (6, [.int 0, .int 0, .null, .null, .null, .null, .null, .null, .int 0]))] A s.heap s.heap [] := hT
  refine lv_aload_n hx hb dX6_init_0 rfl (lv_at hl 0 rfl) ?_
  refine w_objInit hC wq_1162 wq_96 wq_97 hl.1 (by decide) (Nat.le_of_ble_eq_true rfl) dX6_init_1 ?_
  refine lv_aload_n hx hb dX6_init_4 rfl (lv_at hl 0 rfl) ?_
  refine lv_iconst (v := 0) hx hb dX6_init_5 (by decide) ?_
  refine w_newA (N := 0) hC hK hT hN wq_1163 wn_1164 (by decide) (by decide) (by decide) (by show _ ≤ 6; omega) (by show _ ≤ 0; omega) dX6_init_6 (fun q0 H0 hT => ?_)
  have hT : TS vwCl D [(sa, .inr (6, [.int 0, .int 0, .null, .null, .null, .null, .null, .null, .int 0])), (q0, .inl (Z 3, 0, .inr (.inr (.inr (.inr (fun _ => none))))))] A s.heap H0 _ := hT
  refine w_put (C := RX6) (T := TX6) (N := 9) (ci := 6) (q0 := 0) (k := 2) (ty0 := tyX6) (ty := .array (.array .int)) (ws' := [(sa, .inr (6, [.int 0, .int 0, .ref q0, .null, .null, .null, .null, .null, .int 0])), (q0, .inl (Z 3, 0, .inr (.inr (.inr (.inr (fun _ => none))))))]) hC hK hT fi_X6 tyX6_ok nmX6 rfl rfl (by decide) rfl rfl rfl rfl rfl (Nat.le_of_ble_eq_true rfl) rfl wq_1169 dX6_init_9 (fun H locs hT => ?_)
  refine lv_aload_n hx hb dX6_init_12 rfl (lv_at hl 0 rfl) ?_
  refine lv_iconst (v := 0) hx hb dX6_init_13 (by decide) ?_
  refine w_newA (N := 0) hC hK hT hN wq_1163 wn_1164 (by decide) (by decide) (by decide) (by show _ ≤ 6; omega) (by show _ ≤ 0; omega) dX6_init_14 (fun q1 H1 hT => ?_)
  have hT : TS vwCl D [(sa, .inr (6, [.int 0, .int 0, .ref q0, .null, .null, .null, .null, .null, .int 0])), (q0, .inl (Z 3, 0, .inr (.inr (.inr (.inr (fun _ => none)))))), (q1, .inl (Z 3, 0, .inr (.inr (.inr (.inr (fun _ => none))))))] A s.heap H1 _ := hT
  refine w_put (C := RX6) (T := TX6) (N := 9) (ci := 6) (q0 := 0) (k := 3) (ty0 := tyX6) (ty := .array (.array .int)) (ws' := [(sa, .inr (6, [.int 0, .int 0, .ref q0, .ref q1, .null, .null, .null, .null, .int 0])), (q0, .inl (Z 3, 0, .inr (.inr (.inr (.inr (fun _ => none)))))), (q1, .inl (Z 3, 0, .inr (.inr (.inr (.inr (fun _ => none))))))]) hC hK hT fi_X6 tyX6_ok nmX6 rfl rfl (by decide) rfl rfl rfl rfl rfl (Nat.le_of_ble_eq_true rfl) rfl wq_1171 dX6_init_17 (fun H locs hT => ?_)
  refine lv_aload_n hx hb dX6_init_20 rfl (lv_at hl 0 rfl) ?_
  refine lv_iconst (v := 0) hx hb dX6_init_21 (by decide) ?_
  refine w_newA (N := 0) hC hK hT hN wq_1163 wn_1164 (by decide) (by decide) (by decide) (by show _ ≤ 6; omega) (by show _ ≤ 0; omega) dX6_init_22 (fun q2 H2 hT => ?_)
  have hT : TS vwCl D [(sa, .inr (6, [.int 0, .int 0, .ref q0, .ref q1, .null, .null, .null, .null, .int 0])), (q0, .inl (Z 3, 0, .inr (.inr (.inr (.inr (fun _ => none)))))), (q1, .inl (Z 3, 0, .inr (.inr (.inr (.inr (fun _ => none)))))), (q2, .inl (Z 3, 0, .inr (.inr (.inr (.inr (fun _ => none))))))] A s.heap H2 _ := hT
  refine w_put (C := RX6) (T := TX6) (N := 9) (ci := 6) (q0 := 0) (k := 4) (ty0 := tyX6) (ty := .array (.array .int)) (ws' := [(sa, .inr (6, [.int 0, .int 0, .ref q0, .ref q1, .ref q2, .null, .null, .null, .int 0])), (q0, .inl (Z 3, 0, .inr (.inr (.inr (.inr (fun _ => none)))))), (q1, .inl (Z 3, 0, .inr (.inr (.inr (.inr (fun _ => none)))))), (q2, .inl (Z 3, 0, .inr (.inr (.inr (.inr (fun _ => none))))))]) hC hK hT fi_X6 tyX6_ok nmX6 rfl rfl (by decide) rfl rfl rfl rfl rfl (Nat.le_of_ble_eq_true rfl) rfl wq_1173 dX6_init_25 (fun H locs hT => ?_)
  refine lv_aload_n hx hb dX6_init_28 rfl (lv_at hl 0 rfl) ?_
  refine lv_iconst (v := 0) hx hb dX6_init_29 (by decide) ?_
  refine w_newA (N := 0) hC hK hT hN wq_1163 wn_1164 (by decide) (by decide) (by decide) (by show _ ≤ 6; omega) (by show _ ≤ 0; omega) dX6_init_30 (fun q3 H3 hT => ?_)
  have hT : TS vwCl D [(sa, .inr (6, [.int 0, .int 0, .ref q0, .ref q1, .ref q2, .null, .null, .null, .int 0])), (q0, .inl (Z 3, 0, .inr (.inr (.inr (.inr (fun _ => none)))))), (q1, .inl (Z 3, 0, .inr (.inr (.inr (.inr (fun _ => none)))))), (q2, .inl (Z 3, 0, .inr (.inr (.inr (.inr (fun _ => none)))))), (q3, .inl (Z 3, 0, .inr (.inr (.inr (.inr (fun _ => none))))))] A s.heap H3 _ := hT
  refine w_put (C := RX6) (T := TX6) (N := 9) (ci := 6) (q0 := 0) (k := 5) (ty0 := tyX6) (ty := .array (.array .int)) (ws' := [(sa, .inr (6, [.int 0, .int 0, .ref q0, .ref q1, .ref q2, .ref q3, .null, .null, .int 0])), (q0, .inl (Z 3, 0, .inr (.inr (.inr (.inr (fun _ => none)))))), (q1, .inl (Z 3, 0, .inr (.inr (.inr (.inr (fun _ => none)))))), (q2, .inl (Z 3, 0, .inr (.inr (.inr (.inr (fun _ => none)))))), (q3, .inl (Z 3, 0, .inr (.inr (.inr (.inr (fun _ => none))))))]) hC hK hT fi_X6 tyX6_ok nmX6 rfl rfl (by decide) rfl rfl rfl rfl rfl (Nat.le_of_ble_eq_true rfl) rfl wq_1175 dX6_init_33 (fun H locs hT => ?_)
  refine lv_aload_n hx hb dX6_init_36 rfl (lv_at hl 0 rfl) ?_
  refine lv_iconst (v := 0) hx hb dX6_init_37 (by decide) ?_
  refine w_newA (N := 0) hC hK hT hN wq_1163 wn_1164 (by decide) (by decide) (by decide) (by show _ ≤ 6; omega) (by show _ ≤ 0; omega) dX6_init_38 (fun q4 H4 hT => ?_)
  have hT : TS vwCl D [(sa, .inr (6, [.int 0, .int 0, .ref q0, .ref q1, .ref q2, .ref q3, .null, .null, .int 0])), (q0, .inl (Z 3, 0, .inr (.inr (.inr (.inr (fun _ => none)))))), (q1, .inl (Z 3, 0, .inr (.inr (.inr (.inr (fun _ => none)))))), (q2, .inl (Z 3, 0, .inr (.inr (.inr (.inr (fun _ => none)))))), (q3, .inl (Z 3, 0, .inr (.inr (.inr (.inr (fun _ => none)))))), (q4, .inl (Z 3, 0, .inr (.inr (.inr (.inr (fun _ => none))))))] A s.heap H4 _ := hT
  refine w_put (C := RX6) (T := TX6) (N := 9) (ci := 6) (q0 := 0) (k := 6) (ty0 := tyX6) (ty := .array (.array .int)) (ws' := [(sa, .inr (6, [.int 0, .int 0, .ref q0, .ref q1, .ref q2, .ref q3, .ref q4, .null, .int 0])), (q0, .inl (Z 3, 0, .inr (.inr (.inr (.inr (fun _ => none)))))), (q1, .inl (Z 3, 0, .inr (.inr (.inr (.inr (fun _ => none)))))), (q2, .inl (Z 3, 0, .inr (.inr (.inr (.inr (fun _ => none)))))), (q3, .inl (Z 3, 0, .inr (.inr (.inr (.inr (fun _ => none)))))), (q4, .inl (Z 3, 0, .inr (.inr (.inr (.inr (fun _ => none))))))]) hC hK hT fi_X6 tyX6_ok nmX6 rfl rfl (by decide) rfl rfl rfl rfl rfl (Nat.le_of_ble_eq_true rfl) rfl wq_1177 dX6_init_41 (fun H locs hT => ?_)
  refine lv_aload_n hx hb dX6_init_44 rfl (lv_at hl 0 rfl) ?_
  refine lv_iconst (v := 0) hx hb dX6_init_45 (by decide) ?_
  refine w_newA (N := 0) hC hK hT hN wq_1163 wn_1164 (by decide) (by decide) (by decide) (by show _ ≤ 6; omega) (by show _ ≤ 0; omega) dX6_init_46 (fun q5 H5 hT => ?_)
  have hT : TS vwCl D [(sa, .inr (6, [.int 0, .int 0, .ref q0, .ref q1, .ref q2, .ref q3, .ref q4, .null, .int 0])), (q0, .inl (Z 3, 0, .inr (.inr (.inr (.inr (fun _ => none)))))), (q1, .inl (Z 3, 0, .inr (.inr (.inr (.inr (fun _ => none)))))), (q2, .inl (Z 3, 0, .inr (.inr (.inr (.inr (fun _ => none)))))), (q3, .inl (Z 3, 0, .inr (.inr (.inr (.inr (fun _ => none)))))), (q4, .inl (Z 3, 0, .inr (.inr (.inr (.inr (fun _ => none)))))), (q5, .inl (Z 3, 0, .inr (.inr (.inr (.inr (fun _ => none))))))] A s.heap H5 _ := hT
  refine w_put (C := RX6) (T := TX6) (N := 9) (ci := 6) (q0 := 0) (k := 7) (ty0 := tyX6) (ty := .array (.array .int)) (ws' := [(sa, .inr (6, [.int 0, .int 0, .ref q0, .ref q1, .ref q2, .ref q3, .ref q4, .ref q5, .int 0])), (q0, .inl (Z 3, 0, .inr (.inr (.inr (.inr (fun _ => none)))))), (q1, .inl (Z 3, 0, .inr (.inr (.inr (.inr (fun _ => none)))))), (q2, .inl (Z 3, 0, .inr (.inr (.inr (.inr (fun _ => none)))))), (q3, .inl (Z 3, 0, .inr (.inr (.inr (.inr (fun _ => none)))))), (q4, .inl (Z 3, 0, .inr (.inr (.inr (.inr (fun _ => none)))))), (q5, .inl (Z 3, 0, .inr (.inr (.inr (.inr (fun _ => none))))))]) hC hK hT fi_X6 tyX6_ok nmX6 rfl rfl (by decide) rfl rfl rfl rfl rfl (Nat.le_of_ble_eq_true rfl) rfl wq_1179 dX6_init_49 (fun H locs hT => ?_)
  refine lv_aload_n hx hb dX6_init_52 rfl (lv_at hl 0 rfl) ?_
  refine lv_iconst (v := (-1)) hx hb dX6_init_53 (by decide) ?_
  refine w_put (C := RX6) (T := TX6) (N := 9) (ci := 6) (q0 := 0) (k := 8) (ty0 := tyX6) (ty := .int) (ws' := [(sa, .inr (6, [.int 0, .int 0, .ref q0, .ref q1, .ref q2, .ref q3, .ref q4, .ref q5, .int (-1)])), (q0, .inl (Z 3, 0, .inr (.inr (.inr (.inr (fun _ => none)))))), (q1, .inl (Z 3, 0, .inr (.inr (.inr (.inr (fun _ => none)))))), (q2, .inl (Z 3, 0, .inr (.inr (.inr (.inr (fun _ => none)))))), (q3, .inl (Z 3, 0, .inr (.inr (.inr (.inr (fun _ => none)))))), (q4, .inl (Z 3, 0, .inr (.inr (.inr (.inr (fun _ => none)))))), (q5, .inl (Z 3, 0, .inr (.inr (.inr (.inr (fun _ => none))))))]) hC hK hT fi_X6 tyX6_ok nmX6 rfl rfl (by decide) rfl rfl rfl rfl rfl (Nat.le_of_ble_eq_true rfl) rfl wq_1181 dX6_init_54 (fun H locs hT => ?_)
  have hT : TS vwCl D (siW Z sa (some (fun g => [q0, q1, q2, q3, q4, q5].getD g 0))) A s.heap H locs := by
    unfold siW SPf
    simp only [noneF]
    exact hT
  exact hret 57 ls _ _ (some (fun g => [q0, q1, q2, q3, q4, q5].getD g 0)) ⟨_, rfl⟩ hT dX6_init_57
