theorem wq_90 : Cond.classLink RL 10 RX5 ∈ lw_g := lw_g_mk (tb_1 (List.mem_of_getElem? (i := 26) rfl)) rfl
theorem wq_91 : Cond.instantiable RX5 7 ∈ lw_g := lw_g_mk (tb_1 (List.mem_of_getElem? (i := 27) rfl)) rfl
theorem wq_92 : Cond.methodLink RL 195 yX5_init ∈ lw_g := lw_g_mk (tb_1 (List.mem_of_getElem? (i := 28) rfl)) rfl
theorem wq_905 : Cond.methodLink RL 196 yL_taught ∈ lw_g := lw_g_mk (tb_4 (List.mem_of_getElem? (i := 121) rfl)) rfl
theorem wq_1155 : Cond.methodLink RL 191 yL_list ∈ lw_g := lw_g_mk (tb_5 (List.mem_of_getElem? (i := 131) rfl)) rfl
theorem wq_1156 : Cond.static yL_list ∈ lw_g := lw_g_mk (tb_5 (List.mem_of_getElem? (i := 132) rfl)) rfl
theorem wq_906 : Cond.static yL_taught ∈ lw_g := lw_g_mk (tb_4 (List.mem_of_getElem? (i := 122) rfl)) rfl
theorem wq_93 : Cond.instanceMethod yX5_init ∈ lw_g := lw_g_mk (tb_1 (List.mem_of_getElem? (i := 29) rfl)) rfl
/-! ===== the law's entry ===== -/
section ENT
theorem TS.pickL {cl : List vw_C} {D : va_G} {w1 w1' X : va_W} {A : Nat → Prop} {H0 H : Heap} {locs : List Loc} (hT : TS cl D (w1 ++ X) A H0 H locs) (is : List Nat) (hnd : va_nd is = true) (hs : is.map (fun i => w1[i]?) = w1'.map some) : TS cl D (w1' ++ X) A H0 H locs := by
  have h1 := hT.dropR
  have hP := h1.1.sub is (map_fm hs)
  have hD := h1.2.1.sub is hnd hs
  have src : ∀ i, i < w1'.length → ∃ k, k < w1.length ∧ (w1 ++ X)[k]? = w1'[i]? := fun i hi => by
    have hl : is.length = w1'.length := by
      have := congrArg List.length hs
      rwa [List.length_map, List.length_map] at this
    have a := congrArg (fun l => l[i]?) hs
    simp only [List.getElem?_map] at a
    rw [List.getElem?_eq_getElem (show i < is.length by omega), List.getElem?_eq_getElem hi] at a
    have a : w1[is[i]]? = some (w1'[i]) := Option.some.inj a
    have hk : is[i] < w1.length := (List.getElem?_eq_some_iff.mp a).1
    exact ⟨is[i], hk, by rw [List.getElem?_append_left hk, a, List.getElem?_eq_getElem hi]⟩
  have hi : ∀ i q, (w1' ++ X)[i]? = some q → (i < w1'.length ∧ w1'[i]? = some q) ∨ (w1'.length ≤ i ∧ (w1 ++ X)[i - w1'.length + w1.length]? = some q) := fun i q h => by
    by_cases c : i < w1'.length
    · rw [List.getElem?_append_left c] at h
      exact Or.inl ⟨c, h⟩
    · rw [List.getElem?_append_right (by omega)] at h
      refine Or.inr ⟨by omega, ?_⟩
      rw [List.getElem?_append_right (by omega), Nat.add_sub_cancel]
      exact h
  refine ⟨fun k q h => ?_, ⟨fun i j x y hx hy e => ?_, fun k q h => ?_⟩, hT.2.2⟩
  · rcases hi k q h with ⟨_, a⟩ | ⟨_, a⟩
    · exact hP k q a
    · exact hT.1 _ q a
  · rcases hi i x hx with ⟨c1, a⟩ | ⟨c1, a⟩ <;> rcases hi j y hy with ⟨c2, b⟩ | ⟨c2, b⟩
    · exact hD.1 i j x y a b e
    · obtain ⟨k, hk, ek⟩ := src i c1
      have := hT.2.1.1 _ _ x y (ek.trans a) b e
      omega
    · obtain ⟨k, hk, ek⟩ := src j c2
      have := hT.2.1.1 _ _ x y a (ek.trans b) e
      omega
    · have := hT.2.1.1 _ _ x y a b e
      omega
  · rcases hi k q h with ⟨_, a⟩ | ⟨_, a⟩
    · exact hD.2 k q a
    · exact hT.2.1.2 _ q a
theorem chv_lo {g : Nat → Int32} {i n : Nat} (hi : i < 2000) (hn : n < 128) (h : g i = nI n) : chv g (nI i) = nI n := by
  unfold chv
  rw [tn_nI (by omega), h]
  exact (by decide +kernel : ∀ n, n < 128 → ((nI n &&& 255).toUInt32 % 65536).toInt32 = nI n) n hn
theorem le99 {x : Int32} {n : Nat} (e : x = nI n) (h : n ≤ 99) : x.toInt.toNat ≤ 99 := by rw [e, tn_nI (by omega)]; exact h
theorem txt_list {T : List Nat} {nn : Nat → Nat} {V U S W B O : M2} (D : LDAT T nn V U S W B O) : TXT T := by
  obtain ⟨⟨h0, h1, h2, h3, h4, h5⟩, hV, _, hS, hW, hB, hO, hT⟩ := D
  have hbd := fo_bd (nn 0) hV
  have tb : ∀ n, n ≤ nn 0 → TXT (tB V n) := fun n => by
    induction n with
    | zero => exact fun _ => TXT.nil
    | succ n ih =>
      intro hn
      obtain ⟨x, w, x1, x2, w9, e0, e1, _⟩ := hV n (by omega)
      exact (((((((ih (by omega)).app (TXT.lst (by decide))).app (TXT.decs (by omega))).app (TXT.lst (by decide))).app (TXT.decs (le99 e0 (by omega)))).app (TXT.lst (by decide))).app (TXT.decs (le99 e1 (by omega)))).app (TXT.lst (by decide))
  have ts : ∀ n, n ≤ nn 2 → TXT (tS (tB V (nn 0)) S n) := fun n => by
    induction n with
    | zero => exact fun _ => tb _ (Nat.le_refl _)
    | succ n ih =>
      intro hn
      obtain ⟨x, w, x1, w1, w2, e0, e1⟩ := hS n (by omega)
      exact (((((((ih (by omega)).app (TXT.lst (by decide))).app (TXT.decs (by omega))).app (TXT.lst (by decide))).app (TXT.decs (le99 e0 (by omega)))).app (TXT.lst (by decide))).app (TXT.decs (le99 e1 (by omega)))).app (TXT.lst (by decide))
  have tl : ∀ n, n ≤ nn 3 → TXT (tL (tS (tB V (nn 0)) S (nn 2)) W n) := fun n => by
    induction n with
    | zero => exact fun _ => ts _ (Nat.le_refl _)
    | succ n ih =>
      intro hn
      obtain ⟨x, w, x1, x2, w1, w2, e0, e1, _⟩ := hW n (by omega)
      exact (((((((ih (by omega)).app (TXT.lst (by decide))).app (TXT.decs (by omega))).app (TXT.lst (by decide))).app (TXT.decs (le99 e0 (by omega)))).app (TXT.lst (by decide))).app (TXT.decs (le99 e1 (by omega)))).app (TXT.lst (by decide))
  have ta : ∀ n, n ≤ nn 4 → TXT (tA (tL (tS (tB V (nn 0)) S (nn 2)) W (nn 3)) B n) := fun n => by
    induction n with
    | zero => exact fun _ => tl _ (Nat.le_refl _)
    | succ n ih =>
      intro hn
      obtain ⟨x, e, y, l1, l2, hx1, hx2, he, hy, hl1, hl2, hne, e0, e1, e2, _, _, _, _, e7, e8⟩ := hB n (by omega)
      have hif : TXT (if B n 1 = 0 then lst 34 else lst 35) := by split <;> exact TXT.lst (by decide)
      exact (((((((((((((ih (by omega)).app (TXT.lst (by decide))).app (TXT.decs (by omega))).app (TXT.lst (by decide))).app (TXT.decs (le99 e0 (by omega)))).app (TXT.lst (by decide))).app hif).app (TXT.lst (by decide))).app (TXT.decs (le99 e2 (by omega)))).app (TXT.lst (by decide))).app (TXT.decs (le99 e7 (by omega)))).app (TXT.lst (by decide))).app (TXT.decs (le99 e8 (by omega)))).app (TXT.lst (by decide))
  have to : ∀ n, n ≤ nn 5 → TXT (tO (nn 3) (nn 4) (tA (tL (tS (tB V (nn 0)) S (nn 2)) W (nn 3)) B (nn 4)) O n) := fun n => by
    induction n with
    | zero => exact fun _ => ta _ (Nat.le_refl _)
    | succ n ih =>
      intro hn
      obtain ⟨s, i, e, n', k, x, hs1, hi, he, hn', hk, hx, e0, e1, e2, e3, e4, e5⟩ := hO n (by omega)
      have hi5 : i ≤ 5 := by split at hi <;> omega
      have hhd : TXT (if O n 0 = 0 then (if O n 1 = 0 then lst 39 else lst 40) else [] ++ lst 41 ++ decs (O n 1).toInt.toNat) := by
        split
        · split <;> exact TXT.lst (by decide)
        · exact (TXT.nil.app (TXT.lst (by decide))).app (TXT.decs (le99 e1 (by omega)))
      have hte : TXT (testT (O n 2).toInt.toNat (O n 3).toInt.toNat (O n 4).toInt.toNat ((O n 5).toInt.toNat % nn 3) ((O n 5).toInt.toNat % nn 4)) := by
        have m1 := Nat.mod_lt (O n 5).toInt.toNat (show 0 < nn 3 by omega)
        have m2 := Nat.mod_lt (O n 5).toInt.toNat (show 0 < nn 4 by omega)
        exact testT_txt (le99 e3 (by omega)) (le99 e4 (by omega)) (by omega) (by omega)
      exact ((((ih (by omega)).app hhd).app (TXT.lst (by decide))).app hte).app (TXT.lst (by decide))
  rw [hT]
  exact to _ (Nat.le_refl _)
set_option maxRecDepth 100000 in
set_option maxHeartbeats 8000000 in
theorem t_entry {p : Program} {l : Launch} {e : Env} {s : State} {m : MethodId} {args : Array Value} {below : List Frame} {meth : Method} {c : Code} {Q : State → Prop} {A : Nat → Prop} {D : va_G} {rx : Nat → Nat} {Z : Nat → ClassId} {scr Ln : Nat} {xs : Nat → Int32} {ls : Array Slot} (hC : CallFix p m c cL_law 35 s args lw_g RL) (hN : NW s) (hfl : l.stackTraces = false) (hR : RX rx scr Ln xs A s s.heap) (hK : va_K D vwCl (tysG Z) s) (hLn : Ln < 2 ^ 31) (hA : ∀ q, s.heap.size ≤ q → A q) (hend : ∀ (H : Heap) (locs : List Loc) (ls : Array Slot) (cc cs : Nat), va_S A s.heap H locs → cc ≤ 600086 → cs ≤ 7301442 → W p l e (rk 2048 600086 7301442) s m args below meth c H locs cc cs Q (F0 m 1725 ls [.int 1])) (hl : lv_has ls 35 [(0, .ref scr)]) : W p l e (rk 2048 600086 7301442) s m args below meth c s.heap [] 0 0 Q (F0 m 0 ls []) := by
  have hx := hC.1
  have hb := hC.2.1
  have hT : TS vwCl D [] A s.heap s.heap [] := ⟨fun k q hq => (by cases hq), ⟨fun i j x y hx hy => (by cases hx), fun k q hq => (by cases hq)⟩, va_S.rf, hA⟩
  refine w_sbNew hC hK hT wq_1354 (Nat.le_of_ble_eq_true rfl) (Nat.le_of_ble_eq_true rfl) dL_law_0 (fun sb H hT => ?_)
  refine lv_dup hx hb dL_law_3 rfl ?_
  refine w_sbIni (wr := []) hC hN hK hR.1.1 hT wq_1356 (by decide) hl.1 (Nat.le_of_ble_eq_true rfl) dL_law_4 ⟨Nat.le_of_ble_eq_true rfl, Nat.le_of_ble_eq_true rfl⟩ (fun u H locs hu hT => ?_)
  refine lv_astore_n (lv' := [(1, .ref sb), (0, .ref scr)]) hx hb dL_law_7 rfl hl (by decide) rfl (fun ls hl => ?_)
  refine lv_aload_n hx hb dL_law_8 rfl (lv_at hl 1 rfl) ?_
  refine lv_aload_n hx hb dL_law_9 rfl (lv_at hl 0 rfl) ?_
  refine goQ (u0 := none) (g := fun x => (x.map Prod.fst).getD 0) (wsF := llW Z sb u) (runSG (As := [.ref scr, .ref sb]) (RX.rg rx scr Ln xs) hC hN ((RX.rg rx scr Ln xs).appL (hT.rg (RX.rg rx scr Ln xs) hR)) (c_L_list l D Z rx _ scr Ln sb xs u hu hLn (fun T nn kk V U S W B O => kk = nn ∧ LDAT T nn V U S W B O) (l_list (fun T nn V U S W B O D => ⟨rfl, D⟩))) mi_L_list wq_1155 wq_1156 (by decide) hT.dropR.1 hT.dropR.D' hK rfl hl.1 rfl (Nat.le_of_ble_eq_true rfl) dL_law_10 ⟨Nat.le_of_ble_eq_true rfl, Nat.le_of_ble_eq_true rfl⟩) rfl hT (fun x H locs hk hT => ?_)
  obtain ⟨sa, ⟨u1, o, ro, T, nn, kk, V, U, S, Wl, B, O⟩, rfl, hu1, hkk, hDat⟩ := hk
  have hkk : kk = nn := hkk
  subst hkk
  have hu1 : SBI u1 T := hu1
  have hDat : LDAT T kk V U S Wl B O := hDat
  have hT : TS vwCl D (sbW Z sb u1 ++ SM Z sa o ro kk V S O N0 U Wl B) A s.heap H locs := by
    have h : TS vwCl D (LL Z sa sb u1 o ro kk kk kk V U S Wl B O ++ []) A s.heap H locs := hT
    rw [List.append_nil, ll_sm] at h
    exact h
  refine lv_astore_n (lv' := [(2, .ref sa), (1, .ref sb), (0, .ref scr)]) hx hb dL_law_13 rfl hl (by decide) rfl (fun ls hl => ?_)
  refine w_newO (C := RX5) (T := TX5) (N := 7) (ci := 5) (ty0 := tyX5) (fs := [.null, .int 0, .int 0, .null, .null, .null, .null]) hC hK hT fi_X5 tyX5_ok wq_90 wq_91 wq_78 rfl (by decide) (Nat.le_of_ble_eq_true rfl) (Nat.le_of_ble_eq_true rfl) dL_law_14 (fun q0 H hT => ?_)
  have hT : TS vwCl D (iw_X5_init Z rx q0 none ++ (sbW Z sb u1 ++ SM Z sa o ro kk V S O N0 U Wl B)) A s.heap H locs := hT.front
  refine lv_dup hx hb dL_law_17 rfl ?_
  refine goV (u0 := none) (wsF := iw_X5_init Z rx q0) (runIR (As := []) hC hN (hT.dropR.rd hR.1.1) (c_X5_init l D Z rx _ q0 (fun F L => KWT F L) (c_words rfl (fun _ _ hw _ => hw))) mi_X5_init wq_92 wq_93 rfl (by decide) hT.dropR.1 hT.dropR.D' hK rfl hl.1 rfl (Nat.le_of_ble_eq_true rfl) dL_law_18 ⟨Nat.le_of_ble_eq_true rfl, Nat.le_of_ble_eq_true rfl⟩) rfl hT (fun x H locs hk hT => ?_)
  obtain ⟨a, t, b, q, q2, ap, bp, rp, F, L, rfl, ea, hW⟩ := hk
  have hT : TS vwCl D (LC Z a t b q q2 rx ap bp rp c5C tT0 tT0 zM (r5F F) (rdL L) c5C ++ (sbW Z sb u1 ++ SM Z sa o ro kk V S O N0 U Wl B)) A s.heap H locs := hT
  rw [← ea]
  refine lv_astore_n (lv' := [(3, .ref (a 90)), (2, .ref sa), (1, .ref sb), (0, .ref scr)]) hx hb dL_law_21 rfl hl (by decide) rfl (fun ls hl => ?_)
  refine lv_aload_n hx hb dL_law_22 rfl (lv_at hl 0 rfl) ?_
  refine lv_aload_n hx hb dL_law_23 rfl (lv_at hl 2 rfl) ?_
  have hT : TS vwCl D (sbW Z sb u1 ++ (LC Z a t b q q2 rx ap bp rp c5C tT0 tT0 zM (r5F F) (rdL L) c5C ++ SM Z sa o ro kk V S O N0 U Wl B)) A s.heap H locs := hT.perm (pm2 _ _ _)
  refine w_sbStr (wr := LC Z a t b q q2 rx ap bp rp c5C tT0 tT0 zM (r5F F) (rdL L) c5C ++ SM Z sa o ro kk V S O N0 U Wl B) hC hN hK hR.1.1 hT hu1 wq_1376 (by decide) hl.1 (Nat.le_of_ble_eq_true rfl) dL_law_24 ⟨Nat.le_of_ble_eq_true rfl, Nat.le_of_ble_eq_true rfl⟩ (fun sq w g H locs hg hT => ?_)
  have hlen := len_list hDat
  have hTX := txt_list hDat
  have hch : ∀ i, i < T.length → chv g (nI i) = nI (T.getD i 0) := fun i hi => by
    have e : T.getD i 0 = T[i] := by rw [List.getD_eq_getElem?_getD, List.getElem?_eq_getElem hi]; rfl
    exact chv_lo (by omega) (by rw [e]; exact hTX _ (List.getElem_mem hi)) (hg i hi)
  have hT : TS vwCl D (LC Z a t b q q2 rx ap bp rp c5C tT0 tT0 zM (r5F F) (rdL L) c5C ++ ([stC sq w, (w, .inl (Z 2, T.length, .inl g))] ++ SM Z sa o ro kk V S O N0 U Wl B)) A s.heap H locs := hT.perm (pm2 _ _ _)
  have hE : SE sq w T.length g (va_A (LC Z a t b q q2 rx ap bp rp c5C tT0 tT0 zM (r5F F) (rdL L) c5C) H.size) s H := SE.of hC.2.2.2.2 hK hT.1 (i0 := 79) (i1 := 80) rfl rfl (notA hT (i := 0) rfl) (notA hT (i := 1) rfl)
  refine goI (u0 := (q, q2, ap, bp, rp, c5C, tT0, tT0, zM, r5F F, rdL L, c5C)) (wsF := (fun u : (Nat → Nat) × (Nat → Nat) × Nat × Nat × Nat × M2 × M2 × M2 × M2 × M2 × L2 × M2 => LC Z a t b u.1 u.2.1 rx u.2.2.1 u.2.2.2.1 u.2.2.2.2.1 u.2.2.2.2.2.1 u.2.2.2.2.2.2.1 u.2.2.2.2.2.2.2.1 u.2.2.2.2.2.2.2.2.1 u.2.2.2.2.2.2.2.2.2.1 u.2.2.2.2.2.2.2.2.2.2.1 u.2.2.2.2.2.2.2.2.2.2.2)) (runSG (As := [.ref (a 90), .ref sq]) (RS.rg rx sq w T.length g) hC hN ⟨(RD.rg rx).appL (hT.rg (RD.rg rx) hR.1.1), hE⟩ (c_L_taught l D Z a t b q q2 rx _ sq w T.length g (by omega) ap bp rp c5C tT0 tT0 zM (r5F F) (rdL L) c5C (fun r ap' bp' rp' C' F' G' P' Y' L' B' => r = 0 ∧ C' 91 0 = 0 ∧ PLN kk V S Wl B O P' ∧ BEGF P' (kk 1) (kk 3) (kk 4) tT0 F') (taught_all hDat hch hTX rfl hW (fun C' F' P' Y' L' B' h1 h2 h3 => ⟨rfl, h1, h2, h3⟩))) mi_L_taught wq_905 wq_906 (by decide) hT.dropR.1 hT.dropR.D' hK rfl hl.1 rfl (Nat.le_of_ble_eq_true rfl) dL_law_27 ⟨Nat.le_of_ble_eq_true rfl, Nat.le_of_ble_eq_true rfl⟩) rfl hT (fun r x H locs hk hT => ?_)
  obtain ⟨q', q2', ap', bp', rp', C', F', G', P', Y', L', B'⟩ := x
  obtain ⟨hr, hC0, hPl, hF⟩ := hk
  have hC0 : C' 91 0 = 0 := hC0
  have hPl : PLN kk V S Wl B O P' := hPl
  have hF : BEGF P' (kk 1) (kk 3) (kk 4) tT0 F' := hF
  have hT : TS vwCl D (LC Z a t b q' q2' rx ap' bp' rp' C' F' G' P' Y' L' B' ++ ([stC sq w, (w, .inl (Z 2, T.length, .inl g))] ++ SM Z sa o ro kk V S O N0 U Wl B)) A s.heap H locs := hT
  have hT : TS vwCl D (LC Z a t b q' q2' rx ap' bp' rp' C' F' G' P' Y' L' B' ++ SM Z sa o ro kk V S O N0 U Wl B) A s.heap H locs := hT.sub (List.Sublist.append (List.Sublist.refl _) (List.sublist_append_right _ _))
  have hT : TS vwCl D (CA Z t b q' (a 90) (a 80) (a 60) (q2' 20) P' ap' F' G' C' ++ SM Z sa o ro kk V S O N0 U Wl B) A s.heap H locs := hT.pickL [55, 56, 57, 58, 59, 60, 61, 62, 63, 64, 65, 66, 34, 35, 36, 37, 38, 39, 40, 41, 42, 43, 44, 45, 46, 47, 48, 49, 50, 51, 52, 53, 54, 67, 68, 69, 70, 71, 72, 73, 74, 75, 76, 77, 78, 0] (by decide +kernel) rfl
  have hT : TS vwCl D ([] ++ ((CA Z t b q' (a 90) (a 80) (a 60) (q2' 20) P' ap' F' G' C') ++ ((SM Z sa o ro kk V S O N0 U Wl B) ++ []))) A s.heap H locs := by
    rw [List.append_nil]
    exact hT
  refine lv_if_eq (tgt := 35) hx hb dL_law_30 (by decide) (fun _ => ?_) (fun c => absurd hr c)
  exact t_L_law hC hN hfl hR hK hLn hT (body_all hDat rfl rfl rfl hC0 hPl hF rfl rfl rfl) ⟨Nat.le_of_ble_eq_true rfl, Nat.le_of_ble_eq_true rfl⟩ hend (lv_sub hl [0, 1, 3] rfl)
end ENT
