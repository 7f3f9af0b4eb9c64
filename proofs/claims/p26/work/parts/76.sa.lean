/-! ===== something by hand, done to both ===== -/
section CANS
variable {P Q M : M2} {np nl nb ns no t kb : Nat} {T : Nat → List (Int32 × Int32)} {b : Nat}
/-- the numbers that stand alone -/
def CAN (M : M2) : Prop := (M 200 = fun _ => M 200 0) ∧ (M 201 = fun _ => M 201 0) ∧ (M 212 = fun _ => -1)
theorem CAN.ah (h : CAN M) : ahM M = M := by
  unfold ahM
  rw [← h.1, ← h.2.1, ← h.2.2, up2_id, up2_id, up2_id]
theorem CAN.turned (h : CAN M) (x : Int32) : CAN (up2 M 201 (fun _ => x)) := by
  refine ⟨?_, ?_, ?_⟩
  · rw [up2_n _ _ (by decide)]; exact h.1
  · rw [up2_s]
  · rw [up2_n _ _ (by decide)]; exact h.2.2
theorem CAN.keep (h : CAN M) {M' : M2} (e0 : M' 200 = M 200) (e1 : M' 201 = M 201) (e2 : M' 212 = M 212) : CAN M' := by
  refine ⟨?_, ?_, ?_⟩
  · rw [e0]; exact h.1
  · rw [e1]; exact h.2.1
  · rw [e2]; exact h.2.2
theorem CAN.min (h : CAN M) : CAN (mMin T Q M np nl nb ns no) := by
  refine ⟨?_, ?_, ?_⟩
  · rw [min_def, up2_s]
  · rw [min_201]
    have : ∀ (d j : Nat), mTurnL T Q np nb d j M 201 = fun _ => mTurnL T Q np nb d j M 201 0 := by
      intro d
      induction d with
      | zero => exact fun _ => h.2.1
      | succ d ih =>
        intro j
        unfold mTurnL
        split
        · rw [up2_s]
        · exact ih (j + 1)
    exact this no 0
  · rw [k212M]; exact h.2.2
end CANS
section ACT
variable {q : Nat → Nat} {P Q : M2} {nn : Nat → Nat} {V S O F G C N U L B M : M2} {ap kb np nl nb ns no t : Nat} {T : Nat → List (Int32 × Int32)} {K : Int32 → Nat → M2 → M2 → M2 → M2 → M2 → M2 → M2 → Prop}
theorem blw_nI (x : Int32) {n : Nat} (h0 : 0 < n) (hn : n < 1000) : ∃ k, k < n ∧ blw x (nI n) = nI k := by
  unfold blw
  rw [pk_and x (m := 2147483647) 31 (by decide)]
  have h : x.toBitVec.toNat % 2 ^ 31 < 2 ^ 31 := Nat.mod_lt _ (by decide)
  rw [pk_rem h h0 (by omega)]
  exact ⟨_, Nat.mod_lt _ h0, rfl⟩
theorem st2_swap {F : M2} {k i k' j : Nat} {x y : Int32} (h : k ≠ k') : st2 (st2 F k i x) k' j y = st2 (st2 F k' j y) k i x := by
  funext a b
  by_cases e1 : a = k
  · subst e1
    rw [st2_n _ _ _ h, st2_k, st2_k, st2_n _ _ _ h]
  · by_cases e2 : a = k'
    · subst e2
      rw [st2_k, st2_n _ _ _ e1, st2_n _ _ _ e1, st2_k]
    · rw [st2_n _ _ _ e2, st2_n _ _ _ e1, st2_n _ _ _ e1, st2_n _ _ _ e2]
theorem IX.turned (h : IX Q M np nl nb t) {x : Int32} (hx : x = 0 ∨ x = 1) : IX Q (up2 M 201 (fun _ => x)) np nl nb t := by
  refine ⟨h.inv.off (by decide) (by decide) (by decide) (by decide) (by decide) (by decide), h.icl.cong (up2_n _ _ (by decide)), h.ibr.cong (up2_n _ _ (by decide)), fun l hl => ?_, fun b hb h1 => ?_, fun b hb => ?_, ?_, fun b hb => ?_, fun b c hb hc h1 h2 => ?_, ?_⟩
  · rw [up2_n _ _ (by decide)]
    exact h.walk hl
  · rw [up2_n _ _ (by decide)] at h1 ⊢
    exact h.rest hb h1
  · rw [up2_n _ _ (by decide)]
    exact h.how hb
  · rw [up2_n _ _ (by decide)]
    exact h.min
  · rw [up2_n M _ (by decide : (206 : Nat) ≠ 201), up2_n M _ (by decide : (211 : Nat) ≠ 201)]
    exact ⟨h.out hb, h.not_ hb⟩
  · rw [up2_n _ _ (by decide)] at h1 h2 ⊢
    exact h.way hb hc h1 h2
  · rw [up2_s]
    exact hx
theorem IX.aired (h : IX Q M np nl nb t) {A : Nat → Int32} (hA : ∀ p, p < np → A p = 100) : IX Q (up2 M 202 A) np nl nb t := by
  have hI : INV Q (up2 M 202 A) np nl nb nb := by
    refine ⟨fun p hp => ⟨100, Nat.le_refl _, by rw [up2_s, hA p hp]; rfl⟩, ?_⟩
    have h2 := h.inv.2
    unfold IW IB ID IC IS isIn isOff at *
    rw [up2_n M _ (by decide), up2_n M _ (by decide), up2_n M _ (by decide), up2_n M _ (by decide), up2_n M _ (by decide)]
    exact h2
  refine ⟨hI, h.icl.cong (up2_n _ _ (by decide)), h.ibr.cong (up2_n _ _ (by decide)), fun l hl => ?_, fun b hb h1 => ?_, fun b hb => ?_, ?_, fun b hb => ?_, fun b c hb hc h1 h2 => ?_, ?_⟩
  · rw [up2_n _ _ (by decide)]
    exact h.walk hl
  · rw [up2_n _ _ (by decide)] at h1 ⊢
    exact h.rest hb h1
  · rw [up2_n _ _ (by decide)]
    exact h.how hb
  · rw [up2_n _ _ (by decide)]
    exact h.min
  · rw [up2_n M _ (by decide : (206 : Nat) ≠ 202), up2_n M _ (by decide : (211 : Nat) ≠ 202)]
    exact ⟨h.out hb, h.not_ hb⟩
  · rw [up2_n _ _ (by decide)] at h1 h2 ⊢
    exact h.way hb hc h1 h2
  · rw [up2_n _ _ (by decide)]
    exact h.turn
theorem IX.capped (h : IX Q M np nl nb t) (i : Nat) : IX Q (st2 M 204 i (-1)) np nl nb t := by
  refine ⟨h.inv.off (g := upd (M 204) i (-1)) (by decide) (by decide) (by decide) (by decide) (by decide) (by decide), fun l hl => ?_, h.ibr.cong (st2_n _ _ _ (by decide)), fun l hl => ?_, fun b hb h1 => ?_, fun b hb => ?_, ?_, fun b hb => ?_, fun b c hb hc h1 h2 => ?_, ?_⟩
  · rw [st2_k]
    by_cases e : l = i
    · rw [if_pos e]
      exact Or.inl rfl
    · rw [if_neg e]
      exact h.icl l hl
  · rw [st2_n _ _ _ (by decide)]
    exact h.walk hl
  · rw [st2_n _ _ _ (by decide)] at h1 ⊢
    exact h.rest hb h1
  · rw [st2_n _ _ _ (by decide)]
    exact h.how hb
  · rw [st2_n _ _ _ (by decide)]
    exact h.min
  · rw [st2_n M _ _ (by decide : (206 : Nat) ≠ 204), st2_n M _ _ (by decide : (211 : Nat) ≠ 204)]
    exact ⟨h.out hb, h.not_ hb⟩
  · rw [st2_n _ _ _ (by decide)] at h1 h2 ⊢
    exact h.way hb hc h1 h2
  · rw [st2_n _ _ _ (by decide)]
    exact h.turn
theorem agM_n {i k : Nat} {s x : Int32} (h6 : k ≠ 206) (h7 : k ≠ 207) (h8 : k ≠ 208) (h11 : k ≠ 211) : agM M i s x k = M k := by
  unfold agM
  rw [st2_n _ _ _ h11, st2_n _ _ _ h8, st2_n _ _ _ h7, st2_n _ _ _ h6]
theorem agM_6 {i j : Nat} {s x : Int32} : agM M i s x 206 j = if j = i then 0 else M 206 j := by
  unfold agM
  rw [st2_n _ _ _ (by decide), st2_n _ _ _ (by decide), st2_n _ _ _ (by decide), st2_k]
theorem agM_7 {i j : Nat} {s x : Int32} : agM M i s x 207 j = if j = i then s else M 207 j := by
  unfold agM
  rw [st2_n _ _ _ (by decide), st2_n _ _ _ (by decide), st2_k, st2_n _ _ _ (by decide)]
theorem agM_11 {i j : Nat} {s x : Int32} : agM M i s x 211 j = if j = i then -1 else M 211 j := by
  unfold agM
  rw [st2_k, st2_n _ _ _ (by decide), st2_n _ _ _ (by decide), st2_n _ _ _ (by decide)]
theorem IX.agained (hX : PRX P Q kb np nl nb ns no) (hR : RE np nl nb F M) (h : IX Q M np nl nb t) {i : Nat} (hi : i < nb) (h2 : M 206 i = 2) (x : Int32) : IX Q (agM M i (1 - M 207 i) x) np nl nb t := by
  have hs : (1 - M 207 i = 0 ∨ 1 - M 207 i = 1) := by
    rcases h.inv.2.2.2.2.2 i hi with z | z
    · rw [z]; exact Or.inr (by decide)
    · rw [z]; exact Or.inl (by decide)
  have hI := (again_rel (x := x) hX hR h.inv hi h2 _ hs).2
  refine ⟨hI, h.icl.cong (agM_n (by decide) (by decide) (by decide) (by decide)), h.ibr.cong (agM_n (by decide) (by decide) (by decide) (by decide)), fun l hl => ?_, fun b hb h1 => ?_, fun b hb => ?_, ?_, fun b hb => ?_, fun b c hb hc h1 h2 => ?_, ?_⟩
  · rw [agM_n (by decide) (by decide) (by decide) (by decide)]
    exact h.walk hl
  · rw [agM_6] at h1
    rw [agM_n (by decide) (by decide) (by decide) (by decide)]
    by_cases e : b = i
    · rw [if_pos e] at h1
      exact absurd h1 (by decide)
    · rw [if_neg e] at h1
      exact h.rest hb h1
  · rw [agM_6]
    by_cases e : b = i
    · rw [if_pos e]
      exact Or.inl rfl
    · rw [if_neg e]
      exact h.how hb
  · rw [agM_n (by decide) (by decide) (by decide) (by decide)]
    exact h.min
  · rw [agM_6, agM_11]
    by_cases e : b = i
    · rw [if_pos e, if_pos e]
      exact ⟨fun z => absurd z (by decide), fun _ => rfl⟩
    · rw [if_neg e, if_neg e]
      exact ⟨h.out hb, h.not_ hb⟩
  · rw [agM_6] at h1 h2
    rw [agM_7, agM_7]
    by_cases e : b = i
    · rw [if_pos e] at h1
      exact absurd h1 (by decide)
    · by_cases e2 : c = i
      · rw [if_pos e2] at h2
        exact absurd h2 (by decide)
      · rw [if_neg e] at h1
        rw [if_neg e2] at h2
        rw [if_neg e, if_neg e2]
        exact h.way hb hc h1 h2
  · rw [agM_n (by decide) (by decide) (by decide) (by decide)]
    exact h.turn
/-- the law's loop that opens the doors -/
theorem a_airL (hX : PRX P Q kb np nl nb ns no) (hk : ZK nn V S O Q T np nl nb ns no) (hR : RE np nl nb F M) (h : ∀ F' U', RE np nl nb F' (up2 M 202 (fun i => if i < np then 100 else M 202 i)) → ZS Q (up2 M 202 (fun i => if i < np then 100 else M 202 i)) N U' L B np nl nb → K 1 ap F' G C N U' L B) : ∀ (d j f : Nat) (U : M2) (a : Int32), j + d = np → d < f → ZS Q (up2 M 202 (fun i => if i < j then 100 else M 202 i)) N U L B np nl nb → sfr (fun i => 100 - M 202 i) d j a = sfr (fun i => 100 - M 202 i) np 0 0 → wl_L_act_98 q P nn V S O K f ap F G C N U L B a (nI np) (nI j) := by
  intro d
  have h60 := hX.1.np3
  induction d with
  | zero =>
    intro j f U a hj hf hz hs
    obtain ⟨f, rfl, _⟩ := fuel hf
    have ej : j = np := by omega
    subst ej
    have hs : a = _ := hs
    subst hs
    refine And.intro (fun _ => cc_air hX hR (fun T' hr' => And.intro (fun c => absurd rfl c) (fun _ => h T' U hr' hz))) (fun c => absurd (nI_le (by omega) (by omega)) c)
  | succ d ih =>
    intro j f U a hj hf hz hs
    obtain ⟨f, rfl, _⟩ := fuel hf
    have hjn : j < np := by omega
    have tj : (nI j).toInt.toNat = j := tn_nI (by omega)
    have ij := hk.i1 hjn h60
    refine And.intro (fun c => absurd c (nI_ge (by omega) (by omega))) (fun _ => ⟨ij, ij, fun v3 e3 => ⟨ij, fun U1 e1 v ev => ?_⟩⟩)
    subst ev
    rw [nI_1]
    rw [tj] at e1
    rw [tj, hz.u1 hjn, up2_s, if_neg (Nat.lt_irrefl j)] at e3
    subst e3 e1
    refine ih (j + 1) f _ _ (by omega) (by omega) ?_ hs
    have := hz.pu j 100
    rw [st2_up2] at this
    have e : upd (fun i => if i < j then 100 else M 202 i) j 100 = fun i => if i < j + 1 then 100 else M 202 i := by
      funext i
      by_cases c : i = j
      · subst c
        rw [upd_s, if_pos (by omega)]
      · rw [upd_n _ _ c]
        by_cases c2 : i < j
        · rw [if_pos c2, if_pos (by omega)]
        · rw [if_neg c2, if_neg (by omega)]
    rw [e] at this
    exact this
theorem a_act (hX : PRX P Q kb np nl nb ns no) (hk : ZK nn V S O Q T np nl nb ns no) (hR : RE np nl nb F M) (hz : ZS Q M N U L B np nl nb) (hI : IX Q M np nl nb t) (hn : CAN M) (ht : t ≤ 200) (x : Int32) (h : ∀ F' N' U' L' B' M', RE np nl nb F' M' → ZS Q M' N' U' L' B' np nl nb → IX Q M' np nl nb t → CAN M' → K 1 ap F' G C N' U' L' B') : wp_L_act q P nn V S O ap F G C N U L B x K := by
  have h60 := hX.1.np3
  have hl5 := hk.nl5
  have hb5 := hk.nb5
  have hl0 := hk.nl0
  have hb0 := hk.nb0
  obtain ⟨c5, hc5, e5⟩ := blw_nI x (n := 5) (by decide) (by decide)
  have e5 : blw x 5 = nI c5 := e5
  have whis : ∀ v3_40, v3_40 = N 1 0 → (∀ N_49 : M2, N_49 = up2 N 1 (fun _ => blw (x >>> (3 &&& 31)) 2) → wp_X5_whistle q P (fun _ => False) ap F G C (N_49 1 0) (fun r_57 ap_57 F_57 G_57 C_57 => ((¬ r_57 = v3_40 → K 0 ap_57 F_57 G_57 C_57 N_49 U L B) ∧ (r_57 = v3_40 → K 1 ap_57 F_57 G_57 C_57 N_49 U L B)))) := by
    intro v ev N1 e1
    obtain ⟨w, hw, ew⟩ := blw_nI (x >>> (3 &&& 31)) (n := 2) (by decide) (by decide)
    have ew : blw (x >>> (3 &&& 31)) 2 = nI w := ew
    rw [ew] at e1
    subst e1
    rw [up2_s, ev]
    refine cc_whistle hR (by omega) (fun T' hr' => And.intro (fun c => absurd hz.turn.symm c) (fun _ => ?_))
    refine h T' _ U L B _ hr' (hz.pturn (nI w)) (hI.turned ?_) (hn.turned _)
    have : w = 0 ∨ w = 1 := by omega
    rcases this with rfl | rfl
    · exact Or.inl rfl
    · exact Or.inr rfl
  unfold wp_L_act
  rw [e5]
  refine ⟨fun _ => whis, fun _ => whis, fun _ => ?_, fun _ => ?_, fun _ _ _ _ => ?_⟩
  · obtain ⟨w, hw, ew⟩ := blw_nI (x >>> (5 &&& 31)) (n := 4) (by decide) (by decide)
    refine And.intro (fun _ v ev => ?_) (fun _ => h F N U L B M hR hz hI hn)
    subst ev
    rw [hk.n1]
    refine a_airL (M := M) hX hk hR (fun F' U' hr' hz' => h F' N U' L B _ hr' hz' (hI.aired (fun p hp => by rw [if_pos hp])) (hn.keep (up2_n _ _ (by decide)) (up2_n _ _ (by decide)) (up2_n _ _ (by decide)))) np 0 fK U 0 (by omega) (by rw [fK_eq]; omega) ?_ rfl
    have e : (fun i => if i < 0 then (100 : Int32) else M 202 i) = M 202 := funext (fun i => if_neg (Nat.not_lt_zero i))
    rw [e, up2_id]
    exact hz
  · obtain ⟨k, hkl, ek⟩ := blw_nI (x >>> (4 &&& 31)) (n := nl) hl0 (by omega)
    rw [hk.n3]
    refine ⟨nI_n0 hl0 hl5, fun v3 e3 => ?_⟩
    rw [ek] at e3
    subst e3
    have tk : (nI k).toInt.toNat = k := tn_nI (by omega)
    have ik := hk.i3 hkl
    rw [tk]
    refine ⟨ik, ik, fun v4 e4 => ⟨ik, ik, fun L1 e1 => ?_⟩⟩
    subst e4 e1
    refine cc_cap hX hR hkl (fun T' hr' => And.intro (fun c => absurd (hz.l3 hkl).symm c) (fun _ => ?_))
    exact h T' N U _ B _ hr' (hz.pl3 k (-1)) (hI.capped k) (hn.keep (st2_n _ _ _ (by decide)) (st2_n _ _ _ (by decide)) (st2_n _ _ _ (by decide)))
  · obtain ⟨k, hkb, ek⟩ := blw_nI (x >>> (4 &&& 31)) (n := nb) hb0 (by omega)
    obtain ⟨d, hd, ed⟩ := blw_nI (x >>> (6 &&& 31)) (n := 30) (by decide) (by decide)
    have ed : blw (x >>> (6 &&& 31)) 30 = nI d := ed
    rw [hk.n4]
    refine ⟨nI_n0 hb0 hb5, fun v3 e3 => ?_⟩
    rw [ek] at e3
    subst e3
    have tk : (nI k).toInt.toNat = k := tn_nI (by omega)
    have ik := hk.i4 hkb
    rw [tk, hz.b3 hkb]
    refine ⟨ik, fun v5 e5 => ⟨ik, And.intro (fun c => ?_) (fun c => ?_)⟩⟩
    · rw [hz.min, hI.min, ed, nI_add] at e5
      subst e5
      refine cc_again_x hX hR hkb (by omega) c ⟨rfl, fun _ => ?_, fun z => absurd rfl z⟩
      exact ⟨fun _ => ⟨fun z => absurd rfl z, fun _ => h F N U L B M hR hz hI hn⟩, fun z => absurd rfl z⟩
    · rw [hz.min, hI.min, ed, nI_add] at e5
      subst e5
      refine cc_again hX hR hI.inv hkb (by omega) c (fun T' hr' => ⟨fun z => absurd z (by decide), fun _ => ⟨ik, ik, fun B1 e1 => ⟨ik, fun B2 e2 => ⟨ik, fun B3 e3 => ⟨ik, fun B4 e4 => ?_⟩⟩⟩⟩⟩)
      rw [tk] at e1 e2 e3 e4
      rw [hz.b1 hkb] at e1
      have hz4 : ZS Q (agM M k (1 - M 207 k) (nI (t + d))) N U L B4 np nl nb := by
        have e : agM M k (1 - M 207 k) (nI (t + d)) = st2 (st2 (st2 (st2 M 207 k (1 - M 207 k)) 208 k (nI (t + d))) 206 k 0) 211 k (-1) := by
          unfold agM
          rw [st2_swap (F := st2 M 207 k (1 - M 207 k)) (by decide : (208 : Nat) ≠ 206), st2_swap (F := M) (by decide : (207 : Nat) ≠ 206)]
        rw [e, e4, e3, e2, e1]
        exact (((hz.pb1 k (1 - M 207 k)).pb2 k (nI (t + d))).pb3 k 0).pb6 k (-1)
      refine ⟨fun z => absurd z (by decide), fun _ => ⟨ik, ?_⟩⟩
      rw [tk, hz4.b1 hkb, agM_7, if_pos rfl]
      exact ⟨fun z => absurd rfl z, fun _ => h T' N U L B4 _ hr' hz4 (IX.agained hX hR hI hkb c _) (hn.keep (agM_n (by decide) (by decide) (by decide) (by decide)) (agM_n (by decide) (by decide) (by decide) (by decide)) (agM_n (by decide) (by decide) (by decide) (by decide)))⟩
end ACT
