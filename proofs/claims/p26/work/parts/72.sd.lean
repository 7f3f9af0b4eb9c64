/-! ===== the law's tunnel: boats come, are pushed ===== -/
/-- breath is held -/
def IBR (Q M : M2) (nl : Nat) : Prop := ∀ l, l < nl → ∃ v y, M 203 l = nI v ∧ Q 251 l = nI y ∧ y ≤ 9 ∧ v ≤ 10 * y
section ZD
variable {P Q : M2} {nn : Nat → Nat} {V S O N U L B M : M2} {np nl nb ns no : Nat} {T : Nat → List (Int32 × Int32)} {b : Nat} {K : M2 → M2 → M2 → M2 → Prop}
theorem ICP.st (h : ICP M np nl) {k i : Nat} {x : Int32} (hk : k ≠ 204) : ICP (st2 M k i x) np nl := fun l hl => by
  rw [st2_n _ _ _ hk.symm]
  exact h l hl
theorem ICP.cap (h : ICP M np nl) {l p : Nat} (hpn : p < np) : ICP (mCap Q M l (nI p)) np nl := fun c hc => by
  unfold mCap
  rw [st2_k]
  by_cases e : c = l
  · rw [if_pos e]
    unfold capV
    by_cases e2 : M 204 l = -1 ∨ M 204 l = nI p
    · rw [if_pos e2]
      by_cases e3 : lowV Q (nI p) ≤ 12 - Q 250 l
      · rw [if_pos e3]
        exact Or.inl rfl
      · rw [if_neg e3]
        exact Or.inr ⟨p, hpn, rfl⟩
    · rw [if_neg e2, ← e]
      exact h c hc
  · rw [if_neg e]
    exact h c hc
theorem ICP.come (h : ICP M np nl) {p : Nat} (hpn : p < np) : ICP (mCome Q M b (nI p)) np nl := ((h.st (by decide)).cap hpn).cap hpn
theorem IBR.cong (h : IBR Q M nl) {M' : M2} (e : M' 203 = M 203) : IBR Q M' nl := fun l hl => by
  rw [e]
  exact h l hl
theorem s_cap (hp : PR P Q np nl nb ns no) (hk : ZK nn V S O Q T np nl nb ns no) (hz : ZS Q M N U L B np nl nb) (hc : ICP M np nl) (hb : b < nb) {i l p : Nat} (hi : (i = 7 ∧ l = kr0 Q b) ∨ (i = 8 ∧ l = kr1 Q b)) (hpn : p < np) {f : Nat}
    (h : ∀ L', ZS Q (mCap Q M l (nI p)) N U L' B np nl nb → wl_X6_come_7 nn V S O K f N U L' B (nI b) (nI p) (nI (i + 1))) : wl_X6_come_7 nn V S O K (f + 1) N U L B (nI b) (nI p) (nI i) := by
  have h60 := hp.np3
  have h5 := hk.nb5
  have hl5 := hk.nl5
  have h05 := hk.n0
  have ib := hk.i4 hb
  have tb : (nI b).toInt.toNat = b := tn_nI (by omega)
  obtain ⟨k0, k1, _, _, ec1, _, ec2, _⟩ := hp.boat b hb
  have hl : l < nl := by rcases hi with ⟨_, rfl⟩ | ⟨_, rfl⟩ <;> assumption
  have eb : B b i = nI l := by
    rcases hi with ⟨rfl, rfl⟩ | ⟨rfl, rfl⟩
    · rw [hz.b7 hb, ec1]
    · rw [hz.b8 hb, ec2]
  have i9 : i = 7 ∨ i = 8 := hi.elim (fun z => Or.inl z.1) (fun z => Or.inr z.1)
  have ti : (nI i).toInt.toNat = i := tn_nI (by omega)
  have tl : (nI l).toInt.toNat = l := tn_nI (by omega)
  have tp : (nI p).toInt.toNat = p := tn_nI (by omega)
  have ii : inb (nI i) 9 := inb_nJ (by omega) (by decide)
  have il := hk.i3 hl
  have ip := hk.i1 hpn h60
  obtain ⟨kb, x, hkb, hx, ek, ex, eq⟩ := hk.2.2.1 p hpn
  have tk : (nI kb).toInt.toNat = kb := tn_nI (by omega)
  have ik : inb (nI kb) (nn 0) := inb_nJ hkb (by omega)
  obtain ⟨y, y2, hy1, hy9, _, _, _, ey, _⟩ := hp.leg l hl
  have low : lowV Q (nI p) = nI x := by unfold lowV; rw [tp, ek, tk, eq]
  have cmp : (nI x + nI y ≤ 12) ↔ (nI x ≤ 12 - nI y) := by
    rw [show (12 : Int32) = nI 12 from rfl, pk_sub (by omega), nI_add, le_nI (by omega) (by omega), le_nI (by omega) (by omega)]
    omega
  have hneg : L l 3 < 0 ↔ M 204 l = -1 := by
    rw [hz.l3 hl]
    have := cap_neg hc h60 hl
    constructor
    · intro z
      exact Decidable.byContradiction (fun w => absurd (this.mpr w) (Int32.not_le.mpr z))
    · intro z
      rw [z]
      decide
  have ec : mCap Q M l (nI p) = st2 M 204 l (capV (M 204 l) (nI p) (nI x) (nI y)) := by unfold mCap; rw [low, ey]
  rw [ec] at h
  have has : (M 204 l = -1 ∨ M 204 l = nI p) → wj_X6_come_43 nn V S O (wl_X6_come_7 nn V S O K f) K N U L B (nI b) (nI p) (nI i) (nI l) 1 := fun hh => by
    refine And.intro (fun _ => ⟨ip, ip, ?_⟩) (fun z => absurd z (by decide))
    rw [tp, tl, hz.u0 hpn, ek, tk, ex, hz.l0 hl, ey]
    refine ⟨ik, ik, il, And.intro (fun c => ⟨il, fun L' e v ev => ?_⟩) (fun c => ⟨il, fun L' e v ev => ?_⟩)⟩
    · subst ev e
      rw [nI_1]
      refine h _ ?_
      have e2 : capV (M 204 l) (nI p) (nI x) (nI y) = -1 := by unfold capV; rw [if_pos hh, if_pos (cmp.mp c)]
      rw [e2]
      exact hz.pl3 l (-1)
    · subst ev e
      rw [nI_1]
      refine h _ ?_
      have e2 : capV (M 204 l) (nI p) (nI x) (nI y) = nI p := by unfold capV; rw [if_pos hh, if_neg (fun z => c (cmp.mpr z))]
      rw [e2]
      exact hz.pl3 l (nI p)
  refine And.intro (fun c => absurd c (by rcases i9 with rfl | rfl <;> decide)) (fun _ => ⟨ib, ii, ?_⟩)
  rw [tb, ti, eb]
  refine ⟨il, fun v4 e4 => ?_⟩
  subst e4
  rw [tl]
  refine ⟨il, And.intro (fun c => has (Or.inl (hneg.mp c))) (fun c => ⟨il, And.intro (fun c2 => ?_) (fun c2 => has (Or.inr ((hz.l3 hl).symm.trans c2)))⟩)⟩
  refine And.intro (fun z => absurd rfl z) (fun _ v ev => ?_)
  subst ev
  rw [nI_1]
  refine h _ ?_
  have e2 : capV (M 204 l) (nI p) (nI x) (nI y) = M 204 l := by
    unfold capV
    rw [if_neg (fun z => z.elim (fun z => c (hneg.mpr z)) (fun z => c2 ((hz.l3 hl).trans z)))]
  rw [e2, st2_same]
  exact hz
theorem fK3 : fK = 4093 + 1 + 1 + 1 := rfl
theorem s_come (hp : PR P Q np nl nb ns no) (hk : ZK nn V S O Q T np nl nb ns no) (hz : ZS Q M N U L B np nl nb) (hc : ICP M np nl) (hb : b < nb) {p : Nat} (hpn : p < np) (h : ∀ L' B', ZS Q (mCome Q M b (nI p)) N U L' B' np nl nb → K N U L' B') : wp_X6_come nn V S O N U L B (nI b) (nI p) K := by
  have h5 := hk.nb5
  have ib := hk.i4 hb
  have tb : (nI b).toInt.toNat = b := tn_nI (by omega)
  refine ⟨ib, fun B1 e => ?_⟩
  rw [tb] at e
  subst e
  have hz1 : ZS Q (st2 M 209 b (nI p)) N U L (st2 B b 4 (nI p)) np nl nb := hz.pb4 b (nI p)
  have hc1 : ICP (st2 M 209 b (nI p)) np nl := hc.st (by decide)
  rw [fK3]
  refine s_cap hp hk hz1 hc1 hb (Or.inl ⟨rfl, rfl⟩) hpn (fun L1 hz2 => ?_)
  refine s_cap hp hk hz2 (hc1.cap hpn) hb (Or.inr ⟨rfl, rfl⟩) hpn (fun L2 hz3 => ?_)
  exact And.intro (fun _ => h L2 _ hz3) (fun c => absurd (by decide) c)
/-! pushing -/
theorem s_leave (hp : PR P Q np nl nb ns no) (hk : ZK nn V S O Q T np nl nb ns no) (hz : ZS Q M N U L B np nl nb) (hb : b < nb) (h : ∀ L' B', ZS Q (mLeave Q M b) N U L' B' np nl nb → K N U L' B') {X : Prop}
    : (inb (nI b) (nn 4) ∧ ∀ B_111 : M2, B_111 = up2 B (nI b).toInt.toNat (upd (B (nI b).toInt.toNat) 3 2) → (inb (nI b) (nn 4) ∧ ∀ B_115 : M2, B_115 = up2 B_111 (nI b).toInt.toNat (upd (B_111 (nI b).toInt.toNat) 4 ((-1))) → (inb (nI b) (nn 4) ∧ ∀ B_119 : M2, B_119 = up2 B_115 (nI b).toInt.toNat (upd (B_115 (nI b).toInt.toNat) 5 0) → (inb (nI b) (nn 4) ∧ ∀ B_127 : M2, B_127 = up2 B_119 (nI b).toInt.toNat (upd (B_119 (nI b).toInt.toNat) 6 (N 0 0)) → (inb (nI b) (nn 4) ∧ (inb (B_127 (nI b).toInt.toNat 7) (nn 3) ∧ (inb (B_127 (nI b).toInt.toNat 7) (nn 3) ∧ ∀ L_140 : M2, L_140 = up2 L (B_127 (nI b).toInt.toNat 7).toInt.toNat (upd (L (B_127 (nI b).toInt.toNat 7).toInt.toNat) 4 10) → (inb (nI b) (nn 4) ∧ (inb (B_127 (nI b).toInt.toNat 8) (nn 3) ∧ (inb (B_127 (nI b).toInt.toNat 8) (nn 3) ∧ ∀ L_153 : M2, L_153 = up2 L_140 (B_127 (nI b).toInt.toNat 8).toInt.toNat (upd (L_140 (B_127 (nI b).toInt.toNat 8).toInt.toNat) 4 10) → K N U L_153 B_127)))))))))) := by
  have h5 := hk.nb5
  have hl5 := hk.nl5
  have ib := hk.i4 hb
  have tb : (nI b).toInt.toNat = b := tn_nI (by omega)
  obtain ⟨k0, k1, _, _, ec1, _, ec2, _⟩ := hp.boat b hb
  rw [tb]
  refine ⟨ib, fun B1 e1 => ⟨ib, fun B2 e2 => ⟨ib, fun B3 e3 => ⟨ib, fun B4 e4 => ?_⟩⟩⟩⟩
  have hz4 : ZS Q (st2 (st2 (st2 (st2 M 206 b 2) 209 b (-1)) 210 b 0) 211 b (N 0 0)) N U L B4 np nl nb := by
    rw [e4, e3, e2, e1]
    exact (((hz.pb3 b 2).pb4 b (-1)).pb5 b 0).pb6 b (N 0 0)
  have e7 : B4 b 7 = nI (kr0 Q b) := (hz4.b7 hb).trans ec1
  have e8 : B4 b 8 = nI (kr1 Q b) := (hz4.b8 hb).trans ec2
  rw [e7, e8, tn_nI (by omega), tn_nI (by omega)]
  refine ⟨ib, hk.i3 k0, hk.i3 k0, fun L1 el => ⟨ib, hk.i3 k1, hk.i3 k1, fun L2 el2 => h L2 B4 ?_⟩⟩
  subst el el2
  have := (hz4.pl4 (kr0 Q b) 10).pl4 (kr1 Q b) 10
  rw [hz.min] at this
  exact this
theorem s_pushL (hp : PR P Q np nl nb ns no) (hk : ZK nn V S O Q T np nl nb ns no) (hb : b < nb) : ∀ (d f : Nat) (L B M : M2), d < f → ZS Q M N U L B np nl nb → INV Q M np nl nb b → ICP M np nl → M 206 b = 1 → (∀ p, M 209 b = nI p → p < np → ahd M np b p < d) → (∀ L' B', ZS Q (mPushL Q nb b d M) N U L' B' np nl nb → K N U L' B') → wl_X6_push_74 nn V S O K f N U L B (nI b) := by
  intro d
  have h8 := hp.nb3
  have h60 := hp.np3
  have h5 := hk.nb5
  have ib := hk.i4 hb
  have tb : (nI b).toInt.toNat = b := tn_nI (by omega)
  induction d with
  | zero =>
    intro f L B M hf hz hI hc h1 ha h
    rcases hI.2.2.1 b hb with ⟨_, p, x, w, hpn, hat, _⟩ | ⟨z, _⟩
    · exact absurd (ha p hat hpn) (by omega)
    · exact absurd h1 z
  | succ d ih =>
    intro f L B M hf hz hI hc h1 ha h
    obtain ⟨f, rfl, _⟩ := fuel hf
    rcases hI.2.2.1 b hb with ⟨_, p, x, w, hpn, hat, hpu, hwe, w1, w60, _, hx⟩ | ⟨z, _⟩
    rotate_left
    · exact absurd h1 z
    have hd := ha p hat hpn
    refine ⟨ib, ib, ?_⟩
    rw [tb, hz.b5 hb, hz.b0 hb, hz.b1 hb, hpu, hwe]
    unfold mPushL at h
    rw [hpu, hwe, hat] at h
    refine And.intro (fun c => ?_) (fun c => ⟨ib, ?_⟩)
    · rw [if_pos c] at h
      exact h L B hz
    rw [if_neg c] at h
    have hwx : w ≤ x := by
      rw [lt_nI (by omega) (by omega)] at c
      omega
    have key : ∀ last : Int32, (last = if M 207 b = 0 then nI np - 1 else 0) → wj_X6_push_100 nn V S O (wl_X6_push_74 nn V S O K f) K N U L B (nI b) last := fun last hl => by
      have hlast : nI p = last ↔ ahd M np b p = 0 := by
        rw [hl]
        unfold ahd
        by_cases e : M 207 b = 0
        · rw [if_pos e, if_pos e]
          have e2 : nI np - 1 = nI (np - 1) := by
            have := nI_pred (np - 1)
            rw [show np - 1 + 1 = np by omega] at this
            exact this
          rw [e2]
          constructor
          · intro z
            have := nI_inj (by omega) (by omega) z
            omega
          · intro z
            rw [show p = np - 1 by omega]
        · rw [if_neg e, if_neg e, ← nI_0]
          exact ⟨fun z => nI_inj (by omega) (by omega) z, fun z => by rw [z]⟩
      have go : ¬ nI p = last → ∀ q0 : Int32, q0 = nI p + stepV M b → wj_X6_push_174 nn V S O (wl_X6_push_74 nn V S O K f) K N U L B (nI b) q0 := fun c2 q0 e0 => by
        rcases next_cases (M := M) (b := b) hp hpn with ⟨z, _⟩ | ⟨q, hq, e1, e2, e3⟩
        · exact absurd (hlast.mpr z) c2
        rw [e1, if_neg e2] at h
        rw [e0, e1]
        refine s_boatAt hk hz (And.intro (fun c3 => ⟨ib, ib, ib, fun B1 e => ?_⟩) (fun c3 => ⟨ib, fun B1 e => ?_⟩))
        · have c3 := (at_neg h8).mp c3
          rw [if_pos c3] at h
          rw [tb, hz.b5 hb, hz.b0 hb] at e
          subst e
          have hz1 := hz.pb5 b (M 210 b - Q 253 b)
          refine s_come hp hk hz1 (hc.st (by decide)) hb hq (fun L2 B2 hz2 => ?_)
          refine ih f L2 B2 _ (by omega) hz2 (hI.come hb h8 hq h1 hpu hwe hwx hx w1 w60 c3) ((hc.st (by decide)).come hq) ?_ ?_ ?_
          · rw [mCome_n (by decide) (by decide), st2_n _ _ _ (by decide)]
            exact h1
          · intro p' hp' hpn'
            rw [mCome_at, if_pos rfl] at hp'
            have e4 := nI_inj (by omega) (by omega) hp'
            subst e4
            have := e3 (M 210 b - Q 253 b) (nI q)
            omega
          · rw [hpu, hwe]
            exact h
        · rw [if_neg (fun z => c3 ((at_neg h8).mpr z))] at h
          rw [tb] at e
          subst e
          exact h L _ (hz.pb5 b 0)
      refine ⟨ib, ?_⟩
      rw [show B (nI b).toInt.toNat 4 = nI p by rw [tb, hz.b4 hb, hat], show B (nI b).toInt.toNat 1 = M 207 b by rw [tb, hz.b1 hb]]
      refine And.intro (fun c2 => ⟨ib, And.intro (fun c3 => ⟨ib, go c2 _ ?_⟩) (fun c3 => ⟨ib, go c2 _ ?_⟩)⟩) (fun c2 => ?_)
      · unfold stepV
        rw [if_neg c3, Int32.sub_eq_add_neg]
      · unfold stepV
        rw [if_pos c3]
      · rcases next_cases (M := M) (b := b) hp hpn with ⟨z, z2⟩ | ⟨q, hq, e1, e2, e3⟩
        · rw [if_pos z2] at h
          exact s_leave (X := True) hp hk hz hb h
        · have := e3 0 0
          have := hlast.mp c2
          omega
    refine And.intro (fun c2 => key 0 (by rw [if_neg c2])) (fun c2 => ?_)
    rw [hk.n1]
    exact key _ (by rw [if_pos c2])
theorem s_push (hp : PR P Q np nl nb ns no) (hk : ZK nn V S O Q T np nl nb ns no) (hz : ZS Q M N U L B np nl nb) (hI : INV Q M np nl nb nb) (hc : ICP M np nl) (hB : IBR Q M nl) (hb : b < nb) (h1 : M 206 b = 1) (h : ∀ L' B', ZS Q (mPush Q M nb b) N U L' B' np nl nb → K N U L' B') : wp_X6_push nn V S O N U L B (nI b) K := by
  have h8 := hp.nb3
  have h60 := hp.np3
  have h5 := hk.nb5
  have hl5 := hk.nl5
  have ib := hk.i4 hb
  have tb : (nI b).toInt.toNat = b := tn_nI (by omega)
  obtain ⟨k0, k1, _, _, ec1, _, ec2, _⟩ := hp.boat b hb
  have step : ∀ (i l f : Nat) (v : Int32), ((i = 7 ∧ l = kr0 Q b) ∨ (i = 8 ∧ l = kr1 Q b)) → wl_X6_push_5 nn V S O K f N U L B (nI b) (v + strV Q M l) (nI (i + 1)) → wl_X6_push_5 nn V S O K (f + 1) N U L B (nI b) v (nI i) := fun i l f v hi hgo => by
    have hl : l < nl := by rcases hi with ⟨_, rfl⟩ | ⟨_, rfl⟩ <;> assumption
    have eb : B b i = nI l := by
      rcases hi with ⟨rfl, rfl⟩ | ⟨rfl, rfl⟩
      · rw [hz.b7 hb, ec1]
      · rw [hz.b8 hb, ec2]
    have i9 : i = 7 ∨ i = 8 := hi.elim (fun z => Or.inl z.1) (fun z => Or.inr z.1)
    have ti : (nI i).toInt.toNat = i := tn_nI (by omega)
    have tl : (nI l).toInt.toNat = l := tn_nI (by omega)
    have ii : inb (nI i) 9 := inb_nJ (by omega) (by decide)
    have il := hk.i3 hl
    obtain ⟨br, y, ebr, _, hy, hbr⟩ := hB l hl
    refine And.intro (fun c => absurd c (by rcases i9 with rfl | rfl <;> decide)) (fun _ => ⟨ib, ii, ?_⟩)
    rw [tb, ti, eb, tl, hz.l2 hl, hz.l0 hl, hz.1.2.2.1]
    refine ⟨il, il, And.intro (fun c w ew => ?_) (fun c => ⟨ib, ii, And.intro (fun c2 => absurd c2 (nI_nm1 (by omega))) (fun c2 => ⟨ib, ii, il, il, fun v2 e2 w ew => ?_⟩)⟩)⟩
    · subst ew
      rw [nI_1]
      have es : strV Q M l = 0 := by unfold strV; rw [c, if_pos (by decide)]
      rw [es, Int32.add_zero] at hgo
      exact hgo
    · subst ew e2
      rw [nI_1]
      have es : strV Q M l = Q 250 l := by
        unfold strV
        rw [hz.1.2.2.2, if_neg, if_neg c2]
        rw [ebr]
        intro z
        refine c ?_
        rw [ebr]
        rw [← nI_0, le_nI (by omega) (by omega)] at z
        rw [show br = 0 by omega, nI_0]
      rw [es] at hgo
      exact hgo
  unfold wp_X6_push
  rw [fK3]
  refine step 7 _ _ 0 (Or.inl ⟨rfl, rfl⟩) (step 8 _ _ _ (Or.inr ⟨rfl, rfl⟩) ?_)
  rcases hI.2.2.1 b hb with ⟨_, p, x, w, hpn, hat, hpu, hwe, w1, w60, hxw, hx⟩ | ⟨z, _⟩
  rotate_left
  · exact absurd h1 z
  refine And.intro (fun _ => ⟨ib, ib, ?_⟩) (fun c => absurd (by decide) c)
  have e4 : B b 4 = nI p := (hz.b4 hb).trans hat
  have tp : (nI p).toInt.toNat = p := tn_nI (by omega)
  rw [tb, e4, tp]
  refine ⟨hk.i1 hpn h60, hk.i1 hpn h60, ib, fun B1 e1 => ?_⟩
  rw [hz.b5 hb, hz.u1 hpn, Int32.zero_add] at e1
  obtain ⟨p', x', w', hp', hat', hwe', hw', hx', ex'⟩ := more_nI (M := M) hp hI hb h1
  have et : (M 209 b).toInt.toNat = p := by rw [hat, tp]
  rw [et] at ex'
  subst e1
  unfold mPush at h
  rw [et, ex'] at h
  rw [ex']
  refine s_pushL hp hk hb 61 fK _ _ _ (by rw [fK_eq]; omega) (hz.pb5 b (nI x')) (hI.push (Or.inr rfl) h1 hwe' hw' hx' b (Or.inl rfl) hb) (hc.st (by decide)) ?_ ?_ h
  · rw [st2_n _ _ _ (by decide)]
    exact h1
  · intro p2 _ hp2
    exact ahd_lt hp2 h60
end ZD
