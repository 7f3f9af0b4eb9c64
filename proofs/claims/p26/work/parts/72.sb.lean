/-! ===== tests of the law's orders ===== -/
section HV
variable {M : M2} {np nl nb : Nat}
theorem ev_l {op x : Int32} {r : List (Int32 × Int32)} {st : List Int32} (h : op ≤ 11) : ev M np nb ((op, x) :: r) st = ev M np nb r (leafV M nb op x :: st) := by
  show ev M np nb r (evS M np nb (op, x) st) = _
  unfold evS; rw [if_pos h]
theorem ev_1 {op x a : Int32} {r : List (Int32 × Int32)} {st : List Int32} (h : ¬ op ≤ 11) (h2 : op ≤ 14) : ev M np nb ((op, x) :: r) (a :: st) = ev M np nb r (oneV M np op a :: st) := by
  show ev M np nb r (evS M np nb (op, x) (a :: st)) = _
  unfold evS; rw [if_neg h, if_pos h2]
theorem ev_2 {op x a b : Int32} {r : List (Int32 × Int32)} {st : List Int32} (h : ¬ op ≤ 11) (h2 : ¬ op ≤ 14) : ev M np nb ((op, x) :: r) (b :: a :: st) = ev M np nb r (twoV op a b :: st) := by
  show ev M np nb r (evS M np nb (op, x) (b :: a :: st)) = _
  unfold evS; rw [if_neg h, if_neg h2]
theorem lf_4 {x : Int32} : leafV M nb 4 x = x := by unfold leafV; rw [if_pos rfl]
theorem lf_5 {x : Int32} : leafV M nb 5 x = M 200 0 := by unfold leafV; rw [if_neg (by decide), if_pos rfl]
theorem lf_6 {x : Int32} : leafV M nb 6 x = M 201 0 := by unfold leafV; rw [if_neg (by decide), if_neg (by decide), if_pos rfl]
theorem lf_7 {x : Int32} : leafV M nb 7 x = mWaits M nb x := by unfold leafV; rw [if_neg (by decide), if_neg (by decide), if_neg (by decide), if_pos rfl]
theorem lf_8 {x : Int32} : leafV M nb 8 x = M 203 x.toInt.toNat := by unfold leafV; rw [if_neg (by decide), if_neg (by decide), if_neg (by decide), if_neg (by decide), if_pos rfl]
theorem lf_9 {x : Int32} : leafV M nb 9 x = M 209 x.toInt.toNat := by unfold leafV; rw [if_neg (by decide), if_neg (by decide), if_neg (by decide), if_neg (by decide), if_neg (by decide), if_pos rfl]
theorem lf_10 {x : Int32} : leafV M nb 10 x = (if M 206 x.toInt.toNat = 1 then (1 : Int32) else 0) := by unfold leafV; rw [if_neg (by decide), if_neg (by decide), if_neg (by decide), if_neg (by decide), if_neg (by decide), if_neg (by decide), if_pos rfl]
theorem lf_11 {x : Int32} : leafV M nb 11 x = (if M 204 x.toInt.toNat = -1 then (1 : Int32) else 0) := by unfold leafV; rw [if_neg (by decide), if_neg (by decide), if_neg (by decide), if_neg (by decide), if_neg (by decide), if_neg (by decide), if_neg (by decide), if_pos rfl]
theorem on_12 {x : Int32} : oneV M np 12 x = airV M np x := by unfold oneV; rw [if_pos rfl]
theorem on_13 {x : Int32} : oneV M np 13 x = if x = 0 then 1 else 0 := by unfold oneV; rw [if_neg (by decide), if_pos rfl]
theorem tw_15 {a b : Int32} : twoV 15 a b = a + b := by unfold twoV; rw [if_pos rfl]
theorem tw_16 {a b : Int32} : twoV 16 a b = a - b := by unfold twoV; rw [if_neg (by decide), if_pos rfl]
theorem tw_17 {a b : Int32} : twoV 17 a b = a * b := by unfold twoV; rw [if_neg (by decide), if_neg (by decide), if_pos rfl]
theorem tw_18 {a b : Int32} : twoV 18 a b = (if b = 0 then 0 else a / b) := by unfold twoV; rw [if_neg (by decide), if_neg (by decide), if_neg (by decide), if_pos rfl]
theorem tw_19 {a b : Int32} : twoV 19 a b = (if b ≤ a then 0 else 1) := by unfold twoV; rw [if_neg (by decide), if_neg (by decide), if_neg (by decide), if_neg (by decide), if_pos rfl]
theorem tw_20 {a b : Int32} : twoV 20 a b = (if a ≤ b then 0 else 1) := by unfold twoV; rw [if_neg (by decide), if_neg (by decide), if_neg (by decide), if_neg (by decide), if_neg (by decide), if_pos rfl]
theorem tw_21 {a b : Int32} : twoV 21 a b = (if a = b then 1 else 0) := by unfold twoV; rw [if_neg (by decide), if_neg (by decide), if_neg (by decide), if_neg (by decide), if_neg (by decide), if_neg (by decide), if_pos rfl]
theorem tw_22 {a b : Int32} : twoV 22 a b = (if b < a then 0 else 1) := by unfold twoV; rw [if_neg (by decide), if_neg (by decide), if_neg (by decide), if_neg (by decide), if_neg (by decide), if_neg (by decide), if_neg (by decide), if_pos rfl]
theorem tw_23 {a b : Int32} : twoV 23 a b = (if a < b then 0 else 1) := by unfold twoV; rw [if_neg (by decide), if_neg (by decide), if_neg (by decide), if_neg (by decide), if_neg (by decide), if_neg (by decide), if_neg (by decide), if_neg (by decide), if_pos rfl]
theorem tw_24 {a b : Int32} : twoV 24 a b = a &&& b := by unfold twoV; rw [if_neg (by decide), if_neg (by decide), if_neg (by decide), if_neg (by decide), if_neg (by decide), if_neg (by decide), if_neg (by decide), if_neg (by decide), if_neg (by decide), if_pos rfl]
theorem tw_25 {a b : Int32} : twoV 25 a b = a ||| b := by unfold twoV; rw [if_neg (by decide), if_neg (by decide), if_neg (by decide), if_neg (by decide), if_neg (by decide), if_neg (by decide), if_neg (by decide), if_neg (by decide), if_neg (by decide), if_neg (by decide), if_pos rfl]
theorem tw_26 {a b : Int32} : twoV 26 a b = mnv a b := by unfold twoV; rw [if_neg (by decide), if_neg (by decide), if_neg (by decide), if_neg (by decide), if_neg (by decide), if_neg (by decide), if_neg (by decide), if_neg (by decide), if_neg (by decide), if_neg (by decide), if_neg (by decide), if_pos rfl]
theorem hv_0 {n m l b : Nat} : (ev M np nb (opsT 0 n m l b) []).headD 0 = (if (((if (nI (n % 7 + 1)) = 0 then 0 else (M 200 0) / (nI (n % 7 + 1)))) * (nI (n % 7 + 1))) = (M 200 0) then 1 else 0) := by
  show (ev M np nb [(5, 0), (4, nI (n % 7 + 1)), (18, 0), (4, nI (n % 7 + 1)), (17, 0), (5, 0), (21, 0)] []).headD 0 = _
  rw [ev_l (by decide), ev_l (by decide), ev_2 (by decide) (by decide), ev_l (by decide), ev_2 (by decide) (by decide), ev_l (by decide), ev_2 (by decide) (by decide)]
  show _ = (if (((if (nI (n % 7 + 1)) = 0 then 0 else (M 200 0) / (nI (n % 7 + 1)))) * (nI (n % 7 + 1))) = (M 200 0) then 1 else 0)
  simp only [ev, List.headD_cons, lf_5, lf_4, tw_18, tw_17, tw_21]
theorem hv_1 {n m l b : Nat} : (ev M np nb (opsT 1 n m l b) []).headD 0 = (if (mWaits M nb 1) ≤ (mWaits M nb 0) then 0 else 1) := by
  show (ev M np nb [(7, 1), (7, 0), (20, 0)] []).headD 0 = _
  rw [ev_l (by decide), ev_l (by decide), ev_2 (by decide) (by decide)]
  show _ = (if (mWaits M nb 1) ≤ (mWaits M nb 0) then 0 else 1)
  simp only [ev, List.headD_cons, lf_7, tw_20]
theorem hv_2 {n m l b : Nat} (hb : b < 2147483648) : (ev M np nb (opsT 2 n m l b) []).headD 0 = ((if (mWaits M nb 0) = 0 then 1 else 0)) &&& ((if ((if M 206 b = 1 then (1 : Int32) else 0)) = 0 then 1 else 0)) := by
  show (ev M np nb [(7, 0), (4, 0), (21, 0), (10, nI b), (13, 0), (24, 0)] []).headD 0 = _
  rw [ev_l (by decide), ev_l (by decide), ev_2 (by decide) (by decide), ev_l (by decide), ev_1 (by decide) (by decide), ev_2 (by decide) (by decide)]
  show _ = ((if (mWaits M nb 0) = 0 then 1 else 0)) &&& ((if ((if M 206 b = 1 then (1 : Int32) else 0)) = 0 then 1 else 0))
  simp only [ev, List.headD_cons, lf_7, lf_4, tw_21, lf_10, on_13, tw_24, tn_nI hb]
theorem hv_3 {n m l b : Nat} : (ev M np nb (opsT 3 n m l b) []).headD 0 = (if (nI m) ≤ (airV M np (nI n)) then 0 else 1) := by
  show (ev M np nb [(4, nI n), (12, 0), (4, nI m), (19, 0)] []).headD 0 = _
  rw [ev_l (by decide), ev_1 (by decide) (by decide), ev_l (by decide), ev_2 (by decide) (by decide)]
  show _ = (if (nI m) ≤ (airV M np (nI n)) then 0 else 1)
  simp only [ev, List.headD_cons, lf_4, on_12, tw_19]
theorem hv_4 {n m l b : Nat} (hl : l < 2147483648) : (ev M np nb (opsT 4 n m l b) []).headD 0 = (if (nI m) ≤ (M 203 l) then 0 else 1) := by
  show (ev M np nb [(8, nI l), (4, nI m), (19, 0)] []).headD 0 = _
  rw [ev_l (by decide), ev_l (by decide), ev_2 (by decide) (by decide)]
  show _ = (if (nI m) ≤ (M 203 l) then 0 else 1)
  simp only [ev, List.headD_cons, lf_8, lf_4, tw_19, tn_nI hl]
theorem hv_5 {n m l b : Nat} (hl : l < 2147483648) (hb : b < 2147483648) : (ev M np nb (opsT 5 n m l b) []).headD 0 = ((if ((if M 204 l = -1 then (1 : Int32) else 0)) = 0 then 1 else 0)) ||| ((if (M 209 b) < (nI n) then 0 else 1)) := by
  show (ev M np nb [(11, nI l), (13, 0), (9, nI b), (4, nI n), (23, 0), (25, 0)] []).headD 0 = _
  rw [ev_l (by decide), ev_1 (by decide) (by decide), ev_l (by decide), ev_l (by decide), ev_2 (by decide) (by decide), ev_2 (by decide) (by decide)]
  show _ = ((if ((if M 204 l = -1 then (1 : Int32) else 0)) = 0 then 1 else 0)) ||| ((if (M 209 b) < (nI n) then 0 else 1))
  simp only [ev, List.headD_cons, lf_11, on_13, lf_9, lf_4, tw_23, tw_25, tn_nI hl, tn_nI hb]
theorem hv_6 {n m l b : Nat} (hb : b < 2147483648) : (ev M np nb (opsT 6 n m l b) []).headD 0 = ((if (M 201 0) = 1 then 1 else 0)) &&& (((if (M 200 0) ≤ (nI n) then 0 else 1)) ||| ((if (airV M np (M 209 b)) ≤ (nI m) then 0 else 1))) := by
  show (ev M np nb [(6, 0), (4, 1), (21, 0), (5, 0), (4, nI n), (20, 0), (9, nI b), (12, 0), (4, nI m), (20, 0), (25, 0), (24, 0)] []).headD 0 = _
  rw [ev_l (by decide), ev_l (by decide), ev_2 (by decide) (by decide), ev_l (by decide), ev_l (by decide), ev_2 (by decide) (by decide), ev_l (by decide), ev_1 (by decide) (by decide), ev_l (by decide), ev_2 (by decide) (by decide), ev_2 (by decide) (by decide), ev_2 (by decide) (by decide)]
  show _ = ((if (M 201 0) = 1 then 1 else 0)) &&& (((if (M 200 0) ≤ (nI n) then 0 else 1)) ||| ((if (airV M np (M 209 b)) ≤ (nI m) then 0 else 1)))
  simp only [ev, List.headD_cons, lf_6, lf_4, tw_21, lf_5, tw_20, lf_9, on_12, tw_25, tw_24, tn_nI hb]
theorem hv_7 {n m l b : Nat} : (ev M np nb (opsT 7 n m l b) []).headD 0 = (if 1 ≤ ((mnv (mWaits M nb 0) (nI n)) - (mWaits M nb 1)) then 0 else 1) := by
  show (ev M np nb [(7, 0), (4, nI n), (26, 0), (7, 1), (16, 0), (4, 1), (19, 0)] []).headD 0 = _
  rw [ev_l (by decide), ev_l (by decide), ev_2 (by decide) (by decide), ev_l (by decide), ev_2 (by decide) (by decide), ev_l (by decide), ev_2 (by decide) (by decide)]
  show _ = (if 1 ≤ ((mnv (mWaits M nb 0) (nI n)) - (mWaits M nb 1)) then 0 else 1)
  simp only [ev, List.headD_cons, lf_7, lf_4, tw_26, tw_16, tw_19]
end HV
section HZ
variable {P Q : M2} {nn : Nat → Nat} {V S O N U L B M : M2} {np nl nb ns no : Nat} {T : Nat → List (Int32 × Int32)} {K : Int32 → Prop}
theorem cap_neg {M : M2} {np nl l : Nat} (hc : ICP M np nl) (hn : np ≤ 60) (hl : l < nl) : 0 ≤ M 204 l ↔ ¬ M 204 l = -1 := by
  rcases hc l hl with h | ⟨p, hp, h⟩
  · rw [h]; exact ⟨fun z => absurd z (by decide), fun z => absurd rfl z⟩
  · rw [h]; exact ⟨fun _ => nI_nm1 (by omega), fun _ => nI_pos' (by omega)⟩
theorem sub0_iff {a b : Int32} : a - b = 0 ↔ b = a := by
  constructor
  · intro h
    have e := congrArg (· + b) h
    simp only [Int32.sub_add_cancel, Int32.zero_add] at e
    exact e.symm
  · intro h
    rw [h, Int32.sub_self]
theorem kif {c : Prop} [Decidable c] {a b : Int32} (h : K (if c then a else b)) : (c → K a) ∧ (¬ c → K b) := ⟨fun z => by rw [if_pos z] at h; exact h, fun z => by rw [if_neg z] at h; exact h⟩
theorem s_holds (hp : PR P Q np nl nb ns no) (hk : ZK nn V S O Q T np nl nb ns no) (hz : ZS Q M N U L B np nl nb) (hc : ICP M np nl) {o : Nat} (ho : o < no) (h : K (hvV T M np nb o)) : wp_X6_holds nn V S O N U L B (nI o) K := by
  have h16 := hp.no3
  have h60 := hp.np3
  have hl0 := hk.nl0
  have hl5 := hk.nl5
  have hb0 := hk.nb0
  have hb5 := hk.nb5
  have io := hk.i5 ho h16
  have to : (nI o).toInt.toNat = o := tn_nI (by omega)
  obtain ⟨_, _, e, n, m, x, he, hn, hm, hx, e2, e3, e4, e5, eT⟩ := hk.2.2.2.2 o ho
  have hxl : x % nl < nl := Nat.mod_lt _ hl0
  have hxb : x % nb < nb := Nat.mod_lt _ hb0
  unfold hvV at h
  rw [eT] at h
  unfold wp_X6_holds
  rw [to, e2, e3, e4, e5, hk.n3, hk.n4, nI_m30 hx hl0 hl5, nI_m30 hx hb0 hb5]
  refine ⟨io, fun v2 E2 => ⟨io, fun v3 E3 => ⟨io, nI_n0 hl0 hl5, hk.i3 hxl, fun v4 E4 => ⟨io, nI_n0 hb0 hb5, hk.i4 hxb, fun v5 E5 => ⟨io, ?_⟩⟩⟩⟩⟩
  subst E2 E3 E4 E5
  have tl : (nI (x % nl)).toInt.toNat = x % nl := tn_nI (by omega)
  have tb : (nI (x % nb)).toInt.toNat = x % nb := tn_nI (by omega)
  rw [tl, tb, hz.min, hz.turn, hz.b3 hxb, hz.b4 hxb, hz.l2 hxl, hz.l3 hxl, nI_m7 hn, nI_1]
  have cs : e = 0 ∨ e = 1 ∨ e = 2 ∨ e = 3 ∨ e = 4 ∨ e = 5 ∨ e = 6 ∨ e = 7 := by omega
  rcases cs with rfl | rfl | rfl | rfl | rfl | rfl | rfl | rfl
  · refine ⟨fun _ => ?_, fun c => absurd c (by decide), fun c => absurd c (by decide), fun c => absurd c (by decide), fun c => absurd c (by decide), fun c => absurd c (by decide), fun c => absurd c (by decide), fun c0 c1 c2 c3 c4 c5 c6 => absurd rfl c0⟩
    have hd : ¬ nI (n % 7 + 1) = 0 := nI_ne0 (by omega) (by omega)
    rw [hv_0, if_neg hd] at h
    refine ⟨hd, fun c => ?_, fun c => ?_⟩
    · exact (kif h).2 (fun z => c (sub0_iff.mpr z))
    · exact (kif h).1 (sub0_iff.mp c)
  · refine ⟨fun c => absurd c (by decide), fun _ => ?_, fun c => absurd c (by decide), fun c => absurd c (by decide), fun c => absurd c (by decide), fun c => absurd c (by decide), fun c => absurd c (by decide), fun c0 c1 c2 c3 c4 c5 c6 => absurd rfl c1⟩
    rw [hv_1] at h
    exact s_waits hk hz (s_waits hk hz (kif h))
  · refine ⟨fun c => absurd c (by decide), fun c => absurd c (by decide), fun _ => ?_, fun c => absurd c (by decide), fun c => absurd c (by decide), fun c => absurd c (by decide), fun c => absurd c (by decide), fun c0 c1 c2 c3 c4 c5 c6 => absurd rfl c2⟩
    rw [hv_2 (by omega)] at h
    refine s_waits hk hz ⟨fun c => ?_, fun c => ⟨hk.i4 hxb, fun c2 => ?_, fun c2 => ?_⟩⟩
    · rw [if_neg c, show ∀ y : Int32, 0 &&& y = 0 from fun y => Int32.zero_and] at h
      exact h
    · rw [if_pos c, if_pos c2] at h
      exact h
    · rw [if_pos c, if_neg c2] at h
      exact h
  · refine ⟨fun c => absurd c (by decide), fun c => absurd c (by decide), fun c => absurd c (by decide), fun _ => ?_, fun c => absurd c (by decide), fun c => absurd c (by decide), fun c => absurd c (by decide), fun c0 c1 c2 c3 c4 c5 c6 => absurd rfl c3⟩
    rw [hv_3] at h
    exact s_air hk hz h60 (kif h)
  · refine ⟨fun c => absurd c (by decide), fun c => absurd c (by decide), fun c => absurd c (by decide), fun c => absurd c (by decide), fun _ => ?_, fun c => absurd c (by decide), fun c => absurd c (by decide), fun c0 c1 c2 c3 c4 c5 c6 => absurd rfl c4⟩
    rw [hv_4 (by omega)] at h
    exact ⟨hk.i3 hxl, kif h⟩
  · refine ⟨fun c => absurd c (by decide), fun c => absurd c (by decide), fun c => absurd c (by decide), fun c => absurd c (by decide), fun c => absurd c (by decide), fun _ => ?_, fun c => absurd c (by decide), fun c0 c1 c2 c3 c4 c5 c6 => absurd rfl c5⟩
    rw [hv_5 (by omega) (by omega)] at h
    rw [cap_neg hc h60 hxl]
    refine ⟨hk.i3 hxl, fun c => ?_, fun c => ⟨hk.i4 hxb, fun c2 => ?_, fun c2 => ?_⟩⟩
    · rw [if_neg c, if_pos rfl] at h
      by_cases c2 : M 209 (x % nb) < nI n
      · rw [if_pos c2] at h
        exact h
      · rw [if_neg c2] at h
        exact h
    · rw [if_pos (Decidable.byContradiction c), if_neg (by decide), if_pos c2] at h
      exact h
    · rw [if_pos (Decidable.byContradiction c), if_neg (by decide), if_neg c2] at h
      exact h
  · refine ⟨fun c => absurd c (by decide), fun c => absurd c (by decide), fun c => absurd c (by decide), fun c => absurd c (by decide), fun c => absurd c (by decide), fun c => absurd c (by decide), fun _ => ?_, fun c0 c1 c2 c3 c4 c5 c6 => absurd rfl c6⟩
    rw [hv_6 (by omega)] at h
    refine ⟨fun c => ?_, fun c => ⟨fun c2 => ?_, fun c2 => ⟨hk.i4 hxb, s_air hk hz h60 ⟨fun c3 => ?_, fun c3 => ?_⟩⟩⟩⟩
    · rw [if_neg c, show ∀ y : Int32, 0 &&& y = 0 from fun y => Int32.zero_and] at h
      exact h
    · rw [if_pos c, if_neg (Int32.not_le.mpr c2)] at h
      by_cases c3 : airV M np (M 209 (x % nb)) ≤ nI m
      · rw [if_pos c3] at h
        exact h
      · rw [if_neg c3] at h
        exact h
    · rw [if_pos c, if_pos (Int32.not_lt.mp c2), if_pos c3] at h
      exact h
    · rw [if_pos c, if_pos (Int32.not_lt.mp c2), if_neg c3] at h
      exact h
  · refine ⟨fun c => absurd c (by decide), fun c => absurd c (by decide), fun c => absurd c (by decide), fun c => absurd c (by decide), fun c => absurd c (by decide), fun c => absurd c (by decide), fun c => absurd c (by decide), fun _ _ _ _ _ _ _ => ?_⟩
    rw [hv_7] at h
    exact s_waits hk hz (s_waits hk hz (kif h))
theorem hv01 (hp : PR P Q np nl nb ns no) (hk : ZK nn V S O Q T np nl nb ns no) {o : Nat} (ho : o < no) : hvV T M np nb o = 0 ∨ hvV T M np nb o = 1 := by
  have hl0 := hk.nl0
  have hl5 := hk.nl5
  have hb0 := hk.nb0
  have hb5 := hk.nb5
  obtain ⟨_, _, e, n, m, x, he, hn, hm, hx, e2, e3, e4, e5, eT⟩ := hk.2.2.2.2 o ho
  have hxl : x % nl < nl := Nat.mod_lt _ hl0
  have hxb : x % nb < nb := Nat.mod_lt _ hb0
  unfold hvV
  rw [eT]
  have cs : e = 0 ∨ e = 1 ∨ e = 2 ∨ e = 3 ∨ e = 4 ∨ e = 5 ∨ e = 6 ∨ e = 7 := by omega
  rcases cs with rfl | rfl | rfl | rfl | rfl | rfl | rfl | rfl
  · rw [hv_0]
    exact b_ite
  · rw [hv_1]
    exact b_ite'
  · rw [hv_2 (by omega)]
    exact b_and b_ite b_ite
  · rw [hv_3]
    exact b_ite'
  · rw [hv_4 (by omega)]
    exact b_ite'
  · rw [hv_5 (by omega) (by omega)]
    exact b_or b_ite b_ite'
  · rw [hv_6 (by omega)]
    exact b_and b_ite (b_or b_ite' b_ite')
  · rw [hv_7]
    exact b_ite'
end HZ
