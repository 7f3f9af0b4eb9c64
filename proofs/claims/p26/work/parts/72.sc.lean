/-! ===== the law's tunnel is written ===== -/
section ZW
variable {Q M N U L B : M2} {np nl nb : Nat}
theorem ZS.pb1 (h : ZS Q M N U L B np nl nb) (b : Nat) (x : Int32) : ZS Q (st2 M 207 b x) N U L (st2 B b 1 x) np nl nb := by
  have em : ∀ k, k ≠ 207 → st2 M 207 b x k = M k := fun k hk => st2_n _ _ _ hk
  have e : ∀ i, i ≠ 1 → st2 B b 1 x b i = B b i := fun i hi => st2_o _ _ (Or.inr hi)
  refine ⟨⟨h.1.1.trans (congrFun (em 200 (by decide)).symm 0), h.1.2.1.trans (congrFun (em 201 (by decide)).symm 0), h.1.2.2.1, (congrFun (em 212 (by decide)) 0).trans h.1.2.2.2⟩, fun p hp => ⟨(h.2.1 p hp).1, (h.2.1 p hp).2.trans (congrFun (em 202 (by decide)).symm p)⟩, fun l hl => ⟨h.l0 hl, h.l1 hl, (h.l2 hl).trans (congrFun (em 203 (by decide)).symm l), (h.l3 hl).trans (congrFun (em 204 (by decide)).symm l), (h.l4 hl).trans (congrFun (em 205 (by decide)).symm l)⟩, fun c hc => ?_⟩
  by_cases hcb : c = b
  · subst hcb
    exact ⟨(e 0 (by decide)).trans (h.b0 hc), (st2_s _ _ _ _).trans (st2_s _ _ _ _).symm, (e 2 (by decide)).trans ((h.b2 hc).trans (congrFun (em 208 (by decide)).symm c)), (e 3 (by decide)).trans ((h.b3 hc).trans (congrFun (em 206 (by decide)).symm c)), (e 4 (by decide)).trans ((h.b4 hc).trans (congrFun (em 209 (by decide)).symm c)), (e 5 (by decide)).trans ((h.b5 hc).trans (congrFun (em 210 (by decide)).symm c)), (e 6 (by decide)).trans ((h.b6 hc).trans (congrFun (em 211 (by decide)).symm c)), (e 7 (by decide)).trans (h.b7 hc), (e 8 (by decide)).trans (h.b8 hc)⟩
  · have e2 : st2 B b 1 x c = B c := st2_n _ _ _ hcb
    have e3 : ∀ k, st2 M 207 b x k c = M k c := fun k => st2_o _ _ (Or.inr hcb)
    rw [e2]
    exact ⟨h.b0 hc, (h.b1 hc).trans (e3 207).symm, (h.b2 hc).trans (e3 208).symm, (h.b3 hc).trans (e3 206).symm, (h.b4 hc).trans (e3 209).symm, (h.b5 hc).trans (e3 210).symm, (h.b6 hc).trans (e3 211).symm, h.b7 hc, h.b8 hc⟩
theorem ZS.pb2 (h : ZS Q M N U L B np nl nb) (b : Nat) (x : Int32) : ZS Q (st2 M 208 b x) N U L (st2 B b 2 x) np nl nb := by
  have em : ∀ k, k ≠ 208 → st2 M 208 b x k = M k := fun k hk => st2_n _ _ _ hk
  have e : ∀ i, i ≠ 2 → st2 B b 2 x b i = B b i := fun i hi => st2_o _ _ (Or.inr hi)
  refine ⟨⟨h.1.1.trans (congrFun (em 200 (by decide)).symm 0), h.1.2.1.trans (congrFun (em 201 (by decide)).symm 0), h.1.2.2.1, (congrFun (em 212 (by decide)) 0).trans h.1.2.2.2⟩, fun p hp => ⟨(h.2.1 p hp).1, (h.2.1 p hp).2.trans (congrFun (em 202 (by decide)).symm p)⟩, fun l hl => ⟨h.l0 hl, h.l1 hl, (h.l2 hl).trans (congrFun (em 203 (by decide)).symm l), (h.l3 hl).trans (congrFun (em 204 (by decide)).symm l), (h.l4 hl).trans (congrFun (em 205 (by decide)).symm l)⟩, fun c hc => ?_⟩
  by_cases hcb : c = b
  · subst hcb
    exact ⟨(e 0 (by decide)).trans (h.b0 hc), (e 1 (by decide)).trans ((h.b1 hc).trans (congrFun (em 207 (by decide)).symm c)), (st2_s _ _ _ _).trans (st2_s _ _ _ _).symm, (e 3 (by decide)).trans ((h.b3 hc).trans (congrFun (em 206 (by decide)).symm c)), (e 4 (by decide)).trans ((h.b4 hc).trans (congrFun (em 209 (by decide)).symm c)), (e 5 (by decide)).trans ((h.b5 hc).trans (congrFun (em 210 (by decide)).symm c)), (e 6 (by decide)).trans ((h.b6 hc).trans (congrFun (em 211 (by decide)).symm c)), (e 7 (by decide)).trans (h.b7 hc), (e 8 (by decide)).trans (h.b8 hc)⟩
  · have e2 : st2 B b 2 x c = B c := st2_n _ _ _ hcb
    have e3 : ∀ k, st2 M 208 b x k c = M k c := fun k => st2_o _ _ (Or.inr hcb)
    rw [e2]
    exact ⟨h.b0 hc, (h.b1 hc).trans (e3 207).symm, (h.b2 hc).trans (e3 208).symm, (h.b3 hc).trans (e3 206).symm, (h.b4 hc).trans (e3 209).symm, (h.b5 hc).trans (e3 210).symm, (h.b6 hc).trans (e3 211).symm, h.b7 hc, h.b8 hc⟩
theorem ZS.pb3 (h : ZS Q M N U L B np nl nb) (b : Nat) (x : Int32) : ZS Q (st2 M 206 b x) N U L (st2 B b 3 x) np nl nb := by
  have em : ∀ k, k ≠ 206 → st2 M 206 b x k = M k := fun k hk => st2_n _ _ _ hk
  have e : ∀ i, i ≠ 3 → st2 B b 3 x b i = B b i := fun i hi => st2_o _ _ (Or.inr hi)
  refine ⟨⟨h.1.1.trans (congrFun (em 200 (by decide)).symm 0), h.1.2.1.trans (congrFun (em 201 (by decide)).symm 0), h.1.2.2.1, (congrFun (em 212 (by decide)) 0).trans h.1.2.2.2⟩, fun p hp => ⟨(h.2.1 p hp).1, (h.2.1 p hp).2.trans (congrFun (em 202 (by decide)).symm p)⟩, fun l hl => ⟨h.l0 hl, h.l1 hl, (h.l2 hl).trans (congrFun (em 203 (by decide)).symm l), (h.l3 hl).trans (congrFun (em 204 (by decide)).symm l), (h.l4 hl).trans (congrFun (em 205 (by decide)).symm l)⟩, fun c hc => ?_⟩
  by_cases hcb : c = b
  · subst hcb
    exact ⟨(e 0 (by decide)).trans (h.b0 hc), (e 1 (by decide)).trans ((h.b1 hc).trans (congrFun (em 207 (by decide)).symm c)), (e 2 (by decide)).trans ((h.b2 hc).trans (congrFun (em 208 (by decide)).symm c)), (st2_s _ _ _ _).trans (st2_s _ _ _ _).symm, (e 4 (by decide)).trans ((h.b4 hc).trans (congrFun (em 209 (by decide)).symm c)), (e 5 (by decide)).trans ((h.b5 hc).trans (congrFun (em 210 (by decide)).symm c)), (e 6 (by decide)).trans ((h.b6 hc).trans (congrFun (em 211 (by decide)).symm c)), (e 7 (by decide)).trans (h.b7 hc), (e 8 (by decide)).trans (h.b8 hc)⟩
  · have e2 : st2 B b 3 x c = B c := st2_n _ _ _ hcb
    have e3 : ∀ k, st2 M 206 b x k c = M k c := fun k => st2_o _ _ (Or.inr hcb)
    rw [e2]
    exact ⟨h.b0 hc, (h.b1 hc).trans (e3 207).symm, (h.b2 hc).trans (e3 208).symm, (h.b3 hc).trans (e3 206).symm, (h.b4 hc).trans (e3 209).symm, (h.b5 hc).trans (e3 210).symm, (h.b6 hc).trans (e3 211).symm, h.b7 hc, h.b8 hc⟩
theorem ZS.pb4 (h : ZS Q M N U L B np nl nb) (b : Nat) (x : Int32) : ZS Q (st2 M 209 b x) N U L (st2 B b 4 x) np nl nb := by
  have em : ∀ k, k ≠ 209 → st2 M 209 b x k = M k := fun k hk => st2_n _ _ _ hk
  have e : ∀ i, i ≠ 4 → st2 B b 4 x b i = B b i := fun i hi => st2_o _ _ (Or.inr hi)
  refine ⟨⟨h.1.1.trans (congrFun (em 200 (by decide)).symm 0), h.1.2.1.trans (congrFun (em 201 (by decide)).symm 0), h.1.2.2.1, (congrFun (em 212 (by decide)) 0).trans h.1.2.2.2⟩, fun p hp => ⟨(h.2.1 p hp).1, (h.2.1 p hp).2.trans (congrFun (em 202 (by decide)).symm p)⟩, fun l hl => ⟨h.l0 hl, h.l1 hl, (h.l2 hl).trans (congrFun (em 203 (by decide)).symm l), (h.l3 hl).trans (congrFun (em 204 (by decide)).symm l), (h.l4 hl).trans (congrFun (em 205 (by decide)).symm l)⟩, fun c hc => ?_⟩
  by_cases hcb : c = b
  · subst hcb
    exact ⟨(e 0 (by decide)).trans (h.b0 hc), (e 1 (by decide)).trans ((h.b1 hc).trans (congrFun (em 207 (by decide)).symm c)), (e 2 (by decide)).trans ((h.b2 hc).trans (congrFun (em 208 (by decide)).symm c)), (e 3 (by decide)).trans ((h.b3 hc).trans (congrFun (em 206 (by decide)).symm c)), (st2_s _ _ _ _).trans (st2_s _ _ _ _).symm, (e 5 (by decide)).trans ((h.b5 hc).trans (congrFun (em 210 (by decide)).symm c)), (e 6 (by decide)).trans ((h.b6 hc).trans (congrFun (em 211 (by decide)).symm c)), (e 7 (by decide)).trans (h.b7 hc), (e 8 (by decide)).trans (h.b8 hc)⟩
  · have e2 : st2 B b 4 x c = B c := st2_n _ _ _ hcb
    have e3 : ∀ k, st2 M 209 b x k c = M k c := fun k => st2_o _ _ (Or.inr hcb)
    rw [e2]
    exact ⟨h.b0 hc, (h.b1 hc).trans (e3 207).symm, (h.b2 hc).trans (e3 208).symm, (h.b3 hc).trans (e3 206).symm, (h.b4 hc).trans (e3 209).symm, (h.b5 hc).trans (e3 210).symm, (h.b6 hc).trans (e3 211).symm, h.b7 hc, h.b8 hc⟩
theorem ZS.pb5 (h : ZS Q M N U L B np nl nb) (b : Nat) (x : Int32) : ZS Q (st2 M 210 b x) N U L (st2 B b 5 x) np nl nb := by
  have em : ∀ k, k ≠ 210 → st2 M 210 b x k = M k := fun k hk => st2_n _ _ _ hk
  have e : ∀ i, i ≠ 5 → st2 B b 5 x b i = B b i := fun i hi => st2_o _ _ (Or.inr hi)
  refine ⟨⟨h.1.1.trans (congrFun (em 200 (by decide)).symm 0), h.1.2.1.trans (congrFun (em 201 (by decide)).symm 0), h.1.2.2.1, (congrFun (em 212 (by decide)) 0).trans h.1.2.2.2⟩, fun p hp => ⟨(h.2.1 p hp).1, (h.2.1 p hp).2.trans (congrFun (em 202 (by decide)).symm p)⟩, fun l hl => ⟨h.l0 hl, h.l1 hl, (h.l2 hl).trans (congrFun (em 203 (by decide)).symm l), (h.l3 hl).trans (congrFun (em 204 (by decide)).symm l), (h.l4 hl).trans (congrFun (em 205 (by decide)).symm l)⟩, fun c hc => ?_⟩
  by_cases hcb : c = b
  · subst hcb
    exact ⟨(e 0 (by decide)).trans (h.b0 hc), (e 1 (by decide)).trans ((h.b1 hc).trans (congrFun (em 207 (by decide)).symm c)), (e 2 (by decide)).trans ((h.b2 hc).trans (congrFun (em 208 (by decide)).symm c)), (e 3 (by decide)).trans ((h.b3 hc).trans (congrFun (em 206 (by decide)).symm c)), (e 4 (by decide)).trans ((h.b4 hc).trans (congrFun (em 209 (by decide)).symm c)), (st2_s _ _ _ _).trans (st2_s _ _ _ _).symm, (e 6 (by decide)).trans ((h.b6 hc).trans (congrFun (em 211 (by decide)).symm c)), (e 7 (by decide)).trans (h.b7 hc), (e 8 (by decide)).trans (h.b8 hc)⟩
  · have e2 : st2 B b 5 x c = B c := st2_n _ _ _ hcb
    have e3 : ∀ k, st2 M 210 b x k c = M k c := fun k => st2_o _ _ (Or.inr hcb)
    rw [e2]
    exact ⟨h.b0 hc, (h.b1 hc).trans (e3 207).symm, (h.b2 hc).trans (e3 208).symm, (h.b3 hc).trans (e3 206).symm, (h.b4 hc).trans (e3 209).symm, (h.b5 hc).trans (e3 210).symm, (h.b6 hc).trans (e3 211).symm, h.b7 hc, h.b8 hc⟩
theorem ZS.pb6 (h : ZS Q M N U L B np nl nb) (b : Nat) (x : Int32) : ZS Q (st2 M 211 b x) N U L (st2 B b 6 x) np nl nb := by
  have em : ∀ k, k ≠ 211 → st2 M 211 b x k = M k := fun k hk => st2_n _ _ _ hk
  have e : ∀ i, i ≠ 6 → st2 B b 6 x b i = B b i := fun i hi => st2_o _ _ (Or.inr hi)
  refine ⟨⟨h.1.1.trans (congrFun (em 200 (by decide)).symm 0), h.1.2.1.trans (congrFun (em 201 (by decide)).symm 0), h.1.2.2.1, (congrFun (em 212 (by decide)) 0).trans h.1.2.2.2⟩, fun p hp => ⟨(h.2.1 p hp).1, (h.2.1 p hp).2.trans (congrFun (em 202 (by decide)).symm p)⟩, fun l hl => ⟨h.l0 hl, h.l1 hl, (h.l2 hl).trans (congrFun (em 203 (by decide)).symm l), (h.l3 hl).trans (congrFun (em 204 (by decide)).symm l), (h.l4 hl).trans (congrFun (em 205 (by decide)).symm l)⟩, fun c hc => ?_⟩
  by_cases hcb : c = b
  · subst hcb
    exact ⟨(e 0 (by decide)).trans (h.b0 hc), (e 1 (by decide)).trans ((h.b1 hc).trans (congrFun (em 207 (by decide)).symm c)), (e 2 (by decide)).trans ((h.b2 hc).trans (congrFun (em 208 (by decide)).symm c)), (e 3 (by decide)).trans ((h.b3 hc).trans (congrFun (em 206 (by decide)).symm c)), (e 4 (by decide)).trans ((h.b4 hc).trans (congrFun (em 209 (by decide)).symm c)), (e 5 (by decide)).trans ((h.b5 hc).trans (congrFun (em 210 (by decide)).symm c)), (st2_s _ _ _ _).trans (st2_s _ _ _ _).symm, (e 7 (by decide)).trans (h.b7 hc), (e 8 (by decide)).trans (h.b8 hc)⟩
  · have e2 : st2 B b 6 x c = B c := st2_n _ _ _ hcb
    have e3 : ∀ k, st2 M 211 b x k c = M k c := fun k => st2_o _ _ (Or.inr hcb)
    rw [e2]
    exact ⟨h.b0 hc, (h.b1 hc).trans (e3 207).symm, (h.b2 hc).trans (e3 208).symm, (h.b3 hc).trans (e3 206).symm, (h.b4 hc).trans (e3 209).symm, (h.b5 hc).trans (e3 210).symm, (h.b6 hc).trans (e3 211).symm, h.b7 hc, h.b8 hc⟩
theorem ZS.pl2 (h : ZS Q M N U L B np nl nb) (l : Nat) (x : Int32) : ZS Q (st2 M 203 l x) N U (st2 L l 2 x) B np nl nb := by
  have em : ∀ k, k ≠ 203 → st2 M 203 l x k = M k := fun k hk => st2_n _ _ _ hk
  have e : ∀ i, i ≠ 2 → st2 L l 2 x l i = L l i := fun i hi => st2_o _ _ (Or.inr hi)
  refine ⟨⟨h.1.1.trans (congrFun (em 200 (by decide)).symm 0), h.1.2.1.trans (congrFun (em 201 (by decide)).symm 0), h.1.2.2.1, (congrFun (em 212 (by decide)) 0).trans h.1.2.2.2⟩, fun p hp => ⟨(h.2.1 p hp).1, (h.2.1 p hp).2.trans (congrFun (em 202 (by decide)).symm p)⟩, fun c hc => ?_, fun c hc => ⟨h.b0 hc, (h.b1 hc).trans (congrFun (em 207 (by decide)).symm c), (h.b2 hc).trans (congrFun (em 208 (by decide)).symm c), (h.b3 hc).trans (congrFun (em 206 (by decide)).symm c), (h.b4 hc).trans (congrFun (em 209 (by decide)).symm c), (h.b5 hc).trans (congrFun (em 210 (by decide)).symm c), (h.b6 hc).trans (congrFun (em 211 (by decide)).symm c), h.b7 hc, h.b8 hc⟩⟩
  by_cases hcb : c = l
  · subst hcb
    exact ⟨(e 0 (by decide)).trans (h.l0 hc), (e 1 (by decide)).trans (h.l1 hc), (st2_s _ _ _ _).trans (st2_s _ _ _ _).symm, (e 3 (by decide)).trans ((h.l3 hc).trans (congrFun (em 204 (by decide)).symm c)), (e 4 (by decide)).trans ((h.l4 hc).trans (congrFun (em 205 (by decide)).symm c))⟩
  · have e2 : st2 L l 2 x c = L c := st2_n _ _ _ hcb
    have e3 : ∀ k, st2 M 203 l x k c = M k c := fun k => st2_o _ _ (Or.inr hcb)
    rw [e2]
    exact ⟨h.l0 hc, h.l1 hc, (h.l2 hc).trans (e3 203).symm, (h.l3 hc).trans (e3 204).symm, (h.l4 hc).trans (e3 205).symm⟩
theorem ZS.pl3 (h : ZS Q M N U L B np nl nb) (l : Nat) (x : Int32) : ZS Q (st2 M 204 l x) N U (st2 L l 3 x) B np nl nb := by
  have em : ∀ k, k ≠ 204 → st2 M 204 l x k = M k := fun k hk => st2_n _ _ _ hk
  have e : ∀ i, i ≠ 3 → st2 L l 3 x l i = L l i := fun i hi => st2_o _ _ (Or.inr hi)
  refine ⟨⟨h.1.1.trans (congrFun (em 200 (by decide)).symm 0), h.1.2.1.trans (congrFun (em 201 (by decide)).symm 0), h.1.2.2.1, (congrFun (em 212 (by decide)) 0).trans h.1.2.2.2⟩, fun p hp => ⟨(h.2.1 p hp).1, (h.2.1 p hp).2.trans (congrFun (em 202 (by decide)).symm p)⟩, fun c hc => ?_, fun c hc => ⟨h.b0 hc, (h.b1 hc).trans (congrFun (em 207 (by decide)).symm c), (h.b2 hc).trans (congrFun (em 208 (by decide)).symm c), (h.b3 hc).trans (congrFun (em 206 (by decide)).symm c), (h.b4 hc).trans (congrFun (em 209 (by decide)).symm c), (h.b5 hc).trans (congrFun (em 210 (by decide)).symm c), (h.b6 hc).trans (congrFun (em 211 (by decide)).symm c), h.b7 hc, h.b8 hc⟩⟩
  by_cases hcb : c = l
  · subst hcb
    exact ⟨(e 0 (by decide)).trans (h.l0 hc), (e 1 (by decide)).trans (h.l1 hc), (e 2 (by decide)).trans ((h.l2 hc).trans (congrFun (em 203 (by decide)).symm c)), (st2_s _ _ _ _).trans (st2_s _ _ _ _).symm, (e 4 (by decide)).trans ((h.l4 hc).trans (congrFun (em 205 (by decide)).symm c))⟩
  · have e2 : st2 L l 3 x c = L c := st2_n _ _ _ hcb
    have e3 : ∀ k, st2 M 204 l x k c = M k c := fun k => st2_o _ _ (Or.inr hcb)
    rw [e2]
    exact ⟨h.l0 hc, h.l1 hc, (h.l2 hc).trans (e3 203).symm, (h.l3 hc).trans (e3 204).symm, (h.l4 hc).trans (e3 205).symm⟩
theorem ZS.pl4 (h : ZS Q M N U L B np nl nb) (l : Nat) (x : Int32) : ZS Q (st2 M 205 l x) N U (st2 L l 4 x) B np nl nb := by
  have em : ∀ k, k ≠ 205 → st2 M 205 l x k = M k := fun k hk => st2_n _ _ _ hk
  have e : ∀ i, i ≠ 4 → st2 L l 4 x l i = L l i := fun i hi => st2_o _ _ (Or.inr hi)
  refine ⟨⟨h.1.1.trans (congrFun (em 200 (by decide)).symm 0), h.1.2.1.trans (congrFun (em 201 (by decide)).symm 0), h.1.2.2.1, (congrFun (em 212 (by decide)) 0).trans h.1.2.2.2⟩, fun p hp => ⟨(h.2.1 p hp).1, (h.2.1 p hp).2.trans (congrFun (em 202 (by decide)).symm p)⟩, fun c hc => ?_, fun c hc => ⟨h.b0 hc, (h.b1 hc).trans (congrFun (em 207 (by decide)).symm c), (h.b2 hc).trans (congrFun (em 208 (by decide)).symm c), (h.b3 hc).trans (congrFun (em 206 (by decide)).symm c), (h.b4 hc).trans (congrFun (em 209 (by decide)).symm c), (h.b5 hc).trans (congrFun (em 210 (by decide)).symm c), (h.b6 hc).trans (congrFun (em 211 (by decide)).symm c), h.b7 hc, h.b8 hc⟩⟩
  by_cases hcb : c = l
  · subst hcb
    exact ⟨(e 0 (by decide)).trans (h.l0 hc), (e 1 (by decide)).trans (h.l1 hc), (e 2 (by decide)).trans ((h.l2 hc).trans (congrFun (em 203 (by decide)).symm c)), (e 3 (by decide)).trans ((h.l3 hc).trans (congrFun (em 204 (by decide)).symm c)), (st2_s _ _ _ _).trans (st2_s _ _ _ _).symm⟩
  · have e2 : st2 L l 4 x c = L c := st2_n _ _ _ hcb
    have e3 : ∀ k, st2 M 205 l x k c = M k c := fun k => st2_o _ _ (Or.inr hcb)
    rw [e2]
    exact ⟨h.l0 hc, h.l1 hc, (h.l2 hc).trans (e3 203).symm, (h.l3 hc).trans (e3 204).symm, (h.l4 hc).trans (e3 205).symm⟩
theorem ZS.pu (h : ZS Q M N U L B np nl nb) (p : Nat) (x : Int32) : ZS Q (st2 M 202 p x) N (st2 U p 1 x) L B np nl nb := by
  have em : ∀ k, k ≠ 202 → st2 M 202 p x k = M k := fun k hk => st2_n _ _ _ hk
  refine ⟨⟨h.1.1.trans (congrFun (em 200 (by decide)).symm 0), h.1.2.1.trans (congrFun (em 201 (by decide)).symm 0), h.1.2.2.1, (congrFun (em 212 (by decide)) 0).trans h.1.2.2.2⟩, fun c hc => ?_, fun l hl => ⟨h.l0 hl, h.l1 hl, (h.l2 hl).trans (congrFun (em 203 (by decide)).symm l), (h.l3 hl).trans (congrFun (em 204 (by decide)).symm l), (h.l4 hl).trans (congrFun (em 205 (by decide)).symm l)⟩, fun c hc => ⟨h.b0 hc, (h.b1 hc).trans (congrFun (em 207 (by decide)).symm c), (h.b2 hc).trans (congrFun (em 208 (by decide)).symm c), (h.b3 hc).trans (congrFun (em 206 (by decide)).symm c), (h.b4 hc).trans (congrFun (em 209 (by decide)).symm c), (h.b5 hc).trans (congrFun (em 210 (by decide)).symm c), (h.b6 hc).trans (congrFun (em 211 (by decide)).symm c), h.b7 hc, h.b8 hc⟩⟩
  by_cases hcb : c = p
  · subst hcb
    exact ⟨(st2_o _ _ (Or.inr (by decide))).trans (h.u0 hc), (st2_s _ _ _ _).trans (st2_s _ _ _ _).symm⟩
  · have e2 : st2 U p 1 x c = U c := st2_n _ _ _ hcb
    rw [e2]
    exact ⟨h.u0 hc, (h.u1 hc).trans (st2_o _ _ (Or.inr hcb)).symm⟩
theorem ZS.pmin (h : ZS Q M N U L B np nl nb) (x : Int32) : ZS Q (up2 M 200 (fun _ => x)) (up2 N 0 (fun _ => x)) U L B np nl nb := by
  have em : ∀ k, k ≠ 200 → up2 M 200 (fun _ => x) k = M k := fun k hk => up2_n M _ hk
  have en : ∀ k, k ≠ 0 → up2 N 0 (fun _ => x) k = N k := fun k hk => up2_n N _ hk
  exact ⟨⟨by rw [up2_s, up2_s], (congrFun (en 1 (by decide)) 0).trans (h.1.2.1.trans (congrFun (em 201 (by decide)).symm 0)), (congrFun (en 2 (by decide)) 0).trans h.1.2.2.1, (congrFun (em 212 (by decide)) 0).trans h.1.2.2.2⟩, fun p hp => ⟨(h.2.1 p hp).1, (h.2.1 p hp).2.trans (congrFun (em 202 (by decide)).symm p)⟩, fun l hl => ⟨h.l0 hl, h.l1 hl, (h.l2 hl).trans (congrFun (em 203 (by decide)).symm l), (h.l3 hl).trans (congrFun (em 204 (by decide)).symm l), (h.l4 hl).trans (congrFun (em 205 (by decide)).symm l)⟩, fun c hc => ⟨h.b0 hc, (h.b1 hc).trans (congrFun (em 207 (by decide)).symm c), (h.b2 hc).trans (congrFun (em 208 (by decide)).symm c), (h.b3 hc).trans (congrFun (em 206 (by decide)).symm c), (h.b4 hc).trans (congrFun (em 209 (by decide)).symm c), (h.b5 hc).trans (congrFun (em 210 (by decide)).symm c), (h.b6 hc).trans (congrFun (em 211 (by decide)).symm c), h.b7 hc, h.b8 hc⟩⟩
theorem ZS.pturn (h : ZS Q M N U L B np nl nb) (x : Int32) : ZS Q (up2 M 201 (fun _ => x)) (up2 N 1 (fun _ => x)) U L B np nl nb := by
  have em : ∀ k, k ≠ 201 → up2 M 201 (fun _ => x) k = M k := fun k hk => up2_n M _ hk
  have en : ∀ k, k ≠ 1 → up2 N 1 (fun _ => x) k = N k := fun k hk => up2_n N _ hk
  exact ⟨⟨(congrFun (en 0 (by decide)) 0).trans (h.1.1.trans (congrFun (em 200 (by decide)).symm 0)), by rw [up2_s, up2_s], (congrFun (en 2 (by decide)) 0).trans h.1.2.2.1, (congrFun (em 212 (by decide)) 0).trans h.1.2.2.2⟩, fun p hp => ⟨(h.2.1 p hp).1, (h.2.1 p hp).2.trans (congrFun (em 202 (by decide)).symm p)⟩, fun l hl => ⟨h.l0 hl, h.l1 hl, (h.l2 hl).trans (congrFun (em 203 (by decide)).symm l), (h.l3 hl).trans (congrFun (em 204 (by decide)).symm l), (h.l4 hl).trans (congrFun (em 205 (by decide)).symm l)⟩, fun c hc => ⟨h.b0 hc, (h.b1 hc).trans (congrFun (em 207 (by decide)).symm c), (h.b2 hc).trans (congrFun (em 208 (by decide)).symm c), (h.b3 hc).trans (congrFun (em 206 (by decide)).symm c), (h.b4 hc).trans (congrFun (em 209 (by decide)).symm c), (h.b5 hc).trans (congrFun (em 210 (by decide)).symm c), (h.b6 hc).trans (congrFun (em 211 (by decide)).symm c), h.b7 hc, h.b8 hc⟩⟩
end ZW
section ZC
variable {P Q : M2} {nn : Nat → Nat} {V S O N U L B M : M2} {np nl nb ns no : Nat} {T : Nat → List (Int32 × Int32)} {b : Nat}
theorem s_readyL {K : Int32 → Prop} (hp : PR P Q np nl nb ns no) (hk : ZK nn V S O Q T np nl nb ns no) (hz : ZS Q M N U L B np nl nb) (hc : ICP M np nl) {l : Nat} (hl : l < nl) : ∀ (d j f : Nat), j + d = no → d < f → K (nor (restP T Q M np nb l) d j) → wl_X6_isReady_43 nn V S O N U L B K f (nI l) (nI no) (nI j) := by
  intro d
  have h16 := hp.no3
  induction d with
  | zero =>
    intro j f hj hf h
    obtain ⟨f, rfl, _⟩ := fuel hf
    exact And.intro (fun _ => h) (fun c => absurd (nI_le (by omega) (by omega)) c)
  | succ d ih =>
    intro j f hj hf h
    obtain ⟨f, rfl, _⟩ := fuel hf
    have ho : j < no := by omega
    have tj : (nI j).toInt.toNat = j := tn_nI (by omega)
    have ij := hk.i5 ho h16
    obtain ⟨hw, hu, e, n, m, x, he, hn, hm, hx, e2, e3, e4, e5, eT⟩ := hk.2.2.2.2 j ho
    unfold nor at h
    have go : ¬ restP T Q M np nb l j → ∀ v : Int32, v = nI j + 1 → wl_X6_isReady_43 nn V S O N U L B K f (nI l) (nI no) v := fun hn v ev => by
      subst ev
      rw [nI_1]
      rw [if_neg hn] at h
      exact ih (j + 1) f (by omega) (by omega) h
    refine And.intro (fun c => absurd c (nI_ge (by omega) (by omega))) (fun _ => ⟨ij, ij, ?_⟩)
    rw [tj]
    rcases hw with ⟨k1, k2⟩ | ⟨k1, k2⟩
    · rw [k1]
      exact And.intro (fun _ => go (fun z => absurd (k2.symm.trans z.1) (by decide))) (fun c => absurd c (by decide))
    · rw [k1, hu]
      refine And.intro (fun c => absurd rfl c) (fun _ => ⟨ij, And.intro (fun c => go (fun z => c z.2.1)) (fun c => s_holds hp hk hz hc ho (And.intro (fun c2 => go (fun z => absurd (c2.symm.trans z.2.2) (by decide))) (fun c2 => ?_)))⟩)
      have hz1 : restP T Q M np nb l j := ⟨k2, c, (hv01 hp hk ho).resolve_left c2⟩
      rw [if_pos hz1] at h
      exact h
theorem s_isReady {K : Int32 → Prop} (hp : PR P Q np nl nb ns no) (hk : ZK nn V S O Q T np nl nb ns no) (hz : ZS Q M N U L B np nl nb) (hc : ICP M np nl) {l : Nat} (hl : l < nl) (h : K (if readyP T Q M np nb no l then 1 else 0)) : wp_X6_isReady nn V S O N U L B (nI l) K := by
  have h5 := hk.nl5
  have hb5 := hk.nb5
  have h16 := hp.no3
  have tl : (nI l).toInt.toNat = l := tn_nI (by omega)
  have il := hk.i3 hl
  have no_ : ¬ readyP T Q M np nb no l → K 0 := fun c => by
    rw [if_neg c] at h
    exact h
  unfold wp_X6_isReady
  rw [tl, hz.l4 hl, hz.l2 hl]
  refine ⟨il, il, And.intro (fun c => no_ (fun z => c z.1.2.1)) (fun c1 => ⟨il, And.intro (fun c => no_ (fun z => z.1.2.2 c)) (fun c2 => ?_)⟩)⟩
  refine s_boatOf hk hz (And.intro (fun c v ev => ?_) (fun c => no_ (fun z => c ?_)))
  · subst ev
    rw [hk.n5]
    have c3 : mBoatOf Q M nb (nI l) = -1 := by
      rcases boatOf_cases (M := M) hp (l := l) with z | ⟨b, hb, e, _⟩
      · exact z
      · rw [e] at c
        exact absurd c (nI_pos (by omega))
    refine s_readyL hp hk hz hc hl no 0 fK (by omega) (by rw [fK_eq]; omega) ?_
    rcases nor_01 (p := restP T Q M np nb l) no 0 with c4 | c4
    · rw [c4]
      exact no_ (fun z => absurd (c4.symm.trans z.2) (by decide))
    · rw [c4]
      rw [if_pos ⟨⟨c3, c1, c2⟩, c4⟩] at h
      exact h
  · rw [z.1.1]
    decide
theorem at_neg {k : Int32} (hn : nb ≤ 8) : mBoatAt M nb k < 0 ↔ mBoatAt M nb k = -1 := by
  unfold mBoatAt
  rcases ffr_spec (p := pBoatAt (M 206) (M 209) k) nb 0 with ⟨h1, _⟩ | ⟨i, _, h2, _, h1, _⟩
  · rw [h1]
    exact ⟨fun _ => rfl, fun _ => by decide⟩
  · rw [h1]
    exact ⟨fun z => absurd z (nI_pos (by omega)), fun z => absurd z (nI_nm1 (by omega))⟩
theorem spot_of (hI : INV Q M np nl nb nb) {c : Nat} (hc : c < nb) (h1 : M 206 c = 1) : ∃ p, p < np ∧ M 209 c = nI p := by
  rcases hI.2.2.1 c hc with ⟨_, p, _, _, h2, h3, _⟩ | ⟨z, _⟩
  · exact ⟨p, h2, h3⟩
  · exact absurd h1 z
theorem np_sub {np i : Nat} (h : i < np) (hn : np ≤ 60) : nI np - 1 - nI i = nI (np - 1 - i) := by
  have e := nI_pred (np - 1)
  rw [show np - 1 + 1 = np by omega] at e
  rw [e, pk_sub (by omega)]
def dstN (np p : Nat) (k : Int32) : Nat := if k = 0 then p else np - 1 - p
theorem clear_iff (hp : PR P Q np nl nb ns no) (hI : INV Q M np nl nb nb) {k : Int32} : mClear Q M nb k = 1 ↔ ∀ c, c < nb → M 206 c = 1 → M 207 c = k ∧ ∀ p, M 209 c = nI p → p < np → 4 ≤ dstN np p k := by
  have h60 := hp.np3
  unfold mClear
  rw [nor_one]
  have key : ∀ p, p < np → (4 ≤ (if k = 0 then nI p else Q 241 0 - 1 - nI p) ↔ 4 ≤ dstN np p k) := fun p h => by
    unfold dstN
    by_cases e : k = 0
    · rw [if_pos e, if_pos e, show (4 : Int32) = nI 4 from rfl, le_nI (by omega) (by omega)]
    · rw [if_neg e, if_neg e, hp.np2, np_sub h h60, show (4 : Int32) = nI 4 from rfl, le_nI (by omega) (by omega)]
  constructor
  · intro h c hc h1
    have h2 := Decidable.byContradiction (fun z => h c hc ⟨h1, z⟩)
    refine ⟨h2.1, fun p e hpn => ?_⟩
    have h3 := h2.2
    rw [e] at h3
    exact (key p hpn).mp h3
  · intro h c hc z
    obtain ⟨p, hpn, e⟩ := spot_of hI hc z.1
    obtain ⟨h2, h3⟩ := h c hc z.1
    refine z.2 ⟨h2, ?_⟩
    rw [e]
    exact (key p hpn).mpr (h3 p e hpn)
/-- the places near the end -/
theorem s_can96 {K : Int32 → Prop} (hp : PR P Q np nl nb ns no) (hk : ZK nn V S O Q T np nl nb ns no) (hz : ZS Q M N U L B np nl nb) (hb : b < nb) (h0 : (∃ i, i < 4 ∧ i < np ∧ ¬ mBoatAt M nb (nI (if M 207 b = 0 then i else np - 1 - i)) = -1) → K 0)
    (h1 : (∀ i, i < 4 → i < np → mBoatAt M nb (nI (if M 207 b = 0 then i else np - 1 - i)) = -1) → wj_X6_canEnter_144 nn V S O N U L B K (nI b)) : ∀ (d j f : Nat), j + d = 4 → d < f → (∀ i, i < j → i < np → mBoatAt M nb (nI (if M 207 b = 0 then i else np - 1 - i)) = -1) → wl_X6_canEnter_96 nn V S O N U L B K f (nI b) (nI j) := by
  intro d
  have h60 := hp.np3
  have h5 := hk.nb5
  have ib := hk.i4 hb
  have tb : (nI b).toInt.toNat = b := tn_nI (by omega)
  induction d with
  | zero =>
    intro j f hj hf h
    obtain ⟨f, rfl, _⟩ := fuel hf
    have e4 : j = 4 := by omega
    subst e4
    exact And.intro (fun _ => h1 h) (fun c => absurd (by decide) c)
  | succ d ih =>
    intro j f hj hf h
    obtain ⟨f, rfl, _⟩ := fuel hf
    refine And.intro (fun c => absurd c (by rw [show (4 : Int32) = nI 4 from rfl]; exact nI_ge (by omega) (by omega))) (fun _ => ?_)
    rw [hk.n1]
    refine And.intro (fun c => h1 (fun i _ h3 => h i ?_ h3)) (fun c => ⟨ib, ?_⟩)
    · rw [le_nI (by omega) (by omega)] at c
      omega
    have hjn : j < np := by
      rw [le_nI (by omega) (by omega)] at c
      omega
    have go : mBoatAt M nb (nI (if M 207 b = 0 then j else np - 1 - j)) = -1 → ∀ v : Int32, v = nI j + 1 → wl_X6_canEnter_96 nn V S O N U L B K f (nI b) v := fun hn v ev => by
      subst ev
      rw [nI_1]
      refine ih (j + 1) f (by omega) (by omega) (fun i h2 h3 => ?_)
      by_cases e : i = j
      · subst e
        exact hn
      · exact h i (by omega) h3
    have go0 : ¬ mBoatAt M nb (nI (if M 207 b = 0 then j else np - 1 - j)) = -1 → K 0 := fun z => h0 ⟨j, by omega, hjn, z⟩
    rw [tb, hz.b1 hb, np_sub hjn h60]
    refine And.intro (fun c2 => s_boatAt hk hz ?_) (fun c2 => s_boatAt hk hz ?_)
    · rw [if_neg c2] at go go0
      exact And.intro (fun c3 => go ((at_neg (by omega)).mp c3)) (fun c3 => go0 (fun z => c3 ((at_neg (by omega)).mpr z)))
    · rw [if_pos c2] at go go0
      exact And.intro (fun c3 => go ((at_neg (by omega)).mp c3)) (fun c3 => go0 (fun z => c3 ((at_neg (by omega)).mpr z)))
theorem s_can55 {K : Int32 → Prop} (hk : ZK nn V S O Q T np nl nb ns no) (hz : ZS Q M N U L B np nl nb) (hb : b < nb) (h0 : (∃ c, c < nb ∧ M 206 c = 1 ∧ ¬ M 207 c = M 207 b) → K 0)
    (h1 : (∀ c, c < nb → M 206 c = 1 → M 207 c = M 207 b) → wl_X6_canEnter_96 nn V S O N U L B K fK (nI b) 0) : ∀ (d j f : Nat), j + d = nb → d < f → (∀ c, c < j → M 206 c = 1 → M 207 c = M 207 b) → wl_X6_canEnter_55 nn V S O N U L B K f (nI b) (nI nb) (nI j) := by
  intro d
  have h5 := hk.nb5
  have ib := hk.i4 hb
  have tb : (nI b).toInt.toNat = b := tn_nI (by omega)
  induction d with
  | zero =>
    intro j f hj hf h
    obtain ⟨f, rfl, _⟩ := fuel hf
    exact And.intro (fun _ => h1 (fun c hc => h c (by omega))) (fun c => absurd (nI_le (by omega) (by omega)) c)
  | succ d ih =>
    intro j f hj hf h
    obtain ⟨f, rfl, _⟩ := fuel hf
    have hj' : j < nb := by omega
    have tj : (nI j).toInt.toNat = j := tn_nI (by omega)
    have ij := hk.i4 hj'
    have go : (M 206 j = 1 → M 207 j = M 207 b) → ∀ v : Int32, v = nI j + 1 → wl_X6_canEnter_55 nn V S O N U L B K f (nI b) (nI nb) v := fun hn v ev => by
      subst ev
      rw [nI_1]
      refine ih (j + 1) f (by omega) (by omega) (fun c h2 h3 => ?_)
      by_cases e : c = j
      · subst e
        exact hn h3
      · exact h c (by omega) h3
    refine And.intro (fun c => absurd c (nI_ge (by omega) (by omega))) (fun _ => ⟨ij, ij, ?_⟩)
    rw [tj, tb, hz.b3 hj', hz.b1 hj', hz.b1 hb]
    exact And.intro (fun c => go (fun z => absurd z c)) (fun c => ⟨ij, ib, And.intro (fun c2 => go (fun _ => c2)) (fun c2 => h0 ⟨j, hj', c, c2⟩)⟩)
theorem s_canEnter {K : Int32 → Prop} (hp : PR P Q np nl nb ns no) (hk : ZK nn V S O Q T np nl nb ns no) (hz : ZS Q M N U L B np nl nb) (hI : INV Q M np nl nb nb) (hc : ICP M np nl) (hb : b < nb) (h : K (if canP T Q M np nb no b then 1 else 0)) : wp_X6_canEnter nn V S O N U L B (nI b) K := by
  have h60 := hp.np3
  have h5 := hk.nb5
  have ib := hk.i4 hb
  have np0 := hk.np0
  have tb : (nI b).toInt.toNat = b := tn_nI (by omega)
  obtain ⟨k0, k1, _, _, ec1, _, ec2, _⟩ := hp.boat b hb
  have no_ : ¬ canP T Q M np nb no b → K 0 := fun c => by
    rw [if_neg c] at h
    exact h
  unfold wp_X6_canEnter
  rw [tb, hz.b3 hb, hz.b2 hb, hz.b1 hb, hz.min, hz.turn, hk.n1, hk.n4]
  refine ⟨ib, ib, And.intro (fun c => no_ (fun z => c z.1)) (fun c1 => ⟨ib, And.intro (fun c => no_ (fun z => z.2.1 c)) (fun c2 => ⟨ib, And.intro (fun c => no_ (fun z => c z.2.2.1)) (fun c3 => And.intro (fun _ v ev => ?_) (fun c => absurd c (by rw [← nI_0]; exact nI_ne (by omega) (by omega) (by omega))))⟩)⟩)⟩
  subst ev
  refine s_can55 hk hz hb (fun hx => ?_) (fun hs => ?_) nb 0 fK (by omega) (by rw [fK_eq]; omega) (fun c hc => by omega)
  · obtain ⟨c, hcn, g1, g2⟩ := hx
    exact no_ (fun z => g2 (by rw [((clear_iff hp hI).mp z.2.2.2.2.1 c hcn g1).1, c3]))
  refine s_can96 hp hk hz hb (fun hx => ?_) (fun hn => ?_) 4 0 fK (by omega) (by rw [fK_eq]; omega) (fun i hi => by omega)
  · obtain ⟨i, hi, hin, g⟩ := hx
    refine no_ (fun z => ?_)
    have cl := (clear_iff hp hI).mp z.2.2.2.2.1
    refine g ((mBoatAt_none (by omega)).mpr (fun c hcn g1 g2 => ?_))
    have := (cl c hcn g1).2 _ g2 (by split <;> omega)
    unfold dstN at this
    rw [← c3] at this
    by_cases e : M 207 b = 0
    · rw [if_pos e, if_pos e] at this
      omega
    · rw [if_neg e, if_neg e] at this
      omega
  have c5 : mClear Q M nb (M 201 0) = 1 := by
    rw [clear_iff hp hI]
    intro c hcn g1
    refine ⟨(hs c hcn g1).trans c3, fun p e hpn => ?_⟩
    refine Decidable.byContradiction (fun g => ?_)
    have hd : dstN np p (M 201 0) < 4 := by omega
    have hd2 : dstN np p (M 201 0) < np := by
      unfold dstN
      split <;> omega
    refine (mBoatAt_none (by omega)).mp (hn _ hd hd2) c hcn g1 ?_
    rw [e]
    unfold dstN
    rw [← c3]
    by_cases e2 : M 207 b = 0
    · rw [if_pos e2, if_pos e2]
    · rw [if_neg e2, if_neg e2, show np - 1 - (np - 1 - p) = p by omega]
  unfold wj_X6_canEnter_144
  rw [tb, hz.b7 hb, hz.b8 hb, ec1, ec2]
  refine ⟨ib, s_isReady hp hk hz hc k0 (And.intro (fun c => no_ (fun z => ite01.mp c z.2.2.2.2.2.1)) (fun c6 => ⟨ib, s_isReady hp hk hz hc k1 (And.intro (fun c => no_ (fun z => ite01.mp c z.2.2.2.2.2.2)) (fun c7 => ?_))⟩))⟩
  have c6 : readyP T Q M np nb no (kr0 Q b) := Decidable.byContradiction (fun z => c6 (ite01.mpr z))
  have c7 : readyP T Q M np nb no (kr1 Q b) := Decidable.byContradiction (fun z => c7 (ite01.mpr z))
  rw [if_pos ⟨c1, c2, c3, np0, c5, c6, c7⟩] at h
  exact h
end ZC
