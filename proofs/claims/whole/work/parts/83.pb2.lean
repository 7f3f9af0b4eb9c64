/-! ===== what lines tell: the boundary between lines ===== -/
section BOUND
variable {κ : Nat → Int32} {m : Nat} {val : Nat → Int64} {N0 : M2} {V0 : M2} {ρ ρ' : Nat → Int32}
theorem cnt_more {as : Int32} {p : Nat} : ∀ d, (∀ i, p ≤ i → i < p + d → ¬ ρ i = as) → cnt ρ as (p + d) = cnt ρ as p
  | 0, _ => rfl
  | d + 1, h => by
    show cnt ρ as (p + d) + (if ρ (p + d) = as then 1 else 0) = _
    rw [cnt_more d (fun i h1 h2 => h i h1 (by omega)), if_neg (h (p + d) (by omega) (by omega)), Nat.add_zero]
theorem tld_at {as : Int32} {p d : Nat} (h : ∀ i, p ≤ i → i < p + d → ¬ ρ i = as) (t : Nat) : tld val ρ as t (p + d) = tld val ρ as t p := tldF_more (d := p) (k := 0) (e := d) (fun i h1 h2 => h i (by omega) (by omega))
def CN (val : Nat → Int64) (ρ : Nat → Int32) (as : Int32) (p : Nat) (f v : Int32) (cap : Nat) (l : Nat → Int64) : Prop := f = nI (cnt ρ as p) ∧ v = nI (cnt ρ as p) ∧ cnt ρ as p ≤ cap ∧ NMS val ρ as p l
theorem CN.cong {as : Int32} {p cap : Nat} {f v : Int32} {l : Nat → Int64} (h : CN val ρ as p f v cap l) (hr : ∀ k, k < p → ρ k = ρ' k) : CN val ρ' as p f v cap l := by
  obtain ⟨h1, h2, h3, h4⟩ := h
  have e := cnt_cong (as := as) hr
  refine ⟨by rw [← e]; exact h1, by rw [← e]; exact h2, by rw [← e]; exact h3, fun k hk hk2 => ?_⟩
  rw [← cnt_cong (as := as) (fun i hi => hr i (by omega))]
  exact h4 k hk ((hr k hk).trans hk2)
theorem CN.keep {as : Int32} {p cap : Nat} {f v : Int32} {l : Nat → Int64} (h : CN val ρ as p f v cap l) (d : Nat) (hr : ∀ i, p ≤ i → i < p + d → ¬ ρ i = as) : CN val ρ as (p + d) f v cap l := by
  obtain ⟨h1, h2, h3, h4⟩ := h
  have e := cnt_more d hr
  refine ⟨by rw [e]; exact h1, by rw [e]; exact h2, by rw [e]; exact h3, fun k hk hk2 => ?_⟩
  rcases Nat.lt_or_ge k p with h5 | h5
  · exact h4 k h5 hk2
  · exact absurd hk2 (hr k h5 hk)
theorem CN.add {as : Int32} {p cap t d : Nat} {f v : Int32} {l : Nat → Int64} (h : CN val ρ as p f v cap l) (ht : p ≤ t ∧ t < p + d) (hrt : ρ t = as) (hr : ∀ i, p ≤ i → i < p + d → i ≠ t → ¬ ρ i = as) (hc : cnt ρ as p < cap) : CN val ρ as (p + d) (nI (cnt ρ as p + 1)) (nI (cnt ρ as p + 1)) cap (vp_updL l (cnt ρ as p) (val t)) := by
  obtain ⟨h1, h2, h3, h4⟩ := h
  have et : cnt ρ as t = cnt ρ as p := by
    have := cnt_more (ρ := ρ) (as := as) (p := p) (t - p) (fun i h1 h2 => hr i h1 (by omega) (by omega))
    rw [show p + (t - p) = t by omega] at this
    exact this
  have et1 : cnt ρ as (t + 1) = cnt ρ as p + 1 := by
    show cnt ρ as t + (if ρ t = as then 1 else 0) = _
    rw [if_pos hrt, et]
  have e : cnt ρ as (p + d) = cnt ρ as p + 1 := by
    have := cnt_more (ρ := ρ) (as := as) (p := t + 1) (p + d - (t + 1)) (fun i h1 h2 => hr i (by omega) (by omega) (by omega))
    rw [show t + 1 + (p + d - (t + 1)) = p + d by omega] at this
    rw [this, et1]
  refine ⟨by rw [e], by rw [e], by rw [e]; omega, fun k hk hk2 => ?_⟩
  by_cases c : k = t
  · subst c
    rw [et]
    unfold vp_updL
    exact if_pos rfl
  · have hkp : k < p := by
      rcases Nat.lt_or_ge k p with h5 | h5
      · exact h5
      · exact absurd hk2 (hr k h5 hk c)
    have := cnt_lt (ρ := ρ) (as := as) hkp hk2
    have e2 : vp_updL l (cnt ρ as p) (val t) (cnt ρ as k) = l (cnt ρ as k) := by
      unfold vp_updL
      exact if_neg (by omega)
    rw [e2]
    exact h4 k hkp hk2
def D1 (kb np : Nat) (f25 f26 f27 v242 v243 v244 : Nat → Int32) : Prop := ∀ k, k < kb → ∃ x f, 1 ≤ x ∧ x ≤ 12 ∧ f + x ≤ np ∧ f25 k = nI x ∧ v242 k = nI x ∧ f27 k = nI f ∧ v244 k = nI f ∧ f26 k = v243 k
def D2 (kb np : Nat) (f28 v245 : Nat → Int32) : Prop := ∀ q, q < np → ∃ k, k < kb ∧ f28 q = nI k ∧ v245 q = nI k
def D3 (ns np : Nat) (f29 f30 v247 v248 : Nat → Int32) : Prop := ∀ s, s < ns → ∃ a d, a < np ∧ 1 ≤ d ∧ d ≤ 30 ∧ f29 s = nI a ∧ v247 s = nI a ∧ f30 s = nI d ∧ v248 s = nI d
def D4 (nl : Nat) (f31 f32 v250 v251 : Nat → Int32) : Prop := ∀ l, l < nl → ∃ x y, 1 ≤ x ∧ x ≤ 9 ∧ 1 ≤ y ∧ y ≤ 9 ∧ f31 l = nI x ∧ v250 l = nI x ∧ f32 l = nI y ∧ v251 l = nI y
def D5 (nl nb : Nat) (f33 f34 f35 f36 f37 v253 v254 v255 : Nat → Int32) (c : Nat → Nat → Int32) : Prop := ∀ b, b < nb → ∃ k0 k1 w, k0 < nl ∧ k1 < nl ∧ k0 ≠ k1 ∧ 1 ≤ w ∧ w ≤ 60 ∧ f36 b = nI k0 ∧ c b 0 = nI k0 ∧ f37 b = nI k1 ∧ c b 1 = nI k1 ∧ f33 b = nI w ∧ v253 b = nI w ∧ f34 b = v254 b ∧ (v254 b = 0 ∨ v254 b = 1) ∧ f35 b = v255 b
def PXN (val : Nat → Int64) (ρ : Nat → Int32) (p np : Nat) (F : M2) (L : L2) (V : M2) : Prop :=
  CN val ρ 1 p (F 20 0) (V 240 0) 5 (L 61) ∧ CN val ρ 2 p (F 22 0) (V 246 0) 4 (L 62) ∧ CN val ρ 3 p (F 23 0) (V 249 0) 6 (L 63) ∧ CN val ρ 4 p (F 24 0) (V 252 0) 8 (L 64)
  ∧ (F 21 0 = nI np ∧ V 241 0 = nI np ∧ np ≤ 12 * cnt ρ 1 p)
  ∧ D1 (cnt ρ 1 p) np (F 25) (F 26) (F 27) (V 242) (V 243) (V 244) ∧ D2 (cnt ρ 1 p) np (F 28) (V 245) ∧ D3 (cnt ρ 2 p) np (F 29) (F 30) (V 247) (V 248) ∧ D4 (cnt ρ 3 p) (F 31) (F 32) (V 250) (V 251) ∧ D5 (cnt ρ 3 p) (cnt ρ 4 p) (F 33) (F 34) (F 35) (F 36) (F 37) (V 253) (V 254) (V 255) (fun b => V (310 + b))
/-- the operand of an item, with names made out -/
def rsV (val : Nat → Int64) (ρ : Nat → Int32) (q : IT) : Int32 := if q.1 = 4 ∨ q.1 = 7 then (val q.2).toInt32 else if q.1 = 8 ∨ q.1 = 11 then tld val ρ 3 q.2 q.2 else if q.1 = 9 ∨ q.1 = 10 then tld val ρ 4 q.2 q.2 else 0
def flatP1 (val : Nat → Int64) (q : IT) : List Int32 := if q.1 = 4 ∨ q.1 = 7 then [encV q.1, (val q.2).toInt32] else if isNm q.1 then [encV q.1, nI q.2] else [encV q.1]
def flatP (val : Nat → Int64) (its : List IT) : List Int32 := its.flatMap (flatP1 val)
def posL : Nat → List IT → List Nat
  | _, [] => []
  | c, q :: its => if isNm q.1 then (c + 1) :: posL (c + 2) its else posL (c + (if q.1 = 4 ∨ q.1 = 7 then 2 else 1)) its
/-- the code laid by the first pass -/
def COD (val : Nat → Int64) (P : M2) (its : List IT) : Prop := P 264 0 = nI (lenR its) ∧ SEG (P 263) 0 (flatP val its) ∧ P 266 0 = nI (nms its).length ∧ ∀ j (hj : j < (posL 0 its).length), P 265 j = nI ((posL 0 its)[j])
def roleN (op : Int32) : Int32 := if op = 8 ∨ op = 11 then 20 else 21
def ITS (κ : Nat → Int32) (ρ : Nat → Int32) (p : Nat) (its : List IT) : Prop := Inc 0 p (nms its) ∧ (∀ q ∈ its, OKI κ q) ∧ ∀ q ∈ its, isNm q.1 → ρ q.2 = roleN q.1 ∧ q.2 < p
/-- the orders, as far as they are told -/
def ORX (val : Nat → Int64) (ρ : Nat → Int32) (F V P : M2) (its : List IT) (no : Nat) : Prop := F 40 0 = nI no ∧ V 257 0 = nI no ∧ no ≤ 16 ∧ its.length ≤ 400 ∧ (∀ j (hj : j < its.length), F 46 j = (its[j]).1 ∧ F 47 j = rsV val ρ its[j]) ∧ (∀ q ∈ its, isNm q.1 → ¬ rsV val ρ q = -1) ∧ ∀ o, o < no → ((F 41 o = 48 ∧ V 259 o = 17) ∨ (F 41 o = 49 ∧ V 259 o = 18)) ∧ F 42 o = V 260 o ∧ ∃ a b c : List IT, its = a ++ (b ++ c) ∧ F 43 o = nI a.length ∧ F 44 o = nI (a.length + b.length) ∧ P 261 o = nI (lenR a) ∧ P 262 o = nI (lenR a + lenR b) ∧ tcO b [] = some [true]
def ROK (m : Nat) (N : M2) (p : Nat) : Prop := ∀ k, p ≤ k → k ≤ m → N 227 k = 0
def rolK (r : Int32) : Int32 := if r = 1 ∨ r = 2 ∨ r = 3 ∨ r = 4 ∨ r = 16 ∨ r = 17 ∨ r = 19 ∨ r = 20 ∨ r = 21 then 40 else if r = 7 ∨ r = 8 ∨ r = 9 ∨ r = 10 ∨ r = 11 ∨ r = 12 ∨ r = 13 ∨ r = 15 then 41 else 0
def rolD (r : Int32) : Nat := if r = 7 then 2 else if r = 8 then 4 else if r = 9 then 2 else if r = 10 then 4 else if r = 11 then 2 else if r = 12 then 4 else if r = 13 then 2 else if r = 14 then 4 else if r = 15 then 6 else if r = 16 then 8 else if r = 17 then 10 else if r = 18 then 1 else if r = 19 then 1 else 0
def rolB (r : Int32) : Int32 := if r = 7 ∨ r = 8 then 1 else if r = 9 ∨ r = 10 then 2 else if r = 11 ∨ r = 12 then 3 else if r = 13 ∨ r = 14 ∨ r = 15 ∨ r = 16 ∨ r = 17 then 4 else if r = 18 then 5 else if r = 19 then 6 else r
/-- a token's role beside its kind and the roles ahead of it -/
def LOC (κ ρ : Nat → Int32) (t : Nat) : Prop := (rolK (ρ t) = 0 ∨ κ t = rolK (ρ t)) ∧ rolD (ρ t) ≤ t ∧ ρ (t - rolD (ρ t)) = rolB (ρ t) ∧ (ρ t = 0 ∨ ρ t = 1 ∨ ρ t = 2 ∨ ρ t = 3 ∨ ρ t = 4 ∨ ρ t = 5 ∨ ρ t = 6 ∨ ρ t = 7 ∨ ρ t = 8 ∨ ρ t = 9 ∨ ρ t = 10 ∨ ρ t = 11 ∨ ρ t = 12 ∨ ρ t = 13 ∨ ρ t = 14 ∨ ρ t = 15 ∨ ρ t = 16 ∨ ρ t = 17 ∨ ρ t = 18 ∨ ρ t = 19 ∨ ρ t = 20 ∨ ρ t = 21)
def WFR (κ ρ : Nat → Int32) (p : Nat) : Prop := ∀ t, t < p → LOC κ ρ t
theorem LOC.cong {t : Nat} (h : LOC κ ρ t) (hr : ∀ k, k ≤ t → ρ k = ρ' k) : LOC κ ρ' t := by
  unfold LOC at *
  rw [← hr t (Nat.le_refl _), ← hr (t - rolD (ρ t)) (Nat.sub_le _ _)]
  exact h
theorem LOC.zero {t : Nat} (h : ρ t = 0) : LOC κ ρ t := by
  unfold LOC
  rw [h]
  exact ⟨Or.inl (by decide), by show (0 : Nat) ≤ t; omega, by show ρ (t - 0) = 0; exact h, Or.inl rfl⟩
theorem WFR.cong {p : Nat} (h : WFR κ ρ p) (hr : ∀ k, k < p → ρ k = ρ' k) : WFR κ ρ' p := fun t ht => (h t ht).cong (fun k hk => hr k (by omega))
def BND (κ : Nat → Int32) (m : Nat) (val : Nat → Int64) (N0 V0 : M2) (F : M2) (L : L2) (N P : M2) (p : Nat) (its : List IT) (nr : Nat) : Prop :=
  SC κ m val F L p ∧ SN κ m N0 N P p 0 ∧ ROK m N p ∧ (F 45 0 = nI its.length ∧ its.length ≤ p) ∧ COD val P its ∧ ITS κ (N 227) p its ∧ (P 258 0 = nI nr ∧ nr ≤ p) ∧ WFR κ (N 227) p
  ∧ ((∃ e k, k < p ∧ SER κ val V0 (N 227) p e k ∧ CER F e k) ∨ (∃ V np, SOK κ val V0 (N 227) p V ∧ F 67 0 = 0 ∧ PXN val (N 227) p np F L V ∧ ORX val (N 227) F V P its nr))
theorem rsV_cong {q : IT} (h : ∀ k, k < q.2 → ρ k = ρ' k) : rsV val ρ q = rsV val ρ' q := by
  unfold rsV
  rw [tld_cong (as := 3) h, tld_cong (as := 4) h]
theorem SOK.cong {p : Nat} {V : M2} (h : SOK κ val V0 ρ p V) (hr : ∀ k, k < p → ρ k = ρ' k) : SOK κ val V0 ρ' p V := by
  unfold SOK at *
  rw [← sem_cong hr]
  exact h
theorem SER.cong {p : Nat} {e : Int32} {k : Nat} (h : SER κ val V0 ρ p e k) (hr : ∀ k, k < p → ρ k = ρ' k) : SER κ val V0 ρ' p e k := by
  unfold SER at *
  rw [← sem_cong hr]
  exact h
theorem PXN.cong {p np : Nat} {F : M2} {L : L2} {V : M2} (h : PXN val ρ p np F L V) (hr : ∀ k, k < p → ρ k = ρ' k) : PXN val ρ' p np F L V := by
  obtain ⟨h1, h2, h3, h4, h5, h6, h7, h8, h9, h10⟩ := h
  have e1 := cnt_cong (as := 1) hr
  have e2 := cnt_cong (as := 2) hr
  have e3 := cnt_cong (as := 3) hr
  have e4 := cnt_cong (as := 4) hr
  refine ⟨h1.cong hr, h2.cong hr, h3.cong hr, h4.cong hr, ?_, ?_, ?_, ?_, ?_, ?_⟩
  · rw [← e1]; exact h5
  · rw [← e1]; exact h6
  · rw [← e1]; exact h7
  · rw [← e2]; exact h8
  · rw [← e3]; exact h9
  · rw [← e3, ← e4]; exact h10
theorem ITS.cong {p p' : Nat} {its : List IT} (h : ITS κ ρ p its) (hr : ∀ k, k < p → ρ k = ρ' k) (hp : p ≤ p') : ITS κ ρ' p' its := by
  obtain ⟨h1, h2, h3⟩ := h
  refine ⟨h1.up hp, h2, fun q hq hn => ?_⟩
  obtain ⟨x1, x2⟩ := h3 q hq hn
  exact ⟨by rw [← hr _ x2]; exact x1, by omega⟩
theorem rsV_its {p : Nat} {q : IT} (hn : isNm q.1 → q.2 < p) (hr : ∀ k, k < p → ρ k = ρ' k) : rsV val ρ q = rsV val ρ' q := by
  by_cases c : isNm q.1
  · exact rsV_cong (fun k hk => hr k (by have := hn c; omega))
  · unfold rsV
    by_cases c1 : q.1 = 4 ∨ q.1 = 7
    · rw [if_pos c1, if_pos c1]
    · rw [if_neg c1, if_neg c1, if_neg (fun z => c (z.elim Or.inl (fun y => Or.inr (Or.inr (Or.inr y))))), if_neg (fun z => c (z.elim (fun y => Or.inr (Or.inl y)) (fun y => Or.inr (Or.inr (Or.inl y))))), if_neg (fun z => c (z.elim Or.inl (fun y => Or.inr (Or.inr (Or.inr y))))), if_neg (fun z => c (z.elim (fun y => Or.inr (Or.inl y)) (fun y => Or.inr (Or.inr (Or.inl y)))))]
/-- the orders stay where only other rows are written -/
theorem ORX.keep {F F' V V' P P' : M2} {p no : Nat} {its : List IT} (h : ORX val ρ F V P its no) (hI : ∀ q ∈ its, isNm q.1 → q.2 < p) (hr : ∀ k, k < p → ρ k = ρ' k) (hF : ∀ k, (k = 40 ∨ k = 41 ∨ k = 42 ∨ k = 43 ∨ k = 44 ∨ k = 46 ∨ k = 47) → F' k = F k) (hV : V' 257 = V 257 ∧ V' 259 = V 259 ∧ V' 260 = V 260) (hP : P' 261 = P 261 ∧ P' 262 = P 262) : ORX val ρ' F' V' P' its no := by
  obtain ⟨h1, h2, h3, h4, h5, h6, h7⟩ := h
  refine ⟨by rw [hF 40 (by decide)]; exact h1, by rw [hV.1]; exact h2, h3, h4, fun j hj => ?_, fun q hq hn => ?_, fun o ho => ?_⟩
  · rw [hF 46 (by decide), hF 47 (by decide), ← rsV_its (fun hn => hI _ (List.getElem_mem hj) hn) hr]
    exact h5 j hj
  · rw [← rsV_its (hI q hq) hr]
    exact h6 q hq hn
  · rw [hF 41 (by decide), hF 42 (by decide), hF 43 (by decide), hF 44 (by decide), hV.2.1, hV.2.2, hP.1, hP.2]
    exact h7 o ho
/-- the semicolon -/
theorem BND.semi {F : M2} {L : L2} {N P : M2} {p nr : Nat} {its : List IT} (h : BND κ m val N0 V0 F L N P p its nr) (hp : p < m) : BND κ m val N0 V0 (cT (p + 1) F) L (rT (p + 1) N) P (p + 1) its nr := by
  obtain ⟨h1, h2, h3, h4, h5, h6, h7, h9, h8⟩ := h
  have e227 : rT (p + 1) N 227 = N 227 := up2_n _ _ (by decide)
  have eF : ∀ k, k ≠ 66 → cT (p + 1) F k = F k := fun k hk => up2_n _ _ hk
  refine ⟨h1.adv hp, h2.adv hp (by omega), fun k hk hk2 => by rw [e227]; exact h3 k (by omega) hk2, ⟨by rw [eF 45 (by decide)]; exact h4.1, by omega⟩, h5, by rw [e227]; exact h6.cong (fun _ _ => rfl) (by omega), ⟨h7.1, by omega⟩, ?_, ?_⟩
  · intro t ht
    rw [e227]
    by_cases e : t = p
    · rw [e]
      exact LOC.zero (h3 p (Nat.le_refl _) (by omega))
    · exact h9 t (by omega)
  rw [e227]
  rcases h8 with ⟨e, k, hk, hS, hC⟩ | ⟨V, np, hS, hF, hP, hO⟩
  · refine Or.inl ⟨e, k, by omega, hS.add 1, ?_⟩
    unfold CER
    rw [eF 67 (by decide), eF 68 (by decide)]
    exact hC
  · have hr : N 227 p = 0 := h3 p (Nat.le_refl _) (by omega)
    have hno : ∀ as : Int32, ¬ as = 0 → ∀ i, p ≤ i → i < p + 1 → ¬ N 227 i = as := fun as ha i hi1 hi2 z => by
      have : i = p := by omega
      rw [this, hr] at z
      exact ha z.symm
    refine Or.inr ⟨V, np, hS.step0 hr, by rw [eF 67 (by decide)]; exact hF, ?_, ?_⟩
    · obtain ⟨x1, x2, x3, x4, x5, x6, x7, x8, x9, x10⟩ := hP
      have c1 := cnt_more (ρ := N 227) (as := 1) (p := p) 1 (hno 1 (by decide))
      have c2 := cnt_more (ρ := N 227) (as := 2) (p := p) 1 (hno 2 (by decide))
      have c3 := cnt_more (ρ := N 227) (as := 3) (p := p) 1 (hno 3 (by decide))
      have c4 := cnt_more (ρ := N 227) (as := 4) (p := p) 1 (hno 4 (by decide))
      unfold PXN
      rw [c1, c2, c3, c4]
      rw [eF 20 (by decide), eF 21 (by decide), eF 22 (by decide), eF 23 (by decide), eF 24 (by decide), eF 25 (by decide), eF 26 (by decide), eF 27 (by decide), eF 28 (by decide), eF 29 (by decide), eF 30 (by decide), eF 31 (by decide), eF 32 (by decide), eF 33 (by decide), eF 34 (by decide), eF 35 (by decide), eF 36 (by decide), eF 37 (by decide)]
      exact ⟨x1.keep 1 (hno 1 (by decide)), x2.keep 1 (hno 2 (by decide)), x3.keep 1 (hno 3 (by decide)), x4.keep 1 (hno 4 (by decide)), x5, x6, x7, x8, x9, x10⟩
    · exact hO.keep (p := p) (fun q hq hn => (h6.2.2 q hq hn).2) (fun _ _ => rfl) (fun k hk => eF k (by omega)) ⟨rfl, rfl, rfl⟩ ⟨rfl, rfl⟩
end BOUND
theorem erF_1 {κ : Nat → Int32} {val : Nat → Int64} {ρ : Nat → Int32} {t : Nat} {V : M2} (h : ρ t = 1) : erF κ val ρ t V = (newE (tld val ρ 1 t t) (V 240 0) 5, bump V 240 (newE (tld val ρ 1 t t) (V 240 0) 5)) := by
  unfold erF
  rw [h, if_pos rfl]
theorem erF_2 {κ : Nat → Int32} {val : Nat → Int64} {ρ : Nat → Int32} {t : Nat} {V : M2} (h : ρ t = 2) : erF κ val ρ t V = (newE (tld val ρ 2 t t) (V 246 0) 4, bump V 246 (newE (tld val ρ 2 t t) (V 246 0) 4)) := by
  unfold erF
  rw [h, if_neg (by decide), if_pos rfl]
theorem erF_3 {κ : Nat → Int32} {val : Nat → Int64} {ρ : Nat → Int32} {t : Nat} {V : M2} (h : ρ t = 3) : erF κ val ρ t V = (newE (tld val ρ 3 t t) (V 249 0) 6, bump V 249 (newE (tld val ρ 3 t t) (V 249 0) 6)) := by
  unfold erF
  rw [h, if_neg (by decide), if_neg (by decide), if_pos rfl]
theorem erF_4 {κ : Nat → Int32} {val : Nat → Int64} {ρ : Nat → Int32} {t : Nat} {V : M2} (h : ρ t = 4) : erF κ val ρ t V = (newE (tld val ρ 4 t t) (V 252 0) 8, bump V 252 (newE (tld val ρ 4 t t) (V 252 0) 8)) := by
  unfold erF
  rw [h, if_neg (by decide), if_neg (by decide), if_neg (by decide), if_pos rfl]
theorem erF_5 {κ : Nat → Int32} {val : Nat → Int64} {ρ : Nat → Int32} {t : Nat} {V : M2} (h : ρ t = 5) : erF κ val ρ t V = (if V 257 0 = 16 then (4, V) else (0, ordF V 17)) := by
  unfold erF
  rw [h, if_neg (by decide), if_neg (by decide), if_neg (by decide), if_neg (by decide), if_pos rfl]
theorem erF_6 {κ : Nat → Int32} {val : Nat → Int64} {ρ : Nat → Int32} {t : Nat} {V : M2} (h : ρ t = 6) : erF κ val ρ t V = (if V 257 0 = 16 then (4, V) else (0, ordF V 18)) := by
  unfold erF
  rw [h, if_neg (by decide), if_neg (by decide), if_neg (by decide), if_neg (by decide), if_neg (by decide), if_pos rfl]
theorem erF_14 {κ : Nat → Int32} {val : Nat → Int64} {ρ : Nat → Int32} {t : Nat} {V : M2} (h : ρ t = 14) : erF κ val ρ t V = (0, st2 V 254 (lastI V 252) (endV (κ t))) := by
  unfold erF
  rw [h, if_neg (by decide), if_neg (by decide), if_neg (by decide), if_neg (by decide), if_neg (by decide), if_neg (by decide), if_pos rfl]
theorem erF_16 {κ : Nat → Int32} {val : Nat → Int64} {ρ : Nat → Int32} {t : Nat} {V : M2} (h : ρ t = 16) : erF κ val ρ t V = (lookE (tld val ρ 3 t t), crewF V 0 (tld val ρ 3 t t)) := by
  unfold erF
  rw [h, if_neg (by decide), if_neg (by decide), if_neg (by decide), if_neg (by decide), if_neg (by decide), if_neg (by decide), if_neg (by decide), if_pos rfl]
theorem erF_17 {κ : Nat → Int32} {val : Nat → Int64} {ρ : Nat → Int32} {t : Nat} {V : M2} (h : ρ t = 17) : erF κ val ρ t V = ((if lookE (tld val ρ 3 t t) = 0 ∧ crewF V 1 (tld val ρ 3 t t) (310 + lastI V 252) 0 = crewF V 1 (tld val ρ 3 t t) (310 + lastI V 252) 1 then 5 else lookE (tld val ρ 3 t t)), crewF V 1 (tld val ρ 3 t t)) := by
  unfold erF
  rw [h, if_neg (by decide), if_neg (by decide), if_neg (by decide), if_neg (by decide), if_neg (by decide), if_neg (by decide), if_neg (by decide), if_neg (by decide), if_pos rfl]
theorem erF_18 {κ : Nat → Int32} {val : Nat → Int64} {ρ : Nat → Int32} {t : Nat} {V : M2} (h : ρ t = 18) : erF κ val ρ t V = (0, st2 V 260 (lastI V 257) (endV (κ t))) := by
  unfold erF
  rw [h, if_neg (by decide), if_neg (by decide), if_neg (by decide), if_neg (by decide), if_neg (by decide), if_neg (by decide), if_neg (by decide), if_neg (by decide), if_neg (by decide), if_pos rfl]
theorem erF_19 {κ : Nat → Int32} {val : Nat → Int64} {ρ : Nat → Int32} {t : Nat} {V : M2} (h : ρ t = 19) : erF κ val ρ t V = (lookE (tld val ρ 3 t t), st2 V 260 (lastI V 257) (tld val ρ 3 t t)) := by
  unfold erF
  rw [h, if_neg (by decide), if_neg (by decide), if_neg (by decide), if_neg (by decide), if_neg (by decide), if_neg (by decide), if_neg (by decide), if_neg (by decide), if_neg (by decide), if_neg (by decide), if_pos rfl]
theorem erF_20 {κ : Nat → Int32} {val : Nat → Int64} {ρ : Nat → Int32} {t : Nat} {V : M2} (h : ρ t = 20) : erF κ val ρ t V = (lookE (tld val ρ 3 t t), V) := by
  unfold erF
  rw [h, if_neg (by decide), if_neg (by decide), if_neg (by decide), if_neg (by decide), if_neg (by decide), if_neg (by decide), if_neg (by decide), if_neg (by decide), if_neg (by decide), if_neg (by decide), if_neg (by decide), if_pos rfl]
theorem erF_21 {κ : Nat → Int32} {val : Nat → Int64} {ρ : Nat → Int32} {t : Nat} {V : M2} (h : ρ t = 21) : erF κ val ρ t V = (lookE (tld val ρ 4 t t), V) := by
  unfold erF
  rw [h, if_neg (by decide), if_neg (by decide), if_neg (by decide), if_neg (by decide), if_neg (by decide), if_neg (by decide), if_neg (by decide), if_neg (by decide), if_neg (by decide), if_neg (by decide), if_neg (by decide), if_neg (by decide), if_pos rfl]
theorem erF_7 {κ : Nat → Int32} {val : Nat → Int64} {ρ : Nat → Int32} {t : Nat} {V : M2} (h : ρ t = 7) : erF κ val ρ t V = (rngE (val t).toInt32 1 12, if rngE (val t).toInt32 1 12 = 0 then dugF V (val t).toInt32 else V) := by
  unfold erF
  rw [h, if_neg (by decide), if_neg (by decide), if_neg (by decide), if_neg (by decide), if_neg (by decide), if_neg (by decide), if_neg (by decide), if_neg (by decide), if_neg (by decide), if_neg (by decide), if_neg (by decide), if_neg (by decide), if_neg (by decide), if_pos rfl]
theorem erF_8 {κ : Nat → Int32} {val : Nat → Int64} {ρ : Nat → Int32} {t : Nat} {V : M2} (h : ρ t = 8) : erF κ val ρ t V = (rngE (val t).toInt32 0 9, st2 V 243 (lastI V 240) (val t).toInt32) := by
  unfold erF
  rw [h, if_neg (by decide), if_neg (by decide), if_neg (by decide), if_neg (by decide), if_neg (by decide), if_neg (by decide), if_neg (by decide), if_neg (by decide), if_neg (by decide), if_neg (by decide), if_neg (by decide), if_neg (by decide), if_neg (by decide), if_neg (by decide), if_pos rfl]
theorem erF_9 {κ : Nat → Int32} {val : Nat → Int64} {ρ : Nat → Int32} {t : Nat} {V : M2} (h : ρ t = 9) : erF κ val ρ t V = (rngE (val t).toInt32 0 (V 241 0 - 1), st2 V 247 (lastI V 246) (val t).toInt32) := by
  unfold erF
  rw [h, if_neg (by decide), if_neg (by decide), if_neg (by decide), if_neg (by decide), if_neg (by decide), if_neg (by decide), if_neg (by decide), if_neg (by decide), if_neg (by decide), if_neg (by decide), if_neg (by decide), if_neg (by decide), if_neg (by decide), if_neg (by decide), if_neg (by decide), if_pos rfl]
theorem erF_10 {κ : Nat → Int32} {val : Nat → Int64} {ρ : Nat → Int32} {t : Nat} {V : M2} (h : ρ t = 10) : erF κ val ρ t V = (rngE (val t).toInt32 1 30, st2 V 248 (lastI V 246) (val t).toInt32) := by
  unfold erF
  rw [h, if_neg (by decide), if_neg (by decide), if_neg (by decide), if_neg (by decide), if_neg (by decide), if_neg (by decide), if_neg (by decide), if_neg (by decide), if_neg (by decide), if_neg (by decide), if_neg (by decide), if_neg (by decide), if_neg (by decide), if_neg (by decide), if_neg (by decide), if_neg (by decide), if_pos rfl]
theorem erF_11 {κ : Nat → Int32} {val : Nat → Int64} {ρ : Nat → Int32} {t : Nat} {V : M2} (h : ρ t = 11) : erF κ val ρ t V = (rngE (val t).toInt32 1 9, st2 V 250 (lastI V 249) (val t).toInt32) := by
  unfold erF
  rw [h, if_neg (by decide), if_neg (by decide), if_neg (by decide), if_neg (by decide), if_neg (by decide), if_neg (by decide), if_neg (by decide), if_neg (by decide), if_neg (by decide), if_neg (by decide), if_neg (by decide), if_neg (by decide), if_neg (by decide), if_neg (by decide), if_neg (by decide), if_neg (by decide), if_neg (by decide), if_pos rfl]
theorem erF_12 {κ : Nat → Int32} {val : Nat → Int64} {ρ : Nat → Int32} {t : Nat} {V : M2} (h : ρ t = 12) : erF κ val ρ t V = (rngE (val t).toInt32 1 9, st2 V 251 (lastI V 249) (val t).toInt32) := by
  unfold erF
  rw [h, if_neg (by decide), if_neg (by decide), if_neg (by decide), if_neg (by decide), if_neg (by decide), if_neg (by decide), if_neg (by decide), if_neg (by decide), if_neg (by decide), if_neg (by decide), if_neg (by decide), if_neg (by decide), if_neg (by decide), if_neg (by decide), if_neg (by decide), if_neg (by decide), if_neg (by decide), if_neg (by decide), if_pos rfl]
theorem erF_13 {κ : Nat → Int32} {val : Nat → Int64} {ρ : Nat → Int32} {t : Nat} {V : M2} (h : ρ t = 13) : erF κ val ρ t V = (rngE (val t).toInt32 1 60, st2 V 253 (lastI V 252) (val t).toInt32) := by
  unfold erF
  rw [h, if_neg (by decide), if_neg (by decide), if_neg (by decide), if_neg (by decide), if_neg (by decide), if_neg (by decide), if_neg (by decide), if_neg (by decide), if_neg (by decide), if_neg (by decide), if_neg (by decide), if_neg (by decide), if_neg (by decide), if_neg (by decide), if_neg (by decide), if_neg (by decide), if_neg (by decide), if_neg (by decide), if_neg (by decide), if_pos rfl]
theorem erF_15 {κ : Nat → Int32} {val : Nat → Int64} {ρ : Nat → Int32} {t : Nat} {V : M2} (h : ρ t = 15) : erF κ val ρ t V = (rngE (val t).toInt32 0 999, st2 V 255 (lastI V 252) (val t).toInt32) := by
  unfold erF
  rw [h, if_neg (by decide), if_neg (by decide), if_neg (by decide), if_neg (by decide), if_neg (by decide), if_neg (by decide), if_neg (by decide), if_neg (by decide), if_neg (by decide), if_neg (by decide), if_neg (by decide), if_neg (by decide), if_neg (by decide), if_neg (by decide), if_neg (by decide), if_neg (by decide), if_neg (by decide), if_neg (by decide), if_neg (by decide), if_neg (by decide), if_pos rfl]
