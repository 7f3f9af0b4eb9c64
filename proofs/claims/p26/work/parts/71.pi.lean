/-! ===== the tests of orders ===== -/
def leafV (M : M2) (nb : Nat) (op x : Int32) : Int32 := if op = 4 then x else if op = 5 then M 200 0 else if op = 6 then M 201 0 else if op = 7 then mWaits M nb x else if op = 8 then M 203 x.toInt.toNat else if op = 9 then M 209 x.toInt.toNat else if op = 10 then (if M 206 x.toInt.toNat = 1 then 1 else 0) else if op = 11 then (if M 204 x.toInt.toNat = -1 then 1 else 0) else 0
def airV (M : M2) (np : Nat) (x : Int32) : Int32 := if inb x np then M 202 x.toInt.toNat else 0
def oneV (M : M2) (np : Nat) (op x : Int32) : Int32 := if op = 12 then airV M np x else if op = 13 then (if x = 0 then 1 else 0) else -x
def twoV (op a b : Int32) : Int32 := if op = 15 then a + b else if op = 16 then a - b else if op = 17 then a * b else if op = 18 then (if b = 0 then 0 else a / b) else if op = 19 then (if b ≤ a then 0 else 1) else if op = 20 then (if a ≤ b then 0 else 1) else if op = 21 then (if a = b then 1 else 0) else if op = 22 then (if b < a then 0 else 1) else if op = 23 then (if a < b then 0 else 1) else if op = 24 then a &&& b else if op = 25 then a ||| b else if op = 26 then mnv a b else if op = 27 then mxv a b else 0
def encV (op : Int32) : Int32 := if op = 4 then 32 else if op = 5 then 20 else if op = 6 then 21 else if op = 7 then 25 else if op = 8 then 23 else if op = 9 then 24 else if op = 10 then 26 else if op = 11 then 27 else if op = 12 then 22 else if op = 13 then 28 else if op = 14 then 33 else if op = 15 then 34 else if op = 16 then 35 else if op = 17 then 36 else if op = 18 then 37 else if op = 19 then 38 else if op = 20 then 39 else if op = 21 then 42 else if op = 22 then 43 else if op = 23 then 44 else if op = 24 then 16 else if op = 25 then 29 else if op = 26 then 30 else if op = 27 then 31 else 0
/-- the kinds: leaves 0, with something behind them 1; of one side 2; of two 3 -/
def enc (q : Int32 × Int32) : List Int32 := if q.1 = 4 ∨ q.1 = 7 ∨ q.1 = 8 ∨ q.1 = 9 ∨ q.1 = 10 ∨ q.1 = 11 then [encV q.1, q.2] else [encV q.1]
def flat (ops : List (Int32 × Int32)) : List Int32 := ops.flatMap enc
/-- which kind of value an operation leaves on a stack of kinds (true: that of a test); nl, nb bound what it speaks of -/
def tcS (nl nb : Nat) (q : Int32 × Int32) (ts : List Bool) : Option (List Bool) :=
  if q.1 = 4 ∨ q.1 = 5 ∨ q.1 = 6 ∨ q.1 = 7 then some (false :: ts)
  else if q.1 = 8 then (if inb q.2 nl then some (false :: ts) else none)
  else if q.1 = 9 then (if inb q.2 nb then some (false :: ts) else none)
  else if q.1 = 10 then (if inb q.2 nb then some (true :: ts) else none)
  else if q.1 = 11 then (if inb q.2 nl then some (true :: ts) else none)
  else if q.1 = 12 ∨ q.1 = 14 then (match ts with | false :: r => some (false :: r) | _ => none)
  else if q.1 = 13 then (match ts with | true :: r => some (true :: r) | _ => none)
  else if q.1 = 15 ∨ q.1 = 16 ∨ q.1 = 17 ∨ q.1 = 18 ∨ q.1 = 26 ∨ q.1 = 27 then (match ts with | false :: false :: r => some (false :: r) | _ => none)
  else if q.1 = 19 ∨ q.1 = 20 ∨ q.1 = 21 ∨ q.1 = 22 ∨ q.1 = 23 then (match ts with | false :: false :: r => some (true :: r) | _ => none)
  else if q.1 = 24 ∨ q.1 = 25 then (match ts with | true :: true :: r => some (true :: r) | _ => none)
  else none
def tc (nl nb : Nat) : List (Int32 × Int32) → List Bool → Option (List Bool)
  | [], ts => some ts
  | q :: ops, ts => (tcS nl nb q ts).bind (tc nl nb ops)
def evS (M : M2) (np nb : Nat) (q : Int32 × Int32) (st : List Int32) : List Int32 :=
  if q.1 ≤ 11 then leafV M nb q.1 q.2 :: st
  else if q.1 ≤ 14 then (match st with | a :: r => oneV M np q.1 a :: r | [] => [])
  else (match st with | b :: a :: r => twoV q.1 a b :: r | _ => [])
def ev (M : M2) (np nb : Nat) : List (Int32 × Int32) → List Int32 → List Int32
  | [], st => st
  | q :: ops, st => ev M np nb ops (evS M np nb q st)
def TY : List Int32 → List Bool → Prop
  | [], [] => True
  | x :: st, t :: ts => (t = true → x = 0 ∨ x = 1) ∧ TY st ts
  | _, _ => False
theorem TY.len : ∀ {st : List Int32} {ts : List Bool}, TY st ts → st.length = ts.length
  | [], [], _ => rfl
  | x :: st, t :: ts, h => by simp [TY.len h.2]
  | [], t :: ts, h => False.elim h
  | x :: st, [], h => False.elim h
theorem tc_append {nl nb : Nat} : ∀ (a b : List (Int32 × Int32)) (ts : List Bool), tc nl nb (a ++ b) ts = (tc nl nb a ts).bind (tc nl nb b)
  | [], b, ts => rfl
  | q :: a, b, ts => by
    show (tcS nl nb q ts).bind (tc nl nb (a ++ b)) = ((tcS nl nb q ts).bind (tc nl nb a)).bind (tc nl nb b)
    cases tcS nl nb q ts with
    | none => rfl
    | some u => exact tc_append a b u
/-- the stack of both sides: the top first -/
def STK (g : Nat → Int32) : List Int32 → Prop
  | [] => True
  | x :: st => g st.length = x ∧ STK g st
theorem STK.above {g : Nat → Int32} : ∀ {st : List Int32} {n : Nat} {v : Int32}, STK g st → st.length ≤ n → STK (upd g n v) st
  | [], _, _, _, _ => True.intro
  | x :: st, n, v, h, hn => by
    simp only [List.length_cons] at hn
    exact ⟨by rw [upd_n _ _ (by omega)]; exact h.1, STK.above h.2 (by omega)⟩
theorem STK.set {g : Nat → Int32} {st : List Int32} {v : Int32} (h : STK g st) : STK (upd g st.length v) (v :: st) := ⟨upd_s _ _ _, h.above (Nat.le_refl _)⟩
def topI : Nat → Int32
  | 0 => -1
  | n + 1 => nI n
theorem topI_succ (n : Nat) : topI n + 1 = nI n := by
  cases n with
  | zero => decide
  | succ n => exact nI_1 n
theorem topI_pred (n : Nat) : topI (n + 2) + -1 = topI (n + 1) := pk_m1 n
theorem div_m1 (a : Int32) : a / -1 = -a := by
  have e : (-1 : Int32).toInt = -1 := by decide
  rw [← Int32.toInt_inj, Int32.toInt_div, e, Int.tdiv_neg, Int.tdiv_one, Int32.toInt_neg]

/-- an operation that fits, by its shape -/
theorem tcS_cases {nl nb : Nat} {op x : Int32} {ts u : List Bool} (h : tcS nl nb (op, x) ts = some u) :
    ((op = 4 ∨ op = 5 ∨ op = 6 ∨ op = 7) ∧ u = false :: ts) ∨ (op = 8 ∧ inb x nl ∧ u = false :: ts) ∨ (op = 9 ∧ inb x nb ∧ u = false :: ts) ∨ (op = 10 ∧ inb x nb ∧ u = true :: ts) ∨ (op = 11 ∧ inb x nl ∧ u = true :: ts)
    ∨ ((op = 12 ∨ op = 14) ∧ ∃ r, ts = false :: r ∧ u = false :: r) ∨ (op = 13 ∧ ∃ r, ts = true :: r ∧ u = true :: r)
    ∨ ((op = 15 ∨ op = 16 ∨ op = 17 ∨ op = 18 ∨ op = 26 ∨ op = 27) ∧ ∃ r, ts = false :: false :: r ∧ u = false :: r)
    ∨ ((op = 19 ∨ op = 20 ∨ op = 21 ∨ op = 22 ∨ op = 23) ∧ ∃ r, ts = false :: false :: r ∧ u = true :: r)
    ∨ ((op = 24 ∨ op = 25) ∧ ∃ r, ts = true :: true :: r ∧ u = true :: r) := by
  unfold tcS at h
  dsimp only at h
  split at h
  · rename_i c
    exact Or.inl ⟨c, (Option.some.inj h).symm⟩
  refine Or.inr ?_
  split at h
  · rename_i c
    split at h
    · rename_i c2
      exact Or.inl ⟨c, c2, (Option.some.inj h).symm⟩
    · exact nomatch h
  refine Or.inr ?_
  split at h
  · rename_i c
    split at h
    · rename_i c2
      exact Or.inl ⟨c, c2, (Option.some.inj h).symm⟩
    · exact nomatch h
  refine Or.inr ?_
  split at h
  · rename_i c
    split at h
    · rename_i c2
      exact Or.inl ⟨c, c2, (Option.some.inj h).symm⟩
    · exact nomatch h
  refine Or.inr ?_
  split at h
  · rename_i c
    split at h
    · rename_i c2
      exact Or.inl ⟨c, c2, (Option.some.inj h).symm⟩
    · exact nomatch h
  refine Or.inr ?_
  split at h
  · rename_i c
    split at h
    · exact Or.inl ⟨c, _, rfl, (Option.some.inj h).symm⟩
    · exact nomatch h
  refine Or.inr ?_
  split at h
  · rename_i c
    split at h
    · exact Or.inl ⟨c, _, rfl, (Option.some.inj h).symm⟩
    · exact nomatch h
  refine Or.inr ?_
  split at h
  · rename_i c
    split at h
    · exact Or.inl ⟨c, _, rfl, (Option.some.inj h).symm⟩
    · exact nomatch h
  refine Or.inr ?_
  split at h
  · rename_i c
    split at h
    · exact Or.inl ⟨c, _, rfl, (Option.some.inj h).symm⟩
    · exact nomatch h
  refine Or.inr ?_
  split at h
  · rename_i c
    split at h
    · exact ⟨c, _, rfl, (Option.some.inj h).symm⟩
    · exact nomatch h
  · exact nomatch h
theorem b_and {a b : Int32} (ha : a = 0 ∨ a = 1) (hb : b = 0 ∨ b = 1) : a &&& b = 0 ∨ a &&& b = 1 := by
  rcases ha with rfl | rfl <;> rcases hb with rfl | rfl <;> decide
theorem b_or {a b : Int32} (ha : a = 0 ∨ a = 1) (hb : b = 0 ∨ b = 1) : a ||| b = 0 ∨ a ||| b = 1 := by
  rcases ha with rfl | rfl <;> rcases hb with rfl | rfl <;> decide
theorem b_ite {c : Prop} [Decidable c] : (if c then (1 : Int32) else 0) = 0 ∨ (if c then (1 : Int32) else 0) = 1 := by
  by_cases h : c
  · exact Or.inr (if_pos h)
  · exact Or.inl (if_neg h)
theorem b_ite' {c : Prop} [Decidable c] : (if c then (0 : Int32) else 1) = 0 ∨ (if c then (0 : Int32) else 1) = 1 := by
  by_cases h : c
  · exact Or.inl (if_pos h)
  · exact Or.inr (if_neg h)
/-- three shapes: a leaf, of one side, of two; what they make has its kind -/
theorem tcS_shape {nl nb np : Nat} {M : M2} {op x : Int32} {ts u : List Bool} {st : List Int32} (h : tcS nl nb (op, x) ts = some u) (hT : TY st ts) :
    (op ≤ 11 ∧ TY (leafV M nb op x :: st) u) ∨ (¬ op ≤ 11 ∧ op ≤ 14 ∧ ∃ a r, st = a :: r ∧ TY (oneV M np op a :: r) u ∧ (op = 13 → a = 0 ∨ a = 1)) ∨ (¬ op ≤ 11 ∧ ¬ op ≤ 14 ∧ ∃ b a r, st = b :: a :: r ∧ TY (twoV op a b :: r) u) := by
  rcases tcS_cases h with ⟨c, rfl⟩ | ⟨rfl, c, rfl⟩ | ⟨rfl, c, rfl⟩ | ⟨rfl, c, rfl⟩ | ⟨rfl, c, rfl⟩ | ⟨c, r, rfl, rfl⟩ | ⟨rfl, r, rfl, rfl⟩ | ⟨c, r, rfl, rfl⟩ | ⟨c, r, rfl, rfl⟩ | ⟨c, r, rfl, rfl⟩
  · refine Or.inl ⟨?_, And.intro (fun z => Bool.noConfusion z) hT⟩
    rcases c with rfl | rfl | rfl | rfl <;> decide
  · exact Or.inl ⟨by decide, And.intro (fun z => Bool.noConfusion z) hT⟩
  · exact Or.inl ⟨by decide, And.intro (fun z => Bool.noConfusion z) hT⟩
  · refine Or.inl ⟨by decide, And.intro (fun _ => ?_) hT⟩
    simp only [leafV]
    exact b_ite
  · refine Or.inl ⟨by decide, And.intro (fun _ => ?_) hT⟩
    simp only [leafV]
    exact b_ite
  · match st, hT with
    | a :: st, hT =>
      refine Or.inr (Or.inl ⟨?_, ?_, a, st, rfl, And.intro (fun z => Bool.noConfusion z) hT.2, fun z => ?_⟩)
      · rcases c with rfl | rfl <;> decide
      · rcases c with rfl | rfl <;> decide
      · rcases c with rfl | rfl <;> exact absurd z (by decide)
    | [], hT => exact False.elim hT
  · match st, hT with
    | a :: st, hT =>
      refine Or.inr (Or.inl ⟨by decide, by decide, a, st, rfl, And.intro (fun _ => ?_) hT.2, fun _ => hT.1 rfl⟩)
      simp only [oneV]
      exact b_ite
    | [], hT => exact False.elim hT
  · match st, hT with
    | b :: a :: st, hT =>
      refine Or.inr (Or.inr ⟨?_, ?_, b, a, st, rfl, And.intro (fun z => Bool.noConfusion z) hT.2.2⟩)
      · rcases c with rfl | rfl | rfl | rfl | rfl | rfl <;> decide
      · rcases c with rfl | rfl | rfl | rfl | rfl | rfl <;> decide
    | [b], hT => exact False.elim hT.2
    | [], hT => exact False.elim hT
  · match st, hT with
    | b :: a :: st, hT =>
      refine Or.inr (Or.inr ⟨?_, ?_, b, a, st, rfl, And.intro (fun z => ?_) hT.2.2⟩)
      · rcases c with rfl | rfl | rfl | rfl | rfl <;> decide
      · rcases c with rfl | rfl | rfl | rfl | rfl <;> decide
      · rcases c with rfl | rfl | rfl | rfl | rfl <;> simp only [twoV] <;> first | exact b_ite | exact b_ite'
    | [b], hT => exact False.elim hT.2
    | [], hT => exact False.elim hT
  · match st, hT with
    | b :: a :: st, hT =>
      refine Or.inr (Or.inr ⟨?_, ?_, b, a, st, rfl, And.intro (fun z => ?_) hT.2.2⟩)
      · rcases c with rfl | rfl <;> decide
      · rcases c with rfl | rfl <;> decide
      · rcases c with rfl | rfl <;> simp only [twoV]
        · exact b_and (hT.2.1 rfl) (hT.1 rfl)
        · exact b_or (hT.2.1 rfl) (hT.1 rfl)
    | [b], hT => exact False.elim hT.2
    | [], hT => exact False.elim hT

section EVC
variable {P Q N F S M : M2} {np nl nb ns no : Nat} {b : Nat}
theorem m_leaf {K : Int32 → Prop} (hp : PR P Q np nl nb ns no) (hr : RE np nl nb F M) {op x : Int32} {ts u : List Bool} (ht : tcS nl nb (op, x) ts = some u) (hop : op ≤ 11) (h : K (leafV M nb op x)) : wp_X4_leaf P F op x K := by
  have h8 := hp.nb3
  have h6 := hp.nl3
  have big : ∀ c : Int32, op = c → ¬ c ≤ 11 → False := fun c e z => z (e ▸ hop)
  have inl : inb x nl → atv (F 5) 6 x = M 203 x.toInt.toNat ∧ atv (F 7) 6 x = M 204 x.toInt.toNat := fun c => by
    obtain ⟨l, hl, rfl⟩ := inb_oJ c (by omega)
    rw [atv_nI (by omega) (by decide), atv_nI (by omega) (by decide), tn_nI (by omega), hr.breath hl, hr.cap hl]
    exact ⟨rfl, rfl⟩
  have inb_ : inb x nb → atv (F 11) 8 x = M 209 x.toInt.toNat ∧ atv (F 10) 8 x = M 206 x.toInt.toNat := fun c => by
    obtain ⟨l, hl, rfl⟩ := inb_oJ c (by omega)
    rw [atv_nI (by omega) (by decide), atv_nI (by omega) (by decide), tn_nI (by omega), hr.spot hl, hr.how hl]
    exact ⟨rfl, rfl⟩
  unfold wp_X4_leaf
  rcases tcS_cases ht with ⟨c, rfl⟩ | ⟨rfl, c, rfl⟩ | ⟨rfl, c, rfl⟩ | ⟨rfl, c, rfl⟩ | ⟨rfl, c, rfl⟩ | ⟨c, r, rfl, rfl⟩ | ⟨rfl, r, rfl, rfl⟩ | ⟨c, r, rfl, rfl⟩ | ⟨c, r, rfl, rfl⟩ | ⟨c, r, rfl, rfl⟩
  · rcases c with rfl | rfl | rfl | rfl <;> simp [leafV] at h ⊢
    · exact h
    · rw [hr.min]; exact h
    · rw [hr.turn]; exact h
    · exact m_waits hp hr h
  · simp [leafV] at h ⊢
    rw [(inl c).1]; exact h
  · simp [leafV] at h ⊢
    rw [(inb_ c).1]; exact h
  · simp [leafV] at h ⊢
    rw [(inb_ c).2]
    by_cases e : M 206 x.toNatClampNeg = 1 <;> simp [e] at h ⊢ <;> exact h
  · simp [leafV] at h ⊢
    rw [(inl c).2]
    by_cases e : M 204 x.toNatClampNeg = -1 <;> simp [e] at h ⊢ <;> exact h
  · rcases c with rfl | rfl <;> exact absurd hop (by decide)
  · exact absurd hop (by decide)
  · rcases c with rfl | rfl | rfl | rfl | rfl | rfl <;> exact absurd hop (by decide)
  · rcases c with rfl | rfl | rfl | rfl | rfl <;> exact absurd hop (by decide)
  · rcases c with rfl | rfl <;> exact absurd hop (by decide)
theorem m_one {K : Int32 → Prop} (hp : PR P Q np nl nb ns no) (hr : RE np nl nb F M) {op x : Int32} (h : K (oneV M np op x)) : wp_X4_ofOneSide P F op x K := by
  have h60 := hp.np3
  unfold wp_X4_ofOneSide
  unfold oneV at h
  refine And.intro (fun c => And.intro (fun c2 => ?_) (fun c2 => And.intro (fun c3 => ?_) (fun c3 => ?_))) (fun c => And.intro (fun c2 => ?_) (fun c2 => ?_))
  · rw [if_neg c, if_neg c2] at h; exact h
  · rw [if_neg c, if_pos c2, if_neg c3] at h; exact h
  · rw [if_neg c, if_pos c2, if_pos c3] at h; exact h
  · rw [if_pos c] at h
    unfold airV at h
    rw [hp.np1, Int32.le_iff_toInt_le, nI_toInt (by omega)] at c2
    rw [if_neg (fun z => by have := z.2; omega)] at h
    exact h
  · rw [if_pos c] at h
    unfold airV at h
    rw [hp.np1, Int32.le_iff_toInt_le, nI_toInt (by omega)] at c2
    by_cases c3 : inb x np
    · rw [if_pos c3] at h
      obtain ⟨p, hpn, rfl⟩ := inb_oJ c3 (by omega)
      rw [atv_nI (by omega) (by decide), hr.air hpn]
      rw [tn_nI (by omega)] at h
      exact h
    · rw [if_neg c3] at h
      unfold atv
      rw [if_neg (fun z => c3 ⟨z.1, by omega⟩)]
      exact h
theorem m_two {K : Int32 → Prop} {op x y : Int32} (h : K (twoV op x y)) : wp_X4_ofTwoSides P F op x y K := by
  have qu : K (if y = 0 then 0 else x / y) → wp_X4_quotient P F x y (fun r_82 => K r_82) := fun h => by
    refine And.intro (fun c => And.intro (fun c2 => ⟨c, ?_⟩) (fun c2 => ?_)) (fun c => ?_)
    · rw [if_neg c] at h; exact h
    · rw [if_neg c, c2, div_m1] at h; exact h
    · rw [if_pos c] at h; exact h
  unfold wp_X4_ofTwoSides
  refine ⟨fun c => ?_, fun c => ?_, fun c => ?_, fun c => ?_, fun c => ?_, fun c => ?_, fun c => ?_, fun c => ?_, fun c => ?_, fun c => ?_, fun c => ?_, fun c => ?_, fun c => ?_, fun c0 c1 c2 c3 c4 c5 c6 c7 c8 c9 c10 c11 c12 => ?_⟩
  · subst c
    exact h
  · subst c
    exact h
  · subst c
    exact h
  · subst c
    exact qu h
  · subst c
    have h : K (if y ≤ x then 0 else 1) := h
    exact And.intro (fun c => by rw [if_pos c] at h; exact h) (fun c => by rw [if_neg c] at h; exact h)
  · subst c
    have h : K (if x ≤ y then 0 else 1) := h
    exact And.intro (fun c => by rw [if_pos c] at h; exact h) (fun c => by rw [if_neg c] at h; exact h)
  · subst c
    have h : K (if x = y then 1 else 0) := h
    exact And.intro (fun c => by rw [if_neg c] at h; exact h) (fun c => by rw [if_pos c] at h; exact h)
  · subst c
    have h : K (if y < x then 0 else 1) := h
    exact And.intro (fun c => by rw [if_pos c] at h; exact h) (fun c => by rw [if_neg c] at h; exact h)
  · subst c
    have h : K (if x < y then 0 else 1) := h
    exact And.intro (fun c => by rw [if_pos c] at h; exact h) (fun c => by rw [if_neg c] at h; exact h)
  · subst c
    exact h
  · subst c
    exact h
  · subst c
    exact h
  · subst c
    exact h
  · unfold twoV at h
    rw [if_neg c0, if_neg c1, if_neg c2, if_neg c3, if_neg c4, if_neg c5, if_neg c6, if_neg c7, if_neg c8, if_neg c9, if_neg c10, if_neg c11, if_neg c12] at h
    exact h
/-- the class carries out the operations -/
theorem m_holdsL {K : Int32 → M2 → Prop} {e : Nat} (he : e ≤ 400) (hp : PR P Q np nl nb ns no) : ∀ (ops : List (Int32 × Int32)) (i f : Nat) (F : M2) (st : List Int32) (ts : List Bool), (∀ j (hj : j < ops.length), P 46 (i + j) = (ops[j]).1 ∧ P 47 (i + j) = (ops[j]).2) → i + ops.length = e → ops.length < f → st.length + ops.length ≤ 400 → RE np nl nb F M → tc nl nb ops ts = some [true] → TY st ts → STK (F 14) st → (∀ F' v, RE np nl nb F' M → ev M np nb ops st = [v] → (v = 0 ∨ v = 1) → K v F') → wl_X4_holds_30 P K f F (nI e) (topI st.length) (nI i) := by
  intro ops
  induction ops with
  | nil =>
    intro i f F st ts hs hi hf hl hr ht hT hS h
    obtain ⟨f, rfl, _⟩ := fuel hf
    have e1 : ts = [true] := Option.some.inj ht
    subst e1
    match st, hT, hS with
    | [v], hT, hS =>
      have hv := hT.1 rfl
      have hF : atv (F 14) 400 0 = v := by
        rw [← nI_0, atv_nI (by omega) (by decide)]
        exact hS.1
      simp only [List.length_nil, Nat.add_zero] at hi
      subst hi
      refine And.intro (fun _ => And.intro (fun c => ?_) (fun c => ?_)) (fun c => absurd (nI_le (Nat.le_refl _) (by omega)) c)
      · rw [hF] at c
        subst c
        exact h F 0 hr rfl hv
      · rw [hF] at c
        rcases hv with rfl | rfl
        · exact absurd rfl c
        · exact h F 1 hr rfl (Or.inr rfl)
    | [], hT, _ => exact False.elim hT
    | _ :: _ :: _, hT, _ => exact False.elim hT.2
  | cons q ops ih =>
    intro i f F st ts hs hi hf hl hr ht hT hS h
    obtain ⟨f, rfl, _⟩ := fuel hf
    simp only [List.length_cons] at hi hl hf
    obtain ⟨op, x⟩ := q
    have h0 := hs 0 (by simp)
    simp only [Nat.add_zero, List.getElem_cons_zero] at h0
    have hs' : ∀ j (hj : j < ops.length), P 46 (i + 1 + j) = (ops[j]).1 ∧ P 47 (i + 1 + j) = (ops[j]).2 := fun j hj => by
      have := hs (j + 1) (by simp; omega)
      rw [show i + (j + 1) = i + 1 + j by omega] at this
      simpa using this
    obtain ⟨u, hu, ht'⟩ := Option.bind_eq_some_iff.mp (show (tcS nl nb (op, x) ts).bind (tc nl nb ops) = some [true] from ht)
    have a46 : atv (P 46) 400 (nI i) = op := by rw [atv_nI (by omega) (by decide), h0.1]
    have a47 : atv (P 47) 400 (nI i) = x := by rw [atv_nI (by omega) (by decide), h0.2]
    have n11 : ¬ op ≤ 11 ↔ 11 < op := Int32.not_le
    have n14 : ¬ op ≤ 14 ↔ 14 < op := Int32.not_le
    have key : ∀ (F1 : M2) (st1 : List Int32), st1.length + ops.length ≤ 400 → RE np nl nb F1 M → STK (F1 14) st1 → TY st1 u → st1 = evS M np nb (op, x) st → wl_X4_holds_30 P K f F1 (nI e) (topI st1.length) (nI (i + 1)) := fun F1 st1 k1 k2 k3 k4 k5 =>
      ih (i + 1) f F1 st1 u hs' (by omega) (by omega) k1 k2 ht' k4 k3 (fun F' v g1 g2 g3 => h F' v g1 (by
        show ev M np nb ops (evS M np nb (op, x) st) = [v]
        rw [← k5]
        exact g2) g3)
    refine And.intro (fun c => absurd c (nI_ge (by omega) (by omega))) (fun _ v6 e6 => ?_)
    rw [a46] at e6
    subst e6
    rcases tcS_shape (np := np) (M := M) hu hT with ⟨hop, hT1⟩ | ⟨h11, hop, a, r, rfl, hT1, _⟩ | ⟨h11, h14, b, a, r, rfl, hT1⟩
    · refine And.intro (fun c => absurd hop (n11.mpr c)) (fun _ v4 e4 => ?_)
      rw [topI_succ] at e4
      subst e4
      rw [a47]
      refine m_leaf hp hr hu hop (fun F1 e1 v5 e5 => ?_)
      rw [putv_nI (by omega) (by decide)] at e1
      subst e1 e5
      rw [nI_1]
      refine key _ (leafV M nb v6 x :: st) (by simp; omega) (hr.off (by decide) _) ?_ hT1 ?_
      · rw [up2_s]
        exact hS.set
      · unfold evS
        rw [if_pos hop]
    · simp only [List.length_cons] at hl ⊢
      refine And.intro (fun _ => And.intro (fun c => absurd hop (n14.mpr c)) (fun _ => ?_)) (fun c => absurd (n11.mp h11) c)
      have ea : atv (F 14) 400 (topI (r.length + 1)) = a := by
        show atv (F 14) 400 (nI r.length) = a
        rw [atv_nI (by omega) (by decide)]
        exact hS.1
      rw [ea]
      refine m_one hp hr (fun F1 e1 v5 e5 => ?_)
      change F1 = up2 F 14 (putv (F 14) 400 (nI r.length) _) at e1
      rw [putv_nI (by omega) (by decide)] at e1
      subst e1 e5
      rw [nI_1]
      refine key _ (oneV M np v6 a :: r) (by simp; omega) (hr.off (by decide) _) ?_ hT1 ?_
      · rw [up2_s]
        exact STK.set hS.2
      · unfold evS
        rw [if_neg h11, if_pos hop]
    · simp only [List.length_cons] at hl ⊢
      refine And.intro (fun _ => And.intro (fun _ v4 e4 => ?_) (fun c => absurd (n14.mp h14) c)) (fun c => absurd (n11.mp h11) c)
      rw [show r.length + 1 + 1 = r.length + 2 by omega, topI_pred] at e4
      subst e4
      have ea : atv (F 14) 400 (topI (r.length + 1)) = a := by
        show atv (F 14) 400 (nI r.length) = a
        rw [atv_nI (by omega) (by decide)]
        exact hS.2.1
      have eb : atv (F 14) 400 (topI (r.length + 1) + 1) = b := by
        rw [topI_succ, atv_nI (by omega) (by decide)]
        exact hS.1
      rw [ea, eb]
      refine m_two (fun F1 e1 v5 e5 => ?_)
      change F1 = up2 F 14 (putv (F 14) 400 (nI r.length) _) at e1
      rw [putv_nI (by omega) (by decide)] at e1
      subst e1 e5
      rw [nI_1]
      refine key _ (twoV v6 a b :: r) (by simp; omega) (hr.off (by decide) _) ?_ hT1 ?_
      · rw [up2_s]
        exact STK.set hS.2.2
      · unfold evS
        rw [if_neg h11, if_neg h14]
end EVC
