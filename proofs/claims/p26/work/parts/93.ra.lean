/-! ===== the kinds of tokens on both sides ===== -/
def ck (k : Int32) : Int32 := if k = 0 then 34 else if k = 1 then 35 else if k = 2 then 36 else if k = 3 then 37 else if k = 4 then 38 else if k = 5 then 39 else if k = 6 then 40 else if k = 7 then 41 else if k = 8 then 42 else if k = 9 then 43 else if k = 10 then 44 else if k = 11 then 45 else if k = 12 then 3 else if k = 13 then 3 else if k = 14 then 46 else if k = 15 then 47 else if k = 16 then 24 else if k = 17 then 48 else if k = 18 then 49 else if k = 19 then 50 else if k = 20 then 5 else if k = 21 then 6 else if k = 22 then 12 else if k = 23 then 8 else if k = 24 then 9 else if k = 25 then 7 else if k = 26 then 10 else if k = 27 then 11 else if k = 28 then 13 else if k = 29 then 25 else if k = 30 then 26 else if k = 31 then 27 else if k = 40 then 2 else if k = 41 then 4 else if k = 90 then 28 else if k = 91 then 29 else if k = 92 then 17 else if k = 93 then 15 else if k = 94 then 33 else if k = 95 then 16 else if k = 97 then 18 else if k = 109 then 32 else if k = 110 then 19 else if k = 111 then 21 else if k = 112 then 20 else if k = 141 then 30 else if k = 143 then 31 else if k = 300 then 22 else if k = 301 then 23 else if k = 900 then 0 else if k = 901 then 1 else 1
def vk : List Int32 := [0, 1, 2, 3, 4, 5, 6, 7, 8, 9, 10, 11, 12, 13, 14, 15, 16, 17, 18, 19, 20, 21, 22, 23, 24, 25, 26, 27, 28, 29, 30, 31, 40, 41, 90, 91, 92, 93, 94, 95, 97, 109, 110, 111, 112, 141, 143, 300, 301, 900, 901]
theorem ck_0 {k : Int32} (h : k ∈ vk) : ck k = 0 ↔ k = 900 := (by decide +kernel : ∀ k ∈ vk, (ck k = 0 ↔ k = 900)) k h
theorem ck_1 {k : Int32} (h : k ∈ vk) : ck k = 1 ↔ k = 901 := (by decide +kernel : ∀ k ∈ vk, (ck k = 1 ↔ k = 901)) k h
theorem ck_2 {k : Int32} (h : k ∈ vk) : ck k = 2 ↔ k = 40 := (by decide +kernel : ∀ k ∈ vk, (ck k = 2 ↔ k = 40)) k h
theorem ck_4 {k : Int32} (h : k ∈ vk) : ck k = 4 ↔ k = 41 := (by decide +kernel : ∀ k ∈ vk, (ck k = 4 ↔ k = 41)) k h
theorem ck_5 {k : Int32} (h : k ∈ vk) : ck k = 5 ↔ k = 20 := (by decide +kernel : ∀ k ∈ vk, (ck k = 5 ↔ k = 20)) k h
theorem ck_6 {k : Int32} (h : k ∈ vk) : ck k = 6 ↔ k = 21 := (by decide +kernel : ∀ k ∈ vk, (ck k = 6 ↔ k = 21)) k h
theorem ck_7 {k : Int32} (h : k ∈ vk) : ck k = 7 ↔ k = 25 := (by decide +kernel : ∀ k ∈ vk, (ck k = 7 ↔ k = 25)) k h
theorem ck_8 {k : Int32} (h : k ∈ vk) : ck k = 8 ↔ k = 23 := (by decide +kernel : ∀ k ∈ vk, (ck k = 8 ↔ k = 23)) k h
theorem ck_9 {k : Int32} (h : k ∈ vk) : ck k = 9 ↔ k = 24 := (by decide +kernel : ∀ k ∈ vk, (ck k = 9 ↔ k = 24)) k h
theorem ck_10 {k : Int32} (h : k ∈ vk) : ck k = 10 ↔ k = 26 := (by decide +kernel : ∀ k ∈ vk, (ck k = 10 ↔ k = 26)) k h
theorem ck_11 {k : Int32} (h : k ∈ vk) : ck k = 11 ↔ k = 27 := (by decide +kernel : ∀ k ∈ vk, (ck k = 11 ↔ k = 27)) k h
theorem ck_12 {k : Int32} (h : k ∈ vk) : ck k = 12 ↔ k = 22 := (by decide +kernel : ∀ k ∈ vk, (ck k = 12 ↔ k = 22)) k h
theorem ck_13 {k : Int32} (h : k ∈ vk) : ck k = 13 ↔ k = 28 := (by decide +kernel : ∀ k ∈ vk, (ck k = 13 ↔ k = 28)) k h
theorem ck_15 {k : Int32} (h : k ∈ vk) : ck k = 15 ↔ k = 93 := (by decide +kernel : ∀ k ∈ vk, (ck k = 15 ↔ k = 93)) k h
theorem ck_16 {k : Int32} (h : k ∈ vk) : ck k = 16 ↔ k = 95 := (by decide +kernel : ∀ k ∈ vk, (ck k = 16 ↔ k = 95)) k h
theorem ck_17 {k : Int32} (h : k ∈ vk) : ck k = 17 ↔ k = 92 := (by decide +kernel : ∀ k ∈ vk, (ck k = 17 ↔ k = 92)) k h
theorem ck_18 {k : Int32} (h : k ∈ vk) : ck k = 18 ↔ k = 97 := (by decide +kernel : ∀ k ∈ vk, (ck k = 18 ↔ k = 97)) k h
theorem ck_19 {k : Int32} (h : k ∈ vk) : ck k = 19 ↔ k = 110 := (by decide +kernel : ∀ k ∈ vk, (ck k = 19 ↔ k = 110)) k h
theorem ck_20 {k : Int32} (h : k ∈ vk) : ck k = 20 ↔ k = 112 := (by decide +kernel : ∀ k ∈ vk, (ck k = 20 ↔ k = 112)) k h
theorem ck_21 {k : Int32} (h : k ∈ vk) : ck k = 21 ↔ k = 111 := (by decide +kernel : ∀ k ∈ vk, (ck k = 21 ↔ k = 111)) k h
theorem ck_22 {k : Int32} (h : k ∈ vk) : ck k = 22 ↔ k = 300 := (by decide +kernel : ∀ k ∈ vk, (ck k = 22 ↔ k = 300)) k h
theorem ck_23 {k : Int32} (h : k ∈ vk) : ck k = 23 ↔ k = 301 := (by decide +kernel : ∀ k ∈ vk, (ck k = 23 ↔ k = 301)) k h
theorem ck_24 {k : Int32} (h : k ∈ vk) : ck k = 24 ↔ k = 16 := (by decide +kernel : ∀ k ∈ vk, (ck k = 24 ↔ k = 16)) k h
theorem ck_25 {k : Int32} (h : k ∈ vk) : ck k = 25 ↔ k = 29 := (by decide +kernel : ∀ k ∈ vk, (ck k = 25 ↔ k = 29)) k h
theorem ck_26 {k : Int32} (h : k ∈ vk) : ck k = 26 ↔ k = 30 := (by decide +kernel : ∀ k ∈ vk, (ck k = 26 ↔ k = 30)) k h
theorem ck_27 {k : Int32} (h : k ∈ vk) : ck k = 27 ↔ k = 31 := (by decide +kernel : ∀ k ∈ vk, (ck k = 27 ↔ k = 31)) k h
theorem ck_28 {k : Int32} (h : k ∈ vk) : ck k = 28 ↔ k = 90 := (by decide +kernel : ∀ k ∈ vk, (ck k = 28 ↔ k = 90)) k h
theorem ck_29 {k : Int32} (h : k ∈ vk) : ck k = 29 ↔ k = 91 := (by decide +kernel : ∀ k ∈ vk, (ck k = 29 ↔ k = 91)) k h
theorem ck_30 {k : Int32} (h : k ∈ vk) : ck k = 30 ↔ k = 141 := (by decide +kernel : ∀ k ∈ vk, (ck k = 30 ↔ k = 141)) k h
theorem ck_31 {k : Int32} (h : k ∈ vk) : ck k = 31 ↔ k = 143 := (by decide +kernel : ∀ k ∈ vk, (ck k = 31 ↔ k = 143)) k h
theorem ck_32 {k : Int32} (h : k ∈ vk) : ck k = 32 ↔ k = 109 := (by decide +kernel : ∀ k ∈ vk, (ck k = 32 ↔ k = 109)) k h
theorem ck_33 {k : Int32} (h : k ∈ vk) : ck k = 33 ↔ k = 94 := (by decide +kernel : ∀ k ∈ vk, (ck k = 33 ↔ k = 94)) k h
theorem ck_34 {k : Int32} (h : k ∈ vk) : ck k = 34 ↔ k = 0 := (by decide +kernel : ∀ k ∈ vk, (ck k = 34 ↔ k = 0)) k h
theorem ck_35 {k : Int32} (h : k ∈ vk) : ck k = 35 ↔ k = 1 := (by decide +kernel : ∀ k ∈ vk, (ck k = 35 ↔ k = 1)) k h
theorem ck_36 {k : Int32} (h : k ∈ vk) : ck k = 36 ↔ k = 2 := (by decide +kernel : ∀ k ∈ vk, (ck k = 36 ↔ k = 2)) k h
theorem ck_37 {k : Int32} (h : k ∈ vk) : ck k = 37 ↔ k = 3 := (by decide +kernel : ∀ k ∈ vk, (ck k = 37 ↔ k = 3)) k h
theorem ck_38 {k : Int32} (h : k ∈ vk) : ck k = 38 ↔ k = 4 := (by decide +kernel : ∀ k ∈ vk, (ck k = 38 ↔ k = 4)) k h
theorem ck_39 {k : Int32} (h : k ∈ vk) : ck k = 39 ↔ k = 5 := (by decide +kernel : ∀ k ∈ vk, (ck k = 39 ↔ k = 5)) k h
theorem ck_40 {k : Int32} (h : k ∈ vk) : ck k = 40 ↔ k = 6 := (by decide +kernel : ∀ k ∈ vk, (ck k = 40 ↔ k = 6)) k h
theorem ck_41 {k : Int32} (h : k ∈ vk) : ck k = 41 ↔ k = 7 := (by decide +kernel : ∀ k ∈ vk, (ck k = 41 ↔ k = 7)) k h
theorem ck_42 {k : Int32} (h : k ∈ vk) : ck k = 42 ↔ k = 8 := (by decide +kernel : ∀ k ∈ vk, (ck k = 42 ↔ k = 8)) k h
theorem ck_43 {k : Int32} (h : k ∈ vk) : ck k = 43 ↔ k = 9 := (by decide +kernel : ∀ k ∈ vk, (ck k = 43 ↔ k = 9)) k h
theorem ck_44 {k : Int32} (h : k ∈ vk) : ck k = 44 ↔ k = 10 := (by decide +kernel : ∀ k ∈ vk, (ck k = 44 ↔ k = 10)) k h
theorem ck_45 {k : Int32} (h : k ∈ vk) : ck k = 45 ↔ k = 11 := (by decide +kernel : ∀ k ∈ vk, (ck k = 45 ↔ k = 11)) k h
theorem ck_46 {k : Int32} (h : k ∈ vk) : ck k = 46 ↔ k = 14 := (by decide +kernel : ∀ k ∈ vk, (ck k = 46 ↔ k = 14)) k h
theorem ck_47 {k : Int32} (h : k ∈ vk) : ck k = 47 ↔ k = 15 := (by decide +kernel : ∀ k ∈ vk, (ck k = 47 ↔ k = 15)) k h
theorem ck_48 {k : Int32} (h : k ∈ vk) : ck k = 48 ↔ k = 17 := (by decide +kernel : ∀ k ∈ vk, (ck k = 48 ↔ k = 17)) k h
theorem ck_49 {k : Int32} (h : k ∈ vk) : ck k = 49 ↔ k = 18 := (by decide +kernel : ∀ k ∈ vk, (ck k = 49 ↔ k = 18)) k h
theorem ck_50 {k : Int32} (h : k ∈ vk) : ck k = 50 ↔ k = 19 := (by decide +kernel : ∀ k ∈ vk, (ck k = 50 ↔ k = 19)) k h
theorem ck_3 {k : Int32} (h : k ∈ vk) : ck k = 3 ↔ (k = 12 ∨ k = 13) := (by decide +kernel : ∀ k ∈ vk, (ck k = 3 ↔ (k = 12 ∨ k = 13))) k h
theorem ck_cmp {k : Int32} (h : k ∈ vk) : (¬ ck k < 19 ∧ ck k ≤ 23) ↔ (k = 110 ∨ k = 112 ∨ k = 111 ∨ k = 300 ∨ k = 301) := (by decide +kernel : ∀ k ∈ vk, ((¬ ck k < 19 ∧ ck k ≤ 23) ↔ (k = 110 ∨ k = 112 ∨ k = 111 ∨ k = 300 ∨ k = 301))) k h
/-! ===== what is emitted: an operation and the token of its operand ===== -/
abbrev IT : Type := Int32 × Nat
abbrev isNm (op : Int32) : Prop := op = 8 ∨ op = 9 ∨ op = 10 ∨ op = 11
/-- as tcS, of the kinds alone -/
def tcO1 (op : Int32) (ts : List Bool) : Option (List Bool) :=
  if op = 4 ∨ op = 5 ∨ op = 6 ∨ op = 7 ∨ op = 8 ∨ op = 9 then some (false :: ts)
  else if op = 10 ∨ op = 11 then some (true :: ts)
  else if op = 12 ∨ op = 14 then (match ts with | false :: r => some (false :: r) | _ => none)
  else if op = 13 then (match ts with | true :: r => some (true :: r) | _ => none)
  else if op = 15 ∨ op = 16 ∨ op = 17 ∨ op = 18 ∨ op = 26 ∨ op = 27 then (match ts with | false :: false :: r => some (false :: r) | _ => none)
  else if op = 19 ∨ op = 20 ∨ op = 21 ∨ op = 22 ∨ op = 23 then (match ts with | false :: false :: r => some (true :: r) | _ => none)
  else if op = 24 ∨ op = 25 then (match ts with | true :: true :: r => some (true :: r) | _ => none)
  else none
def tcO : List IT → List Bool → Option (List Bool)
  | [], ts => some ts
  | q :: ops, ts => (tcO1 q.1 ts).bind (tcO ops)
theorem tcO_append : ∀ (a b : List IT) (ts : List Bool), tcO (a ++ b) ts = (tcO a ts).bind (tcO b)
  | [], b, ts => rfl
  | q :: a, b, ts => by
    show (tcO1 q.1 ts).bind (tcO (a ++ b)) = ((tcO1 q.1 ts).bind (tcO a)).bind (tcO b)
    cases tcO1 q.1 ts with
    | none => rfl
    | some u => exact tcO_append a b u
def nms (its : List IT) : List Nat := (its.filter (fun q => decide (isNm q.1))).map (·.2)
theorem nms_append (a b : List IT) : nms (a ++ b) = nms a ++ nms b := by simp [nms]
/-- places that go up from p to p' -/
def Inc (p p' : Nat) : List Nat → Prop
  | [] => p ≤ p'
  | x :: l => p ≤ x ∧ Inc (x + 1) p' l
theorem Inc.le : ∀ {l : List Nat} {p p' : Nat}, Inc p p' l → p ≤ p'
  | [], _, _, h => h
  | x :: l, p, p', h => by
    have := Inc.le h.2
    have := h.1
    omega
theorem Inc.low : ∀ {l : List Nat} {p p' q : Nat}, Inc p p' l → q ≤ p → Inc q p' l
  | [], _, _, _, h, hq => Nat.le_trans hq h
  | x :: l, p, p', q, h, hq => ⟨Nat.le_trans hq h.1, h.2⟩
theorem Inc.app : ∀ {a b : List Nat} {p q r : Nat}, Inc p q a → Inc q r b → Inc p r (a ++ b)
  | [], b, p, q, r, h1, h2 => h2.low h1
  | x :: a, b, p, q, r, h1, h2 => ⟨h1.1, Inc.app h1.2 h2⟩
theorem Inc.up : ∀ {l : List Nat} {p p' q : Nat}, Inc p p' l → p' ≤ q → Inc p q l
  | [], _, _, _, h, hq => Nat.le_trans h hq
  | x :: l, p, p', q, h, hq => ⟨h.1, Inc.up h.2 hq⟩
def OKI (κ : Nat → Int32) (q : IT) : Prop := (isNm q.1 → κ q.2 = 40) ∧ (q.1 = 4 → κ q.2 = 41) ∧ (q.1 = 7 → κ q.2 = 12 ∨ κ q.2 = 13)
/-- a stretch of tokens from p to p' that emits its: from a stack of kinds that begins with a to one with b in its place -/
def GI (κ : Nat → Int32) (m p p' : Nat) (a b : List Bool) (its : List IT) : Prop := its.length + p ≤ p' ∧ p' ≤ m ∧ (∀ ts, tcO its (a ++ ts) = some (b ++ ts)) ∧ Inc p p' (nms its) ∧ ∀ q ∈ its, OKI κ q
theorem GI.app {κ : Nat → Int32} {m p q r : Nat} {a b c : List Bool} {i1 i2 : List IT} (h1 : GI κ m p q a b i1) (h2 : GI κ m q r b c i2) : GI κ m p r a c (i1 ++ i2) := by
  obtain ⟨x1, x2, x3, x4, x5⟩ := h1
  obtain ⟨y1, y2, y3, y4, y5⟩ := h2
  refine ⟨by rw [List.length_append]; omega, y2, fun ts => ?_, ?_, fun q hq => ?_⟩
  · rw [tcO_append, x3]
    exact y3 ts
  · rw [nms_append]
    exact x4.app y4
  · rcases List.mem_append.mp hq with h | h
    · exact x5 q h
    · exact y5 q h
/-- below other kinds -/
theorem GI.under {κ : Nat → Int32} {m p q : Nat} {a b : List Bool} {its : List IT} (h : GI κ m p q a b its) (c : List Bool) : GI κ m p q (a ++ c) (b ++ c) its := by
  obtain ⟨x1, x2, x3, x4, x5⟩ := h
  refine ⟨x1, x2, fun ts => ?_, x4, x5⟩
  rw [List.append_assoc, List.append_assoc]
  exact x3 (c ++ ts)
/-- one token is eaten beside what is emitted -/
theorem GI.skip {κ : Nat → Int32} {m p q : Nat} {a b : List Bool} {its : List IT} (h : GI κ m (p + 1) q a b its) : GI κ m p q a b its := by
  obtain ⟨x1, x2, x3, x4, x5⟩ := h
  exact ⟨by omega, x2, x3, x4.low (by omega), x5⟩
theorem GI.behind {κ : Nat → Int32} {m p q : Nat} {a b : List Bool} {its : List IT} (h : GI κ m p q a b its) (hq : q < m) : GI κ m p (q + 1) a b its := by
  obtain ⟨x1, x2, x3, x4, x5⟩ := h
  exact ⟨by omega, by omega, x3, x4.up (by omega), x5⟩
/-- an operation for the token eaten ahead -/
theorem GI.op {κ : Nat → Int32} {m p q : Nat} {a b c : List Bool} {its : List IT} (h : GI κ m (p + 1) q a b its) {op : Int32} (hn : ¬ isNm op) (h4 : op ≠ 4) (h7 : op ≠ 7) (ht : ∀ ts, tcO1 op (b ++ ts) = some (c ++ ts)) : GI κ m p q a c (its ++ [(op, 0)]) := by
  obtain ⟨x1, x2, x3, x4, x5⟩ := h
  refine ⟨by simp; omega, x2, fun ts => ?_, ?_, fun q hq => ?_⟩
  · rw [tcO_append, x3]
    show (tcO1 op (b ++ ts)).bind (tcO []) = _
    rw [ht]
    rfl
  · rw [nms_append]
    have : nms [(op, 0)] = [] := by simp only [nms, List.filter_cons, decide_eq_false hn]; rfl
    rw [this, List.append_nil]
    exact x4.low (by omega)
  · rcases List.mem_append.mp hq with h | h
    · exact x5 q h
    · rw [List.mem_singleton.mp h]
      exact ⟨fun z => absurd z hn, fun z => absurd z h4, fun z => absurd z h7⟩
/-! ===== what the class does with an item; what the reference does ===== -/
def cT (p : Nat) (F : M2) : M2 := up2 F 66 (fun _ => nI p)
def em (F : M2) (op x : Int32) : M2 := up2 (up2 (up2 F 46 (putv (F 46) 400 (F 45 0) op)) 47 (putv (F 47) 400 (F 45 0) x)) 45 (fun _ => F 45 0 + 1)
def tf (F : M2) (e : Int32) (t : Nat) : M2 := if F 67 0 = 0 then up2 (up2 F 67 (fun _ => e)) 68 (fun _ => nI t) else F
/-- the number of a name among those told -/
def idx (g : Nat → Int64) (told : Int32) (cap : Nat) (v : Int64) : Int32 := ffr (fun i => nI i < told ∧ g i = v) cap 0
def opV (val : Nat → Int64) (F : M2) (L : L2) (q : IT) : Int32 := if q.1 = 4 ∨ q.1 = 7 then (val q.2).toInt32 else if q.1 = 8 ∨ q.1 = 11 then idx (L 63) (F 23 0) 6 (val q.2) else if q.1 = 9 ∨ q.1 = 10 then idx (L 64) (F 24 0) 8 (val q.2) else 0
def cE1 (val : Nat → Int64) (L : L2) (F : M2) (q : IT) : M2 := em (if isNm q.1 ∧ opV val F L q = -1 then tf F 3 q.2 else F) q.1 (opV val F L q)
def cE (val : Nat → Int64) (L : L2) (its : List IT) (F : M2) : M2 := its.foldl (cE1 val L) F
def rT (p : Nat) (N : M2) : M2 := up2 N 229 (fun _ => nI p)
def rR1 (N : M2) (q : IT) : M2 := if isNm q.1 then up2 N 227 (upd (N 227) q.2 (if q.1 = 8 ∨ q.1 = 11 then 20 else 21)) else N
def rR (its : List IT) (N : M2) : M2 := its.foldl rR1 N
def pt (P : M2) (x : Int32) : M2 := up2 (up2 P 263 (upd (P 263) (P 264 0).toInt.toNat x)) 264 (fun _ => P 264 0 + 1)
def opn (P : M2) : M2 := up2 (up2 P 265 (upd (P 265) (P 266 0).toInt.toNat (P 264 0))) 266 (fun _ => P 266 0 + 1)
def rE1 (val : Nat → Int64) (P : M2) (q : IT) : M2 := if q.1 = 4 ∨ q.1 = 7 then pt (pt P (encV q.1)) (val q.2).toInt32 else if isNm q.1 then pt (opn (pt P (encV q.1))) (nI q.2) else pt P (encV q.1)
def rE (val : Nat → Int64) (its : List IT) (P : M2) : M2 := its.foldl (rE1 val) P
theorem em_n (F : M2) (op x : Int32) {k : Nat} (h1 : k ≠ 45) (h2 : k ≠ 46) (h3 : k ≠ 47) : em F op x k = F k := by
  unfold em
  rw [up2_n _ _ h1, up2_n _ _ h3, up2_n _ _ h2]
theorem tf_n (F : M2) (e : Int32) (t : Nat) {k : Nat} (h1 : k ≠ 67) (h2 : k ≠ 68) : tf F e t k = F k := by
  unfold tf
  by_cases c : F 67 0 = 0
  · rw [if_pos c, up2_n _ _ h2, up2_n _ _ h1]
  · rw [if_neg c]
theorem cE1_n (val : Nat → Int64) (L : L2) (F : M2) (q : IT) {k : Nat} (h : k ≤ 44 ∨ 68 < k ∨ k = 66) : cE1 val L F q k = F k := by
  unfold cE1
  rw [em_n _ _ _ (by omega) (by omega) (by omega)]
  by_cases c : isNm q.1 ∧ opV val F L q = -1
  · rw [if_pos c, tf_n _ _ _ (by omega) (by omega)]
  · rw [if_neg c]
theorem cE_n (val : Nat → Int64) (L : L2) {k : Nat} (h : k ≤ 44 ∨ 68 < k ∨ k = 66) : ∀ (its : List IT) (F : M2), cE val L its F k = F k
  | [], _ => rfl
  | q :: its, F => by
    show cE val L its (cE1 val L F q) k = F k
    rw [cE_n val L h its, cE1_n val L F q h]
theorem cE_app (val : Nat → Int64) (L : L2) (a b : List IT) (F : M2) : cE val L (a ++ b) F = cE val L b (cE val L a F) := List.foldl_append
theorem rE_app (val : Nat → Int64) (a b : List IT) (P : M2) : rE val (a ++ b) P = rE val b (rE val a P) := List.foldl_append
theorem rR_app (a b : List IT) (N : M2) : rR (a ++ b) N = rR b (rR a N) := List.foldl_append
theorem cT_cT (p q : Nat) (F : M2) : cT p (cT q F) = cT p F := up2_up2
theorem rT_rT (p q : Nat) (F : M2) : rT p (rT q F) = rT p F := up2_up2
theorem cT_em (p : Nat) (F : M2) (op x : Int32) : em (cT p F) op x = cT p (em F op x) := by
  unfold em cT
  rw [up2_n _ _ (by decide : (46 : Nat) ≠ 66), up2_n _ _ (by decide : (47 : Nat) ≠ 66), up2_n _ _ (by decide : (45 : Nat) ≠ 66)]
  rw [up2_swap (by decide : (66 : Nat) ≠ 46), up2_swap (by decide : (66 : Nat) ≠ 47), up2_swap (by decide : (66 : Nat) ≠ 45)]
theorem cT_tf (p : Nat) (F : M2) (e : Int32) (t : Nat) : tf (cT p F) e t = cT p (tf F e t) := by
  have e67 : cT p F 67 = F 67 := up2_n _ _ (by decide)
  unfold tf
  rw [e67]
  by_cases c : F 67 0 = 0
  · rw [if_pos c, if_pos c]
    unfold cT
    rw [up2_swap (by decide : (66 : Nat) ≠ 67), up2_swap (by decide : (66 : Nat) ≠ 68)]
  · rw [if_neg c, if_neg c]
theorem cT_cE1 (val : Nat → Int64) (L : L2) (p : Nat) (F : M2) (q : IT) : cE1 val L (cT p F) q = cT p (cE1 val L F q) := by
  have e23 : cT p F 23 = F 23 := up2_n _ _ (by decide)
  have e24 : cT p F 24 = F 24 := up2_n _ _ (by decide)
  have eo : opV val (cT p F) L q = opV val F L q := by
    unfold opV
    rw [e23, e24]
  unfold cE1
  rw [eo]
  by_cases c : isNm q.1 ∧ opV val F L q = -1
  · rw [if_pos c, if_pos c, cT_tf, cT_em]
  · rw [if_neg c, if_neg c, cT_em]
theorem cT_cE (val : Nat → Int64) (L : L2) (p : Nat) : ∀ (its : List IT) (F : M2), cE val L its (cT p F) = cT p (cE val L its F)
  | [], _ => rfl
  | q :: its, F => by
    show cE val L its (cE1 val L (cT p F) q) = cT p (cE val L its (cE1 val L F q))
    rw [cT_cE1, cT_cE val L p its]
theorem rR1_n (N : M2) (q : IT) {k : Nat} (h : k ≠ 227) : rR1 N q k = N k := by
  unfold rR1
  by_cases c : isNm q.1
  · rw [if_pos c, up2_n _ _ h]
  · rw [if_neg c]
theorem rR_n {k : Nat} (h : k ≠ 227) : ∀ (its : List IT) (N : M2), rR its N k = N k
  | [], _ => rfl
  | q :: its, N => by
    show rR its (rR1 N q) k = N k
    rw [rR_n h its, rR1_n N q h]
theorem up_rR1 {k : Nat} (h : k ≠ 227) (g : Nat → Int32) (N : M2) (q : IT) : rR1 (up2 N k g) q = up2 (rR1 N q) k g := by
  unfold rR1
  by_cases c : isNm q.1
  · rw [if_pos c, if_pos c, up2_n _ _ (fun z => h z.symm), up2_swap h]
  · rw [if_neg c, if_neg c]
theorem up_rR {k : Nat} (h : k ≠ 227) (g : Nat → Int32) : ∀ (its : List IT) (N : M2), rR its (up2 N k g) = up2 (rR its N) k g
  | [], _ => rfl
  | q :: its, N => by
    show rR its (rR1 (up2 N k g) q) = up2 (rR its (rR1 N q)) k g
    rw [up_rR1 h, up_rR h g its]
theorem rT_rR (p : Nat) (its : List IT) (N : M2) : rR its (rT p N) = rT p (rR its N) := up_rR (by decide) _ its N
