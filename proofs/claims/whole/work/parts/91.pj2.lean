/-! ===== the plan told: the reference's code, names made out ===== -/
section FINAL
variable {κ : Nat → Int32} {m : Nat} {val : Nat → Int64} {ρ : Nat → Int32}
/-- meanings put into the code at the places laid by -/
def fxL (me : Nat → Int32) : List Nat → (Nat → Int32) → Nat → Int32
  | [], C => C
  | x :: l, C => fxL me l (upd C x (me (C x).toInt.toNat))
theorem fxL_at {me : Nat → Int32} : ∀ (l : List Nat) (C : Nat → Int32) {p p' : Nat}, Inc p p' l → ∀ i, fxL me l C i = if i ∈ l then me (C i).toInt.toNat else C i
  | [], C, p, p', _, i => by
    rw [if_neg (fun z => nomatch z)]
    rfl
  | x :: l, C, p, p', h, i => by
    show fxL me l (upd C x (me (C x).toInt.toNat)) i = _
    rw [fxL_at l _ h.2 i]
    by_cases e : i = x
    · subst e
      rw [if_neg (fun z => by have := (h.2.mem z).1; omega), if_pos List.mem_cons_self, upd_s]
    · rw [upd_n _ _ e]
      by_cases g : i ∈ l
      · rw [if_pos g, if_pos (List.mem_cons_of_mem _ g)]
      · rw [if_neg g, if_neg (fun z => by
          rcases List.mem_cons.mp z with y | y
          · exact e y
          · exact g y)]
theorem posL_inc : ∀ (its : List IT) (c : Nat), Inc c (c + lenR its) (posL c its)
  | [], c => Nat.le_refl _
  | q :: its, c => by
    have u : posL c (q :: its) = if isNm q.1 then (c + 1) :: posL (c + 2) its else posL (c + (if q.1 = 4 ∨ q.1 = 7 then 2 else 1)) its := rfl
    have hl : lenR (q :: its) = (if q.1 = 4 ∨ q.1 = 7 ∨ isNm q.1 then 2 else 1) + lenR its := rfl
    rw [u, hl]
    by_cases c1 : isNm q.1
    · rw [if_pos c1, if_pos (Or.inr (Or.inr c1))]
      refine ⟨by omega, ?_⟩
      have := posL_inc its (c + 2)
      rw [show c + (2 + lenR its) = c + 2 + lenR its by omega]
      exact this
    · rw [if_neg c1]
      by_cases c2 : q.1 = 4 ∨ q.1 = 7
      · rw [if_pos c2, if_pos (c2.elim Or.inl (fun z => Or.inr (Or.inl z)))]
        have := posL_inc its (c + 2)
        rw [show c + (2 + lenR its) = c + 2 + lenR its by omega]
        exact this.low (by omega)
      · rw [if_neg c2, if_neg (fun z => z.elim (fun y => c2 (Or.inl y)) (fun y => y.elim (fun x => c2 (Or.inr x)) c1))]
        have := posL_inc its (c + 1)
        rw [show c + (1 + lenR its) = c + 1 + lenR its by omega]
        exact this.low (by omega)
def mkO (val : Nat → Int64) (ρ : Nat → Int32) (q : IT) : Int32 × Int32 := (q.1, rsV val ρ q)
theorem enc_len (q : IT) : (enc (mkO val ρ q)).length = lenR [q] := by
  rw [lenR1]
  unfold enc mkO
  dsimp only
  by_cases c : q.1 = 4 ∨ q.1 = 7 ∨ isNm q.1
  · rw [if_pos c, if_pos c]
    rfl
  · rw [if_neg c, if_neg c]
    rfl
theorem flat_len (its : List IT) : (flat (its.map (mkO val ρ))).length = lenR its := by
  induction its with
  | nil => rfl
  | cons q its ih =>
    show (enc (mkO val ρ q) ++ flat (its.map (mkO val ρ))).length = _
    rw [List.length_append, enc_len, ih]
    rfl
theorem SEG.fix {me : Nat → Int32} {C C' : Nat → Int32} : ∀ (its : List IT) (c : Nat), SEG C c (flatP val its) → (∀ q ∈ its, isNm q.1 → me q.2 = rsV val ρ q ∧ q.2 < 1000) → (∀ i, c ≤ i → C' i = if i ∈ posL c its then me (C i).toInt.toNat else C i) → SEG C' c (flat (its.map (mkO val ρ)))
  | [], c, _, _, _ => fun j hj => absurd hj (Nat.not_lt_zero _)
  | q :: its, c, h, hm, hC => by
    have u : posL c (q :: its) = if isNm q.1 then (c + 1) :: posL (c + 2) its else posL (c + (if q.1 = 4 ∨ q.1 = 7 then 2 else 1)) its := rfl
    have hf : flatP val (q :: its) = flatP1 val q ++ flatP val its := rfl
    rw [hf] at h
    obtain ⟨h1, h2⟩ := SEG.app h
    have hml : ∀ x ∈ its, isNm x.1 → me x.2 = rsV val ρ x ∧ x.2 < 1000 := fun x hx hn => hm x (List.mem_cons_of_mem _ hx) hn
    show SEG C' c (enc (mkO val ρ q) ++ flat (its.map (mkO val ρ)))
    have nlow : ∀ d i, i < d → ¬ i ∈ posL d its := fun d i hi z => by have := ((posL_inc its d).mem z).1; omega
    by_cases c2 : q.1 = 4 ∨ q.1 = 7
    · have c1 : ¬ isNm q.1 := by
        rcases c2 with z | z <;> rw [z] <;> decide
      have e1 : flatP1 val q = [encV q.1, (val q.2).toInt32] := if_pos c2
      have e2 : enc (mkO val ρ q) = [encV q.1, (val q.2).toInt32] := by
        unfold enc mkO rsV
        dsimp only
        rw [if_pos (c2.elim Or.inl (fun z => Or.inr (Or.inl z))), if_pos c2]
      rw [u, if_neg c1, if_pos c2] at hC
      rw [e1] at h1 h2
      rw [e2]
      refine SEG.join (fun j hj => ?_) (SEG.fix its _ h2 hml (fun i hi => hC i (by omega)))
      have hj : j < 2 := hj
      rw [hC _ (by omega), if_neg (nlow _ _ (by omega))]
      exact h1 j hj
    by_cases c1 : isNm q.1
    · have e1 : flatP1 val q = [encV q.1, nI q.2] := by
        unfold flatP1
        rw [if_neg c2, if_pos c1]
      have e2 : enc (mkO val ρ q) = [encV q.1, rsV val ρ q] := by
        unfold enc mkO
        dsimp only
        rw [if_pos (Or.inr (Or.inr c1))]
      rw [u, if_pos c1] at hC
      rw [e1] at h1 h2
      rw [e2]
      obtain ⟨m1, m2⟩ := hm q List.mem_cons_self c1
      refine SEG.join (fun j hj => ?_) (SEG.fix its _ h2 hml (fun i hi => ?_))
      · have hj : j < 2 := hj
        have hz : j = 0 ∨ j = 1 := by omega
        rcases hz with e | e
        · subst e
          rw [hC _ (by omega), if_neg (fun z => by
            rcases List.mem_cons.mp z with y | y
            · omega
            · exact nlow _ _ (by omega) y)]
          exact h1 0 (show 0 < 2 by decide)
        · subst e
          rw [hC _ (by omega), if_pos List.mem_cons_self]
          have := h1 1 (show 1 < 2 by decide)
          rw [this]
          show me (nI q.2).toInt.toNat = rsV val ρ q
          rw [tn_nI (by omega)]
          exact m1
      · have hi : c + 2 ≤ i := hi
        rw [hC i (by omega)]
        by_cases g : i ∈ posL (c + 2) its
        · rw [if_pos (List.mem_cons_of_mem _ g)]
          exact (if_pos g).symm
        · rw [if_neg (fun z => by
            rcases List.mem_cons.mp z with y | y
            · omega
            · exact g y)]
          exact (if_neg g).symm
    · have e1 : flatP1 val q = [encV q.1] := by
        unfold flatP1
        rw [if_neg c2, if_neg c1]
      have e2 : enc (mkO val ρ q) = [encV q.1] := by
        unfold enc mkO
        dsimp only
        rw [if_neg (fun z => z.elim (fun y => c2 (Or.inl y)) (fun y => y.elim (fun x => c2 (Or.inr x)) c1))]
      rw [u, if_neg c1, if_neg c2] at hC
      rw [e1] at h1 h2
      rw [e2]
      refine SEG.join (fun j hj => ?_) (SEG.fix its _ h2 hml (fun i hi => hC i (by omega)))
      have hj : j < 1 := hj
      rw [hC _ (by omega), if_neg (nlow _ _ (by omega))]
      exact h1 j hj
/-! the kinds of values -/
theorem tc_tcO {nl nb : Nat} : ∀ (its : List IT) (ts : List Bool), (∀ q ∈ its, (q.1 = 8 ∨ q.1 = 11 → inb (rsV val ρ q) nl) ∧ (q.1 = 9 ∨ q.1 = 10 → inb (rsV val ρ q) nb)) → tc nl nb (its.map (mkO val ρ)) ts = tcO its ts
  | [], ts, _ => rfl
  | q :: its, ts, h => by
    have e : tcS nl nb (mkO val ρ q) ts = tcO1 q.1 ts := by
      obtain ⟨h1, h2⟩ := h q List.mem_cons_self
      unfold tcS tcO1 mkO
      dsimp only
      by_cases c8 : q.1 = 8
      · rw [if_neg (by rw [c8]; decide), if_pos c8, if_pos (h1 (Or.inl c8)), if_pos (by rw [c8]; decide)]
      by_cases c9 : q.1 = 9
      · rw [if_neg (by rw [c9]; decide), if_neg c8, if_pos c9, if_pos (h2 (Or.inl c9)), if_pos (by rw [c9]; decide)]
      by_cases c10 : q.1 = 10
      · rw [if_neg (by rw [c10]; decide), if_neg c8, if_neg c9, if_pos c10, if_pos (h2 (Or.inr c10)), if_neg (by rw [c10]; decide), if_pos (by rw [c10]; decide)]
      by_cases c11 : q.1 = 11
      · rw [if_neg (by rw [c11]; decide), if_neg c8, if_neg c9, if_neg c10, if_pos c11, if_pos (h1 (Or.inr c11)), if_neg (by rw [c11]; decide), if_pos (by rw [c11]; decide)]
      rw [if_neg c8, if_neg c9, if_neg c10, if_neg c11]
      by_cases c4 : q.1 = 4 ∨ q.1 = 5 ∨ q.1 = 6 ∨ q.1 = 7
      · rw [if_pos c4, if_pos (c4.elim Or.inl (fun z => Or.inr (z.elim Or.inl (fun z => Or.inr (z.elim Or.inl (fun z => Or.inr (Or.inl z)))))))]
      · have n2 : ¬ (q.1 = 4 ∨ q.1 = 5 ∨ q.1 = 6 ∨ q.1 = 7 ∨ q.1 = 8 ∨ q.1 = 9) := fun z => z.elim (fun y => c4 (Or.inl y)) (fun z => z.elim (fun y => c4 (Or.inr (Or.inl y))) (fun z => z.elim (fun y => c4 (Or.inr (Or.inr (Or.inl y)))) (fun z => z.elim (fun y => c4 (Or.inr (Or.inr (Or.inr y)))) (fun z => z.elim c8 c9))))
        have n3 : ¬ (q.1 = 10 ∨ q.1 = 11) := fun z => z.elim c10 c11
        rw [if_neg c4, if_neg n2, if_neg n3]
        rcases ts with _ | ⟨_ | _, _ | ⟨_ | _, _⟩⟩ <;> rfl
    show (tcS nl nb (mkO val ρ q) ts).bind (tc nl nb (its.map (mkO val ρ))) = (tcO1 q.1 ts).bind (tcO its)
    rw [e]
    cases tcO1 q.1 ts with
    | none => rfl
    | some u => exact tc_tcO its u (fun x hx => h x (List.mem_cons_of_mem _ hx))
/-- the plans of both sides, all of them -/
def PRX (P Q : M2) (kb np nl nb ns no : Nat) : Prop := PR P Q np nl nb ns no ∧ (P 20 0 = nI kb ∧ Q 240 0 = nI kb ∧ kb ≤ 5) ∧ D1 kb np (P 25) (P 26) (P 27) (Q 242) (Q 243) (Q 244) ∧ D2 kb np (P 28) (Q 245) ∧ (∀ b, b < nb → P 34 b = Q 254 b ∧ (Q 254 b = 0 ∨ Q 254 b = 1) ∧ P 35 b = Q 255 b) ∧ ∃ T, PT P Q T nl nb no
theorem fin_plan {F : M2} {L : L2} {V P W Q : M2} {q np no : Nat} {its : List IT} {me : Nat → Int32} (hm : q ≤ 400) (hX : PXN val ρ q np F L V) (hO : ORX val ρ F V P its no) (hC : COD val P its) (hI : ITS κ ρ q its) (hW : PFR V W) (h261 : W 261 = P 261) (h262 : W 262 = P 262) (hQ : ∀ k, k ≠ 263 → Q k = W k) (h263 : Q 263 = fxL me (posL 0 its) (P 263)) (hme : ∀ x ∈ its, isNm x.1 → me x.2 = rsV val ρ x) : PRX F Q (cnt ρ 1 q) np (cnt ρ 3 q) (cnt ρ 4 q) (cnt ρ 2 q) no := by
  have QV : ∀ k, (k < 258 ∨ k = 259 ∨ k = 260 ∨ 266 < k) → Q k = V k := fun k hk => (hQ k (by omega)).trans (hW k hk)
  obtain ⟨x1, x2, x3, x4, ⟨z1, z2, z3⟩, x6, x7, x8, x9, x10⟩ := hX
  obtain ⟨o1, o2, o3, o4, o5, o6, o7⟩ := hO
  obtain ⟨c1, c2, c3, c4⟩ := hC
  have q261 : Q 261 = P 261 := (hQ 261 (by decide)).trans h261
  have q262 : Q 262 = P 262 := (hQ 262 (by decide)).trans h262
  have e : ∀ k, k < 258 → Q k = V k := fun k hk => QV k (Or.inl hk)
  refine ⟨⟨⟨⟨z1, by rw [e 241 (by decide)]; exact z2, by have := x1.2.2.1; omega⟩, ⟨x3.1, by rw [e 249 (by decide)]; exact x3.2.1, x3.2.2.1⟩, ⟨x4.1, by rw [e 252 (by decide)]; exact x4.2.1, x4.2.2.1⟩, ⟨x2.1, by rw [e 246 (by decide)]; exact x2.2.1, x2.2.2.1⟩, ⟨o1, by rw [e 257 (by decide)]; exact o2, o3⟩⟩, ?_, ?_, ?_, ?_⟩, ⟨x1.1, by rw [e 240 (by decide)]; exact x1.2.1, x1.2.2.1⟩, ?_, ?_, ?_, ?_⟩
  · intro p hp
    obtain ⟨k, g1, g2, g3⟩ := x7 p hp
    obtain ⟨x, f, _, _, _, _, _, _, _, y⟩ := x6 k g1
    refine ⟨k, by have := x1.2.2.1; omega, g2, ?_, ?_⟩
    · rw [e 245 (by decide)]; exact g3
    · rw [e 243 (by decide)]; exact y
  · unfold PS
    rw [e 247 (by decide), e 248 (by decide)]
    exact x8
  · unfold PL
    rw [e 250 (by decide), e 251 (by decide)]
    exact x9
  · intro b hb
    obtain ⟨k0, k1, w, g1, g2, g3, g4, g5, g6, g7, g8, g9, g10, g11, _⟩ := x10 b hb
    have eb : Q (310 + b) = V (310 + b) := QV _ (by omega)
    have g7 : V (310 + b) 0 = nI k0 := g7
    have g9 : V (310 + b) 1 = nI k1 := g9
    have hb3 := x3.2.2.1
    have r0 : kr0 Q b = k0 := by
      unfold kr0
      rw [eb, g7, tn_nI (by omega)]
    have r1 : kr1 Q b = k1 := by
      unfold kr1
      rw [eb, g9, tn_nI (by omega)]
    rw [r0, r1, eb, e 253 (by decide)]
    exact ⟨g1, g2, g3, g6, g7, g8, g9, w, g4, g5, g10, g11⟩
  · rw [e 242 (by decide), e 243 (by decide), e 244 (by decide)]
    exact x6
  · rw [e 245 (by decide)]
    exact x7
  · intro b hb
    obtain ⟨k0, k1, w, g1, g2, g3, g4, g5, g6, g7, g8, g9, g10, g11, g12, g13, g14⟩ := x10 b hb
    rw [e 254 (by decide), e 255 (by decide)]
    exact ⟨g12, g13, g14⟩
  · refine ⟨fun o => ((its.map (mkO val ρ)).drop (F 43 o).toInt.toNat).take ((F 44 o).toInt.toNat - (F 43 o).toInt.toNat), fun o ho => ?_⟩
    obtain ⟨y1, y2, a, b, c, y3, y4, y5, y6, y7, y8⟩ := o7 o ho
    have hlen : a.length + b.length + c.length ≤ 400 := by
      have := o4
      rw [y3, List.length_append, List.length_append] at this
      omega
    have hR : lenR its = lenR a + (lenR b + lenR c) := by rw [y3, lenR_append, lenR_append]
    have hR2 := lenR_le its
    have hT : ((its.map (mkO val ρ)).drop (F 43 o).toInt.toNat).take ((F 44 o).toInt.toNat - (F 43 o).toInt.toNat) = b.map (mkO val ρ) := by
      rw [y4, y5, tn_nI (by omega), tn_nI (by omega), y3, List.map_append, List.map_append]
      have h1 : (a.map (mkO val ρ)).length = a.length := List.length_map _
      rw [List.drop_append_of_le_length (by rw [h1]; exact Nat.le_refl _), ← h1, List.drop_length, List.nil_append, h1]
      have h2 : (b.map (mkO val ρ)).length = b.length := List.length_map _
      rw [show a.length + b.length - a.length = b.length by omega, List.take_append_of_le_length (by rw [h2]; exact Nat.le_refl _), ← h2, List.take_length]
    dsimp only
    rw [hT, flat_len]
    have hbl : (b.map (mkO val ρ)).length = b.length := List.length_map _
    have h400 : its.length ≤ 400 := o4
    have hfix : SEG (Q 263) 0 (flat (its.map (mkO val ρ))) := by
      refine SEG.fix (me := me) its 0 c2 (fun x hx hn => ⟨hme x hx hn, by have := (hI.2.2 x hx hn).2; omega⟩) (fun i _ => ?_)
      rw [h263]
      exact fxL_at (posL 0 its) (P 263) (posL_inc its 0) i
    have hsp : flat (its.map (mkO val ρ)) = flat (a.map (mkO val ρ)) ++ (flat (b.map (mkO val ρ)) ++ flat (c.map (mkO val ρ))) := by
      rw [y3, List.map_append, List.map_append]
      unfold flat
      rw [List.flatMap_append, List.flatMap_append]
    rw [hsp] at hfix
    have h3 := (SEG.app (SEG.app hfix).2).1
    rw [flat_len, Nat.zero_add] at h3
    refine ⟨by rw [QV 259 (by decide)]; exact y1, by rw [QV 260 (by decide)]; exact y2, a.length, lenR a, y4, by rw [hbl]; exact y5, by omega, by rw [q261]; exact y6, by rw [q262]; exact y7, by omega, fun j hj => ?_, h3, ?_⟩
    · have hj2 : j < b.length := by rw [List.length_map] at hj; exact hj
      have hj3 : a.length + j < its.length := by
        rw [y3, List.length_append, List.length_append]
        omega
      obtain ⟨w1, w2⟩ := o5 (a.length + j) hj3
      have hg : its[a.length + j] = b[j] := by
        have : ∀ (l : List IT) (h : a.length + j < l.length), l = a ++ (b ++ c) → l[a.length + j] = b[j] := fun l h e => by
          subst e
          rw [List.getElem_append_right (by omega), List.getElem_append_left (by omega)]
          congr 1
          omega
        exact this its hj3 y3
      rw [w1, w2, hg, List.getElem_map]
      exact ⟨rfl, rfl⟩
    · rw [tc_tcO b []]
      · exact y8
      · intro x hx
        have hx2 : x ∈ its := by
          rw [y3]
          exact List.mem_append.mpr (Or.inr (List.mem_append.mpr (Or.inl hx)))
        have hb3 := x3.2.2.1
        have hb4 := x4.2.2.1
        refine ⟨fun h => ?_, fun h => ?_⟩
        · have hn : isNm x.1 := h.elim Or.inl (fun z => Or.inr (Or.inr (Or.inr z)))
          have n4 : ¬ (x.1 = 4 ∨ x.1 = 7) := by
            rcases h with z | z <;> rw [z] <;> decide
          have er : rsV val ρ x = tld val ρ 3 x.2 x.2 := by
            unfold rsV
            rw [if_neg n4, if_pos h]
          have h9 := o6 x hx2 hn
          rcases tld_rng (val := val) (ρ := ρ) (as := 3) (t := x.2) (b := x.2) with g | ⟨j, g1, g2⟩
          · exact absurd (er.trans g) h9
          · rw [er, g2]
            have := cnt_le (ρ := ρ) (as := 3) (show x.2 ≤ q by have := (hI.2.2 x hx2 hn).2; omega)
            exact inb_nI (by omega) (by omega)
        · have hn : isNm x.1 := h.elim (fun z => Or.inr (Or.inl z)) (fun z => Or.inr (Or.inr (Or.inl z)))
          have n4 : ¬ (x.1 = 4 ∨ x.1 = 7) := by
            rcases h with z | z <;> rw [z] <;> decide
          have n8 : ¬ (x.1 = 8 ∨ x.1 = 11) := by
            rcases h with z | z <;> rw [z] <;> decide
          have er : rsV val ρ x = tld val ρ 4 x.2 x.2 := by
            unfold rsV
            rw [if_neg n4, if_neg n8, if_pos h]
          have h9 := o6 x hx2 hn
          rcases tld_rng (val := val) (ρ := ρ) (as := 4) (t := x.2) (b := x.2) with g | ⟨j, g1, g2⟩
          · exact absurd (er.trans g) h9
          · rw [er, g2]
            have := cnt_le (ρ := ρ) (as := 4) (show x.2 ≤ q by have := (hI.2.2 x hx2 hn).2; omega)
            exact inb_nI (by omega) (by omega)
end FINAL
