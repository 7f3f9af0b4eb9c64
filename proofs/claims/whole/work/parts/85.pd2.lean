/-! ===== items: what both passes make of them ===== -/
section ITEMS
variable {κ : Nat → Int32} {m : Nat} {val : Nat → Int64} {N0 : M2} {V0 : M2} {ρ : Nat → Int32}
theorem nms_cons_y {q : IT} {its : List IT} (h : isNm q.1) : nms (q :: its) = q.2 :: nms its := by
  unfold nms
  rw [List.filter_cons, if_pos (decide_eq_true h)]
  rfl
theorem nms_cons_n {q : IT} {its : List IT} (h : ¬ isNm q.1) : nms (q :: its) = nms its := by
  unfold nms
  rw [List.filter_cons, if_neg (by rw [decide_eq_false h]; decide)]
theorem Inc.mem : ∀ {l : List Nat} {p p' x : Nat}, Inc p p' l → x ∈ l → p ≤ x ∧ x < p'
  | [], _, _, _, _, hx => nomatch hx
  | y :: l, p, p', x, h, hx => by
    rcases List.mem_cons.mp hx with e | e
    · subst e
      exact ⟨h.1, h.2.le⟩
    · have := Inc.mem h.2 e
      have := h.1
      exact ⟨by omega, by omega⟩
theorem mem_nms {q : IT} {its : List IT} (h : q ∈ its) (hn : isNm q.1) : q.2 ∈ nms its := by
  unfold nms
  exact List.mem_map.mpr ⟨q, List.mem_filter.mpr ⟨h, decide_eq_true hn⟩, rfl⟩
/-! the roles -/
theorem rR_o {i : Nat} : ∀ (its : List IT) (N : M2), ¬ i ∈ nms its → rR its N 227 i = N 227 i
  | [], _, _ => rfl
  | q :: its, N, h => by
    show rR its (rR1 N q) 227 i = _
    unfold rR1
    by_cases c : isNm q.1
    · rw [nms_cons_y c] at h
      have h1 : i ≠ q.2 := fun z => h (by rw [z]; exact List.mem_cons_self)
      have h2 : ¬ i ∈ nms its := fun z => h (List.mem_cons_of_mem _ z)
      rw [if_pos c, rR_o its _ h2, up2_s, upd_n _ _ h1]
    · rw [nms_cons_n c] at h
      rw [if_neg c, rR_o its _ h]
theorem rR_m : ∀ (its : List IT) (N : M2) {a b : Nat}, Inc a b (nms its) → ∀ q ∈ its, isNm q.1 → rR its N 227 q.2 = roleN q.1
  | [], _, _, _, _, q, hq, _ => nomatch hq
  | x :: its, N, a, b, h, q, hq, hn => by
    show rR its (rR1 N x) 227 q.2 = _
    rcases List.mem_cons.mp hq with e | e
    · subst e
      rw [nms_cons_y hn] at h
      have : ¬ q.2 ∈ nms its := fun z => by have := (h.2.mem z).1; omega
      rw [rR_o its _ this]
      unfold rR1 roleN
      rw [if_pos hn, up2_s, upd_s]
    · by_cases c : isNm x.1
      · rw [nms_cons_y c] at h
        exact rR_m its _ h.2 q e hn
      · rw [nms_cons_n c] at h
        exact rR_m its _ h q e hn
/-! the code -/
theorem lenR_append : ∀ (a b : List IT), lenR (a ++ b) = lenR a + lenR b
  | [], b => (Nat.zero_add _).symm
  | q :: a, b => by
    show (if q.1 = 4 ∨ q.1 = 7 ∨ isNm q.1 then 2 else 1) + lenR (a ++ b) = (if q.1 = 4 ∨ q.1 = 7 ∨ isNm q.1 then 2 else 1) + lenR a + lenR b
    rw [lenR_append a b, Nat.add_assoc]
theorem flatP_append (a b : List IT) : flatP val (a ++ b) = flatP val a ++ flatP val b := by
  unfold flatP
  rw [List.flatMap_append]
theorem lenR1 (q : IT) : lenR [q] = (if q.1 = 4 ∨ q.1 = 7 ∨ isNm q.1 then 2 else 1) := rfl
theorem flatP1_len (q : IT) : (flatP1 val q).length = lenR [q] := by
  rw [lenR1]
  unfold flatP1
  by_cases c1 : q.1 = 4 ∨ q.1 = 7
  · rw [if_pos c1, if_pos (c1.elim Or.inl (fun z => Or.inr (Or.inl z)))]
    rfl
  · rw [if_neg c1]
    by_cases c2 : isNm q.1
    · rw [if_pos c2, if_pos (Or.inr (Or.inr c2))]
      rfl
    · rw [if_neg c2, if_neg (fun z => z.elim (fun y => c1 (Or.inl y)) (fun y => y.elim (fun x => c1 (Or.inr x)) c2))]
      rfl
theorem flatP_len (its : List IT) : (flatP val its).length = lenR its := by
  induction its with
  | nil => rfl
  | cons q its ih =>
    show (flatP1 val q ++ flatP val its).length = _
    rw [List.length_append, flatP1_len, ih]
    rfl
theorem posL_append : ∀ (a b : List IT) (c : Nat), posL c (a ++ b) = posL c a ++ posL (c + lenR a) b
  | [], b, c => rfl
  | q :: a, b, c => by
    rw [List.cons_append]
    have u : ∀ (x : IT) (l : List IT) (d : Nat), posL d (x :: l) = if isNm x.1 then (d + 1) :: posL (d + 2) l else posL (d + (if x.1 = 4 ∨ x.1 = 7 then 2 else 1)) l := fun _ _ _ => rfl
    rw [u, u]
    by_cases h : isNm q.1
    · rw [if_pos h, if_pos h, posL_append a b, List.cons_append]
      have : c + lenR (q :: a) = c + 2 + lenR a := by
        show c + ((if q.1 = 4 ∨ q.1 = 7 ∨ isNm q.1 then 2 else 1) + lenR a) = _
        rw [if_pos (Or.inr (Or.inr h))]
        omega
      rw [this]
    · rw [if_neg h, if_neg h, posL_append a b]
      have : c + lenR (q :: a) = c + (if q.1 = 4 ∨ q.1 = 7 then 2 else 1) + lenR a := by
        show c + ((if q.1 = 4 ∨ q.1 = 7 ∨ isNm q.1 then 2 else 1) + lenR a) = _
        have e : (q.1 = 4 ∨ q.1 = 7 ∨ isNm q.1) ↔ (q.1 = 4 ∨ q.1 = 7) := ⟨fun z => z.elim Or.inl (fun y => y.elim Or.inr (fun x => absurd x h)), fun z => z.elim Or.inl (fun y => Or.inr (Or.inl y))⟩
        by_cases e1 : q.1 = 4 ∨ q.1 = 7
        · rw [if_pos e1, if_pos (e.mpr e1)]
          omega
        · rw [if_neg e1, if_neg (fun z => e1 (e.mp z))]
          omega
      rw [this]
theorem posL_len : ∀ (its : List IT) (c : Nat), (posL c its).length = (nms its).length
  | [], _ => rfl
  | q :: its, c => by
    unfold posL
    by_cases h : isNm q.1
    · rw [if_pos h, nms_cons_y h, List.length_cons, List.length_cons, posL_len its]
    · rw [if_neg h, nms_cons_n h, posL_len its]
theorem SEG.join {g : Nat → Int32} {c : Nat} {a b : List Int32} (ha : SEG g c a) (hb : SEG g (c + a.length) b) : SEG g c (a ++ b) := fun j hj => by
  rw [List.length_append] at hj
  rcases Nat.lt_or_ge j a.length with h | h
  · rw [ha j h, List.getElem_append_left h]
  · rw [List.getElem_append_right h]
    have := hb (j - a.length) (by omega)
    rw [show c + a.length + (j - a.length) = c + j by omega] at this
    exact this
theorem SEG.upd {g : Nat → Int32} {c : Nat} {a : List Int32} (ha : SEG g 0 a) (hc : a.length ≤ c) (x : Int32) : SEG (upd g c x) 0 a := fun j hj => by
  rw [upd_n _ _ (by omega)]
  exact ha j hj
theorem pt_263 {P : M2} {c : Nat} (h : P 264 0 = nI c) (hc : c < 1000) (x : Int32) : pt P x 263 = upd (P 263) c x := by
  unfold pt
  rw [up2_n _ _ (by decide), up2_s, h, tn_nI (by omega)]
theorem SEG.put {P : M2} {a : List Int32} (h : P 264 0 = nI a.length) (hs : SEG (P 263) 0 a) (hc : a.length < 1000) (x : Int32) : pt P x 264 0 = nI (a ++ [x]).length ∧ SEG (pt P x 263) 0 (a ++ [x]) := by
  refine ⟨by rw [pt_264, h, nI_1]; simp, ?_⟩
  rw [pt_263 h hc]
  refine (hs.upd (Nat.le_refl _) x).join (fun j hj => ?_)
  have : j = 0 := by simpa using hj
  subst this
  rw [show 0 + a.length + 0 = a.length by omega, upd_s]
  rfl
theorem COD.one {P : M2} {its : List IT} (h : COD val P its) (q : IT) (hl : lenR its < 900) : COD val (rE1 val P q) (its ++ [q]) := by
  obtain ⟨h1, h2, h3, h4⟩ := h
  have hll := flatP_len (val := val) its
  have h1' : P 264 0 = nI (flatP val its).length := by rw [hll]; exact h1
  have hpl := posL_len its 0
  have hn := nms_le its
  have hle : ∀ its : List IT, its.length ≤ lenR its := fun its => by
    induction its with
    | nil => exact Nat.le_refl _
    | cons x l ih =>
      show l.length + 1 ≤ (if x.1 = 4 ∨ x.1 = 7 ∨ isNm x.1 then 2 else 1) + lenR l
      split <;> omega
  have hle := hle its
  have hf : flatP val (its ++ [q]) = flatP val its ++ flatP1 val q := by
    rw [flatP_append]
    have : flatP val [q] = flatP1 val q := by
      unfold flatP
      simp
    rw [this]
  have hE : ∀ P' : M2, P' 264 0 = nI (flatP val (its ++ [q])).length ∧ SEG (P' 263) 0 (flatP val (its ++ [q])) → (P' 266 0 = nI (nms (its ++ [q])).length) → (∀ j (hj : j < (posL 0 (its ++ [q])).length), P' 265 j = nI ((posL 0 (its ++ [q]))[j])) → COD val P' (its ++ [q]) := fun P' a b c => ⟨by rw [← flatP_len (val := val)]; exact a.1, a.2, b, c⟩
  unfold rE1
  by_cases c1 : q.1 = 4 ∨ q.1 = 7
  · have c2 : ¬ isNm q.1 := by
      rcases c1 with z | z <;> rw [z] <;> decide
    have e1 : flatP1 val q = [encV q.1] ++ [(val q.2).toInt32] := if_pos c1
    have hns : nms (its ++ [q]) = nms its := by rw [nms_append, nms_cons_n c2]; simp [nms]
    have hps : posL 0 (its ++ [q]) = posL 0 its := by rw [posL_append]; unfold posL; rw [if_neg c2]; simp [posL]
    rw [if_pos c1]
    obtain ⟨a1, a2⟩ := SEG.put h1' h2 (by omega) (encV q.1)
    obtain ⟨b1, b2⟩ := SEG.put a1 a2 (by simp; omega) (val q.2).toInt32
    refine hE _ (by rw [hf, e1, ← List.append_assoc]; exact ⟨b1, b2⟩) ?_ (fun j hj => ?_)
    · rw [pt_n _ (by decide) (by decide), pt_n _ (by decide) (by decide), hns]; exact h3
    · rw [pt_n _ (by decide) (by decide), pt_n _ (by decide) (by decide)]
      simp only [hps] at hj ⊢
      exact h4 j hj
  · rw [if_neg c1]
    by_cases c2 : isNm q.1
    · have e1 : flatP1 val q = [encV q.1] ++ [nI q.2] := by
        unfold flatP1
        rw [if_neg c1, if_pos c2]
        rfl
      have hns : nms (its ++ [q]) = nms its ++ [q.2] := by rw [nms_append, nms_cons_y c2]; simp [nms]
      have hps : posL 0 (its ++ [q]) = posL 0 its ++ [lenR its + 1] := by rw [posL_append]; unfold posL; rw [if_pos c2]; simp [posL]
      rw [if_pos c2]
      obtain ⟨a1, a2⟩ := SEG.put h1' h2 (by omega) (encV q.1)
      have a1' : opn (pt P (encV q.1)) 264 0 = nI (flatP val its ++ [encV q.1]).length := by rw [opn_n (by decide) (by decide)]; exact a1
      have a2' : SEG (opn (pt P (encV q.1)) 263) 0 (flatP val its ++ [encV q.1]) := by rw [opn_n (by decide) (by decide)]; exact a2
      obtain ⟨b1, b2⟩ := SEG.put a1' a2' (by simp; omega) (nI q.2)
      refine hE _ (by rw [hf, e1, ← List.append_assoc]; exact ⟨b1, b2⟩) ?_ (fun j hj => ?_)
      · rw [pt_n _ (by decide) (by decide), opn_266, pt_n _ (by decide) (by decide), h3, nI_1, hns]; simp
      · rw [pt_n _ (by decide) (by decide)]
        have e265 : opn (pt P (encV q.1)) 265 = upd (P 265) (nms its).length (nI (lenR its + 1)) := by
          unfold opn
          rw [up2_n _ _ (by decide), up2_s, pt_n _ (by decide) (by decide), pt_n _ (by decide) (by decide), h3, tn_nI (by omega), pt_264, h1, nI_1]
        rw [e265]
        simp only [hps] at hj ⊢
        rw [List.length_append] at hj
        rcases Nat.lt_or_ge j (posL 0 its).length with g | g
        · rw [List.getElem_append_left g, upd_n _ _ (by omega)]
          exact h4 j g
        · rw [List.getElem_append_right g]
          have ej : j = (nms its).length := by simp at hj; omega
          subst ej
          rw [upd_s]
          simp
    · have e1 : flatP1 val q = [encV q.1] := by
        unfold flatP1
        rw [if_neg c1, if_neg c2]
      have hns : nms (its ++ [q]) = nms its := by rw [nms_append, nms_cons_n c2]; simp [nms]
      have hps : posL 0 (its ++ [q]) = posL 0 its := by rw [posL_append]; unfold posL; rw [if_neg c2]; simp [posL]
      rw [if_neg c2]
      obtain ⟨a1, a2⟩ := SEG.put h1' h2 (by omega) (encV q.1)
      refine hE _ (by rw [hf, e1]; exact ⟨a1, a2⟩) ?_ (fun j hj => ?_)
      · rw [pt_n _ (by decide) (by decide), hns]; exact h3
      · rw [pt_n _ (by decide) (by decide)]
        simp only [hps] at hj ⊢
        exact h4 j hj
theorem COD.app {b : List IT} : ∀ {P : M2} {its : List IT}, COD val P its → lenR its + lenR b < 900 → COD val (rE val b P) (its ++ b) := by
  induction b with
  | nil => intro P its h _; rw [List.append_nil]; exact h
  | cons q b ih =>
    intro P its h hl
    have e : lenR (q :: b) = lenR [q] + lenR b := lenR_append [q] b
    have := ih (h.one q (by omega)) (by rw [lenR_append]; omega)
    rw [List.append_assoc] at this
    exact this
/-! the class's rows of items -/
theorem cE_46 {L : L2} : ∀ (its : List IT) (F : M2) (c : Nat), F 45 0 = nI c → c + its.length ≤ 400 → cE val L its F 45 0 = nI (c + its.length) ∧ (∀ j (hj : j < its.length), cE val L its F 46 (c + j) = (its[j]).1 ∧ cE val L its F 47 (c + j) = opV val F L its[j]) ∧ ∀ j, j < c → cE val L its F 46 j = F 46 j ∧ cE val L its F 47 j = F 47 j
  | [], F, c, h, _ => ⟨h, fun j hj => absurd hj (Nat.not_lt_zero _), fun _ _ => ⟨rfl, rfl⟩⟩
  | q :: its, F, c, h, hl => by
    rw [List.length_cons] at hl
    have o1 : ∀ x, opV val (cE1 val L F q) L x = opV val F L x := fun x => by
      unfold opV
      rw [cE1_n _ _ _ _ (Or.inl (by decide)), cE1_n _ _ _ _ (Or.inl (by decide))]
    have t1 : ∀ k, k ≠ 67 → k ≠ 68 → (if isNm q.1 ∧ opV val F L q = -1 then tf F 3 q.2 else F) k = F k := fun k h1 h2 => by
      split
      · exact tf_n _ _ _ h1 h2
      · rfl
    have e45 : cE1 val L F q 45 0 = nI (c + 1) := by
      unfold cE1 em
      rw [up2_s, t1 45 (by decide) (by decide), h, nI_1]
    have e46 : cE1 val L F q 46 = upd (F 46) c q.1 := by
      unfold cE1 em
      rw [up2_n _ _ (by decide), up2_n _ _ (by decide), up2_s, t1 45 (by decide) (by decide), t1 46 (by decide) (by decide), h, putv_nI (by omega) (by decide)]
    have e47 : cE1 val L F q 47 = upd (F 47) c (opV val F L q) := by
      unfold cE1 em
      rw [up2_n _ _ (by decide), up2_s, t1 45 (by decide) (by decide), t1 47 (by decide) (by decide), h, putv_nI (by omega) (by decide)]
    have a46 : ∀ i, upd (F 46) c q.1 i = if i = c then q.1 else F 46 i := fun i => rfl
    have a47 : ∀ i, upd (F 47) c (opV val F L q) i = if i = c then opV val F L q else F 47 i := fun _ => rfl
    obtain ⟨h1, h2, h3⟩ := cE_46 its (cE1 val L F q) (c + 1) e45 (by omega)
    refine ⟨?_, fun j hj => ?_, fun j hj => ?_⟩
    · show cE val L its (cE1 val L F q) 45 0 = _
      rw [h1, List.length_cons]
      congr 1
      omega
    · show cE val L its (cE1 val L F q) 46 (c + j) = _ ∧ cE val L its (cE1 val L F q) 47 (c + j) = _
      cases j with
      | zero =>
        obtain ⟨g1, g2⟩ := h3 (c + 0) (by omega)
        rw [g1, g2, e46, e47, a46, a47, if_pos (Nat.add_zero c), if_pos (Nat.add_zero c)]
        exact ⟨rfl, rfl⟩
      | succ j =>
        rw [List.length_cons] at hj
        obtain ⟨g1, g2⟩ := h2 j (by omega)
        rw [show c + 1 + j = c + (j + 1) by omega] at g1 g2
        rw [g1, g2, o1]
        exact ⟨rfl, rfl⟩
    · show cE val L its (cE1 val L F q) 46 j = _ ∧ cE val L its (cE1 val L F q) 47 j = _
      obtain ⟨g1, g2⟩ := h3 j (by omega)
      rw [g1, g2, e46, e47, a46, a47, if_neg (by omega), if_neg (by omega)]
      exact ⟨rfl, rfl⟩
/-! the errors of names within items -/
theorem cE1_67 {L : L2} {F : M2} {q : IT} {k : Nat} (hk : k = 67 ∨ k = 68) : cE1 val L F q k = (if isNm q.1 ∧ opV val F L q = -1 then tf F 3 q.2 else F) k := by
  unfold cE1
  exact em_n _ _ _ (by omega) (by omega) (by omega)
theorem CER.it {L : L2} {F : M2} {e : Int32} {k : Nat} (h : CER F e k) (q : IT) : CER (cE1 val L F q) e k := by
  unfold CER
  rw [cE1_67 (Or.inl rfl), cE1_67 (Or.inr rfl), tf_off h, ite_self]
  exact h
theorem CER.its {L : L2} {e : Int32} {k : Nat} : ∀ (its : List IT) {F : M2}, CER F e k → CER (cE val L its F) e k
  | [], _, h => h
  | q :: its, _, h => CER.its its (h.it q)
theorem it_sem {L : L2} {nl nb : Int32} {a0 p1 : Nat} (hl : ∀ t, a0 ≤ t → t < p1 → idx (L 63) nl 6 (val t) = tld val ρ 3 t t) (hb : ∀ t, a0 ≤ t → t < p1 → idx (L 64) nb 8 (val t) = tld val ρ 4 t t) : ∀ (its : List IT) (a : Nat) (F V : M2), a0 ≤ a → Inc a p1 (nms its) → (∀ i, a ≤ i → i < p1 → ¬ i ∈ nms its → ρ i = 0) → (∀ q ∈ its, isNm q.1 → ρ q.2 = roleN q.1) → F 23 0 = nl → F 24 0 = nb → F 67 0 = 0 → SOK κ val V0 ρ a V →
    (∃ e k, k < p1 ∧ SER κ val V0 ρ p1 e k ∧ CER (cE val L its F) e k) ∨ (SOK κ val V0 ρ p1 V ∧ cE val L its F 67 0 = 0 ∧ (∀ q ∈ its, isNm q.1 → ¬ rsV val ρ q = -1) ∧ ∀ q ∈ its, opV val F L q = rsV val ρ q)
  | [], a, F, V, ha, hI, h0, hr, e1, e2, hF, hS => by
    refine Or.inr ⟨?_, hF, fun q hq => (nomatch hq), fun q hq => (nomatch hq)⟩
    have hI : a ≤ p1 := hI
    have := hS.steps (p1 - a) (fun i h1 h2 => h0 i h1 (by omega) (fun z => nomatch z))
    rw [show a + (p1 - a) = p1 by omega] at this
    exact this
  | q :: its, a, F, V, ha, hI, h0, hr, e1, e2, hF, hS => by
    have o1 : ∀ x, opV val (cE1 val L F q) L x = opV val F L x := fun x => by
      unfold opV
      rw [cE1_n _ _ _ _ (Or.inl (by decide)), cE1_n _ _ _ _ (Or.inl (by decide))]
    have f1 : cE1 val L F q 23 0 = nl := by rw [cE1_n _ _ _ _ (Or.inl (by decide)), e1]
    have f2 : cE1 val L F q 24 0 = nb := by rw [cE1_n _ _ _ _ (Or.inl (by decide)), e2]
    by_cases c : isNm q.1
    · rw [nms_cons_y c] at hI h0
      obtain ⟨i1, i2⟩ := hI
      have i3 := i2.le
      have hq := hr q List.mem_cons_self c
      have S1 := hS.steps (q.2 - a) (fun i h1 h2 => h0 i h1 (by omega) (fun z => by
        rcases List.mem_cons.mp z with y | y
        · omega
        · have := (i2.mem y).1
          omega))
      rw [show a + (q.2 - a) = q.2 by omega] at S1
      have n4 : ¬ (q.1 = 4 ∨ q.1 = 7) := by
        rcases c with z | z | z | z <;> rw [z] <;> decide
      -- the operand on both sides
      have hop : opV val F L q = rsV val ρ q ∧ erF κ val ρ q.2 V = (lookE (rsV val ρ q), V) := by
        unfold opV rsV
        rw [if_neg n4, if_neg n4]
        by_cases c8 : q.1 = 8 ∨ q.1 = 11
        · rw [if_pos c8, if_pos c8, e1]
          refine ⟨hl q.2 (by omega) (by omega), ?_⟩
          refine erF_20 (hq.trans (if_pos c8))
        · have c9 : q.1 = 9 ∨ q.1 = 10 := by
            rcases c with z | z | z | z
            · exact absurd (Or.inl z) c8
            · exact Or.inl z
            · exact Or.inr z
            · exact absurd (Or.inr z) c8
          rw [if_neg c8, if_neg c8, if_pos c9, if_pos c9, e2]
          refine ⟨hb q.2 (by omega) (by omega), ?_⟩
          refine erF_21 (hq.trans (if_neg c8))
      have hk := chk_look (F := F) S1 hop.2 hF
      have eF1 : ∀ k, k = 67 ∨ k = 68 → cE1 val L F q k = (if rsV val ρ q = -1 then tf F 3 q.2 else F) k := fun k hk => by
        rw [cE1_67 hk, hop.1]
        by_cases c2 : rsV val ρ q = -1
        · rw [if_pos ⟨c, c2⟩, if_pos c2]
        · rw [if_neg (fun z => c2 z.2), if_neg c2]
      rcases hk with ⟨e, hE, hC⟩ | ⟨hne, S2, hN⟩
      · refine Or.inl ⟨e, q.2, by omega, ?_, ?_⟩
        · have := hE.add (p1 - (q.2 + 1))
          rw [show q.2 + 1 + (p1 - (q.2 + 1)) = p1 by omega] at this
          exact this
        · refine CER.its its ?_
          unfold CER at hC ⊢
          rw [eF1 67 (Or.inl rfl), eF1 68 (Or.inr rfl)]
          exact hC
      · have f67 : cE1 val L F q 67 0 = 0 := by rw [eF1 67 (Or.inl rfl), hN]; exact hF
        rcases it_sem hl hb its (q.2 + 1) (cE1 val L F q) V (by omega) i2 (fun i h1 h2 h3 => h0 i (by omega) h2 (fun z => by
          rcases List.mem_cons.mp z with y | y
          · omega
          · exact h3 y)) (fun x hx hn => hr x (List.mem_cons_of_mem _ hx) hn) f1 f2 f67 S2 with h | ⟨g1, g2, g3, g4⟩
        · exact Or.inl h
        · refine Or.inr ⟨g1, g2, fun x hx hn => ?_, fun x hx => ?_⟩
          · rcases List.mem_cons.mp hx with y | y
            · rw [y]; exact hne
            · exact g3 x y hn
          · rcases List.mem_cons.mp hx with y | y
            · rw [y]; exact hop.1
            · rw [← o1]; exact g4 x y
    · rw [nms_cons_n c] at hI h0
      have f67 : cE1 val L F q 67 0 = 0 := by rw [cE1_67 (Or.inl rfl), if_neg (fun z => c z.1)]; exact hF
      have hop : opV val F L q = rsV val ρ q := by
        unfold opV rsV
        by_cases c1 : q.1 = 4 ∨ q.1 = 7
        · rw [if_pos c1, if_pos c1]
        · have c8 : ¬ (q.1 = 8 ∨ q.1 = 11) := fun z => c (z.elim Or.inl (fun y => Or.inr (Or.inr (Or.inr y))))
          have c9 : ¬ (q.1 = 9 ∨ q.1 = 10) := fun z => c (z.elim (fun y => Or.inr (Or.inl y)) (fun y => Or.inr (Or.inr (Or.inl y))))
          rw [if_neg c1, if_neg c1, if_neg c8, if_neg c8, if_neg c9, if_neg c9]
      rcases it_sem hl hb its a (cE1 val L F q) V ha hI h0 (fun x hx hn => hr x (List.mem_cons_of_mem _ hx) hn) f1 f2 f67 hS with h | ⟨g1, g2, g3, g4⟩
      · exact Or.inl h
      · refine Or.inr ⟨g1, g2, fun x hx hn => ?_, fun x hx => ?_⟩
        · rcases List.mem_cons.mp hx with y | y
          · rw [y] at hn; exact absurd hn c
          · exact g3 x y hn
        · rcases List.mem_cons.mp hx with y | y
          · rw [y]; exact hop
          · rw [← o1]; exact g4 x y
end ITEMS
