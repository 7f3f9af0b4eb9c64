/-! ===== the list taught ===== -/
section TALL
variable {nn : Nat → Nat} {V U S W B O : M2} {T : List Nat}
theorem bA_l (T : List Nat) (j : Nat) (r : Nat → Int32) : (bA T j r).length ≤ T.length + 24 := by
  unfold bA
  have a := decs_le j
  have b := decs_le (r 0).toInt.toNat
  have c := decs_le (r 1).toInt.toNat
  have l0 : (lst 20).length = 6 := by decide
  have l1 : (lst 21).length = 6 := by decide
  have l2 : (lst 22).length = 5 := by decide
  have l3 : (lst 23).length = 1 := by decide
  simp only [List.length_append]
  omega
theorem sA_l (T : List Nat) (j : Nat) (r : Nat → Int32) : (sA T j r).length ≤ T.length + 27 := by
  unfold sA
  have a := decs_le j
  have b := decs_le (r 0).toInt.toNat
  have c := decs_le (r 1).toInt.toNat
  have l0 : (lst 24).length = 7 := by decide
  have l1 : (lst 25).length = 4 := by decide
  have l2 : (lst 26).length = 9 := by decide
  have l3 : (lst 23).length = 1 := by decide
  simp only [List.length_append]
  omega
theorem lA_l (T : List Nat) (j : Nat) (r : Nat → Int32) : (lA T j r).length ≤ T.length + 33 := by
  unfold lA
  have a := decs_le j
  have b := decs_le (r 0).toInt.toNat
  have c := decs_le (r 1).toInt.toNat
  have l0 : (lst 27).length = 8 := by decide
  have l1 : (lst 28).length = 10 := by decide
  have l2 : (lst 29).length = 7 := by decide
  have l3 : (lst 30).length = 2 := by decide
  simp only [List.length_append]
  omega
theorem aA_l (T : List Nat) (j : Nat) (r : Nat → Int32) : (aA T j r).length ≤ T.length + 51 := by
  unfold aA
  have a := decs_le j
  have b := decs_le (r 0).toInt.toNat
  have c := decs_le (r 2).toInt.toNat
  have d := decs_le (r 7).toInt.toNat
  have e := decs_le (r 8).toInt.toNat
  have l0 : (lst 31).length = 6 := by decide
  have l1 : (lst 32).length = 8 := by decide
  have l2 : (lst 33).length = 6 := by decide
  have l3 : (if r 1 = 0 then lst 34 else lst 35).length = 4 := by split <;> decide
  have l4 : (lst 36).length = 5 := by decide
  have l5 : (lst 37).length = 5 := by decide
  have l6 : (lst 38).length = 6 := by decide
  have l7 : (lst 23).length = 1 := by decide
  simp only [List.length_append]
  omega
theorem oA_l (nl nb : Nat) (T : List Nat) (r : Nat → Int32) : (oA nl nb T r).length ≤ T.length + 79 := by
  unfold oA
  have a := decs_le (r 1).toInt.toNat
  have b := testT_le (r 2).toInt.toNat (r 3).toInt.toNat (r 4).toInt.toNat ((r 5).toInt.toNat % nl) ((r 5).toInt.toNat % nb)
  have l0 : (if r 0 = 0 then (if r 1 = 0 then lst 39 else lst 40) else [] ++ lst 41 ++ decs (r 1).toInt.toNat).length ≤ 12 := by
    split
    · split <;> decide
    · have y : (([] : List Nat) ++ lst 41).length = 6 := by decide
      rw [List.length_append, y]
      omega
  have l1 : (lst 42).length = 6 := by decide
  have l2 : (lst 23).length = 1 := by decide
  rw [List.length_append, List.length_append, List.length_append, List.length_append]
  omega
theorem tB_l : ∀ n, (tB V n).length ≤ 24 * n
  | 0 => Nat.le_refl _
  | n + 1 => by
    have a := tB_l n
    have b := bA_l (tB V n) n (V n)
    show (bA (tB V n) n (V n)).length ≤ _
    omega
theorem tS_l {T0 : List Nat} : ∀ n, (tS T0 S n).length ≤ T0.length + 27 * n
  | 0 => Nat.le_refl _
  | n + 1 => by
    have a := tS_l (T0 := T0) n
    have b := sA_l (tS T0 S n) n (S n)
    show (sA (tS T0 S n) n (S n)).length ≤ _
    omega
theorem tL_l {T0 : List Nat} : ∀ n, (tL T0 W n).length ≤ T0.length + 33 * n
  | 0 => Nat.le_refl _
  | n + 1 => by
    have a := tL_l (T0 := T0) n
    have b := lA_l (tL T0 W n) n (W n)
    show (lA (tL T0 W n) n (W n)).length ≤ _
    omega
theorem tA_l {T0 : List Nat} : ∀ n, (tA T0 B n).length ≤ T0.length + 51 * n
  | 0 => Nat.le_refl _
  | n + 1 => by
    have a := tA_l (T0 := T0) n
    have b := aA_l (tA T0 B n) n (B n)
    show (aA (tA T0 B n) n (B n)).length ≤ _
    omega
theorem tO_l {nl nb : Nat} {T0 : List Nat} : ∀ n, (tO nl nb T0 O n).length ≤ T0.length + 79 * n
  | 0 => Nat.le_refl _
  | n + 1 => by
    have a := tO_l (T0 := T0) (nl := nl) (nb := nb) n
    have b := oA_l nl nb (tO nl nb T0 O n) (O n)
    show (oA nl nb (tO nl nb T0 O n) (O n)).length ≤ _
    omega
theorem len_list (D : LDAT T nn V U S W B O) : T.length ≤ 1500 := by
  obtain ⟨⟨h0, h1, h2, h3, h4, h5⟩, _, _, _, _, _, _, hT⟩ := D
  have a := tO_l (O := O) (nl := nn 3) (nb := nn 4) (T0 := tA (tL (tS (tB V (nn 0)) S (nn 2)) W (nn 3)) B (nn 4)) (nn 5)
  have b := tA_l (B := B) (T0 := tL (tS (tB V (nn 0)) S (nn 2)) W (nn 3)) (nn 4)
  have c := tL_l (W := W) (T0 := tS (tB V (nn 0)) S (nn 2)) (nn 3)
  have d := tS_l (S := S) (T0 := tB V (nn 0)) (nn 2)
  have e := tB_l (V := V) (nn 0)
  rw [hT]
  omega
theorem taught_all {a q q2 : Nat → Nat} {tb : Nat → Int32} {ap bp rp : Nat} {C F G P Y Bt : M2} {L : L2} {K : Int32 → Nat → Nat → Nat → M2 → M2 → M2 → M2 → M2 → L2 → M2 → Prop} (D : LDAT T nn V U S W B O) (hch : ∀ i, i < T.length → chv tb (nI i) = nI (T.getD i 0)) (hTX : ∀ x ∈ T, x < 128) (hC : C 91 0 = 0) (hW : KWT Y L) (h : ∀ C' F' P' Y' L' B', C' 91 0 = 0 → PLN nn V S W B O P' → BEGF P' (nn 1) (nn 3) (nn 4) F F' → K 0 ap (a 80) (q2 20) C' F' G P' Y' L' B') : wp_L_taught a q q2 T.length tb ap bp rp C F G P Y L Bt K := by
  have hlen := len_list D
  have h255 : ∀ i, i < T.length → (fun i => T.getD i 0) i ≤ 255 := fun i hi => by
    have e : T.getD i 0 = T[i] := by rw [List.getD_eq_getElem?_getD, List.getElem?_eq_getElem hi]; rfl
    show T.getD i 0 ≤ 255
    rw [e]
    have := hTX _ (List.getElem_mem hi)
    omega
  have hBy : BYT (fun i => T.getD i 0) 0 T := fun j hj => by
    show T.getD (0 + j) 0 = T[j]
    rw [Nat.zero_add, List.getD_eq_getElem?_getD, List.getElem?_eq_getElem hj]
    rfl
  refine f_all (τ := fun i => T.getD i 0) hlen hch h255 hC (fun B1 C1 c91 hB1 => ?_)
  unfold wp_X5_teach wp_X5_teachT
  rw [c91]
  refine rd_text D (by omega) h255 hBy (fun i hi => hB1 i hi) hW (fun Y1 L1 y69 hP => ⟨rfl, rfl, fun C2 e2 C3 e3 => And.intro (fun z => absurd rfl z) (fun _ => ?_)⟩)
  have hP0 := hP.1
  obtain ⟨⟨h0, h1, h2, h3, h4, h5⟩, hV, _⟩ := D
  have hbd := fo_bd (nn 0) hV
  refine c_begin (np := nn 1) (nl := nn 3) (nb := nn 4) (by omega) (by rw [hP0.2.1, h1]) (by omega) hP0.2.2.2.1 (by omega) hP0.2.2.2.2.1 (fun F1 hF => ⟨rfl, Or.inr ⟨rfl, rfl, h C3 F1 Y1 _ L1 _ (by rw [e3, up2_s]) hP hF⟩⟩)
/-- the whole of the law's body, from the list on -/
theorem body_all {q : Nat → Nat} {ap : Nat} {C F F' G N P : M2} {xs : Nat → Int32} {Ln : Nat} {K : Int32 → Prop} (D : LDAT T nn V U S W B O) (n0 : N 0 0 = 0) (n1 : N 1 0 = 0) (n2 : N 2 0 = -1) (hC : C 91 0 = 0) (hP : PLN nn V S W B O P) (hF : BEGF P (nn 1) (nn 3) (nn 4) F F') (e1 : F 1 0 = 0) (e3 : F 3 0 = -1) (hK : K 1) : wp_L_law q P nn V S O xs Ln ap F' G C N U W B K :=
  y_law (Q := QL nn V U S W B O) (M := ML W B) (T := TQ nn O) (kb := nn 0) (np := nn 1) (nl := nn 3) (nb := nn 4) (ns := nn 2) (no := nn 5) (j_prx D hP) (j_pt D hP) (j_zb D) (j_zk D) (j_hs D) hC hK (j_re D hP hF e1 e3) (j_zs D n0 n1 n2) (j_ix D) j_can
end TALL
