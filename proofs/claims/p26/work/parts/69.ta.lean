theorem wq_908 : Cond.methodLink RL 9 yX5_trim ∈ lw_g := lw_g_mk (tb_4 (List.mem_of_getElem? (i := 124) rfl)) rfl
theorem wq_913 : Cond.methodLink RL 15 yJ0_length_8abf5 ∈ lw_g := lw_g_mk (tb_4 (List.mem_of_getElem? (i := 129) rfl)) rfl
theorem wq_939 : Cond.methodLink RL 29 yX5_teach ∈ lw_g := lw_g_mk (tb_4 (List.mem_of_getElem? (i := 155) rfl)) rfl
theorem wq_940 : Cond.instanceMethod yX5_teach ∈ lw_g := lw_g_mk (tb_4 (List.mem_of_getElem? (i := 156) rfl)) rfl
theorem wq_941 : Cond.selects RX5 yX5_teach yX5_teach ∈ lw_g := lw_g_mk (tb_4 (List.mem_of_getElem? (i := 157) rfl)) rfl
theorem wq_915 : Cond.methodLink RL 25 yX5_feed ∈ lw_g := lw_g_mk (tb_4 (List.mem_of_getElem? (i := 131) rfl)) rfl
theorem wq_914 : Cond.methodLink RL 21 yJ0_charAt_5068e ∈ lw_g := lw_g_mk (tb_4 (List.mem_of_getElem? (i := 130) rfl)) rfl
theorem wq_916 : Cond.instanceMethod yX5_feed ∈ lw_g := lw_g_mk (tb_4 (List.mem_of_getElem? (i := 132) rfl)) rfl
theorem wq_917 : Cond.selects RX5 yX5_feed yX5_feed ∈ lw_g := lw_g_mk (tb_4 (List.mem_of_getElem? (i := 133) rfl)) rfl
theorem wq_909 : Cond.instanceMethod yX5_trim ∈ lw_g := lw_g_mk (tb_4 (List.mem_of_getElem? (i := 125) rfl)) rfl
theorem wq_910 : Cond.selects RX5 yX5_trim yX5_trim ∈ lw_g := lw_g_mk (tb_4 (List.mem_of_getElem? (i := 126) rfl)) rfl
theorem wq_907 : Cond.code yL_taught cL_taught 5 (some .int) ∈ lw_g := lw_g_mk (tb_4 (List.mem_of_getElem? (i := 123) rfl)) rfl
section ROWST
variable {p : Program} {l : Launch} {e : Env} {s : State} {m : MethodId} {args : Array Value} {below : List Frame} {meth : Method} {c : Code} {H : Heap} {locs : List Loc} {cells slots : Nat} {Q : State → Prop}
variable {pc : Nat} {ls : Array Slot} {rest : List Value} {A : Nat → Prop} {r : Nat → Nat} {sq sv tn : Nat} {tb : Nat → Int32} {k : Int32}
variable {cc : ByteArray} {nL index : Nat} {own : String} {rn mcR msR : Nat}
theorem w_slenS (hC : CallFix p m c cc nL s args lw_g own) (hR : RS r sq sv tn tb A s s.heap) (hS : va_S A s.heap H locs) (hl : Cond.methodLink own index yJ0_length_8abf5 ∈ lw_g) (hlt : 1 < rn) (hsize : ls.size = nL) (hW : (rest.map fun v => v.category).sum ≤ 8) (hf : cells + 0 ≤ mcR ∧ slots + 0 ≤ msR) (hdg : decode cc pc = .ok (.invokevirtual index, 3))
    (kk : W p l e (rk rn mcR msR) s m args below meth c H locs cells slots Q (F0 m (pc + 3) ls (.int (Int32.ofNat tn) :: rest))) : W p l e (rk rn mcR msR) s m args below meth c H locs cells slots Q (F0 m pc ls (.ref sq :: rest)) := by
  have hj := ((show JS sq sv tn tb A s s.heap from ⟨hR.1.1, hR.2⟩).kept hS.2.1).narrow (B := NoA) (fun q z => z.elim)
  exact ro_go (runJV (As := []) hC (c_slen l sq sv tn tb) mi_J0_length_8abf5 hl wq_116 wq_117 hlt JS.steady hj hj.2.recv rfl hsize rfl hW hdg hf) (fun x hx => hx ▸ kk)
theorem w_scharS (hC : CallFix p m c cc nL s args lw_g own) (hR : RS r sq sv tn tb A s s.heap) (hS : va_S A s.heap H locs) (htn : tn < 2 ^ 31) (hk : inb k tn) (hl : Cond.methodLink own index yJ0_charAt_5068e ∈ lw_g) (hlt : 3 < rn) (hsize : ls.size = nL) (hW : (rest.map fun v => v.category).sum ≤ 8) (hf : cells + 0 ≤ mcR ∧ slots + 0 ≤ msR) (hdg : decode cc pc = .ok (.invokevirtual index, 3))
    (kk : W p l e (rk rn mcR msR) s m args below meth c H locs cells slots Q (F0 m (pc + 3) ls (.int (chv tb k) :: rest))) : W p l e (rk rn mcR msR) s m args below meth c H locs cells slots Q (F0 m pc ls (.int k :: .ref sq :: rest)) := by
  have hj := ((show JS sq sv tn tb A s s.heap from ⟨hR.1.1, hR.2⟩).kept hS.2.1).narrow (B := NoA) (fun q z => z.elim)
  exact ro_go (runJV (As := [.int k]) hC (c_charAt l sq sv tn tb k htn hk) mi_J0_charAt_5068e hl wq_127 wq_128 hlt JS.steady hj hj.2.recv rfl hsize rfl hW hdg hf) (fun x hx => hx ▸ kk)
end ROWST
def TA (Z : Nat → ClassId) (a t b q q2 rx : Nat → Nat) (fv : Nat) (ap : Nat) (bp : Nat) (rp : Nat) (C : M2) (T : M2) (G : M2) (P : M2) (Y : M2) (L : L2) (B : M2) (J : M2) : va_W := [(a 90, .inr (5, [.ref (a 80), .int (C 91 0), .int (C 92 0), .ref (a 60), .ref (q2 20), .ref (t 0), .ref (b 0)])), (a 80, .inl (Z 2, 2000, .inl (B 80))), (a 60, .inr (2, [.ref (a 70), .ref (a 61), .ref (a 62), .ref (a 63), .ref (a 64), .ref rp, .int (Y 66 0), .int (Y 67 0), .int (Y 68 0), .int (Y 69 0)])), (a 61, .inl (Z 1, 5, .inr (.inl (L 61)))), (a 62, .inl (Z 1, 4, .inr (.inl (L 62)))), (a 63, .inl (Z 1, 6, .inr (.inl (L 63)))), (a 64, .inl (Z 1, 8, .inr (.inl (L 64)))), (a 70, .inr (3, [.ref (a 71), .ref (a 72), .int (Y 73 0), .ref (a 74), .ref (a 75), .ref (a 76), .ref bp, .int (Y 78 0)])), (a 71, .inl (Z 1, 40, .inr (.inl (L 71)))), (a 72, .inl (Z 0, 40, .inl (Y 72))), (a 74, .inl (Z 0, 401, .inl (Y 74))), (a 75, .inl (Z 0, 401, .inl (Y 75))), (a 76, .inl (Z 1, 401, .inr (.inl (L 76)))), (q2 20, .inr (1, [.int (Y 20 0), .int (Y 21 0), .int (Y 22 0), .int (Y 23 0), .int (Y 24 0), .ref (q2 25), .ref (q2 26), .ref (q2 27), .ref (q2 28), .ref (q2 29), .ref (q2 30), .ref (q2 31), .ref (q2 32), .ref (q2 33), .ref (q2 34), .ref (q2 35), .ref (q2 36), .ref (q2 37), .ref (q2 40)])), (q2 25, .inl (Z 0, 5, .inl (Y 25))), (q2 26, .inl (Z 0, 5, .inl (Y 26))), (q2 27, .inl (Z 0, 5, .inl (Y 27))), (q2 28, .inl (Z 0, 60, .inl (Y 28))), (q2 29, .inl (Z 0, 4, .inl (Y 29))), (q2 30, .inl (Z 0, 4, .inl (Y 30))), (q2 31, .inl (Z 0, 6, .inl (Y 31))), (q2 32, .inl (Z 0, 6, .inl (Y 32))), (q2 33, .inl (Z 0, 8, .inl (Y 33))), (q2 34, .inl (Z 0, 8, .inl (Y 34))), (q2 35, .inl (Z 0, 8, .inl (Y 35))), (q2 36, .inl (Z 0, 8, .inl (Y 36))), (q2 37, .inl (Z 0, 8, .inl (Y 37))), (q2 40, .inr (0, [.int (Y 40 0), .ref (q2 41), .ref (q2 42), .ref (q2 43), .ref (q2 44), .int (Y 45 0), .ref (q2 46), .ref (q2 47)])), (q2 41, .inl (Z 0, 16, .inl (Y 41))), (q2 42, .inl (Z 0, 16, .inl (Y 42))), (q2 43, .inl (Z 0, 16, .inl (Y 43))), (q2 44, .inl (Z 0, 16, .inl (Y 44))), (q2 46, .inl (Z 0, 400, .inl (Y 46))), (q2 47, .inl (Z 0, 400, .inl (Y 47))), (q 20, .inr (1, [.int (P 20 0), .int (P 21 0), .int (P 22 0), .int (P 23 0), .int (P 24 0), .ref (q 25), .ref (q 26), .ref (q 27), .ref (q 28), .ref (q 29), .ref (q 30), .ref (q 31), .ref (q 32), .ref (q 33), .ref (q 34), .ref (q 35), .ref (q 36), .ref (q 37), .ref (q 40)])), (q 25, .inl (Z 0, 5, .inl (P 25))), (q 26, .inl (Z 0, 5, .inl (P 26))), (q 27, .inl (Z 0, 5, .inl (P 27))), (q 28, .inl (Z 0, 60, .inl (P 28))), (q 29, .inl (Z 0, 4, .inl (P 29))), (q 30, .inl (Z 0, 4, .inl (P 30))), (q 31, .inl (Z 0, 6, .inl (P 31))), (q 32, .inl (Z 0, 6, .inl (P 32))), (q 33, .inl (Z 0, 8, .inl (P 33))), (q 34, .inl (Z 0, 8, .inl (P 34))), (q 35, .inl (Z 0, 8, .inl (P 35))), (q 36, .inl (Z 0, 8, .inl (P 36))), (q 37, .inl (Z 0, 8, .inl (P 37))), (q 40, .inr (0, [.int (P 40 0), .ref (q 41), .ref (q 42), .ref (q 43), .ref (q 44), .int (P 45 0), .ref (q 46), .ref (q 47)])), (q 41, .inl (Z 0, 16, .inl (P 41))), (q 42, .inl (Z 0, 16, .inl (P 42))), (q 43, .inl (Z 0, 16, .inl (P 43))), (q 44, .inl (Z 0, 16, .inl (P 44))), (q 46, .inl (Z 0, 400, .inl (P 46))), (q 47, .inl (Z 0, 400, .inl (P 47))), (t 0, .inr (4, [.ref (q 20), .int (T 1 0), .int (T 2 0), .int (T 3 0), .ref (t 4), .ref (t 5), .ref (t 6), .ref (t 7), .ref (t 8), .ref (t 9), .ref (t 10), .ref (t 11), .ref (t 12), .ref (t 13), .ref (t 14)])), (t 4, .inl (Z 0, 60, .inl (T 4))), (t 5, .inl (Z 0, 6, .inl (T 5))), (t 6, .inl (Z 0, 6, .inl (T 6))), (t 7, .inl (Z 0, 6, .inl (T 7))), (t 8, .inl (Z 0, 8, .inl (T 8))), (t 9, .inl (Z 0, 8, .inl (T 9))), (t 10, .inl (Z 0, 8, .inl (T 10))), (t 11, .inl (Z 0, 8, .inl (T 11))), (t 12, .inl (Z 0, 8, .inl (T 12))), (t 13, .inl (Z 0, 8, .inl (T 13))), (t 14, .inl (Z 0, 400, .inl (T 14))), (b 0, .inr (4, [.ref ap, .int (G 1 0), .int (G 2 0), .int (G 3 0), .ref (b 4), .ref (b 5), .ref (b 6), .ref (b 7), .ref (b 8), .ref (b 9), .ref (b 10), .ref (b 11), .ref (b 12), .ref (b 13), .ref (b 14)])), (b 4, .inl (Z 0, 60, .inl (G 4))), (b 5, .inl (Z 0, 6, .inl (G 5))), (b 6, .inl (Z 0, 6, .inl (G 6))), (b 7, .inl (Z 0, 6, .inl (G 7))), (b 8, .inl (Z 0, 8, .inl (G 8))), (b 9, .inl (Z 0, 8, .inl (G 9))), (b 10, .inl (Z 0, 8, .inl (G 10))), (b 11, .inl (Z 0, 8, .inl (G 11))), (b 12, .inl (Z 0, 8, .inl (G 12))), (b 13, .inl (Z 0, 8, .inl (G 13))), (b 14, .inl (Z 0, 400, .inl (G 14))), (fv, .inl (Z 0, 5, .inl (J 0)))]
abbrev cutTA : List Nat := [0, 1, 2, 3, 4, 5, 6, 7, 8, 9, 10, 11, 12, 13, 14, 15, 16, 17, 18, 19, 20, 21, 22, 23, 24, 25, 26, 27, 28, 29, 30, 31, 32, 33, 34, 35, 36, 37, 38, 39, 40, 41, 42, 43, 44, 45, 46, 47, 48, 49, 50, 51, 52, 53, 54, 55, 56, 57, 58, 59, 60, 61, 62, 63, 64, 65, 66, 67, 68, 69, 70, 71, 72, 73, 74, 75, 76, 77, 78, 79]
set_option maxRecDepth 100000 in
theorem cutOkTA (Z : Nat → ClassId) (a t b q q2 rx : Nat → Nat) (fv : Nat) (ap : Nat) (bp : Nat) (rp : Nat) (C : M2) (T : M2) (G : M2) (P : M2) (Y : M2) (L : L2) (B : M2) (J : M2) : Cut (TA Z a t b q q2 rx fv ap bp rp C T G P Y L B J) (fun u : Nat × Nat × Nat × M2 × M2 × M2 × M2 × M2 × L2 × M2 × M2 => TA Z a t b q q2 rx fv u.1 u.2.1 u.2.2.1 u.2.2.2.1 u.2.2.2.2.1 u.2.2.2.2.2.1 u.2.2.2.2.2.2.1 u.2.2.2.2.2.2.2.1 u.2.2.2.2.2.2.2.2.1 u.2.2.2.2.2.2.2.2.2.1 u.2.2.2.2.2.2.2.2.2.2) (ap, bp, rp, C, T, G, P, Y, L, B, J) [] cutTA [] cutTA (fun u : Nat × Nat × Nat × M2 × M2 × M2 × M2 × M2 × L2 × M2 × M2 => TA Z a t b q q2 rx fv u.1 u.2.1 u.2.2.1 u.2.2.2.1 u.2.2.2.2.1 u.2.2.2.2.2.1 u.2.2.2.2.2.2.1 u.2.2.2.2.2.2.2.1 u.2.2.2.2.2.2.2.2.1 u.2.2.2.2.2.2.2.2.2.1 u.2.2.2.2.2.2.2.2.2.2) := ⟨rfl, rfl, rfl, fun i h => absurd h List.not_mem_nil, by decide, fun _ => rfl⟩
section ROWSTA
variable {p : Program} {l : Launch} {e : Env} {s : State} {m : MethodId} {args : Array Value} {below : List Frame} {meth : Method} {c : Code} {H H0 : Heap} {locs : List Loc} {cells slots : Nat} {Q : State → Prop} {R : Room} {rn mcR msR : Nat}
variable {pc : Nat} {ls : Array Slot} {rest : List Value} {A : Nat → Prop} {D : va_G}
variable {cc : ByteArray} {nL index : Nat} {own host : String}
theorem sTA_five {Z : Nat → ClassId} {a t b q q2 rx : Nat → Nat} {fv : Nat} {ap : Nat} {bp : Nat} {rp : Nat} {C : M2} {T : M2} {G : M2} {P : M2} {Y : M2} {L : L2} {B : M2} {J : M2} {i : Int32} {x : Int32} (hC : CallFix p m c cc nL s args lw_g own) (hK : va_K D vwCl (tysG Z) s) (hT : TS vwCl D (TA Z a t b q q2 rx fv ap bp rp C T G P Y L B J) A H0 H locs) (hi : inb i 5) (hdg : decode cc pc = .ok (.iastore, 1)) (kk : ∀ (J1 : M2), J1 = up2 J 0 (upd (J 0) i.toInt.toNat x) → ∀ (H1 : Heap) (locs1 : List Loc), TS vwCl D (TA Z a t b q q2 rx fv ap bp rp C T G P Y L B J1) A H0 H1 locs1 → W p l e R s m args below meth c H1 locs1 cells slots Q (F0 m (pc + 1) ls rest)) : W p l e R s m args below meth c H locs cells slots Q (F0 m pc ls (.int x :: .int i :: .ref (fv) :: rest)) :=
  w_iast (q0 := 79) (ws' := (TA Z a t b q q2 rx fv ap bp rp C T G P Y L B (up2 J 0 (upd (J 0) i.toInt.toNat x)))) hC hK hT rfl hi rfl hdg (fun H1 locs1 hT1 => kk _ rfl H1 locs1 hT1)
end ROWSTA
set_option maxRecDepth 100000 in
theorem sx_CTTA (Z : Nat → ClassId) (a t b q q2 rx : Nat → Nat) (fv : Nat) (ap : Nat) (bp : Nat) (rp : Nat) (C : M2) (T : M2) (G : M2) (P : M2) (Y : M2) (L : L2) (B : M2) (J : M2) : ([0, 1] : List Nat).map (fun i => (TA Z a t b q q2 rx fv ap bp rp C T G P Y L B J)[i]?) = (CT Z (a 90) (a 80) (a 60) (q2 20) (t 0) (b 0) B C).map some := rfl
set_option maxRecDepth 100000 in
theorem cx_CTTA (Z : Nat → ClassId) (a t b q q2 rx : Nat → Nat) (fv : Nat) (ap : Nat) (bp : Nat) (rp : Nat) (C : M2) (T : M2) (G : M2) (P : M2) (Y : M2) (L : L2) (B : M2) (J : M2) : Cut (TA Z a t b q q2 rx fv ap bp rp C T G P Y L B J) (fun u : M2 × M2 => CT Z (a 90) (a 80) (a 60) (q2 20) (t 0) (b 0) u.1 u.2) (B, C) [(a 60, .inr (2, [.ref (a 70), .ref (a 61), .ref (a 62), .ref (a 63), .ref (a 64), .ref rp, .int (Y 66 0), .int (Y 67 0), .int (Y 68 0), .int (Y 69 0)])), (a 61, .inl (Z 1, 5, .inr (.inl (L 61)))), (a 62, .inl (Z 1, 4, .inr (.inl (L 62)))), (a 63, .inl (Z 1, 6, .inr (.inl (L 63)))), (a 64, .inl (Z 1, 8, .inr (.inl (L 64)))), (a 70, .inr (3, [.ref (a 71), .ref (a 72), .int (Y 73 0), .ref (a 74), .ref (a 75), .ref (a 76), .ref bp, .int (Y 78 0)])), (a 71, .inl (Z 1, 40, .inr (.inl (L 71)))), (a 72, .inl (Z 0, 40, .inl (Y 72))), (a 74, .inl (Z 0, 401, .inl (Y 74))), (a 75, .inl (Z 0, 401, .inl (Y 75))), (a 76, .inl (Z 1, 401, .inr (.inl (L 76)))), (q2 20, .inr (1, [.int (Y 20 0), .int (Y 21 0), .int (Y 22 0), .int (Y 23 0), .int (Y 24 0), .ref (q2 25), .ref (q2 26), .ref (q2 27), .ref (q2 28), .ref (q2 29), .ref (q2 30), .ref (q2 31), .ref (q2 32), .ref (q2 33), .ref (q2 34), .ref (q2 35), .ref (q2 36), .ref (q2 37), .ref (q2 40)])), (q2 25, .inl (Z 0, 5, .inl (Y 25))), (q2 26, .inl (Z 0, 5, .inl (Y 26))), (q2 27, .inl (Z 0, 5, .inl (Y 27))), (q2 28, .inl (Z 0, 60, .inl (Y 28))), (q2 29, .inl (Z 0, 4, .inl (Y 29))), (q2 30, .inl (Z 0, 4, .inl (Y 30))), (q2 31, .inl (Z 0, 6, .inl (Y 31))), (q2 32, .inl (Z 0, 6, .inl (Y 32))), (q2 33, .inl (Z 0, 8, .inl (Y 33))), (q2 34, .inl (Z 0, 8, .inl (Y 34))), (q2 35, .inl (Z 0, 8, .inl (Y 35))), (q2 36, .inl (Z 0, 8, .inl (Y 36))), (q2 37, .inl (Z 0, 8, .inl (Y 37))), (q2 40, .inr (0, [.int (Y 40 0), .ref (q2 41), .ref (q2 42), .ref (q2 43), .ref (q2 44), .int (Y 45 0), .ref (q2 46), .ref (q2 47)])), (q2 41, .inl (Z 0, 16, .inl (Y 41))), (q2 42, .inl (Z 0, 16, .inl (Y 42))), (q2 43, .inl (Z 0, 16, .inl (Y 43))), (q2 44, .inl (Z 0, 16, .inl (Y 44))), (q2 46, .inl (Z 0, 400, .inl (Y 46))), (q2 47, .inl (Z 0, 400, .inl (Y 47))), (q 20, .inr (1, [.int (P 20 0), .int (P 21 0), .int (P 22 0), .int (P 23 0), .int (P 24 0), .ref (q 25), .ref (q 26), .ref (q 27), .ref (q 28), .ref (q 29), .ref (q 30), .ref (q 31), .ref (q 32), .ref (q 33), .ref (q 34), .ref (q 35), .ref (q 36), .ref (q 37), .ref (q 40)])), (q 25, .inl (Z 0, 5, .inl (P 25))), (q 26, .inl (Z 0, 5, .inl (P 26))), (q 27, .inl (Z 0, 5, .inl (P 27))), (q 28, .inl (Z 0, 60, .inl (P 28))), (q 29, .inl (Z 0, 4, .inl (P 29))), (q 30, .inl (Z 0, 4, .inl (P 30))), (q 31, .inl (Z 0, 6, .inl (P 31))), (q 32, .inl (Z 0, 6, .inl (P 32))), (q 33, .inl (Z 0, 8, .inl (P 33))), (q 34, .inl (Z 0, 8, .inl (P 34))), (q 35, .inl (Z 0, 8, .inl (P 35))), (q 36, .inl (Z 0, 8, .inl (P 36))), (q 37, .inl (Z 0, 8, .inl (P 37))), (q 40, .inr (0, [.int (P 40 0), .ref (q 41), .ref (q 42), .ref (q 43), .ref (q 44), .int (P 45 0), .ref (q 46), .ref (q 47)])), (q 41, .inl (Z 0, 16, .inl (P 41))), (q 42, .inl (Z 0, 16, .inl (P 42))), (q 43, .inl (Z 0, 16, .inl (P 43))), (q 44, .inl (Z 0, 16, .inl (P 44))), (q 46, .inl (Z 0, 400, .inl (P 46))), (q 47, .inl (Z 0, 400, .inl (P 47))), (t 0, .inr (4, [.ref (q 20), .int (T 1 0), .int (T 2 0), .int (T 3 0), .ref (t 4), .ref (t 5), .ref (t 6), .ref (t 7), .ref (t 8), .ref (t 9), .ref (t 10), .ref (t 11), .ref (t 12), .ref (t 13), .ref (t 14)])), (t 4, .inl (Z 0, 60, .inl (T 4))), (t 5, .inl (Z 0, 6, .inl (T 5))), (t 6, .inl (Z 0, 6, .inl (T 6))), (t 7, .inl (Z 0, 6, .inl (T 7))), (t 8, .inl (Z 0, 8, .inl (T 8))), (t 9, .inl (Z 0, 8, .inl (T 9))), (t 10, .inl (Z 0, 8, .inl (T 10))), (t 11, .inl (Z 0, 8, .inl (T 11))), (t 12, .inl (Z 0, 8, .inl (T 12))), (t 13, .inl (Z 0, 8, .inl (T 13))), (t 14, .inl (Z 0, 400, .inl (T 14))), (b 0, .inr (4, [.ref ap, .int (G 1 0), .int (G 2 0), .int (G 3 0), .ref (b 4), .ref (b 5), .ref (b 6), .ref (b 7), .ref (b 8), .ref (b 9), .ref (b 10), .ref (b 11), .ref (b 12), .ref (b 13), .ref (b 14)])), (b 4, .inl (Z 0, 60, .inl (G 4))), (b 5, .inl (Z 0, 6, .inl (G 5))), (b 6, .inl (Z 0, 6, .inl (G 6))), (b 7, .inl (Z 0, 6, .inl (G 7))), (b 8, .inl (Z 0, 8, .inl (G 8))), (b 9, .inl (Z 0, 8, .inl (G 9))), (b 10, .inl (Z 0, 8, .inl (G 10))), (b 11, .inl (Z 0, 8, .inl (G 11))), (b 12, .inl (Z 0, 8, .inl (G 12))), (b 13, .inl (Z 0, 8, .inl (G 13))), (b 14, .inl (Z 0, 400, .inl (G 14))), (fv, .inl (Z 0, 5, .inl (J 0)))] [0, 1] [2, 3, 4, 5, 6, 7, 8, 9, 10, 11, 12, 13, 14, 15, 16, 17, 18, 19, 20, 21, 22, 23, 24, 25, 26, 27, 28, 29, 30, 31, 32, 33, 34, 35, 36, 37, 38, 39, 40, 41, 42, 43, 44, 45, 46, 47, 48, 49, 50, 51, 52, 53, 54, 55, 56, 57, 58, 59, 60, 61, 62, 63, 64, 65, 66, 67, 68, 69, 70, 71, 72, 73, 74, 75, 76, 77, 78, 79] [78, 79, 0, 1, 2, 3, 4, 5, 6, 7, 8, 9, 10, 11, 12, 13, 14, 15, 16, 17, 18, 19, 20, 21, 22, 23, 24, 25, 26, 27, 28, 29, 30, 31, 32, 33, 34, 35, 36, 37, 38, 39, 40, 41, 42, 43, 44, 45, 46, 47, 48, 49, 50, 51, 52, 53, 54, 55, 56, 57, 58, 59, 60, 61, 62, 63, 64, 65, 66, 67, 68, 69, 70, 71, 72, 73, 74, 75, 76, 77] (fun u : M2 × M2 => (TA Z a t b q q2 rx fv ap bp rp u.2 T G P Y L u.1 J)) := ⟨rfl, rfl, rfl, by decide, rfl, fun _ => rfl⟩
section LX5_feed0x
variable {p : Program} {l : Launch} {e : Env} {s : State} {m : MethodId} {args : Array Value} {below : List Frame} {meth : Method} {c : Code} {H H0 : Heap} {locs : List Loc} {cells slots : Nat} {Q : State → Prop} {R : Room} {rn mcR msR : Nat}
variable {pc : Nat} {ls : Array Slot} {rest : List Value} {A : Nat → Prop} {D : va_G}
variable {cc : ByteArray} {nL index : Nat} {own host : String}
theorem kx_X5_feed {Z : Nat → ClassId} {ca tp rd sp tn ah : Nat} {F : M2} {C : M2} {x1 : Int32} {x2 : Int32} {x3 : Int32} {x4 : Int32} {x5 : Int32} {K : Int32 → M2 → M2 → Prop} {ws wr : va_W} {isC isR pm : List Nat} {ws' : M2 × M2 → va_W} (hC : CallFix p m c cc nL s args lw_g own) (hN : NW s) (hK : va_K D vwCl (tysG Z) s) (hT : TS vwCl D ws A H0 H locs) (hc : Cut ws (fun u : M2 × M2 => CT Z ca tp rd sp tn ah u.1 u.2) (F, C) wr isC isR pm ws') (hnd : va_nd isC = true) (hm : wp_X5_feed (fun _ => False) F C x1 x2 x3 x4 x5 K) (hl : Cond.methodLink own index yX5_feed ∈ lw_g) (hlt : 7 < rn) (hsize : ls.size = nL) (hW : (rest.map fun v => v.category).sum ≤ 8) (hf : cells + 0 ≤ mcR ∧ slots + 0 ≤ msR) (hdg : decode cc pc = .ok (.invokevirtual index, 3)) (kk : ∀ (r : Int32) (F1 : M2) (C1 : M2) (H1 : Heap) (locs1 : List Loc), K r F1 C1 → TS vwCl D (ws' (F1, C1)) A H0 H1 locs1 → W p l e (rk rn mcR msR) s m args below meth c H1 locs1 cells slots Q (F0 m (pc + 3) ls (.int r :: rest))) : W p l e (rk rn mcR msR) s m args below meth c H locs cells slots Q (F0 m pc ls (.int x5 :: .int x4 :: .int x3 :: .int x2 :: .int x1 :: .ref (ca) :: rest)) :=
  rw_go (wsF := (fun u : M2 × M2 => CT Z ca tp rd sp tn ah u.1 u.2)) (u0 := (F, C)) (wr := wr) (isC := isC) (isR := isR) (pm := pm) (ws' := ws') (runV (As := [.int x1, .int x2, .int x3, .int x4, .int x5]) hC hN (c_X5_feed l D Z ca tp rd sp tn ah F C H.size x1 x2 x3 x4 x5 K hm) mi_X5_feed hl wq_916 wq_917 hlt (hT.1.sub isC (map_fm hc.1)) (hT.D'.sub isC hnd hc.1) hK (q0 := 0) rfl rfl rfl hsize rfl hW hdg hf) hc hT (fun r u H1 locs1 hk hT1 => kk r u.1 u.2 H1 locs1 hk hT1)
end LX5_feed0x
section LX5_trim0x
variable {p : Program} {l : Launch} {e : Env} {s : State} {m : MethodId} {args : Array Value} {below : List Frame} {meth : Method} {c : Code} {H H0 : Heap} {locs : List Loc} {cells slots : Nat} {Q : State → Prop} {R : Room} {rn mcR msR : Nat}
variable {pc : Nat} {ls : Array Slot} {rest : List Value} {A : Nat → Prop} {D : va_G}
variable {cc : ByteArray} {nL index : Nat} {own host : String}
theorem kx_X5_trim {Z : Nat → ClassId} {ca tp rd sp tn ah : Nat} {F : M2} {C : M2} {x1 : Int32} {K : Int32 → M2 → M2 → Prop} {ws wr : va_W} {isC isR pm : List Nat} {ws' : M2 × M2 → va_W} (hC : CallFix p m c cc nL s args lw_g own) (hN : NW s) (hK : va_K D vwCl (tysG Z) s) (hT : TS vwCl D ws A H0 H locs) (hc : Cut ws (fun u : M2 × M2 => CT Z ca tp rd sp tn ah u.1 u.2) (F, C) wr isC isR pm ws') (hnd : va_nd isC = true) (hm : wp_X5_trim (fun _ => False) F C x1 K) (hl : Cond.methodLink own index yX5_trim ∈ lw_g) (hlt : 7 < rn) (hsize : ls.size = nL) (hW : (rest.map fun v => v.category).sum ≤ 8) (hf : cells + 0 ≤ mcR ∧ slots + 0 ≤ msR) (hdg : decode cc pc = .ok (.invokevirtual index, 3)) (kk : ∀ (r : Int32) (F1 : M2) (C1 : M2) (H1 : Heap) (locs1 : List Loc), K r F1 C1 → TS vwCl D (ws' (F1, C1)) A H0 H1 locs1 → W p l e (rk rn mcR msR) s m args below meth c H1 locs1 cells slots Q (F0 m (pc + 3) ls (.int r :: rest))) : W p l e (rk rn mcR msR) s m args below meth c H locs cells slots Q (F0 m pc ls (.int x1 :: .ref (ca) :: rest)) :=
  rw_go (wsF := (fun u : M2 × M2 => CT Z ca tp rd sp tn ah u.1 u.2)) (u0 := (F, C)) (wr := wr) (isC := isC) (isR := isR) (pm := pm) (ws' := ws') (runV (As := [.int x1]) hC hN (c_X5_trim l D Z ca tp rd sp tn ah F C H.size x1 K hm) mi_X5_trim hl wq_909 wq_910 hlt (hT.1.sub isC (map_fm hc.1)) (hT.D'.sub isC hnd hc.1) hK (q0 := 0) rfl rfl rfl hsize rfl hW hdg hf) hc hT (fun r u H1 locs1 hk hT1 => kk r u.1 u.2 H1 locs1 hk hT1)
end LX5_trim0x
theorem dL_taught_0 : decode cL_taught 0 = .ok (.iconst 5, 1) := by decide +kernel
theorem dL_taught_1 : decode cL_taught 1 = .ok (.newarray .int, 2) := by decide +kernel
theorem dL_taught_3 : decode cL_taught 3 = .ok (.astore_n 2, 1) := by decide +kernel
theorem dL_taught_4 : decode cL_taught 4 = .ok (.aload_n 0, 1) := by decide +kernel
theorem dL_taught_5 : decode cL_taught 5 = .ok (.iconst 0, 1) := by decide +kernel
theorem dL_taught_6 : decode cL_taught 6 = .ok (.invokevirtual 9, 3) := by decide +kernel
theorem dL_taught_9 : decode cL_taught 9 = .ok (.pop, 1) := by decide +kernel
theorem dL_taught_10 : decode cL_taught 10 = .ok (.iconst 0, 1) := by decide +kernel
theorem dL_taught_11 : decode cL_taught 11 = .ok (.istore_n 3, 1) := by decide +kernel
theorem dL_taught_12 : decode cL_taught 12 = .ok (.iload_n 3, 1) := by decide +kernel
theorem dL_taught_13 : decode cL_taught 13 = .ok (.aload_n 1, 1) := by decide +kernel
theorem dL_taught_14 : decode cL_taught 14 = .ok (.invokevirtual 15, 3) := by decide +kernel
theorem dL_taught_17 : decode cL_taught 17 = .ok (.if_icmp .ge 85, 3) := by decide +kernel
theorem dL_taught_20 : decode cL_taught 20 = .ok (.iconst 0, 1) := by decide +kernel
theorem dL_taught_21 : decode cL_taught 21 = .ok (.istore 4, 2) := by decide +kernel
theorem dL_taught_23 : decode cL_taught 23 = .ok (.iload 4, 2) := by decide +kernel
theorem dL_taught_25 : decode cL_taught 25 = .ok (.bipush 20, 2) := by decide +kernel
theorem dL_taught_27 : decode cL_taught 27 = .ok (.if_icmp .ge 49, 3) := by decide +kernel
theorem dL_taught_30 : decode cL_taught 30 = .ok (.aload_n 2, 1) := by decide +kernel
theorem dL_taught_31 : decode cL_taught 31 = .ok (.iload 4, 2) := by decide +kernel
theorem dL_taught_33 : decode cL_taught 33 = .ok (.iconst 4, 1) := by decide +kernel
theorem dL_taught_34 : decode cL_taught 34 = .ok (.idiv, 1) := by decide +kernel
theorem dL_taught_35 : decode cL_taught 35 = .ok (.aload_n 2, 1) := by decide +kernel
theorem dL_taught_36 : decode cL_taught 36 = .ok (.iload 4, 2) := by decide +kernel
theorem dL_taught_38 : decode cL_taught 38 = .ok (.iconst 4, 1) := by decide +kernel
theorem dL_taught_39 : decode cL_taught 39 = .ok (.idiv, 1) := by decide +kernel
theorem dL_taught_40 : decode cL_taught 40 = .ok (.iaload, 1) := by decide +kernel
theorem dL_taught_41 : decode cL_taught 41 = .ok (.bipush 8, 2) := by decide +kernel
theorem dL_taught_43 : decode cL_taught 43 = .ok (.ishl, 1) := by decide +kernel
theorem dL_taught_44 : decode cL_taught 44 = .ok (.iload_n 3, 1) := by decide +kernel
theorem dL_taught_45 : decode cL_taught 45 = .ok (.iload 4, 2) := by decide +kernel
theorem dL_taught_47 : decode cL_taught 47 = .ok (.iadd, 1) := by decide +kernel
theorem dL_taught_48 : decode cL_taught 48 = .ok (.aload_n 1, 1) := by decide +kernel
theorem dL_taught_49 : decode cL_taught 49 = .ok (.invokevirtual 15, 3) := by decide +kernel
theorem dL_taught_52 : decode cL_taught 52 = .ok (.if_icmp .ge 14, 3) := by decide +kernel
theorem dL_taught_55 : decode cL_taught 55 = .ok (.aload_n 1, 1) := by decide +kernel
theorem dL_taught_56 : decode cL_taught 56 = .ok (.iload_n 3, 1) := by decide +kernel
theorem dL_taught_57 : decode cL_taught 57 = .ok (.iload 4, 2) := by decide +kernel
theorem dL_taught_59 : decode cL_taught 59 = .ok (.iadd, 1) := by decide +kernel
theorem dL_taught_60 : decode cL_taught 60 = .ok (.invokevirtual 21, 3) := by decide +kernel
theorem dL_taught_63 : decode cL_taught 63 = .ok (.goto 5, 3) := by decide +kernel
theorem dL_taught_66 : decode cL_taught 66 = .ok (.bipush 32, 2) := by decide +kernel
theorem dL_taught_68 : decode cL_taught 68 = .ok (.ior, 1) := by decide +kernel
theorem dL_taught_69 : decode cL_taught 69 = .ok (.iastore, 1) := by decide +kernel
theorem dL_taught_70 : decode cL_taught 70 = .ok (.iinc 4 1, 3) := by decide +kernel
theorem dL_taught_73 : decode cL_taught 73 = .ok (.goto (-50), 3) := by decide +kernel
theorem dL_taught_76 : decode cL_taught 76 = .ok (.aload_n 0, 1) := by decide +kernel
theorem dL_taught_77 : decode cL_taught 77 = .ok (.aload_n 2, 1) := by decide +kernel
theorem dL_taught_78 : decode cL_taught 78 = .ok (.iconst 0, 1) := by decide +kernel
theorem dL_taught_79 : decode cL_taught 79 = .ok (.iaload, 1) := by decide +kernel
theorem dL_taught_80 : decode cL_taught 80 = .ok (.aload_n 2, 1) := by decide +kernel
theorem dL_taught_81 : decode cL_taught 81 = .ok (.iconst 1, 1) := by decide +kernel
theorem dL_taught_82 : decode cL_taught 82 = .ok (.iaload, 1) := by decide +kernel
theorem dL_taught_83 : decode cL_taught 83 = .ok (.aload_n 2, 1) := by decide +kernel
theorem dL_taught_84 : decode cL_taught 84 = .ok (.iconst 2, 1) := by decide +kernel
theorem dL_taught_85 : decode cL_taught 85 = .ok (.iaload, 1) := by decide +kernel
theorem dL_taught_86 : decode cL_taught 86 = .ok (.aload_n 2, 1) := by decide +kernel
theorem dL_taught_87 : decode cL_taught 87 = .ok (.iconst 3, 1) := by decide +kernel
theorem dL_taught_88 : decode cL_taught 88 = .ok (.iaload, 1) := by decide +kernel
theorem dL_taught_89 : decode cL_taught 89 = .ok (.aload_n 2, 1) := by decide +kernel
theorem dL_taught_90 : decode cL_taught 90 = .ok (.iconst 4, 1) := by decide +kernel
theorem dL_taught_91 : decode cL_taught 91 = .ok (.iaload, 1) := by decide +kernel
theorem dL_taught_92 : decode cL_taught 92 = .ok (.invokevirtual 25, 3) := by decide +kernel
theorem dL_taught_95 : decode cL_taught 95 = .ok (.pop, 1) := by decide +kernel
theorem dL_taught_96 : decode cL_taught 96 = .ok (.iinc 3 20, 3) := by decide +kernel
theorem dL_taught_99 : decode cL_taught 99 = .ok (.goto (-87), 3) := by decide +kernel
theorem dL_taught_102 : decode cL_taught 102 = .ok (.aload_n 0, 1) := by decide +kernel
theorem dL_taught_103 : decode cL_taught 103 = .ok (.aload_n 1, 1) := by decide +kernel
theorem dL_taught_104 : decode cL_taught 104 = .ok (.invokevirtual 15, 3) := by decide +kernel
theorem dL_taught_107 : decode cL_taught 107 = .ok (.invokevirtual 9, 3) := by decide +kernel
theorem dL_taught_110 : decode cL_taught 110 = .ok (.pop, 1) := by decide +kernel
theorem dL_taught_111 : decode cL_taught 111 = .ok (.aload_n 0, 1) := by decide +kernel
theorem dL_taught_112 : decode cL_taught 112 = .ok (.invokevirtual 29, 3) := by decide +kernel
theorem dL_taught_115 : decode cL_taught 115 = .ok (.ireturn, 1) := by decide +kernel
theorem mi_L_taught : MInfo yL_taught cL_taught 5 (some .int) 2 := ⟨wq_907, wq_64, by decide, ⟨by decide +kernel, by decide +kernel, by decide +kernel⟩, by decide +kernel⟩
def wl_L_taughtT_23 (a : Nat → Nat) (q : Nat → Nat) (q2 : Nat → Nat) (tn : Nat) (tb : Nat → Int32) (C12 : Nat → Nat → Nat → M2 → M2 → M2 → M2 → M2 → L2 → M2 → M2 → Int32 → Prop) (K : Int32 → Nat → Nat → Nat → M2 → M2 → M2 → M2 → M2 → L2 → M2 → Prop) : Nat → Nat → Nat → Nat → M2 → M2 → M2 → M2 → M2 → L2 → M2 → M2 → Int32 → Int32 → Prop
  | 0, _, _, _, _, _, _, _, _, _, _, _, _, _ => False
  | n + 1, ap, bp, rp, C, T, G, P, Y, L, B, J, v3, v4 => ((20 ≤ v4 → (inb 0 5 ∧ (inb 1 5 ∧ (inb 2 5 ∧ (inb 3 5 ∧ (inb 4 5 ∧ wp_X5_feed (fun _ => False) B C (J 0 (0 : Int32).toInt.toNat) (J 0 (1 : Int32).toInt.toNat) (J 0 (2 : Int32).toInt.toNat) (J 0 (3 : Int32).toInt.toNat) (J 0 (4 : Int32).toInt.toNat) (fun r_92 B_92 C_92 => (∀ v3_96 : Int32, v3_96 = v3 + 20 → C12 ap bp rp C_92 T G P Y L B_92 J v3_96)))))))) ∧ (¬ 20 ≤ v4 → (inb (v4 / 4) 5 ∧ (((Int32.ofNat tn) ≤ (v3 + v4) → (inb (v4 / 4) 5 ∧ ∀ J_69 : M2, J_69 = up2 J 0 (upd (J 0) (v4 / 4).toInt.toNat (((J 0 (v4 / 4).toInt.toNat) <<< (8 &&& 31)) ||| 32)) → (∀ v4_70 : Int32, v4_70 = v4 + 1 → wl_L_taughtT_23 a q q2 tn tb C12 K n ap bp rp C T G P Y L B J_69 v3 v4_70))) ∧ (¬ (Int32.ofNat tn) ≤ (v3 + v4) → (inb (v3 + v4) tn ∧ (inb (v4 / 4) 5 ∧ ∀ J_69 : M2, J_69 = up2 J 0 (upd (J 0) (v4 / 4).toInt.toNat (((J 0 (v4 / 4).toInt.toNat) <<< (8 &&& 31)) ||| (chv tb (v3 + v4)))) → (∀ v4_70 : Int32, v4_70 = v4 + 1 → wl_L_taughtT_23 a q q2 tn tb C12 K n ap bp rp C T G P Y L B J_69 v3 v4_70))))))))
def wl_L_taughtT_12 (a : Nat → Nat) (q : Nat → Nat) (q2 : Nat → Nat) (tn : Nat) (tb : Nat → Int32) (K : Int32 → Nat → Nat → Nat → M2 → M2 → M2 → M2 → M2 → L2 → M2 → Prop) : Nat → Nat → Nat → Nat → M2 → M2 → M2 → M2 → M2 → L2 → M2 → M2 → Int32 → Prop
  | 0, _, _, _, _, _, _, _, _, _, _, _, _ => False
  | n + 1, ap, bp, rp, C, T, G, P, Y, L, B, J, v3 => (((Int32.ofNat tn) ≤ v3 → wp_X5_trim (fun _ => False) B C (Int32.ofNat tn) (fun r_107 B_107 C_107 => wp_X5_teach a q q2 ap bp rp C_107 T G P Y L B_107 K)) ∧ (¬ (Int32.ofNat tn) ≤ v3 → wl_L_taughtT_23 a q q2 tn tb (wl_L_taughtT_12 a q q2 tn tb K n) K fK ap bp rp C T G P Y L B J v3 0))
def wp_L_taughtT (a : Nat → Nat) (q : Nat → Nat) (q2 : Nat → Nat) (tn : Nat) (tb : Nat → Int32) (ap : Nat) (bp : Nat) (rp : Nat) (C : M2) (T : M2) (G : M2) (P : M2) (Y : M2) (L : L2) (B : M2) (J : M2) (K : Int32 → Nat → Nat → Nat → M2 → M2 → M2 → M2 → M2 → L2 → M2 → Prop) : Prop := wp_X5_trim (fun _ => False) B C 0 (fun r_6 B_6 C_6 => wl_L_taughtT_12 a q q2 tn tb K fK ap bp rp C_6 T G P Y L B_6 J 0)
set_option maxRecDepth 100000 in
set_option maxHeartbeats 8000000 in
theorem t_L_taughtT {p : Program} {l : Launch} {e : Env} {s : State} {m : MethodId} {args : Array Value} {below : List Frame} {meth : Method} {c : Code} {Q : State → Prop} {A : Nat → Prop} {D : va_G} {Z : Nat → ClassId} {a t b q q2 rx : Nat → Nat} {fv sq sv tn : Nat} {tb : Nat → Int32} {ap : Nat} {bp : Nat} {rp : Nat} {C : M2} {T : M2} {G : M2} {P : M2} {Y : M2} {L : L2} {B : M2} {J : M2} {K : Int32 → Nat → Nat → Nat → M2 → M2 → M2 → M2 → M2 → L2 → M2 → Prop} {H : Heap} {locs : List Loc} {ls : Array Slot} (hC : CallFix p m c cL_taught 5 s args lw_g yL_taught.cls) (hN : NW s) (hR : RS rx sq sv tn tb A s s.heap) (hK : va_K D vwCl (tysG Z) s) (htn : tn < 2 ^ 31) (hT : TS vwCl D (TA Z a t b q q2 rx fv ap bp rp C T G P Y L B J) A s.heap H locs) (hm : wp_L_taughtT a q q2 tn tb ap bp rp C T G P Y L B J K) (hret : ∀ (pc : Nat) (ls : Array Slot) (H : Heap) (locs : List Loc) (r : Int32) (u : (Nat → Nat) × (Nat → Nat) × Nat × Nat × Nat × M2 × M2 × M2 × M2 × M2 × L2 × M2), (fun (r : Int32) (u : (Nat → Nat) × (Nat → Nat) × Nat × Nat × Nat × M2 × M2 × M2 × M2 × M2 × L2 × M2) => K r u.2.2.1 u.2.2.2.1 u.2.2.2.2.1 u.2.2.2.2.2.1 u.2.2.2.2.2.2.1 u.2.2.2.2.2.2.2.1 u.2.2.2.2.2.2.2.2.1 u.2.2.2.2.2.2.2.2.2.1 u.2.2.2.2.2.2.2.2.2.2.1 u.2.2.2.2.2.2.2.2.2.2.2) r u → TS vwCl D ((fun u : (Nat → Nat) × (Nat → Nat) × Nat × Nat × Nat × M2 × M2 × M2 × M2 × M2 × L2 × M2 => LC Z a t b u.1 u.2.1 rx u.2.2.1 u.2.2.2.1 u.2.2.2.2.1 u.2.2.2.2.2.1 u.2.2.2.2.2.2.1 u.2.2.2.2.2.2.2.1 u.2.2.2.2.2.2.2.2.1 u.2.2.2.2.2.2.2.2.2.1 u.2.2.2.2.2.2.2.2.2.2.1 u.2.2.2.2.2.2.2.2.2.2.2) u) A s.heap H locs → narrow .int (.int r) = .int r → decode cL_taught pc = .ok (.ireturn, 1) → W p l e (rk 135 1 5) s m args below meth c H locs 1 5 Q (F0 m pc ls [.int r])) (hl : lv_has ls 5 [(2, .ref (fv)), (0, .ref (a 90)), (1, .ref sq)]) : W p l e (rk 135 1 5) s m args below meth c H locs 1 5 Q (F0 m 4 ls []) := by
  have hx := hC.1
  have hb := hC.2.1
  have L12 : ∀ (n12 : Nat), ∀ (ap : Nat) (bp : Nat) (rp : Nat) (C : M2) (T : M2) (G : M2) (P : M2) (Y : M2) (L : L2) (B : M2) (J : M2) (v3 : Int32) (H : Heap) (locs : List Loc) (ls : Array Slot), wl_L_taughtT_12 a q q2 tn tb K n12 ap bp rp C T G P Y L B J v3 → TS vwCl D (TA Z a t b q q2 rx fv ap bp rp C T G P Y L B J) A s.heap H locs → lv_has ls 5 [(0, .ref (a 90)), (1, .ref sq), (2, .ref (fv)), (3, .int v3)] → W p l e (rk 135 1 5) s m args below meth c H locs 1 5 Q (F0 m 12 ls []) := by
    intro n12
    induction n12 with
    | zero =>
      intro ap bp rp C T G P Y L B J v3 H locs ls hm hT hl
      exact False.elim hm
    | succ n12 ih12 =>
      have L23 : ∀ (n23 : Nat), ∀ (ap : Nat) (bp : Nat) (rp : Nat) (C : M2) (T : M2) (G : M2) (P : M2) (Y : M2) (L : L2) (B : M2) (J : M2) (v3 : Int32) (v4 : Int32) (H : Heap) (locs : List Loc) (ls : Array Slot), wl_L_taughtT_23 a q q2 tn tb (wl_L_taughtT_12 a q q2 tn tb K n12) K n23 ap bp rp C T G P Y L B J v3 v4 → TS vwCl D (TA Z a t b q q2 rx fv ap bp rp C T G P Y L B J) A s.heap H locs → lv_has ls 5 [(0, .ref (a 90)), (1, .ref sq), (2, .ref (fv)), (3, .int v3), (4, .int v4)] → W p l e (rk 135 1 5) s m args below meth c H locs 1 5 Q (F0 m 23 ls []) := by
        intro n23
        induction n23 with
        | zero =>
          intro ap bp rp C T G P Y L B J v3 v4 H locs ls hm hT hl
          exact False.elim hm
        | succ n23 ih23 =>
          intro ap bp rp C T G P Y L B J v3 v4 H locs ls hm hT hl
          refine lv_iload hx hb dL_taught_23 (lv_at hl 4 rfl) ?_
          refine lv_bipush (v := 20) hx hb dL_taught_25 (by decide) ?_
          refine lv_icmp_ge (tgt := 76) hx hb dL_taught_27 (by decide) (fun c_27 => ?_) (fun c_27 => ?_)
          · have hm := hm.1 c_27
            refine lv_aload_n hx hb dL_taught_76 rfl (lv_at hl 0 rfl) ?_
            refine lv_aload_n hx hb dL_taught_77 rfl (lv_at hl 2 rfl) ?_
            refine lv_iconst (v := 0) hx hb dL_taught_78 (by decide) ?_
            refine w_iald (q0 := 79) hC hK hT.1 rfl hm.1 dL_taught_79 ?_
            have hm := hm.2
            refine lv_aload_n hx hb dL_taught_80 rfl (lv_at hl 2 rfl) ?_
            refine lv_iconst (v := 1) hx hb dL_taught_81 (by decide) ?_
            refine w_iald (q0 := 79) hC hK hT.1 rfl hm.1 dL_taught_82 ?_
            have hm := hm.2
            refine lv_aload_n hx hb dL_taught_83 rfl (lv_at hl 2 rfl) ?_
            refine lv_iconst (v := 2) hx hb dL_taught_84 (by decide) ?_
            refine w_iald (q0 := 79) hC hK hT.1 rfl hm.1 dL_taught_85 ?_
            have hm := hm.2
            refine lv_aload_n hx hb dL_taught_86 rfl (lv_at hl 2 rfl) ?_
            refine lv_iconst (v := 3) hx hb dL_taught_87 (by decide) ?_
            refine w_iald (q0 := 79) hC hK hT.1 rfl hm.1 dL_taught_88 ?_
            have hm := hm.2
            refine lv_aload_n hx hb dL_taught_89 rfl (lv_at hl 2 rfl) ?_
            refine lv_iconst (v := 4) hx hb dL_taught_90 (by decide) ?_
            refine w_iald (q0 := 79) hC hK hT.1 rfl hm.1 dL_taught_91 ?_
            have hm := hm.2
            refine kx_X5_feed hC hN hK hT (cx_CTTA Z a t b q q2 rx fv ap bp rp C T G P Y L B J) rfl hm wq_915 (by decide) hl.1 (Nat.le_of_ble_eq_true rfl) ⟨Nat.le_refl _, Nat.le_refl _⟩ dL_taught_92 (fun r_92 B_92 C_92 H locs hm hT => ?_)
            have hT : TS vwCl D (TA Z a t b q q2 rx fv ap bp rp C_92 T G P Y L B_92 J) A s.heap H locs := hT
            refine lv_pop hx hb dL_taught_95 rfl ?_
            obtain ⟨v3_96, ev3_96⟩ : ∃ y : Int32, y = v3 + 20 := ⟨_, rfl⟩
            have hm := hm v3_96 ev3_96
            refine lv_iinc (v := v3_96) (lv' := [(3, .int v3_96), (0, .ref (a 90)), (1, .ref sq), (2, .ref (fv)), (4, .int v4)]) hx hb dL_taught_96 hl (k := 3) rfl (by rw [ev3_96]; rfl) (by decide) rfl (fun ls hl => ?_)
            refine lv_goto (tgt := 12) hx hb dL_taught_99 (by decide) ?_
            exact ih12 _ _ _ _ _ _ _ _ _ _ _ _ _ _ _ hm hT (lv_sub hl [1, 2, 3, 0] rfl)
          · have hm := hm.2 c_27
            refine lv_aload_n hx hb dL_taught_30 rfl (lv_at hl 2 rfl) ?_
            refine lv_iload hx hb dL_taught_31 (lv_at hl 4 rfl) ?_
            refine lv_iconst (v := 4) hx hb dL_taught_33 (by decide) ?_
            refine lv_idiv hx hb dL_taught_34 (by decide) ?_
            refine lv_aload_n hx hb dL_taught_35 rfl (lv_at hl 2 rfl) ?_
            refine lv_iload hx hb dL_taught_36 (lv_at hl 4 rfl) ?_
            refine lv_iconst (v := 4) hx hb dL_taught_38 (by decide) ?_
            refine lv_idiv hx hb dL_taught_39 (by decide) ?_
            refine w_iald (q0 := 79) hC hK hT.1 rfl hm.1 dL_taught_40 ?_
            have hm := hm.2
            refine lv_bipush (v := 8) hx hb dL_taught_41 (by decide) ?_
            refine lv_ishl hx hb dL_taught_43 ?_
            refine lv_iload_n hx hb dL_taught_44 rfl (lv_at hl 3 rfl) ?_
            refine lv_iload hx hb dL_taught_45 (lv_at hl 4 rfl) ?_
            refine lv_iadd hx hb dL_taught_47 ?_
            refine lv_aload_n hx hb dL_taught_48 rfl (lv_at hl 1 rfl) ?_
            refine w_slenS hC hR hT.2.2.1 wq_913 (by decide) hl.1 (Nat.le_of_ble_eq_true rfl) ⟨Nat.le_refl _, Nat.le_refl _⟩ dL_taught_49 ?_
            refine lv_icmp_ge (tgt := 66) hx hb dL_taught_52 (by decide) (fun c_52 => ?_) (fun c_52 => ?_)
            · have hm := hm.1 c_52
              refine lv_bipush (v := 32) hx hb dL_taught_66 (by decide) ?_
              refine lv_ior hx hb dL_taught_68 ?_
              refine sTA_five hC hK hT hm.1 dL_taught_69 (fun J_69 eJ_69 H locs hT => ?_)
              have hm := hm.2 J_69 eJ_69
              obtain ⟨v4_70, ev4_70⟩ : ∃ y : Int32, y = v4 + 1 := ⟨_, rfl⟩
              have hm := hm v4_70 ev4_70
              refine lv_iinc (v := v4_70) (lv' := [(4, .int v4_70), (0, .ref (a 90)), (1, .ref sq), (2, .ref (fv)), (3, .int v3)]) hx hb dL_taught_70 hl (k := 4) rfl (by rw [ev4_70]; rfl) (by decide) rfl (fun ls hl => ?_)
              refine lv_goto (tgt := 23) hx hb dL_taught_73 (by decide) ?_
              exact ih23 _ _ _ _ _ _ _ _ _ _ _ _ _ _ _ _ hm hT (lv_sub hl [1, 2, 3, 4, 0] rfl)
            · have hm := hm.2 c_52
              refine lv_aload_n hx hb dL_taught_55 rfl (lv_at hl 1 rfl) ?_
              refine lv_iload_n hx hb dL_taught_56 rfl (lv_at hl 3 rfl) ?_
              refine lv_iload hx hb dL_taught_57 (lv_at hl 4 rfl) ?_
              refine lv_iadd hx hb dL_taught_59 ?_
              refine w_scharS hC hR hT.2.2.1 htn hm.1 wq_914 (by decide) hl.1 (Nat.le_of_ble_eq_true rfl) ⟨Nat.le_refl _, Nat.le_refl _⟩ dL_taught_60 ?_
              have hm := hm.2
              refine lv_goto (tgt := 68) hx hb dL_taught_63 (by decide) ?_
              refine lv_ior hx hb dL_taught_68 ?_
              refine sTA_five hC hK hT hm.1 dL_taught_69 (fun J_69 eJ_69 H locs hT => ?_)
              have hm := hm.2 J_69 eJ_69
              obtain ⟨v4_70, ev4_70⟩ : ∃ y : Int32, y = v4 + 1 := ⟨_, rfl⟩
              have hm := hm v4_70 ev4_70
              refine lv_iinc (v := v4_70) (lv' := [(4, .int v4_70), (0, .ref (a 90)), (1, .ref sq), (2, .ref (fv)), (3, .int v3)]) hx hb dL_taught_70 hl (k := 4) rfl (by rw [ev4_70]; rfl) (by decide) rfl (fun ls hl => ?_)
              refine lv_goto (tgt := 23) hx hb dL_taught_73 (by decide) ?_
              exact ih23 _ _ _ _ _ _ _ _ _ _ _ _ _ _ _ _ hm hT (lv_sub hl [1, 2, 3, 4, 0] rfl)
      intro ap bp rp C T G P Y L B J v3 H locs ls hm hT hl
      refine lv_iload_n hx hb dL_taught_12 rfl (lv_at hl 3 rfl) ?_
      refine lv_aload_n hx hb dL_taught_13 rfl (lv_at hl 1 rfl) ?_
      refine w_slenS hC hR hT.2.2.1 wq_913 (by decide) hl.1 (Nat.le_of_ble_eq_true rfl) ⟨Nat.le_refl _, Nat.le_refl _⟩ dL_taught_14 ?_
      refine lv_icmp_ge (tgt := 102) hx hb dL_taught_17 (by decide) (fun c_17 => ?_) (fun c_17 => ?_)
      · have hm := hm.1 c_17
        refine lv_aload_n hx hb dL_taught_102 rfl (lv_at hl 0 rfl) ?_
        refine lv_aload_n hx hb dL_taught_103 rfl (lv_at hl 1 rfl) ?_
        refine w_slenS hC hR hT.2.2.1 wq_913 (by decide) hl.1 (Nat.le_of_ble_eq_true rfl) ⟨Nat.le_refl _, Nat.le_refl _⟩ dL_taught_104 ?_
        refine kx_X5_trim hC hN hK hT (cx_CTTA Z a t b q q2 rx fv ap bp rp C T G P Y L B J) rfl hm wq_908 (by decide) hl.1 (Nat.le_of_ble_eq_true rfl) ⟨Nat.le_refl _, Nat.le_refl _⟩ dL_taught_107 (fun r_107 B_107 C_107 H locs hm hT => ?_)
        have hT : TS vwCl D (TA Z a t b q q2 rx fv ap bp rp C_107 T G P Y L B_107 J) A s.heap H locs := hT
        refine lv_pop hx hb dL_taught_110 rfl ?_
        refine lv_aload_n hx hb dL_taught_111 rfl (lv_at hl 0 rfl) ?_
        have hT : TS vwCl D (LC Z a t b q q2 rx ap bp rp C_107 T G P Y L B_107 ++ [(fv, .inl (Z 0, 5, .inl (J 0)))]) A s.heap _ _ := hT
        refine goI (u0 := (q, q2, ap, bp, rp, C_107, T, G, P, Y, L, B_107)) (wsF := (fun u : (Nat → Nat) × (Nat → Nat) × Nat × Nat × Nat × M2 × M2 × M2 × M2 × M2 × L2 × M2 => LC Z a t b u.1 u.2.1 rx u.2.2.1 u.2.2.2.1 u.2.2.2.2.1 u.2.2.2.2.2.1 u.2.2.2.2.2.2.1 u.2.2.2.2.2.2.2.1 u.2.2.2.2.2.2.2.2.1 u.2.2.2.2.2.2.2.2.2.1 u.2.2.2.2.2.2.2.2.2.2.1 u.2.2.2.2.2.2.2.2.2.2.2)) (runVR (r := rx) (As := []) hC hN (((RD.rg rx).appL (hT.rg (RD.rg rx) hR.1))) (c_X5_teach l D Z a t b q q2 rx ap bp rp C_107 T G P Y L B_107 _ K hm) mi_X5_teach wq_939 wq_940 wq_941 (by decide) hT.dropR.1 hT.dropR.D' hK (q0 := 0) rfl rfl rfl hl.1 rfl (Nat.le_of_ble_eq_true rfl) dL_taught_112 ⟨by omega, by omega⟩) rfl hT (fun r u H locs hk hT => ?_)
        exact hret 115 ls H locs r u hk hT.dropR rfl dL_taught_115
      · have hm := hm.2 c_17
        refine lv_iconst (v := 0) hx hb dL_taught_20 (by decide) ?_
        refine lv_istore (lv' := [(4, .int 0), (0, .ref (a 90)), (1, .ref sq), (2, .ref (fv)), (3, .int v3)]) hx hb dL_taught_21 hl (by decide) rfl (fun ls hl => ?_)
        exact L23 _ _ _ _ _ _ _ _ _ _ _ _ _ _ _ _ _ hm hT (lv_sub hl [1, 2, 3, 4, 0] rfl)
  refine lv_aload_n hx hb dL_taught_4 rfl (lv_at hl 1 rfl) ?_
  refine lv_iconst (v := 0) hx hb dL_taught_5 (by decide) ?_
  refine kx_X5_trim hC hN hK hT (cx_CTTA Z a t b q q2 rx fv ap bp rp C T G P Y L B J) rfl hm wq_908 (by decide) hl.1 (Nat.le_of_ble_eq_true rfl) ⟨Nat.le_refl _, Nat.le_refl _⟩ dL_taught_6 (fun r_6 B_6 C_6 H locs hm hT => ?_)
  have hT : TS vwCl D (TA Z a t b q q2 rx fv ap bp rp C_6 T G P Y L B_6 J) A s.heap H locs := hT
  refine lv_pop hx hb dL_taught_9 rfl ?_
  refine lv_iconst (v := 0) hx hb dL_taught_10 (by decide) ?_
  refine lv_istore_n (lv' := [(3, .int 0), (2, .ref (fv)), (0, .ref (a 90)), (1, .ref sq)]) hx hb dL_taught_11 rfl hl (by decide) rfl (fun ls hl => ?_)
  exact L12 _ _ _ _ _ _ _ _ _ _ _ _ _ _ _ _ hm hT (lv_sub hl [2, 3, 1, 0] rfl)
def wp_L_taught (a q q2 : Nat → Nat) (tn : Nat) (tb : Nat → Int32) (ap : Nat) (bp : Nat) (rp : Nat) (C : M2) (T : M2) (G : M2) (P : M2) (Y : M2) (L : L2) (B : M2) (K : Int32 → Nat → Nat → Nat → M2 → M2 → M2 → M2 → M2 → L2 → M2 → Prop) : Prop := wp_L_taughtT a q q2 tn tb ap bp rp C T G P Y L B zM K
set_option maxRecDepth 100000 in
set_option maxHeartbeats 1000000 in
theorem c_L_taught (l : Launch) (D : va_G) (Z : Nat → ClassId) (a t b q q2 rx : Nat → Nat) (sz sq sv tn : Nat) (tb : Nat → Int32) (htn : tn < 2 ^ 31) (ap : Nat) (bp : Nat) (rp : Nat) (C : M2) (T : M2) (G : M2) (P : M2) (Y : M2) (L : L2) (B : M2) (K : Int32 → Nat → Nat → Nat → M2 → M2 → M2 → M2 → M2 → L2 → M2 → Prop) (hm : wp_L_taught a q q2 tn tb ap bp rp C T G P Y L B K) : Met l yL_taught (wy yL_taught cL_taught 5 (some .int)) (rk 135 1 5) (preG (RS rx sq sv tn tb) vwCl D Z (LC Z a t b q q2 rx ap bp rp C T G P Y L B) sz [.ref (a 90), .ref sq]) (poI vwCl D Z (fun u : (Nat → Nat) × (Nat → Nat) × Nat × Nat × Nat × M2 × M2 × M2 × M2 × M2 × L2 × M2 => LC Z a t b u.1 u.2.1 rx u.2.2.1 u.2.2.2.1 u.2.2.2.2.1 u.2.2.2.2.2.1 u.2.2.2.2.2.2.1 u.2.2.2.2.2.2.2.1 u.2.2.2.2.2.2.2.2.1 u.2.2.2.2.2.2.2.2.2.1 u.2.2.2.2.2.2.2.2.2.2.1 u.2.2.2.2.2.2.2.2.2.2.2) (q, q2, ap, bp, rp, C, T, G, P, Y, L, B) sz (fun (r : Int32) (u : (Nat → Nat) × (Nat → Nat) × Nat × Nat × Nat × M2 × M2 × M2 × M2 × M2 × L2 × M2) => K r u.2.2.1 u.2.2.2.1 u.2.2.2.2.1 u.2.2.2.2.2.1 u.2.2.2.2.2.2.1 u.2.2.2.2.2.2.2.1 u.2.2.2.2.2.2.2.2.1 u.2.2.2.2.2.2.2.2.2.1 u.2.2.2.2.2.2.2.2.2.2.1 u.2.2.2.2.2.2.2.2.2.2.2)) 1 5 (va_A (LC Z a t b q q2 rx ap bp rp C T G P Y L B) sz) := by
  refine rw_ofG (ty := .int) (wsF := (fun u : (Nat → Nat) × (Nat → Nat) × Nat × Nat × Nat × M2 × M2 × M2 × M2 × M2 × L2 × M2 => LC Z a t b u.1 u.2.1 rx u.2.2.1 u.2.2.2.1 u.2.2.2.2.1 u.2.2.2.2.2.1 u.2.2.2.2.2.2.1 u.2.2.2.2.2.2.2.1 u.2.2.2.2.2.2.2.2.1 u.2.2.2.2.2.2.2.2.2.1 u.2.2.2.2.2.2.2.2.2.2.1 u.2.2.2.2.2.2.2.2.2.2.2)) (u0 := (q, q2, ap, bp, rp, C, T, G, P, Y, L, B)) (by decide +kernel) (Nat.le_of_ble_eq_true rfl) rfl ?_
  intro p e s m args below meth c Q A hC hN hR hsz hT hK hret ls hl
  have hx := hC.1
  have hb := hC.2.1
  have hl : lv_has ls 5 [(0, .ref (a 90)), (1, .ref sq)] := hl
  have hT : TS vwCl D (LC Z a t b q q2 rx ap bp rp C T G P Y L B) A s.heap s.heap [] := hT
  refine lv_iconst (v := 5) hx hb dL_taught_0 (by decide) ?_
  refine w_newI (N := 5) hC hK hT wq_240 (by decide) (by decide) (by decide) (Nat.le_of_ble_eq_true rfl) (Nat.le_of_ble_eq_true rfl) dL_taught_1 (fun fv H hT => ?_)
  refine lv_astore_n (lv' := [(2, .ref fv), (0, .ref (a 90)), (1, .ref sq)]) hx hb dL_taught_3 rfl hl (by decide) rfl (fun ls hl => ?_)
  have hT : TS vwCl D (TA Z a t b q q2 rx fv ap bp rp C T G P Y L B zM) A s.heap H _ := hT
  exact t_L_taughtT hC hN hR hK htn hT hm hret hl
