/-! ===== orders read ===== -/
section ORR
variable {κ : Nat → Int32} {m : Nat} {val : Nat → Int64} {F G : M2} {L L' : L2} {p q : Nat} {aa qq : Nat → Nat} {V S W B O : M2} {nl nb jb js jl ja jo : Nat}
def num (n : Nat) : Option Int64 := some (Int64.ofNat n)
def tkT (e n m l b : Nat) : List (Int32 × Option Int64) := match e with
  | 0 => [(5, none), (18, none), (4, num (n % 7 + 1)), (17, none), (4, num (n % 7 + 1)), (21, none), (5, none)]
  | 1 => [(7, none), (3, num 1), (20, none), (7, none), (3, num 0)]
  | 2 => [(7, none), (3, num 0), (21, none), (4, num 0), (24, none), (13, none), (10, none), (2, some (nmc 98 b))]
  | 3 => [(12, none), (28, none), (4, num n), (29, none), (19, none), (4, num m)]
  | 4 => [(8, none), (2, some (nmc 109 l)), (19, none), (4, num m)]
  | 5 => [(13, none), (11, none), (2, some (nmc 109 l)), (25, none), (9, none), (2, some (nmc 98 b)), (23, none), (4, num n)]
  | 6 => [(6, none), (21, none), (4, num 1), (24, none), (30, none), (5, none), (20, none), (4, num n), (25, none), (12, none), (28, none), (9, none), (2, some (nmc 98 b)), (29, none), (20, none), (4, num m), (31, none)]
  | _ => [(26, none), (28, none), (7, none), (3, num 0), (33, none), (4, num n), (29, none), (16, none), (7, none), (3, num 1), (19, none), (4, num 1)]
theorem ov_num {op : Int32} {t : Nat} (h : op = 4 ∨ op = 7) : opV val F L (op, t) = (val t).toInt32 := if_pos h
theorem ov_L {op : Int32} {t : Nat} (h : op = 8 ∨ op = 11) : opV val F L (op, t) = idx (L 63) (F 23 0) 6 (val t) := by
  unfold opV
  rw [if_neg (by rcases h with y | y <;> (show ¬ (op = 4 ∨ op = 7)) <;> rw [y] <;> decide), if_pos h]
theorem ov_O {op : Int32} {t : Nat} (h : op = 9 ∨ op = 10) : opV val F L (op, t) = idx (L 64) (F 24 0) 8 (val t) := by
  unfold opV
  rw [if_neg (by rcases h with y | y <;> (show ¬ (op = 4 ∨ op = 7)) <;> rw [y] <;> decide), if_neg (by rcases h with y | y <;> (show ¬ (op = 8 ∨ op = 11)) <;> rw [y] <;> decide), if_pos h]
theorem ov_0 {op : Int32} {t : Nat} (h1 : ¬ (op = 4 ∨ op = 7)) (h2 : ¬ (op = 8 ∨ op = 11)) (h3 : ¬ (op = 9 ∨ op = 10)) : opV val F L (op, t) = 0 := by
  unfold opV
  rw [if_neg h1, if_neg h2, if_neg h3]
def NMk : List (Int32 × Int32) → Prop
  | [] => True
  | y :: ys => (isNm y.1 → ¬ y.2 = -1) ∧ NMk ys
theorem NMk.all : ∀ {ys : List (Int32 × Int32)}, NMk ys → ∀ y ∈ ys, isNm y.1 → ¬ y.2 = -1
  | [], _, _, h => nomatch h
  | y :: ys, h, z, hz => by
    rcases List.mem_cons.mp hz with e | e
    · rw [e]; exact h.1
    · exact NMk.all h.2 z e
theorem pt_test (hK : KIN κ m) {e n k l b : Nat} (he : e < 8) (hn : n < 40) (hk : k < 100) (hl : l < jl) (hb : b < ja) (hjl : jl ≤ 5) (hja : ja ≤ 5) (c23 : F 23 0 = nI jl) (c24 : F 24 0 = nI ja) (n63 : NMS (L 63) 109 jl) (n64 : NMS (L 64) 98 ja) (hT : TOK κ val p (tkT e n k l b ++ [(32, none)])) (hp : p + (tkT e n k l b).length < m) : ∃ its, PZ κ m val 30 0 0 p (p + (tkT e n k l b).length) its ∧ its.map (fun x => (x.1, opV val F L x)) = opsT e n k l b ∧ NMk (opsT e n k l b) := by
  have hcs : e = 0 ∨ e = 1 ∨ e = 2 ∨ e = 3 ∨ e = 4 ∨ e = 5 ∨ e = 6 ∨ e = 7 := by omega
  rcases hcs with rfl | rfl | rfl | rfl | rfl | rfl | rfl | rfl
  · refine ⟨[(5, 0), (4, p + 2), (18, 0), (4, p + 4), (17, 0), (5, 0), (21, 0)], q_0 hK hp (hT.kd (r := []) rfl), ?_, ⟨fun z => absurd (show isNm 5 from z) (by decide), fun z => absurd (show isNm 4 from z) (by decide), fun z => absurd (show isNm 18 from z) (by decide), fun z => absurd (show isNm 4 from z) (by decide), fun z => absurd (show isNm 17 from z) (by decide), fun z => absurd (show isNm 5 from z) (by decide), fun z => absurd (show isNm 21 from z) (by decide), trivial⟩⟩
    have w5_0 : opV val F L (5, 0) = 0 := ov_0 (by decide) (by decide) (by decide)
    have w4_2 : opV val F L (4, p + 2) = nI (n % 7 + 1) := (ov_num (by decide)).trans (by rw [(hT 2 (show 2 < 8 by decide)).2 _ rfl]; exact ofNat64_32 (by omega))
    have w18_0 : opV val F L (18, 0) = 0 := ov_0 (by decide) (by decide) (by decide)
    have w4_4 : opV val F L (4, p + 4) = nI (n % 7 + 1) := (ov_num (by decide)).trans (by rw [(hT 4 (show 4 < 8 by decide)).2 _ rfl]; exact ofNat64_32 (by omega))
    have w17_0 : opV val F L (17, 0) = 0 := ov_0 (by decide) (by decide) (by decide)
    have w21_0 : opV val F L (21, 0) = 0 := ov_0 (by decide) (by decide) (by decide)
    show [((5 : Int32), opV val F L (5, 0)), ((4 : Int32), opV val F L (4, p + 2)), ((18 : Int32), opV val F L (18, 0)), ((4 : Int32), opV val F L (4, p + 4)), ((17 : Int32), opV val F L (17, 0)), ((5 : Int32), opV val F L (5, 0)), ((21 : Int32), opV val F L (21, 0))] = _
    rw [w5_0, w4_2, w18_0, w4_4, w17_0, w21_0]
    rfl
  · refine ⟨[(7, p + 1), (7, p + 4), (20, 0)], q_1 hK hp (hT.kd (r := []) rfl), ?_, ⟨fun z => absurd (show isNm 7 from z) (by decide), fun z => absurd (show isNm 7 from z) (by decide), fun z => absurd (show isNm 20 from z) (by decide), trivial⟩⟩
    have w7_1 : opV val F L (7, p + 1) = nI (1) := (ov_num (by decide)).trans (by rw [(hT 1 (show 1 < 6 by decide)).2 _ rfl]; exact ofNat64_32 (by omega))
    have w7_4 : opV val F L (7, p + 4) = nI (0) := (ov_num (by decide)).trans (by rw [(hT 4 (show 4 < 6 by decide)).2 _ rfl]; exact ofNat64_32 (by omega))
    have w20_0 : opV val F L (20, 0) = 0 := ov_0 (by decide) (by decide) (by decide)
    show [((7 : Int32), opV val F L (7, p + 1)), ((7 : Int32), opV val F L (7, p + 4)), ((20 : Int32), opV val F L (20, 0))] = _
    rw [w7_1, w7_4, w20_0]
    rfl
  · refine ⟨[(7, p + 1), (4, p + 3), (21, 0), (10, p + 7), (13, 0), (24, 0)], q_2 hK hp (hT.kd (r := []) rfl), ?_, ⟨fun z => absurd (show isNm 7 from z) (by decide), fun z => absurd (show isNm 4 from z) (by decide), fun z => absurd (show isNm 21 from z) (by decide), fun _ => nI_nm1 (by omega), fun z => absurd (show isNm 13 from z) (by decide), fun z => absurd (show isNm 24 from z) (by decide), trivial⟩⟩
    have w7_1 : opV val F L (7, p + 1) = nI (0) := (ov_num (by decide)).trans (by rw [(hT 1 (show 1 < 9 by decide)).2 _ rfl]; exact ofNat64_32 (by omega))
    have w4_3 : opV val F L (4, p + 3) = nI (0) := (ov_num (by decide)).trans (by rw [(hT 3 (show 3 < 9 by decide)).2 _ rfl]; exact ofNat64_32 (by omega))
    have w21_0 : opV val F L (21, 0) = 0 := ov_0 (by decide) (by decide) (by decide)
    have w10_7 : opV val F L (10, p + 7) = nI b := (ov_O (by decide)).trans (by rw [c24, (hT 7 (show 7 < 9 by decide)).2 _ rfl]; exact n64.hit (by decide) (by omega) (by omega) (by decide) hb)
    have w13_0 : opV val F L (13, 0) = 0 := ov_0 (by decide) (by decide) (by decide)
    have w24_0 : opV val F L (24, 0) = 0 := ov_0 (by decide) (by decide) (by decide)
    show [((7 : Int32), opV val F L (7, p + 1)), ((4 : Int32), opV val F L (4, p + 3)), ((21 : Int32), opV val F L (21, 0)), ((10 : Int32), opV val F L (10, p + 7)), ((13 : Int32), opV val F L (13, 0)), ((24 : Int32), opV val F L (24, 0))] = _
    rw [w7_1, w4_3, w21_0, w10_7, w13_0, w24_0]
    rfl
  · refine ⟨[(4, p + 2), (12, 0), (4, p + 5), (19, 0)], q_3 hK hp (hT.kd (r := []) rfl), ?_, ⟨fun z => absurd (show isNm 4 from z) (by decide), fun z => absurd (show isNm 12 from z) (by decide), fun z => absurd (show isNm 4 from z) (by decide), fun z => absurd (show isNm 19 from z) (by decide), trivial⟩⟩
    have w4_2 : opV val F L (4, p + 2) = nI (n) := (ov_num (by decide)).trans (by rw [(hT 2 (show 2 < 7 by decide)).2 _ rfl]; exact ofNat64_32 (by omega))
    have w12_0 : opV val F L (12, 0) = 0 := ov_0 (by decide) (by decide) (by decide)
    have w4_5 : opV val F L (4, p + 5) = nI (k) := (ov_num (by decide)).trans (by rw [(hT 5 (show 5 < 7 by decide)).2 _ rfl]; exact ofNat64_32 (by omega))
    have w19_0 : opV val F L (19, 0) = 0 := ov_0 (by decide) (by decide) (by decide)
    show [((4 : Int32), opV val F L (4, p + 2)), ((12 : Int32), opV val F L (12, 0)), ((4 : Int32), opV val F L (4, p + 5)), ((19 : Int32), opV val F L (19, 0))] = _
    rw [w4_2, w12_0, w4_5, w19_0]
    rfl
  · refine ⟨[(8, p + 1), (4, p + 3), (19, 0)], q_4 hK hp (hT.kd (r := []) rfl), ?_, ⟨fun _ => nI_nm1 (by omega), fun z => absurd (show isNm 4 from z) (by decide), fun z => absurd (show isNm 19 from z) (by decide), trivial⟩⟩
    have w8_1 : opV val F L (8, p + 1) = nI l := (ov_L (by decide)).trans (by rw [c23, (hT 1 (show 1 < 5 by decide)).2 _ rfl]; exact n63.hit (by decide) (by omega) (by omega) (by decide) hl)
    have w4_3 : opV val F L (4, p + 3) = nI (k) := (ov_num (by decide)).trans (by rw [(hT 3 (show 3 < 5 by decide)).2 _ rfl]; exact ofNat64_32 (by omega))
    have w19_0 : opV val F L (19, 0) = 0 := ov_0 (by decide) (by decide) (by decide)
    show [((8 : Int32), opV val F L (8, p + 1)), ((4 : Int32), opV val F L (4, p + 3)), ((19 : Int32), opV val F L (19, 0))] = _
    rw [w8_1, w4_3, w19_0]
    rfl
  · refine ⟨[(11, p + 2), (13, 0), (9, p + 5), (4, p + 7), (23, 0), (25, 0)], q_5 hK hp (hT.kd (r := []) rfl), ?_, ⟨fun _ => nI_nm1 (by omega), fun z => absurd (show isNm 13 from z) (by decide), fun _ => nI_nm1 (by omega), fun z => absurd (show isNm 4 from z) (by decide), fun z => absurd (show isNm 23 from z) (by decide), fun z => absurd (show isNm 25 from z) (by decide), trivial⟩⟩
    have w11_2 : opV val F L (11, p + 2) = nI l := (ov_L (by decide)).trans (by rw [c23, (hT 2 (show 2 < 9 by decide)).2 _ rfl]; exact n63.hit (by decide) (by omega) (by omega) (by decide) hl)
    have w13_0 : opV val F L (13, 0) = 0 := ov_0 (by decide) (by decide) (by decide)
    have w9_5 : opV val F L (9, p + 5) = nI b := (ov_O (by decide)).trans (by rw [c24, (hT 5 (show 5 < 9 by decide)).2 _ rfl]; exact n64.hit (by decide) (by omega) (by omega) (by decide) hb)
    have w4_7 : opV val F L (4, p + 7) = nI (n) := (ov_num (by decide)).trans (by rw [(hT 7 (show 7 < 9 by decide)).2 _ rfl]; exact ofNat64_32 (by omega))
    have w23_0 : opV val F L (23, 0) = 0 := ov_0 (by decide) (by decide) (by decide)
    have w25_0 : opV val F L (25, 0) = 0 := ov_0 (by decide) (by decide) (by decide)
    show [((11 : Int32), opV val F L (11, p + 2)), ((13 : Int32), opV val F L (13, 0)), ((9 : Int32), opV val F L (9, p + 5)), ((4 : Int32), opV val F L (4, p + 7)), ((23 : Int32), opV val F L (23, 0)), ((25 : Int32), opV val F L (25, 0))] = _
    rw [w11_2, w13_0, w9_5, w4_7, w23_0, w25_0]
    rfl
  · refine ⟨[(6, 0), (4, p + 2), (21, 0), (5, 0), (4, p + 7), (20, 0), (9, p + 12), (12, 0), (4, p + 15), (20, 0), (25, 0), (24, 0)], q_6 hK hp (hT.kd (r := []) rfl), ?_, ⟨fun z => absurd (show isNm 6 from z) (by decide), fun z => absurd (show isNm 4 from z) (by decide), fun z => absurd (show isNm 21 from z) (by decide), fun z => absurd (show isNm 5 from z) (by decide), fun z => absurd (show isNm 4 from z) (by decide), fun z => absurd (show isNm 20 from z) (by decide), fun _ => nI_nm1 (by omega), fun z => absurd (show isNm 12 from z) (by decide), fun z => absurd (show isNm 4 from z) (by decide), fun z => absurd (show isNm 20 from z) (by decide), fun z => absurd (show isNm 25 from z) (by decide), fun z => absurd (show isNm 24 from z) (by decide), trivial⟩⟩
    have w6_0 : opV val F L (6, 0) = 0 := ov_0 (by decide) (by decide) (by decide)
    have w4_2 : opV val F L (4, p + 2) = nI (1) := (ov_num (by decide)).trans (by rw [(hT 2 (show 2 < 18 by decide)).2 _ rfl]; exact ofNat64_32 (by omega))
    have w21_0 : opV val F L (21, 0) = 0 := ov_0 (by decide) (by decide) (by decide)
    have w5_0 : opV val F L (5, 0) = 0 := ov_0 (by decide) (by decide) (by decide)
    have w4_7 : opV val F L (4, p + 7) = nI (n) := (ov_num (by decide)).trans (by rw [(hT 7 (show 7 < 18 by decide)).2 _ rfl]; exact ofNat64_32 (by omega))
    have w20_0 : opV val F L (20, 0) = 0 := ov_0 (by decide) (by decide) (by decide)
    have w9_12 : opV val F L (9, p + 12) = nI b := (ov_O (by decide)).trans (by rw [c24, (hT 12 (show 12 < 18 by decide)).2 _ rfl]; exact n64.hit (by decide) (by omega) (by omega) (by decide) hb)
    have w12_0 : opV val F L (12, 0) = 0 := ov_0 (by decide) (by decide) (by decide)
    have w4_15 : opV val F L (4, p + 15) = nI (k) := (ov_num (by decide)).trans (by rw [(hT 15 (show 15 < 18 by decide)).2 _ rfl]; exact ofNat64_32 (by omega))
    have w25_0 : opV val F L (25, 0) = 0 := ov_0 (by decide) (by decide) (by decide)
    have w24_0 : opV val F L (24, 0) = 0 := ov_0 (by decide) (by decide) (by decide)
    show [((6 : Int32), opV val F L (6, 0)), ((4 : Int32), opV val F L (4, p + 2)), ((21 : Int32), opV val F L (21, 0)), ((5 : Int32), opV val F L (5, 0)), ((4 : Int32), opV val F L (4, p + 7)), ((20 : Int32), opV val F L (20, 0)), ((9 : Int32), opV val F L (9, p + 12)), ((12 : Int32), opV val F L (12, 0)), ((4 : Int32), opV val F L (4, p + 15)), ((20 : Int32), opV val F L (20, 0)), ((25 : Int32), opV val F L (25, 0)), ((24 : Int32), opV val F L (24, 0))] = _
    rw [w6_0, w4_2, w21_0, w5_0, w4_7, w20_0, w9_12, w12_0, w4_15, w25_0, w24_0]
    rfl
  · refine ⟨[(7, p + 3), (4, p + 5), (26, 0), (7, p + 9), (16, 0), (4, p + 11), (19, 0)], q_7 hK hp (hT.kd (r := []) rfl), ?_, ⟨fun z => absurd (show isNm 7 from z) (by decide), fun z => absurd (show isNm 4 from z) (by decide), fun z => absurd (show isNm 26 from z) (by decide), fun z => absurd (show isNm 7 from z) (by decide), fun z => absurd (show isNm 16 from z) (by decide), fun z => absurd (show isNm 4 from z) (by decide), fun z => absurd (show isNm 19 from z) (by decide), trivial⟩⟩
    have w7_3 : opV val F L (7, p + 3) = nI (0) := (ov_num (by decide)).trans (by rw [(hT 3 (show 3 < 13 by decide)).2 _ rfl]; exact ofNat64_32 (by omega))
    have w4_5 : opV val F L (4, p + 5) = nI (n) := (ov_num (by decide)).trans (by rw [(hT 5 (show 5 < 13 by decide)).2 _ rfl]; exact ofNat64_32 (by omega))
    have w26_0 : opV val F L (26, 0) = 0 := ov_0 (by decide) (by decide) (by decide)
    have w7_9 : opV val F L (7, p + 9) = nI (1) := (ov_num (by decide)).trans (by rw [(hT 9 (show 9 < 13 by decide)).2 _ rfl]; exact ofNat64_32 (by omega))
    have w16_0 : opV val F L (16, 0) = 0 := ov_0 (by decide) (by decide) (by decide)
    have w4_11 : opV val F L (4, p + 11) = nI (1) := (ov_num (by decide)).trans (by rw [(hT 11 (show 11 < 13 by decide)).2 _ rfl]; exact ofNat64_32 (by omega))
    have w19_0 : opV val F L (19, 0) = 0 := ov_0 (by decide) (by decide) (by decide)
    show [((7 : Int32), opV val F L (7, p + 3)), ((4 : Int32), opV val F L (4, p + 5)), ((26 : Int32), opV val F L (26, 0)), ((7 : Int32), opV val F L (7, p + 9)), ((16 : Int32), opV val F L (16, 0)), ((4 : Int32), opV val F L (4, p + 11)), ((19 : Int32), opV val F L (19, 0))] = _
    rw [w7_3, w4_5, w26_0, w7_9, w16_0, w4_11, w19_0]
    rfl
def hdO (r : Nat → Int32) : List (Int32 × Option Int64) := if r 0 = 0 then [(48, none), (3, vN (r 1))] else [(49, none), (2, some (nmc 109 (r 1).toInt.toNat))]
def tkO (nl nb : Nat) (r : Nat → Int32) : List (Int32 × Option Int64) := tkT (r 2).toInt.toNat (r 3).toInt.toNat (r 4).toInt.toNat ((r 5).toInt.toNat % nl) ((r 5).toInt.toNat % nb)
def kO (nl nb : Nat) (r : Nat → Int32) : List (Int32 × Option Int64) := hdO r ++ ([(50, none)] ++ (tkO nl nb r ++ [(32, none)]))
theorem oo_le {O : M2} {nl nb : Nat} : ∀ (d k : Nat), oo nl nb O k ≤ oo nl nb O (k + d)
  | 0, _ => Nat.le_refl _
  | d + 1, k => Nat.le_trans (oo_le d k) (Nat.le_add_right _ _)
theorem oo_mono {O : M2} {nl nb k k' : Nat} (h : k ≤ k') : oo nl nb O k ≤ oo nl nb O k' := by
  have := oo_le (O := O) (nl := nl) (nb := nb) (k' - k) k
  rwa [show k + (k' - k) = k' by omega] at this
theorem rs_order (hK : KIN κ m) (R : RST κ m val nl nb V S W B O F L p jb js nl nb jo) (hnl : 1 ≤ nl ∧ nl ≤ 5) (hnb : 1 ≤ nb ∧ nb ≤ 5) (hj : jo < 5) (hr : oK nl (O jo)) (hoo : oo nl nb O (jo + 1) ≤ 400) (hT : TOK κ val p (kO nl nb (O jo))) (hp : p + (kO nl nb (O jo)).length ≤ m) : ∃ F' L', RST κ m val nl nb V S W B O F' L' (p + (kO nl nb (O jo)).length) jb js nl nb (jo + 1) ∧ RDS aa qq F L F' L' 1 := by
  obtain ⟨hs, h67, ⟨c20, c21, c22, c23, c24, c40, c45⟩, ⟨n61, n62, n63, n64⟩, hRB, hRP, hRS, hRW, hRA, hRO⟩ := R
  obtain ⟨s, i, e, n, k, x, hs1, hi, he, hn, hk, hx, e0, e1, e2, e3, e4, e5⟩ := hr
  have hhd : (hdO (O jo)).length = 2 := by unfold hdO; split <;> rfl
  have hlen : (kO nl nb (O jo)).length = 2 + (1 + ((tkO nl nb (O jo)).length + 1)) := by
    unfold kO
    rw [List.length_append, List.length_append, List.length_append, hhd]
    rfl
  have hT3 : TOK κ val (p + 3) (tkO nl nb (O jo) ++ [(32, none)]) := by
    have a := TOK.right (show TOK κ val p (hdO (O jo) ++ ([(50, none)] ++ (tkO nl nb (O jo) ++ [(32, none)]))) from hT)
    rw [hhd] at a
    exact a.right
  have hT2 : ck (κ (p + 2)) = 50 := by
    have a := TOK.right (show TOK κ val p (hdO (O jo) ++ ([(50, none)] ++ (tkO nl nb (O jo) ++ [(32, none)]))) from hT)
    rw [hhd] at a
    exact ((TOK.left a) 0 (show 0 < 1 by decide)).1
  have hTh : TOK κ val p (hdO (O jo)) := TOK.left hT
  have htk : tkO nl nb (O jo) = tkT e n k (x % nl) (x % nb) := by
    unfold tkO
    rw [e2, e3, e4, e5, tn_nI (by omega), tn_nI (by omega), tn_nI (by omega), tn_nI (by omega)]
  have hop : opO nl nb (O jo) = opsT e n k (x % nl) (x % nb) := by
    unfold opO
    rw [e2, e3, e4, e5, tn_nI (by omega), tn_nI (by omega), tn_nI (by omega), tn_nI (by omega)]
  rw [htk] at hT3 hlen
  obtain ⟨its, hP, hops, hnm⟩ := pt_test (F := F) (L := L) hK he hn hk (Nat.mod_lt x hnl.1) (Nat.mod_lt x hnb.1) hnl.2 hnb.2 c23 c24 n63 n64 hT3 (by omega)
  obtain ⟨q, hq⟩ : ∃ q, q = p + 3 + (tkT e n k (x % nl) (x % nb)).length := ⟨_, rfl⟩
  rw [← hq] at hP
  have h32 : ck (κ q) = 32 := by
    rw [hq]
    have a := TOK.right hT3
    exact (a 0 (by decide)).1
  have hnm' : ∀ y ∈ its, isNm y.1 → ¬ opV val F L y = -1 := fun y hy hny => by
    have a : (y.1, opV val F L y) ∈ opsT e n k (x % nl) (x % nb) := by
      rw [← hops]
      exact List.mem_map_of_mem (f := fun y => (y.1, opV val F L y)) hy
    exact hnm.all _ a hny
  rw [← hop] at hops
  have hel : oo nl nb O jo + (opO nl nb (O jo)).length ≤ 400 := hoo
  obtain ⟨m45, m46, m47⟩ := EMS_r (opO nl nb (O jo)) F (oo nl nb O jo) c45 hel
  have hep : p + (kO nl nb (O jo)).length = q + 1 := by omega
  rw [hep]
  -- either sort
  have fin : ∀ kind : Int32, kind = (if O jo 0 = 0 then 48 else 49) → ¬ ck (κ p) = 0 → (∀ K : Int32 → M2 → L2 → Prop, K 1 (up2 (st2 (st2 (st2 (st2 (cT q (EMS F (opO nl nb (O jo)))) 41 jo kind) 42 jo (nI i)) 43 jo (nI (oo nl nb O jo))) 44 jo (nI (oo nl nb O jo + (opO nl nb (O jo)).length))) 40 (fun _ => nI (jo + 1))) L → wp_X2_line F L K) → ∃ F' L', RST κ m val nl nb V S W B O F' L' (q + 1) jb js nl nb (jo + 1) ∧ RDS aa qq F L F' L' 1 := fun kind hkind hk0 hline => by
    obtain ⟨G, hG⟩ : ∃ G, G = up2 (st2 (st2 (st2 (st2 (cT q (EMS F (opO nl nb (O jo)))) 41 jo kind) 42 jo (nI i)) 43 jo (nI (oo nl nb O jo))) 44 jo (nI (oo nl nb O jo + (opO nl nb (O jo)).length))) 40 (fun _ => nI (jo + 1)) := ⟨_, rfl⟩
    rw [← hG] at hline
    have gk : ∀ k, k ≠ 40 → k ≠ 41 → k ≠ 42 → k ≠ 43 → k ≠ 44 → k ≠ 45 → k ≠ 46 → k ≠ 47 → k ≠ 66 → cT (q + 1) G k = F k := fun k a0 a1 a2 a3 a4 a5 a6 a7 a8 => by
      rw [cTn a8, hG, up2_n _ _ a0, st2_n _ _ _ a4, st2_n _ _ _ a3, st2_n _ _ _ a2, st2_n _ _ _ a1, cTn a8, EMS_n a5 a6 a7]
    have ge : ∀ k, k = 45 ∨ k = 46 ∨ k = 47 → cT (q + 1) G k = EMS F (opO nl nb (O jo)) k := fun k hk => by
      rw [cTn (by omega), hG, up2_n _ _ (by omega), st2_n _ _ _ (by omega), st2_n _ _ _ (by omega), st2_n _ _ _ (by omega), st2_n _ _ _ (by omega), cTn (by omega)]
    have g20 : cT (q + 1) G 20 = F 20 := gk 20 (by decide) (by decide) (by decide) (by decide) (by decide) (by decide) (by decide) (by decide) (by decide)
    have g21 : cT (q + 1) G 21 = F 21 := gk 21 (by decide) (by decide) (by decide) (by decide) (by decide) (by decide) (by decide) (by decide) (by decide)
    have g22 : cT (q + 1) G 22 = F 22 := gk 22 (by decide) (by decide) (by decide) (by decide) (by decide) (by decide) (by decide) (by decide) (by decide)
    have g23 : cT (q + 1) G 23 = F 23 := gk 23 (by decide) (by decide) (by decide) (by decide) (by decide) (by decide) (by decide) (by decide) (by decide)
    have g24 : cT (q + 1) G 24 = F 24 := gk 24 (by decide) (by decide) (by decide) (by decide) (by decide) (by decide) (by decide) (by decide) (by decide)
    have g67 : cT (q + 1) G 67 = F 67 := gk 67 (by decide) (by decide) (by decide) (by decide) (by decide) (by decide) (by decide) (by decide) (by decide)
    have g74 : cT (q + 1) G 74 = F 74 := gk 74 (by decide) (by decide) (by decide) (by decide) (by decide) (by decide) (by decide) (by decide) (by decide)
    have g25 : cT (q + 1) G 25 = F 25 := gk 25 (by decide) (by decide) (by decide) (by decide) (by decide) (by decide) (by decide) (by decide) (by decide)
    have g26 : cT (q + 1) G 26 = F 26 := gk 26 (by decide) (by decide) (by decide) (by decide) (by decide) (by decide) (by decide) (by decide) (by decide)
    have g27 : cT (q + 1) G 27 = F 27 := gk 27 (by decide) (by decide) (by decide) (by decide) (by decide) (by decide) (by decide) (by decide) (by decide)
    have g28 : cT (q + 1) G 28 = F 28 := gk 28 (by decide) (by decide) (by decide) (by decide) (by decide) (by decide) (by decide) (by decide) (by decide)
    have g29 : cT (q + 1) G 29 = F 29 := gk 29 (by decide) (by decide) (by decide) (by decide) (by decide) (by decide) (by decide) (by decide) (by decide)
    have g30 : cT (q + 1) G 30 = F 30 := gk 30 (by decide) (by decide) (by decide) (by decide) (by decide) (by decide) (by decide) (by decide) (by decide)
    have g31 : cT (q + 1) G 31 = F 31 := gk 31 (by decide) (by decide) (by decide) (by decide) (by decide) (by decide) (by decide) (by decide) (by decide)
    have g32 : cT (q + 1) G 32 = F 32 := gk 32 (by decide) (by decide) (by decide) (by decide) (by decide) (by decide) (by decide) (by decide) (by decide)
    have g33 : cT (q + 1) G 33 = F 33 := gk 33 (by decide) (by decide) (by decide) (by decide) (by decide) (by decide) (by decide) (by decide) (by decide)
    have g34 : cT (q + 1) G 34 = F 34 := gk 34 (by decide) (by decide) (by decide) (by decide) (by decide) (by decide) (by decide) (by decide) (by decide)
    have g35 : cT (q + 1) G 35 = F 35 := gk 35 (by decide) (by decide) (by decide) (by decide) (by decide) (by decide) (by decide) (by decide) (by decide)
    have g36 : cT (q + 1) G 36 = F 36 := gk 36 (by decide) (by decide) (by decide) (by decide) (by decide) (by decide) (by decide) (by decide) (by decide)
    have g37 : cT (q + 1) G 37 = F 37 := gk 37 (by decide) (by decide) (by decide) (by decide) (by decide) (by decide) (by decide) (by decide) (by decide)
    have g41 : ∀ y, cT (q + 1) G 41 y = if y = jo then kind else F 41 y := fun y => by
      rw [cTn (by decide), hG, up2_n _ _ (by decide), st2_n _ _ _ (by decide), st2_n _ _ _ (by decide), st2_n _ _ _ (by decide), st2_k, cTn (by decide), EMS_n (by decide) (by decide) (by decide)]
    have g42 : ∀ y, cT (q + 1) G 42 y = if y = jo then nI i else F 42 y := fun y => by
      rw [cTn (by decide), hG, up2_n _ _ (by decide), st2_n _ _ _ (by decide), st2_n _ _ _ (by decide), st2_k, st2_n _ _ _ (by decide), cTn (by decide), EMS_n (by decide) (by decide) (by decide)]
    have g43 : ∀ y, cT (q + 1) G 43 y = if y = jo then nI (oo nl nb O jo) else F 43 y := fun y => by
      rw [cTn (by decide), hG, up2_n _ _ (by decide), st2_n _ _ _ (by decide), st2_k, st2_n _ _ _ (by decide), st2_n _ _ _ (by decide), cTn (by decide), EMS_n (by decide) (by decide) (by decide)]
    have g44 : ∀ y, cT (q + 1) G 44 y = if y = jo then nI (oo nl nb O jo + (opO nl nb (O jo)).length) else F 44 y := fun y => by
      rw [cTn (by decide), hG, up2_n _ _ (by decide), st2_k, st2_n _ _ _ (by decide), st2_n _ _ _ (by decide), st2_n _ _ _ (by decide), cTn (by decide), EMS_n (by decide) (by decide) (by decide)]
    have g40 : cT (q + 1) G 40 0 = nI (jo + 1) := by rw [cTn (by decide), hG, up2_s]
    have b74 : G 74 = F 74 := by rw [← g74, cTn (by decide)]
    have b66 : G 66 = fun _ => nI q := by
      rw [hG, up2_n _ _ (by decide), st2_n _ _ _ (by decide), st2_n _ _ _ (by decide), st2_n _ _ _ (by decide), st2_n _ _ _ (by decide)]
      exact up2_s _ _ _
    have s6 : SC κ m val G L q := ⟨b66, hP.1, fun i hi => by rw [b74]; exact hs.2.2.1 i hi, hs.2.2.2⟩
    refine ⟨cT (q + 1) G, L, ⟨hs.mk' (by omega) b74 rfl, by rw [g67]; exact h67, ⟨by rw [g20]; exact c20, by rw [g21]; exact c21, by rw [g22]; exact c22, by rw [g23]; exact c23, by rw [g24]; exact c24, g40, by rw [ge 45 (by decide)]; exact m45⟩, ⟨n61, n62, n63, n64⟩, fun k hk => by rw [g25, g26, g27]; exact hRB k hk, fun k y hk h1 h2 => by rw [g28]; exact hRP k y hk h1 h2, fun k hk => by rw [g29, g30]; exact hRS k hk, fun k hk => by rw [g31, g32]; exact hRW k hk, fun k hk => by rw [g33, g34, g35, g36, g37]; exact hRA k hk, ?_⟩, rd_step hK hs hk0 hline s6 h32⟩
    intro k hk
    rw [g41, g42, g43, g44]
    by_cases ek : k = jo
    · rw [if_pos ek, if_pos ek, if_pos ek, if_pos ek, ek]
      refine ⟨hkind, e1.symm, rfl, rfl, fun y hy => ?_⟩
      rw [ge 46 (by decide), ge 47 (by decide)]
      exact m47 y hy
    · rw [if_neg ek, if_neg ek, if_neg ek, if_neg ek]
      obtain ⟨a1, a2, a3, a4, a5⟩ := hRO k (by omega)
      refine ⟨a1, a2, a3, a4, fun y hy => ?_⟩
      have hlt : oo nl nb O k + y < oo nl nb O jo := by
        have a : oo nl nb O (k + 1) ≤ oo nl nb O jo := oo_mono (by omega)
        have b : oo nl nb O (k + 1) = oo nl nb O k + (opO nl nb (O k)).length := rfl
        omega
      rw [ge 46 (by decide), ge 47 (by decide), (m46 _ hlt).1, (m46 _ hlt).2]
      exact a5 y hy
  have hs2 : s = 0 ∨ s = 1 := by omega
  rcases hs2 with rfl | rfl
  · have r0 : O jo 0 = 0 := e0
    have hh : hdO (O jo) = [(48, none), (3, vN (O jo 1))] := if_pos r0
    rw [hh] at hTh
    have hi2 : i < 2 := by rw [if_pos rfl] at hi; exact hi
    refine fin 48 (by rw [if_pos r0]) (by rw [show ck (κ p) = 48 from (hTh 0 (show 0 < 2 by decide)).1]; decide) (fun K hk => ?_)
    exact ln_whistle (c := jo) (e := oo nl nb O jo) (w := i) hK hs (by omega) (fun j hj => by
      have hj : j < 3 := hj
      have hc : j = 0 ∨ j = 1 ∨ j = 2 := by omega
      rcases hc with rfl | rfl | rfl
      · exact (hTh 0 (show 0 < 2 by decide)).1
      · exact (hTh 1 (show 1 < 2 by decide)).1
      · exact hT2) h67 (by omega) c40 c45 (by rw [(hTh 1 (show 1 < 2 by decide)).2 _ rfl]; exact num_of (by omega) e1) hP hops hnm' hel hk
  · have r0 : ¬ O jo 0 = 0 := by rw [e0]; decide
    have hh : hdO (O jo) = [(49, none), (2, some (nmc 109 (O jo 1).toInt.toNat))] := if_neg r0
    rw [hh] at hTh
    have hi2 : i < nl := by rw [if_neg (by decide)] at hi; exact hi
    refine fin 49 (by rw [if_neg r0]) (by rw [show ck (κ p) = 49 from (hTh 0 (show 0 < 2 by decide)).1]; decide) (fun K hk => ?_)
    exact ln_rest (c := jo) (e := oo nl nb O jo) (w := i) hK hs (by omega) (fun j hj => by
      have hj : j < 3 := hj
      have hc : j = 0 ∨ j = 1 ∨ j = 2 := by omega
      rcases hc with rfl | rfl | rfl
      · exact (hTh 0 (show 0 < 2 by decide)).1
      · exact (hTh 1 (show 1 < 2 by decide)).1
      · exact hT2) h67 (by omega) c40 c45 (by rw [c23, (hTh 1 (show 1 < 2 by decide)).2 _ rfl, e1, tn_nI (by omega)]; exact n63.hit (by decide) (by omega) (by omega) (by decide) hi2) (by omega) hP hops hnm' hel hk
end ORR
