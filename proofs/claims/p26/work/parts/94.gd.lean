/-! ===== reading the list: what stands behind each line ===== -/
section RDL
variable {κ : Nat → Int32} {m : Nat} {val : Nat → Int64} {F G : M2} {L L' : L2} {p q : Nat} {aa qq : Nat → Nat} {V S W B O : M2} {nl nb jb js jl ja jo : Nat}
/-- the code of the name c k -/
def nmc (c k : Nat) : Int64 := cdI (fun i => if i = 0 then c else 48 + k) 0 2
theorem nmc_inj : ∀ c ∈ [97, 98, 109], ∀ k, k < 6 → ∀ k', k' < 6 → nmc c k = nmc c k' → k = k' := by decide +kernel
theorem idx_miss {g : Nat → Int64} {n cap : Nat} {v : Int64} (hn : n < 1000) (hcap : cap < 1000) (h : ∀ k, k < n → ¬ g k = v) : idx g (nI n) cap v = -1 := by
  unfold idx
  refine (ffr_none (by omega)).mpr (fun i hi z => ?_)
  have := (nI_ltI (by omega) (by omega)).mp z.1
  exact h i this z.2
theorem idx_hit {g : Nat → Int64} {n cap i : Nat} {v : Int64} (hn : n ≤ cap) (hcap : cap < 1000) (hi : i < n) (h : g i = v) (h2 : ∀ k, k < n → g k = v → k = i) : idx g (nI n) cap v = nI i := by
  unfold idx
  rcases ffr_spec (p := fun i => nI i < nI n ∧ g i = v) cap 0 with ⟨_, y⟩ | ⟨k, _, hk, hp, he, _⟩
  · exact absurd ⟨nI_lt hi (by omega), h⟩ (y i (by omega) (by omega))
  · have := (nI_ltI (by omega) (by omega)).mp hp.1
    rw [he, h2 k this hp.2]
def NMS (g : Nat → Int64) (c j : Nat) : Prop := ∀ k, k < j → g k = nmc c k
theorem NMS.miss {g : Nat → Int64} {c j cap : Nat} (h : NMS g c j) (hc : c ∈ [97, 98, 109]) (hj : j < 6) (hcap : cap < 1000) : idx g (nI j) cap (nmc c j) = -1 := idx_miss (by omega) hcap (fun k hk z => by
  rw [h k hk] at z
  have := nmc_inj c hc k (by omega) j hj z
  omega)
theorem NMS.hit {g : Nat → Int64} {c j cap i : Nat} (h : NMS g c j) (hc : c ∈ [97, 98, 109]) (hj : j ≤ 6) (hjc : j ≤ cap) (hcap : cap < 1000) (hi : i < j) : idx g (nI j) cap (nmc c i) = nI i := idx_hit hjc hcap hi (h i hi) (fun k hk z => by
  rw [h k hk] at z
  exact nmc_inj c hc k (by omega) i (by omega) z)
theorem NMS.put {g : Nat → Int64} {c j : Nat} (h : NMS g c j) : NMS (vp_updL g j (nmc c j)) c (j + 1) := fun k hk => by
  unfold vp_updL
  by_cases e : k = j
  · rw [if_pos e, e]
  · rw [if_neg e]; exact h k (by omega)
/-- tokens from p on: kinds, and values where they matter -/
def TOK (κ : Nat → Int32) (val : Nat → Int64) (p : Nat) (ts : List (Int32 × Option Int64)) : Prop := ∀ j (hj : j < ts.length), ck (κ (p + j)) = (ts[j]).1 ∧ ∀ v, (ts[j]).2 = some v → val (p + j) = v
theorem TOK.left {a b : List (Int32 × Option Int64)} (h : TOK κ val p (a ++ b)) : TOK κ val p a := fun j hj => by
  have := h j (by rw [List.length_append]; omega)
  rwa [List.getElem_append_left hj] at this
theorem TOK.right {a b : List (Int32 × Option Int64)} (h : TOK κ val p (a ++ b)) : TOK κ val (p + a.length) b := fun j hj => by
  have := h (a.length + j) (by rw [List.length_append]; omega)
  rw [List.getElem_append_right (by omega)] at this
  simp only [Nat.add_sub_cancel_left] at this
  rw [Nat.add_assoc]
  exact this
theorem TOK.kd {ts : List (Int32 × Option Int64)} {ks r : List Int32} (h : TOK κ val p ts) (e : ts.map (·.1) = ks ++ r) : TKD κ p ks := fun j hj => by
  have hj' : j < ts.length := by
    have := congrArg List.length e
    rw [List.length_map, List.length_append] at this
    omega
  rw [(h j hj').1]
  have a : (ts.map (·.1))[j]? = some ((ts[j]).1) := by rw [List.getElem?_map, List.getElem?_eq_getElem hj']; rfl
  rw [e, List.getElem?_append_left hj] at a
  rw [List.getD_eq_getElem?_getD, a]
  rfl
def vN (x : Int32) : Option Int64 := some (Int64.ofNat x.toInt.toNat)
def kB (j : Nat) (r : Nat → Int32) : List (Int32 × Option Int64) := [(34, none), (2, some (nmc 97 j)), (35, none), (4, vN (r 0)), (36, none), (4, vN (r 1)), (32, none)]
def kS (j : Nat) (r : Nat → Int32) : List (Int32 × Option Int64) := [(37, none), (2, some (nmc 97 j)), (38, none), (4, vN (r 0)), (39, none), (4, vN (r 1)), (32, none)]
def kL (j : Nat) (r : Nat → Int32) : List (Int32 × Option Int64) := [(40, none), (2, some (nmc 109 j)), (41, none), (4, vN (r 0)), (42, none), (4, vN (r 1)), (32, none)]
def kA (j : Nat) (r : Nat → Int32) : List (Int32 × Option Int64) := [(43, none), (2, some (nmc 98 j)), (44, none), (4, vN (r 0)), (45, none), (3, vN (r 1)), (46, none), (4, vN (r 2)), (47, none), (2, some (nmc 109 (r 7).toInt.toNat)), (24, none), (2, some (nmc 109 (r 8).toInt.toNat)), (32, none)]
theorem num_of {n : Nat} {x : Int32} (hn : n < 100000) (e : x = nI n) : (Int64.ofNat x.toInt.toNat).toInt32 = nI n := by
  rw [e, tn_nI (by omega)]
  exact ofNat64_32 (by omega)
theorem SC.mk' (hs : SC κ m val F L p) (hq : q ≤ m) (h74 : G 74 = F 74) (h76 : L' 76 = L 76) : SC κ m val (cT q G) L' q := by
  refine ⟨up2_s _ _ _, hq, fun i hi => ?_, fun i hi => ?_⟩
  · rw [cTn (by decide), h74]; exact hs.2.2.1 i hi
  · rw [h76]; exact hs.2.2.2 i hi
/-- reading goes on so -/
def RDS (aa qq : Nat → Nat) (F : M2) (L : L2) (F' : M2) (L' : L2) (n : Nat) : Prop := ∀ (K : Int32 → Nat → Nat → M2 → L2 → Prop) (f i : Nat), i + n ≤ 400 → wl_X2_read_37 aa qq K f F' L' 1 (nI (i + n)) → wl_X2_read_37 aa qq K (f + n) F L 1 (nI i)
theorem RDS.refl : RDS aa qq F L F L 0 := fun _ _ _ _ h => h
theorem RDS.trans {F1 F2 : M2} {L1 L2' : L2} {n k : Nat} (h : RDS aa qq F L F1 L1 n) (g : RDS aa qq F1 L1 F2 L2' k) : RDS aa qq F L F2 L2' (n + k) := fun K f i hi hk => by
  have a := g K f (i + n) (by omega) (by rw [Nat.add_assoc]; exact hk)
  have b := h K (f + k) i (by omega) a
  rw [show f + (n + k) = f + k + n by omega]
  exact b
theorem rd_step (hK : KIN κ m) (hs : SC κ m val F L p) (hk0 : ¬ ck (κ p) = 0) (hline : ∀ K : Int32 → M2 → L2 → Prop, K 1 G L' → wp_X2_line F L K) (hs' : SC κ m val G L' q) (h32 : ck (κ q) = 32) : RDS aa qq F L (cT (q + 1) G) L' 1 := fun K f i hi nxt => by
  refine And.intro (fun c => absurd c (by rw [show (400 : Int32) = nI 400 from rfl]; exact fun z => absurd ((nI_ltI (by decide) (by omega)).mp z) (by omega))) (fun _ => And.intro (fun z => absurd z (by decide)) (fun _ => c_peek hs hK (And.intro (fun z => absurd z hk0) (fun _ => hline _ (And.intro (fun z => absurd z (by decide)) (fun _ => c_take hs' hK (fun _ => And.intro (fun z => absurd z (by decide)) (fun _ v ev => ?_)) (fun z => absurd h32 z)))))))
  subst ev
  rw [nI_1]
  exact nxt
/-! the order's operations -/
def opO (nl nb : Nat) (r : Nat → Int32) : List (Int32 × Int32) := opsT (r 2).toInt.toNat (r 3).toInt.toNat (r 4).toInt.toNat ((r 5).toInt.toNat % nl) ((r 5).toInt.toNat % nb)
def oo (nl nb : Nat) (O : M2) : Nat → Nat
  | 0 => 0
  | k + 1 => oo nl nb O k + (opO nl nb (O k)).length
def RST (κ : Nat → Int32) (m : Nat) (val : Nat → Int64) (nl nb : Nat) (V S W B O F : M2) (L : L2) (p jb js jl ja jo : Nat) : Prop :=
  SC κ m val F L p ∧ F 67 0 = 0 ∧ (F 20 0 = nI jb ∧ F 21 0 = nI (fo V jb) ∧ F 22 0 = nI js ∧ F 23 0 = nI jl ∧ F 24 0 = nI ja ∧ F 40 0 = nI jo ∧ F 45 0 = nI (oo nl nb O jo))
  ∧ (NMS (L 61) 97 jb ∧ NMS (L 62) 97 js ∧ NMS (L 63) 109 jl ∧ NMS (L 64) 98 ja)
  ∧ (∀ k, k < jb → F 25 k = V k 0 ∧ F 26 k = V k 1 ∧ F 27 k = V k 2) ∧ (∀ k p, k < jb → fo V k ≤ p → p < fo V (k + 1) → F 28 p = nI k)
  ∧ (∀ k, k < js → F 29 k = S k 0 ∧ F 30 k = S k 1) ∧ (∀ k, k < jl → F 31 k = W k 0 ∧ F 32 k = W k 1) ∧ (∀ k, k < ja → F 33 k = B k 0 ∧ F 34 k = B k 1 ∧ F 35 k = B k 2 ∧ F 36 k = B k 7 ∧ F 37 k = B k 8)
  ∧ ∀ k, k < jo → F 41 k = (if O k 0 = 0 then 48 else 49) ∧ F 42 k = O k 1 ∧ F 43 k = nI (oo nl nb O k) ∧ F 44 k = nI (oo nl nb O (k + 1)) ∧ ∀ i (hi : i < (opO nl nb (O k)).length), F 46 (oo nl nb O k + i) = ((opO nl nb (O k))[i]).1 ∧ F 47 (oo nl nb O k + i) = ((opO nl nb (O k))[i]).2
theorem rs_shaft {np : Nat} (hK : KIN κ m) (R : RST κ m val nl nb V S W B O F L p jb js jl ja jo) (hj : js < 2) (hr : sK (np + 1) (S js)) (hnp : np < 60) (hV : fo V jb = np + 1) (hT : TOK κ val p (kS js (S js))) (hp : p + 7 ≤ m) : ∃ F' L', RST κ m val nl nb V S W B O F' L' (p + 7) jb (js + 1) jl ja jo ∧ RDS aa qq F L F' L' 1 := by
  obtain ⟨hs, h67, ⟨c20, c21, c22, c23, c24, c40, c45⟩, ⟨n61, n62, n63, n64⟩, hRB, hRP, hRS, hRW, hRA, hRO⟩ := R
  obtain ⟨x, y, hx, hy1, hy2, e0, e1⟩ := hr
  obtain ⟨G, hG⟩ : ∃ G, G = up2 (st2 (st2 (cT (p + 6) F) 29 js (nI x)) 30 js (nI y)) 22 (fun _ => nI (js + 1)) := ⟨_, rfl⟩
  obtain ⟨L1, hL1⟩ : ∃ L1, L1 = ul2 L 62 (vp_updL (L 62) js (val (p + 1))) := ⟨_, rfl⟩
  have a1 : val (p + 1) = nmc 97 js := (hT 1 (show 1 < 7 by decide)).2 _ rfl
  have hline : ∀ K : Int32 → M2 → L2 → Prop, K 1 G L1 → wp_X2_line F L K := fun K hk => ln_shaft (c := js) (x := x) (y := y) (np := np) hK hs (by omega) (hT.kd (r := [32]) rfl) h67 (by omega) c22 (by rw [c21, hV]) hnp (by omega) hy1 hy2 (by rw [(hT 3 (show 3 < 7 by decide)).2 _ rfl]; exact num_of (by omega) e0) (by rw [(hT 5 (show 5 < 7 by decide)).2 _ rfl]; exact num_of (by omega) e1) (by rw [c22, a1]; exact n62.miss (by decide) (by omega) (by decide)) (by rw [hG, hL1] at hk; exact hk)
  have gk : ∀ k, k ≠ 22 → k ≠ 29 → k ≠ 30 → k ≠ 66 → cT (p + 7) G k = F k := fun k h22 h29 h30 h66 => by
    rw [cTn h66, hG, up2_n _ _ h22, st2_n _ _ _ h30, st2_n _ _ _ h29, cTn h66]
  have g20 : cT (p + 7) G 20 = F 20 := gk 20 (by decide) (by decide) (by decide) (by decide)
  have g21 : cT (p + 7) G 21 = F 21 := gk 21 (by decide) (by decide) (by decide) (by decide)
  have g23 : cT (p + 7) G 23 = F 23 := gk 23 (by decide) (by decide) (by decide) (by decide)
  have g24 : cT (p + 7) G 24 = F 24 := gk 24 (by decide) (by decide) (by decide) (by decide)
  have g40 : cT (p + 7) G 40 = F 40 := gk 40 (by decide) (by decide) (by decide) (by decide)
  have g45 : cT (p + 7) G 45 = F 45 := gk 45 (by decide) (by decide) (by decide) (by decide)
  have g67 : cT (p + 7) G 67 = F 67 := gk 67 (by decide) (by decide) (by decide) (by decide)
  have g74 : cT (p + 7) G 74 = F 74 := gk 74 (by decide) (by decide) (by decide) (by decide)
  have g25 : cT (p + 7) G 25 = F 25 := gk 25 (by decide) (by decide) (by decide) (by decide)
  have g26 : cT (p + 7) G 26 = F 26 := gk 26 (by decide) (by decide) (by decide) (by decide)
  have g27 : cT (p + 7) G 27 = F 27 := gk 27 (by decide) (by decide) (by decide) (by decide)
  have g28 : cT (p + 7) G 28 = F 28 := gk 28 (by decide) (by decide) (by decide) (by decide)
  have g31 : cT (p + 7) G 31 = F 31 := gk 31 (by decide) (by decide) (by decide) (by decide)
  have g32 : cT (p + 7) G 32 = F 32 := gk 32 (by decide) (by decide) (by decide) (by decide)
  have g33 : cT (p + 7) G 33 = F 33 := gk 33 (by decide) (by decide) (by decide) (by decide)
  have g34 : cT (p + 7) G 34 = F 34 := gk 34 (by decide) (by decide) (by decide) (by decide)
  have g35 : cT (p + 7) G 35 = F 35 := gk 35 (by decide) (by decide) (by decide) (by decide)
  have g36 : cT (p + 7) G 36 = F 36 := gk 36 (by decide) (by decide) (by decide) (by decide)
  have g37 : cT (p + 7) G 37 = F 37 := gk 37 (by decide) (by decide) (by decide) (by decide)
  have g41 : cT (p + 7) G 41 = F 41 := gk 41 (by decide) (by decide) (by decide) (by decide)
  have g42 : cT (p + 7) G 42 = F 42 := gk 42 (by decide) (by decide) (by decide) (by decide)
  have g43 : cT (p + 7) G 43 = F 43 := gk 43 (by decide) (by decide) (by decide) (by decide)
  have g44 : cT (p + 7) G 44 = F 44 := gk 44 (by decide) (by decide) (by decide) (by decide)
  have g46 : cT (p + 7) G 46 = F 46 := gk 46 (by decide) (by decide) (by decide) (by decide)
  have g47 : cT (p + 7) G 47 = F 47 := gk 47 (by decide) (by decide) (by decide) (by decide)
  have l61 : L1 61 = L 61 := by rw [hL1]; exact ul2_n _ _ (by decide)
  have l63 : L1 63 = L 63 := by rw [hL1]; exact ul2_n _ _ (by decide)
  have l64 : L1 64 = L 64 := by rw [hL1]; exact ul2_n _ _ (by decide)
  have l76 : L1 76 = L 76 := by rw [hL1]; exact ul2_n _ _ (by decide)
  have l62 : L1 62 = vp_updL (L 62) js (nmc 97 js) := by rw [hL1, ul2_s, a1]
  have g29 : ∀ i, cT (p + 7) G 29 i = if i = js then nI x else F 29 i := fun i => by
    rw [cTn (by decide), hG, up2_n _ _ (by decide), st2_n _ _ _ (by decide), st2_k, cTn (by decide)]
  have g30 : ∀ i, cT (p + 7) G 30 i = if i = js then nI y else F 30 i := fun i => by
    rw [cTn (by decide), hG, up2_n _ _ (by decide), st2_k, st2_n _ _ _ (by decide), cTn (by decide)]
  have g22 : cT (p + 7) G 22 0 = nI (js + 1) := by rw [cTn (by decide), hG, up2_s]
  have b74 : G 74 = F 74 := by rw [← g74, cTn (by decide)]
  have b66 : G 66 = cT (p + 6) F 66 := by rw [hG, up2_n _ _ (by decide), st2_n _ _ _ (by decide), st2_n _ _ _ (by decide)]
  have s6 : SC κ m val G L1 (p + 6) := (hs.adv (q := p + 6) (by omega)).rows b66 (by rw [b74, cTn (by decide)]) l76
  refine ⟨cT (p + 7) G, L1, ⟨hs.mk' hp b74 l76, by rw [g67]; exact h67, ⟨by rw [g20]; exact c20, by rw [g21]; exact c21, g22, by rw [g23]; exact c23, by rw [g24]; exact c24, by rw [g40]; exact c40, by rw [g45]; exact c45⟩, ⟨by rw [l61]; exact n61, by rw [l62]; exact n62.put, by rw [l63]; exact n63, by rw [l64]; exact n64⟩, fun k hk => by rw [g25, g26, g27]; exact hRB k hk, fun k i hk h1 h2 => by rw [g28]; exact hRP k i hk h1 h2, ?_, fun k hk => by rw [g31, g32]; exact hRW k hk, fun k hk => by rw [g33, g34, g35, g36, g37]; exact hRA k hk, fun k hk => by rw [g41, g42, g43, g44, g46, g47]; exact hRO k hk⟩, rd_step hK hs (by rw [show ck (κ p) = 37 from (hT 0 (show 0 < 7 by decide)).1]; decide) hline s6 (hT 6 (show 6 < 7 by decide)).1⟩
  · intro k hk
    rw [g29, g30]
    by_cases e : k = js
    · rw [if_pos e, if_pos e, e]; exact ⟨e0.symm, e1.symm⟩
    · rw [if_neg e, if_neg e]; exact hRS k (by omega)
theorem rs_legger (hK : KIN κ m) (R : RST κ m val nl nb V S W B O F L p jb js jl ja jo) (hj : jl < 5) (hr : lK (W jl)) (hT : TOK κ val p (kL jl (W jl))) (hp : p + 7 ≤ m) : ∃ F' L', RST κ m val nl nb V S W B O F' L' (p + 7) jb js (jl + 1) ja jo ∧ RDS aa qq F L F' L' 1 := by
  obtain ⟨hs, h67, ⟨c20, c21, c22, c23, c24, c40, c45⟩, ⟨n61, n62, n63, n64⟩, hRB, hRP, hRS, hRW, hRA, hRO⟩ := R
  obtain ⟨x, y, hx1, hx2, hy1, hy2, e0, e1, _⟩ := hr
  obtain ⟨G, hG⟩ : ∃ G, G = up2 (st2 (st2 (cT (p + 6) F) 31 jl (nI x)) 32 jl (nI y)) 23 (fun _ => nI (jl + 1)) := ⟨_, rfl⟩
  obtain ⟨L1, hL1⟩ : ∃ L1, L1 = ul2 L 63 (vp_updL (L 63) jl (val (p + 1))) := ⟨_, rfl⟩
  have a1 : val (p + 1) = nmc 109 jl := (hT 1 (show 1 < 7 by decide)).2 _ rfl
  have hline : ∀ K : Int32 → M2 → L2 → Prop, K 1 G L1 → wp_X2_line F L K := fun K hk => ln_legger (c := jl) (x := x) (y := y) (np := 0) hK hs (by omega) (hT.kd (r := [32]) rfl) h67 (by omega) c23 hx1 hx2 (by omega) hy2 (by rw [(hT 3 (show 3 < 7 by decide)).2 _ rfl]; exact num_of (by omega) e0) (by rw [(hT 5 (show 5 < 7 by decide)).2 _ rfl]; exact num_of (by omega) e1) (by rw [c23, a1]; exact n63.miss (by decide) (by omega) (by decide)) (by rw [hG, hL1] at hk; exact hk)
  have gk : ∀ k, k ≠ 23 → k ≠ 31 → k ≠ 32 → k ≠ 66 → cT (p + 7) G k = F k := fun k h23 h31 h32 h66 => by
    rw [cTn h66, hG, up2_n _ _ h23, st2_n _ _ _ h32, st2_n _ _ _ h31, cTn h66]
  have g20 : cT (p + 7) G 20 = F 20 := gk 20 (by decide) (by decide) (by decide) (by decide)
  have g21 : cT (p + 7) G 21 = F 21 := gk 21 (by decide) (by decide) (by decide) (by decide)
  have g22 : cT (p + 7) G 22 = F 22 := gk 22 (by decide) (by decide) (by decide) (by decide)
  have g24 : cT (p + 7) G 24 = F 24 := gk 24 (by decide) (by decide) (by decide) (by decide)
  have g40 : cT (p + 7) G 40 = F 40 := gk 40 (by decide) (by decide) (by decide) (by decide)
  have g45 : cT (p + 7) G 45 = F 45 := gk 45 (by decide) (by decide) (by decide) (by decide)
  have g67 : cT (p + 7) G 67 = F 67 := gk 67 (by decide) (by decide) (by decide) (by decide)
  have g74 : cT (p + 7) G 74 = F 74 := gk 74 (by decide) (by decide) (by decide) (by decide)
  have g25 : cT (p + 7) G 25 = F 25 := gk 25 (by decide) (by decide) (by decide) (by decide)
  have g26 : cT (p + 7) G 26 = F 26 := gk 26 (by decide) (by decide) (by decide) (by decide)
  have g27 : cT (p + 7) G 27 = F 27 := gk 27 (by decide) (by decide) (by decide) (by decide)
  have g28 : cT (p + 7) G 28 = F 28 := gk 28 (by decide) (by decide) (by decide) (by decide)
  have g29 : cT (p + 7) G 29 = F 29 := gk 29 (by decide) (by decide) (by decide) (by decide)
  have g30 : cT (p + 7) G 30 = F 30 := gk 30 (by decide) (by decide) (by decide) (by decide)
  have g33 : cT (p + 7) G 33 = F 33 := gk 33 (by decide) (by decide) (by decide) (by decide)
  have g34 : cT (p + 7) G 34 = F 34 := gk 34 (by decide) (by decide) (by decide) (by decide)
  have g35 : cT (p + 7) G 35 = F 35 := gk 35 (by decide) (by decide) (by decide) (by decide)
  have g36 : cT (p + 7) G 36 = F 36 := gk 36 (by decide) (by decide) (by decide) (by decide)
  have g37 : cT (p + 7) G 37 = F 37 := gk 37 (by decide) (by decide) (by decide) (by decide)
  have g41 : cT (p + 7) G 41 = F 41 := gk 41 (by decide) (by decide) (by decide) (by decide)
  have g42 : cT (p + 7) G 42 = F 42 := gk 42 (by decide) (by decide) (by decide) (by decide)
  have g43 : cT (p + 7) G 43 = F 43 := gk 43 (by decide) (by decide) (by decide) (by decide)
  have g44 : cT (p + 7) G 44 = F 44 := gk 44 (by decide) (by decide) (by decide) (by decide)
  have g46 : cT (p + 7) G 46 = F 46 := gk 46 (by decide) (by decide) (by decide) (by decide)
  have g47 : cT (p + 7) G 47 = F 47 := gk 47 (by decide) (by decide) (by decide) (by decide)
  have l61 : L1 61 = L 61 := by rw [hL1]; exact ul2_n _ _ (by decide)
  have l62 : L1 62 = L 62 := by rw [hL1]; exact ul2_n _ _ (by decide)
  have l64 : L1 64 = L 64 := by rw [hL1]; exact ul2_n _ _ (by decide)
  have l76 : L1 76 = L 76 := by rw [hL1]; exact ul2_n _ _ (by decide)
  have l63 : L1 63 = vp_updL (L 63) jl (nmc 109 jl) := by rw [hL1, ul2_s, a1]
  have g31 : ∀ i, cT (p + 7) G 31 i = if i = jl then nI x else F 31 i := fun i => by
    rw [cTn (by decide), hG, up2_n _ _ (by decide), st2_n _ _ _ (by decide), st2_k, cTn (by decide)]
  have g32 : ∀ i, cT (p + 7) G 32 i = if i = jl then nI y else F 32 i := fun i => by
    rw [cTn (by decide), hG, up2_n _ _ (by decide), st2_k, st2_n _ _ _ (by decide), cTn (by decide)]
  have g23 : cT (p + 7) G 23 0 = nI (jl + 1) := by rw [cTn (by decide), hG, up2_s]
  have b74 : G 74 = F 74 := by rw [← g74, cTn (by decide)]
  have b66 : G 66 = cT (p + 6) F 66 := by rw [hG, up2_n _ _ (by decide), st2_n _ _ _ (by decide), st2_n _ _ _ (by decide)]
  have s6 : SC κ m val G L1 (p + 6) := (hs.adv (q := p + 6) (by omega)).rows b66 (by rw [b74, cTn (by decide)]) l76
  refine ⟨cT (p + 7) G, L1, ⟨hs.mk' hp b74 l76, by rw [g67]; exact h67, ⟨by rw [g20]; exact c20, by rw [g21]; exact c21, by rw [g22]; exact c22, g23, by rw [g24]; exact c24, by rw [g40]; exact c40, by rw [g45]; exact c45⟩, ⟨by rw [l61]; exact n61, by rw [l62]; exact n62, by rw [l63]; exact n63.put, by rw [l64]; exact n64⟩, fun k hk => by rw [g25, g26, g27]; exact hRB k hk, fun k i hk h1 h2 => by rw [g28]; exact hRP k i hk h1 h2, fun k hk => by rw [g29, g30]; exact hRS k hk, ?_, fun k hk => by rw [g33, g34, g35, g36, g37]; exact hRA k hk, fun k hk => by rw [g41, g42, g43, g44, g46, g47]; exact hRO k hk⟩, rd_step hK hs (by rw [show ck (κ p) = 40 from (hT 0 (show 0 < 7 by decide)).1]; decide) hline s6 (hT 6 (show 6 < 7 by decide)).1⟩
  · intro k hk
    rw [g31, g32]
    by_cases e : k = jl
    · rw [if_pos e, if_pos e, e]; exact ⟨e0.symm, e1.symm⟩
    · rw [if_neg e, if_neg e]; exact hRW k (by omega)
theorem rs_boat (hK : KIN κ m) (R : RST κ m val nl nb V S W B O F L p jb js jl ja jo) (hj : ja < 5) (hjl : jl ≤ 5) (hr : aK jl (B ja)) (hT : TOK κ val p (kA ja (B ja))) (hp : p + 13 ≤ m) : ∃ F' L', RST κ m val nl nb V S W B O F' L' (p + 13) jb js jl (ja + 1) jo ∧ RDS aa qq F L F' L' 1 := by
  obtain ⟨hs, h67, ⟨c20, c21, c22, c23, c24, c40, c45⟩, ⟨n61, n62, n63, n64⟩, hRB, hRP, hRS, hRW, hRA, hRO⟩ := R
  obtain ⟨x, e, y, l1, l2, hx1, hx2, he, hy, hl1, hl2, hne, e0, e1, e2, _, _, _, _, e7, e8⟩ := hr
  obtain ⟨G, hG⟩ : ∃ G, G = up2 (st2 (st2 (st2 (st2 (st2 (cT (p + 12) F) 33 ja (nI x)) 34 ja (nI e)) 35 ja (nI y)) 36 ja (nI l1)) 37 ja (nI l2)) 24 (fun _ => nI (ja + 1)) := ⟨_, rfl⟩
  obtain ⟨L1, hL1⟩ : ∃ L1, L1 = ul2 L 64 (vp_updL (L 64) ja (val (p + 1))) := ⟨_, rfl⟩
  have a1 : val (p + 1) = nmc 98 ja := (hT 1 (show 1 < 13 by decide)).2 _ rfl
  have hline : ∀ K : Int32 → M2 → L2 → Prop, K 1 G L1 → wp_X2_line F L K := fun K hk => ln_boat (c := ja) (x := x) (y := y) (e := e) (l1 := l1) (l2 := l2) hK hs (by omega) (hT.kd (r := [32]) rfl) h67 (by omega) c24 hx1 hx2 (by omega) (by rw [(hT 3 (show 3 < 13 by decide)).2 _ rfl]; exact num_of (by omega) e0) (by rw [(hT 5 (show 5 < 13 by decide)).2 _ rfl]; exact num_of (by omega) e1) (by rw [(hT 7 (show 7 < 13 by decide)).2 _ rfl]; exact num_of (by omega) e2) (by omega) (by omega) hne (by rw [c23, (hT 9 (show 9 < 13 by decide)).2 _ rfl, e7, tn_nI (by omega)]; exact n63.hit (by decide) (by omega) (by omega) (by decide) hl1) (by rw [c23, (hT 11 (show 11 < 13 by decide)).2 _ rfl, e8, tn_nI (by omega)]; exact n63.hit (by decide) (by omega) (by omega) (by decide) hl2) (by rw [c24, a1]; exact n64.miss (by decide) (by omega) (by decide)) (by rw [hG, hL1] at hk; exact hk)
  have gk : ∀ k, k ≠ 24 → k ≠ 33 → k ≠ 34 → k ≠ 35 → k ≠ 36 → k ≠ 37 → k ≠ 66 → cT (p + 13) G k = F k := fun k h24 h33 h34 h35 h36 h37 h66 => by
    rw [cTn h66, hG, up2_n _ _ h24, st2_n _ _ _ h37, st2_n _ _ _ h36, st2_n _ _ _ h35, st2_n _ _ _ h34, st2_n _ _ _ h33, cTn h66]
  have g20 : cT (p + 13) G 20 = F 20 := gk 20 (by decide) (by decide) (by decide) (by decide) (by decide) (by decide) (by decide)
  have g21 : cT (p + 13) G 21 = F 21 := gk 21 (by decide) (by decide) (by decide) (by decide) (by decide) (by decide) (by decide)
  have g22 : cT (p + 13) G 22 = F 22 := gk 22 (by decide) (by decide) (by decide) (by decide) (by decide) (by decide) (by decide)
  have g23 : cT (p + 13) G 23 = F 23 := gk 23 (by decide) (by decide) (by decide) (by decide) (by decide) (by decide) (by decide)
  have g40 : cT (p + 13) G 40 = F 40 := gk 40 (by decide) (by decide) (by decide) (by decide) (by decide) (by decide) (by decide)
  have g45 : cT (p + 13) G 45 = F 45 := gk 45 (by decide) (by decide) (by decide) (by decide) (by decide) (by decide) (by decide)
  have g67 : cT (p + 13) G 67 = F 67 := gk 67 (by decide) (by decide) (by decide) (by decide) (by decide) (by decide) (by decide)
  have g74 : cT (p + 13) G 74 = F 74 := gk 74 (by decide) (by decide) (by decide) (by decide) (by decide) (by decide) (by decide)
  have g25 : cT (p + 13) G 25 = F 25 := gk 25 (by decide) (by decide) (by decide) (by decide) (by decide) (by decide) (by decide)
  have g26 : cT (p + 13) G 26 = F 26 := gk 26 (by decide) (by decide) (by decide) (by decide) (by decide) (by decide) (by decide)
  have g27 : cT (p + 13) G 27 = F 27 := gk 27 (by decide) (by decide) (by decide) (by decide) (by decide) (by decide) (by decide)
  have g28 : cT (p + 13) G 28 = F 28 := gk 28 (by decide) (by decide) (by decide) (by decide) (by decide) (by decide) (by decide)
  have g29 : cT (p + 13) G 29 = F 29 := gk 29 (by decide) (by decide) (by decide) (by decide) (by decide) (by decide) (by decide)
  have g30 : cT (p + 13) G 30 = F 30 := gk 30 (by decide) (by decide) (by decide) (by decide) (by decide) (by decide) (by decide)
  have g31 : cT (p + 13) G 31 = F 31 := gk 31 (by decide) (by decide) (by decide) (by decide) (by decide) (by decide) (by decide)
  have g32 : cT (p + 13) G 32 = F 32 := gk 32 (by decide) (by decide) (by decide) (by decide) (by decide) (by decide) (by decide)
  have g41 : cT (p + 13) G 41 = F 41 := gk 41 (by decide) (by decide) (by decide) (by decide) (by decide) (by decide) (by decide)
  have g42 : cT (p + 13) G 42 = F 42 := gk 42 (by decide) (by decide) (by decide) (by decide) (by decide) (by decide) (by decide)
  have g43 : cT (p + 13) G 43 = F 43 := gk 43 (by decide) (by decide) (by decide) (by decide) (by decide) (by decide) (by decide)
  have g44 : cT (p + 13) G 44 = F 44 := gk 44 (by decide) (by decide) (by decide) (by decide) (by decide) (by decide) (by decide)
  have g46 : cT (p + 13) G 46 = F 46 := gk 46 (by decide) (by decide) (by decide) (by decide) (by decide) (by decide) (by decide)
  have g47 : cT (p + 13) G 47 = F 47 := gk 47 (by decide) (by decide) (by decide) (by decide) (by decide) (by decide) (by decide)
  have l61 : L1 61 = L 61 := by rw [hL1]; exact ul2_n _ _ (by decide)
  have l62 : L1 62 = L 62 := by rw [hL1]; exact ul2_n _ _ (by decide)
  have l63 : L1 63 = L 63 := by rw [hL1]; exact ul2_n _ _ (by decide)
  have l76 : L1 76 = L 76 := by rw [hL1]; exact ul2_n _ _ (by decide)
  have l64 : L1 64 = vp_updL (L 64) ja (nmc 98 ja) := by rw [hL1, ul2_s, a1]
  have g33 : ∀ i, cT (p + 13) G 33 i = if i = ja then nI x else F 33 i := fun i => by
    rw [cTn (by decide), hG, up2_n _ _ (by decide), st2_n _ _ _ (by decide), st2_n _ _ _ (by decide), st2_n _ _ _ (by decide), st2_n _ _ _ (by decide), st2_k, cTn (by decide)]
  have g34 : ∀ i, cT (p + 13) G 34 i = if i = ja then nI e else F 34 i := fun i => by
    rw [cTn (by decide), hG, up2_n _ _ (by decide), st2_n _ _ _ (by decide), st2_n _ _ _ (by decide), st2_n _ _ _ (by decide), st2_k, st2_n _ _ _ (by decide), cTn (by decide)]
  have g35 : ∀ i, cT (p + 13) G 35 i = if i = ja then nI y else F 35 i := fun i => by
    rw [cTn (by decide), hG, up2_n _ _ (by decide), st2_n _ _ _ (by decide), st2_n _ _ _ (by decide), st2_k, st2_n _ _ _ (by decide), st2_n _ _ _ (by decide), cTn (by decide)]
  have g36 : ∀ i, cT (p + 13) G 36 i = if i = ja then nI l1 else F 36 i := fun i => by
    rw [cTn (by decide), hG, up2_n _ _ (by decide), st2_n _ _ _ (by decide), st2_k, st2_n _ _ _ (by decide), st2_n _ _ _ (by decide), st2_n _ _ _ (by decide), cTn (by decide)]
  have g37 : ∀ i, cT (p + 13) G 37 i = if i = ja then nI l2 else F 37 i := fun i => by
    rw [cTn (by decide), hG, up2_n _ _ (by decide), st2_k, st2_n _ _ _ (by decide), st2_n _ _ _ (by decide), st2_n _ _ _ (by decide), st2_n _ _ _ (by decide), cTn (by decide)]
  have g24 : cT (p + 13) G 24 0 = nI (ja + 1) := by rw [cTn (by decide), hG, up2_s]
  have b74 : G 74 = F 74 := by rw [← g74, cTn (by decide)]
  have b66 : G 66 = cT (p + 12) F 66 := by rw [hG, up2_n _ _ (by decide), st2_n _ _ _ (by decide), st2_n _ _ _ (by decide), st2_n _ _ _ (by decide), st2_n _ _ _ (by decide), st2_n _ _ _ (by decide)]
  have s6 : SC κ m val G L1 (p + 12) := (hs.adv (q := p + 12) (by omega)).rows b66 (by rw [b74, cTn (by decide)]) l76
  refine ⟨cT (p + 13) G, L1, ⟨hs.mk' hp b74 l76, by rw [g67]; exact h67, ⟨by rw [g20]; exact c20, by rw [g21]; exact c21, by rw [g22]; exact c22, by rw [g23]; exact c23, g24, by rw [g40]; exact c40, by rw [g45]; exact c45⟩, ⟨by rw [l61]; exact n61, by rw [l62]; exact n62, by rw [l63]; exact n63, by rw [l64]; exact n64.put⟩, fun k hk => by rw [g25, g26, g27]; exact hRB k hk, fun k i hk h1 h2 => by rw [g28]; exact hRP k i hk h1 h2, fun k hk => by rw [g29, g30]; exact hRS k hk, fun k hk => by rw [g31, g32]; exact hRW k hk, ?_, fun k hk => by rw [g41, g42, g43, g44, g46, g47]; exact hRO k hk⟩, rd_step hK hs (by rw [show ck (κ p) = 43 from (hT 0 (show 0 < 13 by decide)).1]; decide) hline s6 (hT 12 (show 12 < 13 by decide)).1⟩
  · intro k hk
    rw [g33, g34, g35, g36, g37]
    by_cases e : k = ja
    · rw [if_pos e, if_pos e, if_pos e, if_pos e, if_pos e, e]; exact ⟨e0.symm, e1.symm, e2.symm, e7.symm, e8.symm⟩
    · rw [if_neg e, if_neg e, if_neg e, if_neg e, if_neg e]; exact hRA k (by omega)
theorem rs_bore (hK : KIN κ m) (R : RST κ m val nl nb V S W B O F L p jb js jl ja jo) (hj : jb < 3) (hr : bK V jb (V jb)) (hf : fo V (jb + 1) ≤ 60) (hT : TOK κ val p (kB jb (V jb))) (hp : p + 7 ≤ m) : ∃ F' L', RST κ m val nl nb V S W B O F' L' (p + 7) (jb + 1) js jl ja jo ∧ RDS aa qq F L F' L' 1 := by
  obtain ⟨hs, h67, ⟨c20, c21, c22, c23, c24, c40, c45⟩, ⟨n61, n62, n63, n64⟩, hRB, hRP, hRS, hRW, hRA, hRO⟩ := R
  obtain ⟨x, y, hx1, hx2, hy, e0, e1, e2⟩ := hr
  have ef : fo V (jb + 1) = fo V jb + x := by
    show fo V jb + (V jb 0).toInt.toNat = _
    rw [e0, tn_nI (by omega)]
  obtain ⟨G, hG⟩ : ∃ G, G = up2 (dgG 28 21 (nI jb) x (st2 (st2 (st2 (cT (p + 6) F) 25 jb (nI x)) 26 jb (nI y)) 27 jb (nI (fo V jb)))) 20 (fun _ => nI (jb + 1)) := ⟨_, rfl⟩
  obtain ⟨L1, hL1⟩ : ∃ L1, L1 = ul2 L 61 (vp_updL (L 61) jb (val (p + 1))) := ⟨_, rfl⟩
  have a1 : val (p + 1) = nmc 97 jb := (hT 1 (show 1 < 7 by decide)).2 _ rfl
  have hline : ∀ K : Int32 → M2 → L2 → Prop, K 1 G L1 → wp_X2_line F L K := fun K hk => ln_bore (c := jb) (x := x) (y := y) (np := fo V jb) hK hs (by omega) (hT.kd (r := [32]) rfl) h67 (by omega) c20 c21 (by omega) hx1 hx2 hy (by rw [(hT 3 (show 3 < 7 by decide)).2 _ rfl]; exact num_of (by omega) e0) (by rw [(hT 5 (show 5 < 7 by decide)).2 _ rfl]; exact num_of (by omega) e1) (by rw [c20, a1]; exact n61.miss (by decide) (by omega) (by decide)) (by rw [hG, hL1] at hk; exact hk)
  obtain ⟨d1, d2, d3⟩ := dgG_spec (ka := 28) (kc := 21) (by decide) (k := nI jb) x (st2 (st2 (st2 (cT (p + 6) F) 25 jb (nI x)) 26 jb (nI y)) 27 jb (nI (fo V jb))) (fo V jb) (by rw [st2_n _ _ _ (by decide), st2_n _ _ _ (by decide), st2_n _ _ _ (by decide), cTn (by decide)]; exact c21) (by omega)
  have gk : ∀ k, k ≠ 20 → k ≠ 21 → k ≠ 25 → k ≠ 26 → k ≠ 27 → k ≠ 28 → k ≠ 66 → cT (p + 7) G k = F k := fun k h20 h21 h25 h26 h27 h28 h66 => by
    rw [cTn h66, hG, up2_n _ _ h20, d3 _ h28 h21, st2_n _ _ _ h27, st2_n _ _ _ h26, st2_n _ _ _ h25, cTn h66]
  have g22 : cT (p + 7) G 22 = F 22 := gk 22 (by decide) (by decide) (by decide) (by decide) (by decide) (by decide) (by decide)
  have g23 : cT (p + 7) G 23 = F 23 := gk 23 (by decide) (by decide) (by decide) (by decide) (by decide) (by decide) (by decide)
  have g24 : cT (p + 7) G 24 = F 24 := gk 24 (by decide) (by decide) (by decide) (by decide) (by decide) (by decide) (by decide)
  have g40 : cT (p + 7) G 40 = F 40 := gk 40 (by decide) (by decide) (by decide) (by decide) (by decide) (by decide) (by decide)
  have g45 : cT (p + 7) G 45 = F 45 := gk 45 (by decide) (by decide) (by decide) (by decide) (by decide) (by decide) (by decide)
  have g67 : cT (p + 7) G 67 = F 67 := gk 67 (by decide) (by decide) (by decide) (by decide) (by decide) (by decide) (by decide)
  have g74 : cT (p + 7) G 74 = F 74 := gk 74 (by decide) (by decide) (by decide) (by decide) (by decide) (by decide) (by decide)
  have g29 : cT (p + 7) G 29 = F 29 := gk 29 (by decide) (by decide) (by decide) (by decide) (by decide) (by decide) (by decide)
  have g30 : cT (p + 7) G 30 = F 30 := gk 30 (by decide) (by decide) (by decide) (by decide) (by decide) (by decide) (by decide)
  have g31 : cT (p + 7) G 31 = F 31 := gk 31 (by decide) (by decide) (by decide) (by decide) (by decide) (by decide) (by decide)
  have g32 : cT (p + 7) G 32 = F 32 := gk 32 (by decide) (by decide) (by decide) (by decide) (by decide) (by decide) (by decide)
  have g33 : cT (p + 7) G 33 = F 33 := gk 33 (by decide) (by decide) (by decide) (by decide) (by decide) (by decide) (by decide)
  have g34 : cT (p + 7) G 34 = F 34 := gk 34 (by decide) (by decide) (by decide) (by decide) (by decide) (by decide) (by decide)
  have g35 : cT (p + 7) G 35 = F 35 := gk 35 (by decide) (by decide) (by decide) (by decide) (by decide) (by decide) (by decide)
  have g36 : cT (p + 7) G 36 = F 36 := gk 36 (by decide) (by decide) (by decide) (by decide) (by decide) (by decide) (by decide)
  have g37 : cT (p + 7) G 37 = F 37 := gk 37 (by decide) (by decide) (by decide) (by decide) (by decide) (by decide) (by decide)
  have g41 : cT (p + 7) G 41 = F 41 := gk 41 (by decide) (by decide) (by decide) (by decide) (by decide) (by decide) (by decide)
  have g42 : cT (p + 7) G 42 = F 42 := gk 42 (by decide) (by decide) (by decide) (by decide) (by decide) (by decide) (by decide)
  have g43 : cT (p + 7) G 43 = F 43 := gk 43 (by decide) (by decide) (by decide) (by decide) (by decide) (by decide) (by decide)
  have g44 : cT (p + 7) G 44 = F 44 := gk 44 (by decide) (by decide) (by decide) (by decide) (by decide) (by decide) (by decide)
  have g46 : cT (p + 7) G 46 = F 46 := gk 46 (by decide) (by decide) (by decide) (by decide) (by decide) (by decide) (by decide)
  have g47 : cT (p + 7) G 47 = F 47 := gk 47 (by decide) (by decide) (by decide) (by decide) (by decide) (by decide) (by decide)
  have l62 : L1 62 = L 62 := by rw [hL1]; exact ul2_n _ _ (by decide)
  have l63 : L1 63 = L 63 := by rw [hL1]; exact ul2_n _ _ (by decide)
  have l64 : L1 64 = L 64 := by rw [hL1]; exact ul2_n _ _ (by decide)
  have l76 : L1 76 = L 76 := by rw [hL1]; exact ul2_n _ _ (by decide)
  have l61 : L1 61 = vp_updL (L 61) jb (nmc 97 jb) := by rw [hL1, ul2_s, a1]
  have g25 : ∀ i, cT (p + 7) G 25 i = if i = jb then nI x else F 25 i := fun i => by
    rw [cTn (by decide), hG, up2_n _ _ (by decide), d3 _ (by decide) (by decide), st2_n _ _ _ (by decide), st2_n _ _ _ (by decide), st2_k, cTn (by decide)]
  have g26 : ∀ i, cT (p + 7) G 26 i = if i = jb then nI y else F 26 i := fun i => by
    rw [cTn (by decide), hG, up2_n _ _ (by decide), d3 _ (by decide) (by decide), st2_n _ _ _ (by decide), st2_k, st2_n _ _ _ (by decide), cTn (by decide)]
  have g27 : ∀ i, cT (p + 7) G 27 i = if i = jb then nI (fo V jb) else F 27 i := fun i => by
    rw [cTn (by decide), hG, up2_n _ _ (by decide), d3 _ (by decide) (by decide), st2_k, st2_n _ _ _ (by decide), st2_n _ _ _ (by decide), cTn (by decide)]
  have g28 : ∀ i, cT (p + 7) G 28 i = if fo V jb ≤ i ∧ i < fo V jb + x then nI jb else F 28 i := fun i => by
    rw [cTn (by decide), hG, up2_n _ _ (by decide), d2, st2_n _ _ _ (by decide), st2_n _ _ _ (by decide), st2_n _ _ _ (by decide), cTn (by decide)]
  have g20 : cT (p + 7) G 20 0 = nI (jb + 1) := by rw [cTn (by decide), hG, up2_s]
  have g21 : cT (p + 7) G 21 0 = nI (fo V (jb + 1)) := by rw [cTn (by decide), hG, up2_n _ _ (by decide), d1, ef]
  have b74 : G 74 = F 74 := by rw [← g74, cTn (by decide)]
  have b66 : G 66 = cT (p + 6) F 66 := by rw [hG, up2_n _ _ (by decide), d3 _ (by decide) (by decide), st2_n _ _ _ (by decide), st2_n _ _ _ (by decide), st2_n _ _ _ (by decide)]
  have s6 : SC κ m val G L1 (p + 6) := (hs.adv (q := p + 6) (by omega)).rows b66 (by rw [b74, cTn (by decide)]) l76
  refine ⟨cT (p + 7) G, L1, ⟨hs.mk' hp b74 l76, by rw [g67]; exact h67, ⟨g20, g21, by rw [g22]; exact c22, by rw [g23]; exact c23, by rw [g24]; exact c24, by rw [g40]; exact c40, by rw [g45]; exact c45⟩, ⟨by rw [l61]; exact n61.put, by rw [l62]; exact n62, by rw [l63]; exact n63, by rw [l64]; exact n64⟩, ?_, ?_, fun k hk => by rw [g29, g30]; exact hRS k hk, fun k hk => by rw [g31, g32]; exact hRW k hk, fun k hk => by rw [g33, g34, g35, g36, g37]; exact hRA k hk, fun k hk => by rw [g41, g42, g43, g44, g46, g47]; exact hRO k hk⟩, rd_step hK hs (by rw [show ck (κ p) = 34 from (hT 0 (show 0 < 7 by decide)).1]; decide) hline s6 (hT 6 (show 6 < 7 by decide)).1⟩
  · intro k hk
    rw [g25, g26, g27]
    by_cases e : k = jb
    · rw [if_pos e, if_pos e, if_pos e, e]; exact ⟨e0.symm, e1.symm, e2.symm⟩
    · rw [if_neg e, if_neg e, if_neg e]; exact hRB k (by omega)
  · intro k i hk h1 h2
    rw [g28]
    by_cases c : fo V jb ≤ i ∧ i < fo V jb + x
    · have ek : k = jb := by
        by_cases c1 : k < jb
        · have := fo_mono (V := V) (show k + 1 ≤ jb by omega); omega
        · omega
      rw [if_pos c, ek]
    · rw [if_neg c]
      have hk' : k < jb := by
        by_cases c1 : k = jb
        · rw [c1] at h1 h2; omega
        · omega
      exact hRP k i hk' h1 h2
end RDL
