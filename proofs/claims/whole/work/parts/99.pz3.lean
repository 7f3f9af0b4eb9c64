/-! ===== the tape taught: both sides ===== -/
section TEACH
section PASS
variable {κ : Nat → Int32} {m : Nat} {val : Nat → Int64} {N0 : M2} {ρ : Nat → Int32}
theorem newE_p (a b c : Int32) : newE a b c = 0 ∨ ¬ newE a b c ≤ 0 := by
  unfold newE
  repeat' split
  all_goals first | exact Or.inl rfl | exact Or.inr (by decide)
theorem rngE_p (a b c : Int32) : rngE a b c = 0 ∨ ¬ rngE a b c ≤ 0 := by
  unfold rngE
  repeat' split
  all_goals first | exact Or.inl rfl | exact Or.inr (by decide)
theorem lookE_p (a : Int32) : lookE a = 0 ∨ ¬ lookE a ≤ 0 := by
  unfold lookE
  repeat' split
  all_goals first | exact Or.inl rfl | exact Or.inr (by decide)
def EP (z : Int32 × M2) : Prop := z.1 = 0 ∨ ¬ z.1 ≤ 0
theorem ep_if {c : Prop} [Decidable c] {a b : Int32 × M2} (ha : EP a) (hb : EP b) : EP (if c then a else b) := by
  split
  · exact ha
  · exact hb
theorem p_if {c : Prop} [Decidable c] {a b : Int32} (ha : a = 0 ∨ ¬ a ≤ 0) (hb : b = 0 ∨ ¬ b ≤ 0) : (if c then a else b) = 0 ∨ ¬ (if c then a else b) ≤ 0 := by
  split
  · exact ha
  · exact hb
theorem erF_p {t : Nat} {V : M2} : EP (erF κ val ρ t V) := by
  unfold erF
  repeat' first | exact newE_p _ _ _ | exact rngE_p _ _ _ | exact lookE_p _ | exact (Or.inl rfl : (0 : Int32) = 0 ∨ _) | exact (Or.inr (by decide) : (4 : Int32) = 0 ∨ ¬ (4 : Int32) ≤ 0) | exact p_if (Or.inr (by decide)) (lookE_p _) | refine ep_if ?_ ?_
theorem sem_p {W0 : M2} : ∀ t, (sem κ val ρ W0 t).1 = 0 ∨ ¬ (sem κ val ρ W0 t).1 ≤ 0
  | 0 => Or.inl rfl
  | t + 1 => by
    show (semS κ val ρ t (sem κ val ρ W0 t)).1 = 0 ∨ ¬ (semS κ val ρ t (sem κ val ρ W0 t)).1 ≤ 0
    unfold semS
    by_cases e : (sem κ val ρ W0 t).1 = 0
    · rw [if_pos e]
      exact erF_p
    · rw [if_neg e]
      exact sem_p t
theorem sem_s {W0 : M2} {t : Nat} (h : (sem κ val ρ W0 t).1 = 0) : sem κ val ρ W0 (t + 1) = ((erF κ val ρ t (sem κ val ρ W0 t).2.2).1, t, (erF κ val ρ t (sem κ val ρ W0 t).2.2).2) := by
  show semS κ val ρ t (sem κ val ρ W0 t) = _
  unfold semS
  rw [if_pos h]
theorem sem_stay {W0 : M2} {t : Nat} (h : ¬ (sem κ val ρ W0 t).1 = 0) : ∀ d, sem κ val ρ W0 (t + d) = sem κ val ρ W0 t
  | 0 => rfl
  | d + 1 => by
    show semS κ val ρ (t + d) (sem κ val ρ W0 (t + d)) = _
    rw [sem_stay h d]
    unfold semS
    rw [if_neg h]
def MEA (val : Nat → Int64) (ρ : Nat → Int32) (t : Nat) (N : M2) : Prop := ∀ i, i < t → (ρ i = 20 → N 228 i = tld val ρ 3 i i) ∧ (ρ i = 21 → N 228 i = tld val ρ 4 i i)
theorem meaF_n {t k : Nat} {N : M2} (h : k ≠ 228) : meaF val ρ t N k = N k := by
  unfold meaF
  split
  · exact up2_n _ _ h
  · split
    · exact up2_n _ _ h
    · rfl
theorem MEA.step {t : Nat} {N : M2} (h : MEA val ρ t N) : MEA val ρ (t + 1) (meaF val ρ t N) := by
  intro i hi
  unfold meaF
  by_cases e : i = t
  · subst e
    refine ⟨fun r => ?_, fun r => ?_⟩
    · rw [if_pos (Or.inr (Or.inr (Or.inr r)))]
      unfold mea
      rw [up2_s, upd_s]
    · rw [if_neg (by rw [r]; decide), if_pos r]
      unfold mea
      rw [up2_s, upd_s]
  · have g := h i (by omega)
    split
    · unfold mea
      rw [up2_s, upd_n _ _ e]
      exact g
    · split
      · unfold mea
        rw [up2_s, upd_n _ _ e]
        exact g
      · exact g
theorem rd_loop {W0 : M2} {q : Nat} {K : Int32 → M2 → M2 → Prop} (hm : m ≤ 400) (hNum : NUM κ m val N0) (hNV : NUMV κ m val) (hS : SAM κ m val N0) (hN : ∀ i, i ≤ m → N0 224 i = κ i) (hq : q ≤ m) (hW : WFR κ ρ q) (h0 : SINV ρ W0 0) {Na : M2}
    (hOK : (sem κ val ρ W0 q).1 = 0 → ∀ N', SRW ρ N0 N' → MEA val ρ q N' → (∀ k, k ≠ 228 → k ≠ 229 → N' k = Na k) → wl_X8_readT_111 K fK N' (sem κ val ρ W0 q).2.2 0)
    (hER : ¬ (sem κ val ρ W0 q).1 = 0 → ∀ N' V', (∀ k, k ≠ 228 → k ≠ 229 → N' k = Na k) → K (sem κ val ρ W0 q).1 (up2 N' 223 (fun _ => N' 225 (sem κ val ρ W0 q).2.1)) V') :
    ∀ (d t f : Nat) (N : M2), t + d = q → d < f → SRW ρ N0 N → N 229 0 = nI t → MEA val ρ t N → (∀ k, k ≠ 228 → k ≠ 229 → N k = Na k) → (sem κ val ρ W0 t).1 = 0 → wl_X8_readT_57 K f N (sem κ val ρ W0 t).2.2 (nI q) := by
  intro d
  induction d with
  | zero =>
    intro t f N ht hf hR h229 hM hfr hz
    obtain ⟨f, rfl, _⟩ := fuel hf
    have et : t = q := by omega
    subst et
    exact ⟨fun _ => hOK hz N hR hM hfr, fun z => absurd (by rw [h229, le_nI (by omega) (by omega)]; omega) z⟩
  | succ d ih =>
    intro t f N ht hf hR h229 hM hfr hz
    obtain ⟨f, rfl, _⟩ := fuel (show 0 < f by omega)
    refine ⟨fun z => absurd z (by rw [h229, le_nI (by omega) (by omega)]; omega), fun _ => ?_⟩
    rw [h229]
    have es := sem_s hz
    have f229 : meaF val ρ t N 229 0 = nI t := by rw [meaF_n (by decide)]; exact h229
    have ffr : ∀ k, k ≠ 228 → k ≠ 229 → meaF val ρ t N k = Na k := fun k a b => by rw [meaF_n a]; exact hfr k a b
    refine r_errorOf hm hNum hNV hS hN hR hq (show t < q by omega) hW (sem_inv hNV hq hW h0 t (by omega) hz) ⟨fun c => ⟨by rw [f229]; exact inb_nI (by omega) (by decide), fun N1 e1 => ?_⟩, fun c N1 e1 => ?_⟩
    · rw [f229, tn_nI (by omega)] at e1
      have hne : ¬ (sem κ val ρ W0 (t + 1)).1 = 0 := by rw [es]; exact c
      have eq : sem κ val ρ W0 q = sem κ val ρ W0 (t + 1) := by
        have := sem_stay hne (q - (t + 1))
        rw [show t + 1 + (q - (t + 1)) = q by omega] at this
        exact this
      have r := hER (by rw [eq]; exact hne) (meaF val ρ t N) (erF κ val ρ t (sem κ val ρ W0 t).2.2).2 ffr
      rw [eq, es] at r
      rw [e1]
      exact r
    · rw [f229, nI_1] at e1
      have hz2 : (sem κ val ρ W0 (t + 1)).1 = 0 := by rw [es]; exact c
      have r := ih (t + 1) f N1 (by omega) (by omega) (by
          have := hR.meaG (val := val) t
          unfold SRW at this ⊢
          rw [e1, up2_n _ _ (by decide), up2_n _ _ (by decide), up2_n _ _ (by decide), up2_n _ _ (by decide), up2_n _ _ (by decide)]
          exact this) (by rw [e1, up2_s]) (by
          have := hM.step
          unfold MEA at this ⊢
          rw [e1, up2_n _ _ (by decide)]
          exact this) (fun k a b => by rw [e1, up2_n _ _ b]; exact ffr k a b) hz2
      rw [es] at r
      exact r
theorem rd_fix {K : Int32 → M2 → M2 → Prop} {N : M2} {hi : Nat} (h800 : hi ≤ 800) : ∀ (l : List Nat) (j f lo : Nat) (P : M2), P 266 0 = nI (j + l.length) → j + l.length ≤ 400 → l.length < f → (∀ i (hi : i < l.length), P 265 (j + i) = nI (l[i])) → Inc lo hi l → (∀ x ∈ l, ∃ b, b < 401 ∧ P 263 x = nI b) → (∀ P', (∀ k, k ≠ 263 → P' k = P k) → P' 263 = fxL (N 228) l (P 263) → K 0 N P') → wl_X8_readT_111 K f N P (nI j)
  | [], j, f, lo, P, h266, hl, hf, _, _, _, hK => by
    obtain ⟨f, rfl, _⟩ := fuel hf
    have h266 : P 266 0 = nI j := h266
    have hl : j ≤ 400 := hl
    exact ⟨fun _ => hK P (fun _ _ => rfl) rfl, fun z => absurd (by rw [h266, le_nI (by omega) (by omega)]; omega) z⟩
  | x :: l, j, f, lo, P, h266, hl, hf, h265, hI, h263, hK => by
    have hlen : (x :: l).length = l.length + 1 := rfl
    rw [hlen] at h266 hl hf
    obtain ⟨f, rfl, _⟩ := fuel (show 0 < f by omega)
    have ex : P 265 j = nI x := by
      have := h265 0 (by rw [hlen]; omega)
      exact this
    have hx := hI.mem List.mem_cons_self
    obtain ⟨b, hb, eb⟩ := h263 x List.mem_cons_self
    have inJ : inb (nI j) 400 := inb_nI (by omega) (by decide)
    unfold wl_X8_readT_111
    rw [h266, tn_nI (by omega), ex, tn_nI (by omega), eb, tn_nI (by omega)]
    have inX : inb (nI x) 800 := inb_nI (by omega) (by decide)
    refine ⟨fun z => absurd z (by rw [le_nI (by omega) (by omega)]; omega), fun _ => ⟨inJ, inJ, inX, inb_nI (by omega) (by decide), inX, fun P1 e1 v e2 => ?_⟩⟩
    rw [nI_1] at e2
    subst e2
    have p1 : ∀ k, k ≠ 263 → P1 k = P k := fun k hk => by rw [e1, up2_n _ _ hk]
    have p2 : P1 263 = upd (P 263) x (N 228 b) := by rw [e1, up2_s]
    refine rd_fix h800 l (j + 1) f (x + 1) P1 (by rw [p1 _ (by decide), h266]; congr 1; omega) (by omega) (by omega) (fun i hi => ?_) hI.2 (fun y hy => ?_) (fun P' g1 g2 => hK P' (fun k hk => by rw [g1 k hk, p1 k hk]) ?_)
    · rw [p1 _ (by decide)]
      have := h265 (i + 1) (by rw [hlen]; omega)
      rw [show j + 1 + i = j + (i + 1) by omega, this]
      rfl
    · have hy2 := (hI.2.mem hy).1
      rw [p2, upd_n _ _ (by omega)]
      exact h263 y (List.mem_cons_of_mem _ hy)
    · rw [g2, p2]
      show _ = fxL (N 228) l (upd (P 263) x (N 228 (P 263 x).toInt.toNat))
      rw [eb, tn_nI (by omega)]
theorem pos_nm {C : Nat → Int32} : ∀ (its : List IT) (c : Nat), SEG C c (flatP val its) → ∀ x ∈ posL c its, ∃ q ∈ its, isNm q.1 ∧ C x = nI q.2
  | [], c, _, x, hx => nomatch hx
  | q :: its, c, h, x, hx => by
    have u : posL c (q :: its) = if isNm q.1 then (c + 1) :: posL (c + 2) its else posL (c + (if q.1 = 4 ∨ q.1 = 7 then 2 else 1)) its := rfl
    have hf : flatP val (q :: its) = flatP1 val q ++ flatP val its := rfl
    rw [hf] at h
    obtain ⟨h1, h2⟩ := SEG.app h
    rw [u] at hx
    by_cases c1 : isNm q.1
    · have c2 : ¬ (q.1 = 4 ∨ q.1 = 7) := fun z => by
        unfold isNm at c1
        rcases z with z | z <;> rw [z] at c1 <;> exact absurd c1 (by decide)
      have ef : flatP1 val q = [encV q.1, nI q.2] := by unfold flatP1; rw [if_neg c2, if_pos c1]
      rw [ef] at h1 h2
      rw [if_pos c1] at hx
      rcases List.mem_cons.mp hx with e | e
      · subst e
        exact ⟨q, List.mem_cons_self, c1, h1 1 (show 1 < 2 by decide)⟩
      · obtain ⟨q', a, b, d⟩ := pos_nm its (c + 2) h2 x e
        exact ⟨q', List.mem_cons_of_mem _ a, b, d⟩
    · rw [if_neg c1] at hx
      have el : (flatP1 val q).length = (if q.1 = 4 ∨ q.1 = 7 then 2 else 1) := by
        unfold flatP1
        by_cases c2 : q.1 = 4 ∨ q.1 = 7
        · rw [if_pos c2, if_pos c2]
          rfl
        · rw [if_neg c2, if_neg c2, if_neg c1]
          rfl
      rw [el] at h2
      obtain ⟨q', a, b, d⟩ := pos_nm its _ h2 x hx
      exact ⟨q', List.mem_cons_of_mem _ a, b, d⟩
end PASS
theorem r_readT {τ : Nat → Nat} {sz m : Nat} {Ns : M2} {K : Int32 → M2 → M2 → Prop} (hB : ∀ p, p < sz → τ p ≤ 255) (hM : LST τ sz m) (hT : TPR τ sz Ns) (h : wp_X8_isPlan (up2 (up2 (NTK τ sz (m + 1) Ns) 229 (fun _ => 0)) 230 (fun _ => 0)) zM (fun r_26 N_26 P_26 => ((¬ r_26 = 0 → (∀ v1_51, v1_51 = N_26 229 0 → (∀ N_54 : M2, N_54 = up2 N_26 229 (fun _ => 0) → wl_X8_readT_57 K fK N_54 P_26 v1_51))) ∧ (r_26 = 0 → (inb (N_26 229 0) 401 ∧ (∀ N_42 : M2, N_42 = up2 N_26 223 (fun _ => N_26 225 (N_26 229 0).toInt.toNat) → K 1 N_42 P_26)))))) : wp_X8_readT Ns zM K := by
  have hm := hM.1
  have key := r_toks (K := fun N_12 P_12 => (∀ N_17 : M2, N_17 = up2 N_12 229 (fun _ => 0) → (∀ N_22 : M2, N_22 = up2 N_17 230 (fun _ => 0) → wp_X8_isPlan N_22 P_12 (fun r_26 N_26 P_26 => ((¬ r_26 = 0 → (∀ v1_51, v1_51 = N_26 229 0 → (∀ N_54 : M2, N_54 = up2 N_26 229 (fun _ => 0) → wl_X8_readT_57 K fK N_54 P_26 v1_51))) ∧ (r_26 = 0 → (inb (N_26 229 0) 401 ∧ (∀ N_42 : M2, N_42 = up2 N_26 223 (fun _ => N_26 225 (N_26 229 0).toInt.toNat) → K 1 N_42 P_26)))))))) (P := zM) hB hM hT (fun N1 e1 N2 e2 => by subst e1 e2; exact h) m 0 fK (by omega) (by rw [fK_eq]; omega)
  rw [NTK_0] at key
  exact key
theorem KWT.rf {F F' : M2} {L L' : L2} (h : KWT F L) (r : RFX F F' L L') : KWT F' L' := by
  unfold KWT
  rw [r.1 73 (by decide) (by decide) (by decide) (by decide) (by decide), r.1 72 (by decide) (by decide) (by decide) (by decide) (by decide), r.2 71 (by decide) (by decide)]
  exact h
theorem tap0 {C B N V : M2} (h1 : C 91 0 = 0) (h2 : N 222 0 = 0) : TAP 0 C B N V := ⟨by decide, h1, h2, fun i hi => absurd hi (Nat.not_lt_zero _)⟩
theorem te_all {a q q2 mq : Nat → Nat} {ap bp rp : Nat} {C T G P Y : M2} {L : L2} {B S O N V U Nm : M2} (h : IVL C T P Y L B S N V U) (e221 : Nm 221 = V 221) (e222 : Nm 222 = N 222) {K2 : Int32 → Nat → Nat → Nat → M2 → M2 → M2 → M2 → M2 → L2 → M2 → Int32 → M2 → M2 → M2 → M2 → Prop} (hK : ∀ r ap bp rp C1 T1 G1 P1 Y1 L1 B1 S1 O1 N1 U1, IVL C1 T1 P1 Y1 L1 B1 S1 N1 N1 U1 → K2 r ap bp rp C1 T1 G1 P1 Y1 L1 B1 r S1 O1 N1 U1) : wp_X5_teach a q q2 ap bp rp C T G P Y L B (fun r ap bp rp C1 T1 G1 P1 Y1 L1 B1 => wp_X8_teach mq S O Nm U (fun r2 S1 O1 N1 U1 => K2 r ap bp rp C1 T1 G1 P1 Y1 L1 B1 r2 S1 O1 N1 U1)) := by
  obtain ⟨kb, np, nl, nb, ns, no, n, hX, hR, hI, hW, hT, h92, h212⟩ := h
  obtain ⟨τ, hτ⟩ : ∃ τ : Nat → Nat, ∀ i, τ i ≤ 255 ∧ B 80 i &&& 255 = nI (τ i) := by
    refine ⟨fun i => (B 80 i &&& 255).toInt.toNat, fun i => ?_⟩
    obtain ⟨b, h1, h2⟩ := and255 (B 80 i)
    dsimp only
    rw [h2, tn_nI (by omega)]
    exact ⟨h1, rfl⟩
  have hB : ∀ p, p < n → τ p ≤ 255 := fun p _ => (hτ p).1
  obtain ⟨m, hM⟩ := lst_ex (sz := n) hB
  have hm := hM.1
  have hn := hT.1
  obtain ⟨Ns, hNs⟩ : ∃ Ns, Ns = up2 (up2 Nm 220 (fun _ => 0)) 223 (fun _ => -1) := ⟨_, rfl⟩
  have hTs : TPR τ n Ns := ⟨hn, fun i hi => ⟨(hτ i).1, by rw [hNs, up2_n _ _ (by decide), up2_n _ _ (by decide), e221, hT.2.2.2 i hi]; exact (hτ i).2⟩, by rw [hNs, up2_n _ _ (by decide), up2_n _ _ (by decide), e222]; exact hT.2.2.1⟩
  have hs223 : Ns 223 0 = -1 := by rw [hNs, up2_s]
  obtain ⟨Nt, hNt⟩ : ∃ Nt, Nt = up2 (up2 (NTK τ n (m + 1) Ns) 229 (fun _ => 0)) 230 (fun _ => 0) := ⟨_, rfl⟩
  have nt : ∀ k, k ≠ 229 → k ≠ 230 → Nt k = NTK τ n (m + 1) Ns k := fun k h1 h2 => by rw [hNt, up2_n _ _ h2, up2_n _ _ h1]
  have hTt : TPR τ n Nt := hTs.rows (by rw [nt 221 (by decide) (by decide), NTK_n (Or.inl (by decide))]) (by rw [nt 222 (by decide) (by decide), NTK_n (Or.inl (by decide))])
  have hRt : RTK τ n m (m + 1) Nt := fun j hj => by
    rw [nt 224 (by decide) (by decide), nt 225 (by decide) (by decide), nt 226 (by decide) (by decide), nt 227 (by decide) (by decide), nt 228 (by decide) (by decide)]
    exact NTK_R hB hM j hj
  have h229 : Nt 229 = fun _ => nI 0 := by rw [hNt, up2_n _ _ (by decide), up2_s]; rfl
  have h230 : Nt 230 = fun _ => nI 0 := by rw [hNt, up2_s]; rfl
  have t223 : Nt 223 0 = -1 := by rw [nt 223 (by decide) (by decide), NTK_n (Or.inl (by decide))]; exact hs223
  have hWB : KWT (mgR Y B) L := hW
  have hb := rd_all (aa := a) (qq := q2) (bp := bp) (rp := rp) hB hM (F := mgR Y B) (L := L) (N := Nt) (P := zM) hn (fun i hi => (hτ i).2) hWB hTt hRt h229 h230 ⟨rfl, rfl, rfl, rfl, rfl, rfl, rfl, rfl, rfl⟩
  have go : ∀ (K1 : Int32 → M2 → M2 → M2 → M2 → Prop), wp_X8_readT Ns zM (fun r N1 P1 => ∀ v : Nat → Nat, wp_X8_teachT mq v (mq 240) S O N1 U P1 r (fun r pp S1 O1 N2 P2 U2 => (pp = mq 240 ∧ K1 r S1 O1 N2 P2) ∨ (pp = v 240 ∧ K1 r S1 O1 N2 U2))) → wp_X8_teach mq S O Nm U K1 := fun K1 z => by
    unfold wp_X8_teach
    rw [← hNs]
    exact z
  unfold wp_X5_teach wp_X5_teachT
  rw [hT.2.1]
  rcases hb with ⟨p', N', P', F', L', hp', e229, hfr, f67, f69, hrf, cls, ref⟩ | ⟨q', N', P', its, nr, hq, hk9, e229, hfr, hpf, hWF, hIT, hCO, ref, hcase⟩
  · refine cls _ ⟨rfl, rfl, fun C1 e1 C2 e2 => ⟨fun _ => Or.inl ⟨rfl, rfl, go _ ?_⟩, fun z => absurd z (by decide)⟩⟩
    refine r_readT hB hM hTs ?_
    rw [← hNt]
    refine ref _ ⟨fun z => absurd rfl z, fun _ => ⟨by rw [e229]; exact inb_nI (by omega) (by decide), fun N1 e3 v N2 e4 => ⟨fun z => absurd z (by decide), fun _ => Or.inl ⟨rfl, hK _ _ _ _ _ _ _ _ _ _ _ _ _ _ _ ?_⟩⟩⟩⟩
    refine IVL.act hX hR hI (hWB.rf hrf) (tap0 (by rw [e2, up2_s]) (by rw [e4, up2_s])) ?_ h212
    rw [e2, up2_n _ _ (by decide), e1, up2_s, f69, e4, up2_n _ _ (by decide), e3, up2_s, e229, tn_nI (by omega), hfr 225 (Or.inl (by decide))]
    exact (hRt p' (by omega)).2.1.symm
  · have hS := tok_SAM hB hM hTt hRt
    have hNum := tok_NUM hB hM hTt hRt
    have hNV := tok_NUMV (m := m) hB
    have hN : ∀ i, i ≤ m → Nt 224 i = kT τ n i := fun i hi => (hRt i (by omega)).1
    have h0 : SINV (N' 227) P' 0 := ⟨⟨by rw [hpf 240 (Or.inl (by decide))]; rfl, Nat.zero_le 5⟩, ⟨by rw [hpf 246 (Or.inl (by decide))]; rfl, Nat.zero_le 4⟩, ⟨by rw [hpf 249 (Or.inl (by decide))]; rfl, Nat.zero_le 6⟩, ⟨by rw [hpf 252 (Or.inl (by decide))]; rfl, Nat.zero_le 8⟩, ⟨by rw [hpf 257 (Or.inl (by decide))]; rfl, Nat.zero_le 16⟩, 0, by rw [hpf 241 (Or.inl (by decide))]; rfl, Nat.zero_le _⟩
    obtain ⟨a1, a2, a3, a4⟩ := sem_ag (κ := kT τ n) (val := vT τ n) hpf hWF q' (Nat.le_refl _)
    have start : ∀ (K1 : Int32 → M2 → M2 → Prop), (∀ N2, N2 = up2 N' 229 (fun _ => 0) → wl_X8_readT_57 K1 fK N2 P' (nI q')) → wp_X8_readT Ns zM K1 := fun K1 z => by
      refine r_readT hB hM hTs ?_
      rw [← hNt]
      refine ref _ ⟨fun _ v1 e1 N2 e2 => ?_, fun z => absurd z (by decide)⟩
      rw [e1, e229]
      exact z N2 e2
    have hsr : SRW (N' 227) Nt (up2 N' 229 (fun _ => 0)) := by
      unfold SRW
      rw [up2_n _ _ (by decide), up2_n _ _ (by decide), up2_n _ _ (by decide), up2_n _ _ (by decide), up2_n _ _ (by decide)]
      exact ⟨hfr 221 (Or.inl (by decide)), hfr 224 (Or.inl (by decide)), hfr 225 (Or.inl (by decide)), hfr 226 (Or.inl (by decide)), rfl⟩
    have fr2 : ∀ {Nx : M2}, (∀ k, k ≠ 228 → k ≠ 229 → Nx k = up2 N' 229 (fun _ => 0) k) → ∀ k, k ≠ 227 → k ≠ 228 → k ≠ 229 → k ≠ 230 → Nx k = Nt k := fun {Nx} z k k1 k2 k3 k4 => by rw [z k k2 k3, up2_n _ _ k3, hfr k (by omega)]
    rcases hcase with ⟨e, k, F', L', hk, hSE, f67, f69, hrf, cls⟩ | ⟨W, np', F', L', hSO, f67, f69, hPX, hOX, hrf, cls⟩
    · have hep : ¬ e ≤ 0 := by
        rcases sem_p (κ := kT τ n) (val := vT τ n) (ρ := N' 227) (W0 := zM) q' with z | z
        · exact absurd (hSE.1.symm.trans z) hSE.2.1
        · rw [hSE.1] at z
          exact z
      refine cls _ ⟨rfl, rfl, fun C1 e1 C2 e2 => ⟨fun _ => Or.inl ⟨rfl, rfl, go _ ?_⟩, fun z => absurd z hSE.2.1⟩⟩
      refine start _ (fun N2 e3 => ?_)
      subst e3
      refine rd_loop hm hNum hNV hS hN hq hWF h0 (Na := up2 N' 229 (fun _ => 0)) (fun z => absurd ((a1.symm.trans z).symm.trans hSE.1).symm hSE.2.1) (fun _ N3 V3 fr => ?_) q' 0 fK _ (by omega) (by rw [fK_eq]; omega) hsr (by rw [up2_s]; rfl) (fun i hi => absurd hi (Nat.not_lt_zero _)) (fun _ _ _ => rfl) rfl
      rw [a1, a2, hSE.1, hSE.2.2]
      intro v N4 e4
      refine ⟨fun z => absurd z hep, fun _ => Or.inl ⟨rfl, hK _ _ _ _ _ _ _ _ _ _ _ _ _ _ _ ?_⟩⟩
      refine IVL.act hX hR hI (hWB.rf hrf) (tap0 (by rw [e2, up2_s]) (by rw [e4, up2_s])) ?_ h212
      rw [e2, up2_n _ _ (by decide), e1, up2_s, f69, e4, up2_n _ _ (by decide), up2_s, fr2 fr 225 (by decide) (by decide) (by decide) (by decide)]
      exact (hRt k (by omega)).2.1.symm
    · obtain ⟨x1, x2, x3, x4, ⟨z1, z2, z3⟩, xr⟩ := id hPX
      obtain ⟨o1, o2, o3, o4, or⟩ := id hOX
      have hc1 := x1.2.2.1
      have hnp : np' ≤ 60 := by omega
      refine cls _ ⟨rfl, rfl, fun C1 e1 C2 e2 => ⟨fun z => absurd rfl z, fun _ => c_begin hnp z1 x3.2.2.1 x3.1 x4.2.2.1 x4.1 (fun T' hT' => ⟨rfl, Or.inr ⟨rfl, rfl, go _ ?_⟩⟩)⟩⟩
      refine start _ (fun N2 e3 => ?_)
      subst e3
      refine rd_loop hm hNum hNV hS hN hq hWF h0 (Na := up2 N' 229 (fun _ => 0)) (fun _ N3 hsr3 hmea fr => ?_) (fun z => absurd (a1.trans hSO.1) z) q' 0 fK _ (by omega) (by rw [fK_eq]; omega) hsr (by rw [up2_s]; rfl) (fun i hi => absurd hi (Nat.not_lt_zero _)) (fun _ _ _ => rfl) rfl
      rw [hSO.2] at a3
      have hlen := posL_len its 0
      have hle := nms_le its
      have hlr := lenR_le its
      have hinc := posL_inc its 0
      have e266 := a4 266 (Or.inr ⟨by decide, by decide⟩)
      have e265 := a4 265 (Or.inr ⟨by decide, by decide⟩)
      have e263 := a4 263 (Or.inr ⟨by decide, by decide⟩)
      have e262 := a4 262 (Or.inr ⟨by decide, by decide⟩)
      have e261 := a4 261 (Or.inr ⟨by decide, by decide⟩)
      refine rd_fix (hi := 0 + lenR its) (by omega) (posL 0 its) 0 fK 0 _ ?_ (by omega) (by rw [fK_eq]; omega) (fun i hi => ?_) hinc (fun x hx => ?_) (fun Pf g1 g2 => ?_)
      · rw [e266, hCO.2.2.1, Nat.zero_add, hlen]
      · rw [e265, Nat.zero_add]
        exact hCO.2.2.2 i hi
      · obtain ⟨y, hy, hnm, ey⟩ := pos_nm its 0 hCO.2.1 x hx
        have := (hIT.2.2 y hy hnm).2
        exact ⟨y.2, by omega, by rw [e263]; exact ey⟩
      · have hPf := fin_plan (show q' ≤ 400 by omega) hPX hOX hCO hIT a3 e261 e262 g1 (by rw [g2, e263]) (me := N3 228) (fun x hx hnm => by
          obtain ⟨r1, r2⟩ := hIT.2.2 x hx hnm
          have c2 : ¬ (x.1 = 4 ∨ x.1 = 7) := fun z => by
            unfold isNm at hnm
            rcases z with z | z <;> rw [z] at hnm <;> exact absurd hnm (by decide)
          unfold rsV
          unfold roleN at r1
          rw [if_neg c2]
          by_cases c8 : x.1 = 8 ∨ x.1 = 11
          · rw [if_pos c8] at r1 ⊢
            exact (hmea x.2 r2).1 r1
          · rw [if_neg c8] at r1 ⊢
            rw [if_pos (hnm.elim (fun z => absurd (Or.inl z) c8) (fun z => z.elim Or.inl (fun z => z.elim Or.inr (fun z => absurd (Or.inr z) c8))))]
            exact (hmea x.2 r2).2 r1)
        intro v N4 e4
        refine ⟨fun _ => r_begin hnp hPf.1.np2 (fun S' hS' => Or.inr ⟨rfl, hK _ _ _ _ _ _ _ _ _ _ _ _ _ _ _ ?_⟩), fun z => absurd (by decide) z⟩
        obtain ⟨hR2, hI2⟩ := beg_all hPf hT' hS' hR.min hR.weak
        have hk1 : KWT F' L' := hWB.rf hrf
        have hk2 : KWT (swR P F') L' := hk1
        refine IVL.act hPf hR2 hI2 hk2 (tap0 (by rw [e2, up2_s]) (by rw [e4, up2_s])) ?_ (by rw [hS'.1 212 (Or.inr (by decide))]; exact h212)
        rw [e2, up2_n _ _ (by decide), e1, up2_s, f69, e4, up2_n _ _ (by decide), fr2 fr 223 (by decide) (by decide) (by decide) (by decide)]
        exact t223.symm
end TEACH
