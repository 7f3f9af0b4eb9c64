/-! ===== a tape read: the class from its first byte, the reference behind its cut ===== -/
section READS
variable {τ : Nat → Nat} {sz m : Nat}
def RFX (F F' : M2) (L L' : L2) : Prop := (∀ k, 68 < k → k ≠ 69 → k ≠ 74 → k ≠ 75 → k ≠ 78 → F' k = F k) ∧ ∀ k, (k < 61 ∨ 64 < k) → k ≠ 76 → L' k = L k
theorem c_end {aa qq : Nat → Nat} {K : Int32 → Nat → Nat → M2 → L2 → Prop} {F : M2} {L : L2} (h : K (F 67 0) (aa 80) (qq 20) (up2 F 69 (fun _ => if F 67 0 = 0 then -1 else atv (F 75) 401 (F 68 0))) L) : wj_X2_read_104 aa qq K F L := by
  refine And.intro (fun c F1 e1 => ?_) (fun c F1 e1 => ?_)
  · rw [if_neg c] at h
    rw [e1, up2_n _ _ (by decide : (67 : Nat) ≠ 69)]
    exact h
  · rw [if_pos c] at h
    rw [e1, up2_n _ _ (by decide : (67 : Nat) ≠ 69)]
    exact h
theorem rd_all {aa qq : Nat → Nat} {bp rp : Nat} (hB : ∀ p, p < sz → τ p ≤ 255) (hM : LST τ sz m) {F : M2} {L : L2} {N P : M2} (hsz : sz ≤ 2000) (hF80 : ∀ i, i < sz → F 80 i &&& 255 = nI (τ i)) (hW : KWT F L)
    (hT : TPR τ sz N) (hR : RTK τ sz m (m + 1) N) (h229 : N 229 = fun _ => nI 0) (h230 : N 230 = fun _ => nI 0) (hP : P 240 0 = 0 ∧ P 241 0 = 0 ∧ P 246 0 = 0 ∧ P 249 0 = 0 ∧ P 252 0 = 0 ∧ P 257 0 = 0 ∧ P 258 0 = 0 ∧ P 264 0 = 0 ∧ P 266 0 = 0) :
    (∃ (p' : Nat) (N' P' F' : M2) (L' : L2), p' ≤ m ∧ N' 229 0 = nI p' ∧ (∀ k, (k ≤ 226 ∨ 230 < k) → N' k = N k) ∧ F' 67 0 = 1 ∧ F' 69 0 = nI (ps τ sz p') ∧ RFX F F' L L' ∧ (∀ K, K 1 (aa 80) (qq 20) F' L' → wp_X2_read aa qq bp rp F L (nI sz) K) ∧ ∀ K, K 0 N' P' → wp_X8_isPlan N P K)
    ∨ (∃ (q : Nat) (N' P' : M2) (its : List IT) (nr : Nat), q ≤ m ∧ kT τ sz q = 900 ∧ N' 229 0 = nI q ∧ (∀ k, (k ≤ 226 ∨ 230 < k) → N' k = N k) ∧ PFR P P' ∧ WFR (kT τ sz) (N' 227) q ∧ ITS (kT τ sz) (N' 227) q its ∧ COD (vT τ sz) P' its ∧ (∀ K, K 1 N' P' → wp_X8_isPlan N P K)
      ∧ ((∃ (e : Int32) (k : Nat) (F' : M2) (L' : L2), k < q ∧ SER (kT τ sz) (vT τ sz) P (N' 227) q e k ∧ F' 67 0 = e ∧ F' 69 0 = nI (ps τ sz k) ∧ RFX F F' L L' ∧ ∀ K, K e (aa 80) (qq 20) F' L' → wp_X2_read aa qq bp rp F L (nI sz) K)
        ∨ (∃ (V : M2) (np : Nat) (F' : M2) (L' : L2), SOK (kT τ sz) (vT τ sz) P (N' 227) q V ∧ F' 67 0 = 0 ∧ F' 69 0 = -1 ∧ PXN (vT τ sz) (N' 227) q np F' L' V ∧ ORX (vT τ sz) (N' 227) F' V P' its nr ∧ RFX F F' L L' ∧ ∀ K, K 0 (aa 80) (qq 20) F' L' → wp_X2_read aa qq bp rp F L (nI sz) K))) := by
  have hm := hM.1
  -- the class up to the list
  obtain ⟨F0, hF0⟩ : ∃ F0, F0 = up2 F 78 (fun _ => nI sz) := ⟨_, rfl⟩
  have hT0 : TPC τ sz F0 := ⟨hsz, fun i hi => ⟨hB i hi, by rw [hF0, up2_n _ _ (by decide)]; exact hF80 i hi⟩, by rw [hF0, up2_s]⟩
  have hW0 : KWT F0 L := by
    unfold KWT
    rw [hF0, up2_n _ _ (by decide), up2_n _ _ (by decide)]
    exact hW
  obtain ⟨Ft, hFt⟩ : ∃ Ft, Ft = FTK τ sz (m + 1) F0 := ⟨_, rfl⟩
  obtain ⟨Lt, hLt⟩ : ∃ Lt, Lt = LTK τ sz (m + 1) L := ⟨_, rfl⟩
  obtain ⟨Fs, hFs⟩ : ∃ Fs, Fs = up2 (up2 (up2 (up2 (up2 (up2 (up2 (up2 (up2 Ft 20 (fun _ => 0)) 21 (fun _ => 0)) 22 (fun _ => 0)) 23 (fun _ => 0)) 24 (fun _ => 0)) 40 (fun _ => 0)) 45 (fun _ => 0)) 66 (fun _ => 0)) 67 (fun _ => 0) := ⟨_, rfl⟩
  have run : ∀ (K : Int32 → Nat → Nat → M2 → L2 → Prop), wl_X2_read_37 aa qq K fK Fs Lt 1 (nI 0) → wp_X2_read aa qq bp rp F L (nI sz) K := fun K hk F1 e1 => by
    have e1 : F1 = F0 := e1.trans hF0.symm
    subst e1
    have key := c_toks (a := aa) (K := fun bp_6 F_6 L_6 => bp_6 = (aa 80) ∧ wp_X1_clear F_6 L_6 (fun F_18 L_18 => (∀ F_23 : M2, F_23 = up2 F_18 66 (fun _ => 0) → (∀ F_28 : M2, F_28 = up2 F_23 67 (fun _ => 0) → wl_X2_read_37 aa qq K fK F_28 L_18 1 0)))) hB hM hT0 hW0 ⟨rfl, fun F1 e1 F2 e2 F3 e3 F4 e4 F5 e5 F6 e6 F7 e7 F8 e8 F9 e9 => by
      have e : F9 = Fs := by rw [e9, e8, e7, e6, e5, e4, e3, e2, e1, ← hFt, hFs]
      rw [e, ← hLt]
      exact hk⟩ m 0 fK (by omega) (by rw [fK_eq]; omega)
    rw [FTK_0, LTK_0] at key
    exact key
  have fs : ∀ k, k ≠ 20 → k ≠ 21 → k ≠ 22 → k ≠ 23 → k ≠ 24 → k ≠ 40 → k ≠ 45 → k ≠ 66 → k ≠ 67 → Fs k = Ft k := fun k a1 a2 a3 a4 a5 a6 a7 a8 a9 => by
    rw [hFs, up2_n _ _ a9, up2_n _ _ a8, up2_n _ _ a7, up2_n _ _ a6, up2_n _ _ a5, up2_n _ _ a4, up2_n _ _ a3, up2_n _ _ a2, up2_n _ _ a1]
  have f74 : ∀ i, i ≤ m → Fs 74 i = ck (kT τ sz i) ∧ Lt 76 i = vT τ sz i := fun i hi => by
    rw [fs 74 (by decide) (by decide) (by decide) (by decide) (by decide) (by decide) (by decide) (by decide) (by decide), hFt, hLt]
    obtain ⟨a, b, c⟩ := FTK_at (τ := τ) (sz := sz) (i := m + 1) (F := F0) (L := L) (j := i) (by omega)
    exact ⟨a, c⟩
  have f75 : ∀ i, i ≤ m → Fs 75 i = nI (ps τ sz i) := fun i hi => by
    rw [fs 75 (by decide) (by decide) (by decide) (by decide) (by decide) (by decide) (by decide) (by decide) (by decide), hFt]
    exact (FTK_at (τ := τ) (sz := sz) (i := m + 1) (F := F0) (L := L) (j := i) (by omega)).2.1
  have hB0 : BND (kT τ sz) m (vT τ sz) N P Fs Lt N P 0 [] 0 := BND0 ⟨by rw [hFs, up2_n _ _ (by decide), up2_s]; rfl, by simp [hFs, up2], by simp [hFs, up2], by simp [hFs, up2], by simp [hFs, up2], by simp [hFs, up2], by simp [hFs, up2], by simp [hFs, up2], by simp [hFs, up2]⟩ f74 ⟨h229, h230, fun i hi => ⟨(hR i (by omega)).1, (hR i (by omega)).2.2.2.1⟩⟩ hP
  have hK := tok_KIN hB hM
  have hNum := tok_NUM hB hM hT hR
  have hfx : ∀ {F' : M2} {L' : L2} {N' : M2} {x : Nat → Int32}, FRM Fs F' Lt L' N N' → RFX F (up2 F' 69 x) L L' := fun {F'} {L'} {N'} {x} h => by
    refine ⟨fun k a1 a2 a3 a4 a5 => ?_, fun k a1 a2 => ?_⟩
    · rw [up2_n _ _ a2, h.1 k a1, fs k (by omega) (by omega) (by omega) (by omega) (by omega) (by omega) (by omega) (by omega) (by omega), hFt, FTK_n a3 a4, hF0, up2_n _ _ a5]
    · rw [h.2.1 k a1, hLt]
      exact ul2_n _ _ a2
  rcases list_all (aa := aa) (qq := qq) hK hNum (tok_NUMV hB) (tok_SID hB) m 0 Fs Lt N P [] 0 0 (by omega) (Nat.le_refl _) hB0 with ⟨q, F', L', N', P', its, nr, hBq, hq9, hfr, hpf, k2, k8⟩ | ⟨p', F', L', N', P', hp', e66, e229, hfr, k2, k8⟩
  · have h75 : ∀ k, k ≤ m → F' 75 k = nI (ps τ sz k) := fun k hk => by
      rw [hfr.1 75 (by decide)]
      exact f75 k hk
    obtain ⟨b1, b2, b3, b4, b5, b6, b7, b9, b8⟩ := hBq
    have hqm := b1.2.1
    have cls : ∀ (K : Int32 → Nat → Nat → M2 → L2 → Prop), K (F' 67 0) (aa 80) (qq 20) (up2 F' 69 (fun _ => if F' 67 0 = 0 then -1 else atv (F' 75) 401 (F' 68 0))) L' → wp_X2_read aa qq bp rp F L (nI sz) K := fun K hk => run K (k2 K fK (by rw [fK_eq]; omega) (And.intro (fun _ => c_end hk) (fun z => absurd z (by decide))))
    refine Or.inr ⟨q, N', P', its, nr, hqm, hq9, by rw [b2.1], hfr.2.2, hpf, b9, b6, b5, fun K hk => k8 K fK (by rw [fK_eq]; omega) hk, ?_⟩
    rcases b8 with ⟨e, k, hk, hS, hC⟩ | ⟨V, np, hS, h67, hPX, hOX⟩
    · refine Or.inl ⟨e, k, up2 F' 69 (fun _ => if F' 67 0 = 0 then -1 else atv (F' 75) 401 (F' 68 0)), L', hk, hS, ?_, ?_, hfx hfr, fun K hk => cls K ?_⟩
      · rw [up2_n _ _ (by decide)]
        exact hC.1
      · rw [up2_s, if_neg (fun z => hC.2.1 (hC.1.symm.trans z)), hC.2.2, atv_nI (by omega) (by decide)]
        exact h75 k (by omega)
      · rw [← hC.1] at hk
        exact hk
    · refine Or.inr ⟨V, np, up2 F' 69 (fun _ => if F' 67 0 = 0 then -1 else atv (F' 75) 401 (F' 68 0)), L', hS, ?_, ?_, ?_, ?_, hfx hfr, fun K hk => cls K ?_⟩
      · rw [up2_n _ _ (by decide)]
        exact h67
      · rw [up2_s, if_pos h67]
      · have := hPX.keep (d := 0) (F' := up2 F' 69 (fun _ => if F' 67 0 = 0 then -1 else atv (F' 75) 401 (F' 68 0))) (V' := V) (fun as _ i h1 h2 => absurd h2 (by omega)) (fun k h1 h2 => up2_n _ _ (by omega)) (fun _ _ => rfl)
        exact this
      · exact hOX.keep (fun x hx hn => (b6.2.2 x hx hn).2) (fun _ _ => rfl) (fun k hk => up2_n _ _ (by omega)) ⟨rfl, rfl, rfl⟩ ⟨rfl, rfl⟩
      · exact (congrArg (fun x => K x (aa 80) (qq 20) (up2 F' 69 (fun _ => if F' 67 0 = 0 then -1 else atv (F' 75) 401 (F' 68 0))) L') h67).mpr hk
  · refine Or.inl ⟨p', N', P', up2 (up2 (up2 F' 67 (fun _ => 1)) 68 (fun _ => F' 66 0)) 69 (fun _ => atv (F' 75) 401 (F' 66 0)), L', hp', e229, hfr.2.2, ?_, ?_, ?_, fun K hk => run K (k2 K fK (by rw [fK_eq]; omega) (And.intro (fun z => absurd rfl z) (fun _ F1 e1 F2 e2 => c_end ?_))), fun K hk => k8 K fK (by rw [fK_eq]; omega) hk⟩
    · rw [up2_n _ _ (by decide), up2_n _ _ (by decide), up2_s]
    · rw [up2_s, e66, atv_nI (by omega) (by decide), hfr.1 75 (by decide)]
      exact f75 p' hp'
    · refine ⟨fun k a1 a2 a3 a4 a5 => ?_, fun k a1 a2 => ?_⟩
      · have := (hfx (x := fun _ => 0) hfr).1 k a1 a2 a3 a4 a5
        rw [up2_n _ _ a2] at this
        rw [up2_n _ _ a2, up2_n _ _ (by omega), up2_n _ _ (by omega)]
        exact this
      · exact (hfx (x := fun _ => 0) hfr).2 k a1 a2
    · rw [e1, up2_n _ _ (by decide : (66 : Nat) ≠ 67)] at e2
      have g67 : F2 67 0 = 1 := by rw [e2, up2_n _ _ (by decide), up2_s]
      have g75 : F2 75 = F' 75 := by rw [e2, up2_n _ _ (by decide), up2_n _ _ (by decide)]
      have g68 : F2 68 0 = F' 66 0 := by rw [e2, up2_s]
      rw [g67, if_neg (by decide), g75, g68, e2]
      exact hk
end READS
