def wp_op_feed (q : Nat → Nat) (ap : Nat) (bp : Nat) (rp : Nat) (C : M2) (T : M2) (G : M2) (P : M2) (Y : M2) (L : L2) (B : M2) (X : L2) (S : M2) (O : M2) (N : M2) (V : M2) (J : M2) (U : M2) (y1 : Int32) (y2 : Int32) (y3 : Int32) (y4 : Int32) (y5 : Int32) (K : Nat → Nat → Nat → M2 → M2 → M2 → M2 → M2 → L2 → M2 → L2 → M2 → M2 → M2 → M2 → M2 → M2 → Prop) : Prop := wp_L_feed q ap bp rp C T G P Y L B X y1 y2 y3 y4 y5 (fun r_180 ap_180 bp_180 rp_180 C_180 T_180 G_180 P_180 Y_180 L_180 B_180 X_180 => wp_X8_feed N V y1 y2 y3 y4 y5 (fun r_216 N_216 V_216 => wp_X8_thrown U S N_216 (fun r_222 => ((r_222 = r_180 → ((¬ r_180 = 0 → K ap_180 bp_180 rp_180 C_180 T_180 G_180 P_180 Y_180 L_180 B_180 X_180 S O N_216 V_216 J U) ∧ (r_180 = 0 → (inb 0 1 ∧ (((lg_cmp (X_180 500 (0 : Int32).toInt.toNat) r_216.toInt64) = 0 → K ap_180 bp_180 rp_180 C_180 T_180 G_180 P_180 Y_180 L_180 B_180 X_180 S O N_216 V_216 J U) ∧ (¬ (lg_cmp (X_180 500 (0 : Int32).toInt.toNat) r_216.toInt64) = 0 → False)))))) ∧ (¬ r_222 = r_180 → False)))))
set_option maxRecDepth 100000 in
set_option maxHeartbeats 4000000 in
theorem t_op_feed {p : Program} {l : Launch} {e : Env} {s : State} {m : MethodId} {args : Array Value} {below : List Frame} {meth : Method} {c : Code} {Q : State → Prop} {A : Nat → Prop} {D : va_G} {rx : Nat → Nat} {Z : Nat → ClassId} {a t b q q2 : Nat → Nat} {ow : Nat} {ma mb mq mg : Nat → Nat} {mr : Nat} {ap : Nat} {bp : Nat} {rp : Nat} {C : M2} {T : M2} {G : M2} {P : M2} {Y : M2} {L : L2} {B : M2} {X : L2} {S : M2} {O : M2} {N : M2} {V : M2} {J : M2} {U : M2} {scr Ln cc cs : Nat} {xs : Nat → Int32} {v4 y1 y2 y3 y4 y5 : Int32} {K : Nat → Nat → Nat → M2 → M2 → M2 → M2 → M2 → L2 → M2 → L2 → M2 → M2 → M2 → M2 → M2 → M2 → Prop} {H : Heap} {locs : List Loc} {ls : Array Slot} (hC : CallFix p m c code 9 s args lw_g RL) (hN : NW s) (hfl : l.stackTraces = false) (hR : RXD rx A s s.heap) (hK : va_K D vwCl (tysG Z) s) (hX : va_X scr Ln xs s s.heap) (hbl : scr < s.heap.size) (hbA : ¬ A scr) (hi1 : vp_in (v4 + 1) Ln) (hi2 : vp_in (v4 + 2) Ln) (hi3 : vp_in (v4 + 3) Ln) (hi4 : vp_in (v4 + 4) Ln) (hi5 : vp_in (v4 + 5) Ln) (e1 : xs (v4 + 1).toNatClampNeg = y1) (e2 : xs (v4 + 2).toNatClampNeg = y2) (e3 : xs (v4 + 3).toNatClampNeg = y3) (e4 : xs (v4 + 4).toNatClampNeg = y4) (e5 : xs (v4 + 5).toNatClampNeg = y5) (hT : TS vwCl D (LW Z a t b q q2 ow ma mb mq mg mr ap bp rp C T G P Y L B X S O N V J U) A s.heap H locs) (hcb : cc + 400 ≤ 601024 ∧ cs + 4000 ≤ 7293034) (hm : wp_op_feed q ap bp rp C T G P Y L B X S O N V J U y1 y2 y3 y4 y5 K) (hback : ∀ (H : Heap) (locs : List Loc) (ls : Array Slot) (cc1 cs1 : Nat) (ap1 : Nat) (bp1 : Nat) (rp1 : Nat) (C1 : M2) (T1 : M2) (G1 : M2) (P1 : M2) (Y1 : M2) (L1 : L2) (B1 : M2) (X1 : L2) (S1 : M2) (O1 : M2) (N1 : M2) (V1 : M2) (J1 : M2) (U1 : M2), K ap1 bp1 rp1 C1 T1 G1 P1 Y1 L1 B1 X1 S1 O1 N1 V1 J1 U1 → TS vwCl D (LW Z a t b q q2 ow ma mb mq mg mr ap1 bp1 rp1 C1 T1 G1 P1 Y1 L1 B1 X1 S1 O1 N1 V1 J1 U1) A s.heap H locs → lv_has ls 9 [(0, .ref scr), (1, .ref (a 90)), (2, .ref (mg 220)), (3, .ref (ow)), (4, .int v4)] → cc1 ≤ cc + 400 → cs1 ≤ cs + 4000 → W p l e (rk 2048 601024 7293034) s m args below meth c H locs cc1 cs1 Q (F0 m 1346 ls [])) (hl : lv_has ls 9 [(0, .ref scr), (1, .ref (a 90)), (2, .ref (mg 220)), (3, .ref (ow)), (4, .int v4)]) : W p l e (rk 2048 601024 7293034) s m args below meth c H locs cc cs Q (F0 m 148 ls []) := by
  have hx := hC.1
  have hb := hC.2.1
  refine lv_aload_n hx hb dL_law_148 rfl (lv_at hl 1 rfl) ?_
  refine lv_aload_n hx hb dL_law_149 rfl (lv_at hl 0 rfl) ?_
  refine lv_iload hx hb dL_law_150 (lv_at hl 4 rfl) ?_
  refine lv_iconst (v := 1) hx hb dL_law_152 (by decide) ?_
  refine lv_iadd hx hb dL_law_153 ?_
  refine va_sld hx hb hX hbl hbA hT.2.2.1 hi1 dL_law_154 ?_
  rw [e1]
  refine lv_aload_n hx hb dL_law_155 rfl (lv_at hl 0 rfl) ?_
  refine lv_iload hx hb dL_law_156 (lv_at hl 4 rfl) ?_
  refine lv_iconst (v := 2) hx hb dL_law_158 (by decide) ?_
  refine lv_iadd hx hb dL_law_159 ?_
  refine va_sld hx hb hX hbl hbA hT.2.2.1 hi2 dL_law_160 ?_
  rw [e2]
  refine lv_aload_n hx hb dL_law_161 rfl (lv_at hl 0 rfl) ?_
  refine lv_iload hx hb dL_law_162 (lv_at hl 4 rfl) ?_
  refine lv_iconst (v := 3) hx hb dL_law_164 (by decide) ?_
  refine lv_iadd hx hb dL_law_165 ?_
  refine va_sld hx hb hX hbl hbA hT.2.2.1 hi3 dL_law_166 ?_
  rw [e3]
  refine lv_aload_n hx hb dL_law_167 rfl (lv_at hl 0 rfl) ?_
  refine lv_iload hx hb dL_law_168 (lv_at hl 4 rfl) ?_
  refine lv_iconst (v := 4) hx hb dL_law_170 (by decide) ?_
  refine lv_iadd hx hb dL_law_171 ?_
  refine va_sld hx hb hX hbl hbA hT.2.2.1 hi4 dL_law_172 ?_
  rw [e4]
  refine lv_aload_n hx hb dL_law_173 rfl (lv_at hl 0 rfl) ?_
  refine lv_iload hx hb dL_law_174 (lv_at hl 4 rfl) ?_
  refine lv_iconst (v := 5) hx hb dL_law_176 (by decide) ?_
  refine lv_iadd hx hb dL_law_177 ?_
  refine va_sld hx hb hX hbl hbA hT.2.2.1 hi5 dL_law_178 ?_
  rw [e5]
  refine lv_aload_n hx hb dL_law_179 rfl (lv_at hl 3 rfl) ?_
  refine kl_L_feed (rx := rx) hC hN hfl (hT.rxd hR) hK hT (cx_LXLW Z a t b q q2 ow ma mb mq mg mr ap bp rp C T G P Y L B X S O N V J U) rfl hm wq_948 (by decide) hl.1 (Nat.le_of_ble_eq_true rfl) ⟨by omega, by omega⟩ dL_law_180 (fun r_180 ap_180 bp_180 rp_180 C_180 T_180 G_180 P_180 Y_180 L_180 B_180 X_180 H locs hm hT => ?_)
  have hT : TS vwCl D (LW Z a t b q q2 ow ma mb mq mg mr ap_180 bp_180 rp_180 C_180 T_180 G_180 P_180 Y_180 L_180 B_180 X_180 S O N V J U) A s.heap H locs := hT
  refine lv_istore (lv' := [(5, .int r_180), (0, .ref scr), (1, .ref (a 90)), (2, .ref (mg 220)), (3, .ref (ow)), (4, .int v4)]) hx hb dL_law_183 hl (by decide) rfl (fun ls hl => ?_)
  refine lv_aload_n hx hb dL_law_185 rfl (lv_at hl 3 rfl) ?_
  refine lv_aload_n hx hb dL_law_186 rfl (lv_at hl 1 rfl) ?_
  refine lv_iload hx hb dL_law_187 (lv_at hl 5 rfl) ?_
  refine lv_iconst (v := 1) hx hb dL_law_189 (by decide) ?_
  refine lv_iadd hx hb dL_law_190 ?_
  refine va_sld hx hb hX hbl hbA hT.2.2.1 hi1 dL_law_191 ?_
  rw [e1]
  refine lv_aload_n hx hb dL_law_192 rfl (lv_at hl 1 rfl) ?_
  refine lv_iload hx hb dL_law_193 (lv_at hl 5 rfl) ?_
  refine lv_iconst (v := 2) hx hb dL_law_195 (by decide) ?_
  refine lv_iadd hx hb dL_law_196 ?_
  refine va_sld hx hb hX hbl hbA hT.2.2.1 hi2 dL_law_197 ?_
  rw [e2]
  refine lv_aload_n hx hb dL_law_198 rfl (lv_at hl 1 rfl) ?_
  refine lv_iload hx hb dL_law_199 (lv_at hl 5 rfl) ?_
  refine lv_iconst (v := 3) hx hb dL_law_201 (by decide) ?_
  refine lv_iadd hx hb dL_law_202 ?_
  refine va_sld hx hb hX hbl hbA hT.2.2.1 hi3 dL_law_203 ?_
  rw [e3]
  refine lv_aload_n hx hb dL_law_204 rfl (lv_at hl 1 rfl) ?_
  refine lv_iload hx hb dL_law_205 (lv_at hl 5 rfl) ?_
  refine lv_iconst (v := 4) hx hb dL_law_207 (by decide) ?_
  refine lv_iadd hx hb dL_law_208 ?_
  refine va_sld hx hb hX hbl hbA hT.2.2.1 hi4 dL_law_209 ?_
  rw [e4]
  refine lv_aload_n hx hb dL_law_210 rfl (lv_at hl 1 rfl) ?_
  refine lv_iload hx hb dL_law_211 (lv_at hl 5 rfl) ?_
  refine lv_iconst (v := 5) hx hb dL_law_213 (by decide) ?_
  refine lv_iadd hx hb dL_law_214 ?_
  refine va_sld hx hb hX hbl hbA hT.2.2.1 hi5 dL_law_215 ?_
  rw [e5]
  refine kx_X8_feed hC hN hK hT (cx_FWLW Z a t b q q2 ow ma mb mq mg mr ap_180 bp_180 rp_180 C_180 T_180 G_180 P_180 Y_180 L_180 B_180 X_180 S O N V J U) rfl hm wq_1470 (by decide) hl.1 (Nat.le_of_ble_eq_true rfl) ⟨by omega, by omega⟩ dL_law_216 (fun r_216 N_216 V_216 H locs hm hT => ?_)
  have hT : TS vwCl D (LW Z a t b q q2 ow ma mb mq mg mr ap_180 bp_180 rp_180 C_180 T_180 G_180 P_180 Y_180 L_180 B_180 X_180 S O N_216 V_216 J U) A s.heap H locs := hT
  refine lv_istore (lv' := [(6, .int r_216), (5, .int r_180), (0, .ref scr), (1, .ref (a 90)), (2, .ref (mg 220)), (3, .ref (ow)), (4, .int v4)]) hx hb dL_law_219 hl (by decide) rfl (fun ls hl => ?_)
  refine lv_aload_n hx hb dL_law_221 rfl (lv_at hl 4 rfl) ?_
  refine kx_X8_thrown hC hN hK hT.1 hT.D' (sx_QWLW Z a t b q q2 ow ma mb mq mg mr ap_180 bp_180 rp_180 C_180 T_180 G_180 P_180 Y_180 L_180 B_180 X_180 S O N_216 V_216 J U) rfl hm wq_1466 (by decide) hl.1 (Nat.le_of_ble_eq_true rfl) ⟨by omega, by omega⟩ dL_law_222 (fun r_222 hm => ?_)
  refine lv_iload hx hb dL_law_225 (lv_at hl 1 rfl) ?_
  refine lv_icmp_eq (tgt := 232) hx hb dL_law_227 (by decide) (fun c_227 => ?_) (fun c_227 => ?_)
  · have hm := hm.1 c_227
    refine lv_iload hx hb dL_law_232 (lv_at hl 1 rfl) ?_
    refine lv_if_ne (tgt := 249) hx hb dL_law_234 (by decide) (fun c_234 => ?_) (fun c_234 => ?_)
    · have hm := hm.1 c_234
      refine lv_goto (tgt := 1346) hx hb dL_law_249 (by decide) ?_
      exact hback _ _ _ _ _ ap_180 bp_180 rp_180 C_180 T_180 G_180 P_180 Y_180 L_180 B_180 X_180 S O N_216 V_216 J U hm hT (lv_sub hl [2, 3, 4, 5, 6] rfl) (by omega) (by omega)
    · have hm := hm.2 c_234
      refine lv_aload_n hx hb dL_law_237 rfl (lv_at hl 5 rfl) ?_
      refine lv_iconst (v := 0) hx hb dL_law_238 (by decide) ?_
      refine w_lald (q0 := 79) hC hK hT.1 rfl hm.1 dL_law_239 ?_
      have hm := hm.2
      refine lv_iload hx hb dL_law_240 (lv_at hl 0 rfl) ?_
      refine lv_i2l (v := r_216.toInt64) hx hb dL_law_242 rfl ?_
      refine W.lcmp hx hb dL_law_243 ?_
      refine lv_if_eq (tgt := 249) hx hb dL_law_244 (by decide) (fun c_244 => ?_) (fun c_244 => ?_)
      · have hm := hm.1 c_244
        refine lv_goto (tgt := 1346) hx hb dL_law_249 (by decide) ?_
        exact hback _ _ _ _ _ ap_180 bp_180 rp_180 C_180 T_180 G_180 P_180 Y_180 L_180 B_180 X_180 S O N_216 V_216 J U hm hT (lv_sub hl [2, 3, 4, 5, 6] rfl) (by omega) (by omega)
      · have hm := hm.2 c_244
        refine lv_iconst (v := 0) hx hb dL_law_247 (by decide) ?_
        exact hm.elim
  · have hm := hm.2 c_227
    refine lv_iconst (v := 0) hx hb dL_law_230 (by decide) ?_
    exact hm.elim
def wp_op_trim (q : Nat → Nat) (ap : Nat) (bp : Nat) (rp : Nat) (C : M2) (T : M2) (G : M2) (P : M2) (Y : M2) (L : L2) (B : M2) (X : L2) (S : M2) (O : M2) (N : M2) (V : M2) (J : M2) (U : M2) (y1 : Int32) (K : Nat → Nat → Nat → M2 → M2 → M2 → M2 → M2 → L2 → M2 → L2 → M2 → M2 → M2 → M2 → M2 → M2 → Prop) : Prop := wp_L_trim q ap bp rp C T G P Y L B X y1 (fun r_260 ap_260 bp_260 rp_260 C_260 T_260 G_260 P_260 Y_260 L_260 B_260 X_260 => wp_X8_trim U S N y1 (fun r_272 S_272 N_272 => wp_X8_thrown U S_272 N_272 (fun r_278 => ((r_278 = r_260 → ((¬ r_260 = 0 → K ap_260 bp_260 rp_260 C_260 T_260 G_260 P_260 Y_260 L_260 B_260 X_260 S_272 O N_272 V J U) ∧ (r_260 = 0 → (inb 0 1 ∧ (((lg_cmp (X_260 500 (0 : Int32).toInt.toNat) r_272.toInt64) = 0 → K ap_260 bp_260 rp_260 C_260 T_260 G_260 P_260 Y_260 L_260 B_260 X_260 S_272 O N_272 V J U) ∧ (¬ (lg_cmp (X_260 500 (0 : Int32).toInt.toNat) r_272.toInt64) = 0 → False)))))) ∧ (¬ r_278 = r_260 → False)))))
set_option maxRecDepth 100000 in
set_option maxHeartbeats 4000000 in
theorem t_op_trim {p : Program} {l : Launch} {e : Env} {s : State} {m : MethodId} {args : Array Value} {below : List Frame} {meth : Method} {c : Code} {Q : State → Prop} {A : Nat → Prop} {D : va_G} {rx : Nat → Nat} {Z : Nat → ClassId} {a t b q q2 : Nat → Nat} {ow : Nat} {ma mb mq mg : Nat → Nat} {mr : Nat} {ap : Nat} {bp : Nat} {rp : Nat} {C : M2} {T : M2} {G : M2} {P : M2} {Y : M2} {L : L2} {B : M2} {X : L2} {S : M2} {O : M2} {N : M2} {V : M2} {J : M2} {U : M2} {scr Ln cc cs : Nat} {xs : Nat → Int32} {v4 y1 : Int32} {K : Nat → Nat → Nat → M2 → M2 → M2 → M2 → M2 → L2 → M2 → L2 → M2 → M2 → M2 → M2 → M2 → M2 → Prop} {H : Heap} {locs : List Loc} {ls : Array Slot} (hC : CallFix p m c code 9 s args lw_g RL) (hN : NW s) (hfl : l.stackTraces = false) (hR : RXD rx A s s.heap) (hK : va_K D vwCl (tysG Z) s) (hX : va_X scr Ln xs s s.heap) (hbl : scr < s.heap.size) (hbA : ¬ A scr) (hi1 : vp_in (v4 + 1) Ln) (e1 : xs (v4 + 1).toNatClampNeg = y1) (hT : TS vwCl D (LW Z a t b q q2 ow ma mb mq mg mr ap bp rp C T G P Y L B X S O N V J U) A s.heap H locs) (hcb : cc + 400 ≤ 601024 ∧ cs + 4000 ≤ 7293034) (hm : wp_op_trim q ap bp rp C T G P Y L B X S O N V J U y1 K) (hback : ∀ (H : Heap) (locs : List Loc) (ls : Array Slot) (cc1 cs1 : Nat) (ap1 : Nat) (bp1 : Nat) (rp1 : Nat) (C1 : M2) (T1 : M2) (G1 : M2) (P1 : M2) (Y1 : M2) (L1 : L2) (B1 : M2) (X1 : L2) (S1 : M2) (O1 : M2) (N1 : M2) (V1 : M2) (J1 : M2) (U1 : M2), K ap1 bp1 rp1 C1 T1 G1 P1 Y1 L1 B1 X1 S1 O1 N1 V1 J1 U1 → TS vwCl D (LW Z a t b q q2 ow ma mb mq mg mr ap1 bp1 rp1 C1 T1 G1 P1 Y1 L1 B1 X1 S1 O1 N1 V1 J1 U1) A s.heap H locs → lv_has ls 9 [(0, .ref scr), (1, .ref (a 90)), (2, .ref (mg 220)), (3, .ref (ow)), (4, .int v4)] → cc1 ≤ cc + 400 → cs1 ≤ cs + 4000 → W p l e (rk 2048 601024 7293034) s m args below meth c H locs cc1 cs1 Q (F0 m 1346 ls [])) (hl : lv_has ls 9 [(0, .ref scr), (1, .ref (a 90)), (2, .ref (mg 220)), (3, .ref (ow)), (4, .int v4)]) : W p l e (rk 2048 601024 7293034) s m args below meth c H locs cc cs Q (F0 m 252 ls []) := by
  have hx := hC.1
  have hb := hC.2.1
  refine lv_aload_n hx hb dL_law_252 rfl (lv_at hl 1 rfl) ?_
  refine lv_aload_n hx hb dL_law_253 rfl (lv_at hl 0 rfl) ?_
  refine lv_iload hx hb dL_law_254 (lv_at hl 4 rfl) ?_
  refine lv_iconst (v := 1) hx hb dL_law_256 (by decide) ?_
  refine lv_iadd hx hb dL_law_257 ?_
  refine va_sld hx hb hX hbl hbA hT.2.2.1 hi1 dL_law_258 ?_
  rw [e1]
  refine lv_aload_n hx hb dL_law_259 rfl (lv_at hl 3 rfl) ?_
  refine kl_L_trim (rx := rx) hC hN hfl (hT.rxd hR) hK hT (cx_LXLW Z a t b q q2 ow ma mb mq mg mr ap bp rp C T G P Y L B X S O N V J U) rfl hm wq_976 (by decide) hl.1 (Nat.le_of_ble_eq_true rfl) ⟨by omega, by omega⟩ dL_law_260 (fun r_260 ap_260 bp_260 rp_260 C_260 T_260 G_260 P_260 Y_260 L_260 B_260 X_260 H locs hm hT => ?_)
  have hT : TS vwCl D (LW Z a t b q q2 ow ma mb mq mg mr ap_260 bp_260 rp_260 C_260 T_260 G_260 P_260 Y_260 L_260 B_260 X_260 S O N V J U) A s.heap H locs := hT
  refine lv_istore (lv' := [(5, .int r_260), (0, .ref scr), (1, .ref (a 90)), (2, .ref (mg 220)), (3, .ref (ow)), (4, .int v4)]) hx hb dL_law_263 hl (by decide) rfl (fun ls hl => ?_)
  refine lv_aload_n hx hb dL_law_265 rfl (lv_at hl 3 rfl) ?_
  refine lv_aload_n hx hb dL_law_266 rfl (lv_at hl 1 rfl) ?_
  refine lv_iload hx hb dL_law_267 (lv_at hl 5 rfl) ?_
  refine lv_iconst (v := 1) hx hb dL_law_269 (by decide) ?_
  refine lv_iadd hx hb dL_law_270 ?_
  refine va_sld hx hb hX hbl hbA hT.2.2.1 hi1 dL_law_271 ?_
  rw [e1]
  refine kx_X8_trim hC hN hK hT (cx_QWLW Z a t b q q2 ow ma mb mq mg mr ap_260 bp_260 rp_260 C_260 T_260 G_260 P_260 Y_260 L_260 B_260 X_260 S O N V J U) rfl hm wq_1478 (by decide) hl.1 (Nat.le_of_ble_eq_true rfl) ⟨by omega, by omega⟩ dL_law_272 (fun r_272 S_272 N_272 H locs hm hT => ?_)
  have hT : TS vwCl D (LW Z a t b q q2 ow ma mb mq mg mr ap_260 bp_260 rp_260 C_260 T_260 G_260 P_260 Y_260 L_260 B_260 X_260 S_272 O N_272 V J U) A s.heap H locs := hT
  refine lv_istore (lv' := [(6, .int r_272), (5, .int r_260), (0, .ref scr), (1, .ref (a 90)), (2, .ref (mg 220)), (3, .ref (ow)), (4, .int v4)]) hx hb dL_law_275 hl (by decide) rfl (fun ls hl => ?_)
  refine lv_aload_n hx hb dL_law_277 rfl (lv_at hl 4 rfl) ?_
  refine kx_X8_thrown hC hN hK hT.1 hT.D' (sx_QWLW Z a t b q q2 ow ma mb mq mg mr ap_260 bp_260 rp_260 C_260 T_260 G_260 P_260 Y_260 L_260 B_260 X_260 S_272 O N_272 V J U) rfl hm wq_1466 (by decide) hl.1 (Nat.le_of_ble_eq_true rfl) ⟨by omega, by omega⟩ dL_law_278 (fun r_278 hm => ?_)
  refine lv_iload hx hb dL_law_281 (lv_at hl 1 rfl) ?_
  refine lv_icmp_eq (tgt := 288) hx hb dL_law_283 (by decide) (fun c_283 => ?_) (fun c_283 => ?_)
  · have hm := hm.1 c_283
    refine lv_iload hx hb dL_law_288 (lv_at hl 1 rfl) ?_
    refine lv_if_ne (tgt := 305) hx hb dL_law_290 (by decide) (fun c_290 => ?_) (fun c_290 => ?_)
    · have hm := hm.1 c_290
      refine lv_goto (tgt := 1346) hx hb dL_law_305 (by decide) ?_
      exact hback _ _ _ _ _ ap_260 bp_260 rp_260 C_260 T_260 G_260 P_260 Y_260 L_260 B_260 X_260 S_272 O N_272 V J U hm hT (lv_sub hl [2, 3, 4, 5, 6] rfl) (by omega) (by omega)
    · have hm := hm.2 c_290
      refine lv_aload_n hx hb dL_law_293 rfl (lv_at hl 5 rfl) ?_
      refine lv_iconst (v := 0) hx hb dL_law_294 (by decide) ?_
      refine w_lald (q0 := 79) hC hK hT.1 rfl hm.1 dL_law_295 ?_
      have hm := hm.2
      refine lv_iload hx hb dL_law_296 (lv_at hl 0 rfl) ?_
      refine lv_i2l (v := r_272.toInt64) hx hb dL_law_298 rfl ?_
      refine W.lcmp hx hb dL_law_299 ?_
      refine lv_if_eq (tgt := 305) hx hb dL_law_300 (by decide) (fun c_300 => ?_) (fun c_300 => ?_)
      · have hm := hm.1 c_300
        refine lv_goto (tgt := 1346) hx hb dL_law_305 (by decide) ?_
        exact hback _ _ _ _ _ ap_260 bp_260 rp_260 C_260 T_260 G_260 P_260 Y_260 L_260 B_260 X_260 S_272 O N_272 V J U hm hT (lv_sub hl [2, 3, 4, 5, 6] rfl) (by omega) (by omega)
      · have hm := hm.2 c_300
        refine lv_iconst (v := 0) hx hb dL_law_303 (by decide) ?_
        exact hm.elim
  · have hm := hm.2 c_283
    refine lv_iconst (v := 0) hx hb dL_law_286 (by decide) ?_
    exact hm.elim
def wp_op_errorAt (q : Nat → Nat) (ap : Nat) (bp : Nat) (rp : Nat) (C : M2) (T : M2) (G : M2) (P : M2) (Y : M2) (L : L2) (B : M2) (X : L2) (S : M2) (O : M2) (N : M2) (V : M2) (J : M2) (U : M2) (K : Nat → Nat → Nat → M2 → M2 → M2 → M2 → M2 → L2 → M2 → L2 → M2 → M2 → M2 → M2 → M2 → M2 → Prop) : Prop := wp_X5_errorAt P T C (fun r_322 => wp_X8_errorAt U S N (fun r_326 S_326 N_326 => ((r_322 = r_326 → K ap bp rp C T G P Y L B X S_326 O N_326 V J U) ∧ (¬ r_322 = r_326 → False))))
set_option maxRecDepth 100000 in
set_option maxHeartbeats 4000000 in
theorem t_op_errorAt {p : Program} {l : Launch} {e : Env} {s : State} {m : MethodId} {args : Array Value} {below : List Frame} {meth : Method} {c : Code} {Q : State → Prop} {A : Nat → Prop} {D : va_G} {rx : Nat → Nat} {Z : Nat → ClassId} {a t b q q2 : Nat → Nat} {ow : Nat} {ma mb mq mg : Nat → Nat} {mr : Nat} {ap : Nat} {bp : Nat} {rp : Nat} {C : M2} {T : M2} {G : M2} {P : M2} {Y : M2} {L : L2} {B : M2} {X : L2} {S : M2} {O : M2} {N : M2} {V : M2} {J : M2} {U : M2} {scr Ln cc cs : Nat} {xs : Nat → Int32} {v4 : Int32} {K : Nat → Nat → Nat → M2 → M2 → M2 → M2 → M2 → L2 → M2 → L2 → M2 → M2 → M2 → M2 → M2 → M2 → Prop} {H : Heap} {locs : List Loc} {ls : Array Slot} (hC : CallFix p m c code 9 s args lw_g RL) (hN : NW s) (hfl : l.stackTraces = false) (hR : RXD rx A s s.heap) (hK : va_K D vwCl (tysG Z) s) (hX : va_X scr Ln xs s s.heap) (hbl : scr < s.heap.size) (hbA : ¬ A scr) (hT : TS vwCl D (LW Z a t b q q2 ow ma mb mq mg mr ap bp rp C T G P Y L B X S O N V J U) A s.heap H locs) (hcb : cc + 400 ≤ 601024 ∧ cs + 4000 ≤ 7293034) (hm : wp_op_errorAt q ap bp rp C T G P Y L B X S O N V J U K) (hback : ∀ (H : Heap) (locs : List Loc) (ls : Array Slot) (cc1 cs1 : Nat) (ap1 : Nat) (bp1 : Nat) (rp1 : Nat) (C1 : M2) (T1 : M2) (G1 : M2) (P1 : M2) (Y1 : M2) (L1 : L2) (B1 : M2) (X1 : L2) (S1 : M2) (O1 : M2) (N1 : M2) (V1 : M2) (J1 : M2) (U1 : M2), K ap1 bp1 rp1 C1 T1 G1 P1 Y1 L1 B1 X1 S1 O1 N1 V1 J1 U1 → TS vwCl D (LW Z a t b q q2 ow ma mb mq mg mr ap1 bp1 rp1 C1 T1 G1 P1 Y1 L1 B1 X1 S1 O1 N1 V1 J1 U1) A s.heap H locs → lv_has ls 9 [(0, .ref scr), (1, .ref (a 90)), (2, .ref (mg 220)), (3, .ref (ow)), (4, .int v4)] → cc1 ≤ cc + 400 → cs1 ≤ cs + 4000 → W p l e (rk 2048 601024 7293034) s m args below meth c H locs cc1 cs1 Q (F0 m 1346 ls [])) (hl : lv_has ls 9 [(0, .ref scr), (1, .ref (a 90)), (2, .ref (mg 220)), (3, .ref (ow)), (4, .int v4)]) : W p l e (rk 2048 601024 7293034) s m args below meth c H locs cc cs Q (F0 m 321 ls []) := by
  have hx := hC.1
  have hb := hC.2.1
  refine lv_aload_n hx hb dL_law_321 rfl (lv_at hl 1 rfl) ?_
  refine kx_X5_errorAt hC hN hK hT.1 hT.D' (sx_CQLW Z a t b q q2 ow ma mb mq mg mr ap bp rp C T G P Y L B X S O N V J U) rfl hm wq_788 (by decide) hl.1 (Nat.le_of_ble_eq_true rfl) ⟨by omega, by omega⟩ dL_law_322 (fun r_322 hm => ?_)
  refine lv_aload_n hx hb dL_law_325 rfl (lv_at hl 2 rfl) ?_
  refine kx_X8_errorAt hC hN hK hT (cx_QWLW Z a t b q q2 ow ma mb mq mg mr ap bp rp C T G P Y L B X S O N V J U) rfl hm wq_1712 (by decide) hl.1 (Nat.le_of_ble_eq_true rfl) ⟨by omega, by omega⟩ dL_law_326 (fun r_326 S_326 N_326 H locs hm hT => ?_)
  have hT : TS vwCl D (LW Z a t b q q2 ow ma mb mq mg mr ap bp rp C T G P Y L B X S_326 O N_326 V J U) A s.heap H locs := hT
  refine lv_icmp_eq (tgt := 1346) hx hb dL_law_329 (by decide) (fun c_329 => ?_) (fun c_329 => ?_)
  · have hm := hm.1 c_329
    exact hback _ _ _ _ _ ap bp rp C T G P Y L B X S_326 O N_326 V J U hm hT (lv_sub hl [0, 1, 2, 3, 4] rfl) (by omega) (by omega)
  · have hm := hm.2 c_329
    refine lv_iconst (v := 0) hx hb dL_law_332 (by decide) ?_
    exact hm.elim
def wp_op_count (q : Nat → Nat) (ap : Nat) (bp : Nat) (rp : Nat) (C : M2) (T : M2) (G : M2) (P : M2) (Y : M2) (L : L2) (B : M2) (X : L2) (S : M2) (O : M2) (N : M2) (V : M2) (J : M2) (U : M2) (y1 : Int32) (K : Nat → Nat → Nat → M2 → M2 → M2 → M2 → M2 → L2 → M2 → L2 → M2 → M2 → M2 → M2 → M2 → M2 → Prop) : Prop := wp_L_count q ap bp rp C T G P Y L B X y1 (fun r_342 ap_342 bp_342 rp_342 C_342 T_342 G_342 P_342 Y_342 L_342 B_342 X_342 => wp_X8_count U S N y1 (fun r_354 S_354 N_354 => wp_X8_thrown U S_354 N_354 (fun r_360 => ((r_360 = r_342 → ((¬ r_342 = 0 → K ap_342 bp_342 rp_342 C_342 T_342 G_342 P_342 Y_342 L_342 B_342 X_342 S_354 O N_354 V J U) ∧ (r_342 = 0 → (inb 0 1 ∧ (((lg_cmp (X_342 500 (0 : Int32).toInt.toNat) r_354.toInt64) = 0 → K ap_342 bp_342 rp_342 C_342 T_342 G_342 P_342 Y_342 L_342 B_342 X_342 S_354 O N_354 V J U) ∧ (¬ (lg_cmp (X_342 500 (0 : Int32).toInt.toNat) r_354.toInt64) = 0 → False)))))) ∧ (¬ r_360 = r_342 → False)))))
set_option maxRecDepth 100000 in
set_option maxHeartbeats 4000000 in
theorem t_op_count {p : Program} {l : Launch} {e : Env} {s : State} {m : MethodId} {args : Array Value} {below : List Frame} {meth : Method} {c : Code} {Q : State → Prop} {A : Nat → Prop} {D : va_G} {rx : Nat → Nat} {Z : Nat → ClassId} {a t b q q2 : Nat → Nat} {ow : Nat} {ma mb mq mg : Nat → Nat} {mr : Nat} {ap : Nat} {bp : Nat} {rp : Nat} {C : M2} {T : M2} {G : M2} {P : M2} {Y : M2} {L : L2} {B : M2} {X : L2} {S : M2} {O : M2} {N : M2} {V : M2} {J : M2} {U : M2} {scr Ln cc cs : Nat} {xs : Nat → Int32} {v4 y1 : Int32} {K : Nat → Nat → Nat → M2 → M2 → M2 → M2 → M2 → L2 → M2 → L2 → M2 → M2 → M2 → M2 → M2 → M2 → Prop} {H : Heap} {locs : List Loc} {ls : Array Slot} (hC : CallFix p m c code 9 s args lw_g RL) (hN : NW s) (hfl : l.stackTraces = false) (hR : RXD rx A s s.heap) (hK : va_K D vwCl (tysG Z) s) (hX : va_X scr Ln xs s s.heap) (hbl : scr < s.heap.size) (hbA : ¬ A scr) (hi1 : vp_in (v4 + 1) Ln) (e1 : xs (v4 + 1).toNatClampNeg = y1) (hT : TS vwCl D (LW Z a t b q q2 ow ma mb mq mg mr ap bp rp C T G P Y L B X S O N V J U) A s.heap H locs) (hcb : cc + 400 ≤ 601024 ∧ cs + 4000 ≤ 7293034) (hm : wp_op_count q ap bp rp C T G P Y L B X S O N V J U y1 K) (hback : ∀ (H : Heap) (locs : List Loc) (ls : Array Slot) (cc1 cs1 : Nat) (ap1 : Nat) (bp1 : Nat) (rp1 : Nat) (C1 : M2) (T1 : M2) (G1 : M2) (P1 : M2) (Y1 : M2) (L1 : L2) (B1 : M2) (X1 : L2) (S1 : M2) (O1 : M2) (N1 : M2) (V1 : M2) (J1 : M2) (U1 : M2), K ap1 bp1 rp1 C1 T1 G1 P1 Y1 L1 B1 X1 S1 O1 N1 V1 J1 U1 → TS vwCl D (LW Z a t b q q2 ow ma mb mq mg mr ap1 bp1 rp1 C1 T1 G1 P1 Y1 L1 B1 X1 S1 O1 N1 V1 J1 U1) A s.heap H locs → lv_has ls 9 [(0, .ref scr), (1, .ref (a 90)), (2, .ref (mg 220)), (3, .ref (ow)), (4, .int v4)] → cc1 ≤ cc + 400 → cs1 ≤ cs + 4000 → W p l e (rk 2048 601024 7293034) s m args below meth c H locs cc1 cs1 Q (F0 m 1346 ls [])) (hl : lv_has ls 9 [(0, .ref scr), (1, .ref (a 90)), (2, .ref (mg 220)), (3, .ref (ow)), (4, .int v4)]) : W p l e (rk 2048 601024 7293034) s m args below meth c H locs cc cs Q (F0 m 334 ls []) := by
  have hx := hC.1
  have hb := hC.2.1
  refine lv_aload_n hx hb dL_law_334 rfl (lv_at hl 1 rfl) ?_
  refine lv_aload_n hx hb dL_law_335 rfl (lv_at hl 0 rfl) ?_
  refine lv_iload hx hb dL_law_336 (lv_at hl 4 rfl) ?_
  refine lv_iconst (v := 1) hx hb dL_law_338 (by decide) ?_
  refine lv_iadd hx hb dL_law_339 ?_
  refine va_sld hx hb hX hbl hbA hT.2.2.1 hi1 dL_law_340 ?_
  rw [e1]
  refine lv_aload_n hx hb dL_law_341 rfl (lv_at hl 3 rfl) ?_
  refine kl_L_count (rx := rx) hC hN hfl (hT.rxd hR) hK hT (cx_LXLW Z a t b q q2 ow ma mb mq mg mr ap bp rp C T G P Y L B X S O N V J U) rfl hm wq_1000 (by decide) hl.1 (Nat.le_of_ble_eq_true rfl) ⟨by omega, by omega⟩ dL_law_342 (fun r_342 ap_342 bp_342 rp_342 C_342 T_342 G_342 P_342 Y_342 L_342 B_342 X_342 H locs hm hT => ?_)
  have hT : TS vwCl D (LW Z a t b q q2 ow ma mb mq mg mr ap_342 bp_342 rp_342 C_342 T_342 G_342 P_342 Y_342 L_342 B_342 X_342 S O N V J U) A s.heap H locs := hT
  refine lv_istore (lv' := [(5, .int r_342), (0, .ref scr), (1, .ref (a 90)), (2, .ref (mg 220)), (3, .ref (ow)), (4, .int v4)]) hx hb dL_law_345 hl (by decide) rfl (fun ls hl => ?_)
  refine lv_aload_n hx hb dL_law_347 rfl (lv_at hl 3 rfl) ?_
  refine lv_aload_n hx hb dL_law_348 rfl (lv_at hl 1 rfl) ?_
  refine lv_iload hx hb dL_law_349 (lv_at hl 5 rfl) ?_
  refine lv_iconst (v := 1) hx hb dL_law_351 (by decide) ?_
  refine lv_iadd hx hb dL_law_352 ?_
  refine va_sld hx hb hX hbl hbA hT.2.2.1 hi1 dL_law_353 ?_
  rw [e1]
  refine kx_X8_count hC hN hK hT (cx_QWLW Z a t b q q2 ow ma mb mq mg mr ap_342 bp_342 rp_342 C_342 T_342 G_342 P_342 Y_342 L_342 B_342 X_342 S O N V J U) rfl hm wq_1716 (by decide) hl.1 (Nat.le_of_ble_eq_true rfl) ⟨by omega, by omega⟩ dL_law_354 (fun r_354 S_354 N_354 H locs hm hT => ?_)
  have hT : TS vwCl D (LW Z a t b q q2 ow ma mb mq mg mr ap_342 bp_342 rp_342 C_342 T_342 G_342 P_342 Y_342 L_342 B_342 X_342 S_354 O N_354 V J U) A s.heap H locs := hT
  refine lv_istore (lv' := [(6, .int r_354), (5, .int r_342), (0, .ref scr), (1, .ref (a 90)), (2, .ref (mg 220)), (3, .ref (ow)), (4, .int v4)]) hx hb dL_law_357 hl (by decide) rfl (fun ls hl => ?_)
  refine lv_aload_n hx hb dL_law_359 rfl (lv_at hl 4 rfl) ?_
  refine kx_X8_thrown hC hN hK hT.1 hT.D' (sx_QWLW Z a t b q q2 ow ma mb mq mg mr ap_342 bp_342 rp_342 C_342 T_342 G_342 P_342 Y_342 L_342 B_342 X_342 S_354 O N_354 V J U) rfl hm wq_1466 (by decide) hl.1 (Nat.le_of_ble_eq_true rfl) ⟨by omega, by omega⟩ dL_law_360 (fun r_360 hm => ?_)
  refine lv_iload hx hb dL_law_363 (lv_at hl 1 rfl) ?_
  refine lv_icmp_eq (tgt := 370) hx hb dL_law_365 (by decide) (fun c_365 => ?_) (fun c_365 => ?_)
  · have hm := hm.1 c_365
    refine lv_iload hx hb dL_law_370 (lv_at hl 1 rfl) ?_
    refine lv_if_ne (tgt := 387) hx hb dL_law_372 (by decide) (fun c_372 => ?_) (fun c_372 => ?_)
    · have hm := hm.1 c_372
      refine lv_goto (tgt := 1346) hx hb dL_law_387 (by decide) ?_
      exact hback _ _ _ _ _ ap_342 bp_342 rp_342 C_342 T_342 G_342 P_342 Y_342 L_342 B_342 X_342 S_354 O N_354 V J U hm hT (lv_sub hl [2, 3, 4, 5, 6] rfl) (by omega) (by omega)
    · have hm := hm.2 c_372
      refine lv_aload_n hx hb dL_law_375 rfl (lv_at hl 5 rfl) ?_
      refine lv_iconst (v := 0) hx hb dL_law_376 (by decide) ?_
      refine w_lald (q0 := 79) hC hK hT.1 rfl hm.1 dL_law_377 ?_
      have hm := hm.2
      refine lv_iload hx hb dL_law_378 (lv_at hl 0 rfl) ?_
      refine lv_i2l (v := r_354.toInt64) hx hb dL_law_380 rfl ?_
      refine W.lcmp hx hb dL_law_381 ?_
      refine lv_if_eq (tgt := 387) hx hb dL_law_382 (by decide) (fun c_382 => ?_) (fun c_382 => ?_)
      · have hm := hm.1 c_382
        refine lv_goto (tgt := 1346) hx hb dL_law_387 (by decide) ?_
        exact hback _ _ _ _ _ ap_342 bp_342 rp_342 C_342 T_342 G_342 P_342 Y_342 L_342 B_342 X_342 S_354 O N_354 V J U hm hT (lv_sub hl [2, 3, 4, 5, 6] rfl) (by omega) (by omega)
      · have hm := hm.2 c_382
        refine lv_iconst (v := 0) hx hb dL_law_385 (by decide) ?_
        exact hm.elim
  · have hm := hm.2 c_365
    refine lv_iconst (v := 0) hx hb dL_law_368 (by decide) ?_
    exact hm.elim
def wp_op_place (q : Nat → Nat) (ap : Nat) (bp : Nat) (rp : Nat) (C : M2) (T : M2) (G : M2) (P : M2) (Y : M2) (L : L2) (B : M2) (X : L2) (S : M2) (O : M2) (N : M2) (V : M2) (J : M2) (U : M2) (y1 : Int32) (y2 : Int32) (K : Nat → Nat → Nat → M2 → M2 → M2 → M2 → M2 → L2 → M2 → L2 → M2 → M2 → M2 → M2 → M2 → M2 → Prop) : Prop := wp_L_place q ap bp rp C T G P Y L B X y1 y2 (fun r_404 ap_404 bp_404 rp_404 C_404 T_404 G_404 P_404 Y_404 L_404 B_404 X_404 => wp_X8_place U S N y1 y2 (fun r_422 S_422 N_422 => wp_X8_thrown U S_422 N_422 (fun r_428 => ((r_428 = r_404 → ((¬ r_404 = 0 → K ap_404 bp_404 rp_404 C_404 T_404 G_404 P_404 Y_404 L_404 B_404 X_404 S_422 O N_422 V J U) ∧ (r_404 = 0 → (inb 0 1 ∧ (((lg_cmp (X_404 500 (0 : Int32).toInt.toNat) r_422.toInt64) = 0 → K ap_404 bp_404 rp_404 C_404 T_404 G_404 P_404 Y_404 L_404 B_404 X_404 S_422 O N_422 V J U) ∧ (¬ (lg_cmp (X_404 500 (0 : Int32).toInt.toNat) r_422.toInt64) = 0 → False)))))) ∧ (¬ r_428 = r_404 → False)))))
set_option maxRecDepth 100000 in
set_option maxHeartbeats 4000000 in
theorem t_op_place {p : Program} {l : Launch} {e : Env} {s : State} {m : MethodId} {args : Array Value} {below : List Frame} {meth : Method} {c : Code} {Q : State → Prop} {A : Nat → Prop} {D : va_G} {rx : Nat → Nat} {Z : Nat → ClassId} {a t b q q2 : Nat → Nat} {ow : Nat} {ma mb mq mg : Nat → Nat} {mr : Nat} {ap : Nat} {bp : Nat} {rp : Nat} {C : M2} {T : M2} {G : M2} {P : M2} {Y : M2} {L : L2} {B : M2} {X : L2} {S : M2} {O : M2} {N : M2} {V : M2} {J : M2} {U : M2} {scr Ln cc cs : Nat} {xs : Nat → Int32} {v4 y1 y2 : Int32} {K : Nat → Nat → Nat → M2 → M2 → M2 → M2 → M2 → L2 → M2 → L2 → M2 → M2 → M2 → M2 → M2 → M2 → Prop} {H : Heap} {locs : List Loc} {ls : Array Slot} (hC : CallFix p m c code 9 s args lw_g RL) (hN : NW s) (hfl : l.stackTraces = false) (hR : RXD rx A s s.heap) (hK : va_K D vwCl (tysG Z) s) (hX : va_X scr Ln xs s s.heap) (hbl : scr < s.heap.size) (hbA : ¬ A scr) (hi1 : vp_in (v4 + 1) Ln) (hi2 : vp_in (v4 + 2) Ln) (e1 : xs (v4 + 1).toNatClampNeg = y1) (e2 : xs (v4 + 2).toNatClampNeg = y2) (hT : TS vwCl D (LW Z a t b q q2 ow ma mb mq mg mr ap bp rp C T G P Y L B X S O N V J U) A s.heap H locs) (hcb : cc + 400 ≤ 601024 ∧ cs + 4000 ≤ 7293034) (hm : wp_op_place q ap bp rp C T G P Y L B X S O N V J U y1 y2 K) (hback : ∀ (H : Heap) (locs : List Loc) (ls : Array Slot) (cc1 cs1 : Nat) (ap1 : Nat) (bp1 : Nat) (rp1 : Nat) (C1 : M2) (T1 : M2) (G1 : M2) (P1 : M2) (Y1 : M2) (L1 : L2) (B1 : M2) (X1 : L2) (S1 : M2) (O1 : M2) (N1 : M2) (V1 : M2) (J1 : M2) (U1 : M2), K ap1 bp1 rp1 C1 T1 G1 P1 Y1 L1 B1 X1 S1 O1 N1 V1 J1 U1 → TS vwCl D (LW Z a t b q q2 ow ma mb mq mg mr ap1 bp1 rp1 C1 T1 G1 P1 Y1 L1 B1 X1 S1 O1 N1 V1 J1 U1) A s.heap H locs → lv_has ls 9 [(0, .ref scr), (1, .ref (a 90)), (2, .ref (mg 220)), (3, .ref (ow)), (4, .int v4)] → cc1 ≤ cc + 400 → cs1 ≤ cs + 4000 → W p l e (rk 2048 601024 7293034) s m args below meth c H locs cc1 cs1 Q (F0 m 1346 ls [])) (hl : lv_has ls 9 [(0, .ref scr), (1, .ref (a 90)), (2, .ref (mg 220)), (3, .ref (ow)), (4, .int v4)]) : W p l e (rk 2048 601024 7293034) s m args below meth c H locs cc cs Q (F0 m 390 ls []) := by
  have hx := hC.1
  have hb := hC.2.1
  refine lv_aload_n hx hb dL_law_390 rfl (lv_at hl 1 rfl) ?_
  refine lv_aload_n hx hb dL_law_391 rfl (lv_at hl 0 rfl) ?_
  refine lv_iload hx hb dL_law_392 (lv_at hl 4 rfl) ?_
  refine lv_iconst (v := 1) hx hb dL_law_394 (by decide) ?_
  refine lv_iadd hx hb dL_law_395 ?_
  refine va_sld hx hb hX hbl hbA hT.2.2.1 hi1 dL_law_396 ?_
  rw [e1]
  refine lv_aload_n hx hb dL_law_397 rfl (lv_at hl 0 rfl) ?_
  refine lv_iload hx hb dL_law_398 (lv_at hl 4 rfl) ?_
  refine lv_iconst (v := 2) hx hb dL_law_400 (by decide) ?_
  refine lv_iadd hx hb dL_law_401 ?_
  refine va_sld hx hb hX hbl hbA hT.2.2.1 hi2 dL_law_402 ?_
  rw [e2]
  refine lv_aload_n hx hb dL_law_403 rfl (lv_at hl 3 rfl) ?_
  refine kl_L_place (rx := rx) hC hN hfl (hT.rxd hR) hK hT (cx_LXLW Z a t b q q2 ow ma mb mq mg mr ap bp rp C T G P Y L B X S O N V J U) rfl hm wq_1005 (by decide) hl.1 (Nat.le_of_ble_eq_true rfl) ⟨by omega, by omega⟩ dL_law_404 (fun r_404 ap_404 bp_404 rp_404 C_404 T_404 G_404 P_404 Y_404 L_404 B_404 X_404 H locs hm hT => ?_)
  have hT : TS vwCl D (LW Z a t b q q2 ow ma mb mq mg mr ap_404 bp_404 rp_404 C_404 T_404 G_404 P_404 Y_404 L_404 B_404 X_404 S O N V J U) A s.heap H locs := hT
  refine lv_istore (lv' := [(5, .int r_404), (0, .ref scr), (1, .ref (a 90)), (2, .ref (mg 220)), (3, .ref (ow)), (4, .int v4)]) hx hb dL_law_407 hl (by decide) rfl (fun ls hl => ?_)
  refine lv_aload_n hx hb dL_law_409 rfl (lv_at hl 3 rfl) ?_
  refine lv_aload_n hx hb dL_law_410 rfl (lv_at hl 1 rfl) ?_
  refine lv_iload hx hb dL_law_411 (lv_at hl 5 rfl) ?_
  refine lv_iconst (v := 1) hx hb dL_law_413 (by decide) ?_
  refine lv_iadd hx hb dL_law_414 ?_
  refine va_sld hx hb hX hbl hbA hT.2.2.1 hi1 dL_law_415 ?_
  rw [e1]
  refine lv_aload_n hx hb dL_law_416 rfl (lv_at hl 1 rfl) ?_
  refine lv_iload hx hb dL_law_417 (lv_at hl 5 rfl) ?_
  refine lv_iconst (v := 2) hx hb dL_law_419 (by decide) ?_
  refine lv_iadd hx hb dL_law_420 ?_
  refine va_sld hx hb hX hbl hbA hT.2.2.1 hi2 dL_law_421 ?_
  rw [e2]
  refine kx_X8_place hC hN hK hT (cx_QWLW Z a t b q q2 ow ma mb mq mg mr ap_404 bp_404 rp_404 C_404 T_404 G_404 P_404 Y_404 L_404 B_404 X_404 S O N V J U) rfl hm wq_1740 (by decide) hl.1 (Nat.le_of_ble_eq_true rfl) ⟨by omega, by omega⟩ dL_law_422 (fun r_422 S_422 N_422 H locs hm hT => ?_)
  have hT : TS vwCl D (LW Z a t b q q2 ow ma mb mq mg mr ap_404 bp_404 rp_404 C_404 T_404 G_404 P_404 Y_404 L_404 B_404 X_404 S_422 O N_422 V J U) A s.heap H locs := hT
  refine lv_istore (lv' := [(6, .int r_422), (5, .int r_404), (0, .ref scr), (1, .ref (a 90)), (2, .ref (mg 220)), (3, .ref (ow)), (4, .int v4)]) hx hb dL_law_425 hl (by decide) rfl (fun ls hl => ?_)
  refine lv_aload_n hx hb dL_law_427 rfl (lv_at hl 4 rfl) ?_
  refine kx_X8_thrown hC hN hK hT.1 hT.D' (sx_QWLW Z a t b q q2 ow ma mb mq mg mr ap_404 bp_404 rp_404 C_404 T_404 G_404 P_404 Y_404 L_404 B_404 X_404 S_422 O N_422 V J U) rfl hm wq_1466 (by decide) hl.1 (Nat.le_of_ble_eq_true rfl) ⟨by omega, by omega⟩ dL_law_428 (fun r_428 hm => ?_)
  refine lv_iload hx hb dL_law_431 (lv_at hl 1 rfl) ?_
  refine lv_icmp_eq (tgt := 438) hx hb dL_law_433 (by decide) (fun c_433 => ?_) (fun c_433 => ?_)
  · have hm := hm.1 c_433
    refine lv_iload hx hb dL_law_438 (lv_at hl 1 rfl) ?_
    refine lv_if_ne (tgt := 455) hx hb dL_law_440 (by decide) (fun c_440 => ?_) (fun c_440 => ?_)
    · have hm := hm.1 c_440
      refine lv_goto (tgt := 1346) hx hb dL_law_455 (by decide) ?_
      exact hback _ _ _ _ _ ap_404 bp_404 rp_404 C_404 T_404 G_404 P_404 Y_404 L_404 B_404 X_404 S_422 O N_422 V J U hm hT (lv_sub hl [2, 3, 4, 5, 6] rfl) (by omega) (by omega)
    · have hm := hm.2 c_440
      refine lv_aload_n hx hb dL_law_443 rfl (lv_at hl 5 rfl) ?_
      refine lv_iconst (v := 0) hx hb dL_law_444 (by decide) ?_
      refine w_lald (q0 := 79) hC hK hT.1 rfl hm.1 dL_law_445 ?_
      have hm := hm.2
      refine lv_iload hx hb dL_law_446 (lv_at hl 0 rfl) ?_
      refine lv_i2l (v := r_422.toInt64) hx hb dL_law_448 rfl ?_
      refine W.lcmp hx hb dL_law_449 ?_
      refine lv_if_eq (tgt := 455) hx hb dL_law_450 (by decide) (fun c_450 => ?_) (fun c_450 => ?_)
      · have hm := hm.1 c_450
        refine lv_goto (tgt := 1346) hx hb dL_law_455 (by decide) ?_
        exact hback _ _ _ _ _ ap_404 bp_404 rp_404 C_404 T_404 G_404 P_404 Y_404 L_404 B_404 X_404 S_422 O N_422 V J U hm hT (lv_sub hl [2, 3, 4, 5, 6] rfl) (by omega) (by omega)
      · have hm := hm.2 c_450
        refine lv_iconst (v := 0) hx hb dL_law_453 (by decide) ?_
        exact hm.elim
  · have hm := hm.2 c_433
    refine lv_iconst (v := 0) hx hb dL_law_436 (by decide) ?_
    exact hm.elim
def wp_op_bore (q : Nat → Nat) (ap : Nat) (bp : Nat) (rp : Nat) (C : M2) (T : M2) (G : M2) (P : M2) (Y : M2) (L : L2) (B : M2) (X : L2) (S : M2) (O : M2) (N : M2) (V : M2) (J : M2) (U : M2) (y1 : Int32) (y2 : Int32) (K : Nat → Nat → Nat → M2 → M2 → M2 → M2 → M2 → L2 → M2 → L2 → M2 → M2 → M2 → M2 → M2 → M2 → Prop) : Prop := wp_L_bore q ap bp rp C T G P Y L B X y1 y2 (fun r_472 ap_472 bp_472 rp_472 C_472 T_472 G_472 P_472 Y_472 L_472 B_472 X_472 => wp_X8_bore U S N y1 y2 (fun r_490 S_490 N_490 => wp_X8_thrown U S_490 N_490 (fun r_496 => ((r_496 = r_472 → ((¬ r_472 = 0 → K ap_472 bp_472 rp_472 C_472 T_472 G_472 P_472 Y_472 L_472 B_472 X_472 S_490 O N_490 V J U) ∧ (r_472 = 0 → (inb 0 1 ∧ (((lg_cmp (X_472 500 (0 : Int32).toInt.toNat) r_490.toInt64) = 0 → K ap_472 bp_472 rp_472 C_472 T_472 G_472 P_472 Y_472 L_472 B_472 X_472 S_490 O N_490 V J U) ∧ (¬ (lg_cmp (X_472 500 (0 : Int32).toInt.toNat) r_490.toInt64) = 0 → False)))))) ∧ (¬ r_496 = r_472 → False)))))
set_option maxRecDepth 100000 in
set_option maxHeartbeats 4000000 in
theorem t_op_bore {p : Program} {l : Launch} {e : Env} {s : State} {m : MethodId} {args : Array Value} {below : List Frame} {meth : Method} {c : Code} {Q : State → Prop} {A : Nat → Prop} {D : va_G} {rx : Nat → Nat} {Z : Nat → ClassId} {a t b q q2 : Nat → Nat} {ow : Nat} {ma mb mq mg : Nat → Nat} {mr : Nat} {ap : Nat} {bp : Nat} {rp : Nat} {C : M2} {T : M2} {G : M2} {P : M2} {Y : M2} {L : L2} {B : M2} {X : L2} {S : M2} {O : M2} {N : M2} {V : M2} {J : M2} {U : M2} {scr Ln cc cs : Nat} {xs : Nat → Int32} {v4 y1 y2 : Int32} {K : Nat → Nat → Nat → M2 → M2 → M2 → M2 → M2 → L2 → M2 → L2 → M2 → M2 → M2 → M2 → M2 → M2 → Prop} {H : Heap} {locs : List Loc} {ls : Array Slot} (hC : CallFix p m c code 9 s args lw_g RL) (hN : NW s) (hfl : l.stackTraces = false) (hR : RXD rx A s s.heap) (hK : va_K D vwCl (tysG Z) s) (hX : va_X scr Ln xs s s.heap) (hbl : scr < s.heap.size) (hbA : ¬ A scr) (hi1 : vp_in (v4 + 1) Ln) (hi2 : vp_in (v4 + 2) Ln) (e1 : xs (v4 + 1).toNatClampNeg = y1) (e2 : xs (v4 + 2).toNatClampNeg = y2) (hT : TS vwCl D (LW Z a t b q q2 ow ma mb mq mg mr ap bp rp C T G P Y L B X S O N V J U) A s.heap H locs) (hcb : cc + 400 ≤ 601024 ∧ cs + 4000 ≤ 7293034) (hm : wp_op_bore q ap bp rp C T G P Y L B X S O N V J U y1 y2 K) (hback : ∀ (H : Heap) (locs : List Loc) (ls : Array Slot) (cc1 cs1 : Nat) (ap1 : Nat) (bp1 : Nat) (rp1 : Nat) (C1 : M2) (T1 : M2) (G1 : M2) (P1 : M2) (Y1 : M2) (L1 : L2) (B1 : M2) (X1 : L2) (S1 : M2) (O1 : M2) (N1 : M2) (V1 : M2) (J1 : M2) (U1 : M2), K ap1 bp1 rp1 C1 T1 G1 P1 Y1 L1 B1 X1 S1 O1 N1 V1 J1 U1 → TS vwCl D (LW Z a t b q q2 ow ma mb mq mg mr ap1 bp1 rp1 C1 T1 G1 P1 Y1 L1 B1 X1 S1 O1 N1 V1 J1 U1) A s.heap H locs → lv_has ls 9 [(0, .ref scr), (1, .ref (a 90)), (2, .ref (mg 220)), (3, .ref (ow)), (4, .int v4)] → cc1 ≤ cc + 400 → cs1 ≤ cs + 4000 → W p l e (rk 2048 601024 7293034) s m args below meth c H locs cc1 cs1 Q (F0 m 1346 ls [])) (hl : lv_has ls 9 [(0, .ref scr), (1, .ref (a 90)), (2, .ref (mg 220)), (3, .ref (ow)), (4, .int v4)]) : W p l e (rk 2048 601024 7293034) s m args below meth c H locs cc cs Q (F0 m 458 ls []) := by
  have hx := hC.1
  have hb := hC.2.1
  refine lv_aload_n hx hb dL_law_458 rfl (lv_at hl 1 rfl) ?_
  refine lv_aload_n hx hb dL_law_459 rfl (lv_at hl 0 rfl) ?_
  refine lv_iload hx hb dL_law_460 (lv_at hl 4 rfl) ?_
  refine lv_iconst (v := 1) hx hb dL_law_462 (by decide) ?_
  refine lv_iadd hx hb dL_law_463 ?_
  refine va_sld hx hb hX hbl hbA hT.2.2.1 hi1 dL_law_464 ?_
  rw [e1]
  refine lv_aload_n hx hb dL_law_465 rfl (lv_at hl 0 rfl) ?_
  refine lv_iload hx hb dL_law_466 (lv_at hl 4 rfl) ?_
  refine lv_iconst (v := 2) hx hb dL_law_468 (by decide) ?_
  refine lv_iadd hx hb dL_law_469 ?_
  refine va_sld hx hb hX hbl hbA hT.2.2.1 hi2 dL_law_470 ?_
  rw [e2]
  refine lv_aload_n hx hb dL_law_471 rfl (lv_at hl 3 rfl) ?_
  refine kl_L_bore (rx := rx) hC hN hfl (hT.rxd hR) hK hT (cx_LXLW Z a t b q q2 ow ma mb mq mg mr ap bp rp C T G P Y L B X S O N V J U) rfl hm wq_1009 (by decide) hl.1 (Nat.le_of_ble_eq_true rfl) ⟨by omega, by omega⟩ dL_law_472 (fun r_472 ap_472 bp_472 rp_472 C_472 T_472 G_472 P_472 Y_472 L_472 B_472 X_472 H locs hm hT => ?_)
  have hT : TS vwCl D (LW Z a t b q q2 ow ma mb mq mg mr ap_472 bp_472 rp_472 C_472 T_472 G_472 P_472 Y_472 L_472 B_472 X_472 S O N V J U) A s.heap H locs := hT
  refine lv_istore (lv' := [(5, .int r_472), (0, .ref scr), (1, .ref (a 90)), (2, .ref (mg 220)), (3, .ref (ow)), (4, .int v4)]) hx hb dL_law_475 hl (by decide) rfl (fun ls hl => ?_)
  refine lv_aload_n hx hb dL_law_477 rfl (lv_at hl 3 rfl) ?_
  refine lv_aload_n hx hb dL_law_478 rfl (lv_at hl 1 rfl) ?_
  refine lv_iload hx hb dL_law_479 (lv_at hl 5 rfl) ?_
  refine lv_iconst (v := 1) hx hb dL_law_481 (by decide) ?_
  refine lv_iadd hx hb dL_law_482 ?_
  refine va_sld hx hb hX hbl hbA hT.2.2.1 hi1 dL_law_483 ?_
  rw [e1]
  refine lv_aload_n hx hb dL_law_484 rfl (lv_at hl 1 rfl) ?_
  refine lv_iload hx hb dL_law_485 (lv_at hl 5 rfl) ?_
  refine lv_iconst (v := 2) hx hb dL_law_487 (by decide) ?_
  refine lv_iadd hx hb dL_law_488 ?_
  refine va_sld hx hb hX hbl hbA hT.2.2.1 hi2 dL_law_489 ?_
  rw [e2]
  refine kx_X8_bore hC hN hK hT (cx_QWLW Z a t b q q2 ow ma mb mq mg mr ap_472 bp_472 rp_472 C_472 T_472 G_472 P_472 Y_472 L_472 B_472 X_472 S O N V J U) rfl hm wq_1757 (by decide) hl.1 (Nat.le_of_ble_eq_true rfl) ⟨by omega, by omega⟩ dL_law_490 (fun r_490 S_490 N_490 H locs hm hT => ?_)
  have hT : TS vwCl D (LW Z a t b q q2 ow ma mb mq mg mr ap_472 bp_472 rp_472 C_472 T_472 G_472 P_472 Y_472 L_472 B_472 X_472 S_490 O N_490 V J U) A s.heap H locs := hT
  refine lv_istore (lv' := [(6, .int r_490), (5, .int r_472), (0, .ref scr), (1, .ref (a 90)), (2, .ref (mg 220)), (3, .ref (ow)), (4, .int v4)]) hx hb dL_law_493 hl (by decide) rfl (fun ls hl => ?_)
  refine lv_aload_n hx hb dL_law_495 rfl (lv_at hl 4 rfl) ?_
  refine kx_X8_thrown hC hN hK hT.1 hT.D' (sx_QWLW Z a t b q q2 ow ma mb mq mg mr ap_472 bp_472 rp_472 C_472 T_472 G_472 P_472 Y_472 L_472 B_472 X_472 S_490 O N_490 V J U) rfl hm wq_1466 (by decide) hl.1 (Nat.le_of_ble_eq_true rfl) ⟨by omega, by omega⟩ dL_law_496 (fun r_496 hm => ?_)
  refine lv_iload hx hb dL_law_499 (lv_at hl 1 rfl) ?_
  refine lv_icmp_eq (tgt := 506) hx hb dL_law_501 (by decide) (fun c_501 => ?_) (fun c_501 => ?_)
  · have hm := hm.1 c_501
    refine lv_iload hx hb dL_law_506 (lv_at hl 1 rfl) ?_
    refine lv_if_ne (tgt := 523) hx hb dL_law_508 (by decide) (fun c_508 => ?_) (fun c_508 => ?_)
    · have hm := hm.1 c_508
      refine lv_goto (tgt := 1346) hx hb dL_law_523 (by decide) ?_
      exact hback _ _ _ _ _ ap_472 bp_472 rp_472 C_472 T_472 G_472 P_472 Y_472 L_472 B_472 X_472 S_490 O N_490 V J U hm hT (lv_sub hl [2, 3, 4, 5, 6] rfl) (by omega) (by omega)
    · have hm := hm.2 c_508
      refine lv_aload_n hx hb dL_law_511 rfl (lv_at hl 5 rfl) ?_
      refine lv_iconst (v := 0) hx hb dL_law_512 (by decide) ?_
      refine w_lald (q0 := 79) hC hK hT.1 rfl hm.1 dL_law_513 ?_
      have hm := hm.2
      refine lv_iload hx hb dL_law_514 (lv_at hl 0 rfl) ?_
      refine lv_i2l (v := r_490.toInt64) hx hb dL_law_516 rfl ?_
      refine W.lcmp hx hb dL_law_517 ?_
      refine lv_if_eq (tgt := 523) hx hb dL_law_518 (by decide) (fun c_518 => ?_) (fun c_518 => ?_)
      · have hm := hm.1 c_518
        refine lv_goto (tgt := 1346) hx hb dL_law_523 (by decide) ?_
        exact hback _ _ _ _ _ ap_472 bp_472 rp_472 C_472 T_472 G_472 P_472 Y_472 L_472 B_472 X_472 S_490 O N_490 V J U hm hT (lv_sub hl [2, 3, 4, 5, 6] rfl) (by omega) (by omega)
      · have hm := hm.2 c_518
        refine lv_iconst (v := 0) hx hb dL_law_521 (by decide) ?_
        exact hm.elim
  · have hm := hm.2 c_501
    refine lv_iconst (v := 0) hx hb dL_law_504 (by decide) ?_
    exact hm.elim
def wp_op_legger (q : Nat → Nat) (ap : Nat) (bp : Nat) (rp : Nat) (C : M2) (T : M2) (G : M2) (P : M2) (Y : M2) (L : L2) (B : M2) (X : L2) (S : M2) (O : M2) (N : M2) (V : M2) (J : M2) (U : M2) (y1 : Int32) (y2 : Int32) (K : Nat → Nat → Nat → M2 → M2 → M2 → M2 → M2 → L2 → M2 → L2 → M2 → M2 → M2 → M2 → M2 → M2 → Prop) : Prop := wp_L_legger q ap bp rp C T G P Y L B X y1 y2 (fun r_540 ap_540 bp_540 rp_540 C_540 T_540 G_540 P_540 Y_540 L_540 B_540 X_540 => wp_X8_legger U S N y1 y2 (fun r_558 S_558 N_558 => wp_X8_thrown U S_558 N_558 (fun r_564 => ((r_564 = r_540 → ((¬ r_540 = 0 → K ap_540 bp_540 rp_540 C_540 T_540 G_540 P_540 Y_540 L_540 B_540 X_540 S_558 O N_558 V J U) ∧ (r_540 = 0 → (inb 0 1 ∧ (((lg_cmp (X_540 500 (0 : Int32).toInt.toNat) r_558.toInt64) = 0 → K ap_540 bp_540 rp_540 C_540 T_540 G_540 P_540 Y_540 L_540 B_540 X_540 S_558 O N_558 V J U) ∧ (¬ (lg_cmp (X_540 500 (0 : Int32).toInt.toNat) r_558.toInt64) = 0 → False)))))) ∧ (¬ r_564 = r_540 → False)))))
set_option maxRecDepth 100000 in
set_option maxHeartbeats 4000000 in
theorem t_op_legger {p : Program} {l : Launch} {e : Env} {s : State} {m : MethodId} {args : Array Value} {below : List Frame} {meth : Method} {c : Code} {Q : State → Prop} {A : Nat → Prop} {D : va_G} {rx : Nat → Nat} {Z : Nat → ClassId} {a t b q q2 : Nat → Nat} {ow : Nat} {ma mb mq mg : Nat → Nat} {mr : Nat} {ap : Nat} {bp : Nat} {rp : Nat} {C : M2} {T : M2} {G : M2} {P : M2} {Y : M2} {L : L2} {B : M2} {X : L2} {S : M2} {O : M2} {N : M2} {V : M2} {J : M2} {U : M2} {scr Ln cc cs : Nat} {xs : Nat → Int32} {v4 y1 y2 : Int32} {K : Nat → Nat → Nat → M2 → M2 → M2 → M2 → M2 → L2 → M2 → L2 → M2 → M2 → M2 → M2 → M2 → M2 → Prop} {H : Heap} {locs : List Loc} {ls : Array Slot} (hC : CallFix p m c code 9 s args lw_g RL) (hN : NW s) (hfl : l.stackTraces = false) (hR : RXD rx A s s.heap) (hK : va_K D vwCl (tysG Z) s) (hX : va_X scr Ln xs s s.heap) (hbl : scr < s.heap.size) (hbA : ¬ A scr) (hi1 : vp_in (v4 + 1) Ln) (hi2 : vp_in (v4 + 2) Ln) (e1 : xs (v4 + 1).toNatClampNeg = y1) (e2 : xs (v4 + 2).toNatClampNeg = y2) (hT : TS vwCl D (LW Z a t b q q2 ow ma mb mq mg mr ap bp rp C T G P Y L B X S O N V J U) A s.heap H locs) (hcb : cc + 400 ≤ 601024 ∧ cs + 4000 ≤ 7293034) (hm : wp_op_legger q ap bp rp C T G P Y L B X S O N V J U y1 y2 K) (hback : ∀ (H : Heap) (locs : List Loc) (ls : Array Slot) (cc1 cs1 : Nat) (ap1 : Nat) (bp1 : Nat) (rp1 : Nat) (C1 : M2) (T1 : M2) (G1 : M2) (P1 : M2) (Y1 : M2) (L1 : L2) (B1 : M2) (X1 : L2) (S1 : M2) (O1 : M2) (N1 : M2) (V1 : M2) (J1 : M2) (U1 : M2), K ap1 bp1 rp1 C1 T1 G1 P1 Y1 L1 B1 X1 S1 O1 N1 V1 J1 U1 → TS vwCl D (LW Z a t b q q2 ow ma mb mq mg mr ap1 bp1 rp1 C1 T1 G1 P1 Y1 L1 B1 X1 S1 O1 N1 V1 J1 U1) A s.heap H locs → lv_has ls 9 [(0, .ref scr), (1, .ref (a 90)), (2, .ref (mg 220)), (3, .ref (ow)), (4, .int v4)] → cc1 ≤ cc + 400 → cs1 ≤ cs + 4000 → W p l e (rk 2048 601024 7293034) s m args below meth c H locs cc1 cs1 Q (F0 m 1346 ls [])) (hl : lv_has ls 9 [(0, .ref scr), (1, .ref (a 90)), (2, .ref (mg 220)), (3, .ref (ow)), (4, .int v4)]) : W p l e (rk 2048 601024 7293034) s m args below meth c H locs cc cs Q (F0 m 526 ls []) := by
  have hx := hC.1
  have hb := hC.2.1
  refine lv_aload_n hx hb dL_law_526 rfl (lv_at hl 1 rfl) ?_
  refine lv_aload_n hx hb dL_law_527 rfl (lv_at hl 0 rfl) ?_
  refine lv_iload hx hb dL_law_528 (lv_at hl 4 rfl) ?_
  refine lv_iconst (v := 1) hx hb dL_law_530 (by decide) ?_
  refine lv_iadd hx hb dL_law_531 ?_
  refine va_sld hx hb hX hbl hbA hT.2.2.1 hi1 dL_law_532 ?_
  rw [e1]
  refine lv_aload_n hx hb dL_law_533 rfl (lv_at hl 0 rfl) ?_
  refine lv_iload hx hb dL_law_534 (lv_at hl 4 rfl) ?_
  refine lv_iconst (v := 2) hx hb dL_law_536 (by decide) ?_
  refine lv_iadd hx hb dL_law_537 ?_
  refine va_sld hx hb hX hbl hbA hT.2.2.1 hi2 dL_law_538 ?_
  rw [e2]
  refine lv_aload_n hx hb dL_law_539 rfl (lv_at hl 3 rfl) ?_
  refine kl_L_legger (rx := rx) hC hN hfl (hT.rxd hR) hK hT (cx_LXLW Z a t b q q2 ow ma mb mq mg mr ap bp rp C T G P Y L B X S O N V J U) rfl hm wq_1013 (by decide) hl.1 (Nat.le_of_ble_eq_true rfl) ⟨by omega, by omega⟩ dL_law_540 (fun r_540 ap_540 bp_540 rp_540 C_540 T_540 G_540 P_540 Y_540 L_540 B_540 X_540 H locs hm hT => ?_)
  have hT : TS vwCl D (LW Z a t b q q2 ow ma mb mq mg mr ap_540 bp_540 rp_540 C_540 T_540 G_540 P_540 Y_540 L_540 B_540 X_540 S O N V J U) A s.heap H locs := hT
  refine lv_istore (lv' := [(5, .int r_540), (0, .ref scr), (1, .ref (a 90)), (2, .ref (mg 220)), (3, .ref (ow)), (4, .int v4)]) hx hb dL_law_543 hl (by decide) rfl (fun ls hl => ?_)
  refine lv_aload_n hx hb dL_law_545 rfl (lv_at hl 3 rfl) ?_
  refine lv_aload_n hx hb dL_law_546 rfl (lv_at hl 1 rfl) ?_
  refine lv_iload hx hb dL_law_547 (lv_at hl 5 rfl) ?_
  refine lv_iconst (v := 1) hx hb dL_law_549 (by decide) ?_
  refine lv_iadd hx hb dL_law_550 ?_
  refine va_sld hx hb hX hbl hbA hT.2.2.1 hi1 dL_law_551 ?_
  rw [e1]
  refine lv_aload_n hx hb dL_law_552 rfl (lv_at hl 1 rfl) ?_
  refine lv_iload hx hb dL_law_553 (lv_at hl 5 rfl) ?_
  refine lv_iconst (v := 2) hx hb dL_law_555 (by decide) ?_
  refine lv_iadd hx hb dL_law_556 ?_
  refine va_sld hx hb hX hbl hbA hT.2.2.1 hi2 dL_law_557 ?_
  rw [e2]
  refine kx_X8_legger hC hN hK hT (cx_QWLW Z a t b q q2 ow ma mb mq mg mr ap_540 bp_540 rp_540 C_540 T_540 G_540 P_540 Y_540 L_540 B_540 X_540 S O N V J U) rfl hm wq_1769 (by decide) hl.1 (Nat.le_of_ble_eq_true rfl) ⟨by omega, by omega⟩ dL_law_558 (fun r_558 S_558 N_558 H locs hm hT => ?_)
  have hT : TS vwCl D (LW Z a t b q q2 ow ma mb mq mg mr ap_540 bp_540 rp_540 C_540 T_540 G_540 P_540 Y_540 L_540 B_540 X_540 S_558 O N_558 V J U) A s.heap H locs := hT
  refine lv_istore (lv' := [(6, .int r_558), (5, .int r_540), (0, .ref scr), (1, .ref (a 90)), (2, .ref (mg 220)), (3, .ref (ow)), (4, .int v4)]) hx hb dL_law_561 hl (by decide) rfl (fun ls hl => ?_)
  refine lv_aload_n hx hb dL_law_563 rfl (lv_at hl 4 rfl) ?_
  refine kx_X8_thrown hC hN hK hT.1 hT.D' (sx_QWLW Z a t b q q2 ow ma mb mq mg mr ap_540 bp_540 rp_540 C_540 T_540 G_540 P_540 Y_540 L_540 B_540 X_540 S_558 O N_558 V J U) rfl hm wq_1466 (by decide) hl.1 (Nat.le_of_ble_eq_true rfl) ⟨by omega, by omega⟩ dL_law_564 (fun r_564 hm => ?_)
  refine lv_iload hx hb dL_law_567 (lv_at hl 1 rfl) ?_
  refine lv_icmp_eq (tgt := 574) hx hb dL_law_569 (by decide) (fun c_569 => ?_) (fun c_569 => ?_)
  · have hm := hm.1 c_569
    refine lv_iload hx hb dL_law_574 (lv_at hl 1 rfl) ?_
    refine lv_if_ne (tgt := 591) hx hb dL_law_576 (by decide) (fun c_576 => ?_) (fun c_576 => ?_)
    · have hm := hm.1 c_576
      refine lv_goto (tgt := 1346) hx hb dL_law_591 (by decide) ?_
      exact hback _ _ _ _ _ ap_540 bp_540 rp_540 C_540 T_540 G_540 P_540 Y_540 L_540 B_540 X_540 S_558 O N_558 V J U hm hT (lv_sub hl [2, 3, 4, 5, 6] rfl) (by omega) (by omega)
    · have hm := hm.2 c_576
      refine lv_aload_n hx hb dL_law_579 rfl (lv_at hl 5 rfl) ?_
      refine lv_iconst (v := 0) hx hb dL_law_580 (by decide) ?_
      refine w_lald (q0 := 79) hC hK hT.1 rfl hm.1 dL_law_581 ?_
      have hm := hm.2
      refine lv_iload hx hb dL_law_582 (lv_at hl 0 rfl) ?_
      refine lv_i2l (v := r_558.toInt64) hx hb dL_law_584 rfl ?_
      refine W.lcmp hx hb dL_law_585 ?_
      refine lv_if_eq (tgt := 591) hx hb dL_law_586 (by decide) (fun c_586 => ?_) (fun c_586 => ?_)
      · have hm := hm.1 c_586
        refine lv_goto (tgt := 1346) hx hb dL_law_591 (by decide) ?_
        exact hback _ _ _ _ _ ap_540 bp_540 rp_540 C_540 T_540 G_540 P_540 Y_540 L_540 B_540 X_540 S_558 O N_558 V J U hm hT (lv_sub hl [2, 3, 4, 5, 6] rfl) (by omega) (by omega)
      · have hm := hm.2 c_586
        refine lv_iconst (v := 0) hx hb dL_law_589 (by decide) ?_
        exact hm.elim
  · have hm := hm.2 c_569
    refine lv_iconst (v := 0) hx hb dL_law_572 (by decide) ?_
    exact hm.elim
def wp_op_boat (q : Nat → Nat) (ap : Nat) (bp : Nat) (rp : Nat) (C : M2) (T : M2) (G : M2) (P : M2) (Y : M2) (L : L2) (B : M2) (X : L2) (S : M2) (O : M2) (N : M2) (V : M2) (J : M2) (U : M2) (y1 : Int32) (y2 : Int32) (K : Nat → Nat → Nat → M2 → M2 → M2 → M2 → M2 → L2 → M2 → L2 → M2 → M2 → M2 → M2 → M2 → M2 → Prop) : Prop := wp_L_boat q ap bp rp C T G P Y L B X y1 y2 (fun r_608 ap_608 bp_608 rp_608 C_608 T_608 G_608 P_608 Y_608 L_608 B_608 X_608 => wp_X8_boat U S N y1 y2 (fun r_626 S_626 N_626 => wp_X8_thrown U S_626 N_626 (fun r_632 => ((r_632 = r_608 → ((¬ r_608 = 0 → K ap_608 bp_608 rp_608 C_608 T_608 G_608 P_608 Y_608 L_608 B_608 X_608 S_626 O N_626 V J U) ∧ (r_608 = 0 → (inb 0 1 ∧ (((lg_cmp (X_608 500 (0 : Int32).toInt.toNat) r_626.toInt64) = 0 → K ap_608 bp_608 rp_608 C_608 T_608 G_608 P_608 Y_608 L_608 B_608 X_608 S_626 O N_626 V J U) ∧ (¬ (lg_cmp (X_608 500 (0 : Int32).toInt.toNat) r_626.toInt64) = 0 → False)))))) ∧ (¬ r_632 = r_608 → False)))))
set_option maxRecDepth 100000 in
set_option maxHeartbeats 4000000 in
theorem t_op_boat {p : Program} {l : Launch} {e : Env} {s : State} {m : MethodId} {args : Array Value} {below : List Frame} {meth : Method} {c : Code} {Q : State → Prop} {A : Nat → Prop} {D : va_G} {rx : Nat → Nat} {Z : Nat → ClassId} {a t b q q2 : Nat → Nat} {ow : Nat} {ma mb mq mg : Nat → Nat} {mr : Nat} {ap : Nat} {bp : Nat} {rp : Nat} {C : M2} {T : M2} {G : M2} {P : M2} {Y : M2} {L : L2} {B : M2} {X : L2} {S : M2} {O : M2} {N : M2} {V : M2} {J : M2} {U : M2} {scr Ln cc cs : Nat} {xs : Nat → Int32} {v4 y1 y2 : Int32} {K : Nat → Nat → Nat → M2 → M2 → M2 → M2 → M2 → L2 → M2 → L2 → M2 → M2 → M2 → M2 → M2 → M2 → Prop} {H : Heap} {locs : List Loc} {ls : Array Slot} (hC : CallFix p m c code 9 s args lw_g RL) (hN : NW s) (hfl : l.stackTraces = false) (hR : RXD rx A s s.heap) (hK : va_K D vwCl (tysG Z) s) (hX : va_X scr Ln xs s s.heap) (hbl : scr < s.heap.size) (hbA : ¬ A scr) (hi1 : vp_in (v4 + 1) Ln) (hi2 : vp_in (v4 + 2) Ln) (e1 : xs (v4 + 1).toNatClampNeg = y1) (e2 : xs (v4 + 2).toNatClampNeg = y2) (hT : TS vwCl D (LW Z a t b q q2 ow ma mb mq mg mr ap bp rp C T G P Y L B X S O N V J U) A s.heap H locs) (hcb : cc + 400 ≤ 601024 ∧ cs + 4000 ≤ 7293034) (hm : wp_op_boat q ap bp rp C T G P Y L B X S O N V J U y1 y2 K) (hback : ∀ (H : Heap) (locs : List Loc) (ls : Array Slot) (cc1 cs1 : Nat) (ap1 : Nat) (bp1 : Nat) (rp1 : Nat) (C1 : M2) (T1 : M2) (G1 : M2) (P1 : M2) (Y1 : M2) (L1 : L2) (B1 : M2) (X1 : L2) (S1 : M2) (O1 : M2) (N1 : M2) (V1 : M2) (J1 : M2) (U1 : M2), K ap1 bp1 rp1 C1 T1 G1 P1 Y1 L1 B1 X1 S1 O1 N1 V1 J1 U1 → TS vwCl D (LW Z a t b q q2 ow ma mb mq mg mr ap1 bp1 rp1 C1 T1 G1 P1 Y1 L1 B1 X1 S1 O1 N1 V1 J1 U1) A s.heap H locs → lv_has ls 9 [(0, .ref scr), (1, .ref (a 90)), (2, .ref (mg 220)), (3, .ref (ow)), (4, .int v4)] → cc1 ≤ cc + 400 → cs1 ≤ cs + 4000 → W p l e (rk 2048 601024 7293034) s m args below meth c H locs cc1 cs1 Q (F0 m 1346 ls [])) (hl : lv_has ls 9 [(0, .ref scr), (1, .ref (a 90)), (2, .ref (mg 220)), (3, .ref (ow)), (4, .int v4)]) : W p l e (rk 2048 601024 7293034) s m args below meth c H locs cc cs Q (F0 m 594 ls []) := by
  have hx := hC.1
  have hb := hC.2.1
  refine lv_aload_n hx hb dL_law_594 rfl (lv_at hl 1 rfl) ?_
  refine lv_aload_n hx hb dL_law_595 rfl (lv_at hl 0 rfl) ?_
  refine lv_iload hx hb dL_law_596 (lv_at hl 4 rfl) ?_
  refine lv_iconst (v := 1) hx hb dL_law_598 (by decide) ?_
  refine lv_iadd hx hb dL_law_599 ?_
  refine va_sld hx hb hX hbl hbA hT.2.2.1 hi1 dL_law_600 ?_
  rw [e1]
  refine lv_aload_n hx hb dL_law_601 rfl (lv_at hl 0 rfl) ?_
  refine lv_iload hx hb dL_law_602 (lv_at hl 4 rfl) ?_
  refine lv_iconst (v := 2) hx hb dL_law_604 (by decide) ?_
  refine lv_iadd hx hb dL_law_605 ?_
  refine va_sld hx hb hX hbl hbA hT.2.2.1 hi2 dL_law_606 ?_
  rw [e2]
  refine lv_aload_n hx hb dL_law_607 rfl (lv_at hl 3 rfl) ?_
  refine kl_L_boat (rx := rx) hC hN hfl (hT.rxd hR) hK hT (cx_LXLW Z a t b q q2 ow ma mb mq mg mr ap bp rp C T G P Y L B X S O N V J U) rfl hm wq_1017 (by decide) hl.1 (Nat.le_of_ble_eq_true rfl) ⟨by omega, by omega⟩ dL_law_608 (fun r_608 ap_608 bp_608 rp_608 C_608 T_608 G_608 P_608 Y_608 L_608 B_608 X_608 H locs hm hT => ?_)
  have hT : TS vwCl D (LW Z a t b q q2 ow ma mb mq mg mr ap_608 bp_608 rp_608 C_608 T_608 G_608 P_608 Y_608 L_608 B_608 X_608 S O N V J U) A s.heap H locs := hT
  refine lv_istore (lv' := [(5, .int r_608), (0, .ref scr), (1, .ref (a 90)), (2, .ref (mg 220)), (3, .ref (ow)), (4, .int v4)]) hx hb dL_law_611 hl (by decide) rfl (fun ls hl => ?_)
  refine lv_aload_n hx hb dL_law_613 rfl (lv_at hl 3 rfl) ?_
  refine lv_aload_n hx hb dL_law_614 rfl (lv_at hl 1 rfl) ?_
  refine lv_iload hx hb dL_law_615 (lv_at hl 5 rfl) ?_
  refine lv_iconst (v := 1) hx hb dL_law_617 (by decide) ?_
  refine lv_iadd hx hb dL_law_618 ?_
  refine va_sld hx hb hX hbl hbA hT.2.2.1 hi1 dL_law_619 ?_
  rw [e1]
  refine lv_aload_n hx hb dL_law_620 rfl (lv_at hl 1 rfl) ?_
  refine lv_iload hx hb dL_law_621 (lv_at hl 5 rfl) ?_
  refine lv_iconst (v := 2) hx hb dL_law_623 (by decide) ?_
  refine lv_iadd hx hb dL_law_624 ?_
  refine va_sld hx hb hX hbl hbA hT.2.2.1 hi2 dL_law_625 ?_
  rw [e2]
  refine kx_X8_boat hC hN hK hT (cx_QWLW Z a t b q q2 ow ma mb mq mg mr ap_608 bp_608 rp_608 C_608 T_608 G_608 P_608 Y_608 L_608 B_608 X_608 S O N V J U) rfl hm wq_1785 (by decide) hl.1 (Nat.le_of_ble_eq_true rfl) ⟨by omega, by omega⟩ dL_law_626 (fun r_626 S_626 N_626 H locs hm hT => ?_)
  have hT : TS vwCl D (LW Z a t b q q2 ow ma mb mq mg mr ap_608 bp_608 rp_608 C_608 T_608 G_608 P_608 Y_608 L_608 B_608 X_608 S_626 O N_626 V J U) A s.heap H locs := hT
  refine lv_istore (lv' := [(6, .int r_626), (5, .int r_608), (0, .ref scr), (1, .ref (a 90)), (2, .ref (mg 220)), (3, .ref (ow)), (4, .int v4)]) hx hb dL_law_629 hl (by decide) rfl (fun ls hl => ?_)
  refine lv_aload_n hx hb dL_law_631 rfl (lv_at hl 4 rfl) ?_
  refine kx_X8_thrown hC hN hK hT.1 hT.D' (sx_QWLW Z a t b q q2 ow ma mb mq mg mr ap_608 bp_608 rp_608 C_608 T_608 G_608 P_608 Y_608 L_608 B_608 X_608 S_626 O N_626 V J U) rfl hm wq_1466 (by decide) hl.1 (Nat.le_of_ble_eq_true rfl) ⟨by omega, by omega⟩ dL_law_632 (fun r_632 hm => ?_)
  refine lv_iload hx hb dL_law_635 (lv_at hl 1 rfl) ?_
  refine lv_icmp_eq (tgt := 642) hx hb dL_law_637 (by decide) (fun c_637 => ?_) (fun c_637 => ?_)
  · have hm := hm.1 c_637
    refine lv_iload hx hb dL_law_642 (lv_at hl 1 rfl) ?_
    refine lv_if_ne (tgt := 659) hx hb dL_law_644 (by decide) (fun c_644 => ?_) (fun c_644 => ?_)
    · have hm := hm.1 c_644
      refine lv_goto (tgt := 1346) hx hb dL_law_659 (by decide) ?_
      exact hback _ _ _ _ _ ap_608 bp_608 rp_608 C_608 T_608 G_608 P_608 Y_608 L_608 B_608 X_608 S_626 O N_626 V J U hm hT (lv_sub hl [2, 3, 4, 5, 6] rfl) (by omega) (by omega)
    · have hm := hm.2 c_644
      refine lv_aload_n hx hb dL_law_647 rfl (lv_at hl 5 rfl) ?_
      refine lv_iconst (v := 0) hx hb dL_law_648 (by decide) ?_
      refine w_lald (q0 := 79) hC hK hT.1 rfl hm.1 dL_law_649 ?_
      have hm := hm.2
      refine lv_iload hx hb dL_law_650 (lv_at hl 0 rfl) ?_
      refine lv_i2l (v := r_626.toInt64) hx hb dL_law_652 rfl ?_
      refine W.lcmp hx hb dL_law_653 ?_
      refine lv_if_eq (tgt := 659) hx hb dL_law_654 (by decide) (fun c_654 => ?_) (fun c_654 => ?_)
      · have hm := hm.1 c_654
        refine lv_goto (tgt := 1346) hx hb dL_law_659 (by decide) ?_
        exact hback _ _ _ _ _ ap_608 bp_608 rp_608 C_608 T_608 G_608 P_608 Y_608 L_608 B_608 X_608 S_626 O N_626 V J U hm hT (lv_sub hl [2, 3, 4, 5, 6] rfl) (by omega) (by omega)
      · have hm := hm.2 c_654
        refine lv_iconst (v := 0) hx hb dL_law_657 (by decide) ?_
        exact hm.elim
  · have hm := hm.2 c_637
    refine lv_iconst (v := 0) hx hb dL_law_640 (by decide) ?_
    exact hm.elim
def wp_op_crew (q : Nat → Nat) (ap : Nat) (bp : Nat) (rp : Nat) (C : M2) (T : M2) (G : M2) (P : M2) (Y : M2) (L : L2) (B : M2) (X : L2) (S : M2) (O : M2) (N : M2) (V : M2) (J : M2) (U : M2) (y1 : Int32) (y2 : Int32) (K : Nat → Nat → Nat → M2 → M2 → M2 → M2 → M2 → L2 → M2 → L2 → M2 → M2 → M2 → M2 → M2 → M2 → Prop) : Prop := wp_L_crew q ap bp rp C T G P Y L B X y1 y2 (fun r_676 ap_676 bp_676 rp_676 C_676 T_676 G_676 P_676 Y_676 L_676 B_676 X_676 => wp_X8_crew U S N y1 y2 (fun r_694 S_694 N_694 => wp_X8_thrown U S_694 N_694 (fun r_700 => ((r_700 = r_676 → ((¬ r_676 = 0 → K ap_676 bp_676 rp_676 C_676 T_676 G_676 P_676 Y_676 L_676 B_676 X_676 S_694 O N_694 V J U) ∧ (r_676 = 0 → (inb 0 1 ∧ (((lg_cmp (X_676 500 (0 : Int32).toInt.toNat) r_694.toInt64) = 0 → K ap_676 bp_676 rp_676 C_676 T_676 G_676 P_676 Y_676 L_676 B_676 X_676 S_694 O N_694 V J U) ∧ (¬ (lg_cmp (X_676 500 (0 : Int32).toInt.toNat) r_694.toInt64) = 0 → False)))))) ∧ (¬ r_700 = r_676 → False)))))
set_option maxRecDepth 100000 in
set_option maxHeartbeats 4000000 in
theorem t_op_crew {p : Program} {l : Launch} {e : Env} {s : State} {m : MethodId} {args : Array Value} {below : List Frame} {meth : Method} {c : Code} {Q : State → Prop} {A : Nat → Prop} {D : va_G} {rx : Nat → Nat} {Z : Nat → ClassId} {a t b q q2 : Nat → Nat} {ow : Nat} {ma mb mq mg : Nat → Nat} {mr : Nat} {ap : Nat} {bp : Nat} {rp : Nat} {C : M2} {T : M2} {G : M2} {P : M2} {Y : M2} {L : L2} {B : M2} {X : L2} {S : M2} {O : M2} {N : M2} {V : M2} {J : M2} {U : M2} {scr Ln cc cs : Nat} {xs : Nat → Int32} {v4 y1 y2 : Int32} {K : Nat → Nat → Nat → M2 → M2 → M2 → M2 → M2 → L2 → M2 → L2 → M2 → M2 → M2 → M2 → M2 → M2 → Prop} {H : Heap} {locs : List Loc} {ls : Array Slot} (hC : CallFix p m c code 9 s args lw_g RL) (hN : NW s) (hfl : l.stackTraces = false) (hR : RXD rx A s s.heap) (hK : va_K D vwCl (tysG Z) s) (hX : va_X scr Ln xs s s.heap) (hbl : scr < s.heap.size) (hbA : ¬ A scr) (hi1 : vp_in (v4 + 1) Ln) (hi2 : vp_in (v4 + 2) Ln) (e1 : xs (v4 + 1).toNatClampNeg = y1) (e2 : xs (v4 + 2).toNatClampNeg = y2) (hT : TS vwCl D (LW Z a t b q q2 ow ma mb mq mg mr ap bp rp C T G P Y L B X S O N V J U) A s.heap H locs) (hcb : cc + 400 ≤ 601024 ∧ cs + 4000 ≤ 7293034) (hm : wp_op_crew q ap bp rp C T G P Y L B X S O N V J U y1 y2 K) (hback : ∀ (H : Heap) (locs : List Loc) (ls : Array Slot) (cc1 cs1 : Nat) (ap1 : Nat) (bp1 : Nat) (rp1 : Nat) (C1 : M2) (T1 : M2) (G1 : M2) (P1 : M2) (Y1 : M2) (L1 : L2) (B1 : M2) (X1 : L2) (S1 : M2) (O1 : M2) (N1 : M2) (V1 : M2) (J1 : M2) (U1 : M2), K ap1 bp1 rp1 C1 T1 G1 P1 Y1 L1 B1 X1 S1 O1 N1 V1 J1 U1 → TS vwCl D (LW Z a t b q q2 ow ma mb mq mg mr ap1 bp1 rp1 C1 T1 G1 P1 Y1 L1 B1 X1 S1 O1 N1 V1 J1 U1) A s.heap H locs → lv_has ls 9 [(0, .ref scr), (1, .ref (a 90)), (2, .ref (mg 220)), (3, .ref (ow)), (4, .int v4)] → cc1 ≤ cc + 400 → cs1 ≤ cs + 4000 → W p l e (rk 2048 601024 7293034) s m args below meth c H locs cc1 cs1 Q (F0 m 1346 ls [])) (hl : lv_has ls 9 [(0, .ref scr), (1, .ref (a 90)), (2, .ref (mg 220)), (3, .ref (ow)), (4, .int v4)]) : W p l e (rk 2048 601024 7293034) s m args below meth c H locs cc cs Q (F0 m 662 ls []) := by
  have hx := hC.1
  have hb := hC.2.1
  refine lv_aload_n hx hb dL_law_662 rfl (lv_at hl 1 rfl) ?_
  refine lv_aload_n hx hb dL_law_663 rfl (lv_at hl 0 rfl) ?_
  refine lv_iload hx hb dL_law_664 (lv_at hl 4 rfl) ?_
  refine lv_iconst (v := 1) hx hb dL_law_666 (by decide) ?_
  refine lv_iadd hx hb dL_law_667 ?_
  refine va_sld hx hb hX hbl hbA hT.2.2.1 hi1 dL_law_668 ?_
  rw [e1]
  refine lv_aload_n hx hb dL_law_669 rfl (lv_at hl 0 rfl) ?_
  refine lv_iload hx hb dL_law_670 (lv_at hl 4 rfl) ?_
  refine lv_iconst (v := 2) hx hb dL_law_672 (by decide) ?_
  refine lv_iadd hx hb dL_law_673 ?_
  refine va_sld hx hb hX hbl hbA hT.2.2.1 hi2 dL_law_674 ?_
  rw [e2]
  refine lv_aload_n hx hb dL_law_675 rfl (lv_at hl 3 rfl) ?_
  refine kl_L_crew (rx := rx) hC hN hfl (hT.rxd hR) hK hT (cx_LXLW Z a t b q q2 ow ma mb mq mg mr ap bp rp C T G P Y L B X S O N V J U) rfl hm wq_1021 (by decide) hl.1 (Nat.le_of_ble_eq_true rfl) ⟨by omega, by omega⟩ dL_law_676 (fun r_676 ap_676 bp_676 rp_676 C_676 T_676 G_676 P_676 Y_676 L_676 B_676 X_676 H locs hm hT => ?_)
  have hT : TS vwCl D (LW Z a t b q q2 ow ma mb mq mg mr ap_676 bp_676 rp_676 C_676 T_676 G_676 P_676 Y_676 L_676 B_676 X_676 S O N V J U) A s.heap H locs := hT
  refine lv_istore (lv' := [(5, .int r_676), (0, .ref scr), (1, .ref (a 90)), (2, .ref (mg 220)), (3, .ref (ow)), (4, .int v4)]) hx hb dL_law_679 hl (by decide) rfl (fun ls hl => ?_)
  refine lv_aload_n hx hb dL_law_681 rfl (lv_at hl 3 rfl) ?_
  refine lv_aload_n hx hb dL_law_682 rfl (lv_at hl 1 rfl) ?_
  refine lv_iload hx hb dL_law_683 (lv_at hl 5 rfl) ?_
  refine lv_iconst (v := 1) hx hb dL_law_685 (by decide) ?_
  refine lv_iadd hx hb dL_law_686 ?_
  refine va_sld hx hb hX hbl hbA hT.2.2.1 hi1 dL_law_687 ?_
  rw [e1]
  refine lv_aload_n hx hb dL_law_688 rfl (lv_at hl 1 rfl) ?_
  refine lv_iload hx hb dL_law_689 (lv_at hl 5 rfl) ?_
  refine lv_iconst (v := 2) hx hb dL_law_691 (by decide) ?_
  refine lv_iadd hx hb dL_law_692 ?_
  refine va_sld hx hb hX hbl hbA hT.2.2.1 hi2 dL_law_693 ?_
  rw [e2]
  refine kx_X8_crew hC hN hK hT (cx_QWLW Z a t b q q2 ow ma mb mq mg mr ap_676 bp_676 rp_676 C_676 T_676 G_676 P_676 Y_676 L_676 B_676 X_676 S O N V J U) rfl hm wq_1797 (by decide) hl.1 (Nat.le_of_ble_eq_true rfl) ⟨by omega, by omega⟩ dL_law_694 (fun r_694 S_694 N_694 H locs hm hT => ?_)
  have hT : TS vwCl D (LW Z a t b q q2 ow ma mb mq mg mr ap_676 bp_676 rp_676 C_676 T_676 G_676 P_676 Y_676 L_676 B_676 X_676 S_694 O N_694 V J U) A s.heap H locs := hT
  refine lv_istore (lv' := [(6, .int r_694), (5, .int r_676), (0, .ref scr), (1, .ref (a 90)), (2, .ref (mg 220)), (3, .ref (ow)), (4, .int v4)]) hx hb dL_law_697 hl (by decide) rfl (fun ls hl => ?_)
  refine lv_aload_n hx hb dL_law_699 rfl (lv_at hl 4 rfl) ?_
  refine kx_X8_thrown hC hN hK hT.1 hT.D' (sx_QWLW Z a t b q q2 ow ma mb mq mg mr ap_676 bp_676 rp_676 C_676 T_676 G_676 P_676 Y_676 L_676 B_676 X_676 S_694 O N_694 V J U) rfl hm wq_1466 (by decide) hl.1 (Nat.le_of_ble_eq_true rfl) ⟨by omega, by omega⟩ dL_law_700 (fun r_700 hm => ?_)
  refine lv_iload hx hb dL_law_703 (lv_at hl 1 rfl) ?_
  refine lv_icmp_eq (tgt := 710) hx hb dL_law_705 (by decide) (fun c_705 => ?_) (fun c_705 => ?_)
  · have hm := hm.1 c_705
    refine lv_iload hx hb dL_law_710 (lv_at hl 1 rfl) ?_
    refine lv_if_ne (tgt := 727) hx hb dL_law_712 (by decide) (fun c_712 => ?_) (fun c_712 => ?_)
    · have hm := hm.1 c_712
      refine lv_goto (tgt := 1346) hx hb dL_law_727 (by decide) ?_
      exact hback _ _ _ _ _ ap_676 bp_676 rp_676 C_676 T_676 G_676 P_676 Y_676 L_676 B_676 X_676 S_694 O N_694 V J U hm hT (lv_sub hl [2, 3, 4, 5, 6] rfl) (by omega) (by omega)
    · have hm := hm.2 c_712
      refine lv_aload_n hx hb dL_law_715 rfl (lv_at hl 5 rfl) ?_
      refine lv_iconst (v := 0) hx hb dL_law_716 (by decide) ?_
      refine w_lald (q0 := 79) hC hK hT.1 rfl hm.1 dL_law_717 ?_
      have hm := hm.2
      refine lv_iload hx hb dL_law_718 (lv_at hl 0 rfl) ?_
      refine lv_i2l (v := r_694.toInt64) hx hb dL_law_720 rfl ?_
      refine W.lcmp hx hb dL_law_721 ?_
      refine lv_if_eq (tgt := 727) hx hb dL_law_722 (by decide) (fun c_722 => ?_) (fun c_722 => ?_)
      · have hm := hm.1 c_722
        refine lv_goto (tgt := 1346) hx hb dL_law_727 (by decide) ?_
        exact hback _ _ _ _ _ ap_676 bp_676 rp_676 C_676 T_676 G_676 P_676 Y_676 L_676 B_676 X_676 S_694 O N_694 V J U hm hT (lv_sub hl [2, 3, 4, 5, 6] rfl) (by omega) (by omega)
      · have hm := hm.2 c_722
        refine lv_iconst (v := 0) hx hb dL_law_725 (by decide) ?_
        exact hm.elim
  · have hm := hm.2 c_705
    refine lv_iconst (v := 0) hx hb dL_law_708 (by decide) ?_
    exact hm.elim
def wp_op_canEnter (q : Nat → Nat) (ap : Nat) (bp : Nat) (rp : Nat) (C : M2) (T : M2) (G : M2) (P : M2) (Y : M2) (L : L2) (B : M2) (X : L2) (S : M2) (O : M2) (N : M2) (V : M2) (J : M2) (U : M2) (y1 : Int32) (K : Nat → Nat → Nat → M2 → M2 → M2 → M2 → M2 → L2 → M2 → L2 → M2 → M2 → M2 → M2 → M2 → M2 → Prop) : Prop := wp_L_canEnter q ap bp rp C T G P Y L B X y1 (fun r_738 ap_738 bp_738 rp_738 C_738 T_738 G_738 P_738 Y_738 L_738 B_738 X_738 => wp_X8_canEnter U S N y1 (fun r_750 S_750 N_750 => wp_X8_thrown U S_750 N_750 (fun r_756 => ((r_756 = r_738 → ((¬ r_738 = 0 → K ap_738 bp_738 rp_738 C_738 T_738 G_738 P_738 Y_738 L_738 B_738 X_738 S_750 O N_750 V J U) ∧ (r_738 = 0 → (inb 0 1 ∧ ((r_750 = 0 → (((lg_cmp (X_738 500 (0 : Int32).toInt.toNat) 0) = 0 → K ap_738 bp_738 rp_738 C_738 T_738 G_738 P_738 Y_738 L_738 B_738 X_738 S_750 O N_750 V J U) ∧ (¬ (lg_cmp (X_738 500 (0 : Int32).toInt.toNat) 0) = 0 → False))) ∧ (¬ r_750 = 0 → (((lg_cmp (X_738 500 (0 : Int32).toInt.toNat) 1) = 0 → K ap_738 bp_738 rp_738 C_738 T_738 G_738 P_738 Y_738 L_738 B_738 X_738 S_750 O N_750 V J U) ∧ (¬ (lg_cmp (X_738 500 (0 : Int32).toInt.toNat) 1) = 0 → False)))))))) ∧ (¬ r_756 = r_738 → False)))))
set_option maxRecDepth 100000 in
set_option maxHeartbeats 4000000 in
theorem t_op_canEnter {p : Program} {l : Launch} {e : Env} {s : State} {m : MethodId} {args : Array Value} {below : List Frame} {meth : Method} {c : Code} {Q : State → Prop} {A : Nat → Prop} {D : va_G} {rx : Nat → Nat} {Z : Nat → ClassId} {a t b q q2 : Nat → Nat} {ow : Nat} {ma mb mq mg : Nat → Nat} {mr : Nat} {ap : Nat} {bp : Nat} {rp : Nat} {C : M2} {T : M2} {G : M2} {P : M2} {Y : M2} {L : L2} {B : M2} {X : L2} {S : M2} {O : M2} {N : M2} {V : M2} {J : M2} {U : M2} {scr Ln cc cs : Nat} {xs : Nat → Int32} {v4 y1 : Int32} {K : Nat → Nat → Nat → M2 → M2 → M2 → M2 → M2 → L2 → M2 → L2 → M2 → M2 → M2 → M2 → M2 → M2 → Prop} {H : Heap} {locs : List Loc} {ls : Array Slot} (hC : CallFix p m c code 9 s args lw_g RL) (hN : NW s) (hfl : l.stackTraces = false) (hR : RXD rx A s s.heap) (hK : va_K D vwCl (tysG Z) s) (hX : va_X scr Ln xs s s.heap) (hbl : scr < s.heap.size) (hbA : ¬ A scr) (hi1 : vp_in (v4 + 1) Ln) (e1 : xs (v4 + 1).toNatClampNeg = y1) (hT : TS vwCl D (LW Z a t b q q2 ow ma mb mq mg mr ap bp rp C T G P Y L B X S O N V J U) A s.heap H locs) (hcb : cc + 400 ≤ 601024 ∧ cs + 4000 ≤ 7293034) (hm : wp_op_canEnter q ap bp rp C T G P Y L B X S O N V J U y1 K) (hback : ∀ (H : Heap) (locs : List Loc) (ls : Array Slot) (cc1 cs1 : Nat) (ap1 : Nat) (bp1 : Nat) (rp1 : Nat) (C1 : M2) (T1 : M2) (G1 : M2) (P1 : M2) (Y1 : M2) (L1 : L2) (B1 : M2) (X1 : L2) (S1 : M2) (O1 : M2) (N1 : M2) (V1 : M2) (J1 : M2) (U1 : M2), K ap1 bp1 rp1 C1 T1 G1 P1 Y1 L1 B1 X1 S1 O1 N1 V1 J1 U1 → TS vwCl D (LW Z a t b q q2 ow ma mb mq mg mr ap1 bp1 rp1 C1 T1 G1 P1 Y1 L1 B1 X1 S1 O1 N1 V1 J1 U1) A s.heap H locs → lv_has ls 9 [(0, .ref scr), (1, .ref (a 90)), (2, .ref (mg 220)), (3, .ref (ow)), (4, .int v4)] → cc1 ≤ cc + 400 → cs1 ≤ cs + 4000 → W p l e (rk 2048 601024 7293034) s m args below meth c H locs cc1 cs1 Q (F0 m 1346 ls [])) (hl : lv_has ls 9 [(0, .ref scr), (1, .ref (a 90)), (2, .ref (mg 220)), (3, .ref (ow)), (4, .int v4)]) : W p l e (rk 2048 601024 7293034) s m args below meth c H locs cc cs Q (F0 m 730 ls []) := by
  have hx := hC.1
  have hb := hC.2.1
  refine lv_aload_n hx hb dL_law_730 rfl (lv_at hl 1 rfl) ?_
  refine lv_aload_n hx hb dL_law_731 rfl (lv_at hl 0 rfl) ?_
  refine lv_iload hx hb dL_law_732 (lv_at hl 4 rfl) ?_
  refine lv_iconst (v := 1) hx hb dL_law_734 (by decide) ?_
  refine lv_iadd hx hb dL_law_735 ?_
  refine va_sld hx hb hX hbl hbA hT.2.2.1 hi1 dL_law_736 ?_
  rw [e1]
  refine lv_aload_n hx hb dL_law_737 rfl (lv_at hl 3 rfl) ?_
  refine kl_L_canEnter (rx := rx) hC hN hfl (hT.rxd hR) hK hT (cx_LXLW Z a t b q q2 ow ma mb mq mg mr ap bp rp C T G P Y L B X S O N V J U) rfl hm wq_1025 (by decide) hl.1 (Nat.le_of_ble_eq_true rfl) ⟨by omega, by omega⟩ dL_law_738 (fun r_738 ap_738 bp_738 rp_738 C_738 T_738 G_738 P_738 Y_738 L_738 B_738 X_738 H locs hm hT => ?_)
  have hT : TS vwCl D (LW Z a t b q q2 ow ma mb mq mg mr ap_738 bp_738 rp_738 C_738 T_738 G_738 P_738 Y_738 L_738 B_738 X_738 S O N V J U) A s.heap H locs := hT
  refine lv_istore (lv' := [(5, .int r_738), (0, .ref scr), (1, .ref (a 90)), (2, .ref (mg 220)), (3, .ref (ow)), (4, .int v4)]) hx hb dL_law_741 hl (by decide) rfl (fun ls hl => ?_)
  refine lv_aload_n hx hb dL_law_743 rfl (lv_at hl 3 rfl) ?_
  refine lv_aload_n hx hb dL_law_744 rfl (lv_at hl 1 rfl) ?_
  refine lv_iload hx hb dL_law_745 (lv_at hl 5 rfl) ?_
  refine lv_iconst (v := 1) hx hb dL_law_747 (by decide) ?_
  refine lv_iadd hx hb dL_law_748 ?_
  refine va_sld hx hb hX hbl hbA hT.2.2.1 hi1 dL_law_749 ?_
  rw [e1]
  refine kx_X8_canEnter hC hN hK hT (cx_QWLW Z a t b q q2 ow ma mb mq mg mr ap_738 bp_738 rp_738 C_738 T_738 G_738 P_738 Y_738 L_738 B_738 X_738 S O N V J U) rfl hm wq_1801 (by decide) hl.1 (Nat.le_of_ble_eq_true rfl) ⟨by omega, by omega⟩ dL_law_750 (fun r_750 S_750 N_750 H locs hm hT => ?_)
  have hT : TS vwCl D (LW Z a t b q q2 ow ma mb mq mg mr ap_738 bp_738 rp_738 C_738 T_738 G_738 P_738 Y_738 L_738 B_738 X_738 S_750 O N_750 V J U) A s.heap H locs := hT
  refine lv_istore (lv' := [(6, .int r_750), (5, .int r_738), (0, .ref scr), (1, .ref (a 90)), (2, .ref (mg 220)), (3, .ref (ow)), (4, .int v4)]) hx hb dL_law_753 hl (by decide) rfl (fun ls hl => ?_)
  refine lv_aload_n hx hb dL_law_755 rfl (lv_at hl 4 rfl) ?_
  refine kx_X8_thrown hC hN hK hT.1 hT.D' (sx_QWLW Z a t b q q2 ow ma mb mq mg mr ap_738 bp_738 rp_738 C_738 T_738 G_738 P_738 Y_738 L_738 B_738 X_738 S_750 O N_750 V J U) rfl hm wq_1466 (by decide) hl.1 (Nat.le_of_ble_eq_true rfl) ⟨by omega, by omega⟩ dL_law_756 (fun r_756 hm => ?_)
  refine lv_iload hx hb dL_law_759 (lv_at hl 1 rfl) ?_
  refine lv_icmp_eq (tgt := 766) hx hb dL_law_761 (by decide) (fun c_761 => ?_) (fun c_761 => ?_)
  · have hm := hm.1 c_761
    refine lv_iload hx hb dL_law_766 (lv_at hl 1 rfl) ?_
    refine lv_if_ne (tgt := 790) hx hb dL_law_768 (by decide) (fun c_768 => ?_) (fun c_768 => ?_)
    · have hm := hm.1 c_768
      refine lv_goto (tgt := 1346) hx hb dL_law_790 (by decide) ?_
      exact hback _ _ _ _ _ ap_738 bp_738 rp_738 C_738 T_738 G_738 P_738 Y_738 L_738 B_738 X_738 S_750 O N_750 V J U hm hT (lv_sub hl [2, 3, 4, 5, 6] rfl) (by omega) (by omega)
    · have hm := hm.2 c_768
      refine lv_aload_n hx hb dL_law_771 rfl (lv_at hl 5 rfl) ?_
      refine lv_iconst (v := 0) hx hb dL_law_772 (by decide) ?_
      refine w_lald (q0 := 79) hC hK hT.1 rfl hm.1 dL_law_773 ?_
      have hm := hm.2
      refine lv_iload hx hb dL_law_774 (lv_at hl 0 rfl) ?_
      refine lv_if_eq (tgt := 783) hx hb dL_law_776 (by decide) (fun c_776 => ?_) (fun c_776 => ?_)
      · have hm := hm.1 c_776
        refine lv_lconst (v := 0) hx hb dL_law_783 (by decide) ?_
        refine W.lcmp hx hb dL_law_784 ?_
        refine lv_if_eq (tgt := 790) hx hb dL_law_785 (by decide) (fun c_785 => ?_) (fun c_785 => ?_)
        · have hm := hm.1 c_785
          refine lv_goto (tgt := 1346) hx hb dL_law_790 (by decide) ?_
          exact hback _ _ _ _ _ ap_738 bp_738 rp_738 C_738 T_738 G_738 P_738 Y_738 L_738 B_738 X_738 S_750 O N_750 V J U hm hT (lv_sub hl [2, 3, 4, 5, 6] rfl) (by omega) (by omega)
        · have hm := hm.2 c_785
          refine lv_iconst (v := 0) hx hb dL_law_788 (by decide) ?_
          exact hm.elim
      · have hm := hm.2 c_776
        refine lv_lconst (v := 1) hx hb dL_law_779 (by decide) ?_
        refine lv_goto (tgt := 784) hx hb dL_law_780 (by decide) ?_
        refine W.lcmp hx hb dL_law_784 ?_
        refine lv_if_eq (tgt := 790) hx hb dL_law_785 (by decide) (fun c_785 => ?_) (fun c_785 => ?_)
        · have hm := hm.1 c_785
          refine lv_goto (tgt := 1346) hx hb dL_law_790 (by decide) ?_
          exact hback _ _ _ _ _ ap_738 bp_738 rp_738 C_738 T_738 G_738 P_738 Y_738 L_738 B_738 X_738 S_750 O N_750 V J U hm hT (lv_sub hl [2, 3, 4, 5, 6] rfl) (by omega) (by omega)
        · have hm := hm.2 c_785
          refine lv_iconst (v := 0) hx hb dL_law_788 (by decide) ?_
          exact hm.elim
  · have hm := hm.2 c_761
    refine lv_iconst (v := 0) hx hb dL_law_764 (by decide) ?_
    exact hm.elim
def wp_op_worst (q : Nat → Nat) (ap : Nat) (bp : Nat) (rp : Nat) (C : M2) (T : M2) (G : M2) (P : M2) (Y : M2) (L : L2) (B : M2) (X : L2) (S : M2) (O : M2) (N : M2) (V : M2) (J : M2) (U : M2) (K : Nat → Nat → Nat → M2 → M2 → M2 → M2 → M2 → L2 → M2 → L2 → M2 → M2 → M2 → M2 → M2 → M2 → Prop) : Prop := wp_X5_worst P T C (fun r_794 => wp_X8_worst U S N (fun r_798 S_798 N_798 => ((r_794 = r_798 → K ap bp rp C T G P Y L B X S_798 O N_798 V J U) ∧ (¬ r_794 = r_798 → False))))
set_option maxRecDepth 100000 in
set_option maxHeartbeats 4000000 in
theorem t_op_worst {p : Program} {l : Launch} {e : Env} {s : State} {m : MethodId} {args : Array Value} {below : List Frame} {meth : Method} {c : Code} {Q : State → Prop} {A : Nat → Prop} {D : va_G} {rx : Nat → Nat} {Z : Nat → ClassId} {a t b q q2 : Nat → Nat} {ow : Nat} {ma mb mq mg : Nat → Nat} {mr : Nat} {ap : Nat} {bp : Nat} {rp : Nat} {C : M2} {T : M2} {G : M2} {P : M2} {Y : M2} {L : L2} {B : M2} {X : L2} {S : M2} {O : M2} {N : M2} {V : M2} {J : M2} {U : M2} {scr Ln cc cs : Nat} {xs : Nat → Int32} {v4 : Int32} {K : Nat → Nat → Nat → M2 → M2 → M2 → M2 → M2 → L2 → M2 → L2 → M2 → M2 → M2 → M2 → M2 → M2 → Prop} {H : Heap} {locs : List Loc} {ls : Array Slot} (hC : CallFix p m c code 9 s args lw_g RL) (hN : NW s) (hfl : l.stackTraces = false) (hR : RXD rx A s s.heap) (hK : va_K D vwCl (tysG Z) s) (hX : va_X scr Ln xs s s.heap) (hbl : scr < s.heap.size) (hbA : ¬ A scr) (hT : TS vwCl D (LW Z a t b q q2 ow ma mb mq mg mr ap bp rp C T G P Y L B X S O N V J U) A s.heap H locs) (hcb : cc + 400 ≤ 601024 ∧ cs + 4000 ≤ 7293034) (hm : wp_op_worst q ap bp rp C T G P Y L B X S O N V J U K) (hback : ∀ (H : Heap) (locs : List Loc) (ls : Array Slot) (cc1 cs1 : Nat) (ap1 : Nat) (bp1 : Nat) (rp1 : Nat) (C1 : M2) (T1 : M2) (G1 : M2) (P1 : M2) (Y1 : M2) (L1 : L2) (B1 : M2) (X1 : L2) (S1 : M2) (O1 : M2) (N1 : M2) (V1 : M2) (J1 : M2) (U1 : M2), K ap1 bp1 rp1 C1 T1 G1 P1 Y1 L1 B1 X1 S1 O1 N1 V1 J1 U1 → TS vwCl D (LW Z a t b q q2 ow ma mb mq mg mr ap1 bp1 rp1 C1 T1 G1 P1 Y1 L1 B1 X1 S1 O1 N1 V1 J1 U1) A s.heap H locs → lv_has ls 9 [(0, .ref scr), (1, .ref (a 90)), (2, .ref (mg 220)), (3, .ref (ow)), (4, .int v4)] → cc1 ≤ cc + 400 → cs1 ≤ cs + 4000 → W p l e (rk 2048 601024 7293034) s m args below meth c H locs cc1 cs1 Q (F0 m 1346 ls [])) (hl : lv_has ls 9 [(0, .ref scr), (1, .ref (a 90)), (2, .ref (mg 220)), (3, .ref (ow)), (4, .int v4)]) : W p l e (rk 2048 601024 7293034) s m args below meth c H locs cc cs Q (F0 m 793 ls []) := by
  have hx := hC.1
  have hb := hC.2.1
  refine lv_aload_n hx hb dL_law_793 rfl (lv_at hl 1 rfl) ?_
  refine kx_X5_worst hC hN hK hT.1 hT.D' (sx_CQLW Z a t b q q2 ow ma mb mq mg mr ap bp rp C T G P Y L B X S O N V J U) rfl hm wq_792 (by decide) hl.1 (Nat.le_of_ble_eq_true rfl) ⟨by omega, by omega⟩ dL_law_794 (fun r_794 hm => ?_)
  refine lv_aload_n hx hb dL_law_797 rfl (lv_at hl 2 rfl) ?_
  refine kx_X8_worst hC hN hK hT (cx_QWLW Z a t b q q2 ow ma mb mq mg mr ap bp rp C T G P Y L B X S O N V J U) rfl hm wq_1850 (by decide) hl.1 (Nat.le_of_ble_eq_true rfl) ⟨by omega, by omega⟩ dL_law_798 (fun r_798 S_798 N_798 H locs hm hT => ?_)
  have hT : TS vwCl D (LW Z a t b q q2 ow ma mb mq mg mr ap bp rp C T G P Y L B X S_798 O N_798 V J U) A s.heap H locs := hT
  refine lv_icmp_eq (tgt := 1346) hx hb dL_law_801 (by decide) (fun c_801 => ?_) (fun c_801 => ?_)
  · have hm := hm.1 c_801
    exact hback _ _ _ _ _ ap bp rp C T G P Y L B X S_798 O N_798 V J U hm hT (lv_sub hl [0, 1, 2, 3, 4] rfl) (by omega) (by omega)
  · have hm := hm.2 c_801
    refine lv_iconst (v := 0) hx hb dL_law_804 (by decide) ?_
    exact hm.elim
def wp_op_whistle (q : Nat → Nat) (ap : Nat) (bp : Nat) (rp : Nat) (C : M2) (T : M2) (G : M2) (P : M2) (Y : M2) (L : L2) (B : M2) (X : L2) (S : M2) (O : M2) (N : M2) (V : M2) (J : M2) (U : M2) (y1 : Int32) (K : Nat → Nat → Nat → M2 → M2 → M2 → M2 → M2 → L2 → M2 → L2 → M2 → M2 → M2 → M2 → M2 → M2 → Prop) : Prop := wp_L_whistle q ap bp rp C T G P Y L B X y1 (fun r_814 ap_814 bp_814 rp_814 C_814 T_814 G_814 P_814 Y_814 L_814 B_814 X_814 => wp_X8_whistle U S N y1 (fun r_826 S_826 N_826 => wp_X8_thrown U S_826 N_826 (fun r_832 => ((r_832 = r_814 → ((¬ r_814 = 0 → K ap_814 bp_814 rp_814 C_814 T_814 G_814 P_814 Y_814 L_814 B_814 X_814 S_826 O N_826 V J U) ∧ (r_814 = 0 → (inb 0 1 ∧ (((lg_cmp (X_814 500 (0 : Int32).toInt.toNat) r_826.toInt64) = 0 → K ap_814 bp_814 rp_814 C_814 T_814 G_814 P_814 Y_814 L_814 B_814 X_814 S_826 O N_826 V J U) ∧ (¬ (lg_cmp (X_814 500 (0 : Int32).toInt.toNat) r_826.toInt64) = 0 → False)))))) ∧ (¬ r_832 = r_814 → False)))))
set_option maxRecDepth 100000 in
set_option maxHeartbeats 4000000 in
theorem t_op_whistle {p : Program} {l : Launch} {e : Env} {s : State} {m : MethodId} {args : Array Value} {below : List Frame} {meth : Method} {c : Code} {Q : State → Prop} {A : Nat → Prop} {D : va_G} {rx : Nat → Nat} {Z : Nat → ClassId} {a t b q q2 : Nat → Nat} {ow : Nat} {ma mb mq mg : Nat → Nat} {mr : Nat} {ap : Nat} {bp : Nat} {rp : Nat} {C : M2} {T : M2} {G : M2} {P : M2} {Y : M2} {L : L2} {B : M2} {X : L2} {S : M2} {O : M2} {N : M2} {V : M2} {J : M2} {U : M2} {scr Ln cc cs : Nat} {xs : Nat → Int32} {v4 y1 : Int32} {K : Nat → Nat → Nat → M2 → M2 → M2 → M2 → M2 → L2 → M2 → L2 → M2 → M2 → M2 → M2 → M2 → M2 → Prop} {H : Heap} {locs : List Loc} {ls : Array Slot} (hC : CallFix p m c code 9 s args lw_g RL) (hN : NW s) (hfl : l.stackTraces = false) (hR : RXD rx A s s.heap) (hK : va_K D vwCl (tysG Z) s) (hX : va_X scr Ln xs s s.heap) (hbl : scr < s.heap.size) (hbA : ¬ A scr) (hi1 : vp_in (v4 + 1) Ln) (e1 : xs (v4 + 1).toNatClampNeg = y1) (hT : TS vwCl D (LW Z a t b q q2 ow ma mb mq mg mr ap bp rp C T G P Y L B X S O N V J U) A s.heap H locs) (hcb : cc + 400 ≤ 601024 ∧ cs + 4000 ≤ 7293034) (hm : wp_op_whistle q ap bp rp C T G P Y L B X S O N V J U y1 K) (hback : ∀ (H : Heap) (locs : List Loc) (ls : Array Slot) (cc1 cs1 : Nat) (ap1 : Nat) (bp1 : Nat) (rp1 : Nat) (C1 : M2) (T1 : M2) (G1 : M2) (P1 : M2) (Y1 : M2) (L1 : L2) (B1 : M2) (X1 : L2) (S1 : M2) (O1 : M2) (N1 : M2) (V1 : M2) (J1 : M2) (U1 : M2), K ap1 bp1 rp1 C1 T1 G1 P1 Y1 L1 B1 X1 S1 O1 N1 V1 J1 U1 → TS vwCl D (LW Z a t b q q2 ow ma mb mq mg mr ap1 bp1 rp1 C1 T1 G1 P1 Y1 L1 B1 X1 S1 O1 N1 V1 J1 U1) A s.heap H locs → lv_has ls 9 [(0, .ref scr), (1, .ref (a 90)), (2, .ref (mg 220)), (3, .ref (ow)), (4, .int v4)] → cc1 ≤ cc + 400 → cs1 ≤ cs + 4000 → W p l e (rk 2048 601024 7293034) s m args below meth c H locs cc1 cs1 Q (F0 m 1346 ls [])) (hl : lv_has ls 9 [(0, .ref scr), (1, .ref (a 90)), (2, .ref (mg 220)), (3, .ref (ow)), (4, .int v4)]) : W p l e (rk 2048 601024 7293034) s m args below meth c H locs cc cs Q (F0 m 806 ls []) := by
  have hx := hC.1
  have hb := hC.2.1
  refine lv_aload_n hx hb dL_law_806 rfl (lv_at hl 1 rfl) ?_
  refine lv_aload_n hx hb dL_law_807 rfl (lv_at hl 0 rfl) ?_
  refine lv_iload hx hb dL_law_808 (lv_at hl 4 rfl) ?_
  refine lv_iconst (v := 1) hx hb dL_law_810 (by decide) ?_
  refine lv_iadd hx hb dL_law_811 ?_
  refine va_sld hx hb hX hbl hbA hT.2.2.1 hi1 dL_law_812 ?_
  rw [e1]
  refine lv_aload_n hx hb dL_law_813 rfl (lv_at hl 3 rfl) ?_
  refine kl_L_whistle (rx := rx) hC hN hfl (hT.rxd hR) hK hT (cx_LXLW Z a t b q q2 ow ma mb mq mg mr ap bp rp C T G P Y L B X S O N V J U) rfl hm wq_1081 (by decide) hl.1 (Nat.le_of_ble_eq_true rfl) ⟨by omega, by omega⟩ dL_law_814 (fun r_814 ap_814 bp_814 rp_814 C_814 T_814 G_814 P_814 Y_814 L_814 B_814 X_814 H locs hm hT => ?_)
  have hT : TS vwCl D (LW Z a t b q q2 ow ma mb mq mg mr ap_814 bp_814 rp_814 C_814 T_814 G_814 P_814 Y_814 L_814 B_814 X_814 S O N V J U) A s.heap H locs := hT
  refine lv_istore (lv' := [(5, .int r_814), (0, .ref scr), (1, .ref (a 90)), (2, .ref (mg 220)), (3, .ref (ow)), (4, .int v4)]) hx hb dL_law_817 hl (by decide) rfl (fun ls hl => ?_)
  refine lv_aload_n hx hb dL_law_819 rfl (lv_at hl 3 rfl) ?_
  refine lv_aload_n hx hb dL_law_820 rfl (lv_at hl 1 rfl) ?_
  refine lv_iload hx hb dL_law_821 (lv_at hl 5 rfl) ?_
  refine lv_iconst (v := 1) hx hb dL_law_823 (by decide) ?_
  refine lv_iadd hx hb dL_law_824 ?_
  refine va_sld hx hb hX hbl hbA hT.2.2.1 hi1 dL_law_825 ?_
  rw [e1]
  refine kx_X8_whistle hC hN hK hT (cx_QWLW Z a t b q q2 ow ma mb mq mg mr ap_814 bp_814 rp_814 C_814 T_814 G_814 P_814 Y_814 L_814 B_814 X_814 S O N V J U) rfl hm wq_1854 (by decide) hl.1 (Nat.le_of_ble_eq_true rfl) ⟨by omega, by omega⟩ dL_law_826 (fun r_826 S_826 N_826 H locs hm hT => ?_)
  have hT : TS vwCl D (LW Z a t b q q2 ow ma mb mq mg mr ap_814 bp_814 rp_814 C_814 T_814 G_814 P_814 Y_814 L_814 B_814 X_814 S_826 O N_826 V J U) A s.heap H locs := hT
  refine lv_istore (lv' := [(6, .int r_826), (5, .int r_814), (0, .ref scr), (1, .ref (a 90)), (2, .ref (mg 220)), (3, .ref (ow)), (4, .int v4)]) hx hb dL_law_829 hl (by decide) rfl (fun ls hl => ?_)
  refine lv_aload_n hx hb dL_law_831 rfl (lv_at hl 4 rfl) ?_
  refine kx_X8_thrown hC hN hK hT.1 hT.D' (sx_QWLW Z a t b q q2 ow ma mb mq mg mr ap_814 bp_814 rp_814 C_814 T_814 G_814 P_814 Y_814 L_814 B_814 X_814 S_826 O N_826 V J U) rfl hm wq_1466 (by decide) hl.1 (Nat.le_of_ble_eq_true rfl) ⟨by omega, by omega⟩ dL_law_832 (fun r_832 hm => ?_)
  refine lv_iload hx hb dL_law_835 (lv_at hl 1 rfl) ?_
  refine lv_icmp_eq (tgt := 842) hx hb dL_law_837 (by decide) (fun c_837 => ?_) (fun c_837 => ?_)
  · have hm := hm.1 c_837
    refine lv_iload hx hb dL_law_842 (lv_at hl 1 rfl) ?_
    refine lv_if_ne (tgt := 859) hx hb dL_law_844 (by decide) (fun c_844 => ?_) (fun c_844 => ?_)
    · have hm := hm.1 c_844
      refine lv_goto (tgt := 1346) hx hb dL_law_859 (by decide) ?_
      exact hback _ _ _ _ _ ap_814 bp_814 rp_814 C_814 T_814 G_814 P_814 Y_814 L_814 B_814 X_814 S_826 O N_826 V J U hm hT (lv_sub hl [2, 3, 4, 5, 6] rfl) (by omega) (by omega)
    · have hm := hm.2 c_844
      refine lv_aload_n hx hb dL_law_847 rfl (lv_at hl 5 rfl) ?_
      refine lv_iconst (v := 0) hx hb dL_law_848 (by decide) ?_
      refine w_lald (q0 := 79) hC hK hT.1 rfl hm.1 dL_law_849 ?_
      have hm := hm.2
      refine lv_iload hx hb dL_law_850 (lv_at hl 0 rfl) ?_
      refine lv_i2l (v := r_826.toInt64) hx hb dL_law_852 rfl ?_
      refine W.lcmp hx hb dL_law_853 ?_
      refine lv_if_eq (tgt := 859) hx hb dL_law_854 (by decide) (fun c_854 => ?_) (fun c_854 => ?_)
      · have hm := hm.1 c_854
        refine lv_goto (tgt := 1346) hx hb dL_law_859 (by decide) ?_
        exact hback _ _ _ _ _ ap_814 bp_814 rp_814 C_814 T_814 G_814 P_814 Y_814 L_814 B_814 X_814 S_826 O N_826 V J U hm hT (lv_sub hl [2, 3, 4, 5, 6] rfl) (by omega) (by omega)
      · have hm := hm.2 c_854
        refine lv_iconst (v := 0) hx hb dL_law_857 (by decide) ?_
        exact hm.elim
  · have hm := hm.2 c_837
    refine lv_iconst (v := 0) hx hb dL_law_840 (by decide) ?_
    exact hm.elim
def wp_op_air (q : Nat → Nat) (ap : Nat) (bp : Nat) (rp : Nat) (C : M2) (T : M2) (G : M2) (P : M2) (Y : M2) (L : L2) (B : M2) (X : L2) (S : M2) (O : M2) (N : M2) (V : M2) (J : M2) (U : M2) (K : Nat → Nat → Nat → M2 → M2 → M2 → M2 → M2 → L2 → M2 → L2 → M2 → M2 → M2 → M2 → M2 → M2 → Prop) : Prop := wp_X5_air P T C (fun r_863 T_863 C_863 => wp_X8_air U S N (fun r_867 S_867 N_867 => ((r_863 = r_867 → K ap bp rp C_863 T_863 G P Y L B X S_867 O N_867 V J U) ∧ (¬ r_863 = r_867 → False))))
set_option maxRecDepth 100000 in
set_option maxHeartbeats 4000000 in
theorem t_op_air {p : Program} {l : Launch} {e : Env} {s : State} {m : MethodId} {args : Array Value} {below : List Frame} {meth : Method} {c : Code} {Q : State → Prop} {A : Nat → Prop} {D : va_G} {rx : Nat → Nat} {Z : Nat → ClassId} {a t b q q2 : Nat → Nat} {ow : Nat} {ma mb mq mg : Nat → Nat} {mr : Nat} {ap : Nat} {bp : Nat} {rp : Nat} {C : M2} {T : M2} {G : M2} {P : M2} {Y : M2} {L : L2} {B : M2} {X : L2} {S : M2} {O : M2} {N : M2} {V : M2} {J : M2} {U : M2} {scr Ln cc cs : Nat} {xs : Nat → Int32} {v4 : Int32} {K : Nat → Nat → Nat → M2 → M2 → M2 → M2 → M2 → L2 → M2 → L2 → M2 → M2 → M2 → M2 → M2 → M2 → Prop} {H : Heap} {locs : List Loc} {ls : Array Slot} (hC : CallFix p m c code 9 s args lw_g RL) (hN : NW s) (hfl : l.stackTraces = false) (hR : RXD rx A s s.heap) (hK : va_K D vwCl (tysG Z) s) (hX : va_X scr Ln xs s s.heap) (hbl : scr < s.heap.size) (hbA : ¬ A scr) (hT : TS vwCl D (LW Z a t b q q2 ow ma mb mq mg mr ap bp rp C T G P Y L B X S O N V J U) A s.heap H locs) (hcb : cc + 400 ≤ 601024 ∧ cs + 4000 ≤ 7293034) (hm : wp_op_air q ap bp rp C T G P Y L B X S O N V J U K) (hback : ∀ (H : Heap) (locs : List Loc) (ls : Array Slot) (cc1 cs1 : Nat) (ap1 : Nat) (bp1 : Nat) (rp1 : Nat) (C1 : M2) (T1 : M2) (G1 : M2) (P1 : M2) (Y1 : M2) (L1 : L2) (B1 : M2) (X1 : L2) (S1 : M2) (O1 : M2) (N1 : M2) (V1 : M2) (J1 : M2) (U1 : M2), K ap1 bp1 rp1 C1 T1 G1 P1 Y1 L1 B1 X1 S1 O1 N1 V1 J1 U1 → TS vwCl D (LW Z a t b q q2 ow ma mb mq mg mr ap1 bp1 rp1 C1 T1 G1 P1 Y1 L1 B1 X1 S1 O1 N1 V1 J1 U1) A s.heap H locs → lv_has ls 9 [(0, .ref scr), (1, .ref (a 90)), (2, .ref (mg 220)), (3, .ref (ow)), (4, .int v4)] → cc1 ≤ cc + 400 → cs1 ≤ cs + 4000 → W p l e (rk 2048 601024 7293034) s m args below meth c H locs cc1 cs1 Q (F0 m 1346 ls [])) (hl : lv_has ls 9 [(0, .ref scr), (1, .ref (a 90)), (2, .ref (mg 220)), (3, .ref (ow)), (4, .int v4)]) : W p l e (rk 2048 601024 7293034) s m args below meth c H locs cc cs Q (F0 m 862 ls []) := by
  have hx := hC.1
  have hb := hC.2.1
  refine lv_aload_n hx hb dL_law_862 rfl (lv_at hl 1 rfl) ?_
  refine kx_X5_air hC hN hK hT (cx_CQLW Z a t b q q2 ow ma mb mq mg mr ap bp rp C T G P Y L B X S O N V J U) rfl hm wq_797 (by decide) hl.1 (Nat.le_of_ble_eq_true rfl) ⟨by omega, by omega⟩ dL_law_863 (fun r_863 T_863 C_863 H locs hm hT => ?_)
  have hT : TS vwCl D (LW Z a t b q q2 ow ma mb mq mg mr ap bp rp C_863 T_863 G P Y L B X S O N V J U) A s.heap H locs := hT
  refine lv_aload_n hx hb dL_law_866 rfl (lv_at hl 2 rfl) ?_
  refine kx_X8_air hC hN hK hT (cx_QWLW Z a t b q q2 ow ma mb mq mg mr ap bp rp C_863 T_863 G P Y L B X S O N V J U) rfl hm wq_1858 (by decide) hl.1 (Nat.le_of_ble_eq_true rfl) ⟨by omega, by omega⟩ dL_law_867 (fun r_867 S_867 N_867 H locs hm hT => ?_)
  have hT : TS vwCl D (LW Z a t b q q2 ow ma mb mq mg mr ap bp rp C_863 T_863 G P Y L B X S_867 O N_867 V J U) A s.heap H locs := hT
  refine lv_icmp_eq (tgt := 1346) hx hb dL_law_870 (by decide) (fun c_870 => ?_) (fun c_870 => ?_)
  · have hm := hm.1 c_870
    exact hback _ _ _ _ _ ap bp rp C_863 T_863 G P Y L B X S_867 O N_867 V J U hm hT (lv_sub hl [0, 1, 2, 3, 4] rfl) (by omega) (by omega)
  · have hm := hm.2 c_870
    refine lv_iconst (v := 0) hx hb dL_law_873 (by decide) ?_
    exact hm.elim
def wp_op_cap (q : Nat → Nat) (ap : Nat) (bp : Nat) (rp : Nat) (C : M2) (T : M2) (G : M2) (P : M2) (Y : M2) (L : L2) (B : M2) (X : L2) (S : M2) (O : M2) (N : M2) (V : M2) (J : M2) (U : M2) (y1 : Int32) (K : Nat → Nat → Nat → M2 → M2 → M2 → M2 → M2 → L2 → M2 → L2 → M2 → M2 → M2 → M2 → M2 → M2 → Prop) : Prop := wp_L_cap q ap bp rp C T G P Y L B X y1 (fun r_883 ap_883 bp_883 rp_883 C_883 T_883 G_883 P_883 Y_883 L_883 B_883 X_883 => wp_X8_cap U S N y1 (fun r_895 S_895 N_895 => wp_X8_thrown U S_895 N_895 (fun r_901 => ((r_901 = r_883 → ((¬ r_883 = 0 → K ap_883 bp_883 rp_883 C_883 T_883 G_883 P_883 Y_883 L_883 B_883 X_883 S_895 O N_895 V J U) ∧ (r_883 = 0 → (inb 0 1 ∧ (((lg_cmp (X_883 500 (0 : Int32).toInt.toNat) r_895.toInt64) = 0 → K ap_883 bp_883 rp_883 C_883 T_883 G_883 P_883 Y_883 L_883 B_883 X_883 S_895 O N_895 V J U) ∧ (¬ (lg_cmp (X_883 500 (0 : Int32).toInt.toNat) r_895.toInt64) = 0 → False)))))) ∧ (¬ r_901 = r_883 → False)))))
set_option maxRecDepth 100000 in
set_option maxHeartbeats 4000000 in
theorem t_op_cap {p : Program} {l : Launch} {e : Env} {s : State} {m : MethodId} {args : Array Value} {below : List Frame} {meth : Method} {c : Code} {Q : State → Prop} {A : Nat → Prop} {D : va_G} {rx : Nat → Nat} {Z : Nat → ClassId} {a t b q q2 : Nat → Nat} {ow : Nat} {ma mb mq mg : Nat → Nat} {mr : Nat} {ap : Nat} {bp : Nat} {rp : Nat} {C : M2} {T : M2} {G : M2} {P : M2} {Y : M2} {L : L2} {B : M2} {X : L2} {S : M2} {O : M2} {N : M2} {V : M2} {J : M2} {U : M2} {scr Ln cc cs : Nat} {xs : Nat → Int32} {v4 y1 : Int32} {K : Nat → Nat → Nat → M2 → M2 → M2 → M2 → M2 → L2 → M2 → L2 → M2 → M2 → M2 → M2 → M2 → M2 → Prop} {H : Heap} {locs : List Loc} {ls : Array Slot} (hC : CallFix p m c code 9 s args lw_g RL) (hN : NW s) (hfl : l.stackTraces = false) (hR : RXD rx A s s.heap) (hK : va_K D vwCl (tysG Z) s) (hX : va_X scr Ln xs s s.heap) (hbl : scr < s.heap.size) (hbA : ¬ A scr) (hi1 : vp_in (v4 + 1) Ln) (e1 : xs (v4 + 1).toNatClampNeg = y1) (hT : TS vwCl D (LW Z a t b q q2 ow ma mb mq mg mr ap bp rp C T G P Y L B X S O N V J U) A s.heap H locs) (hcb : cc + 400 ≤ 601024 ∧ cs + 4000 ≤ 7293034) (hm : wp_op_cap q ap bp rp C T G P Y L B X S O N V J U y1 K) (hback : ∀ (H : Heap) (locs : List Loc) (ls : Array Slot) (cc1 cs1 : Nat) (ap1 : Nat) (bp1 : Nat) (rp1 : Nat) (C1 : M2) (T1 : M2) (G1 : M2) (P1 : M2) (Y1 : M2) (L1 : L2) (B1 : M2) (X1 : L2) (S1 : M2) (O1 : M2) (N1 : M2) (V1 : M2) (J1 : M2) (U1 : M2), K ap1 bp1 rp1 C1 T1 G1 P1 Y1 L1 B1 X1 S1 O1 N1 V1 J1 U1 → TS vwCl D (LW Z a t b q q2 ow ma mb mq mg mr ap1 bp1 rp1 C1 T1 G1 P1 Y1 L1 B1 X1 S1 O1 N1 V1 J1 U1) A s.heap H locs → lv_has ls 9 [(0, .ref scr), (1, .ref (a 90)), (2, .ref (mg 220)), (3, .ref (ow)), (4, .int v4)] → cc1 ≤ cc + 400 → cs1 ≤ cs + 4000 → W p l e (rk 2048 601024 7293034) s m args below meth c H locs cc1 cs1 Q (F0 m 1346 ls [])) (hl : lv_has ls 9 [(0, .ref scr), (1, .ref (a 90)), (2, .ref (mg 220)), (3, .ref (ow)), (4, .int v4)]) : W p l e (rk 2048 601024 7293034) s m args below meth c H locs cc cs Q (F0 m 875 ls []) := by
  have hx := hC.1
  have hb := hC.2.1
  refine lv_aload_n hx hb dL_law_875 rfl (lv_at hl 1 rfl) ?_
  refine lv_aload_n hx hb dL_law_876 rfl (lv_at hl 0 rfl) ?_
  refine lv_iload hx hb dL_law_877 (lv_at hl 4 rfl) ?_
  refine lv_iconst (v := 1) hx hb dL_law_879 (by decide) ?_
  refine lv_iadd hx hb dL_law_880 ?_
  refine va_sld hx hb hX hbl hbA hT.2.2.1 hi1 dL_law_881 ?_
  rw [e1]
  refine lv_aload_n hx hb dL_law_882 rfl (lv_at hl 3 rfl) ?_
  refine kl_L_cap (rx := rx) hC hN hfl (hT.rxd hR) hK hT (cx_LXLW Z a t b q q2 ow ma mb mq mg mr ap bp rp C T G P Y L B X S O N V J U) rfl hm wq_1089 (by decide) hl.1 (Nat.le_of_ble_eq_true rfl) ⟨by omega, by omega⟩ dL_law_883 (fun r_883 ap_883 bp_883 rp_883 C_883 T_883 G_883 P_883 Y_883 L_883 B_883 X_883 H locs hm hT => ?_)
  have hT : TS vwCl D (LW Z a t b q q2 ow ma mb mq mg mr ap_883 bp_883 rp_883 C_883 T_883 G_883 P_883 Y_883 L_883 B_883 X_883 S O N V J U) A s.heap H locs := hT
  refine lv_istore (lv' := [(5, .int r_883), (0, .ref scr), (1, .ref (a 90)), (2, .ref (mg 220)), (3, .ref (ow)), (4, .int v4)]) hx hb dL_law_886 hl (by decide) rfl (fun ls hl => ?_)
  refine lv_aload_n hx hb dL_law_888 rfl (lv_at hl 3 rfl) ?_
  refine lv_aload_n hx hb dL_law_889 rfl (lv_at hl 1 rfl) ?_
  refine lv_iload hx hb dL_law_890 (lv_at hl 5 rfl) ?_
  refine lv_iconst (v := 1) hx hb dL_law_892 (by decide) ?_
  refine lv_iadd hx hb dL_law_893 ?_
  refine va_sld hx hb hX hbl hbA hT.2.2.1 hi1 dL_law_894 ?_
  rw [e1]
  refine kx_X8_cap hC hN hK hT (cx_QWLW Z a t b q q2 ow ma mb mq mg mr ap_883 bp_883 rp_883 C_883 T_883 G_883 P_883 Y_883 L_883 B_883 X_883 S O N V J U) rfl hm wq_1863 (by decide) hl.1 (Nat.le_of_ble_eq_true rfl) ⟨by omega, by omega⟩ dL_law_895 (fun r_895 S_895 N_895 H locs hm hT => ?_)
  have hT : TS vwCl D (LW Z a t b q q2 ow ma mb mq mg mr ap_883 bp_883 rp_883 C_883 T_883 G_883 P_883 Y_883 L_883 B_883 X_883 S_895 O N_895 V J U) A s.heap H locs := hT
  refine lv_istore (lv' := [(6, .int r_895), (5, .int r_883), (0, .ref scr), (1, .ref (a 90)), (2, .ref (mg 220)), (3, .ref (ow)), (4, .int v4)]) hx hb dL_law_898 hl (by decide) rfl (fun ls hl => ?_)
  refine lv_aload_n hx hb dL_law_900 rfl (lv_at hl 4 rfl) ?_
  refine kx_X8_thrown hC hN hK hT.1 hT.D' (sx_QWLW Z a t b q q2 ow ma mb mq mg mr ap_883 bp_883 rp_883 C_883 T_883 G_883 P_883 Y_883 L_883 B_883 X_883 S_895 O N_895 V J U) rfl hm wq_1466 (by decide) hl.1 (Nat.le_of_ble_eq_true rfl) ⟨by omega, by omega⟩ dL_law_901 (fun r_901 hm => ?_)
  refine lv_iload hx hb dL_law_904 (lv_at hl 1 rfl) ?_
  refine lv_icmp_eq (tgt := 911) hx hb dL_law_906 (by decide) (fun c_906 => ?_) (fun c_906 => ?_)
  · have hm := hm.1 c_906
    refine lv_iload hx hb dL_law_911 (lv_at hl 1 rfl) ?_
    refine lv_if_ne (tgt := 928) hx hb dL_law_913 (by decide) (fun c_913 => ?_) (fun c_913 => ?_)
    · have hm := hm.1 c_913
      refine lv_goto (tgt := 1346) hx hb dL_law_928 (by decide) ?_
      exact hback _ _ _ _ _ ap_883 bp_883 rp_883 C_883 T_883 G_883 P_883 Y_883 L_883 B_883 X_883 S_895 O N_895 V J U hm hT (lv_sub hl [2, 3, 4, 5, 6] rfl) (by omega) (by omega)
    · have hm := hm.2 c_913
      refine lv_aload_n hx hb dL_law_916 rfl (lv_at hl 5 rfl) ?_
      refine lv_iconst (v := 0) hx hb dL_law_917 (by decide) ?_
      refine w_lald (q0 := 79) hC hK hT.1 rfl hm.1 dL_law_918 ?_
      have hm := hm.2
      refine lv_iload hx hb dL_law_919 (lv_at hl 0 rfl) ?_
      refine lv_i2l (v := r_895.toInt64) hx hb dL_law_921 rfl ?_
      refine W.lcmp hx hb dL_law_922 ?_
      refine lv_if_eq (tgt := 928) hx hb dL_law_923 (by decide) (fun c_923 => ?_) (fun c_923 => ?_)
      · have hm := hm.1 c_923
        refine lv_goto (tgt := 1346) hx hb dL_law_928 (by decide) ?_
        exact hback _ _ _ _ _ ap_883 bp_883 rp_883 C_883 T_883 G_883 P_883 Y_883 L_883 B_883 X_883 S_895 O N_895 V J U hm hT (lv_sub hl [2, 3, 4, 5, 6] rfl) (by omega) (by omega)
      · have hm := hm.2 c_923
        refine lv_iconst (v := 0) hx hb dL_law_926 (by decide) ?_
        exact hm.elim
  · have hm := hm.2 c_906
    refine lv_iconst (v := 0) hx hb dL_law_909 (by decide) ?_
    exact hm.elim
def wp_op_again (q : Nat → Nat) (ap : Nat) (bp : Nat) (rp : Nat) (C : M2) (T : M2) (G : M2) (P : M2) (Y : M2) (L : L2) (B : M2) (X : L2) (S : M2) (O : M2) (N : M2) (V : M2) (J : M2) (U : M2) (y1 : Int32) (y2 : Int32) (K : Nat → Nat → Nat → M2 → M2 → M2 → M2 → M2 → L2 → M2 → L2 → M2 → M2 → M2 → M2 → M2 → M2 → Prop) : Prop := wp_L_again q ap bp rp C T G P Y L B X y1 y2 (fun r_945 ap_945 bp_945 rp_945 C_945 T_945 G_945 P_945 Y_945 L_945 B_945 X_945 => wp_X8_again U S N y1 y2 (fun r_963 S_963 N_963 => wp_X8_thrown U S_963 N_963 (fun r_969 => ((r_969 = r_945 → ((¬ r_945 = 0 → K ap_945 bp_945 rp_945 C_945 T_945 G_945 P_945 Y_945 L_945 B_945 X_945 S_963 O N_963 V J U) ∧ (r_945 = 0 → (inb 0 1 ∧ (((lg_cmp (X_945 500 (0 : Int32).toInt.toNat) r_963.toInt64) = 0 → K ap_945 bp_945 rp_945 C_945 T_945 G_945 P_945 Y_945 L_945 B_945 X_945 S_963 O N_963 V J U) ∧ (¬ (lg_cmp (X_945 500 (0 : Int32).toInt.toNat) r_963.toInt64) = 0 → False)))))) ∧ (¬ r_969 = r_945 → False)))))
set_option maxRecDepth 100000 in
set_option maxHeartbeats 4000000 in
theorem t_op_again {p : Program} {l : Launch} {e : Env} {s : State} {m : MethodId} {args : Array Value} {below : List Frame} {meth : Method} {c : Code} {Q : State → Prop} {A : Nat → Prop} {D : va_G} {rx : Nat → Nat} {Z : Nat → ClassId} {a t b q q2 : Nat → Nat} {ow : Nat} {ma mb mq mg : Nat → Nat} {mr : Nat} {ap : Nat} {bp : Nat} {rp : Nat} {C : M2} {T : M2} {G : M2} {P : M2} {Y : M2} {L : L2} {B : M2} {X : L2} {S : M2} {O : M2} {N : M2} {V : M2} {J : M2} {U : M2} {scr Ln cc cs : Nat} {xs : Nat → Int32} {v4 y1 y2 : Int32} {K : Nat → Nat → Nat → M2 → M2 → M2 → M2 → M2 → L2 → M2 → L2 → M2 → M2 → M2 → M2 → M2 → M2 → Prop} {H : Heap} {locs : List Loc} {ls : Array Slot} (hC : CallFix p m c code 9 s args lw_g RL) (hN : NW s) (hfl : l.stackTraces = false) (hR : RXD rx A s s.heap) (hK : va_K D vwCl (tysG Z) s) (hX : va_X scr Ln xs s s.heap) (hbl : scr < s.heap.size) (hbA : ¬ A scr) (hi1 : vp_in (v4 + 1) Ln) (hi2 : vp_in (v4 + 2) Ln) (e1 : xs (v4 + 1).toNatClampNeg = y1) (e2 : xs (v4 + 2).toNatClampNeg = y2) (hT : TS vwCl D (LW Z a t b q q2 ow ma mb mq mg mr ap bp rp C T G P Y L B X S O N V J U) A s.heap H locs) (hcb : cc + 400 ≤ 601024 ∧ cs + 4000 ≤ 7293034) (hm : wp_op_again q ap bp rp C T G P Y L B X S O N V J U y1 y2 K) (hback : ∀ (H : Heap) (locs : List Loc) (ls : Array Slot) (cc1 cs1 : Nat) (ap1 : Nat) (bp1 : Nat) (rp1 : Nat) (C1 : M2) (T1 : M2) (G1 : M2) (P1 : M2) (Y1 : M2) (L1 : L2) (B1 : M2) (X1 : L2) (S1 : M2) (O1 : M2) (N1 : M2) (V1 : M2) (J1 : M2) (U1 : M2), K ap1 bp1 rp1 C1 T1 G1 P1 Y1 L1 B1 X1 S1 O1 N1 V1 J1 U1 → TS vwCl D (LW Z a t b q q2 ow ma mb mq mg mr ap1 bp1 rp1 C1 T1 G1 P1 Y1 L1 B1 X1 S1 O1 N1 V1 J1 U1) A s.heap H locs → lv_has ls 9 [(0, .ref scr), (1, .ref (a 90)), (2, .ref (mg 220)), (3, .ref (ow)), (4, .int v4)] → cc1 ≤ cc + 400 → cs1 ≤ cs + 4000 → W p l e (rk 2048 601024 7293034) s m args below meth c H locs cc1 cs1 Q (F0 m 1346 ls [])) (hl : lv_has ls 9 [(0, .ref scr), (1, .ref (a 90)), (2, .ref (mg 220)), (3, .ref (ow)), (4, .int v4)]) : W p l e (rk 2048 601024 7293034) s m args below meth c H locs cc cs Q (F0 m 931 ls []) := by
  have hx := hC.1
  have hb := hC.2.1
  refine lv_aload_n hx hb dL_law_931 rfl (lv_at hl 1 rfl) ?_
  refine lv_aload_n hx hb dL_law_932 rfl (lv_at hl 0 rfl) ?_
  refine lv_iload hx hb dL_law_933 (lv_at hl 4 rfl) ?_
  refine lv_iconst (v := 1) hx hb dL_law_935 (by decide) ?_
  refine lv_iadd hx hb dL_law_936 ?_
  refine va_sld hx hb hX hbl hbA hT.2.2.1 hi1 dL_law_937 ?_
  rw [e1]
  refine lv_aload_n hx hb dL_law_938 rfl (lv_at hl 0 rfl) ?_
  refine lv_iload hx hb dL_law_939 (lv_at hl 4 rfl) ?_
  refine lv_iconst (v := 2) hx hb dL_law_941 (by decide) ?_
  refine lv_iadd hx hb dL_law_942 ?_
  refine va_sld hx hb hX hbl hbA hT.2.2.1 hi2 dL_law_943 ?_
  rw [e2]
  refine lv_aload_n hx hb dL_law_944 rfl (lv_at hl 3 rfl) ?_
  refine kl_L_again (rx := rx) hC hN hfl (hT.rxd hR) hK hT (cx_LXLW Z a t b q q2 ow ma mb mq mg mr ap bp rp C T G P Y L B X S O N V J U) rfl hm wq_1096 (by decide) hl.1 (Nat.le_of_ble_eq_true rfl) ⟨by omega, by omega⟩ dL_law_945 (fun r_945 ap_945 bp_945 rp_945 C_945 T_945 G_945 P_945 Y_945 L_945 B_945 X_945 H locs hm hT => ?_)
  have hT : TS vwCl D (LW Z a t b q q2 ow ma mb mq mg mr ap_945 bp_945 rp_945 C_945 T_945 G_945 P_945 Y_945 L_945 B_945 X_945 S O N V J U) A s.heap H locs := hT
  refine lv_istore (lv' := [(5, .int r_945), (0, .ref scr), (1, .ref (a 90)), (2, .ref (mg 220)), (3, .ref (ow)), (4, .int v4)]) hx hb dL_law_948 hl (by decide) rfl (fun ls hl => ?_)
  refine lv_aload_n hx hb dL_law_950 rfl (lv_at hl 3 rfl) ?_
  refine lv_aload_n hx hb dL_law_951 rfl (lv_at hl 1 rfl) ?_
  refine lv_iload hx hb dL_law_952 (lv_at hl 5 rfl) ?_
  refine lv_iconst (v := 1) hx hb dL_law_954 (by decide) ?_
  refine lv_iadd hx hb dL_law_955 ?_
  refine va_sld hx hb hX hbl hbA hT.2.2.1 hi1 dL_law_956 ?_
  rw [e1]
  refine lv_aload_n hx hb dL_law_957 rfl (lv_at hl 1 rfl) ?_
  refine lv_iload hx hb dL_law_958 (lv_at hl 5 rfl) ?_
  refine lv_iconst (v := 2) hx hb dL_law_960 (by decide) ?_
  refine lv_iadd hx hb dL_law_961 ?_
  refine va_sld hx hb hX hbl hbA hT.2.2.1 hi2 dL_law_962 ?_
  rw [e2]
  refine kx_X8_again hC hN hK hT (cx_QWLW Z a t b q q2 ow ma mb mq mg mr ap_945 bp_945 rp_945 C_945 T_945 G_945 P_945 Y_945 L_945 B_945 X_945 S O N V J U) rfl hm wq_1867 (by decide) hl.1 (Nat.le_of_ble_eq_true rfl) ⟨by omega, by omega⟩ dL_law_963 (fun r_963 S_963 N_963 H locs hm hT => ?_)
  have hT : TS vwCl D (LW Z a t b q q2 ow ma mb mq mg mr ap_945 bp_945 rp_945 C_945 T_945 G_945 P_945 Y_945 L_945 B_945 X_945 S_963 O N_963 V J U) A s.heap H locs := hT
  refine lv_istore (lv' := [(6, .int r_963), (5, .int r_945), (0, .ref scr), (1, .ref (a 90)), (2, .ref (mg 220)), (3, .ref (ow)), (4, .int v4)]) hx hb dL_law_966 hl (by decide) rfl (fun ls hl => ?_)
  refine lv_aload_n hx hb dL_law_968 rfl (lv_at hl 4 rfl) ?_
  refine kx_X8_thrown hC hN hK hT.1 hT.D' (sx_QWLW Z a t b q q2 ow ma mb mq mg mr ap_945 bp_945 rp_945 C_945 T_945 G_945 P_945 Y_945 L_945 B_945 X_945 S_963 O N_963 V J U) rfl hm wq_1466 (by decide) hl.1 (Nat.le_of_ble_eq_true rfl) ⟨by omega, by omega⟩ dL_law_969 (fun r_969 hm => ?_)
  refine lv_iload hx hb dL_law_972 (lv_at hl 1 rfl) ?_
  refine lv_icmp_eq (tgt := 979) hx hb dL_law_974 (by decide) (fun c_974 => ?_) (fun c_974 => ?_)
  · have hm := hm.1 c_974
    refine lv_iload hx hb dL_law_979 (lv_at hl 1 rfl) ?_
    refine lv_if_ne (tgt := 996) hx hb dL_law_981 (by decide) (fun c_981 => ?_) (fun c_981 => ?_)
    · have hm := hm.1 c_981
      refine lv_goto (tgt := 1346) hx hb dL_law_996 (by decide) ?_
      exact hback _ _ _ _ _ ap_945 bp_945 rp_945 C_945 T_945 G_945 P_945 Y_945 L_945 B_945 X_945 S_963 O N_963 V J U hm hT (lv_sub hl [2, 3, 4, 5, 6] rfl) (by omega) (by omega)
    · have hm := hm.2 c_981
      refine lv_aload_n hx hb dL_law_984 rfl (lv_at hl 5 rfl) ?_
      refine lv_iconst (v := 0) hx hb dL_law_985 (by decide) ?_
      refine w_lald (q0 := 79) hC hK hT.1 rfl hm.1 dL_law_986 ?_
      have hm := hm.2
      refine lv_iload hx hb dL_law_987 (lv_at hl 0 rfl) ?_
      refine lv_i2l (v := r_963.toInt64) hx hb dL_law_989 rfl ?_
      refine W.lcmp hx hb dL_law_990 ?_
      refine lv_if_eq (tgt := 996) hx hb dL_law_991 (by decide) (fun c_991 => ?_) (fun c_991 => ?_)
      · have hm := hm.1 c_991
        refine lv_goto (tgt := 1346) hx hb dL_law_996 (by decide) ?_
        exact hback _ _ _ _ _ ap_945 bp_945 rp_945 C_945 T_945 G_945 P_945 Y_945 L_945 B_945 X_945 S_963 O N_963 V J U hm hT (lv_sub hl [2, 3, 4, 5, 6] rfl) (by omega) (by omega)
      · have hm := hm.2 c_991
        refine lv_iconst (v := 0) hx hb dL_law_994 (by decide) ?_
        exact hm.elim
  · have hm := hm.2 c_974
    refine lv_iconst (v := 0) hx hb dL_law_977 (by decide) ?_
    exact hm.elim
def wp_op_pass (q : Nat → Nat) (ap : Nat) (bp : Nat) (rp : Nat) (C : M2) (T : M2) (G : M2) (P : M2) (Y : M2) (L : L2) (B : M2) (X : L2) (S : M2) (O : M2) (N : M2) (V : M2) (J : M2) (U : M2) (y1 : Int32) (K : Nat → Nat → Nat → M2 → M2 → M2 → M2 → M2 → L2 → M2 → L2 → M2 → M2 → M2 → M2 → M2 → M2 → Prop) : Prop := wp_L_pass q ap bp rp C T G P Y L B X y1 (fun r_1007 ap_1007 bp_1007 rp_1007 C_1007 T_1007 G_1007 P_1007 Y_1007 L_1007 B_1007 X_1007 => wp_X8_pass U S N y1 (fun r_1019 S_1019 N_1019 => wp_X8_thrown U S_1019 N_1019 (fun r_1025 => ((r_1025 = r_1007 → ((¬ r_1007 = 0 → K ap_1007 bp_1007 rp_1007 C_1007 T_1007 G_1007 P_1007 Y_1007 L_1007 B_1007 X_1007 S_1019 O N_1019 V J U) ∧ (r_1007 = 0 → (inb 0 1 ∧ (((lg_cmp (X_1007 500 (0 : Int32).toInt.toNat) r_1019.toInt64) = 0 → K ap_1007 bp_1007 rp_1007 C_1007 T_1007 G_1007 P_1007 Y_1007 L_1007 B_1007 X_1007 S_1019 O N_1019 V J U) ∧ (¬ (lg_cmp (X_1007 500 (0 : Int32).toInt.toNat) r_1019.toInt64) = 0 → False)))))) ∧ (¬ r_1025 = r_1007 → False)))))
set_option maxRecDepth 100000 in
set_option maxHeartbeats 4000000 in
theorem t_op_pass {p : Program} {l : Launch} {e : Env} {s : State} {m : MethodId} {args : Array Value} {below : List Frame} {meth : Method} {c : Code} {Q : State → Prop} {A : Nat → Prop} {D : va_G} {rx : Nat → Nat} {Z : Nat → ClassId} {a t b q q2 : Nat → Nat} {ow : Nat} {ma mb mq mg : Nat → Nat} {mr : Nat} {ap : Nat} {bp : Nat} {rp : Nat} {C : M2} {T : M2} {G : M2} {P : M2} {Y : M2} {L : L2} {B : M2} {X : L2} {S : M2} {O : M2} {N : M2} {V : M2} {J : M2} {U : M2} {scr Ln cc cs : Nat} {xs : Nat → Int32} {v4 y1 : Int32} {K : Nat → Nat → Nat → M2 → M2 → M2 → M2 → M2 → L2 → M2 → L2 → M2 → M2 → M2 → M2 → M2 → M2 → Prop} {H : Heap} {locs : List Loc} {ls : Array Slot} (hC : CallFix p m c code 9 s args lw_g RL) (hN : NW s) (hfl : l.stackTraces = false) (hR : RXD rx A s s.heap) (hK : va_K D vwCl (tysG Z) s) (hX : va_X scr Ln xs s s.heap) (hbl : scr < s.heap.size) (hbA : ¬ A scr) (hi1 : vp_in (v4 + 1) Ln) (e1 : xs (v4 + 1).toNatClampNeg = y1) (hT : TS vwCl D (LW Z a t b q q2 ow ma mb mq mg mr ap bp rp C T G P Y L B X S O N V J U) A s.heap H locs) (hcb : cc + 400 ≤ 601024 ∧ cs + 4000 ≤ 7293034) (hm : wp_op_pass q ap bp rp C T G P Y L B X S O N V J U y1 K) (hback : ∀ (H : Heap) (locs : List Loc) (ls : Array Slot) (cc1 cs1 : Nat) (ap1 : Nat) (bp1 : Nat) (rp1 : Nat) (C1 : M2) (T1 : M2) (G1 : M2) (P1 : M2) (Y1 : M2) (L1 : L2) (B1 : M2) (X1 : L2) (S1 : M2) (O1 : M2) (N1 : M2) (V1 : M2) (J1 : M2) (U1 : M2), K ap1 bp1 rp1 C1 T1 G1 P1 Y1 L1 B1 X1 S1 O1 N1 V1 J1 U1 → TS vwCl D (LW Z a t b q q2 ow ma mb mq mg mr ap1 bp1 rp1 C1 T1 G1 P1 Y1 L1 B1 X1 S1 O1 N1 V1 J1 U1) A s.heap H locs → lv_has ls 9 [(0, .ref scr), (1, .ref (a 90)), (2, .ref (mg 220)), (3, .ref (ow)), (4, .int v4)] → cc1 ≤ cc + 400 → cs1 ≤ cs + 4000 → W p l e (rk 2048 601024 7293034) s m args below meth c H locs cc1 cs1 Q (F0 m 1346 ls [])) (hl : lv_has ls 9 [(0, .ref scr), (1, .ref (a 90)), (2, .ref (mg 220)), (3, .ref (ow)), (4, .int v4)]) : W p l e (rk 2048 601024 7293034) s m args below meth c H locs cc cs Q (F0 m 999 ls []) := by
  have hx := hC.1
  have hb := hC.2.1
  refine lv_aload_n hx hb dL_law_999 rfl (lv_at hl 1 rfl) ?_
  refine lv_aload_n hx hb dL_law_1000 rfl (lv_at hl 0 rfl) ?_
  refine lv_iload hx hb dL_law_1001 (lv_at hl 4 rfl) ?_
  refine lv_iconst (v := 1) hx hb dL_law_1003 (by decide) ?_
  refine lv_iadd hx hb dL_law_1004 ?_
  refine va_sld hx hb hX hbl hbA hT.2.2.1 hi1 dL_law_1005 ?_
  rw [e1]
  refine lv_aload_n hx hb dL_law_1006 rfl (lv_at hl 3 rfl) ?_
  refine kl_L_pass (rx := rx) hC hN hfl (hT.rxd hR) hK hT (cx_LXLW Z a t b q q2 ow ma mb mq mg mr ap bp rp C T G P Y L B X S O N V J U) rfl hm wq_1109 (by decide) hl.1 (Nat.le_of_ble_eq_true rfl) ⟨by omega, by omega⟩ dL_law_1007 (fun r_1007 ap_1007 bp_1007 rp_1007 C_1007 T_1007 G_1007 P_1007 Y_1007 L_1007 B_1007 X_1007 H locs hm hT => ?_)
  have hT : TS vwCl D (LW Z a t b q q2 ow ma mb mq mg mr ap_1007 bp_1007 rp_1007 C_1007 T_1007 G_1007 P_1007 Y_1007 L_1007 B_1007 X_1007 S O N V J U) A s.heap H locs := hT
  refine lv_istore (lv' := [(5, .int r_1007), (0, .ref scr), (1, .ref (a 90)), (2, .ref (mg 220)), (3, .ref (ow)), (4, .int v4)]) hx hb dL_law_1010 hl (by decide) rfl (fun ls hl => ?_)
  refine lv_aload_n hx hb dL_law_1012 rfl (lv_at hl 3 rfl) ?_
  refine lv_aload_n hx hb dL_law_1013 rfl (lv_at hl 1 rfl) ?_
  refine lv_iload hx hb dL_law_1014 (lv_at hl 5 rfl) ?_
  refine lv_iconst (v := 1) hx hb dL_law_1016 (by decide) ?_
  refine lv_iadd hx hb dL_law_1017 ?_
  refine va_sld hx hb hX hbl hbA hT.2.2.1 hi1 dL_law_1018 ?_
  rw [e1]
  refine kx_X8_pass hC hN hK hT (cx_QWLW Z a t b q q2 ow ma mb mq mg mr ap_1007 bp_1007 rp_1007 C_1007 T_1007 G_1007 P_1007 Y_1007 L_1007 B_1007 X_1007 S O N V J U) rfl hm wq_1871 (by decide) hl.1 (Nat.le_of_ble_eq_true rfl) ⟨by omega, by omega⟩ dL_law_1019 (fun r_1019 S_1019 N_1019 H locs hm hT => ?_)
  have hT : TS vwCl D (LW Z a t b q q2 ow ma mb mq mg mr ap_1007 bp_1007 rp_1007 C_1007 T_1007 G_1007 P_1007 Y_1007 L_1007 B_1007 X_1007 S_1019 O N_1019 V J U) A s.heap H locs := hT
  refine lv_istore (lv' := [(6, .int r_1019), (5, .int r_1007), (0, .ref scr), (1, .ref (a 90)), (2, .ref (mg 220)), (3, .ref (ow)), (4, .int v4)]) hx hb dL_law_1022 hl (by decide) rfl (fun ls hl => ?_)
  refine lv_aload_n hx hb dL_law_1024 rfl (lv_at hl 4 rfl) ?_
  refine kx_X8_thrown hC hN hK hT.1 hT.D' (sx_QWLW Z a t b q q2 ow ma mb mq mg mr ap_1007 bp_1007 rp_1007 C_1007 T_1007 G_1007 P_1007 Y_1007 L_1007 B_1007 X_1007 S_1019 O N_1019 V J U) rfl hm wq_1466 (by decide) hl.1 (Nat.le_of_ble_eq_true rfl) ⟨by omega, by omega⟩ dL_law_1025 (fun r_1025 hm => ?_)
  refine lv_iload hx hb dL_law_1028 (lv_at hl 1 rfl) ?_
  refine lv_icmp_eq (tgt := 1035) hx hb dL_law_1030 (by decide) (fun c_1030 => ?_) (fun c_1030 => ?_)
  · have hm := hm.1 c_1030
    refine lv_iload hx hb dL_law_1035 (lv_at hl 1 rfl) ?_
    refine lv_if_ne (tgt := 1052) hx hb dL_law_1037 (by decide) (fun c_1037 => ?_) (fun c_1037 => ?_)
    · have hm := hm.1 c_1037
      refine lv_goto (tgt := 1346) hx hb dL_law_1052 (by decide) ?_
      exact hback _ _ _ _ _ ap_1007 bp_1007 rp_1007 C_1007 T_1007 G_1007 P_1007 Y_1007 L_1007 B_1007 X_1007 S_1019 O N_1019 V J U hm hT (lv_sub hl [2, 3, 4, 5, 6] rfl) (by omega) (by omega)
    · have hm := hm.2 c_1037
      refine lv_aload_n hx hb dL_law_1040 rfl (lv_at hl 5 rfl) ?_
      refine lv_iconst (v := 0) hx hb dL_law_1041 (by decide) ?_
      refine w_lald (q0 := 79) hC hK hT.1 rfl hm.1 dL_law_1042 ?_
      have hm := hm.2
      refine lv_iload hx hb dL_law_1043 (lv_at hl 0 rfl) ?_
      refine lv_i2l (v := r_1019.toInt64) hx hb dL_law_1045 rfl ?_
      refine W.lcmp hx hb dL_law_1046 ?_
      refine lv_if_eq (tgt := 1052) hx hb dL_law_1047 (by decide) (fun c_1047 => ?_) (fun c_1047 => ?_)
      · have hm := hm.1 c_1047
        refine lv_goto (tgt := 1346) hx hb dL_law_1052 (by decide) ?_
        exact hback _ _ _ _ _ ap_1007 bp_1007 rp_1007 C_1007 T_1007 G_1007 P_1007 Y_1007 L_1007 B_1007 X_1007 S_1019 O N_1019 V J U hm hT (lv_sub hl [2, 3, 4, 5, 6] rfl) (by omega) (by omega)
      · have hm := hm.2 c_1047
        refine lv_iconst (v := 0) hx hb dL_law_1050 (by decide) ?_
        exact hm.elim
  · have hm := hm.2 c_1030
    refine lv_iconst (v := 0) hx hb dL_law_1033 (by decide) ?_
    exact hm.elim
def wp_op_until (q : Nat → Nat) (ap : Nat) (bp : Nat) (rp : Nat) (C : M2) (T : M2) (G : M2) (P : M2) (Y : M2) (L : L2) (B : M2) (X : L2) (S : M2) (O : M2) (N : M2) (V : M2) (J : M2) (U : M2) (y1 : Int32) (K : Nat → Nat → Nat → M2 → M2 → M2 → M2 → M2 → L2 → M2 → L2 → M2 → M2 → M2 → M2 → M2 → M2 → Prop) : Prop := wp_L_until q ap bp rp C T G P Y L B X y1 (fun r_1063 ap_1063 bp_1063 rp_1063 C_1063 T_1063 G_1063 P_1063 Y_1063 L_1063 B_1063 X_1063 => wp_X8_until U S O N y1 (fun r_1075 S_1075 O_1075 N_1075 => wp_X8_thrown U S_1075 N_1075 (fun r_1081 => ((r_1081 = r_1063 → ((¬ r_1063 = 0 → K ap_1063 bp_1063 rp_1063 C_1063 T_1063 G_1063 P_1063 Y_1063 L_1063 B_1063 X_1063 S_1075 O_1075 N_1075 V J U) ∧ (r_1063 = 0 → (inb 0 1 ∧ (((lg_cmp (X_1063 500 (0 : Int32).toInt.toNat) r_1075.toInt64) = 0 → K ap_1063 bp_1063 rp_1063 C_1063 T_1063 G_1063 P_1063 Y_1063 L_1063 B_1063 X_1063 S_1075 O_1075 N_1075 V J U) ∧ (¬ (lg_cmp (X_1063 500 (0 : Int32).toInt.toNat) r_1075.toInt64) = 0 → False)))))) ∧ (¬ r_1081 = r_1063 → False)))))
set_option maxRecDepth 100000 in
set_option maxHeartbeats 4000000 in
theorem t_op_until {p : Program} {l : Launch} {e : Env} {s : State} {m : MethodId} {args : Array Value} {below : List Frame} {meth : Method} {c : Code} {Q : State → Prop} {A : Nat → Prop} {D : va_G} {rx : Nat → Nat} {Z : Nat → ClassId} {a t b q q2 : Nat → Nat} {ow : Nat} {ma mb mq mg : Nat → Nat} {mr : Nat} {ap : Nat} {bp : Nat} {rp : Nat} {C : M2} {T : M2} {G : M2} {P : M2} {Y : M2} {L : L2} {B : M2} {X : L2} {S : M2} {O : M2} {N : M2} {V : M2} {J : M2} {U : M2} {scr Ln cc cs : Nat} {xs : Nat → Int32} {v4 y1 : Int32} {K : Nat → Nat → Nat → M2 → M2 → M2 → M2 → M2 → L2 → M2 → L2 → M2 → M2 → M2 → M2 → M2 → M2 → Prop} {H : Heap} {locs : List Loc} {ls : Array Slot} (hC : CallFix p m c code 9 s args lw_g RL) (hN : NW s) (hfl : l.stackTraces = false) (hR : RXD rx A s s.heap) (hK : va_K D vwCl (tysG Z) s) (hX : va_X scr Ln xs s s.heap) (hbl : scr < s.heap.size) (hbA : ¬ A scr) (hi1 : vp_in (v4 + 1) Ln) (e1 : xs (v4 + 1).toNatClampNeg = y1) (hT : TS vwCl D (LW Z a t b q q2 ow ma mb mq mg mr ap bp rp C T G P Y L B X S O N V J U) A s.heap H locs) (hcb : cc + 400 ≤ 601024 ∧ cs + 4000 ≤ 7293034) (hm : wp_op_until q ap bp rp C T G P Y L B X S O N V J U y1 K) (hback : ∀ (H : Heap) (locs : List Loc) (ls : Array Slot) (cc1 cs1 : Nat) (ap1 : Nat) (bp1 : Nat) (rp1 : Nat) (C1 : M2) (T1 : M2) (G1 : M2) (P1 : M2) (Y1 : M2) (L1 : L2) (B1 : M2) (X1 : L2) (S1 : M2) (O1 : M2) (N1 : M2) (V1 : M2) (J1 : M2) (U1 : M2), K ap1 bp1 rp1 C1 T1 G1 P1 Y1 L1 B1 X1 S1 O1 N1 V1 J1 U1 → TS vwCl D (LW Z a t b q q2 ow ma mb mq mg mr ap1 bp1 rp1 C1 T1 G1 P1 Y1 L1 B1 X1 S1 O1 N1 V1 J1 U1) A s.heap H locs → lv_has ls 9 [(0, .ref scr), (1, .ref (a 90)), (2, .ref (mg 220)), (3, .ref (ow)), (4, .int v4)] → cc1 ≤ cc + 400 → cs1 ≤ cs + 4000 → W p l e (rk 2048 601024 7293034) s m args below meth c H locs cc1 cs1 Q (F0 m 1346 ls [])) (hl : lv_has ls 9 [(0, .ref scr), (1, .ref (a 90)), (2, .ref (mg 220)), (3, .ref (ow)), (4, .int v4)]) : W p l e (rk 2048 601024 7293034) s m args below meth c H locs cc cs Q (F0 m 1055 ls []) := by
  have hx := hC.1
  have hb := hC.2.1
  refine lv_aload_n hx hb dL_law_1055 rfl (lv_at hl 1 rfl) ?_
  refine lv_aload_n hx hb dL_law_1056 rfl (lv_at hl 0 rfl) ?_
  refine lv_iload hx hb dL_law_1057 (lv_at hl 4 rfl) ?_
  refine lv_iconst (v := 1) hx hb dL_law_1059 (by decide) ?_
  refine lv_iadd hx hb dL_law_1060 ?_
  refine va_sld hx hb hX hbl hbA hT.2.2.1 hi1 dL_law_1061 ?_
  rw [e1]
  refine lv_aload_n hx hb dL_law_1062 rfl (lv_at hl 3 rfl) ?_
  refine kl_L_until (rx := rx) hC hN hfl (hT.rxd hR) hK hT (cx_LXLW Z a t b q q2 ow ma mb mq mg mr ap bp rp C T G P Y L B X S O N V J U) rfl hm wq_1180 (by decide) hl.1 (Nat.le_of_ble_eq_true rfl) ⟨by omega, by omega⟩ dL_law_1063 (fun r_1063 ap_1063 bp_1063 rp_1063 C_1063 T_1063 G_1063 P_1063 Y_1063 L_1063 B_1063 X_1063 H locs hm hT => ?_)
  have hT : TS vwCl D (LW Z a t b q q2 ow ma mb mq mg mr ap_1063 bp_1063 rp_1063 C_1063 T_1063 G_1063 P_1063 Y_1063 L_1063 B_1063 X_1063 S O N V J U) A s.heap H locs := hT
  refine lv_istore (lv' := [(5, .int r_1063), (0, .ref scr), (1, .ref (a 90)), (2, .ref (mg 220)), (3, .ref (ow)), (4, .int v4)]) hx hb dL_law_1066 hl (by decide) rfl (fun ls hl => ?_)
  refine lv_aload_n hx hb dL_law_1068 rfl (lv_at hl 3 rfl) ?_
  refine lv_aload_n hx hb dL_law_1069 rfl (lv_at hl 1 rfl) ?_
  refine lv_iload hx hb dL_law_1070 (lv_at hl 5 rfl) ?_
  refine lv_iconst (v := 1) hx hb dL_law_1072 (by decide) ?_
  refine lv_iadd hx hb dL_law_1073 ?_
  refine va_sld hx hb hX hbl hbA hT.2.2.1 hi1 dL_law_1074 ?_
  rw [e1]
  refine kx_X8_until hC hN hK hT (cx_MALW Z a t b q q2 ow ma mb mq mg mr ap_1063 bp_1063 rp_1063 C_1063 T_1063 G_1063 P_1063 Y_1063 L_1063 B_1063 X_1063 S O N V J U) rfl hm wq_1917 (by decide) hl.1 (Nat.le_of_ble_eq_true rfl) ⟨by omega, by omega⟩ dL_law_1075 (fun r_1075 S_1075 O_1075 N_1075 H locs hm hT => ?_)
  have hT : TS vwCl D (LW Z a t b q q2 ow ma mb mq mg mr ap_1063 bp_1063 rp_1063 C_1063 T_1063 G_1063 P_1063 Y_1063 L_1063 B_1063 X_1063 S_1075 O_1075 N_1075 V J U) A s.heap H locs := hT
  refine lv_istore (lv' := [(6, .int r_1075), (5, .int r_1063), (0, .ref scr), (1, .ref (a 90)), (2, .ref (mg 220)), (3, .ref (ow)), (4, .int v4)]) hx hb dL_law_1078 hl (by decide) rfl (fun ls hl => ?_)
  refine lv_aload_n hx hb dL_law_1080 rfl (lv_at hl 4 rfl) ?_
  refine kx_X8_thrown hC hN hK hT.1 hT.D' (sx_QWLW Z a t b q q2 ow ma mb mq mg mr ap_1063 bp_1063 rp_1063 C_1063 T_1063 G_1063 P_1063 Y_1063 L_1063 B_1063 X_1063 S_1075 O_1075 N_1075 V J U) rfl hm wq_1466 (by decide) hl.1 (Nat.le_of_ble_eq_true rfl) ⟨by omega, by omega⟩ dL_law_1081 (fun r_1081 hm => ?_)
  refine lv_iload hx hb dL_law_1084 (lv_at hl 1 rfl) ?_
  refine lv_icmp_eq (tgt := 1091) hx hb dL_law_1086 (by decide) (fun c_1086 => ?_) (fun c_1086 => ?_)
  · have hm := hm.1 c_1086
    refine lv_iload hx hb dL_law_1091 (lv_at hl 1 rfl) ?_
    refine lv_if_ne (tgt := 1108) hx hb dL_law_1093 (by decide) (fun c_1093 => ?_) (fun c_1093 => ?_)
    · have hm := hm.1 c_1093
      refine lv_goto (tgt := 1346) hx hb dL_law_1108 (by decide) ?_
      exact hback _ _ _ _ _ ap_1063 bp_1063 rp_1063 C_1063 T_1063 G_1063 P_1063 Y_1063 L_1063 B_1063 X_1063 S_1075 O_1075 N_1075 V J U hm hT (lv_sub hl [2, 3, 4, 5, 6] rfl) (by omega) (by omega)
    · have hm := hm.2 c_1093
      refine lv_aload_n hx hb dL_law_1096 rfl (lv_at hl 5 rfl) ?_
      refine lv_iconst (v := 0) hx hb dL_law_1097 (by decide) ?_
      refine w_lald (q0 := 79) hC hK hT.1 rfl hm.1 dL_law_1098 ?_
      have hm := hm.2
      refine lv_iload hx hb dL_law_1099 (lv_at hl 0 rfl) ?_
      refine lv_i2l (v := r_1075.toInt64) hx hb dL_law_1101 rfl ?_
      refine W.lcmp hx hb dL_law_1102 ?_
      refine lv_if_eq (tgt := 1108) hx hb dL_law_1103 (by decide) (fun c_1103 => ?_) (fun c_1103 => ?_)
      · have hm := hm.1 c_1103
        refine lv_goto (tgt := 1346) hx hb dL_law_1108 (by decide) ?_
        exact hback _ _ _ _ _ ap_1063 bp_1063 rp_1063 C_1063 T_1063 G_1063 P_1063 Y_1063 L_1063 B_1063 X_1063 S_1075 O_1075 N_1075 V J U hm hT (lv_sub hl [2, 3, 4, 5, 6] rfl) (by omega) (by omega)
      · have hm := hm.2 c_1103
        refine lv_iconst (v := 0) hx hb dL_law_1106 (by decide) ?_
        exact hm.elim
  · have hm := hm.2 c_1086
    refine lv_iconst (v := 0) hx hb dL_law_1089 (by decide) ?_
    exact hm.elim
def wp_op_foresee (q : Nat → Nat) (ap : Nat) (bp : Nat) (rp : Nat) (C : M2) (T : M2) (G : M2) (P : M2) (Y : M2) (L : L2) (B : M2) (X : L2) (S : M2) (O : M2) (N : M2) (V : M2) (J : M2) (U : M2) (y1 : Int32) (y2 : Int32) (K : Nat → Nat → Nat → M2 → M2 → M2 → M2 → M2 → L2 → M2 → L2 → M2 → M2 → M2 → M2 → M2 → M2 → Prop) : Prop := wp_L_foresee q ap bp rp C T G P Y L B X y1 y2 (fun r_1125 ap_1125 bp_1125 rp_1125 C_1125 T_1125 G_1125 P_1125 Y_1125 L_1125 B_1125 X_1125 => wp_X8_foresee U S O N y1 y2 (fun r_1143 S_1143 O_1143 N_1143 => wp_X8_thrown U S_1143 N_1143 (fun r_1149 => ((r_1149 = r_1125 → ((¬ r_1125 = 0 → K ap_1125 bp_1125 rp_1125 C_1125 T_1125 G_1125 P_1125 Y_1125 L_1125 B_1125 X_1125 S_1143 O_1143 N_1143 V J U) ∧ (r_1125 = 0 → (inb 0 1 ∧ (((lg_cmp (X_1125 500 (0 : Int32).toInt.toNat) r_1143.toInt64) = 0 → K ap_1125 bp_1125 rp_1125 C_1125 T_1125 G_1125 P_1125 Y_1125 L_1125 B_1125 X_1125 S_1143 O_1143 N_1143 V J U) ∧ (¬ (lg_cmp (X_1125 500 (0 : Int32).toInt.toNat) r_1143.toInt64) = 0 → False)))))) ∧ (¬ r_1149 = r_1125 → False)))))
set_option maxRecDepth 100000 in
set_option maxHeartbeats 4000000 in
theorem t_op_foresee {p : Program} {l : Launch} {e : Env} {s : State} {m : MethodId} {args : Array Value} {below : List Frame} {meth : Method} {c : Code} {Q : State → Prop} {A : Nat → Prop} {D : va_G} {rx : Nat → Nat} {Z : Nat → ClassId} {a t b q q2 : Nat → Nat} {ow : Nat} {ma mb mq mg : Nat → Nat} {mr : Nat} {ap : Nat} {bp : Nat} {rp : Nat} {C : M2} {T : M2} {G : M2} {P : M2} {Y : M2} {L : L2} {B : M2} {X : L2} {S : M2} {O : M2} {N : M2} {V : M2} {J : M2} {U : M2} {scr Ln cc cs : Nat} {xs : Nat → Int32} {v4 y1 y2 : Int32} {K : Nat → Nat → Nat → M2 → M2 → M2 → M2 → M2 → L2 → M2 → L2 → M2 → M2 → M2 → M2 → M2 → M2 → Prop} {H : Heap} {locs : List Loc} {ls : Array Slot} (hC : CallFix p m c code 9 s args lw_g RL) (hN : NW s) (hfl : l.stackTraces = false) (hR : RXD rx A s s.heap) (hK : va_K D vwCl (tysG Z) s) (hX : va_X scr Ln xs s s.heap) (hbl : scr < s.heap.size) (hbA : ¬ A scr) (hi1 : vp_in (v4 + 1) Ln) (hi2 : vp_in (v4 + 2) Ln) (e1 : xs (v4 + 1).toNatClampNeg = y1) (e2 : xs (v4 + 2).toNatClampNeg = y2) (hT : TS vwCl D (LW Z a t b q q2 ow ma mb mq mg mr ap bp rp C T G P Y L B X S O N V J U) A s.heap H locs) (hcb : cc + 400 ≤ 601024 ∧ cs + 4000 ≤ 7293034) (hm : wp_op_foresee q ap bp rp C T G P Y L B X S O N V J U y1 y2 K) (hback : ∀ (H : Heap) (locs : List Loc) (ls : Array Slot) (cc1 cs1 : Nat) (ap1 : Nat) (bp1 : Nat) (rp1 : Nat) (C1 : M2) (T1 : M2) (G1 : M2) (P1 : M2) (Y1 : M2) (L1 : L2) (B1 : M2) (X1 : L2) (S1 : M2) (O1 : M2) (N1 : M2) (V1 : M2) (J1 : M2) (U1 : M2), K ap1 bp1 rp1 C1 T1 G1 P1 Y1 L1 B1 X1 S1 O1 N1 V1 J1 U1 → TS vwCl D (LW Z a t b q q2 ow ma mb mq mg mr ap1 bp1 rp1 C1 T1 G1 P1 Y1 L1 B1 X1 S1 O1 N1 V1 J1 U1) A s.heap H locs → lv_has ls 9 [(0, .ref scr), (1, .ref (a 90)), (2, .ref (mg 220)), (3, .ref (ow)), (4, .int v4)] → cc1 ≤ cc + 400 → cs1 ≤ cs + 4000 → W p l e (rk 2048 601024 7293034) s m args below meth c H locs cc1 cs1 Q (F0 m 1346 ls [])) (hl : lv_has ls 9 [(0, .ref scr), (1, .ref (a 90)), (2, .ref (mg 220)), (3, .ref (ow)), (4, .int v4)]) : W p l e (rk 2048 601024 7293034) s m args below meth c H locs cc cs Q (F0 m 1111 ls []) := by
  have hx := hC.1
  have hb := hC.2.1
  refine lv_aload_n hx hb dL_law_1111 rfl (lv_at hl 1 rfl) ?_
  refine lv_aload_n hx hb dL_law_1112 rfl (lv_at hl 0 rfl) ?_
  refine lv_iload hx hb dL_law_1113 (lv_at hl 4 rfl) ?_
  refine lv_iconst (v := 1) hx hb dL_law_1115 (by decide) ?_
  refine lv_iadd hx hb dL_law_1116 ?_
  refine va_sld hx hb hX hbl hbA hT.2.2.1 hi1 dL_law_1117 ?_
  rw [e1]
  refine lv_aload_n hx hb dL_law_1118 rfl (lv_at hl 0 rfl) ?_
  refine lv_iload hx hb dL_law_1119 (lv_at hl 4 rfl) ?_
  refine lv_iconst (v := 2) hx hb dL_law_1121 (by decide) ?_
  refine lv_iadd hx hb dL_law_1122 ?_
  refine va_sld hx hb hX hbl hbA hT.2.2.1 hi2 dL_law_1123 ?_
  rw [e2]
  refine lv_aload_n hx hb dL_law_1124 rfl (lv_at hl 3 rfl) ?_
  refine kl_L_foresee (rx := rx) hC hN hfl (hT.rxd hR) hK hT (cx_LXLW Z a t b q q2 ow ma mb mq mg mr ap bp rp C T G P Y L B X S O N V J U) rfl hm wq_1194 (by decide) hl.1 (Nat.le_of_ble_eq_true rfl) ⟨by omega, by omega⟩ dL_law_1125 (fun r_1125 ap_1125 bp_1125 rp_1125 C_1125 T_1125 G_1125 P_1125 Y_1125 L_1125 B_1125 X_1125 H locs hm hT => ?_)
  have hT : TS vwCl D (LW Z a t b q q2 ow ma mb mq mg mr ap_1125 bp_1125 rp_1125 C_1125 T_1125 G_1125 P_1125 Y_1125 L_1125 B_1125 X_1125 S O N V J U) A s.heap H locs := hT
  refine lv_istore (lv' := [(5, .int r_1125), (0, .ref scr), (1, .ref (a 90)), (2, .ref (mg 220)), (3, .ref (ow)), (4, .int v4)]) hx hb dL_law_1128 hl (by decide) rfl (fun ls hl => ?_)
  refine lv_aload_n hx hb dL_law_1130 rfl (lv_at hl 3 rfl) ?_
  refine lv_aload_n hx hb dL_law_1131 rfl (lv_at hl 1 rfl) ?_
  refine lv_iload hx hb dL_law_1132 (lv_at hl 5 rfl) ?_
  refine lv_iconst (v := 1) hx hb dL_law_1134 (by decide) ?_
  refine lv_iadd hx hb dL_law_1135 ?_
  refine va_sld hx hb hX hbl hbA hT.2.2.1 hi1 dL_law_1136 ?_
  rw [e1]
  refine lv_aload_n hx hb dL_law_1137 rfl (lv_at hl 1 rfl) ?_
  refine lv_iload hx hb dL_law_1138 (lv_at hl 5 rfl) ?_
  refine lv_iconst (v := 2) hx hb dL_law_1140 (by decide) ?_
  refine lv_iadd hx hb dL_law_1141 ?_
  refine va_sld hx hb hX hbl hbA hT.2.2.1 hi2 dL_law_1142 ?_
  rw [e2]
  refine kx_X8_foresee hC hN hK hT (cx_MALW Z a t b q q2 ow ma mb mq mg mr ap_1125 bp_1125 rp_1125 C_1125 T_1125 G_1125 P_1125 Y_1125 L_1125 B_1125 X_1125 S O N V J U) rfl hm wq_1933 (by decide) hl.1 (Nat.le_of_ble_eq_true rfl) ⟨by omega, by omega⟩ dL_law_1143 (fun r_1143 S_1143 O_1143 N_1143 H locs hm hT => ?_)
  have hT : TS vwCl D (LW Z a t b q q2 ow ma mb mq mg mr ap_1125 bp_1125 rp_1125 C_1125 T_1125 G_1125 P_1125 Y_1125 L_1125 B_1125 X_1125 S_1143 O_1143 N_1143 V J U) A s.heap H locs := hT
  refine lv_istore (lv' := [(6, .int r_1143), (5, .int r_1125), (0, .ref scr), (1, .ref (a 90)), (2, .ref (mg 220)), (3, .ref (ow)), (4, .int v4)]) hx hb dL_law_1146 hl (by decide) rfl (fun ls hl => ?_)
  refine lv_aload_n hx hb dL_law_1148 rfl (lv_at hl 4 rfl) ?_
  refine kx_X8_thrown hC hN hK hT.1 hT.D' (sx_QWLW Z a t b q q2 ow ma mb mq mg mr ap_1125 bp_1125 rp_1125 C_1125 T_1125 G_1125 P_1125 Y_1125 L_1125 B_1125 X_1125 S_1143 O_1143 N_1143 V J U) rfl hm wq_1466 (by decide) hl.1 (Nat.le_of_ble_eq_true rfl) ⟨by omega, by omega⟩ dL_law_1149 (fun r_1149 hm => ?_)
  refine lv_iload hx hb dL_law_1152 (lv_at hl 1 rfl) ?_
  refine lv_icmp_eq (tgt := 1159) hx hb dL_law_1154 (by decide) (fun c_1154 => ?_) (fun c_1154 => ?_)
  · have hm := hm.1 c_1154
    refine lv_iload hx hb dL_law_1159 (lv_at hl 1 rfl) ?_
    refine lv_if_ne (tgt := 1176) hx hb dL_law_1161 (by decide) (fun c_1161 => ?_) (fun c_1161 => ?_)
    · have hm := hm.1 c_1161
      refine lv_goto (tgt := 1346) hx hb dL_law_1176 (by decide) ?_
      exact hback _ _ _ _ _ ap_1125 bp_1125 rp_1125 C_1125 T_1125 G_1125 P_1125 Y_1125 L_1125 B_1125 X_1125 S_1143 O_1143 N_1143 V J U hm hT (lv_sub hl [2, 3, 4, 5, 6] rfl) (by omega) (by omega)
    · have hm := hm.2 c_1161
      refine lv_aload_n hx hb dL_law_1164 rfl (lv_at hl 5 rfl) ?_
      refine lv_iconst (v := 0) hx hb dL_law_1165 (by decide) ?_
      refine w_lald (q0 := 79) hC hK hT.1 rfl hm.1 dL_law_1166 ?_
      have hm := hm.2
      refine lv_iload hx hb dL_law_1167 (lv_at hl 0 rfl) ?_
      refine lv_i2l (v := r_1143.toInt64) hx hb dL_law_1169 rfl ?_
      refine W.lcmp hx hb dL_law_1170 ?_
      refine lv_if_eq (tgt := 1176) hx hb dL_law_1171 (by decide) (fun c_1171 => ?_) (fun c_1171 => ?_)
      · have hm := hm.1 c_1171
        refine lv_goto (tgt := 1346) hx hb dL_law_1176 (by decide) ?_
        exact hback _ _ _ _ _ ap_1125 bp_1125 rp_1125 C_1125 T_1125 G_1125 P_1125 Y_1125 L_1125 B_1125 X_1125 S_1143 O_1143 N_1143 V J U hm hT (lv_sub hl [2, 3, 4, 5, 6] rfl) (by omega) (by omega)
      · have hm := hm.2 c_1171
        refine lv_iconst (v := 0) hx hb dL_law_1174 (by decide) ?_
        exact hm.elim
  · have hm := hm.2 c_1154
    refine lv_iconst (v := 0) hx hb dL_law_1157 (by decide) ?_
    exact hm.elim
def wp_op_advise (q : Nat → Nat) (ap : Nat) (bp : Nat) (rp : Nat) (C : M2) (T : M2) (G : M2) (P : M2) (Y : M2) (L : L2) (B : M2) (X : L2) (S : M2) (O : M2) (N : M2) (V : M2) (J : M2) (U : M2) (y1 : Int32) (K : Nat → Nat → Nat → M2 → M2 → M2 → M2 → M2 → L2 → M2 → L2 → M2 → M2 → M2 → M2 → M2 → M2 → Prop) : Prop := wp_L_advise q ap bp rp C T G P Y L B X y1 (fun r_1187 ap_1187 bp_1187 rp_1187 C_1187 T_1187 G_1187 P_1187 Y_1187 L_1187 B_1187 X_1187 => wp_X8_advise U S O N y1 (fun r_1199 S_1199 O_1199 N_1199 => wp_X8_thrown U S_1199 N_1199 (fun r_1205 => ((r_1205 = r_1187 → ((¬ r_1187 = 0 → K ap_1187 bp_1187 rp_1187 C_1187 T_1187 G_1187 P_1187 Y_1187 L_1187 B_1187 X_1187 S_1199 O_1199 N_1199 V J U) ∧ (r_1187 = 0 → (inb 0 1 ∧ (((lg_cmp (X_1187 500 (0 : Int32).toInt.toNat) r_1199.toInt64) = 0 → K ap_1187 bp_1187 rp_1187 C_1187 T_1187 G_1187 P_1187 Y_1187 L_1187 B_1187 X_1187 S_1199 O_1199 N_1199 V J U) ∧ (¬ (lg_cmp (X_1187 500 (0 : Int32).toInt.toNat) r_1199.toInt64) = 0 → False)))))) ∧ (¬ r_1205 = r_1187 → False)))))
set_option maxRecDepth 100000 in
set_option maxHeartbeats 4000000 in
theorem t_op_advise {p : Program} {l : Launch} {e : Env} {s : State} {m : MethodId} {args : Array Value} {below : List Frame} {meth : Method} {c : Code} {Q : State → Prop} {A : Nat → Prop} {D : va_G} {rx : Nat → Nat} {Z : Nat → ClassId} {a t b q q2 : Nat → Nat} {ow : Nat} {ma mb mq mg : Nat → Nat} {mr : Nat} {ap : Nat} {bp : Nat} {rp : Nat} {C : M2} {T : M2} {G : M2} {P : M2} {Y : M2} {L : L2} {B : M2} {X : L2} {S : M2} {O : M2} {N : M2} {V : M2} {J : M2} {U : M2} {scr Ln cc cs : Nat} {xs : Nat → Int32} {v4 y1 : Int32} {K : Nat → Nat → Nat → M2 → M2 → M2 → M2 → M2 → L2 → M2 → L2 → M2 → M2 → M2 → M2 → M2 → M2 → Prop} {H : Heap} {locs : List Loc} {ls : Array Slot} (hC : CallFix p m c code 9 s args lw_g RL) (hN : NW s) (hfl : l.stackTraces = false) (hR : RXD rx A s s.heap) (hK : va_K D vwCl (tysG Z) s) (hX : va_X scr Ln xs s s.heap) (hbl : scr < s.heap.size) (hbA : ¬ A scr) (hi1 : vp_in (v4 + 1) Ln) (e1 : xs (v4 + 1).toNatClampNeg = y1) (hT : TS vwCl D (LW Z a t b q q2 ow ma mb mq mg mr ap bp rp C T G P Y L B X S O N V J U) A s.heap H locs) (hcb : cc + 400 ≤ 601024 ∧ cs + 4000 ≤ 7293034) (hm : wp_op_advise q ap bp rp C T G P Y L B X S O N V J U y1 K) (hback : ∀ (H : Heap) (locs : List Loc) (ls : Array Slot) (cc1 cs1 : Nat) (ap1 : Nat) (bp1 : Nat) (rp1 : Nat) (C1 : M2) (T1 : M2) (G1 : M2) (P1 : M2) (Y1 : M2) (L1 : L2) (B1 : M2) (X1 : L2) (S1 : M2) (O1 : M2) (N1 : M2) (V1 : M2) (J1 : M2) (U1 : M2), K ap1 bp1 rp1 C1 T1 G1 P1 Y1 L1 B1 X1 S1 O1 N1 V1 J1 U1 → TS vwCl D (LW Z a t b q q2 ow ma mb mq mg mr ap1 bp1 rp1 C1 T1 G1 P1 Y1 L1 B1 X1 S1 O1 N1 V1 J1 U1) A s.heap H locs → lv_has ls 9 [(0, .ref scr), (1, .ref (a 90)), (2, .ref (mg 220)), (3, .ref (ow)), (4, .int v4)] → cc1 ≤ cc + 400 → cs1 ≤ cs + 4000 → W p l e (rk 2048 601024 7293034) s m args below meth c H locs cc1 cs1 Q (F0 m 1346 ls [])) (hl : lv_has ls 9 [(0, .ref scr), (1, .ref (a 90)), (2, .ref (mg 220)), (3, .ref (ow)), (4, .int v4)]) : W p l e (rk 2048 601024 7293034) s m args below meth c H locs cc cs Q (F0 m 1179 ls []) := by
  have hx := hC.1
  have hb := hC.2.1
  refine lv_aload_n hx hb dL_law_1179 rfl (lv_at hl 1 rfl) ?_
  refine lv_aload_n hx hb dL_law_1180 rfl (lv_at hl 0 rfl) ?_
  refine lv_iload hx hb dL_law_1181 (lv_at hl 4 rfl) ?_
  refine lv_iconst (v := 1) hx hb dL_law_1183 (by decide) ?_
  refine lv_iadd hx hb dL_law_1184 ?_
  refine va_sld hx hb hX hbl hbA hT.2.2.1 hi1 dL_law_1185 ?_
  rw [e1]
  refine lv_aload_n hx hb dL_law_1186 rfl (lv_at hl 3 rfl) ?_
  refine kl_L_advise (rx := rx) hC hN hfl (hT.rxd hR) hK hT (cx_LXLW Z a t b q q2 ow ma mb mq mg mr ap bp rp C T G P Y L B X S O N V J U) rfl hm wq_1202 (by decide) hl.1 (Nat.le_of_ble_eq_true rfl) ⟨by omega, by omega⟩ dL_law_1187 (fun r_1187 ap_1187 bp_1187 rp_1187 C_1187 T_1187 G_1187 P_1187 Y_1187 L_1187 B_1187 X_1187 H locs hm hT => ?_)
  have hT : TS vwCl D (LW Z a t b q q2 ow ma mb mq mg mr ap_1187 bp_1187 rp_1187 C_1187 T_1187 G_1187 P_1187 Y_1187 L_1187 B_1187 X_1187 S O N V J U) A s.heap H locs := hT
  refine lv_istore (lv' := [(5, .int r_1187), (0, .ref scr), (1, .ref (a 90)), (2, .ref (mg 220)), (3, .ref (ow)), (4, .int v4)]) hx hb dL_law_1190 hl (by decide) rfl (fun ls hl => ?_)
  refine lv_aload_n hx hb dL_law_1192 rfl (lv_at hl 3 rfl) ?_
  refine lv_aload_n hx hb dL_law_1193 rfl (lv_at hl 1 rfl) ?_
  refine lv_iload hx hb dL_law_1194 (lv_at hl 5 rfl) ?_
  refine lv_iconst (v := 1) hx hb dL_law_1196 (by decide) ?_
  refine lv_iadd hx hb dL_law_1197 ?_
  refine va_sld hx hb hX hbl hbA hT.2.2.1 hi1 dL_law_1198 ?_
  rw [e1]
  refine kx_X8_advise hC hN hK hT (cx_MALW Z a t b q q2 ow ma mb mq mg mr ap_1187 bp_1187 rp_1187 C_1187 T_1187 G_1187 P_1187 Y_1187 L_1187 B_1187 X_1187 S O N V J U) rfl hm wq_1937 (by decide) hl.1 (Nat.le_of_ble_eq_true rfl) ⟨by omega, by omega⟩ dL_law_1199 (fun r_1199 S_1199 O_1199 N_1199 H locs hm hT => ?_)
  have hT : TS vwCl D (LW Z a t b q q2 ow ma mb mq mg mr ap_1187 bp_1187 rp_1187 C_1187 T_1187 G_1187 P_1187 Y_1187 L_1187 B_1187 X_1187 S_1199 O_1199 N_1199 V J U) A s.heap H locs := hT
  refine lv_istore (lv' := [(6, .int r_1199), (5, .int r_1187), (0, .ref scr), (1, .ref (a 90)), (2, .ref (mg 220)), (3, .ref (ow)), (4, .int v4)]) hx hb dL_law_1202 hl (by decide) rfl (fun ls hl => ?_)
  refine lv_aload_n hx hb dL_law_1204 rfl (lv_at hl 4 rfl) ?_
  refine kx_X8_thrown hC hN hK hT.1 hT.D' (sx_QWLW Z a t b q q2 ow ma mb mq mg mr ap_1187 bp_1187 rp_1187 C_1187 T_1187 G_1187 P_1187 Y_1187 L_1187 B_1187 X_1187 S_1199 O_1199 N_1199 V J U) rfl hm wq_1466 (by decide) hl.1 (Nat.le_of_ble_eq_true rfl) ⟨by omega, by omega⟩ dL_law_1205 (fun r_1205 hm => ?_)
  refine lv_iload hx hb dL_law_1208 (lv_at hl 1 rfl) ?_
  refine lv_icmp_eq (tgt := 1215) hx hb dL_law_1210 (by decide) (fun c_1210 => ?_) (fun c_1210 => ?_)
  · have hm := hm.1 c_1210
    refine lv_iload hx hb dL_law_1215 (lv_at hl 1 rfl) ?_
    refine lv_if_ne (tgt := 1232) hx hb dL_law_1217 (by decide) (fun c_1217 => ?_) (fun c_1217 => ?_)
    · have hm := hm.1 c_1217
      refine lv_goto (tgt := 1346) hx hb dL_law_1232 (by decide) ?_
      exact hback _ _ _ _ _ ap_1187 bp_1187 rp_1187 C_1187 T_1187 G_1187 P_1187 Y_1187 L_1187 B_1187 X_1187 S_1199 O_1199 N_1199 V J U hm hT (lv_sub hl [2, 3, 4, 5, 6] rfl) (by omega) (by omega)
    · have hm := hm.2 c_1217
      refine lv_aload_n hx hb dL_law_1220 rfl (lv_at hl 5 rfl) ?_
      refine lv_iconst (v := 0) hx hb dL_law_1221 (by decide) ?_
      refine w_lald (q0 := 79) hC hK hT.1 rfl hm.1 dL_law_1222 ?_
      have hm := hm.2
      refine lv_iload hx hb dL_law_1223 (lv_at hl 0 rfl) ?_
      refine lv_i2l (v := r_1199.toInt64) hx hb dL_law_1225 rfl ?_
      refine W.lcmp hx hb dL_law_1226 ?_
      refine lv_if_eq (tgt := 1232) hx hb dL_law_1227 (by decide) (fun c_1227 => ?_) (fun c_1227 => ?_)
      · have hm := hm.1 c_1227
        refine lv_goto (tgt := 1346) hx hb dL_law_1232 (by decide) ?_
        exact hback _ _ _ _ _ ap_1187 bp_1187 rp_1187 C_1187 T_1187 G_1187 P_1187 Y_1187 L_1187 B_1187 X_1187 S_1199 O_1199 N_1199 V J U hm hT (lv_sub hl [2, 3, 4, 5, 6] rfl) (by omega) (by omega)
      · have hm := hm.2 c_1227
        refine lv_iconst (v := 0) hx hb dL_law_1230 (by decide) ?_
        exact hm.elim
  · have hm := hm.2 c_1210
    refine lv_iconst (v := 0) hx hb dL_law_1213 (by decide) ?_
    exact hm.elim
def wp_op_missed (q : Nat → Nat) (ap : Nat) (bp : Nat) (rp : Nat) (C : M2) (T : M2) (G : M2) (P : M2) (Y : M2) (L : L2) (B : M2) (X : L2) (S : M2) (O : M2) (N : M2) (V : M2) (J : M2) (U : M2) (y1 : Int32) (K : Nat → Nat → Nat → M2 → M2 → M2 → M2 → M2 → L2 → M2 → L2 → M2 → M2 → M2 → M2 → M2 → M2 → Prop) : Prop := wp_L_missed q ap bp rp C T G P Y L B X y1 (fun r_1243 ap_1243 bp_1243 rp_1243 C_1243 T_1243 G_1243 P_1243 Y_1243 L_1243 B_1243 X_1243 => wp_X8_missed U S O N y1 (fun r_1255 S_1255 O_1255 N_1255 => wp_X8_thrown U S_1255 N_1255 (fun r_1261 => ((r_1261 = r_1243 → ((¬ r_1243 = 0 → K ap_1243 bp_1243 rp_1243 C_1243 T_1243 G_1243 P_1243 Y_1243 L_1243 B_1243 X_1243 S_1255 O_1255 N_1255 V J U) ∧ (r_1243 = 0 → (inb 0 1 ∧ (((lg_cmp (X_1243 500 (0 : Int32).toInt.toNat) r_1255.toInt64) = 0 → K ap_1243 bp_1243 rp_1243 C_1243 T_1243 G_1243 P_1243 Y_1243 L_1243 B_1243 X_1243 S_1255 O_1255 N_1255 V J U) ∧ (¬ (lg_cmp (X_1243 500 (0 : Int32).toInt.toNat) r_1255.toInt64) = 0 → False)))))) ∧ (¬ r_1261 = r_1243 → False)))))
set_option maxRecDepth 100000 in
set_option maxHeartbeats 4000000 in
theorem t_op_missed {p : Program} {l : Launch} {e : Env} {s : State} {m : MethodId} {args : Array Value} {below : List Frame} {meth : Method} {c : Code} {Q : State → Prop} {A : Nat → Prop} {D : va_G} {rx : Nat → Nat} {Z : Nat → ClassId} {a t b q q2 : Nat → Nat} {ow : Nat} {ma mb mq mg : Nat → Nat} {mr : Nat} {ap : Nat} {bp : Nat} {rp : Nat} {C : M2} {T : M2} {G : M2} {P : M2} {Y : M2} {L : L2} {B : M2} {X : L2} {S : M2} {O : M2} {N : M2} {V : M2} {J : M2} {U : M2} {scr Ln cc cs : Nat} {xs : Nat → Int32} {v4 y1 : Int32} {K : Nat → Nat → Nat → M2 → M2 → M2 → M2 → M2 → L2 → M2 → L2 → M2 → M2 → M2 → M2 → M2 → M2 → Prop} {H : Heap} {locs : List Loc} {ls : Array Slot} (hC : CallFix p m c code 9 s args lw_g RL) (hN : NW s) (hfl : l.stackTraces = false) (hR : RXD rx A s s.heap) (hK : va_K D vwCl (tysG Z) s) (hX : va_X scr Ln xs s s.heap) (hbl : scr < s.heap.size) (hbA : ¬ A scr) (hi1 : vp_in (v4 + 1) Ln) (e1 : xs (v4 + 1).toNatClampNeg = y1) (hT : TS vwCl D (LW Z a t b q q2 ow ma mb mq mg mr ap bp rp C T G P Y L B X S O N V J U) A s.heap H locs) (hcb : cc + 400 ≤ 601024 ∧ cs + 4000 ≤ 7293034) (hm : wp_op_missed q ap bp rp C T G P Y L B X S O N V J U y1 K) (hback : ∀ (H : Heap) (locs : List Loc) (ls : Array Slot) (cc1 cs1 : Nat) (ap1 : Nat) (bp1 : Nat) (rp1 : Nat) (C1 : M2) (T1 : M2) (G1 : M2) (P1 : M2) (Y1 : M2) (L1 : L2) (B1 : M2) (X1 : L2) (S1 : M2) (O1 : M2) (N1 : M2) (V1 : M2) (J1 : M2) (U1 : M2), K ap1 bp1 rp1 C1 T1 G1 P1 Y1 L1 B1 X1 S1 O1 N1 V1 J1 U1 → TS vwCl D (LW Z a t b q q2 ow ma mb mq mg mr ap1 bp1 rp1 C1 T1 G1 P1 Y1 L1 B1 X1 S1 O1 N1 V1 J1 U1) A s.heap H locs → lv_has ls 9 [(0, .ref scr), (1, .ref (a 90)), (2, .ref (mg 220)), (3, .ref (ow)), (4, .int v4)] → cc1 ≤ cc + 400 → cs1 ≤ cs + 4000 → W p l e (rk 2048 601024 7293034) s m args below meth c H locs cc1 cs1 Q (F0 m 1346 ls [])) (hl : lv_has ls 9 [(0, .ref scr), (1, .ref (a 90)), (2, .ref (mg 220)), (3, .ref (ow)), (4, .int v4)]) : W p l e (rk 2048 601024 7293034) s m args below meth c H locs cc cs Q (F0 m 1235 ls []) := by
  have hx := hC.1
  have hb := hC.2.1
  refine lv_aload_n hx hb dL_law_1235 rfl (lv_at hl 1 rfl) ?_
  refine lv_aload_n hx hb dL_law_1236 rfl (lv_at hl 0 rfl) ?_
  refine lv_iload hx hb dL_law_1237 (lv_at hl 4 rfl) ?_
  refine lv_iconst (v := 1) hx hb dL_law_1239 (by decide) ?_
  refine lv_iadd hx hb dL_law_1240 ?_
  refine va_sld hx hb hX hbl hbA hT.2.2.1 hi1 dL_law_1241 ?_
  rw [e1]
  refine lv_aload_n hx hb dL_law_1242 rfl (lv_at hl 3 rfl) ?_
  refine kl_L_missed (rx := rx) hC hN hfl (hT.rxd hR) hK hT (cx_LXLW Z a t b q q2 ow ma mb mq mg mr ap bp rp C T G P Y L B X S O N V J U) rfl hm wq_1209 (by decide) hl.1 (Nat.le_of_ble_eq_true rfl) ⟨by omega, by omega⟩ dL_law_1243 (fun r_1243 ap_1243 bp_1243 rp_1243 C_1243 T_1243 G_1243 P_1243 Y_1243 L_1243 B_1243 X_1243 H locs hm hT => ?_)
  have hT : TS vwCl D (LW Z a t b q q2 ow ma mb mq mg mr ap_1243 bp_1243 rp_1243 C_1243 T_1243 G_1243 P_1243 Y_1243 L_1243 B_1243 X_1243 S O N V J U) A s.heap H locs := hT
  refine lv_istore (lv' := [(5, .int r_1243), (0, .ref scr), (1, .ref (a 90)), (2, .ref (mg 220)), (3, .ref (ow)), (4, .int v4)]) hx hb dL_law_1246 hl (by decide) rfl (fun ls hl => ?_)
  refine lv_aload_n hx hb dL_law_1248 rfl (lv_at hl 3 rfl) ?_
  refine lv_aload_n hx hb dL_law_1249 rfl (lv_at hl 1 rfl) ?_
  refine lv_iload hx hb dL_law_1250 (lv_at hl 5 rfl) ?_
  refine lv_iconst (v := 1) hx hb dL_law_1252 (by decide) ?_
  refine lv_iadd hx hb dL_law_1253 ?_
  refine va_sld hx hb hX hbl hbA hT.2.2.1 hi1 dL_law_1254 ?_
  rw [e1]
  refine kx_X8_missed hC hN hK hT (cx_MALW Z a t b q q2 ow ma mb mq mg mr ap_1243 bp_1243 rp_1243 C_1243 T_1243 G_1243 P_1243 Y_1243 L_1243 B_1243 X_1243 S O N V J U) rfl hm wq_1941 (by decide) hl.1 (Nat.le_of_ble_eq_true rfl) ⟨by omega, by omega⟩ dL_law_1255 (fun r_1255 S_1255 O_1255 N_1255 H locs hm hT => ?_)
  have hT : TS vwCl D (LW Z a t b q q2 ow ma mb mq mg mr ap_1243 bp_1243 rp_1243 C_1243 T_1243 G_1243 P_1243 Y_1243 L_1243 B_1243 X_1243 S_1255 O_1255 N_1255 V J U) A s.heap H locs := hT
  refine lv_istore (lv' := [(6, .int r_1255), (5, .int r_1243), (0, .ref scr), (1, .ref (a 90)), (2, .ref (mg 220)), (3, .ref (ow)), (4, .int v4)]) hx hb dL_law_1258 hl (by decide) rfl (fun ls hl => ?_)
  refine lv_aload_n hx hb dL_law_1260 rfl (lv_at hl 4 rfl) ?_
  refine kx_X8_thrown hC hN hK hT.1 hT.D' (sx_QWLW Z a t b q q2 ow ma mb mq mg mr ap_1243 bp_1243 rp_1243 C_1243 T_1243 G_1243 P_1243 Y_1243 L_1243 B_1243 X_1243 S_1255 O_1255 N_1255 V J U) rfl hm wq_1466 (by decide) hl.1 (Nat.le_of_ble_eq_true rfl) ⟨by omega, by omega⟩ dL_law_1261 (fun r_1261 hm => ?_)
  refine lv_iload hx hb dL_law_1264 (lv_at hl 1 rfl) ?_
  refine lv_icmp_eq (tgt := 1271) hx hb dL_law_1266 (by decide) (fun c_1266 => ?_) (fun c_1266 => ?_)
  · have hm := hm.1 c_1266
    refine lv_iload hx hb dL_law_1271 (lv_at hl 1 rfl) ?_
    refine lv_if_ne (tgt := 1288) hx hb dL_law_1273 (by decide) (fun c_1273 => ?_) (fun c_1273 => ?_)
    · have hm := hm.1 c_1273
      refine lv_goto (tgt := 1346) hx hb dL_law_1288 (by decide) ?_
      exact hback _ _ _ _ _ ap_1243 bp_1243 rp_1243 C_1243 T_1243 G_1243 P_1243 Y_1243 L_1243 B_1243 X_1243 S_1255 O_1255 N_1255 V J U hm hT (lv_sub hl [2, 3, 4, 5, 6] rfl) (by omega) (by omega)
    · have hm := hm.2 c_1273
      refine lv_aload_n hx hb dL_law_1276 rfl (lv_at hl 5 rfl) ?_
      refine lv_iconst (v := 0) hx hb dL_law_1277 (by decide) ?_
      refine w_lald (q0 := 79) hC hK hT.1 rfl hm.1 dL_law_1278 ?_
      have hm := hm.2
      refine lv_iload hx hb dL_law_1279 (lv_at hl 0 rfl) ?_
      refine lv_i2l (v := r_1255.toInt64) hx hb dL_law_1281 rfl ?_
      refine W.lcmp hx hb dL_law_1282 ?_
      refine lv_if_eq (tgt := 1288) hx hb dL_law_1283 (by decide) (fun c_1283 => ?_) (fun c_1283 => ?_)
      · have hm := hm.1 c_1283
        refine lv_goto (tgt := 1346) hx hb dL_law_1288 (by decide) ?_
        exact hback _ _ _ _ _ ap_1243 bp_1243 rp_1243 C_1243 T_1243 G_1243 P_1243 Y_1243 L_1243 B_1243 X_1243 S_1255 O_1255 N_1255 V J U hm hT (lv_sub hl [2, 3, 4, 5, 6] rfl) (by omega) (by omega)
      · have hm := hm.2 c_1283
        refine lv_iconst (v := 0) hx hb dL_law_1286 (by decide) ?_
        exact hm.elim
  · have hm := hm.2 c_1266
    refine lv_iconst (v := 0) hx hb dL_law_1269 (by decide) ?_
    exact hm.elim
def wp_op_mean (q : Nat → Nat) (ap : Nat) (bp : Nat) (rp : Nat) (C : M2) (T : M2) (G : M2) (P : M2) (Y : M2) (L : L2) (B : M2) (X : L2) (S : M2) (O : M2) (N : M2) (V : M2) (J : M2) (U : M2) (K : Nat → Nat → Nat → M2 → M2 → M2 → M2 → M2 → L2 → M2 → L2 → M2 → M2 → M2 → M2 → M2 → M2 → Prop) : Prop := wp_X5_mean P T C (fun r_1292 T_1292 C_1292 => wp_X8_mean U S N (fun r_1298 S_1298 N_1298 => (((Op.cmpValue (FP.dcmp r_1292 r_1298) CmpOp.l) = 0 → K ap bp rp C_1292 T_1292 G P Y L B X S_1298 O N_1298 V J U) ∧ (¬ (Op.cmpValue (FP.dcmp r_1292 r_1298) CmpOp.l) = 0 → (((Op.cmpValue (FP.dcmp r_1292 r_1292) CmpOp.l) = 0 → False) ∧ (¬ (Op.cmpValue (FP.dcmp r_1292 r_1292) CmpOp.l) = 0 → ((¬ (Op.cmpValue (FP.dcmp r_1298 r_1298) CmpOp.l) = 0 → K ap bp rp C_1292 T_1292 G P Y L B X S_1298 O N_1298 V J U) ∧ ((Op.cmpValue (FP.dcmp r_1298 r_1298) CmpOp.l) = 0 → False))))))))
set_option maxRecDepth 100000 in
set_option maxHeartbeats 4000000 in
theorem t_op_mean {p : Program} {l : Launch} {e : Env} {s : State} {m : MethodId} {args : Array Value} {below : List Frame} {meth : Method} {c : Code} {Q : State → Prop} {A : Nat → Prop} {D : va_G} {rx : Nat → Nat} {Z : Nat → ClassId} {a t b q q2 : Nat → Nat} {ow : Nat} {ma mb mq mg : Nat → Nat} {mr : Nat} {ap : Nat} {bp : Nat} {rp : Nat} {C : M2} {T : M2} {G : M2} {P : M2} {Y : M2} {L : L2} {B : M2} {X : L2} {S : M2} {O : M2} {N : M2} {V : M2} {J : M2} {U : M2} {scr Ln cc cs : Nat} {xs : Nat → Int32} {v4 : Int32} {K : Nat → Nat → Nat → M2 → M2 → M2 → M2 → M2 → L2 → M2 → L2 → M2 → M2 → M2 → M2 → M2 → M2 → Prop} {H : Heap} {locs : List Loc} {ls : Array Slot} (hC : CallFix p m c code 9 s args lw_g RL) (hN : NW s) (hfl : l.stackTraces = false) (hR : RXD rx A s s.heap) (hK : va_K D vwCl (tysG Z) s) (hX : va_X scr Ln xs s s.heap) (hbl : scr < s.heap.size) (hbA : ¬ A scr) (hT : TS vwCl D (LW Z a t b q q2 ow ma mb mq mg mr ap bp rp C T G P Y L B X S O N V J U) A s.heap H locs) (hcb : cc + 400 ≤ 601024 ∧ cs + 4000 ≤ 7293034) (hm : wp_op_mean q ap bp rp C T G P Y L B X S O N V J U K) (hback : ∀ (H : Heap) (locs : List Loc) (ls : Array Slot) (cc1 cs1 : Nat) (ap1 : Nat) (bp1 : Nat) (rp1 : Nat) (C1 : M2) (T1 : M2) (G1 : M2) (P1 : M2) (Y1 : M2) (L1 : L2) (B1 : M2) (X1 : L2) (S1 : M2) (O1 : M2) (N1 : M2) (V1 : M2) (J1 : M2) (U1 : M2), K ap1 bp1 rp1 C1 T1 G1 P1 Y1 L1 B1 X1 S1 O1 N1 V1 J1 U1 → TS vwCl D (LW Z a t b q q2 ow ma mb mq mg mr ap1 bp1 rp1 C1 T1 G1 P1 Y1 L1 B1 X1 S1 O1 N1 V1 J1 U1) A s.heap H locs → lv_has ls 9 [(0, .ref scr), (1, .ref (a 90)), (2, .ref (mg 220)), (3, .ref (ow)), (4, .int v4)] → cc1 ≤ cc + 400 → cs1 ≤ cs + 4000 → W p l e (rk 2048 601024 7293034) s m args below meth c H locs cc1 cs1 Q (F0 m 1346 ls [])) (hl : lv_has ls 9 [(0, .ref scr), (1, .ref (a 90)), (2, .ref (mg 220)), (3, .ref (ow)), (4, .int v4)]) : W p l e (rk 2048 601024 7293034) s m args below meth c H locs cc cs Q (F0 m 1291 ls []) := by
  have hx := hC.1
  have hb := hC.2.1
  refine lv_aload_n hx hb dL_law_1291 rfl (lv_at hl 1 rfl) ?_
  refine kx_X5_mean hC hN hK hT (cx_CQLW Z a t b q q2 ow ma mb mq mg mr ap bp rp C T G P Y L B X S O N V J U) rfl hm wq_802 (by decide) hl.1 (Nat.le_of_ble_eq_true rfl) ⟨by omega, by omega⟩ dL_law_1292 (fun r_1292 T_1292 C_1292 H locs hm hT => ?_)
  have hT : TS vwCl D (LW Z a t b q q2 ow ma mb mq mg mr ap bp rp C_1292 T_1292 G P Y L B X S O N V J U) A s.heap H locs := hT
  refine lv_dstore (lv' := [(5, .double r_1292), (0, .ref scr), (1, .ref (a 90)), (2, .ref (mg 220)), (3, .ref (ow)), (4, .int v4)]) hx hb dL_law_1295 hl (by decide) rfl (fun ls hl => ?_)
  refine lv_aload_n hx hb dL_law_1297 rfl (lv_at hl 3 rfl) ?_
  refine kx_X8_mean hC hN hK hT (cx_QWLW Z a t b q q2 ow ma mb mq mg mr ap bp rp C_1292 T_1292 G P Y L B X S O N V J U) rfl hm wq_1945 (by decide) hl.1 (Nat.le_of_ble_eq_true rfl) ⟨by omega, by omega⟩ dL_law_1298 (fun r_1298 S_1298 N_1298 H locs hm hT => ?_)
  have hT : TS vwCl D (LW Z a t b q q2 ow ma mb mq mg mr ap bp rp C_1292 T_1292 G P Y L B X S_1298 O N_1298 V J U) A s.heap H locs := hT
  refine lv_dstore (lv' := [(7, .double r_1298), (5, .double r_1292), (0, .ref scr), (1, .ref (a 90)), (2, .ref (mg 220)), (3, .ref (ow)), (4, .int v4)]) hx hb dL_law_1301 hl (by decide) rfl (fun ls hl => ?_)
  refine lv_dload hx hb dL_law_1303 (lv_at hl 1 rfl) ?_
  refine lv_dload hx hb dL_law_1305 (lv_at hl 0 rfl) ?_
  refine lv_dcmp hx hb dL_law_1307 ?_
  refine lv_if_eq (tgt := 1329) hx hb dL_law_1308 (by decide) (fun c_1308 => ?_) (fun c_1308 => ?_)
  · have hm := hm.1 c_1308
    refine lv_goto (tgt := 1346) hx hb dL_law_1329 (by decide) ?_
    exact hback _ _ _ _ _ ap bp rp C_1292 T_1292 G P Y L B X S_1298 O N_1298 V J U hm hT (lv_sub hl [2, 3, 4, 5, 6] rfl) (by omega) (by omega)
  · have hm := hm.2 c_1308
    refine lv_dload hx hb dL_law_1311 (lv_at hl 1 rfl) ?_
    refine lv_dload hx hb dL_law_1313 (lv_at hl 1 rfl) ?_
    refine lv_dcmp hx hb dL_law_1315 ?_
    refine lv_if_eq (tgt := 1327) hx hb dL_law_1316 (by decide) (fun c_1316 => ?_) (fun c_1316 => ?_)
    · have hm := hm.1 c_1316
      refine lv_iconst (v := 0) hx hb dL_law_1327 (by decide) ?_
      exact hm.elim
    · have hm := hm.2 c_1316
      refine lv_dload hx hb dL_law_1319 (lv_at hl 0 rfl) ?_
      refine lv_dload hx hb dL_law_1321 (lv_at hl 0 rfl) ?_
      refine lv_dcmp hx hb dL_law_1323 ?_
      refine lv_if_ne (tgt := 1329) hx hb dL_law_1324 (by decide) (fun c_1324 => ?_) (fun c_1324 => ?_)
      · have hm := hm.1 c_1324
        refine lv_goto (tgt := 1346) hx hb dL_law_1329 (by decide) ?_
        exact hback _ _ _ _ _ ap bp rp C_1292 T_1292 G P Y L B X S_1298 O N_1298 V J U hm hT (lv_sub hl [2, 3, 4, 5, 6] rfl) (by omega) (by omega)
      · have hm := hm.2 c_1324
        refine lv_iconst (v := 0) hx hb dL_law_1327 (by decide) ?_
        exact hm.elim
def wp_op_digest (q : Nat → Nat) (ap : Nat) (bp : Nat) (rp : Nat) (C : M2) (T : M2) (G : M2) (P : M2) (Y : M2) (L : L2) (B : M2) (X : L2) (S : M2) (O : M2) (N : M2) (V : M2) (J : M2) (U : M2) (K : Nat → Nat → Nat → M2 → M2 → M2 → M2 → M2 → L2 → M2 → L2 → M2 → M2 → M2 → M2 → M2 → M2 → Prop) : Prop := wp_X5_digest P T C (fun r_1333 => wp_X8_digest U S N (fun r_1337 S_1337 N_1337 => (((lg_cmp r_1333 r_1337) = 0 → K ap bp rp C T G P Y L B X S_1337 O N_1337 V J U) ∧ (¬ (lg_cmp r_1333 r_1337) = 0 → False))))
set_option maxRecDepth 100000 in
set_option maxHeartbeats 4000000 in
theorem t_op_digest {p : Program} {l : Launch} {e : Env} {s : State} {m : MethodId} {args : Array Value} {below : List Frame} {meth : Method} {c : Code} {Q : State → Prop} {A : Nat → Prop} {D : va_G} {rx : Nat → Nat} {Z : Nat → ClassId} {a t b q q2 : Nat → Nat} {ow : Nat} {ma mb mq mg : Nat → Nat} {mr : Nat} {ap : Nat} {bp : Nat} {rp : Nat} {C : M2} {T : M2} {G : M2} {P : M2} {Y : M2} {L : L2} {B : M2} {X : L2} {S : M2} {O : M2} {N : M2} {V : M2} {J : M2} {U : M2} {scr Ln cc cs : Nat} {xs : Nat → Int32} {v4 : Int32} {K : Nat → Nat → Nat → M2 → M2 → M2 → M2 → M2 → L2 → M2 → L2 → M2 → M2 → M2 → M2 → M2 → M2 → Prop} {H : Heap} {locs : List Loc} {ls : Array Slot} (hC : CallFix p m c code 9 s args lw_g RL) (hN : NW s) (hfl : l.stackTraces = false) (hR : RXD rx A s s.heap) (hK : va_K D vwCl (tysG Z) s) (hX : va_X scr Ln xs s s.heap) (hbl : scr < s.heap.size) (hbA : ¬ A scr) (hT : TS vwCl D (LW Z a t b q q2 ow ma mb mq mg mr ap bp rp C T G P Y L B X S O N V J U) A s.heap H locs) (hcb : cc + 400 ≤ 601024 ∧ cs + 4000 ≤ 7293034) (hm : wp_op_digest q ap bp rp C T G P Y L B X S O N V J U K) (hback : ∀ (H : Heap) (locs : List Loc) (ls : Array Slot) (cc1 cs1 : Nat) (ap1 : Nat) (bp1 : Nat) (rp1 : Nat) (C1 : M2) (T1 : M2) (G1 : M2) (P1 : M2) (Y1 : M2) (L1 : L2) (B1 : M2) (X1 : L2) (S1 : M2) (O1 : M2) (N1 : M2) (V1 : M2) (J1 : M2) (U1 : M2), K ap1 bp1 rp1 C1 T1 G1 P1 Y1 L1 B1 X1 S1 O1 N1 V1 J1 U1 → TS vwCl D (LW Z a t b q q2 ow ma mb mq mg mr ap1 bp1 rp1 C1 T1 G1 P1 Y1 L1 B1 X1 S1 O1 N1 V1 J1 U1) A s.heap H locs → lv_has ls 9 [(0, .ref scr), (1, .ref (a 90)), (2, .ref (mg 220)), (3, .ref (ow)), (4, .int v4)] → cc1 ≤ cc + 400 → cs1 ≤ cs + 4000 → W p l e (rk 2048 601024 7293034) s m args below meth c H locs cc1 cs1 Q (F0 m 1346 ls [])) (hl : lv_has ls 9 [(0, .ref scr), (1, .ref (a 90)), (2, .ref (mg 220)), (3, .ref (ow)), (4, .int v4)]) : W p l e (rk 2048 601024 7293034) s m args below meth c H locs cc cs Q (F0 m 1332 ls []) := by
  have hx := hC.1
  have hb := hC.2.1
  refine lv_aload_n hx hb dL_law_1332 rfl (lv_at hl 1 rfl) ?_
  refine kx_X5_digest hC hN hK hT.1 hT.D' (sx_CQLW Z a t b q q2 ow ma mb mq mg mr ap bp rp C T G P Y L B X S O N V J U) rfl hm wq_806 (by decide) hl.1 (Nat.le_of_ble_eq_true rfl) ⟨by omega, by omega⟩ dL_law_1333 (fun r_1333 hm => ?_)
  refine lv_aload_n hx hb dL_law_1336 rfl (lv_at hl 2 rfl) ?_
  refine kx_X8_digest hC hN hK hT (cx_QWLW Z a t b q q2 ow ma mb mq mg mr ap bp rp C T G P Y L B X S O N V J U) rfl hm wq_1949 (by decide) hl.1 (Nat.le_of_ble_eq_true rfl) ⟨by omega, by omega⟩ dL_law_1337 (fun r_1337 S_1337 N_1337 H locs hm hT => ?_)
  have hT : TS vwCl D (LW Z a t b q q2 ow ma mb mq mg mr ap bp rp C T G P Y L B X S_1337 O N_1337 V J U) A s.heap H locs := hT
  refine W.lcmp hx hb dL_law_1340 ?_
  refine lv_if_eq (tgt := 1346) hx hb dL_law_1341 (by decide) (fun c_1341 => ?_) (fun c_1341 => ?_)
  · have hm := hm.1 c_1341
    exact hback _ _ _ _ _ ap bp rp C T G P Y L B X S_1337 O N_1337 V J U hm hT (lv_sub hl [0, 1, 2, 3, 4] rfl) (by omega) (by omega)
  · have hm := hm.2 c_1341
    refine lv_iconst (v := 0) hx hb dL_law_1344 (by decide) ?_
    exact hm.elim
