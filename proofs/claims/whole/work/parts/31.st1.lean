theorem dX8_isIn_0 : decode cX8_isIn 0 = .ok (.iload_n 0, 1) := by decide +kernel
theorem dX8_isIn_1 : decode cX8_isIn 1 = .ok (.iload_n 1, 1) := by decide +kernel
theorem dX8_isIn_2 : decode cX8_isIn 2 = .ok (.if_icmp .lt 12, 3) := by decide +kernel
theorem dX8_isIn_5 : decode cX8_isIn 5 = .ok (.iload_n 0, 1) := by decide +kernel
theorem dX8_isIn_6 : decode cX8_isIn 6 = .ok (.iload_n 2, 1) := by decide +kernel
theorem dX8_isIn_7 : decode cX8_isIn 7 = .ok (.if_icmp .gt 7, 3) := by decide +kernel
theorem dX8_isIn_10 : decode cX8_isIn 10 = .ok (.iconst 1, 1) := by decide +kernel
theorem dX8_isIn_11 : decode cX8_isIn 11 = .ok (.goto 4, 3) := by decide +kernel
theorem dX8_isIn_14 : decode cX8_isIn 14 = .ok (.iconst 0, 1) := by decide +kernel
theorem dX8_isIn_15 : decode cX8_isIn 15 = .ok (.ireturn, 1) := by decide +kernel
theorem dX8_isOf_0 : decode cX8_isOf 0 = .ok (.iload_n 0, 1) := by decide +kernel
theorem dX8_isOf_1 : decode cX8_isOf 1 = .ok (.bipush 23, 2) := by decide +kernel
theorem dX8_isOf_3 : decode cX8_isOf 3 = .ok (.bipush 27, 2) := by decide +kernel
theorem dX8_isOf_5 : decode cX8_isOf 5 = .ok (.invokestatic 63, 3) := by decide +kernel
theorem dX8_isOf_8 : decode cX8_isOf 8 = .ok (.ireturn, 1) := by decide +kernel
theorem dX8_isPushed_0 : decode cX8_isPushed 0 = .ok (.iload_n 0, 1) := by decide +kernel
theorem dX8_isPushed_1 : decode cX8_isPushed 1 = .ok (.bipush 32, 2) := by decide +kernel
theorem dX8_isPushed_3 : decode cX8_isPushed 3 = .ok (.if_icmp .eq 22, 3) := by decide +kernel
theorem dX8_isPushed_6 : decode cX8_isPushed 6 = .ok (.iload_n 0, 1) := by decide +kernel
theorem dX8_isPushed_7 : decode cX8_isPushed 7 = .ok (.bipush 20, 2) := by decide +kernel
theorem dX8_isPushed_9 : decode cX8_isPushed 9 = .ok (.if_icmp .eq 16, 3) := by decide +kernel
theorem dX8_isPushed_12 : decode cX8_isPushed 12 = .ok (.iload_n 0, 1) := by decide +kernel
theorem dX8_isPushed_13 : decode cX8_isPushed 13 = .ok (.bipush 21, 2) := by decide +kernel
theorem dX8_isPushed_15 : decode cX8_isPushed 15 = .ok (.if_icmp .eq 10, 3) := by decide +kernel
theorem dX8_isPushed_18 : decode cX8_isPushed 18 = .ok (.iload_n 0, 1) := by decide +kernel
theorem dX8_isPushed_19 : decode cX8_isPushed 19 = .ok (.invokestatic 76, 3) := by decide +kernel
theorem dX8_isPushed_22 : decode cX8_isPushed 22 = .ok (.ifCond .eq 7, 3) := by decide +kernel
theorem dX8_isPushed_25 : decode cX8_isPushed 25 = .ok (.iconst 1, 1) := by decide +kernel
theorem dX8_isPushed_26 : decode cX8_isPushed 26 = .ok (.goto 4, 3) := by decide +kernel
theorem dX8_isPushed_29 : decode cX8_isPushed 29 = .ok (.iconst 0, 1) := by decide +kernel
theorem dX8_isPushed_30 : decode cX8_isPushed 30 = .ok (.ireturn, 1) := by decide +kernel
theorem dX8_both_0 : decode cX8_both 0 = .ok (.iload_n 0, 1) := by decide +kernel
theorem dX8_both_1 : decode cX8_both 1 = .ok (.tableswitch 226 16 44 #[222, 226, 226, 226, 226, 226, 226, 226, 226, 226, 226, 226, 226, 226, 155, 161, 226, 226, 131, 135, 139, 143, 167, 178, 226, 226, 189, 200, 211], 131) := by decide +kernel
theorem dX8_both_132 : decode cX8_both 132 = .ok (.iload_n 1, 1) := by decide +kernel
theorem dX8_both_133 : decode cX8_both 133 = .ok (.iload_n 2, 1) := by decide +kernel
theorem dX8_both_134 : decode cX8_both 134 = .ok (.iadd, 1) := by decide +kernel
theorem dX8_both_135 : decode cX8_both 135 = .ok (.ireturn, 1) := by decide +kernel
theorem dX8_both_136 : decode cX8_both 136 = .ok (.iload_n 1, 1) := by decide +kernel
theorem dX8_both_137 : decode cX8_both 137 = .ok (.iload_n 2, 1) := by decide +kernel
theorem dX8_both_138 : decode cX8_both 138 = .ok (.isub, 1) := by decide +kernel
theorem dX8_both_139 : decode cX8_both 139 = .ok (.ireturn, 1) := by decide +kernel
theorem dX8_both_140 : decode cX8_both 140 = .ok (.iload_n 1, 1) := by decide +kernel
theorem dX8_both_141 : decode cX8_both 141 = .ok (.iload_n 2, 1) := by decide +kernel
theorem dX8_both_142 : decode cX8_both 142 = .ok (.imul, 1) := by decide +kernel
theorem dX8_both_143 : decode cX8_both 143 = .ok (.ireturn, 1) := by decide +kernel
theorem dX8_both_144 : decode cX8_both 144 = .ok (.iload_n 2, 1) := by decide +kernel
theorem dX8_both_145 : decode cX8_both 145 = .ok (.ifCond .ne 7, 3) := by decide +kernel
theorem dX8_both_148 : decode cX8_both 148 = .ok (.iconst 0, 1) := by decide +kernel
theorem dX8_both_149 : decode cX8_both 149 = .ok (.goto 6, 3) := by decide +kernel
theorem dX8_both_152 : decode cX8_both 152 = .ok (.iload_n 1, 1) := by decide +kernel
theorem dX8_both_153 : decode cX8_both 153 = .ok (.iload_n 2, 1) := by decide +kernel
theorem dX8_both_154 : decode cX8_both 154 = .ok (.idiv, 1) := by decide +kernel
theorem dX8_both_155 : decode cX8_both 155 = .ok (.ireturn, 1) := by decide +kernel
theorem dX8_both_156 : decode cX8_both 156 = .ok (.iload_n 1, 1) := by decide +kernel
theorem dX8_both_157 : decode cX8_both 157 = .ok (.iload_n 2, 1) := by decide +kernel
theorem dX8_both_158 : decode cX8_both 158 = .ok (.invokestatic 80, 3) := by decide +kernel
theorem dX8_both_161 : decode cX8_both 161 = .ok (.ireturn, 1) := by decide +kernel
theorem dX8_both_162 : decode cX8_both 162 = .ok (.iload_n 1, 1) := by decide +kernel
theorem dX8_both_163 : decode cX8_both 163 = .ok (.iload_n 2, 1) := by decide +kernel
theorem dX8_both_164 : decode cX8_both 164 = .ok (.invokestatic 86, 3) := by decide +kernel
theorem dX8_both_167 : decode cX8_both 167 = .ok (.ireturn, 1) := by decide +kernel
theorem dX8_both_168 : decode cX8_both 168 = .ok (.iload_n 1, 1) := by decide +kernel
theorem dX8_both_169 : decode cX8_both 169 = .ok (.iload_n 2, 1) := by decide +kernel
theorem dX8_both_170 : decode cX8_both 170 = .ok (.if_icmp .ge 7, 3) := by decide +kernel
theorem dX8_both_173 : decode cX8_both 173 = .ok (.iconst 1, 1) := by decide +kernel
theorem dX8_both_174 : decode cX8_both 174 = .ok (.goto 4, 3) := by decide +kernel
theorem dX8_both_177 : decode cX8_both 177 = .ok (.iconst 0, 1) := by decide +kernel
theorem dX8_both_178 : decode cX8_both 178 = .ok (.ireturn, 1) := by decide +kernel
theorem dX8_both_179 : decode cX8_both 179 = .ok (.iload_n 1, 1) := by decide +kernel
theorem dX8_both_180 : decode cX8_both 180 = .ok (.iload_n 2, 1) := by decide +kernel
theorem dX8_both_181 : decode cX8_both 181 = .ok (.if_icmp .le 7, 3) := by decide +kernel
theorem dX8_both_184 : decode cX8_both 184 = .ok (.iconst 1, 1) := by decide +kernel
theorem dX8_both_185 : decode cX8_both 185 = .ok (.goto 4, 3) := by decide +kernel
theorem dX8_both_188 : decode cX8_both 188 = .ok (.iconst 0, 1) := by decide +kernel
theorem dX8_both_189 : decode cX8_both 189 = .ok (.ireturn, 1) := by decide +kernel
theorem dX8_both_190 : decode cX8_both 190 = .ok (.iload_n 1, 1) := by decide +kernel
theorem dX8_both_191 : decode cX8_both 191 = .ok (.iload_n 2, 1) := by decide +kernel
theorem dX8_both_192 : decode cX8_both 192 = .ok (.if_icmp .ne 7, 3) := by decide +kernel
theorem dX8_both_195 : decode cX8_both 195 = .ok (.iconst 1, 1) := by decide +kernel
theorem dX8_both_196 : decode cX8_both 196 = .ok (.goto 4, 3) := by decide +kernel
theorem dX8_both_199 : decode cX8_both 199 = .ok (.iconst 0, 1) := by decide +kernel
theorem dX8_both_200 : decode cX8_both 200 = .ok (.ireturn, 1) := by decide +kernel
theorem dX8_both_201 : decode cX8_both 201 = .ok (.iload_n 1, 1) := by decide +kernel
theorem dX8_both_202 : decode cX8_both 202 = .ok (.iload_n 2, 1) := by decide +kernel
theorem dX8_both_203 : decode cX8_both 203 = .ok (.if_icmp .gt 7, 3) := by decide +kernel
theorem dX8_both_206 : decode cX8_both 206 = .ok (.iconst 1, 1) := by decide +kernel
theorem dX8_both_207 : decode cX8_both 207 = .ok (.goto 4, 3) := by decide +kernel
theorem dX8_both_210 : decode cX8_both 210 = .ok (.iconst 0, 1) := by decide +kernel
theorem dX8_both_211 : decode cX8_both 211 = .ok (.ireturn, 1) := by decide +kernel
theorem dX8_both_212 : decode cX8_both 212 = .ok (.iload_n 1, 1) := by decide +kernel
theorem dX8_both_213 : decode cX8_both 213 = .ok (.iload_n 2, 1) := by decide +kernel
theorem dX8_both_214 : decode cX8_both 214 = .ok (.if_icmp .lt 7, 3) := by decide +kernel
theorem dX8_both_217 : decode cX8_both 217 = .ok (.iconst 1, 1) := by decide +kernel
theorem dX8_both_218 : decode cX8_both 218 = .ok (.goto 4, 3) := by decide +kernel
theorem dX8_both_221 : decode cX8_both 221 = .ok (.iconst 0, 1) := by decide +kernel
theorem dX8_both_222 : decode cX8_both 222 = .ok (.ireturn, 1) := by decide +kernel
theorem dX8_both_223 : decode cX8_both 223 = .ok (.iload_n 1, 1) := by decide +kernel
theorem dX8_both_224 : decode cX8_both 224 = .ok (.iload_n 2, 1) := by decide +kernel
theorem dX8_both_225 : decode cX8_both 225 = .ok (.iand, 1) := by decide +kernel
theorem dX8_both_226 : decode cX8_both 226 = .ok (.ireturn, 1) := by decide +kernel
theorem dX8_both_227 : decode cX8_both 227 = .ok (.iload_n 1, 1) := by decide +kernel
theorem dX8_both_228 : decode cX8_both 228 = .ok (.iload_n 2, 1) := by decide +kernel
theorem dX8_both_229 : decode cX8_both 229 = .ok (.ior, 1) := by decide +kernel
theorem dX8_both_230 : decode cX8_both 230 = .ok (.ireturn, 1) := by decide +kernel
theorem dX8_isLetter_0 : decode cX8_isLetter 0 = .ok (.iload_n 0, 1) := by decide +kernel
theorem dX8_isLetter_1 : decode cX8_isLetter 1 = .ok (.bipush 97, 2) := by decide +kernel
theorem dX8_isLetter_3 : decode cX8_isLetter 3 = .ok (.if_icmp .lt 13, 3) := by decide +kernel
theorem dX8_isLetter_6 : decode cX8_isLetter 6 = .ok (.iload_n 0, 1) := by decide +kernel
theorem dX8_isLetter_7 : decode cX8_isLetter 7 = .ok (.bipush 122, 2) := by decide +kernel
theorem dX8_isLetter_9 : decode cX8_isLetter 9 = .ok (.if_icmp .gt 7, 3) := by decide +kernel
theorem dX8_isLetter_12 : decode cX8_isLetter 12 = .ok (.iconst 1, 1) := by decide +kernel
theorem dX8_isLetter_13 : decode cX8_isLetter 13 = .ok (.goto 4, 3) := by decide +kernel
theorem dX8_isLetter_16 : decode cX8_isLetter 16 = .ok (.iconst 0, 1) := by decide +kernel
theorem dX8_isLetter_17 : decode cX8_isLetter 17 = .ok (.ireturn, 1) := by decide +kernel
theorem dX8_isDigit_0 : decode cX8_isDigit 0 = .ok (.iload_n 0, 1) := by decide +kernel
theorem dX8_isDigit_1 : decode cX8_isDigit 1 = .ok (.bipush 48, 2) := by decide +kernel
theorem dX8_isDigit_3 : decode cX8_isDigit 3 = .ok (.if_icmp .lt 13, 3) := by decide +kernel
theorem dX8_isDigit_6 : decode cX8_isDigit 6 = .ok (.iload_n 0, 1) := by decide +kernel
theorem dX8_isDigit_7 : decode cX8_isDigit 7 = .ok (.bipush 57, 2) := by decide +kernel
theorem dX8_isDigit_9 : decode cX8_isDigit 9 = .ok (.if_icmp .gt 7, 3) := by decide +kernel
theorem dX8_isDigit_12 : decode cX8_isDigit 12 = .ok (.iconst 1, 1) := by decide +kernel
theorem dX8_isDigit_13 : decode cX8_isDigit 13 = .ok (.goto 4, 3) := by decide +kernel
theorem dX8_isDigit_16 : decode cX8_isDigit 16 = .ok (.iconst 0, 1) := by decide +kernel
theorem dX8_isDigit_17 : decode cX8_isDigit 17 = .ok (.ireturn, 1) := by decide +kernel
theorem mi_X8_isIn : MInfo yX8_isIn cX8_isIn 3 (some .boolean) 3 := ⟨wq_1484, wq_135, by decide, ⟨by decide +kernel, by decide +kernel, by decide +kernel⟩, by decide +kernel⟩
theorem mi_X8_isOf : MInfo yX8_isOf cX8_isOf 1 (some .boolean) 1 := ⟨wq_1831, wq_135, by decide, ⟨by decide +kernel, by decide +kernel, by decide +kernel⟩, by decide +kernel⟩
theorem mi_X8_isPushed : MInfo yX8_isPushed cX8_isPushed 1 (some .boolean) 1 := ⟨wq_1828, wq_135, by decide, ⟨by decide +kernel, by decide +kernel, by decide +kernel⟩, by decide +kernel⟩
theorem mi_X8_both : MInfo yX8_both cX8_both 3 (some .int) 3 := ⟨wq_1848, wq_135, by decide, ⟨by decide +kernel, by decide +kernel, by decide +kernel⟩, by decide +kernel⟩
theorem mi_X8_isLetter : MInfo yX8_isLetter cX8_isLetter 1 (some .boolean) 1 := ⟨wq_1507, wq_135, by decide, ⟨by decide +kernel, by decide +kernel, by decide +kernel⟩, by decide +kernel⟩
theorem mi_X8_isDigit : MInfo yX8_isDigit cX8_isDigit 1 (some .boolean) 1 := ⟨wq_1510, wq_135, by decide, ⟨by decide +kernel, by decide +kernel, by decide +kernel⟩, by decide +kernel⟩
def wp_X8_isIn (x0 : Int32) (x1 : Int32) (x2 : Int32) (K : Int32 → Prop) : Prop := ((x0 < x1 → K 0) ∧ (¬ x0 < x1 → ((x2 < x0 → K 0) ∧ (¬ x2 < x0 → K 1))))
set_option maxRecDepth 100000 in
set_option maxHeartbeats 4000000 in
theorem c_X8_isIn (l : Launch) (D : va_G) (Z : Nat → ClassId) (sz : Nat) (x0 : Int32) (x1 : Int32) (x2 : Int32) (K : Int32 → Prop) (hm : wp_X8_isIn x0 x1 x2 K) : Met l yX8_isIn (wy yX8_isIn cX8_isIn 3 (some .boolean)) (rk 1 0 0) (pre vwCl D Z (EW Z) sz [.int x0, .int x1, .int x2]) (vp_Si K) 0 0 (fun _ => False) := by
  refine ro_of (ty := .boolean) (by decide +kernel) (Nat.le_of_ble_eq_true rfl) rfl ?_
  intro p e s m args below meth c Q hC hN hsz hP hD hK hret ls hl
  have hx := hC.1
  have hb := hC.2.1
  have hl : lv_has ls 3 [(0, .int x0), (1, .int x1), (2, .int x2)] := hl
  refine lv_iload_n hx hb dX8_isIn_0 rfl (lv_at hl 0 rfl) ?_
  refine lv_iload_n hx hb dX8_isIn_1 rfl (lv_at hl 1 rfl) ?_
  refine lv_icmp_lt (tgt := 14) hx hb dX8_isIn_2 (by decide) (fun c_2 => ?_) (fun c_2 => ?_)
  · have hm := hm.1 c_2
    refine lv_iconst (v := 0) hx hb dX8_isIn_14 (by decide) ?_
    exact hret 15 _ _ hm rfl dX8_isIn_15
  · have hm := hm.2 c_2
    refine lv_iload_n hx hb dX8_isIn_5 rfl (lv_at hl 0 rfl) ?_
    refine lv_iload_n hx hb dX8_isIn_6 rfl (lv_at hl 2 rfl) ?_
    refine lv_icmp_gt (tgt := 14) hx hb dX8_isIn_7 (by decide) (fun c_7 => ?_) (fun c_7 => ?_)
    · have hm := hm.1 c_7
      refine lv_iconst (v := 0) hx hb dX8_isIn_14 (by decide) ?_
      exact hret 15 _ _ hm rfl dX8_isIn_15
    · have hm := hm.2 c_7
      refine lv_iconst (v := 1) hx hb dX8_isIn_10 (by decide) ?_
      refine lv_goto (tgt := 15) hx hb dX8_isIn_11 (by decide) ?_
      exact hret 15 _ _ hm rfl dX8_isIn_15
section KX8_isIn
variable {p : Program} {l : Launch} {e : Env} {s : State} {m : MethodId} {args : Array Value} {below : List Frame} {meth : Method} {c : Code} {H H0 : Heap} {locs : List Loc} {cells slots : Nat} {Q : State → Prop} {R : Room} {rn mcR msR : Nat}
variable {pc : Nat} {ls : Array Slot} {rest : List Value} {A : Nat → Prop} {D : va_G}
variable {cc : ByteArray} {nL index : Nat} {own host : String}
theorem k_X8_isIn {Z : Nat → ClassId} {x0 : Int32} {x1 : Int32} {x2 : Int32} {K : Int32 → Prop} (hC : CallFix p m c cc nL s args lw_g own) (hN : NW s) (hK : va_K D vwCl (tysG Z) s) (hP : va_P D vwCl (EW Z) H) (hD : va_D (fun _ => True) (EW Z)) (hm : wp_X8_isIn x0 x1 x2 K) (hl : Cond.methodLink own index yX8_isIn ∈ lw_g) (hlt : 1 < rn) (hsize : ls.size = nL) (hW : (rest.map fun v => v.category).sum ≤ 8) (hf : cells + 0 ≤ mcR ∧ slots + 0 ≤ msR) (hdg : decode cc pc = .ok (.invokestatic index, 3)) (kk : ∀ r : Int32, K r → W p l e (rk rn mcR msR) s m args below meth c H locs cells slots Q (F0 m (pc + 3) ls (.int r :: rest))) : W p l e (rk rn mcR msR) s m args below meth c H locs cells slots Q (F0 m pc ls (.int x2 :: .int x1 :: .int x0 :: rest)) :=
  ro_go (runS (As := [.int x0, .int x1, .int x2]) hC hN (c_X8_isIn l D Z  H.size x0 x1 x2 K hm) mi_X8_isIn hl wq_1483 hlt hP hD hK rfl hsize rfl hW hdg hf) kk
theorem kN_X8_isIn {Z : Nat → ClassId} {x0 : Int32} {x1 : Int32} {x2 : Int32} {K : Int32 → Prop} (hC : CallFix p m c cc nL s args lw_g own) (hN : NW s) (hK : va_K D vwCl (tysG Z) s) (hP : va_P D vwCl (EW Z) H) (hD : va_D (fun _ => True) (EW Z)) (hm : wp_X8_isIn x0 x1 x2 K) (hl : Cond.methodLinkNest own index yX8_isIn host ∈ lw_n) (hlt : 1 < rn) (hsize : ls.size = nL) (hW : (rest.map fun v => v.category).sum ≤ 8) (hf : cells + 0 ≤ mcR ∧ slots + 0 ≤ msR) (hdg : decode cc pc = .ok (.invokestatic index, 3)) (kk : ∀ r : Int32, K r → W p l e (rk rn mcR msR) s m args below meth c H locs cells slots Q (F0 m (pc + 3) ls (.int r :: rest))) : W p l e (rk rn mcR msR) s m args below meth c H locs cells slots Q (F0 m pc ls (.int x2 :: .int x1 :: .int x0 :: rest)) :=
  ro_go (runSN (As := [.int x0, .int x1, .int x2]) hC hN (c_X8_isIn l D Z  H.size x0 x1 x2 K hm) mi_X8_isIn hl wq_1483 hlt hP hD hK rfl hsize rfl hW hdg hf) kk
theorem kxN_X8_isIn {Z : Nat → ClassId} {x0 : Int32} {x1 : Int32} {x2 : Int32} {K : Int32 → Prop} {ws : va_W} {isC : List Nat} (hC : CallFix p m c cc nL s args lw_g own) (hN : NW s) (hK : va_K D vwCl (tysG Z) s) (hP : va_P D vwCl ws H) (hD : va_D (fun _ => True) ws) (hs : isC.map (fun i => ws[i]?) = (EW Z).map some) (hnd : va_nd isC = true) (hm : wp_X8_isIn x0 x1 x2 K) (hl : Cond.methodLinkNest own index yX8_isIn host ∈ lw_n) (hlt : 1 < rn) (hsize : ls.size = nL) (hW : (rest.map fun v => v.category).sum ≤ 8) (hf : cells + 0 ≤ mcR ∧ slots + 0 ≤ msR) (hdg : decode cc pc = .ok (.invokestatic index, 3)) (kk : ∀ r : Int32, K r → W p l e (rk rn mcR msR) s m args below meth c H locs cells slots Q (F0 m (pc + 3) ls (.int r :: rest))) : W p l e (rk rn mcR msR) s m args below meth c H locs cells slots Q (F0 m pc ls (.int x2 :: .int x1 :: .int x0 :: rest)) :=
  ro_go (runSN (As := [.int x0, .int x1, .int x2]) hC hN (c_X8_isIn l D Z  H.size x0 x1 x2 K hm) mi_X8_isIn hl wq_1483 hlt (hP.sub isC (map_fm hs)) (hD.sub isC hnd hs) hK rfl hsize rfl hW hdg hf) kk
end KX8_isIn
def wp_X8_isOf (x0 : Int32) (K : Int32 → Prop) : Prop := wp_X8_isIn x0 23 27 (fun r_5 => (zb r_5 ∧ K r_5))
set_option maxRecDepth 100000 in
set_option maxHeartbeats 4000000 in
theorem c_X8_isOf (l : Launch) (D : va_G) (Z : Nat → ClassId) (sz : Nat) (x0 : Int32) (K : Int32 → Prop) (hm : wp_X8_isOf x0 K) : Met l yX8_isOf (wy yX8_isOf cX8_isOf 1 (some .boolean)) (rk 2 0 0) (pre vwCl D Z (EW Z) sz [.int x0]) (vp_Si K) 0 0 (fun _ => False) := by
  refine ro_of (ty := .boolean) (by decide +kernel) (Nat.le_of_ble_eq_true rfl) rfl ?_
  intro p e s m args below meth c Q hC hN hsz hP hD hK hret ls hl
  have hx := hC.1
  have hb := hC.2.1
  have hl : lv_has ls 1 [(0, .int x0)] := hl
  refine lv_iload_n hx hb dX8_isOf_0 rfl (lv_at hl 0 rfl) ?_
  refine lv_bipush (v := 23) hx hb dX8_isOf_1 (by decide) ?_
  refine lv_bipush (v := 27) hx hb dX8_isOf_3 (by decide) ?_
  refine k_X8_isIn hC hN hK hP hD hm wq_1482 (by decide) hl.1 (Nat.le_of_ble_eq_true rfl) ⟨Nat.le_refl _, Nat.le_refl _⟩ dX8_isOf_5 (fun r_5 hm => ?_)
  exact hret 8 _ _ hm.2 hm.1 dX8_isOf_8
section KX8_isOf
variable {p : Program} {l : Launch} {e : Env} {s : State} {m : MethodId} {args : Array Value} {below : List Frame} {meth : Method} {c : Code} {H H0 : Heap} {locs : List Loc} {cells slots : Nat} {Q : State → Prop} {R : Room} {rn mcR msR : Nat}
variable {pc : Nat} {ls : Array Slot} {rest : List Value} {A : Nat → Prop} {D : va_G}
variable {cc : ByteArray} {nL index : Nat} {own host : String}
theorem k_X8_isOf {Z : Nat → ClassId} {x0 : Int32} {K : Int32 → Prop} (hC : CallFix p m c cc nL s args lw_g own) (hN : NW s) (hK : va_K D vwCl (tysG Z) s) (hP : va_P D vwCl (EW Z) H) (hD : va_D (fun _ => True) (EW Z)) (hm : wp_X8_isOf x0 K) (hl : Cond.methodLink own index yX8_isOf ∈ lw_g) (hlt : 2 < rn) (hsize : ls.size = nL) (hW : (rest.map fun v => v.category).sum ≤ 8) (hf : cells + 0 ≤ mcR ∧ slots + 0 ≤ msR) (hdg : decode cc pc = .ok (.invokestatic index, 3)) (kk : ∀ r : Int32, K r → W p l e (rk rn mcR msR) s m args below meth c H locs cells slots Q (F0 m (pc + 3) ls (.int r :: rest))) : W p l e (rk rn mcR msR) s m args below meth c H locs cells slots Q (F0 m pc ls (.int x0 :: rest)) :=
  ro_go (runS (As := [.int x0]) hC hN (c_X8_isOf l D Z  H.size x0 K hm) mi_X8_isOf hl wq_1830 hlt hP hD hK rfl hsize rfl hW hdg hf) kk
theorem kN_X8_isOf {Z : Nat → ClassId} {x0 : Int32} {K : Int32 → Prop} (hC : CallFix p m c cc nL s args lw_g own) (hN : NW s) (hK : va_K D vwCl (tysG Z) s) (hP : va_P D vwCl (EW Z) H) (hD : va_D (fun _ => True) (EW Z)) (hm : wp_X8_isOf x0 K) (hl : Cond.methodLinkNest own index yX8_isOf host ∈ lw_n) (hlt : 2 < rn) (hsize : ls.size = nL) (hW : (rest.map fun v => v.category).sum ≤ 8) (hf : cells + 0 ≤ mcR ∧ slots + 0 ≤ msR) (hdg : decode cc pc = .ok (.invokestatic index, 3)) (kk : ∀ r : Int32, K r → W p l e (rk rn mcR msR) s m args below meth c H locs cells slots Q (F0 m (pc + 3) ls (.int r :: rest))) : W p l e (rk rn mcR msR) s m args below meth c H locs cells slots Q (F0 m pc ls (.int x0 :: rest)) :=
  ro_go (runSN (As := [.int x0]) hC hN (c_X8_isOf l D Z  H.size x0 K hm) mi_X8_isOf hl wq_1830 hlt hP hD hK rfl hsize rfl hW hdg hf) kk
theorem kxN_X8_isOf {Z : Nat → ClassId} {x0 : Int32} {K : Int32 → Prop} {ws : va_W} {isC : List Nat} (hC : CallFix p m c cc nL s args lw_g own) (hN : NW s) (hK : va_K D vwCl (tysG Z) s) (hP : va_P D vwCl ws H) (hD : va_D (fun _ => True) ws) (hs : isC.map (fun i => ws[i]?) = (EW Z).map some) (hnd : va_nd isC = true) (hm : wp_X8_isOf x0 K) (hl : Cond.methodLinkNest own index yX8_isOf host ∈ lw_n) (hlt : 2 < rn) (hsize : ls.size = nL) (hW : (rest.map fun v => v.category).sum ≤ 8) (hf : cells + 0 ≤ mcR ∧ slots + 0 ≤ msR) (hdg : decode cc pc = .ok (.invokestatic index, 3)) (kk : ∀ r : Int32, K r → W p l e (rk rn mcR msR) s m args below meth c H locs cells slots Q (F0 m (pc + 3) ls (.int r :: rest))) : W p l e (rk rn mcR msR) s m args below meth c H locs cells slots Q (F0 m pc ls (.int x0 :: rest)) :=
  ro_go (runSN (As := [.int x0]) hC hN (c_X8_isOf l D Z  H.size x0 K hm) mi_X8_isOf hl wq_1830 hlt (hP.sub isC (map_fm hs)) (hD.sub isC hnd hs) hK rfl hsize rfl hW hdg hf) kk
end KX8_isOf
def wp_X8_isPushed (x0 : Int32) (K : Int32 → Prop) : Prop := ((x0 = 32 → K 1) ∧ (¬ x0 = 32 → ((x0 = 20 → K 1) ∧ (¬ x0 = 20 → ((x0 = 21 → K 1) ∧ (¬ x0 = 21 → wp_X8_isOf x0 (fun r_19 => ((r_19 = 0 → K 0) ∧ (¬ r_19 = 0 → K 1)))))))))
set_option maxRecDepth 100000 in
set_option maxHeartbeats 4000000 in
theorem c_X8_isPushed (l : Launch) (D : va_G) (Z : Nat → ClassId) (sz : Nat) (x0 : Int32) (K : Int32 → Prop) (hm : wp_X8_isPushed x0 K) : Met l yX8_isPushed (wy yX8_isPushed cX8_isPushed 1 (some .boolean)) (rk 3 0 0) (pre vwCl D Z (EW Z) sz [.int x0]) (vp_Si K) 0 0 (fun _ => False) := by
  refine ro_of (ty := .boolean) (by decide +kernel) (Nat.le_of_ble_eq_true rfl) rfl ?_
  intro p e s m args below meth c Q hC hN hsz hP hD hK hret ls hl
  have hx := hC.1
  have hb := hC.2.1
  have hl : lv_has ls 1 [(0, .int x0)] := hl
  refine lv_iload_n hx hb dX8_isPushed_0 rfl (lv_at hl 0 rfl) ?_
  refine lv_bipush (v := 32) hx hb dX8_isPushed_1 (by decide) ?_
  refine lv_icmp_eq (tgt := 25) hx hb dX8_isPushed_3 (by decide) (fun c_3 => ?_) (fun c_3 => ?_)
  · have hm := hm.1 c_3
    refine lv_iconst (v := 1) hx hb dX8_isPushed_25 (by decide) ?_
    refine lv_goto (tgt := 30) hx hb dX8_isPushed_26 (by decide) ?_
    exact hret 30 _ _ hm rfl dX8_isPushed_30
  · have hm := hm.2 c_3
    refine lv_iload_n hx hb dX8_isPushed_6 rfl (lv_at hl 0 rfl) ?_
    refine lv_bipush (v := 20) hx hb dX8_isPushed_7 (by decide) ?_
    refine lv_icmp_eq (tgt := 25) hx hb dX8_isPushed_9 (by decide) (fun c_9 => ?_) (fun c_9 => ?_)
    · have hm := hm.1 c_9
      refine lv_iconst (v := 1) hx hb dX8_isPushed_25 (by decide) ?_
      refine lv_goto (tgt := 30) hx hb dX8_isPushed_26 (by decide) ?_
      exact hret 30 _ _ hm rfl dX8_isPushed_30
    · have hm := hm.2 c_9
      refine lv_iload_n hx hb dX8_isPushed_12 rfl (lv_at hl 0 rfl) ?_
      refine lv_bipush (v := 21) hx hb dX8_isPushed_13 (by decide) ?_
      refine lv_icmp_eq (tgt := 25) hx hb dX8_isPushed_15 (by decide) (fun c_15 => ?_) (fun c_15 => ?_)
      · have hm := hm.1 c_15
        refine lv_iconst (v := 1) hx hb dX8_isPushed_25 (by decide) ?_
        refine lv_goto (tgt := 30) hx hb dX8_isPushed_26 (by decide) ?_
        exact hret 30 _ _ hm rfl dX8_isPushed_30
      · have hm := hm.2 c_15
        refine lv_iload_n hx hb dX8_isPushed_18 rfl (lv_at hl 0 rfl) ?_
        refine k_X8_isOf hC hN hK hP hD hm wq_1829 (by decide) hl.1 (Nat.le_of_ble_eq_true rfl) ⟨Nat.le_refl _, Nat.le_refl _⟩ dX8_isPushed_19 (fun r_19 hm => ?_)
        refine lv_if_eq (tgt := 29) hx hb dX8_isPushed_22 (by decide) (fun c_22 => ?_) (fun c_22 => ?_)
        · have hm := hm.1 c_22
          refine lv_iconst (v := 0) hx hb dX8_isPushed_29 (by decide) ?_
          exact hret 30 _ _ hm rfl dX8_isPushed_30
        · have hm := hm.2 c_22
          refine lv_iconst (v := 1) hx hb dX8_isPushed_25 (by decide) ?_
          refine lv_goto (tgt := 30) hx hb dX8_isPushed_26 (by decide) ?_
          exact hret 30 _ _ hm rfl dX8_isPushed_30
section KX8_isPushed
variable {p : Program} {l : Launch} {e : Env} {s : State} {m : MethodId} {args : Array Value} {below : List Frame} {meth : Method} {c : Code} {H H0 : Heap} {locs : List Loc} {cells slots : Nat} {Q : State → Prop} {R : Room} {rn mcR msR : Nat}
variable {pc : Nat} {ls : Array Slot} {rest : List Value} {A : Nat → Prop} {D : va_G}
variable {cc : ByteArray} {nL index : Nat} {own host : String}
theorem kN_X8_isPushed {Z : Nat → ClassId} {x0 : Int32} {K : Int32 → Prop} (hC : CallFix p m c cc nL s args lw_g own) (hN : NW s) (hK : va_K D vwCl (tysG Z) s) (hP : va_P D vwCl (EW Z) H) (hD : va_D (fun _ => True) (EW Z)) (hm : wp_X8_isPushed x0 K) (hl : Cond.methodLinkNest own index yX8_isPushed host ∈ lw_n) (hlt : 3 < rn) (hsize : ls.size = nL) (hW : (rest.map fun v => v.category).sum ≤ 8) (hf : cells + 0 ≤ mcR ∧ slots + 0 ≤ msR) (hdg : decode cc pc = .ok (.invokestatic index, 3)) (kk : ∀ r : Int32, K r → W p l e (rk rn mcR msR) s m args below meth c H locs cells slots Q (F0 m (pc + 3) ls (.int r :: rest))) : W p l e (rk rn mcR msR) s m args below meth c H locs cells slots Q (F0 m pc ls (.int x0 :: rest)) :=
  ro_go (runSN (As := [.int x0]) hC hN (c_X8_isPushed l D Z  H.size x0 K hm) mi_X8_isPushed hl wq_1827 hlt hP hD hK rfl hsize rfl hW hdg hf) kk
theorem kxN_X8_isPushed {Z : Nat → ClassId} {x0 : Int32} {K : Int32 → Prop} {ws : va_W} {isC : List Nat} (hC : CallFix p m c cc nL s args lw_g own) (hN : NW s) (hK : va_K D vwCl (tysG Z) s) (hP : va_P D vwCl ws H) (hD : va_D (fun _ => True) ws) (hs : isC.map (fun i => ws[i]?) = (EW Z).map some) (hnd : va_nd isC = true) (hm : wp_X8_isPushed x0 K) (hl : Cond.methodLinkNest own index yX8_isPushed host ∈ lw_n) (hlt : 3 < rn) (hsize : ls.size = nL) (hW : (rest.map fun v => v.category).sum ≤ 8) (hf : cells + 0 ≤ mcR ∧ slots + 0 ≤ msR) (hdg : decode cc pc = .ok (.invokestatic index, 3)) (kk : ∀ r : Int32, K r → W p l e (rk rn mcR msR) s m args below meth c H locs cells slots Q (F0 m (pc + 3) ls (.int r :: rest))) : W p l e (rk rn mcR msR) s m args below meth c H locs cells slots Q (F0 m pc ls (.int x0 :: rest)) :=
  ro_go (runSN (As := [.int x0]) hC hN (c_X8_isPushed l D Z  H.size x0 K hm) mi_X8_isPushed hl wq_1827 hlt (hP.sub isC (map_fm hs)) (hD.sub isC hnd hs) hK rfl hsize rfl hW hdg hf) kk
end KX8_isPushed
def wp_X8_both (x0 : Int32) (x1 : Int32) (x2 : Int32) (K : Int32 → Prop) : Prop := ((x0 = 16 → K (x1 &&& x2)) ∧ (x0 = 30 → K (mnv x1 x2)) ∧ (x0 = 31 → K (mxv x1 x2)) ∧ (x0 = 34 → K (x1 + x2)) ∧ (x0 = 35 → K (x1 - x2)) ∧ (x0 = 36 → K (x1 * x2)) ∧ (x0 = 37 → ((¬ x2 = 0 → (¬ x2 = 0 ∧ K (x1 / x2))) ∧ (x2 = 0 → K 0))) ∧ (x0 = 38 → ((x2 ≤ x1 → K 0) ∧ (¬ x2 ≤ x1 → K 1))) ∧ (x0 = 39 → ((x1 ≤ x2 → K 0) ∧ (¬ x1 ≤ x2 → K 1))) ∧ (x0 = 42 → ((¬ x1 = x2 → K 0) ∧ (x1 = x2 → K 1))) ∧ (x0 = 43 → ((x2 < x1 → K 0) ∧ (¬ x2 < x1 → K 1))) ∧ (x0 = 44 → ((x1 < x2 → K 0) ∧ (¬ x1 < x2 → K 1))) ∧ (¬ x0 = 16 → ¬ x0 = 30 → ¬ x0 = 31 → ¬ x0 = 34 → ¬ x0 = 35 → ¬ x0 = 36 → ¬ x0 = 37 → ¬ x0 = 38 → ¬ x0 = 39 → ¬ x0 = 42 → ¬ x0 = 43 → ¬ x0 = 44 → K (x1 ||| x2)))
set_option maxRecDepth 100000 in
set_option maxHeartbeats 4000000 in
theorem c_X8_both (l : Launch) (D : va_G) (Z : Nat → ClassId) (sz : Nat) (x0 : Int32) (x1 : Int32) (x2 : Int32) (K : Int32 → Prop) (hm : wp_X8_both x0 x1 x2 K) : Met l yX8_both (wy yX8_both cX8_both 3 (some .int)) (rk 1 0 0) (pre vwCl D Z (EW Z) sz [.int x0, .int x1, .int x2]) (vp_Si K) 0 0 (fun _ => False) := by
  refine ro_of (ty := .int) (by decide +kernel) (Nat.le_of_ble_eq_true rfl) rfl ?_
  intro p e s m args below meth c Q hC hN hsz hP hD hK hret ls hl
  have hx := hC.1
  have hb := hC.2.1
  have hl : lv_has ls 3 [(0, .int x0), (1, .int x1), (2, .int x2)] := hl
  refine lv_iload_n hx hb dX8_both_0 rfl (lv_at hl 0 rfl) ?_
  by_cases s1_0 : x0 = 16
  · have hm := hm.1 s1_0
    refine w_swi (off := 222) (tgt := 223) 16 hx hb dX8_both_1 s1_0 (by decide) (by decide) (by decide) (by decide) ?_
    refine lv_iload_n hx hb dX8_both_223 rfl (lv_at hl 1 rfl) ?_
    refine lv_iload_n hx hb dX8_both_224 rfl (lv_at hl 2 rfl) ?_
    refine lv_iand hx hb dX8_both_225 ?_
    exact hret 226 _ _ hm rfl dX8_both_226
  have hm := hm.2
  by_cases s1_1 : x0 = 30
  · have hm := hm.1 s1_1
    refine w_swi (off := 155) (tgt := 156) 30 hx hb dX8_both_1 s1_1 (by decide) (by decide) (by decide) (by decide) ?_
    refine lv_iload_n hx hb dX8_both_156 rfl (lv_at hl 1 rfl) ?_
    refine lv_iload_n hx hb dX8_both_157 rfl (lv_at hl 2 rfl) ?_
    refine w_min hC wq_1615 (by decide) (Nat.le_of_ble_eq_true rfl) hl.1 ⟨Nat.le_refl _, Nat.le_refl _⟩ dX8_both_158 ?_
    exact hret 161 _ _ hm rfl dX8_both_161
  have hm := hm.2
  by_cases s1_2 : x0 = 31
  · have hm := hm.1 s1_2
    refine w_swi (off := 161) (tgt := 162) 31 hx hb dX8_both_1 s1_2 (by decide) (by decide) (by decide) (by decide) ?_
    refine lv_iload_n hx hb dX8_both_162 rfl (lv_at hl 1 rfl) ?_
    refine lv_iload_n hx hb dX8_both_163 rfl (lv_at hl 2 rfl) ?_
    refine w_max hC wq_1849 (by decide) (Nat.le_of_ble_eq_true rfl) hl.1 ⟨Nat.le_refl _, Nat.le_refl _⟩ dX8_both_164 ?_
    exact hret 167 _ _ hm rfl dX8_both_167
  have hm := hm.2
  by_cases s1_3 : x0 = 34
  · have hm := hm.1 s1_3
    refine w_swi (off := 131) (tgt := 132) 34 hx hb dX8_both_1 s1_3 (by decide) (by decide) (by decide) (by decide) ?_
    refine lv_iload_n hx hb dX8_both_132 rfl (lv_at hl 1 rfl) ?_
    refine lv_iload_n hx hb dX8_both_133 rfl (lv_at hl 2 rfl) ?_
    refine lv_iadd hx hb dX8_both_134 ?_
    exact hret 135 _ _ hm rfl dX8_both_135
  have hm := hm.2
  by_cases s1_4 : x0 = 35
  · have hm := hm.1 s1_4
    refine w_swi (off := 135) (tgt := 136) 35 hx hb dX8_both_1 s1_4 (by decide) (by decide) (by decide) (by decide) ?_
    refine lv_iload_n hx hb dX8_both_136 rfl (lv_at hl 1 rfl) ?_
    refine lv_iload_n hx hb dX8_both_137 rfl (lv_at hl 2 rfl) ?_
    refine lv_isub hx hb dX8_both_138 ?_
    exact hret 139 _ _ hm rfl dX8_both_139
  have hm := hm.2
  by_cases s1_5 : x0 = 36
  · have hm := hm.1 s1_5
    refine w_swi (off := 139) (tgt := 140) 36 hx hb dX8_both_1 s1_5 (by decide) (by decide) (by decide) (by decide) ?_
    refine lv_iload_n hx hb dX8_both_140 rfl (lv_at hl 1 rfl) ?_
    refine lv_iload_n hx hb dX8_both_141 rfl (lv_at hl 2 rfl) ?_
    refine lv_imul hx hb dX8_both_142 ?_
    exact hret 143 _ _ hm rfl dX8_both_143
  have hm := hm.2
  by_cases s1_6 : x0 = 37
  · have hm := hm.1 s1_6
    refine w_swi (off := 143) (tgt := 144) 37 hx hb dX8_both_1 s1_6 (by decide) (by decide) (by decide) (by decide) ?_
    refine lv_iload_n hx hb dX8_both_144 rfl (lv_at hl 2 rfl) ?_
    refine lv_if_ne (tgt := 152) hx hb dX8_both_145 (by decide) (fun c_145 => ?_) (fun c_145 => ?_)
    · have hm := hm.1 c_145
      refine lv_iload_n hx hb dX8_both_152 rfl (lv_at hl 1 rfl) ?_
      refine lv_iload_n hx hb dX8_both_153 rfl (lv_at hl 2 rfl) ?_
      refine lv_idiv hx hb dX8_both_154 hm.1 ?_
      have hm := hm.2
      exact hret 155 _ _ hm rfl dX8_both_155
    · have hm := hm.2 c_145
      refine lv_iconst (v := 0) hx hb dX8_both_148 (by decide) ?_
      refine lv_goto (tgt := 155) hx hb dX8_both_149 (by decide) ?_
      exact hret 155 _ _ hm rfl dX8_both_155
  have hm := hm.2
  by_cases s1_7 : x0 = 38
  · have hm := hm.1 s1_7
    refine w_swi (off := 167) (tgt := 168) 38 hx hb dX8_both_1 s1_7 (by decide) (by decide) (by decide) (by decide) ?_
    refine lv_iload_n hx hb dX8_both_168 rfl (lv_at hl 1 rfl) ?_
    refine lv_iload_n hx hb dX8_both_169 rfl (lv_at hl 2 rfl) ?_
    refine lv_icmp_ge (tgt := 177) hx hb dX8_both_170 (by decide) (fun c_170 => ?_) (fun c_170 => ?_)
    · have hm := hm.1 c_170
      refine lv_iconst (v := 0) hx hb dX8_both_177 (by decide) ?_
      exact hret 178 _ _ hm rfl dX8_both_178
    · have hm := hm.2 c_170
      refine lv_iconst (v := 1) hx hb dX8_both_173 (by decide) ?_
      refine lv_goto (tgt := 178) hx hb dX8_both_174 (by decide) ?_
      exact hret 178 _ _ hm rfl dX8_both_178
  have hm := hm.2
  by_cases s1_8 : x0 = 39
  · have hm := hm.1 s1_8
    refine w_swi (off := 178) (tgt := 179) 39 hx hb dX8_both_1 s1_8 (by decide) (by decide) (by decide) (by decide) ?_
    refine lv_iload_n hx hb dX8_both_179 rfl (lv_at hl 1 rfl) ?_
    refine lv_iload_n hx hb dX8_both_180 rfl (lv_at hl 2 rfl) ?_
    refine lv_icmp_le (tgt := 188) hx hb dX8_both_181 (by decide) (fun c_181 => ?_) (fun c_181 => ?_)
    · have hm := hm.1 c_181
      refine lv_iconst (v := 0) hx hb dX8_both_188 (by decide) ?_
      exact hret 189 _ _ hm rfl dX8_both_189
    · have hm := hm.2 c_181
      refine lv_iconst (v := 1) hx hb dX8_both_184 (by decide) ?_
      refine lv_goto (tgt := 189) hx hb dX8_both_185 (by decide) ?_
      exact hret 189 _ _ hm rfl dX8_both_189
  have hm := hm.2
  by_cases s1_9 : x0 = 42
  · have hm := hm.1 s1_9
    refine w_swi (off := 189) (tgt := 190) 42 hx hb dX8_both_1 s1_9 (by decide) (by decide) (by decide) (by decide) ?_
    refine lv_iload_n hx hb dX8_both_190 rfl (lv_at hl 1 rfl) ?_
    refine lv_iload_n hx hb dX8_both_191 rfl (lv_at hl 2 rfl) ?_
    refine lv_icmp_ne (tgt := 199) hx hb dX8_both_192 (by decide) (fun c_192 => ?_) (fun c_192 => ?_)
    · have hm := hm.1 c_192
      refine lv_iconst (v := 0) hx hb dX8_both_199 (by decide) ?_
      exact hret 200 _ _ hm rfl dX8_both_200
    · have hm := hm.2 c_192
      refine lv_iconst (v := 1) hx hb dX8_both_195 (by decide) ?_
      refine lv_goto (tgt := 200) hx hb dX8_both_196 (by decide) ?_
      exact hret 200 _ _ hm rfl dX8_both_200
  have hm := hm.2
  by_cases s1_10 : x0 = 43
  · have hm := hm.1 s1_10
    refine w_swi (off := 200) (tgt := 201) 43 hx hb dX8_both_1 s1_10 (by decide) (by decide) (by decide) (by decide) ?_
    refine lv_iload_n hx hb dX8_both_201 rfl (lv_at hl 1 rfl) ?_
    refine lv_iload_n hx hb dX8_both_202 rfl (lv_at hl 2 rfl) ?_
    refine lv_icmp_gt (tgt := 210) hx hb dX8_both_203 (by decide) (fun c_203 => ?_) (fun c_203 => ?_)
    · have hm := hm.1 c_203
      refine lv_iconst (v := 0) hx hb dX8_both_210 (by decide) ?_
      exact hret 211 _ _ hm rfl dX8_both_211
    · have hm := hm.2 c_203
      refine lv_iconst (v := 1) hx hb dX8_both_206 (by decide) ?_
      refine lv_goto (tgt := 211) hx hb dX8_both_207 (by decide) ?_
      exact hret 211 _ _ hm rfl dX8_both_211
  have hm := hm.2
  by_cases s1_11 : x0 = 44
  · have hm := hm.1 s1_11
    refine w_swi (off := 211) (tgt := 212) 44 hx hb dX8_both_1 s1_11 (by decide) (by decide) (by decide) (by decide) ?_
    refine lv_iload_n hx hb dX8_both_212 rfl (lv_at hl 1 rfl) ?_
    refine lv_iload_n hx hb dX8_both_213 rfl (lv_at hl 2 rfl) ?_
    refine lv_icmp_lt (tgt := 221) hx hb dX8_both_214 (by decide) (fun c_214 => ?_) (fun c_214 => ?_)
    · have hm := hm.1 c_214
      refine lv_iconst (v := 0) hx hb dX8_both_221 (by decide) ?_
      exact hret 222 _ _ hm rfl dX8_both_222
    · have hm := hm.2 c_214
      refine lv_iconst (v := 1) hx hb dX8_both_217 (by decide) ?_
      refine lv_goto (tgt := 222) hx hb dX8_both_218 (by decide) ?_
      exact hret 222 _ _ hm rfl dX8_both_222
  have hm := hm.2
  have hm := hm s1_0 s1_1 s1_2 s1_3 s1_4 s1_5 s1_6 s1_7 s1_8 s1_9 s1_10 s1_11
  refine w_swd (tgt := 227) [16, 30, 31, 34, 35, 36, 37, 38, 39, 42, 43, 44] hx hb dX8_both_1 (by decide) (by decide) (fun k hk => ?_) (by decide) ?_
  · simp only [List.mem_cons, List.not_mem_nil, or_false] at hk
    rcases hk with rfl | rfl | rfl | rfl | rfl | rfl | rfl | rfl | rfl | rfl | rfl | rfl
    · exact eq_toInt s1_0
    · exact eq_toInt s1_1
    · exact eq_toInt s1_2
    · exact eq_toInt s1_3
    · exact eq_toInt s1_4
    · exact eq_toInt s1_5
    · exact eq_toInt s1_6
    · exact eq_toInt s1_7
    · exact eq_toInt s1_8
    · exact eq_toInt s1_9
    · exact eq_toInt s1_10
    · exact eq_toInt s1_11
  · refine lv_iload_n hx hb dX8_both_227 rfl (lv_at hl 1 rfl) ?_
    refine lv_iload_n hx hb dX8_both_228 rfl (lv_at hl 2 rfl) ?_
    refine lv_ior hx hb dX8_both_229 ?_
    exact hret 230 _ _ hm rfl dX8_both_230
section KX8_both
variable {p : Program} {l : Launch} {e : Env} {s : State} {m : MethodId} {args : Array Value} {below : List Frame} {meth : Method} {c : Code} {H H0 : Heap} {locs : List Loc} {cells slots : Nat} {Q : State → Prop} {R : Room} {rn mcR msR : Nat}
variable {pc : Nat} {ls : Array Slot} {rest : List Value} {A : Nat → Prop} {D : va_G}
variable {cc : ByteArray} {nL index : Nat} {own host : String}
theorem kN_X8_both {Z : Nat → ClassId} {x0 : Int32} {x1 : Int32} {x2 : Int32} {K : Int32 → Prop} (hC : CallFix p m c cc nL s args lw_g own) (hN : NW s) (hK : va_K D vwCl (tysG Z) s) (hP : va_P D vwCl (EW Z) H) (hD : va_D (fun _ => True) (EW Z)) (hm : wp_X8_both x0 x1 x2 K) (hl : Cond.methodLinkNest own index yX8_both host ∈ lw_n) (hlt : 1 < rn) (hsize : ls.size = nL) (hW : (rest.map fun v => v.category).sum ≤ 8) (hf : cells + 0 ≤ mcR ∧ slots + 0 ≤ msR) (hdg : decode cc pc = .ok (.invokestatic index, 3)) (kk : ∀ r : Int32, K r → W p l e (rk rn mcR msR) s m args below meth c H locs cells slots Q (F0 m (pc + 3) ls (.int r :: rest))) : W p l e (rk rn mcR msR) s m args below meth c H locs cells slots Q (F0 m pc ls (.int x2 :: .int x1 :: .int x0 :: rest)) :=
  ro_go (runSN (As := [.int x0, .int x1, .int x2]) hC hN (c_X8_both l D Z  H.size x0 x1 x2 K hm) mi_X8_both hl wq_1847 hlt hP hD hK rfl hsize rfl hW hdg hf) kk
theorem kxN_X8_both {Z : Nat → ClassId} {x0 : Int32} {x1 : Int32} {x2 : Int32} {K : Int32 → Prop} {ws : va_W} {isC : List Nat} (hC : CallFix p m c cc nL s args lw_g own) (hN : NW s) (hK : va_K D vwCl (tysG Z) s) (hP : va_P D vwCl ws H) (hD : va_D (fun _ => True) ws) (hs : isC.map (fun i => ws[i]?) = (EW Z).map some) (hnd : va_nd isC = true) (hm : wp_X8_both x0 x1 x2 K) (hl : Cond.methodLinkNest own index yX8_both host ∈ lw_n) (hlt : 1 < rn) (hsize : ls.size = nL) (hW : (rest.map fun v => v.category).sum ≤ 8) (hf : cells + 0 ≤ mcR ∧ slots + 0 ≤ msR) (hdg : decode cc pc = .ok (.invokestatic index, 3)) (kk : ∀ r : Int32, K r → W p l e (rk rn mcR msR) s m args below meth c H locs cells slots Q (F0 m (pc + 3) ls (.int r :: rest))) : W p l e (rk rn mcR msR) s m args below meth c H locs cells slots Q (F0 m pc ls (.int x2 :: .int x1 :: .int x0 :: rest)) :=
  ro_go (runSN (As := [.int x0, .int x1, .int x2]) hC hN (c_X8_both l D Z  H.size x0 x1 x2 K hm) mi_X8_both hl wq_1847 hlt (hP.sub isC (map_fm hs)) (hD.sub isC hnd hs) hK rfl hsize rfl hW hdg hf) kk
end KX8_both
def wp_X8_isLetter (x0 : Int32) (K : Int32 → Prop) : Prop := ((x0 < 97 → K 0) ∧ (¬ x0 < 97 → ((122 < x0 → K 0) ∧ (¬ 122 < x0 → K 1))))
set_option maxRecDepth 100000 in
set_option maxHeartbeats 4000000 in
theorem c_X8_isLetter (l : Launch) (D : va_G) (Z : Nat → ClassId) (sz : Nat) (x0 : Int32) (K : Int32 → Prop) (hm : wp_X8_isLetter x0 K) : Met l yX8_isLetter (wy yX8_isLetter cX8_isLetter 1 (some .boolean)) (rk 1 0 0) (pre vwCl D Z (EW Z) sz [.int x0]) (vp_Si K) 0 0 (fun _ => False) := by
  refine ro_of (ty := .boolean) (by decide +kernel) (Nat.le_of_ble_eq_true rfl) rfl ?_
  intro p e s m args below meth c Q hC hN hsz hP hD hK hret ls hl
  have hx := hC.1
  have hb := hC.2.1
  have hl : lv_has ls 1 [(0, .int x0)] := hl
  refine lv_iload_n hx hb dX8_isLetter_0 rfl (lv_at hl 0 rfl) ?_
  refine lv_bipush (v := 97) hx hb dX8_isLetter_1 (by decide) ?_
  refine lv_icmp_lt (tgt := 16) hx hb dX8_isLetter_3 (by decide) (fun c_3 => ?_) (fun c_3 => ?_)
  · have hm := hm.1 c_3
    refine lv_iconst (v := 0) hx hb dX8_isLetter_16 (by decide) ?_
    exact hret 17 _ _ hm rfl dX8_isLetter_17
  · have hm := hm.2 c_3
    refine lv_iload_n hx hb dX8_isLetter_6 rfl (lv_at hl 0 rfl) ?_
    refine lv_bipush (v := 122) hx hb dX8_isLetter_7 (by decide) ?_
    refine lv_icmp_gt (tgt := 16) hx hb dX8_isLetter_9 (by decide) (fun c_9 => ?_) (fun c_9 => ?_)
    · have hm := hm.1 c_9
      refine lv_iconst (v := 0) hx hb dX8_isLetter_16 (by decide) ?_
      exact hret 17 _ _ hm rfl dX8_isLetter_17
    · have hm := hm.2 c_9
      refine lv_iconst (v := 1) hx hb dX8_isLetter_12 (by decide) ?_
      refine lv_goto (tgt := 17) hx hb dX8_isLetter_13 (by decide) ?_
      exact hret 17 _ _ hm rfl dX8_isLetter_17
section KX8_isLetter
variable {p : Program} {l : Launch} {e : Env} {s : State} {m : MethodId} {args : Array Value} {below : List Frame} {meth : Method} {c : Code} {H H0 : Heap} {locs : List Loc} {cells slots : Nat} {Q : State → Prop} {R : Room} {rn mcR msR : Nat}
variable {pc : Nat} {ls : Array Slot} {rest : List Value} {A : Nat → Prop} {D : va_G}
variable {cc : ByteArray} {nL index : Nat} {own host : String}
end KX8_isLetter
def wp_X8_isDigit (x0 : Int32) (K : Int32 → Prop) : Prop := ((x0 < 48 → K 0) ∧ (¬ x0 < 48 → ((57 < x0 → K 0) ∧ (¬ 57 < x0 → K 1))))
set_option maxRecDepth 100000 in
set_option maxHeartbeats 4000000 in
theorem c_X8_isDigit (l : Launch) (D : va_G) (Z : Nat → ClassId) (sz : Nat) (x0 : Int32) (K : Int32 → Prop) (hm : wp_X8_isDigit x0 K) : Met l yX8_isDigit (wy yX8_isDigit cX8_isDigit 1 (some .boolean)) (rk 1 0 0) (pre vwCl D Z (EW Z) sz [.int x0]) (vp_Si K) 0 0 (fun _ => False) := by
  refine ro_of (ty := .boolean) (by decide +kernel) (Nat.le_of_ble_eq_true rfl) rfl ?_
  intro p e s m args below meth c Q hC hN hsz hP hD hK hret ls hl
  have hx := hC.1
  have hb := hC.2.1
  have hl : lv_has ls 1 [(0, .int x0)] := hl
  refine lv_iload_n hx hb dX8_isDigit_0 rfl (lv_at hl 0 rfl) ?_
  refine lv_bipush (v := 48) hx hb dX8_isDigit_1 (by decide) ?_
  refine lv_icmp_lt (tgt := 16) hx hb dX8_isDigit_3 (by decide) (fun c_3 => ?_) (fun c_3 => ?_)
  · have hm := hm.1 c_3
    refine lv_iconst (v := 0) hx hb dX8_isDigit_16 (by decide) ?_
    exact hret 17 _ _ hm rfl dX8_isDigit_17
  · have hm := hm.2 c_3
    refine lv_iload_n hx hb dX8_isDigit_6 rfl (lv_at hl 0 rfl) ?_
    refine lv_bipush (v := 57) hx hb dX8_isDigit_7 (by decide) ?_
    refine lv_icmp_gt (tgt := 16) hx hb dX8_isDigit_9 (by decide) (fun c_9 => ?_) (fun c_9 => ?_)
    · have hm := hm.1 c_9
      refine lv_iconst (v := 0) hx hb dX8_isDigit_16 (by decide) ?_
      exact hret 17 _ _ hm rfl dX8_isDigit_17
    · have hm := hm.2 c_9
      refine lv_iconst (v := 1) hx hb dX8_isDigit_12 (by decide) ?_
      refine lv_goto (tgt := 17) hx hb dX8_isDigit_13 (by decide) ?_
      exact hret 17 _ _ hm rfl dX8_isDigit_17
section KX8_isDigit
variable {p : Program} {l : Launch} {e : Env} {s : State} {m : MethodId} {args : Array Value} {below : List Frame} {meth : Method} {c : Code} {H H0 : Heap} {locs : List Loc} {cells slots : Nat} {Q : State → Prop} {R : Room} {rn mcR msR : Nat}
variable {pc : Nat} {ls : Array Slot} {rest : List Value} {A : Nat → Prop} {D : va_G}
variable {cc : ByteArray} {nL index : Nat} {own host : String}
end KX8_isDigit
