theorem wq_1436 : Cond.code yL_test cL_test 6 (some (.object "java/lang/String")) ∈ lw_g := lw_g_mk (tb_6 (List.mem_of_getElem? (i := 172) rfl)) rfl
theorem wq_1354 : Cond.classLink RL 32 RJ4 ∈ lw_g := lw_g_mk (tb_6 (List.mem_of_getElem? (i := 90) rfl)) rfl
theorem wq_1356 : Cond.methodLink RL 34 yJ4_init_da8c8 ∈ lw_g := lw_g_mk (tb_6 (List.mem_of_getElem? (i := 92) rfl)) rfl
theorem wq_1203 : Cond.methodLink RL 37 yJ4_append_15ec4 ∈ lw_g := lw_g_mk (tb_5 (List.mem_of_getElem? (i := 179) rfl)) rfl
theorem wq_1309 : Cond.methodLink RL 47 yJ4_append_bf812 ∈ lw_g := lw_g_mk (tb_6 (List.mem_of_getElem? (i := 45) rfl)) rfl
theorem wq_1376 : Cond.methodLink RL 50 yJ4_toString_0e30d ∈ lw_g := lw_g_mk (tb_6 (List.mem_of_getElem? (i := 112) rfl)) rfl
theorem dL_test_0 : decode cL_test 0 = .ok (.aload_n 0, 1) := by decide +kernel
theorem dL_test_1 : decode cL_test 1 = .ok (.iconst 3, 1) := by decide +kernel
theorem dL_test_2 : decode cL_test 2 = .ok (.iaload, 1) := by decide +kernel
theorem dL_test_3 : decode cL_test 3 = .ok (.istore_n 2, 1) := by decide +kernel
theorem dL_test_4 : decode cL_test 4 = .ok (.aload_n 0, 1) := by decide +kernel
theorem dL_test_5 : decode cL_test 5 = .ok (.iconst 4, 1) := by decide +kernel
theorem dL_test_6 : decode cL_test 6 = .ok (.iaload, 1) := by decide +kernel
theorem dL_test_7 : decode cL_test 7 = .ok (.istore_n 3, 1) := by decide +kernel
theorem dL_test_8 : decode cL_test 8 = .ok (.new 32, 3) := by decide +kernel
theorem dL_test_11 : decode cL_test 11 = .ok (.dup, 1) := by decide +kernel
theorem dL_test_12 : decode cL_test 12 = .ok (.invokespecial 34, 3) := by decide +kernel
theorem dL_test_15 : decode cL_test 15 = .ok (.ldc 35, 2) := by decide +kernel
theorem dL_test_17 : decode cL_test 17 = .ok (.invokevirtual 37, 3) := by decide +kernel
theorem dL_test_20 : decode cL_test 20 = .ok (.aload_n 0, 1) := by decide +kernel
theorem dL_test_21 : decode cL_test 21 = .ok (.iconst 5, 1) := by decide +kernel
theorem dL_test_22 : decode cL_test 22 = .ok (.iaload, 1) := by decide +kernel
theorem dL_test_23 : decode cL_test 23 = .ok (.aload_n 1, 1) := by decide +kernel
theorem dL_test_24 : decode cL_test 24 = .ok (.getfield 41, 3) := by decide +kernel
theorem dL_test_27 : decode cL_test 27 = .ok (.arraylength, 1) := by decide +kernel
theorem dL_test_28 : decode cL_test 28 = .ok (.irem, 1) := by decide +kernel
theorem dL_test_29 : decode cL_test 29 = .ok (.invokevirtual 47, 3) := by decide +kernel
theorem dL_test_32 : decode cL_test 32 = .ok (.invokevirtual 50, 3) := by decide +kernel
theorem dL_test_35 : decode cL_test 35 = .ok (.astore 4, 2) := by decide +kernel
theorem dL_test_37 : decode cL_test 37 = .ok (.new 32, 3) := by decide +kernel
theorem dL_test_40 : decode cL_test 40 = .ok (.dup, 1) := by decide +kernel
theorem dL_test_41 : decode cL_test 41 = .ok (.invokespecial 34, 3) := by decide +kernel
theorem dL_test_44 : decode cL_test 44 = .ok (.ldc 54, 2) := by decide +kernel
theorem dL_test_46 : decode cL_test 46 = .ok (.invokevirtual 37, 3) := by decide +kernel
theorem dL_test_49 : decode cL_test 49 = .ok (.aload_n 0, 1) := by decide +kernel
theorem dL_test_50 : decode cL_test 50 = .ok (.iconst 5, 1) := by decide +kernel
theorem dL_test_51 : decode cL_test 51 = .ok (.iaload, 1) := by decide +kernel
theorem dL_test_52 : decode cL_test 52 = .ok (.aload_n 1, 1) := by decide +kernel
theorem dL_test_53 : decode cL_test 53 = .ok (.getfield 56, 3) := by decide +kernel
theorem dL_test_56 : decode cL_test 56 = .ok (.arraylength, 1) := by decide +kernel
theorem dL_test_57 : decode cL_test 57 = .ok (.irem, 1) := by decide +kernel
theorem dL_test_58 : decode cL_test 58 = .ok (.invokevirtual 47, 3) := by decide +kernel
theorem dL_test_61 : decode cL_test 61 = .ok (.invokevirtual 50, 3) := by decide +kernel
theorem dL_test_64 : decode cL_test 64 = .ok (.astore 5, 2) := by decide +kernel
theorem dL_test_66 : decode cL_test 66 = .ok (.aload_n 0, 1) := by decide +kernel
theorem dL_test_67 : decode cL_test 67 = .ok (.iconst 2, 1) := by decide +kernel
theorem dL_test_68 : decode cL_test 68 = .ok (.iaload, 1) := by decide +kernel
theorem dL_test_69 : decode cL_test 69 = .ok (.tableswitch 254 0 6 #[43, 87, 90, 111, 140, 170, 210], 43) := by decide +kernel
theorem dL_test_112 : decode cL_test 112 = .ok (.new 32, 3) := by decide +kernel
theorem dL_test_115 : decode cL_test 115 = .ok (.dup, 1) := by decide +kernel
theorem dL_test_116 : decode cL_test 116 = .ok (.invokespecial 34, 3) := by decide +kernel
theorem dL_test_119 : decode cL_test 119 = .ok (.ldc 59, 2) := by decide +kernel
theorem dL_test_121 : decode cL_test 121 = .ok (.invokevirtual 37, 3) := by decide +kernel
theorem dL_test_124 : decode cL_test 124 = .ok (.iload_n 2, 1) := by decide +kernel
theorem dL_test_125 : decode cL_test 125 = .ok (.bipush 7, 2) := by decide +kernel
theorem dL_test_127 : decode cL_test 127 = .ok (.irem, 1) := by decide +kernel
theorem dL_test_128 : decode cL_test 128 = .ok (.iconst 1, 1) := by decide +kernel
theorem dL_test_129 : decode cL_test 129 = .ok (.iadd, 1) := by decide +kernel
theorem dL_test_130 : decode cL_test 130 = .ok (.invokevirtual 47, 3) := by decide +kernel
theorem dL_test_133 : decode cL_test 133 = .ok (.ldc 61, 2) := by decide +kernel
theorem dL_test_135 : decode cL_test 135 = .ok (.invokevirtual 37, 3) := by decide +kernel
theorem dL_test_138 : decode cL_test 138 = .ok (.iload_n 2, 1) := by decide +kernel
theorem dL_test_139 : decode cL_test 139 = .ok (.bipush 7, 2) := by decide +kernel
theorem dL_test_141 : decode cL_test 141 = .ok (.irem, 1) := by decide +kernel
theorem dL_test_142 : decode cL_test 142 = .ok (.iconst 1, 1) := by decide +kernel
theorem dL_test_143 : decode cL_test 143 = .ok (.iadd, 1) := by decide +kernel
theorem dL_test_144 : decode cL_test 144 = .ok (.invokevirtual 47, 3) := by decide +kernel
theorem dL_test_147 : decode cL_test 147 = .ok (.ldc 63, 2) := by decide +kernel
theorem dL_test_149 : decode cL_test 149 = .ok (.invokevirtual 37, 3) := by decide +kernel
theorem dL_test_152 : decode cL_test 152 = .ok (.invokevirtual 50, 3) := by decide +kernel
theorem dL_test_155 : decode cL_test 155 = .ok (.areturn, 1) := by decide +kernel
theorem dL_test_156 : decode cL_test 156 = .ok (.ldc 65, 2) := by decide +kernel
theorem dL_test_158 : decode cL_test 158 = .ok (.areturn, 1) := by decide +kernel
theorem dL_test_159 : decode cL_test 159 = .ok (.new 32, 3) := by decide +kernel
theorem dL_test_162 : decode cL_test 162 = .ok (.dup, 1) := by decide +kernel
theorem dL_test_163 : decode cL_test 163 = .ok (.invokespecial 34, 3) := by decide +kernel
theorem dL_test_166 : decode cL_test 166 = .ok (.ldc 67, 2) := by decide +kernel
theorem dL_test_168 : decode cL_test 168 = .ok (.invokevirtual 37, 3) := by decide +kernel
theorem dL_test_171 : decode cL_test 171 = .ok (.aload 5, 2) := by decide +kernel
theorem dL_test_173 : decode cL_test 173 = .ok (.invokevirtual 37, 3) := by decide +kernel
theorem dL_test_176 : decode cL_test 176 = .ok (.invokevirtual 50, 3) := by decide +kernel
theorem dL_test_179 : decode cL_test 179 = .ok (.areturn, 1) := by decide +kernel
theorem dL_test_180 : decode cL_test 180 = .ok (.new 32, 3) := by decide +kernel
theorem dL_test_183 : decode cL_test 183 = .ok (.dup, 1) := by decide +kernel
theorem dL_test_184 : decode cL_test 184 = .ok (.invokespecial 34, 3) := by decide +kernel
theorem dL_test_187 : decode cL_test 187 = .ok (.ldc 69, 2) := by decide +kernel
theorem dL_test_189 : decode cL_test 189 = .ok (.invokevirtual 37, 3) := by decide +kernel
theorem dL_test_192 : decode cL_test 192 = .ok (.iload_n 2, 1) := by decide +kernel
theorem dL_test_193 : decode cL_test 193 = .ok (.invokevirtual 47, 3) := by decide +kernel
theorem dL_test_196 : decode cL_test 196 = .ok (.ldc 71, 2) := by decide +kernel
theorem dL_test_198 : decode cL_test 198 = .ok (.invokevirtual 37, 3) := by decide +kernel
theorem dL_test_201 : decode cL_test 201 = .ok (.iload_n 3, 1) := by decide +kernel
theorem dL_test_202 : decode cL_test 202 = .ok (.invokevirtual 47, 3) := by decide +kernel
theorem dL_test_205 : decode cL_test 205 = .ok (.invokevirtual 50, 3) := by decide +kernel
theorem dL_test_208 : decode cL_test 208 = .ok (.areturn, 1) := by decide +kernel
theorem dL_test_209 : decode cL_test 209 = .ok (.new 32, 3) := by decide +kernel
theorem dL_test_212 : decode cL_test 212 = .ok (.dup, 1) := by decide +kernel
theorem dL_test_213 : decode cL_test 213 = .ok (.invokespecial 34, 3) := by decide +kernel
theorem dL_test_216 : decode cL_test 216 = .ok (.ldc 73, 2) := by decide +kernel
theorem dL_test_218 : decode cL_test 218 = .ok (.invokevirtual 37, 3) := by decide +kernel
theorem dL_test_221 : decode cL_test 221 = .ok (.aload 4, 2) := by decide +kernel
theorem dL_test_223 : decode cL_test 223 = .ok (.invokevirtual 37, 3) := by decide +kernel
theorem dL_test_226 : decode cL_test 226 = .ok (.ldc 75, 2) := by decide +kernel
theorem dL_test_228 : decode cL_test 228 = .ok (.invokevirtual 37, 3) := by decide +kernel
theorem dL_test_231 : decode cL_test 231 = .ok (.iload_n 3, 1) := by decide +kernel
theorem dL_test_232 : decode cL_test 232 = .ok (.invokevirtual 47, 3) := by decide +kernel
theorem dL_test_235 : decode cL_test 235 = .ok (.invokevirtual 50, 3) := by decide +kernel
theorem dL_test_238 : decode cL_test 238 = .ok (.areturn, 1) := by decide +kernel
theorem dL_test_239 : decode cL_test 239 = .ok (.new 32, 3) := by decide +kernel
theorem dL_test_242 : decode cL_test 242 = .ok (.dup, 1) := by decide +kernel
theorem dL_test_243 : decode cL_test 243 = .ok (.invokespecial 34, 3) := by decide +kernel
theorem dL_test_246 : decode cL_test 246 = .ok (.ldc 77, 2) := by decide +kernel
theorem dL_test_248 : decode cL_test 248 = .ok (.invokevirtual 37, 3) := by decide +kernel
theorem dL_test_251 : decode cL_test 251 = .ok (.aload 4, 2) := by decide +kernel
theorem dL_test_253 : decode cL_test 253 = .ok (.invokevirtual 37, 3) := by decide +kernel
theorem dL_test_256 : decode cL_test 256 = .ok (.ldc 79, 2) := by decide +kernel
theorem dL_test_258 : decode cL_test 258 = .ok (.invokevirtual 37, 3) := by decide +kernel
theorem dL_test_261 : decode cL_test 261 = .ok (.aload 5, 2) := by decide +kernel
theorem dL_test_263 : decode cL_test 263 = .ok (.invokevirtual 37, 3) := by decide +kernel
theorem dL_test_266 : decode cL_test 266 = .ok (.ldc 81, 2) := by decide +kernel
theorem dL_test_268 : decode cL_test 268 = .ok (.invokevirtual 37, 3) := by decide +kernel
theorem dL_test_271 : decode cL_test 271 = .ok (.iload_n 2, 1) := by decide +kernel
theorem dL_test_272 : decode cL_test 272 = .ok (.invokevirtual 47, 3) := by decide +kernel
theorem dL_test_275 : decode cL_test 275 = .ok (.invokevirtual 50, 3) := by decide +kernel
theorem dL_test_278 : decode cL_test 278 = .ok (.areturn, 1) := by decide +kernel
theorem dL_test_279 : decode cL_test 279 = .ok (.new 32, 3) := by decide +kernel
theorem dL_test_282 : decode cL_test 282 = .ok (.dup, 1) := by decide +kernel
theorem dL_test_283 : decode cL_test 283 = .ok (.invokespecial 34, 3) := by decide +kernel
theorem dL_test_286 : decode cL_test 286 = .ok (.ldc 83, 2) := by decide +kernel
theorem dL_test_288 : decode cL_test 288 = .ok (.invokevirtual 37, 3) := by decide +kernel
theorem dL_test_291 : decode cL_test 291 = .ok (.iload_n 2, 1) := by decide +kernel
theorem dL_test_292 : decode cL_test 292 = .ok (.invokevirtual 47, 3) := by decide +kernel
theorem dL_test_295 : decode cL_test 295 = .ok (.ldc 85, 2) := by decide +kernel
theorem dL_test_297 : decode cL_test 297 = .ok (.invokevirtual 37, 3) := by decide +kernel
theorem dL_test_300 : decode cL_test 300 = .ok (.aload 5, 2) := by decide +kernel
theorem dL_test_302 : decode cL_test 302 = .ok (.invokevirtual 37, 3) := by decide +kernel
theorem dL_test_305 : decode cL_test 305 = .ok (.ldc 87, 2) := by decide +kernel
theorem dL_test_307 : decode cL_test 307 = .ok (.invokevirtual 37, 3) := by decide +kernel
theorem dL_test_310 : decode cL_test 310 = .ok (.iload_n 3, 1) := by decide +kernel
theorem dL_test_311 : decode cL_test 311 = .ok (.invokevirtual 47, 3) := by decide +kernel
theorem dL_test_314 : decode cL_test 314 = .ok (.ldc 89, 2) := by decide +kernel
theorem dL_test_316 : decode cL_test 316 = .ok (.invokevirtual 37, 3) := by decide +kernel
theorem dL_test_319 : decode cL_test 319 = .ok (.invokevirtual 50, 3) := by decide +kernel
theorem dL_test_322 : decode cL_test 322 = .ok (.areturn, 1) := by decide +kernel
theorem dL_test_323 : decode cL_test 323 = .ok (.new 32, 3) := by decide +kernel
theorem dL_test_326 : decode cL_test 326 = .ok (.dup, 1) := by decide +kernel
theorem dL_test_327 : decode cL_test 327 = .ok (.invokespecial 34, 3) := by decide +kernel
theorem dL_test_330 : decode cL_test 330 = .ok (.ldc 91, 2) := by decide +kernel
theorem dL_test_332 : decode cL_test 332 = .ok (.invokevirtual 37, 3) := by decide +kernel
theorem dL_test_335 : decode cL_test 335 = .ok (.iload_n 2, 1) := by decide +kernel
theorem dL_test_336 : decode cL_test 336 = .ok (.invokevirtual 47, 3) := by decide +kernel
theorem dL_test_339 : decode cL_test 339 = .ok (.ldc 93, 2) := by decide +kernel
theorem dL_test_341 : decode cL_test 341 = .ok (.invokevirtual 37, 3) := by decide +kernel
theorem dL_test_344 : decode cL_test 344 = .ok (.invokevirtual 50, 3) := by decide +kernel
theorem dL_test_347 : decode cL_test 347 = .ok (.areturn, 1) := by decide +kernel
theorem mi_L_test : MInfo yL_test cL_test 6 (some (.object "java/lang/String")) 2 := ⟨wq_1436, wq_64, by decide, ⟨by decide +kernel, by decide +kernel, by decide +kernel⟩, by decide +kernel⟩
theorem nI_m7 : ∀ {a : Nat}, a < 40 → nI a - nI a / 7 * 7 = nI (a % 7) := by decide +kernel
theorem nI_m30 {a b : Nat} (ha : a < 30) (h0 : 0 < b) (hb : b ≤ 5) : nI a - nI a / nI b * nI b = nI (a % b) := by
  have h : ∀ a, a < 30 → ∀ b, b < 6 → 0 < b → nI a - nI a / nI b * nI b = nI (a % b) := by decide +kernel
  exact h a ha b (by omega) h0
theorem nI_n0 {b : Nat} (h0 : 0 < b) (hb : b ≤ 5) : ¬ nI b = 0 := by
  have h : ∀ b, b < 6 → 0 < b → ¬ nI b = 0 := by decide +kernel
  exact h b (by omega) h0
theorem decs_le (x : Nat) : (decs x).length ≤ 2 := by
  unfold decs
  split <;> simp
theorem lst_len : ∀ i, i < 43 → (lst i).length ≤ 40 := by decide +kernel
def legT (i : Nat) : List Nat := [] ++ lst 0 ++ decs i
def boaT (i : Nat) : List Nat := [] ++ lst 1 ++ decs i
/-- the text of a condition -/
def testT (e2 e3 e4 il ib : Nat) : List Nat := match e2 with
  | 0 => [] ++ lst 2 ++ decs (e3 % 7 + 1) ++ lst 3 ++ decs (e3 % 7 + 1) ++ lst 4
  | 1 => lst 5
  | 2 => [] ++ lst 6 ++ boaT ib
  | 3 => [] ++ lst 7 ++ decs e3 ++ lst 8 ++ decs e4
  | 4 => [] ++ lst 9 ++ legT il ++ lst 10 ++ decs e4
  | 5 => [] ++ lst 11 ++ legT il ++ lst 12 ++ boaT ib ++ lst 13 ++ decs e3
  | 6 => [] ++ lst 14 ++ decs e3 ++ lst 15 ++ boaT ib ++ lst 16 ++ decs e4 ++ lst 17
  | _ => [] ++ lst 18 ++ decs e3 ++ lst 19
def txW (Z : Nat → ClassId) (ow : Nat) (E : Nat → Int32) (sa : Nat) (o : Nat → Nat) (ro : Nat → Nat → Nat) (nn kk : Nat → Nat) (N : M2) (n : Nat) : Option (Nat × Nat × (Nat → Int32)) → va_W
  | none => [(ow, .inl (Z 0, 6, .inl E))] ++ SPf Z sa o ro nn kk N
  | some u => [stC u.1 u.2.1, (u.2.1, .inl (Z 2, n, .inl u.2.2))] ++ ([(ow, .inl (Z 0, 6, .inl E))] ++ SPf Z sa o ro nn kk N)
def txA (rx : Nat → Nat) : Option (Nat × Nat × (Nat → Int32)) → Nat
  | none => rx (500 + 5)
  | some u => u.1
def txK (T : List Nat) : Option (Nat × Nat × (Nat → Int32)) → Prop
  | none => T = lst 5
  | some u => ∀ j, j < T.length → u.2.2 j = nI (T.getD j 0)
set_option maxRecDepth 100000 in
set_option maxHeartbeats 8000000 in
theorem c_L_test (l : Launch) (D : va_G) (Z : Nat → ClassId) (rx : Nat → Nat) (sz ow sa : Nat) (o : Nat → Nat) (ro : Nat → Nat → Nat) (nn kk : Nat → Nat) (N : M2) (E : Nat → Int32) (e2 e3 e4 e5 : Nat) (he2 : E 2 = nI e2) (he3 : E 3 = nI e3) (he4 : E 4 = nI e4) (he5 : E 5 = nI e5) (h2b : e2 < 8) (h3b : e3 < 40) (h4b : e4 < 100) (h5b : e5 < 30) (hn3 : 0 < nn 3 ∧ nn 3 ≤ 5) (hn4 : 0 < nn 4 ∧ nn 4 ≤ 5) : Met l yL_test (wy yL_test cL_test 6 (some (.object "java/lang/String"))) (rk 8 30 60000) (preG (RD rx) vwCl D Z (txW Z ow E sa o ro nn kk N (testT e2 e3 e4 (e5 % nn 3) (e5 % nn 4)).length none) sz [.ref ow, .ref sa]) (poQ vwCl D Z (txW Z ow E sa o ro nn kk N (testT e2 e3 e4 (e5 % nn 3) (e5 % nn 4)).length) (txA rx) none sz (txK (testT e2 e3 e4 (e5 % nn 3) (e5 % nn 4)))) 30 60000 (va_A (txW Z ow E sa o ro nn kk N (testT e2 e3 e4 (e5 % nn 3) (e5 % nn 4)).length none) sz) := by
  refine rwq_ofG (wsF := txW Z ow E sa o ro nn kk N (testT e2 e3 e4 (e5 % nn 3) (e5 % nn 4)).length) (u0 := none) (by decide +kernel) (Nat.le_of_ble_eq_true rfl) rfl (Or.inl ⟨_, rfl⟩) ?_
  intro p e s m args below meth c Q A hC hN hR hsz hT0 hK hret ls hl
  have hx := hC.1
  have hb := hC.2.1
  have hts := hC.2.2.2.2
  have hl : lv_has ls 6 [(0, .ref ow), (1, .ref sa)] := hl
  have hT : TS vwCl D ([(ow, .inl (Z 0, 6, .inl E))] ++ SPf Z sa o ro nn kk N) A s.heap s.heap [] := hT0
  refine lv_aload_n hx hb dL_test_0 rfl (lv_at hl 0 rfl) ?_
  refine lv_iconst (v := 3) hx hb dL_test_1 (by decide) ?_
  refine w_iald (q0 := 0) hC hK hT.1 rfl (by decide) dL_test_2 ?_
  rw [show E ((3 : Int32).toInt.toNat) = nI e3 from he3]
  refine lv_istore_n (lv' := [(2, .int (nI e3)), (0, .ref ow), (1, .ref sa)]) hx hb dL_test_3 rfl hl (by decide) rfl (fun ls hl => ?_)
  refine lv_aload_n hx hb dL_test_4 rfl (lv_at hl 1 rfl) ?_
  refine lv_iconst (v := 4) hx hb dL_test_5 (by decide) ?_
  refine w_iald (q0 := 0) hC hK hT.1 rfl (by decide) dL_test_6 ?_
  rw [show E ((4 : Int32).toInt.toNat) = nI e4 from he4]
  refine lv_istore_n (lv' := [(3, .int (nI e4)), (2, .int (nI e3)), (0, .ref ow), (1, .ref sa)]) hx hb dL_test_7 rfl hl (by decide) rfl (fun ls hl => ?_)
  refine w_sbNew hC hK hT wq_1354 (by show _ ≤ 30; omega) (by show _ ≤ 60000; omega) dL_test_8 (fun b1 H hT => ?_)
  refine lv_dup hx hb dL_test_11 rfl ?_
  refine w_sbIni hC hN hK hR hT wq_1356 (by decide) hl.1 (Nat.le_of_ble_eq_true rfl) dL_test_12 ⟨by omega, by omega⟩ (fun u H locs hI hT => ?_)
  have hL : ([] : List Nat).length ≤ 0 := Nat.le_refl _
  refine va_ldcS hx hb hC.2.2.2.1 hR.lld0 dL_test_15 ?_
  refine w_sbLit (i := 0) (by decide) hC hN hK hR hT hI (by rw [List.length_append]; have := lst_len 0 (by decide); omega) wq_1203 (by decide) hl.1 (Nat.le_of_ble_eq_true rfl) dL_test_17 ⟨by omega, by omega⟩ (fun u H locs hI hT => ?_)
  have hL : (([] : List Nat) ++ lst 0).length ≤ 40 := by rw [List.length_append]; have := lst_len 0 (by decide); omega
  refine lv_aload_n hx hb dL_test_20 rfl (lv_at hl 2 rfl) ?_
  refine lv_iconst (v := 5) hx hb dL_test_21 (by decide) ?_
  refine w_iald (q0 := 2) hC hK hT.1 rfl (by decide) dL_test_22 ?_
  rw [show E ((5 : Int32).toInt.toNat) = nI e5 from he5]
  refine lv_aload_n hx hb dL_test_23 rfl (lv_at hl 3 rfl) ?_
  refine w_get (C := RX6) (T := TX6) (N := 9) (ci := 6) (q0 := 3) (k := 5) hC hK hT.1 fi_X6 rfl rfl rfl (by decide) rfl wq_1176 dL_test_24 ?_
  refine w_alen (q0 := 7) (t0 := 3) hC hK hT.1 rfl rfl dL_test_27 ?_
  rw [show Int32.ofNat (nn 3) = nI (nn 3) from rfl]
  refine lv_irem hx hb dL_test_28 (nI_n0 hn3.1 hn3.2) ?_
  rw [nI_m30 h5b hn3.1 hn3.2]
  refine w_sbInt (x := (e5 % nn 3)) (by have := Nat.mod_le e5 (nn 3); omega) hC hN hK hR hT hI (by rw [List.length_append]; have := decs_le ((e5 % nn 3)); omega) wq_1309 (by decide) hl.1 (Nat.le_of_ble_eq_true rfl) dL_test_29 ⟨by omega, by omega⟩ (fun u H locs hI hT => ?_)
  have hL : (([] : List Nat) ++ lst 0 ++ decs (e5 % nn 3)).length ≤ 42 := by rw [List.length_append]; have := decs_le ((e5 % nn 3)); omega
  refine w_sbStr hC hN hK hR hT hI wq_1376 (by decide) hl.1 (Nat.le_of_ble_eq_true rfl) dL_test_32 ⟨by omega, by omega⟩ (fun q1 w1 g1 H locs hg1 hT => ?_)
  have hl1 := hL
  have ht1 : TXT (([] : List Nat) ++ lst 0 ++ decs (e5 % nn 3)) := (TXT.app (TXT.app (fun _ h => absurd h List.not_mem_nil) (TXT.lst (by decide))) (TXT.decs (by have := Nat.mod_le e5 (nn 3); omega)))
  refine lv_astore (lv' := [(4, .ref q1), (3, .int (nI e4)), (2, .int (nI e3)), (0, .ref ow), (1, .ref sa)]) hx hb dL_test_35 hl (by decide) rfl (fun ls hl => ?_)
  refine w_sbNew hC hK hT wq_1354 (by show _ ≤ 30; omega) (by show _ ≤ 60000; omega) dL_test_37 (fun b2 H hT => ?_)
  refine lv_dup hx hb dL_test_40 rfl ?_
  refine w_sbIni hC hN hK hR hT wq_1356 (by decide) hl.1 (Nat.le_of_ble_eq_true rfl) dL_test_41 ⟨by omega, by omega⟩ (fun u H locs hI hT => ?_)
  have hL : ([] : List Nat).length ≤ 0 := Nat.le_refl _
  refine va_ldcS hx hb hC.2.2.2.1 hR.lld1 dL_test_44 ?_
  refine w_sbLit (i := 1) (by decide) hC hN hK hR hT hI (by rw [List.length_append]; have := lst_len 1 (by decide); omega) wq_1203 (by decide) hl.1 (Nat.le_of_ble_eq_true rfl) dL_test_46 ⟨by omega, by omega⟩ (fun u H locs hI hT => ?_)
  have hL : (([] : List Nat) ++ lst 1).length ≤ 40 := by rw [List.length_append]; have := lst_len 1 (by decide); omega
  refine lv_aload_n hx hb dL_test_49 rfl (lv_at hl 3 rfl) ?_
  refine lv_iconst (v := 5) hx hb dL_test_50 (by decide) ?_
  refine w_iald (q0 := 4) hC hK hT.1 rfl (by decide) dL_test_51 ?_
  rw [show E ((5 : Int32).toInt.toNat) = nI e5 from he5]
  refine lv_aload_n hx hb dL_test_52 rfl (lv_at hl 4 rfl) ?_
  refine w_get (C := RX6) (T := TX6) (N := 9) (ci := 6) (q0 := 5) (k := 6) hC hK hT.1 fi_X6 rfl rfl rfl (by decide) rfl wq_1178 dL_test_53 ?_
  refine w_alen (q0 := 10) (t0 := 3) hC hK hT.1 rfl rfl dL_test_56 ?_
  rw [show Int32.ofNat (nn 4) = nI (nn 4) from rfl]
  refine lv_irem hx hb dL_test_57 (nI_n0 hn4.1 hn4.2) ?_
  rw [nI_m30 h5b hn4.1 hn4.2]
  refine w_sbInt (x := (e5 % nn 4)) (by have := Nat.mod_le e5 (nn 4); omega) hC hN hK hR hT hI (by rw [List.length_append]; have := decs_le ((e5 % nn 4)); omega) wq_1309 (by decide) hl.1 (Nat.le_of_ble_eq_true rfl) dL_test_58 ⟨by omega, by omega⟩ (fun u H locs hI hT => ?_)
  have hL : (([] : List Nat) ++ lst 1 ++ decs (e5 % nn 4)).length ≤ 42 := by rw [List.length_append]; have := decs_le ((e5 % nn 4)); omega
  refine w_sbStr hC hN hK hR hT hI wq_1376 (by decide) hl.1 (Nat.le_of_ble_eq_true rfl) dL_test_61 ⟨by omega, by omega⟩ (fun q2 w2 g2 H locs hg2 hT => ?_)
  have hl2 := hL
  have ht2 : TXT (([] : List Nat) ++ lst 1 ++ decs (e5 % nn 4)) := (TXT.app (TXT.app (fun _ h => absurd h List.not_mem_nil) (TXT.lst (by decide))) (TXT.decs (by have := Nat.mod_le e5 (nn 4); omega)))
  refine lv_astore (lv' := [(5, .ref q2), (4, .ref q1), (3, .int (nI e4)), (2, .int (nI e3)), (0, .ref ow), (1, .ref sa)]) hx hb dL_test_64 hl (by decide) rfl (fun ls hl => ?_)
  refine lv_aload_n hx hb dL_test_66 rfl (lv_at hl 4 rfl) ?_
  refine lv_iconst (v := 2) hx hb dL_test_67 (by decide) ?_
  refine w_iald (q0 := 4) hC hK hT.1 rfl (by decide) dL_test_68 ?_
  rw [show E ((2 : Int32).toInt.toNat) = nI e2 from he2]
  rcases (show e2 = 0 ∨ e2 = 1 ∨ e2 = 2 ∨ e2 = 3 ∨ e2 = 4 ∨ e2 = 5 ∨ e2 = 6 ∨ e2 = 7 by omega) with rfl | rfl | rfl | rfl | rfl | rfl | rfl | rfl
  · refine w_swi (off := 43) (tgt := 112) 0 hx hb dL_test_69 (by decide) (by decide) (by decide) (by decide) (by decide) ?_
    refine w_sbNew hC hK hT wq_1354 (by show _ ≤ 30; omega) (by show _ ≤ 60000; omega) dL_test_112 (fun b3 H hT => ?_)
    refine lv_dup hx hb dL_test_115 rfl ?_
    refine w_sbIni hC hN hK hR hT wq_1356 (by decide) hl.1 (Nat.le_of_ble_eq_true rfl) dL_test_116 ⟨by omega, by omega⟩ (fun u H locs hI hT => ?_)
    have hL : ([] : List Nat).length ≤ 0 := Nat.le_refl _
    refine va_ldcS hx hb hC.2.2.2.1 hR.lld2 dL_test_119 ?_
    refine w_sbLit (i := 2) (by decide) hC hN hK hR hT hI (by rw [List.length_append]; have := lst_len 2 (by decide); omega) wq_1203 (by decide) hl.1 (Nat.le_of_ble_eq_true rfl) dL_test_121 ⟨by omega, by omega⟩ (fun u H locs hI hT => ?_)
    have hL : (([] : List Nat) ++ lst 2).length ≤ 40 := by rw [List.length_append]; have := lst_len 2 (by decide); omega
    refine lv_iload_n hx hb dL_test_124 rfl (lv_at hl 3 rfl) ?_
    refine lv_bipush (v := 7) hx hb dL_test_125 (by decide) ?_
    refine lv_irem hx hb dL_test_127 (by decide) ?_
    rw [nI_m7 h3b]
    refine lv_iconst (v := 1) hx hb dL_test_128 (by decide) ?_
    refine lv_iadd hx hb dL_test_129 ?_
    rw [nI_1]
    refine w_sbInt (x := ((e3 % 7) + 1)) (by omega) hC hN hK hR hT hI (by rw [List.length_append]; have := decs_le (((e3 % 7) + 1)); omega) wq_1309 (by decide) hl.1 (Nat.le_of_ble_eq_true rfl) dL_test_130 ⟨by omega, by omega⟩ (fun u H locs hI hT => ?_)
    have hL : (([] : List Nat) ++ lst 2 ++ decs ((e3 % 7) + 1)).length ≤ 42 := by rw [List.length_append]; have := decs_le (((e3 % 7) + 1)); omega
    refine va_ldcS hx hb hC.2.2.2.1 hR.lld3 dL_test_133 ?_
    refine w_sbLit (i := 3) (by decide) hC hN hK hR hT hI (by rw [List.length_append]; have := lst_len 3 (by decide); omega) wq_1203 (by decide) hl.1 (Nat.le_of_ble_eq_true rfl) dL_test_135 ⟨by omega, by omega⟩ (fun u H locs hI hT => ?_)
    have hL : (([] : List Nat) ++ lst 2 ++ decs ((e3 % 7) + 1) ++ lst 3).length ≤ 82 := by rw [List.length_append]; have := lst_len 3 (by decide); omega
    refine lv_iload_n hx hb dL_test_138 rfl (lv_at hl 3 rfl) ?_
    refine lv_bipush (v := 7) hx hb dL_test_139 (by decide) ?_
    refine lv_irem hx hb dL_test_141 (by decide) ?_
    rw [nI_m7 h3b]
    refine lv_iconst (v := 1) hx hb dL_test_142 (by decide) ?_
    refine lv_iadd hx hb dL_test_143 ?_
    rw [nI_1]
    refine w_sbInt (x := ((e3 % 7) + 1)) (by omega) hC hN hK hR hT hI (by rw [List.length_append]; have := decs_le (((e3 % 7) + 1)); omega) wq_1309 (by decide) hl.1 (Nat.le_of_ble_eq_true rfl) dL_test_144 ⟨by omega, by omega⟩ (fun u H locs hI hT => ?_)
    have hL : (([] : List Nat) ++ lst 2 ++ decs ((e3 % 7) + 1) ++ lst 3 ++ decs ((e3 % 7) + 1)).length ≤ 84 := by rw [List.length_append]; have := decs_le (((e3 % 7) + 1)); omega
    refine va_ldcS hx hb hC.2.2.2.1 hR.lld4 dL_test_147 ?_
    refine w_sbLit (i := 4) (by decide) hC hN hK hR hT hI (by rw [List.length_append]; have := lst_len 4 (by decide); omega) wq_1203 (by decide) hl.1 (Nat.le_of_ble_eq_true rfl) dL_test_149 ⟨by omega, by omega⟩ (fun u H locs hI hT => ?_)
    have hL : (([] : List Nat) ++ lst 2 ++ decs ((e3 % 7) + 1) ++ lst 3 ++ decs ((e3 % 7) + 1) ++ lst 4).length ≤ 124 := by rw [List.length_append]; have := lst_len 4 (by decide); omega
    refine w_sbStr hC hN hK hR hT hI wq_1376 (by decide) hl.1 (Nat.le_of_ble_eq_true rfl) dL_test_152 ⟨by omega, by omega⟩ (fun q3 w3 g3 H locs hg3 hT => ?_)
    refine W.widen (k := 30) (n := 60000) (by omega) (by omega) ?_
    have hT := hT.sub (List.Sublist.append (List.Sublist.refl _) (List.Sublist.trans (List.sublist_append_right _ _) (List.sublist_append_right _ _)))
    exact hret 155 ls _ _ (some (q3, w3, g3)) hg3 hT dL_test_155
  · refine w_swi (off := 87) (tgt := 156) 1 hx hb dL_test_69 (by decide) (by decide) (by decide) (by decide) (by decide) ?_
    refine va_ldcS hx hb hC.2.2.2.1 hR.lld5 dL_test_156 ?_
    refine W.widen (k := 30) (n := 60000) (by omega) (by omega) ?_
    have hT := hT.sub (List.Sublist.trans (List.sublist_append_right _ _) (List.sublist_append_right _ _))
    exact hret 158 ls _ _ none rfl hT dL_test_158
  · refine w_swi (off := 90) (tgt := 159) 2 hx hb dL_test_69 (by decide) (by decide) (by decide) (by decide) (by decide) ?_
    refine w_sbNew hC hK hT wq_1354 (by show _ ≤ 30; omega) (by show _ ≤ 60000; omega) dL_test_159 (fun b3 H hT => ?_)
    refine lv_dup hx hb dL_test_162 rfl ?_
    refine w_sbIni hC hN hK hR hT wq_1356 (by decide) hl.1 (Nat.le_of_ble_eq_true rfl) dL_test_163 ⟨by omega, by omega⟩ (fun u H locs hI hT => ?_)
    have hL : ([] : List Nat).length ≤ 0 := Nat.le_refl _
    refine va_ldcS hx hb hC.2.2.2.1 hR.lld6 dL_test_166 ?_
    refine w_sbLit (i := 6) (by decide) hC hN hK hR hT hI (by rw [List.length_append]; have := lst_len 6 (by decide); omega) wq_1203 (by decide) hl.1 (Nat.le_of_ble_eq_true rfl) dL_test_168 ⟨by omega, by omega⟩ (fun u H locs hI hT => ?_)
    have hL : (([] : List Nat) ++ lst 6).length ≤ 40 := by rw [List.length_append]; have := lst_len 6 (by decide); omega
    refine lv_aload hx hb dL_test_171 (lv_at hl 0 rfl) ?_
    refine w_sbApp hC hN hK hR hT hI (SE.of hts hK hT.1 (i0 := 2) (i1 := 3) rfl rfl (notA hT (i := 0) rfl) (notA hT (i := 1) rfl)) ht2 hg2 (by rw [List.length_append]; omega) wq_1203 (by decide) hl.1 (Nat.le_of_ble_eq_true rfl) dL_test_173 ⟨by omega, by omega⟩ (fun u H locs hI hT => ?_)
    have hL : (([] : List Nat) ++ lst 6 ++ (([] : List Nat) ++ lst 1 ++ decs (e5 % nn 4))).length ≤ 82 := by rw [List.length_append]; have := hl2; omega
    refine w_sbStr hC hN hK hR hT hI wq_1376 (by decide) hl.1 (Nat.le_of_ble_eq_true rfl) dL_test_176 ⟨by omega, by omega⟩ (fun q3 w3 g3 H locs hg3 hT => ?_)
    refine W.widen (k := 30) (n := 60000) (by omega) (by omega) ?_
    have hT := hT.sub (List.Sublist.append (List.Sublist.refl _) (List.Sublist.trans (List.sublist_append_right _ _) (List.sublist_append_right _ _)))
    exact hret 179 ls _ _ (some (q3, w3, g3)) hg3 hT dL_test_179
  · refine w_swi (off := 111) (tgt := 180) 3 hx hb dL_test_69 (by decide) (by decide) (by decide) (by decide) (by decide) ?_
    refine w_sbNew hC hK hT wq_1354 (by show _ ≤ 30; omega) (by show _ ≤ 60000; omega) dL_test_180 (fun b3 H hT => ?_)
    refine lv_dup hx hb dL_test_183 rfl ?_
    refine w_sbIni hC hN hK hR hT wq_1356 (by decide) hl.1 (Nat.le_of_ble_eq_true rfl) dL_test_184 ⟨by omega, by omega⟩ (fun u H locs hI hT => ?_)
    have hL : ([] : List Nat).length ≤ 0 := Nat.le_refl _
    refine va_ldcS hx hb hC.2.2.2.1 hR.lld7 dL_test_187 ?_
    refine w_sbLit (i := 7) (by decide) hC hN hK hR hT hI (by rw [List.length_append]; have := lst_len 7 (by decide); omega) wq_1203 (by decide) hl.1 (Nat.le_of_ble_eq_true rfl) dL_test_189 ⟨by omega, by omega⟩ (fun u H locs hI hT => ?_)
    have hL : (([] : List Nat) ++ lst 7).length ≤ 40 := by rw [List.length_append]; have := lst_len 7 (by decide); omega
    refine lv_iload_n hx hb dL_test_192 rfl (lv_at hl 3 rfl) ?_
    refine w_sbInt (x := e3) (by omega) hC hN hK hR hT hI (by rw [List.length_append]; have := decs_le (e3); omega) wq_1309 (by decide) hl.1 (Nat.le_of_ble_eq_true rfl) dL_test_193 ⟨by omega, by omega⟩ (fun u H locs hI hT => ?_)
    have hL : (([] : List Nat) ++ lst 7 ++ decs e3).length ≤ 42 := by rw [List.length_append]; have := decs_le (e3); omega
    refine va_ldcS hx hb hC.2.2.2.1 hR.lld8 dL_test_196 ?_
    refine w_sbLit (i := 8) (by decide) hC hN hK hR hT hI (by rw [List.length_append]; have := lst_len 8 (by decide); omega) wq_1203 (by decide) hl.1 (Nat.le_of_ble_eq_true rfl) dL_test_198 ⟨by omega, by omega⟩ (fun u H locs hI hT => ?_)
    have hL : (([] : List Nat) ++ lst 7 ++ decs e3 ++ lst 8).length ≤ 82 := by rw [List.length_append]; have := lst_len 8 (by decide); omega
    refine lv_iload_n hx hb dL_test_201 rfl (lv_at hl 2 rfl) ?_
    refine w_sbInt (x := e4) (by omega) hC hN hK hR hT hI (by rw [List.length_append]; have := decs_le (e4); omega) wq_1309 (by decide) hl.1 (Nat.le_of_ble_eq_true rfl) dL_test_202 ⟨by omega, by omega⟩ (fun u H locs hI hT => ?_)
    have hL : (([] : List Nat) ++ lst 7 ++ decs e3 ++ lst 8 ++ decs e4).length ≤ 84 := by rw [List.length_append]; have := decs_le (e4); omega
    refine w_sbStr hC hN hK hR hT hI wq_1376 (by decide) hl.1 (Nat.le_of_ble_eq_true rfl) dL_test_205 ⟨by omega, by omega⟩ (fun q3 w3 g3 H locs hg3 hT => ?_)
    refine W.widen (k := 30) (n := 60000) (by omega) (by omega) ?_
    have hT := hT.sub (List.Sublist.append (List.Sublist.refl _) (List.Sublist.trans (List.sublist_append_right _ _) (List.sublist_append_right _ _)))
    exact hret 208 ls _ _ (some (q3, w3, g3)) hg3 hT dL_test_208
  · refine w_swi (off := 140) (tgt := 209) 4 hx hb dL_test_69 (by decide) (by decide) (by decide) (by decide) (by decide) ?_
    refine w_sbNew hC hK hT wq_1354 (by show _ ≤ 30; omega) (by show _ ≤ 60000; omega) dL_test_209 (fun b3 H hT => ?_)
    refine lv_dup hx hb dL_test_212 rfl ?_
    refine w_sbIni hC hN hK hR hT wq_1356 (by decide) hl.1 (Nat.le_of_ble_eq_true rfl) dL_test_213 ⟨by omega, by omega⟩ (fun u H locs hI hT => ?_)
    have hL : ([] : List Nat).length ≤ 0 := Nat.le_refl _
    refine va_ldcS hx hb hC.2.2.2.1 hR.lld9 dL_test_216 ?_
    refine w_sbLit (i := 9) (by decide) hC hN hK hR hT hI (by rw [List.length_append]; have := lst_len 9 (by decide); omega) wq_1203 (by decide) hl.1 (Nat.le_of_ble_eq_true rfl) dL_test_218 ⟨by omega, by omega⟩ (fun u H locs hI hT => ?_)
    have hL : (([] : List Nat) ++ lst 9).length ≤ 40 := by rw [List.length_append]; have := lst_len 9 (by decide); omega
    refine lv_aload hx hb dL_test_221 (lv_at hl 1 rfl) ?_
    refine w_sbApp hC hN hK hR hT hI (SE.of hts hK hT.1 (i0 := 4) (i1 := 5) rfl rfl (notA hT (i := 2) rfl) (notA hT (i := 3) rfl)) ht1 hg1 (by rw [List.length_append]; omega) wq_1203 (by decide) hl.1 (Nat.le_of_ble_eq_true rfl) dL_test_223 ⟨by omega, by omega⟩ (fun u H locs hI hT => ?_)
    have hL : (([] : List Nat) ++ lst 9 ++ (([] : List Nat) ++ lst 0 ++ decs (e5 % nn 3))).length ≤ 82 := by rw [List.length_append]; have := hl1; omega
    refine va_ldcS hx hb hC.2.2.2.1 hR.lld10 dL_test_226 ?_
    refine w_sbLit (i := 10) (by decide) hC hN hK hR hT hI (by rw [List.length_append]; have := lst_len 10 (by decide); omega) wq_1203 (by decide) hl.1 (Nat.le_of_ble_eq_true rfl) dL_test_228 ⟨by omega, by omega⟩ (fun u H locs hI hT => ?_)
    have hL : (([] : List Nat) ++ lst 9 ++ (([] : List Nat) ++ lst 0 ++ decs (e5 % nn 3)) ++ lst 10).length ≤ 122 := by rw [List.length_append]; have := lst_len 10 (by decide); omega
    refine lv_iload_n hx hb dL_test_231 rfl (lv_at hl 2 rfl) ?_
    refine w_sbInt (x := e4) (by omega) hC hN hK hR hT hI (by rw [List.length_append]; have := decs_le (e4); omega) wq_1309 (by decide) hl.1 (Nat.le_of_ble_eq_true rfl) dL_test_232 ⟨by omega, by omega⟩ (fun u H locs hI hT => ?_)
    have hL : (([] : List Nat) ++ lst 9 ++ (([] : List Nat) ++ lst 0 ++ decs (e5 % nn 3)) ++ lst 10 ++ decs e4).length ≤ 124 := by rw [List.length_append]; have := decs_le (e4); omega
    refine w_sbStr hC hN hK hR hT hI wq_1376 (by decide) hl.1 (Nat.le_of_ble_eq_true rfl) dL_test_235 ⟨by omega, by omega⟩ (fun q3 w3 g3 H locs hg3 hT => ?_)
    refine W.widen (k := 30) (n := 60000) (by omega) (by omega) ?_
    have hT := hT.sub (List.Sublist.append (List.Sublist.refl _) (List.Sublist.trans (List.sublist_append_right _ _) (List.sublist_append_right _ _)))
    exact hret 238 ls _ _ (some (q3, w3, g3)) hg3 hT dL_test_238
  · refine w_swi (off := 170) (tgt := 239) 5 hx hb dL_test_69 (by decide) (by decide) (by decide) (by decide) (by decide) ?_
    refine w_sbNew hC hK hT wq_1354 (by show _ ≤ 30; omega) (by show _ ≤ 60000; omega) dL_test_239 (fun b3 H hT => ?_)
    refine lv_dup hx hb dL_test_242 rfl ?_
    refine w_sbIni hC hN hK hR hT wq_1356 (by decide) hl.1 (Nat.le_of_ble_eq_true rfl) dL_test_243 ⟨by omega, by omega⟩ (fun u H locs hI hT => ?_)
    have hL : ([] : List Nat).length ≤ 0 := Nat.le_refl _
    refine va_ldcS hx hb hC.2.2.2.1 hR.lld11 dL_test_246 ?_
    refine w_sbLit (i := 11) (by decide) hC hN hK hR hT hI (by rw [List.length_append]; have := lst_len 11 (by decide); omega) wq_1203 (by decide) hl.1 (Nat.le_of_ble_eq_true rfl) dL_test_248 ⟨by omega, by omega⟩ (fun u H locs hI hT => ?_)
    have hL : (([] : List Nat) ++ lst 11).length ≤ 40 := by rw [List.length_append]; have := lst_len 11 (by decide); omega
    refine lv_aload hx hb dL_test_251 (lv_at hl 1 rfl) ?_
    refine w_sbApp hC hN hK hR hT hI (SE.of hts hK hT.1 (i0 := 4) (i1 := 5) rfl rfl (notA hT (i := 2) rfl) (notA hT (i := 3) rfl)) ht1 hg1 (by rw [List.length_append]; omega) wq_1203 (by decide) hl.1 (Nat.le_of_ble_eq_true rfl) dL_test_253 ⟨by omega, by omega⟩ (fun u H locs hI hT => ?_)
    have hL : (([] : List Nat) ++ lst 11 ++ (([] : List Nat) ++ lst 0 ++ decs (e5 % nn 3))).length ≤ 82 := by rw [List.length_append]; have := hl1; omega
    refine va_ldcS hx hb hC.2.2.2.1 hR.lld12 dL_test_256 ?_
    refine w_sbLit (i := 12) (by decide) hC hN hK hR hT hI (by rw [List.length_append]; have := lst_len 12 (by decide); omega) wq_1203 (by decide) hl.1 (Nat.le_of_ble_eq_true rfl) dL_test_258 ⟨by omega, by omega⟩ (fun u H locs hI hT => ?_)
    have hL : (([] : List Nat) ++ lst 11 ++ (([] : List Nat) ++ lst 0 ++ decs (e5 % nn 3)) ++ lst 12).length ≤ 122 := by rw [List.length_append]; have := lst_len 12 (by decide); omega
    refine lv_aload hx hb dL_test_261 (lv_at hl 0 rfl) ?_
    refine w_sbApp hC hN hK hR hT hI (SE.of hts hK hT.1 (i0 := 2) (i1 := 3) rfl rfl (notA hT (i := 0) rfl) (notA hT (i := 1) rfl)) ht2 hg2 (by rw [List.length_append]; omega) wq_1203 (by decide) hl.1 (Nat.le_of_ble_eq_true rfl) dL_test_263 ⟨by omega, by omega⟩ (fun u H locs hI hT => ?_)
    have hL : (([] : List Nat) ++ lst 11 ++ (([] : List Nat) ++ lst 0 ++ decs (e5 % nn 3)) ++ lst 12 ++ (([] : List Nat) ++ lst 1 ++ decs (e5 % nn 4))).length ≤ 164 := by rw [List.length_append]; have := hl2; omega
    refine va_ldcS hx hb hC.2.2.2.1 hR.lld13 dL_test_266 ?_
    refine w_sbLit (i := 13) (by decide) hC hN hK hR hT hI (by rw [List.length_append]; have := lst_len 13 (by decide); omega) wq_1203 (by decide) hl.1 (Nat.le_of_ble_eq_true rfl) dL_test_268 ⟨by omega, by omega⟩ (fun u H locs hI hT => ?_)
    have hL : (([] : List Nat) ++ lst 11 ++ (([] : List Nat) ++ lst 0 ++ decs (e5 % nn 3)) ++ lst 12 ++ (([] : List Nat) ++ lst 1 ++ decs (e5 % nn 4)) ++ lst 13).length ≤ 204 := by rw [List.length_append]; have := lst_len 13 (by decide); omega
    refine lv_iload_n hx hb dL_test_271 rfl (lv_at hl 3 rfl) ?_
    refine w_sbInt (x := e3) (by omega) hC hN hK hR hT hI (by rw [List.length_append]; have := decs_le (e3); omega) wq_1309 (by decide) hl.1 (Nat.le_of_ble_eq_true rfl) dL_test_272 ⟨by omega, by omega⟩ (fun u H locs hI hT => ?_)
    have hL : (([] : List Nat) ++ lst 11 ++ (([] : List Nat) ++ lst 0 ++ decs (e5 % nn 3)) ++ lst 12 ++ (([] : List Nat) ++ lst 1 ++ decs (e5 % nn 4)) ++ lst 13 ++ decs e3).length ≤ 206 := by rw [List.length_append]; have := decs_le (e3); omega
    refine w_sbStr hC hN hK hR hT hI wq_1376 (by decide) hl.1 (Nat.le_of_ble_eq_true rfl) dL_test_275 ⟨by omega, by omega⟩ (fun q3 w3 g3 H locs hg3 hT => ?_)
    refine W.widen (k := 30) (n := 60000) (by omega) (by omega) ?_
    have hT := hT.sub (List.Sublist.append (List.Sublist.refl _) (List.Sublist.trans (List.sublist_append_right _ _) (List.sublist_append_right _ _)))
    exact hret 278 ls _ _ (some (q3, w3, g3)) hg3 hT dL_test_278
  · refine w_swi (off := 210) (tgt := 279) 6 hx hb dL_test_69 (by decide) (by decide) (by decide) (by decide) (by decide) ?_
    refine w_sbNew hC hK hT wq_1354 (by show _ ≤ 30; omega) (by show _ ≤ 60000; omega) dL_test_279 (fun b3 H hT => ?_)
    refine lv_dup hx hb dL_test_282 rfl ?_
    refine w_sbIni hC hN hK hR hT wq_1356 (by decide) hl.1 (Nat.le_of_ble_eq_true rfl) dL_test_283 ⟨by omega, by omega⟩ (fun u H locs hI hT => ?_)
    have hL : ([] : List Nat).length ≤ 0 := Nat.le_refl _
    refine va_ldcS hx hb hC.2.2.2.1 hR.lld14 dL_test_286 ?_
    refine w_sbLit (i := 14) (by decide) hC hN hK hR hT hI (by rw [List.length_append]; have := lst_len 14 (by decide); omega) wq_1203 (by decide) hl.1 (Nat.le_of_ble_eq_true rfl) dL_test_288 ⟨by omega, by omega⟩ (fun u H locs hI hT => ?_)
    have hL : (([] : List Nat) ++ lst 14).length ≤ 40 := by rw [List.length_append]; have := lst_len 14 (by decide); omega
    refine lv_iload_n hx hb dL_test_291 rfl (lv_at hl 3 rfl) ?_
    refine w_sbInt (x := e3) (by omega) hC hN hK hR hT hI (by rw [List.length_append]; have := decs_le (e3); omega) wq_1309 (by decide) hl.1 (Nat.le_of_ble_eq_true rfl) dL_test_292 ⟨by omega, by omega⟩ (fun u H locs hI hT => ?_)
    have hL : (([] : List Nat) ++ lst 14 ++ decs e3).length ≤ 42 := by rw [List.length_append]; have := decs_le (e3); omega
    refine va_ldcS hx hb hC.2.2.2.1 hR.lld15 dL_test_295 ?_
    refine w_sbLit (i := 15) (by decide) hC hN hK hR hT hI (by rw [List.length_append]; have := lst_len 15 (by decide); omega) wq_1203 (by decide) hl.1 (Nat.le_of_ble_eq_true rfl) dL_test_297 ⟨by omega, by omega⟩ (fun u H locs hI hT => ?_)
    have hL : (([] : List Nat) ++ lst 14 ++ decs e3 ++ lst 15).length ≤ 82 := by rw [List.length_append]; have := lst_len 15 (by decide); omega
    refine lv_aload hx hb dL_test_300 (lv_at hl 0 rfl) ?_
    refine w_sbApp hC hN hK hR hT hI (SE.of hts hK hT.1 (i0 := 2) (i1 := 3) rfl rfl (notA hT (i := 0) rfl) (notA hT (i := 1) rfl)) ht2 hg2 (by rw [List.length_append]; omega) wq_1203 (by decide) hl.1 (Nat.le_of_ble_eq_true rfl) dL_test_302 ⟨by omega, by omega⟩ (fun u H locs hI hT => ?_)
    have hL : (([] : List Nat) ++ lst 14 ++ decs e3 ++ lst 15 ++ (([] : List Nat) ++ lst 1 ++ decs (e5 % nn 4))).length ≤ 124 := by rw [List.length_append]; have := hl2; omega
    refine va_ldcS hx hb hC.2.2.2.1 hR.lld16 dL_test_305 ?_
    refine w_sbLit (i := 16) (by decide) hC hN hK hR hT hI (by rw [List.length_append]; have := lst_len 16 (by decide); omega) wq_1203 (by decide) hl.1 (Nat.le_of_ble_eq_true rfl) dL_test_307 ⟨by omega, by omega⟩ (fun u H locs hI hT => ?_)
    have hL : (([] : List Nat) ++ lst 14 ++ decs e3 ++ lst 15 ++ (([] : List Nat) ++ lst 1 ++ decs (e5 % nn 4)) ++ lst 16).length ≤ 164 := by rw [List.length_append]; have := lst_len 16 (by decide); omega
    refine lv_iload_n hx hb dL_test_310 rfl (lv_at hl 2 rfl) ?_
    refine w_sbInt (x := e4) (by omega) hC hN hK hR hT hI (by rw [List.length_append]; have := decs_le (e4); omega) wq_1309 (by decide) hl.1 (Nat.le_of_ble_eq_true rfl) dL_test_311 ⟨by omega, by omega⟩ (fun u H locs hI hT => ?_)
    have hL : (([] : List Nat) ++ lst 14 ++ decs e3 ++ lst 15 ++ (([] : List Nat) ++ lst 1 ++ decs (e5 % nn 4)) ++ lst 16 ++ decs e4).length ≤ 166 := by rw [List.length_append]; have := decs_le (e4); omega
    refine va_ldcS hx hb hC.2.2.2.1 hR.lld17 dL_test_314 ?_
    refine w_sbLit (i := 17) (by decide) hC hN hK hR hT hI (by rw [List.length_append]; have := lst_len 17 (by decide); omega) wq_1203 (by decide) hl.1 (Nat.le_of_ble_eq_true rfl) dL_test_316 ⟨by omega, by omega⟩ (fun u H locs hI hT => ?_)
    have hL : (([] : List Nat) ++ lst 14 ++ decs e3 ++ lst 15 ++ (([] : List Nat) ++ lst 1 ++ decs (e5 % nn 4)) ++ lst 16 ++ decs e4 ++ lst 17).length ≤ 206 := by rw [List.length_append]; have := lst_len 17 (by decide); omega
    refine w_sbStr hC hN hK hR hT hI wq_1376 (by decide) hl.1 (Nat.le_of_ble_eq_true rfl) dL_test_319 ⟨by omega, by omega⟩ (fun q3 w3 g3 H locs hg3 hT => ?_)
    refine W.widen (k := 30) (n := 60000) (by omega) (by omega) ?_
    have hT := hT.sub (List.Sublist.append (List.Sublist.refl _) (List.Sublist.trans (List.sublist_append_right _ _) (List.sublist_append_right _ _)))
    exact hret 322 ls _ _ (some (q3, w3, g3)) hg3 hT dL_test_322
  · refine w_swd (tgt := 323) [0, 1, 2, 3, 4, 5, 6] hx hb dL_test_69 (by decide) (by decide) (fun k hk => by revert k; decide) (by decide) ?_
    refine w_sbNew hC hK hT wq_1354 (by show _ ≤ 30; omega) (by show _ ≤ 60000; omega) dL_test_323 (fun b3 H hT => ?_)
    refine lv_dup hx hb dL_test_326 rfl ?_
    refine w_sbIni hC hN hK hR hT wq_1356 (by decide) hl.1 (Nat.le_of_ble_eq_true rfl) dL_test_327 ⟨by omega, by omega⟩ (fun u H locs hI hT => ?_)
    have hL : ([] : List Nat).length ≤ 0 := Nat.le_refl _
    refine va_ldcS hx hb hC.2.2.2.1 hR.lld18 dL_test_330 ?_
    refine w_sbLit (i := 18) (by decide) hC hN hK hR hT hI (by rw [List.length_append]; have := lst_len 18 (by decide); omega) wq_1203 (by decide) hl.1 (Nat.le_of_ble_eq_true rfl) dL_test_332 ⟨by omega, by omega⟩ (fun u H locs hI hT => ?_)
    have hL : (([] : List Nat) ++ lst 18).length ≤ 40 := by rw [List.length_append]; have := lst_len 18 (by decide); omega
    refine lv_iload_n hx hb dL_test_335 rfl (lv_at hl 3 rfl) ?_
    refine w_sbInt (x := e3) (by omega) hC hN hK hR hT hI (by rw [List.length_append]; have := decs_le (e3); omega) wq_1309 (by decide) hl.1 (Nat.le_of_ble_eq_true rfl) dL_test_336 ⟨by omega, by omega⟩ (fun u H locs hI hT => ?_)
    have hL : (([] : List Nat) ++ lst 18 ++ decs e3).length ≤ 42 := by rw [List.length_append]; have := decs_le (e3); omega
    refine va_ldcS hx hb hC.2.2.2.1 hR.lld19 dL_test_339 ?_
    refine w_sbLit (i := 19) (by decide) hC hN hK hR hT hI (by rw [List.length_append]; have := lst_len 19 (by decide); omega) wq_1203 (by decide) hl.1 (Nat.le_of_ble_eq_true rfl) dL_test_341 ⟨by omega, by omega⟩ (fun u H locs hI hT => ?_)
    have hL : (([] : List Nat) ++ lst 18 ++ decs e3 ++ lst 19).length ≤ 82 := by rw [List.length_append]; have := lst_len 19 (by decide); omega
    refine w_sbStr hC hN hK hR hT hI wq_1376 (by decide) hl.1 (Nat.le_of_ble_eq_true rfl) dL_test_344 ⟨by omega, by omega⟩ (fun q3 w3 g3 H locs hg3 hT => ?_)
    refine W.widen (k := 30) (n := 60000) (by omega) (by omega) ?_
    have hT := hT.sub (List.Sublist.append (List.Sublist.refl _) (List.Sublist.trans (List.sublist_append_right _ _) (List.sublist_append_right _ _)))
    exact hret 347 ls _ _ (some (q3, w3, g3)) hg3 hT dL_test_347
