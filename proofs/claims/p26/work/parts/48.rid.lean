def sbs : List (List Int32) := [[98, 111, 114, 101], [108, 111, 110, 103], [108, 111, 119], [115, 104, 97, 102, 116], [97, 116], [100, 114, 97, 117, 103, 104, 116], [108, 101, 103, 103, 101, 114], [115, 116, 114, 101, 110, 103, 116, 104], [108, 117, 110, 103, 115], [98, 111, 97, 116], [119, 101, 105, 103, 104, 116], [102, 114, 111, 109], [119, 101, 115, 116], [101, 97, 115, 116], [100, 117, 101], [98, 121], [97, 110, 100], [119, 104, 105, 115, 116, 108, 101], [114, 101, 115, 116], [119, 104, 101, 110], [109, 105, 110, 117, 116, 101], [116, 117, 114, 110], [97, 105, 114], [98, 114, 101, 97, 116, 104], [112, 108, 97, 99, 101], [119, 97, 105, 116, 115], [105, 110, 115, 105, 100, 101], [99, 97, 112, 112, 101, 100], [110, 111, 116], [111, 114], [109, 105, 110], [109, 97, 120], [98, 111, 114, 101], [98, 111, 114, 101], [108, 111, 110, 103], [108, 111, 119], [115, 104, 97, 102, 116], [97, 116], [100, 114, 97, 117, 103, 104, 116], [108, 101, 103, 103, 101, 114], [115, 116, 114, 101, 110, 103, 116, 104], [108, 117, 110, 103, 115], [98, 111, 97, 116], [119, 101, 105, 103, 104, 116], [102, 114, 111, 109], [119, 101, 115, 116], [101, 97, 115, 116], [100, 117, 101], [98, 121], [97, 110, 100], [119, 104, 105, 115, 116, 108, 101], [114, 101, 115, 116], [119, 104, 101, 110], [109, 105, 110, 117, 116, 101], [116, 117, 114, 110], [97, 105, 114], [98, 114, 101, 97, 116, 104], [112, 108, 97, 99, 101], [119, 97, 105, 116, 115], [105, 110, 115, 105, 100, 101], [99, 97, 112, 112, 101, 100], [110, 111, 116], [111, 114], [109, 105, 110], [109, 97, 120]]
def sb (i j : Nat) : Int32 := (sbs.getD i []).getD j 0
def sn (i : Nat) : Nat := (sbs.getD i []).length
def LDC : List (String × Nat × String) := [(RX3, 39, "bore"), (RX3, 45, "long"), (RX3, 47, "low"), (RX3, 49, "shaft"), (RX3, 51, "at"), (RX3, 53, "draught"), (RX3, 55, "legger"), (RX3, 57, "strength"), (RX3, 59, "lungs"), (RX3, 61, "boat"), (RX3, 63, "weight"), (RX3, 65, "from"), (RX3, 67, "west"), (RX3, 69, "east"), (RX3, 71, "due"), (RX3, 73, "by"), (RX3, 75, "and"), (RX3, 77, "whistle"), (RX3, 79, "rest"), (RX3, 81, "when"), (RX3, 83, "minute"), (RX3, 85, "turn"), (RX3, 87, "air"), (RX3, 89, "breath"), (RX3, 91, "place"), (RX3, 93, "waits"), (RX3, 95, "inside"), (RX3, 97, "capped"), (RX3, 99, "not"), (RX3, 101, "or"), (RX3, 103, "min"), (RX3, 105, "max")]
def LDCat (i : Nat) : String × Nat × String := LDC.getD i ("", 0, "")
def lsbs : List (List Nat) := [[109], [98], [109, 105, 110, 117, 116, 101, 47], [42], [61, 109, 105, 110, 117, 116, 101], [119, 97, 105, 116, 115, 32, 101, 97, 115, 116, 62, 119, 97, 105, 116, 115, 32, 119, 101, 115, 116], [119, 97, 105, 116, 115, 32, 119, 101, 115, 116, 61, 48, 32, 97, 110, 100, 32, 110, 111, 116, 32, 105, 110, 115, 105, 100, 101, 32], [97, 105, 114, 40], [41, 60], [98, 114, 101, 97, 116, 104, 32], [60], [110, 111, 116, 32, 99, 97, 112, 112, 101, 100, 32], [32, 111, 114, 32, 112, 108, 97, 99, 101, 32], [62, 61], [116, 117, 114, 110, 61, 49, 32, 97, 110, 100, 32, 91, 109, 105, 110, 117, 116, 101, 62], [32, 111, 114, 32, 97, 105, 114, 40, 112, 108, 97, 99, 101, 32], [41, 62], [93], [109, 105, 110, 40, 119, 97, 105, 116, 115, 32, 119, 101, 115, 116, 44], [41, 32, 45, 32, 119, 97, 105, 116, 115, 32, 101, 97, 115, 116, 60, 49], [98, 111, 114, 101, 32, 97], [32, 108, 111, 110, 103, 32], [32, 108, 111, 119, 32], [59], [115, 104, 97, 102, 116, 32, 97], [32, 97, 116, 32], [32, 100, 114, 97, 117, 103, 104, 116, 32], [108, 101, 103, 103, 101, 114, 32, 109], [32, 115, 116, 114, 101, 110, 103, 116, 104, 32], [32, 108, 117, 110, 103, 115, 32], [59, 10], [98, 111, 97, 116, 32, 98], [32, 119, 101, 105, 103, 104, 116, 32], [32, 102, 114, 111, 109, 32], [119, 101, 115, 116], [101, 97, 115, 116], [32, 100, 117, 101, 32], [32, 98, 121, 32, 109], [32, 97, 110, 100, 32, 109], [119, 104, 105, 115, 116, 108, 101, 32, 119, 101, 115, 116], [119, 104, 105, 115, 116, 108, 101, 32, 101, 97, 115, 116], [114, 101, 115, 116, 32, 109], [32, 119, 104, 101, 110, 32]]
def lst (j : Nat) : List Nat := lsbs.getD j []
def lsb (j k : Nat) : Int32 := Int32.ofNat ((lst j).getD k 0)
def lsn (j : Nat) : Nat := (lst j).length
def LLD : List (Nat × String) := [(35, "m"), (54, "b"), (59, "minute/"), (61, "*"), (63, "=minute"), (65, "waits east>waits west"), (67, "waits west=0 and not inside "), (69, "air("), (71, ")<"), (73, "breath "), (75, "<"), (77, "not capped "), (79, " or place "), (81, ">="), (83, "turn=1 and [minute>"), (85, " or air(place "), (87, ")>"), (89, "]"), (91, "min(waits west,"), (93, ") - waits east<1"), (111, "bore a"), (113, " long "), (115, " low "), (117, ";"), (125, "shaft a"), (127, " at "), (129, " draught "), (131, "legger m"), (133, " strength "), (135, " lungs "), (137, ";\n"), (139, "boat b"), (141, " weight "), (143, " from "), (145, "west"), (147, "east"), (149, " due "), (151, " by m"), (153, " and m"), (158, "whistle west"), (160, "whistle east"), (162, "rest m"), (164, " when ")]
def LLDat (j : Nat) : Nat × String := LLD.getD j (0, "")
def kDigitOnes : Nat → Int32 := fun j => Int32.ofNat (48 + j % 10)
def kDigitTens : Nat → Int32 := fun j => Int32.ofNat (48 + j / 10)
def kBORE_LINE : Nat → Int32 := fun j => ([34, 2, 35, 4, 36, 4] : List Int32).getD j 0
def kSHAFT_LINE : Nat → Int32 := fun j => ([37, 2, 38, 4, 39, 4] : List Int32).getD j 0
def kLEGGER_LINE : Nat → Int32 := fun j => ([40, 2, 41, 4, 42, 4] : List Int32).getD j 0
def kBOAT_LINE : Nat → Int32 := fun j => ([43, 2, 44, 4, 45, 3, 46, 4, 47, 2, 24, 2] : List Int32).getD j 0
def kWHISTLE_HEAD : Nat → Int32 := fun j => ([48, 3, 50] : List Int32).getD j 0
def kREST_HEAD : Nat → Int32 := fun j => ([49, 2, 50] : List Int32).getD j 0
def SPL : List MethodName := [yJ5_ensureCapacityInternal_d00df, yJ5_newCapacity_0f7a4, yJ5_putStringAt_47b60, yJ5_inflateIfNeededFor_a7421]
def SELP (U : State) : Prop := (∀ y ∈ SPL, (Cond.selects RJ4 y y).before #[] U = true) ∧ va_Nw (.castable "[B" "java/lang/Cloneable") U
theorem SELP.warm {u U : State} (hW : u.WarmedH U.vm) (h : SELP u) : SELP U := ⟨fun y hy => word_at hW (Or.inl rfl) (h.1 y hy), va_Nw.warmC hW h.2⟩
theorem SELP.same {u U : State} (hv : U.vm = u.vm) (h : SELP u) : SELP U := ⟨fun y hy => va_tabs rfl hv.symm (h.1 y hy), va_Nw.same rfl hv.symm h.2⟩
theorem SELP.use {u : State} {args : Array Value} (h : SELP u) {y : MethodName} (hy : y ∈ SPL) : (Cond.selects RJ4 y y).before args u = true := va_tabs rfl rfl (h.1 y hy)
def RD (r : Nat → Nat) (A : Nat → Prop) : R2 := fun U H => JZ A U H ∧ (∀ i < 65, SE (r i) (r (100 + i)) (sn i) (sb i) A U H) ∧ (∀ i < 32, vk_R (LDCat i).1 (LDCat i).2.1 (LDCat i).2.2 (r (33 + i)) U) ∧ (∀ i < 43, SE (r (500 + i)) (r (600 + i)) (lsn i) (lsb i) A U H) ∧ (∀ i < 43, vk_R "TunnelLeggersLaw" (LLDat i).1 (LLDat i).2 (r (500 + i)) U) ∧ va_Z "TunnelLeggers" "BORE_LINE" "[I" (.ref (r 200)) A U H ∧ va_Z "TunnelLeggers" "SHAFT_LINE" "[I" (.ref (r 201)) A U H ∧ va_Z "TunnelLeggers" "LEGGER_LINE" "[I" (.ref (r 202)) A U H ∧ va_Z "TunnelLeggers" "BOAT_LINE" "[I" (.ref (r 203)) A U H ∧ va_Z "TunnelLeggers" "WHISTLE_HEAD" "[I" (.ref (r 204)) A U H ∧ va_Z "TunnelLeggers" "REST_HEAD" "[I" (.ref (r 205)) A U H ∧ va_T .int (r 200) 6 (fun j => .int (kBORE_LINE j)) A U H ∧ va_T .int (r 201) 6 (fun j => .int (kSHAFT_LINE j)) A U H ∧ va_T .int (r 202) 6 (fun j => .int (kLEGGER_LINE j)) A U H ∧ va_T .int (r 203) 12 (fun j => .int (kBOAT_LINE j)) A U H ∧ va_T .int (r 204) 3 (fun j => .int (kWHISTLE_HEAD j)) A U H ∧ va_T .int (r 205) 3 (fun j => .int (kREST_HEAD j)) A U H ∧ va_Z "java/lang/Integer" "DigitOnes" "[B" (.ref (r 207)) A U H ∧ va_Z "java/lang/Integer" "DigitTens" "[B" (.ref (r 208)) A U H ∧ va_T .byte (r 207) 100 (fun j => .int (kDigitOnes j)) A U H ∧ va_T .byte (r 208) 100 (fun j => .int (kDigitTens j)) A U H ∧ SELP U
theorem RD.kept {r : Nat → Nat} {A : Nat → Prop} {U : State} {H H1 : Heap} (h : RD r A U H) (hq : ∀ a : Nat, a < H.size → ¬ A a → H1[a]? = H[a]?) : RD r A U H1 := ⟨h.1.kept hq, fun i hi => (h.2.1 i hi).kept hq, h.2.2.1, fun i hi => (h.2.2.2.1 i hi).kept hq, h.2.2.2.2.1, h.2.2.2.2.2.1.kept hq, h.2.2.2.2.2.2.1.kept hq, h.2.2.2.2.2.2.2.1.kept hq, h.2.2.2.2.2.2.2.2.1.kept hq, h.2.2.2.2.2.2.2.2.2.1.kept hq, h.2.2.2.2.2.2.2.2.2.2.1.kept hq, h.2.2.2.2.2.2.2.2.2.2.2.1.kept hq, h.2.2.2.2.2.2.2.2.2.2.2.2.1.kept hq, h.2.2.2.2.2.2.2.2.2.2.2.2.2.1.kept hq, h.2.2.2.2.2.2.2.2.2.2.2.2.2.2.1.kept hq, h.2.2.2.2.2.2.2.2.2.2.2.2.2.2.2.1.kept hq, h.2.2.2.2.2.2.2.2.2.2.2.2.2.2.2.2.1.kept hq, h.2.2.2.2.2.2.2.2.2.2.2.2.2.2.2.2.2.1.kept hq, h.2.2.2.2.2.2.2.2.2.2.2.2.2.2.2.2.2.2.1.kept hq, h.2.2.2.2.2.2.2.2.2.2.2.2.2.2.2.2.2.2.2.1.kept hq, h.2.2.2.2.2.2.2.2.2.2.2.2.2.2.2.2.2.2.2.2.1.kept hq, h.2.2.2.2.2.2.2.2.2.2.2.2.2.2.2.2.2.2.2.2.2⟩
theorem RD.narrow {r : Nat → Nat} {A B : Nat → Prop} {U : State} {H : Heap} (h : RD r A U H) (hAB : ∀ q, B q → A q) : RD r B U H := ⟨h.1.narrow hAB, fun i hi => (h.2.1 i hi).narrow hAB, h.2.2.1, fun i hi => (h.2.2.2.1 i hi).narrow hAB, h.2.2.2.2.1, h.2.2.2.2.2.1.narrow hAB, h.2.2.2.2.2.2.1.narrow hAB, h.2.2.2.2.2.2.2.1.narrow hAB, h.2.2.2.2.2.2.2.2.1.narrow hAB, h.2.2.2.2.2.2.2.2.2.1.narrow hAB, h.2.2.2.2.2.2.2.2.2.2.1.narrow hAB, h.2.2.2.2.2.2.2.2.2.2.2.1.narrow hAB, h.2.2.2.2.2.2.2.2.2.2.2.2.1.narrow hAB, h.2.2.2.2.2.2.2.2.2.2.2.2.2.1.narrow hAB, h.2.2.2.2.2.2.2.2.2.2.2.2.2.2.1.narrow hAB, h.2.2.2.2.2.2.2.2.2.2.2.2.2.2.2.1.narrow hAB, h.2.2.2.2.2.2.2.2.2.2.2.2.2.2.2.2.1.narrow hAB, h.2.2.2.2.2.2.2.2.2.2.2.2.2.2.2.2.2.1.narrow hAB, h.2.2.2.2.2.2.2.2.2.2.2.2.2.2.2.2.2.2.1.narrow hAB, h.2.2.2.2.2.2.2.2.2.2.2.2.2.2.2.2.2.2.2.1.narrow hAB, h.2.2.2.2.2.2.2.2.2.2.2.2.2.2.2.2.2.2.2.2.1.narrow hAB, h.2.2.2.2.2.2.2.2.2.2.2.2.2.2.2.2.2.2.2.2.2⟩
theorem JZ.mv {A : Nat → Prop} {u U : State} {H : Heap} (h : JZ A u H) (hv : u.vm.Alike U.vm) : JZ A U H := JZ.steady _ _ _ hv h
theorem RD.warm {r : Nat → Nat} {A : Nat → Prop} {u U : State} {H : Heap} (hW : u.WarmedH U.vm) (h : RD r A u H) : RD r A U H := ⟨JZ.steady _ _ _ hW.alike h.1, fun i hi => SE.steady _ _ _ hW.alike (h.2.1 i hi), fun i hi => (h.2.2.1 i hi).warm hW, fun i hi => SE.steady _ _ _ hW.alike (h.2.2.2.1 i hi), fun i hi => (h.2.2.2.2.1 i hi).warm hW, h.2.2.2.2.2.1.moved hW.alike, h.2.2.2.2.2.2.1.moved hW.alike, h.2.2.2.2.2.2.2.1.moved hW.alike, h.2.2.2.2.2.2.2.2.1.moved hW.alike, h.2.2.2.2.2.2.2.2.2.1.moved hW.alike, h.2.2.2.2.2.2.2.2.2.2.1.moved hW.alike, h.2.2.2.2.2.2.2.2.2.2.2.1.moved hW.alike, h.2.2.2.2.2.2.2.2.2.2.2.2.1.moved hW.alike, h.2.2.2.2.2.2.2.2.2.2.2.2.2.1.moved hW.alike, h.2.2.2.2.2.2.2.2.2.2.2.2.2.2.1.moved hW.alike, h.2.2.2.2.2.2.2.2.2.2.2.2.2.2.2.1.moved hW.alike, h.2.2.2.2.2.2.2.2.2.2.2.2.2.2.2.2.1.moved hW.alike, h.2.2.2.2.2.2.2.2.2.2.2.2.2.2.2.2.2.1.moved hW.alike, h.2.2.2.2.2.2.2.2.2.2.2.2.2.2.2.2.2.2.1.moved hW.alike, h.2.2.2.2.2.2.2.2.2.2.2.2.2.2.2.2.2.2.2.1.moved hW.alike, h.2.2.2.2.2.2.2.2.2.2.2.2.2.2.2.2.2.2.2.2.1.moved hW.alike, h.2.2.2.2.2.2.2.2.2.2.2.2.2.2.2.2.2.2.2.2.2.warm hW⟩
theorem RD.same {r : Nat → Nat} {A : Nat → Prop} {u U : State} {H : Heap} (hv : U.vm = u.vm) (h : RD r A u H) : RD r A U H := by
  have hA : u.vm.Alike U.vm := hv ▸ Vm.Alike.refl u.vm
  exact ⟨JZ.steady _ _ _ hA h.1, fun i hi => SE.steady _ _ _ hA (h.2.1 i hi), fun i hi => (h.2.2.1 i hi).same hv, fun i hi => SE.steady _ _ _ hA (h.2.2.2.1 i hi), fun i hi => (h.2.2.2.2.1 i hi).same hv, h.2.2.2.2.2.1.moved hA, h.2.2.2.2.2.2.1.moved hA, h.2.2.2.2.2.2.2.1.moved hA, h.2.2.2.2.2.2.2.2.1.moved hA, h.2.2.2.2.2.2.2.2.2.1.moved hA, h.2.2.2.2.2.2.2.2.2.2.1.moved hA, h.2.2.2.2.2.2.2.2.2.2.2.1.moved hA, h.2.2.2.2.2.2.2.2.2.2.2.2.1.moved hA, h.2.2.2.2.2.2.2.2.2.2.2.2.2.1.moved hA, h.2.2.2.2.2.2.2.2.2.2.2.2.2.2.1.moved hA, h.2.2.2.2.2.2.2.2.2.2.2.2.2.2.2.1.moved hA, h.2.2.2.2.2.2.2.2.2.2.2.2.2.2.2.2.1.moved hA, h.2.2.2.2.2.2.2.2.2.2.2.2.2.2.2.2.2.1.moved hA, h.2.2.2.2.2.2.2.2.2.2.2.2.2.2.2.2.2.2.1.moved hA, h.2.2.2.2.2.2.2.2.2.2.2.2.2.2.2.2.2.2.2.1.moved hA, h.2.2.2.2.2.2.2.2.2.2.2.2.2.2.2.2.2.2.2.2.1.moved hA, h.2.2.2.2.2.2.2.2.2.2.2.2.2.2.2.2.2.2.2.2.2.same hv⟩
theorem RD.ldc33 {r : Nat → Nat} {A : Nat → Prop} {U : State} {H : Heap} (h : RD r A U H) : vk_R RX3 39 "bore" (r 33) U := h.2.2.1 0 (by decide)
theorem RD.ldc34 {r : Nat → Nat} {A : Nat → Prop} {U : State} {H : Heap} (h : RD r A U H) : vk_R RX3 45 "long" (r 34) U := h.2.2.1 1 (by decide)
theorem RD.ldc35 {r : Nat → Nat} {A : Nat → Prop} {U : State} {H : Heap} (h : RD r A U H) : vk_R RX3 47 "low" (r 35) U := h.2.2.1 2 (by decide)
theorem RD.ldc36 {r : Nat → Nat} {A : Nat → Prop} {U : State} {H : Heap} (h : RD r A U H) : vk_R RX3 49 "shaft" (r 36) U := h.2.2.1 3 (by decide)
theorem RD.ldc37 {r : Nat → Nat} {A : Nat → Prop} {U : State} {H : Heap} (h : RD r A U H) : vk_R RX3 51 "at" (r 37) U := h.2.2.1 4 (by decide)
theorem RD.ldc38 {r : Nat → Nat} {A : Nat → Prop} {U : State} {H : Heap} (h : RD r A U H) : vk_R RX3 53 "draught" (r 38) U := h.2.2.1 5 (by decide)
theorem RD.ldc39 {r : Nat → Nat} {A : Nat → Prop} {U : State} {H : Heap} (h : RD r A U H) : vk_R RX3 55 "legger" (r 39) U := h.2.2.1 6 (by decide)
theorem RD.ldc40 {r : Nat → Nat} {A : Nat → Prop} {U : State} {H : Heap} (h : RD r A U H) : vk_R RX3 57 "strength" (r 40) U := h.2.2.1 7 (by decide)
theorem RD.ldc41 {r : Nat → Nat} {A : Nat → Prop} {U : State} {H : Heap} (h : RD r A U H) : vk_R RX3 59 "lungs" (r 41) U := h.2.2.1 8 (by decide)
theorem RD.ldc42 {r : Nat → Nat} {A : Nat → Prop} {U : State} {H : Heap} (h : RD r A U H) : vk_R RX3 61 "boat" (r 42) U := h.2.2.1 9 (by decide)
theorem RD.ldc43 {r : Nat → Nat} {A : Nat → Prop} {U : State} {H : Heap} (h : RD r A U H) : vk_R RX3 63 "weight" (r 43) U := h.2.2.1 10 (by decide)
theorem RD.ldc44 {r : Nat → Nat} {A : Nat → Prop} {U : State} {H : Heap} (h : RD r A U H) : vk_R RX3 65 "from" (r 44) U := h.2.2.1 11 (by decide)
theorem RD.ldc45 {r : Nat → Nat} {A : Nat → Prop} {U : State} {H : Heap} (h : RD r A U H) : vk_R RX3 67 "west" (r 45) U := h.2.2.1 12 (by decide)
theorem RD.ldc46 {r : Nat → Nat} {A : Nat → Prop} {U : State} {H : Heap} (h : RD r A U H) : vk_R RX3 69 "east" (r 46) U := h.2.2.1 13 (by decide)
theorem RD.ldc47 {r : Nat → Nat} {A : Nat → Prop} {U : State} {H : Heap} (h : RD r A U H) : vk_R RX3 71 "due" (r 47) U := h.2.2.1 14 (by decide)
theorem RD.ldc48 {r : Nat → Nat} {A : Nat → Prop} {U : State} {H : Heap} (h : RD r A U H) : vk_R RX3 73 "by" (r 48) U := h.2.2.1 15 (by decide)
theorem RD.ldc49 {r : Nat → Nat} {A : Nat → Prop} {U : State} {H : Heap} (h : RD r A U H) : vk_R RX3 75 "and" (r 49) U := h.2.2.1 16 (by decide)
theorem RD.ldc50 {r : Nat → Nat} {A : Nat → Prop} {U : State} {H : Heap} (h : RD r A U H) : vk_R RX3 77 "whistle" (r 50) U := h.2.2.1 17 (by decide)
theorem RD.ldc51 {r : Nat → Nat} {A : Nat → Prop} {U : State} {H : Heap} (h : RD r A U H) : vk_R RX3 79 "rest" (r 51) U := h.2.2.1 18 (by decide)
theorem RD.ldc52 {r : Nat → Nat} {A : Nat → Prop} {U : State} {H : Heap} (h : RD r A U H) : vk_R RX3 81 "when" (r 52) U := h.2.2.1 19 (by decide)
theorem RD.ldc53 {r : Nat → Nat} {A : Nat → Prop} {U : State} {H : Heap} (h : RD r A U H) : vk_R RX3 83 "minute" (r 53) U := h.2.2.1 20 (by decide)
theorem RD.ldc54 {r : Nat → Nat} {A : Nat → Prop} {U : State} {H : Heap} (h : RD r A U H) : vk_R RX3 85 "turn" (r 54) U := h.2.2.1 21 (by decide)
theorem RD.ldc55 {r : Nat → Nat} {A : Nat → Prop} {U : State} {H : Heap} (h : RD r A U H) : vk_R RX3 87 "air" (r 55) U := h.2.2.1 22 (by decide)
theorem RD.ldc56 {r : Nat → Nat} {A : Nat → Prop} {U : State} {H : Heap} (h : RD r A U H) : vk_R RX3 89 "breath" (r 56) U := h.2.2.1 23 (by decide)
theorem RD.ldc57 {r : Nat → Nat} {A : Nat → Prop} {U : State} {H : Heap} (h : RD r A U H) : vk_R RX3 91 "place" (r 57) U := h.2.2.1 24 (by decide)
theorem RD.ldc58 {r : Nat → Nat} {A : Nat → Prop} {U : State} {H : Heap} (h : RD r A U H) : vk_R RX3 93 "waits" (r 58) U := h.2.2.1 25 (by decide)
theorem RD.ldc59 {r : Nat → Nat} {A : Nat → Prop} {U : State} {H : Heap} (h : RD r A U H) : vk_R RX3 95 "inside" (r 59) U := h.2.2.1 26 (by decide)
theorem RD.ldc60 {r : Nat → Nat} {A : Nat → Prop} {U : State} {H : Heap} (h : RD r A U H) : vk_R RX3 97 "capped" (r 60) U := h.2.2.1 27 (by decide)
theorem RD.ldc61 {r : Nat → Nat} {A : Nat → Prop} {U : State} {H : Heap} (h : RD r A U H) : vk_R RX3 99 "not" (r 61) U := h.2.2.1 28 (by decide)
theorem RD.ldc62 {r : Nat → Nat} {A : Nat → Prop} {U : State} {H : Heap} (h : RD r A U H) : vk_R RX3 101 "or" (r 62) U := h.2.2.1 29 (by decide)
theorem RD.ldc63 {r : Nat → Nat} {A : Nat → Prop} {U : State} {H : Heap} (h : RD r A U H) : vk_R RX3 103 "min" (r 63) U := h.2.2.1 30 (by decide)
theorem RD.ldc64 {r : Nat → Nat} {A : Nat → Prop} {U : State} {H : Heap} (h : RD r A U H) : vk_R RX3 105 "max" (r 64) U := h.2.2.1 31 (by decide)
theorem RD.lld0 {r : Nat → Nat} {A : Nat → Prop} {U : State} {H : Heap} (h : RD r A U H) : vk_R "TunnelLeggersLaw" 35 "m" (r 500) U := h.2.2.2.2.1 0 (by decide)
theorem RD.lld1 {r : Nat → Nat} {A : Nat → Prop} {U : State} {H : Heap} (h : RD r A U H) : vk_R "TunnelLeggersLaw" 54 "b" (r 501) U := h.2.2.2.2.1 1 (by decide)
theorem RD.lld2 {r : Nat → Nat} {A : Nat → Prop} {U : State} {H : Heap} (h : RD r A U H) : vk_R "TunnelLeggersLaw" 59 "minute/" (r 502) U := h.2.2.2.2.1 2 (by decide)
theorem RD.lld3 {r : Nat → Nat} {A : Nat → Prop} {U : State} {H : Heap} (h : RD r A U H) : vk_R "TunnelLeggersLaw" 61 "*" (r 503) U := h.2.2.2.2.1 3 (by decide)
theorem RD.lld4 {r : Nat → Nat} {A : Nat → Prop} {U : State} {H : Heap} (h : RD r A U H) : vk_R "TunnelLeggersLaw" 63 "=minute" (r 504) U := h.2.2.2.2.1 4 (by decide)
theorem RD.lld5 {r : Nat → Nat} {A : Nat → Prop} {U : State} {H : Heap} (h : RD r A U H) : vk_R "TunnelLeggersLaw" 65 "waits east>waits west" (r 505) U := h.2.2.2.2.1 5 (by decide)
theorem RD.lld6 {r : Nat → Nat} {A : Nat → Prop} {U : State} {H : Heap} (h : RD r A U H) : vk_R "TunnelLeggersLaw" 67 "waits west=0 and not inside " (r 506) U := h.2.2.2.2.1 6 (by decide)
theorem RD.lld7 {r : Nat → Nat} {A : Nat → Prop} {U : State} {H : Heap} (h : RD r A U H) : vk_R "TunnelLeggersLaw" 69 "air(" (r 507) U := h.2.2.2.2.1 7 (by decide)
theorem RD.lld8 {r : Nat → Nat} {A : Nat → Prop} {U : State} {H : Heap} (h : RD r A U H) : vk_R "TunnelLeggersLaw" 71 ")<" (r 508) U := h.2.2.2.2.1 8 (by decide)
theorem RD.lld9 {r : Nat → Nat} {A : Nat → Prop} {U : State} {H : Heap} (h : RD r A U H) : vk_R "TunnelLeggersLaw" 73 "breath " (r 509) U := h.2.2.2.2.1 9 (by decide)
theorem RD.lld10 {r : Nat → Nat} {A : Nat → Prop} {U : State} {H : Heap} (h : RD r A U H) : vk_R "TunnelLeggersLaw" 75 "<" (r 510) U := h.2.2.2.2.1 10 (by decide)
theorem RD.lld11 {r : Nat → Nat} {A : Nat → Prop} {U : State} {H : Heap} (h : RD r A U H) : vk_R "TunnelLeggersLaw" 77 "not capped " (r 511) U := h.2.2.2.2.1 11 (by decide)
theorem RD.lld12 {r : Nat → Nat} {A : Nat → Prop} {U : State} {H : Heap} (h : RD r A U H) : vk_R "TunnelLeggersLaw" 79 " or place " (r 512) U := h.2.2.2.2.1 12 (by decide)
theorem RD.lld13 {r : Nat → Nat} {A : Nat → Prop} {U : State} {H : Heap} (h : RD r A U H) : vk_R "TunnelLeggersLaw" 81 ">=" (r 513) U := h.2.2.2.2.1 13 (by decide)
theorem RD.lld14 {r : Nat → Nat} {A : Nat → Prop} {U : State} {H : Heap} (h : RD r A U H) : vk_R "TunnelLeggersLaw" 83 "turn=1 and [minute>" (r 514) U := h.2.2.2.2.1 14 (by decide)
theorem RD.lld15 {r : Nat → Nat} {A : Nat → Prop} {U : State} {H : Heap} (h : RD r A U H) : vk_R "TunnelLeggersLaw" 85 " or air(place " (r 515) U := h.2.2.2.2.1 15 (by decide)
theorem RD.lld16 {r : Nat → Nat} {A : Nat → Prop} {U : State} {H : Heap} (h : RD r A U H) : vk_R "TunnelLeggersLaw" 87 ")>" (r 516) U := h.2.2.2.2.1 16 (by decide)
theorem RD.lld17 {r : Nat → Nat} {A : Nat → Prop} {U : State} {H : Heap} (h : RD r A U H) : vk_R "TunnelLeggersLaw" 89 "]" (r 517) U := h.2.2.2.2.1 17 (by decide)
theorem RD.lld18 {r : Nat → Nat} {A : Nat → Prop} {U : State} {H : Heap} (h : RD r A U H) : vk_R "TunnelLeggersLaw" 91 "min(waits west," (r 518) U := h.2.2.2.2.1 18 (by decide)
theorem RD.lld19 {r : Nat → Nat} {A : Nat → Prop} {U : State} {H : Heap} (h : RD r A U H) : vk_R "TunnelLeggersLaw" 93 ") - waits east<1" (r 519) U := h.2.2.2.2.1 19 (by decide)
theorem RD.lld20 {r : Nat → Nat} {A : Nat → Prop} {U : State} {H : Heap} (h : RD r A U H) : vk_R "TunnelLeggersLaw" 111 "bore a" (r 520) U := h.2.2.2.2.1 20 (by decide)
theorem RD.lld21 {r : Nat → Nat} {A : Nat → Prop} {U : State} {H : Heap} (h : RD r A U H) : vk_R "TunnelLeggersLaw" 113 " long " (r 521) U := h.2.2.2.2.1 21 (by decide)
theorem RD.lld22 {r : Nat → Nat} {A : Nat → Prop} {U : State} {H : Heap} (h : RD r A U H) : vk_R "TunnelLeggersLaw" 115 " low " (r 522) U := h.2.2.2.2.1 22 (by decide)
theorem RD.lld23 {r : Nat → Nat} {A : Nat → Prop} {U : State} {H : Heap} (h : RD r A U H) : vk_R "TunnelLeggersLaw" 117 ";" (r 523) U := h.2.2.2.2.1 23 (by decide)
theorem RD.lld24 {r : Nat → Nat} {A : Nat → Prop} {U : State} {H : Heap} (h : RD r A U H) : vk_R "TunnelLeggersLaw" 125 "shaft a" (r 524) U := h.2.2.2.2.1 24 (by decide)
theorem RD.lld25 {r : Nat → Nat} {A : Nat → Prop} {U : State} {H : Heap} (h : RD r A U H) : vk_R "TunnelLeggersLaw" 127 " at " (r 525) U := h.2.2.2.2.1 25 (by decide)
theorem RD.lld26 {r : Nat → Nat} {A : Nat → Prop} {U : State} {H : Heap} (h : RD r A U H) : vk_R "TunnelLeggersLaw" 129 " draught " (r 526) U := h.2.2.2.2.1 26 (by decide)
theorem RD.lld27 {r : Nat → Nat} {A : Nat → Prop} {U : State} {H : Heap} (h : RD r A U H) : vk_R "TunnelLeggersLaw" 131 "legger m" (r 527) U := h.2.2.2.2.1 27 (by decide)
theorem RD.lld28 {r : Nat → Nat} {A : Nat → Prop} {U : State} {H : Heap} (h : RD r A U H) : vk_R "TunnelLeggersLaw" 133 " strength " (r 528) U := h.2.2.2.2.1 28 (by decide)
theorem RD.lld29 {r : Nat → Nat} {A : Nat → Prop} {U : State} {H : Heap} (h : RD r A U H) : vk_R "TunnelLeggersLaw" 135 " lungs " (r 529) U := h.2.2.2.2.1 29 (by decide)
theorem RD.lld30 {r : Nat → Nat} {A : Nat → Prop} {U : State} {H : Heap} (h : RD r A U H) : vk_R "TunnelLeggersLaw" 137 ";\n" (r 530) U := h.2.2.2.2.1 30 (by decide)
theorem RD.lld31 {r : Nat → Nat} {A : Nat → Prop} {U : State} {H : Heap} (h : RD r A U H) : vk_R "TunnelLeggersLaw" 139 "boat b" (r 531) U := h.2.2.2.2.1 31 (by decide)
theorem RD.lld32 {r : Nat → Nat} {A : Nat → Prop} {U : State} {H : Heap} (h : RD r A U H) : vk_R "TunnelLeggersLaw" 141 " weight " (r 532) U := h.2.2.2.2.1 32 (by decide)
theorem RD.lld33 {r : Nat → Nat} {A : Nat → Prop} {U : State} {H : Heap} (h : RD r A U H) : vk_R "TunnelLeggersLaw" 143 " from " (r 533) U := h.2.2.2.2.1 33 (by decide)
theorem RD.lld34 {r : Nat → Nat} {A : Nat → Prop} {U : State} {H : Heap} (h : RD r A U H) : vk_R "TunnelLeggersLaw" 145 "west" (r 534) U := h.2.2.2.2.1 34 (by decide)
theorem RD.lld35 {r : Nat → Nat} {A : Nat → Prop} {U : State} {H : Heap} (h : RD r A U H) : vk_R "TunnelLeggersLaw" 147 "east" (r 535) U := h.2.2.2.2.1 35 (by decide)
theorem RD.lld36 {r : Nat → Nat} {A : Nat → Prop} {U : State} {H : Heap} (h : RD r A U H) : vk_R "TunnelLeggersLaw" 149 " due " (r 536) U := h.2.2.2.2.1 36 (by decide)
theorem RD.lld37 {r : Nat → Nat} {A : Nat → Prop} {U : State} {H : Heap} (h : RD r A U H) : vk_R "TunnelLeggersLaw" 151 " by m" (r 537) U := h.2.2.2.2.1 37 (by decide)
theorem RD.lld38 {r : Nat → Nat} {A : Nat → Prop} {U : State} {H : Heap} (h : RD r A U H) : vk_R "TunnelLeggersLaw" 153 " and m" (r 538) U := h.2.2.2.2.1 38 (by decide)
theorem RD.lld39 {r : Nat → Nat} {A : Nat → Prop} {U : State} {H : Heap} (h : RD r A U H) : vk_R "TunnelLeggersLaw" 158 "whistle west" (r 539) U := h.2.2.2.2.1 39 (by decide)
theorem RD.lld40 {r : Nat → Nat} {A : Nat → Prop} {U : State} {H : Heap} (h : RD r A U H) : vk_R "TunnelLeggersLaw" 160 "whistle east" (r 540) U := h.2.2.2.2.1 40 (by decide)
theorem RD.lld41 {r : Nat → Nat} {A : Nat → Prop} {U : State} {H : Heap} (h : RD r A U H) : vk_R "TunnelLeggersLaw" 162 "rest m" (r 541) U := h.2.2.2.2.1 41 (by decide)
theorem RD.lld42 {r : Nat → Nat} {A : Nat → Prop} {U : State} {H : Heap} (h : RD r A U H) : vk_R "TunnelLeggersLaw" 164 " when " (r 542) U := h.2.2.2.2.1 42 (by decide)
theorem RD.ls {r : Nat → Nat} {A : Nat → Prop} {U : State} {H : Heap} {i : Nat} (h : RD r A U H) (hi : i < 43) : JS (r (500 + i)) (r (600 + i)) (lsn i) (lsb i) A U H := ⟨h.1, h.2.2.2.1 i hi⟩
theorem RD.selp {r : Nat → Nat} {A : Nat → Prop} {U : State} {H : Heap} (h : RD r A U H) : SELP U := h.2.2.2.2.2.2.2.2.2.2.2.2.2.2.2.2.2.2.2.2.2
theorem RD.BORE_LINE {r : Nat → Nat} {A : Nat → Prop} {U : State} {H : Heap} (h : RD r A U H) : va_Z "TunnelLeggers" "BORE_LINE" "[I" (.ref (r 200)) A U H := h.2.2.2.2.2.1
theorem RD.SHAFT_LINE {r : Nat → Nat} {A : Nat → Prop} {U : State} {H : Heap} (h : RD r A U H) : va_Z "TunnelLeggers" "SHAFT_LINE" "[I" (.ref (r 201)) A U H := h.2.2.2.2.2.2.1
theorem RD.LEGGER_LINE {r : Nat → Nat} {A : Nat → Prop} {U : State} {H : Heap} (h : RD r A U H) : va_Z "TunnelLeggers" "LEGGER_LINE" "[I" (.ref (r 202)) A U H := h.2.2.2.2.2.2.2.1
theorem RD.BOAT_LINE {r : Nat → Nat} {A : Nat → Prop} {U : State} {H : Heap} (h : RD r A U H) : va_Z "TunnelLeggers" "BOAT_LINE" "[I" (.ref (r 203)) A U H := h.2.2.2.2.2.2.2.2.1
theorem RD.WHISTLE_HEAD {r : Nat → Nat} {A : Nat → Prop} {U : State} {H : Heap} (h : RD r A U H) : va_Z "TunnelLeggers" "WHISTLE_HEAD" "[I" (.ref (r 204)) A U H := h.2.2.2.2.2.2.2.2.2.1
theorem RD.REST_HEAD {r : Nat → Nat} {A : Nat → Prop} {U : State} {H : Heap} (h : RD r A U H) : va_Z "TunnelLeggers" "REST_HEAD" "[I" (.ref (r 205)) A U H := h.2.2.2.2.2.2.2.2.2.2.1
theorem RD.TBORE_LINE {r : Nat → Nat} {A : Nat → Prop} {U : State} {H : Heap} (h : RD r A U H) : va_T .int (r 200) 6 (fun j => .int (kBORE_LINE j)) A U H := h.2.2.2.2.2.2.2.2.2.2.2.1
theorem RD.TSHAFT_LINE {r : Nat → Nat} {A : Nat → Prop} {U : State} {H : Heap} (h : RD r A U H) : va_T .int (r 201) 6 (fun j => .int (kSHAFT_LINE j)) A U H := h.2.2.2.2.2.2.2.2.2.2.2.2.1
theorem RD.TLEGGER_LINE {r : Nat → Nat} {A : Nat → Prop} {U : State} {H : Heap} (h : RD r A U H) : va_T .int (r 202) 6 (fun j => .int (kLEGGER_LINE j)) A U H := h.2.2.2.2.2.2.2.2.2.2.2.2.2.1
theorem RD.TBOAT_LINE {r : Nat → Nat} {A : Nat → Prop} {U : State} {H : Heap} (h : RD r A U H) : va_T .int (r 203) 12 (fun j => .int (kBOAT_LINE j)) A U H := h.2.2.2.2.2.2.2.2.2.2.2.2.2.2.1
theorem RD.TWHISTLE_HEAD {r : Nat → Nat} {A : Nat → Prop} {U : State} {H : Heap} (h : RD r A U H) : va_T .int (r 204) 3 (fun j => .int (kWHISTLE_HEAD j)) A U H := h.2.2.2.2.2.2.2.2.2.2.2.2.2.2.2.1
theorem RD.TREST_HEAD {r : Nat → Nat} {A : Nat → Prop} {U : State} {H : Heap} (h : RD r A U H) : va_T .int (r 205) 3 (fun j => .int (kREST_HEAD j)) A U H := h.2.2.2.2.2.2.2.2.2.2.2.2.2.2.2.2.1
theorem RD.DigitOnes {r : Nat → Nat} {A : Nat → Prop} {U : State} {H : Heap} (h : RD r A U H) : va_Z "java/lang/Integer" "DigitOnes" "[B" (.ref (r 207)) A U H := h.2.2.2.2.2.2.2.2.2.2.2.2.2.2.2.2.2.1
theorem RD.TDigitOnes {r : Nat → Nat} {A : Nat → Prop} {U : State} {H : Heap} (h : RD r A U H) : va_T .byte (r 207) 100 (fun j => .int (kDigitOnes j)) A U H := h.2.2.2.2.2.2.2.2.2.2.2.2.2.2.2.2.2.2.2.1
theorem RD.DigitTens {r : Nat → Nat} {A : Nat → Prop} {U : State} {H : Heap} (h : RD r A U H) : va_Z "java/lang/Integer" "DigitTens" "[B" (.ref (r 208)) A U H := h.2.2.2.2.2.2.2.2.2.2.2.2.2.2.2.2.2.2.1
theorem RD.TDigitTens {r : Nat → Nat} {A : Nat → Prop} {U : State} {H : Heap} (h : RD r A U H) : va_T .byte (r 208) 100 (fun j => .int (kDigitTens j)) A U H := h.2.2.2.2.2.2.2.2.2.2.2.2.2.2.2.2.2.2.2.2.1
theorem RD.js {r : Nat → Nat} {A : Nat → Prop} {U : State} {H : Heap} {i : Nat} (h : RD r A U H) (hi : i < 65) : JS (r i) (r (100 + i)) (sn i) (sb i) A U H := ⟨h.1, h.2.1 i hi⟩
theorem sn_small : ∀ i, i < 65 → sn i < 2 ^ 31 := by decide +kernel
theorem sn_pos : ∀ i, i < 65 → 0 < sn i := by decide +kernel
/-- behind a start with cells of a kind A: the riders at a later heap, apart from the world's cells and all that is new -/
theorem TS.rd {r : Nat → Nat} {cl : List vw_C} {D : va_G} {ws : va_W} {A : Nat → Prop} {s : State} {H : Heap} {locs : List Loc} (hT : TS cl D ws A s.heap H locs) (hR : RD r A s s.heap) : RD r (va_A ws H.size) s H := by
  refine (hR.kept hT.2.2.1.2.1).narrow (fun q hq => ?_)
  rcases hq with ⟨k, e, hk⟩ | hq
  · exact hT.2.1.2 k _ hk
  · exact hT.2.2.2 q (Nat.le_trans hT.2.2.1.1 hq)
theorem RD.sub {r : Nat → Nat} {ws wc : va_W} {s : State} {H : Heap} {n : Nat} (h : RD r (va_A ws n) s H) {is : List Nat} (hs : is.map (fun i => ws[i]?) = wc.map some) : RD r (va_A wc n) s H := by
  refine h.narrow (fun q hq => ?_)
  rcases hq with ⟨k, e, hk⟩ | hq
  · have h1 : (is.map (fun i => ws[i]?))[k]? = some (some (q, e)) := by rw [hs]; simp [hk]
    rw [List.getElem?_map] at h1
    cases h2 : is[k]? with
    | none => rw [h2] at h1; cases h1
    | some i =>
      rw [h2] at h1
      exact Or.inl ⟨i, e, by simpa using h1⟩
  · exact Or.inr hq
def preR (cl : List vw_C) (D : va_G) (Z : Nat → ClassId) (r : Nat → Nat) (ws : va_W) (sz : Nat) (av : List Value) : Array Value → State → Prop := va_Pc av (fun U => U.heap.size = sz ∧ va_P D cl ws U.heap ∧ va_D (fun _ => True) ws ∧ va_K D cl (tysG Z) U ∧ NW U ∧ RD r (va_A ws sz) U U.heap)
theorem preR.blind {cl : List vw_C} {D : va_G} {Z : Nat → ClassId} {r : Nat → Nat} {ws : va_W} {sz : Nat} {av : List Value} : FrameBlind (preR cl D Z r ws sz av) := by
  intro a U g mk h
  obtain ⟨h1, h2, h3, h4, h5, h6, h7⟩ := h
  exact ⟨h1, h2, h3, h4, va_K.moved (u := U) (U := U.calling g mk a) (Vm.Alike.refl U.vm) h5, NW.same (s := U) (U := U.calling g mk a) rfl h6, RD.same (u := U) (U := U.calling g mk a) rfl h7⟩
section OFR
variable {l : Launch} {y : MethodName} {cc : ByteArray} {n : Nat} {ret : Option FieldType} {rn mc ms : Nat} {cl : List vw_C} {D : va_G} {Z : Nat → ClassId} {r0 : Nat → Nat} {sz : Nat} {av : List Value}
theorem ro_ofR {ws : va_W} {ty : FieldType} {K : Int32 → Prop} (hy : plainName y.cls = true) (hn : (lg_sl av).length ≤ n) (hret : ret = some ty)
    (body : ∀ (p : Program) (e : Env) (s : State) (m : MethodId) (args : Array Value) (below : List Frame) (meth : Method) (c : Code) (Q : State → Prop), CallFix p m c cc n s args lw_g y.cls → NW s → RD r0 (va_A ws s.heap.size) s s.heap → s.heap.size = sz → va_P D cl ws s.heap → va_D (fun _ => True) ws → va_K D cl (tysG Z) s →
      (∀ (pc : Nat) (ls : Array Slot) (r : Int32), K r → narrow ty (.int r) = .int r → decode cc pc = .ok (.ireturn, 1) → W p l e (rk rn 0 0) s m args below meth c s.heap [] 0 0 Q (F0 m pc ls [.int r])) →
      ∀ ls : Array Slot, lv_has ls n (lv_args 0 av) → W p l e (rk rn 0 0) s m args below meth c s.heap [] 0 0 Q (F0 m 0 ls [])) :
    Met l y (wy y cc n ret) (rk rn 0 0) (preR cl D Z r0 ws sz av) (vp_Si K) 0 0 (fun _ => False) := by
  refine Met.ofW (cc := cc) (maxL := n) (ret := ret) hy rfl ?_
  intro p e s m args below meth c s₁ B hml hv
  obtain ⟨rfl, hsz, hP, hD, hK, hN, hR⟩ := hv
  have hts : ∀ w ∈ lw_g, w.before av.toArray s = true := fun w hw => atoms_spec (ws := wy y cc n ret) B.pre w (List.mem_cons_of_mem _ hw)
  have hown : s.vm.findClass y.cls = some m.cls := findClass_of_methodNamed B.named
  have hlocks := B.notSynchronized
  have hl := lv_entry av (n := n) hn
  rw [lg_entry_eq]
  refine body p e s m av.toArray below meth c _ ⟨B.exec, B.bytes, hml, hown, hts⟩ hN (hsz ▸ hR) hsz hP hD hK ?_ _ hl
  intro pc ls r hr hnar hd
  exact W.zret (ty := ty) B.exec B.bytes (B.returns.trans hret) hnar (fun t ht _ => ⟨r, rfl, hr, ht⟩) (fun q h => by cases h) hd
variable {S : Type} {wsF : S → va_W} {u0 : S}
theorem rw_ofR {ty : FieldType} {K : Int32 → S → Prop} (hy : plainName y.cls = true) (hn : (lg_sl av).length ≤ n) (hret : ret = some ty)
    (body : ∀ (p : Program) (e : Env) (s : State) (m : MethodId) (args : Array Value) (below : List Frame) (meth : Method) (c : Code) (Q : State → Prop) (A : Nat → Prop), CallFix p m c cc n s args lw_g y.cls → NW s → RD r0 A s s.heap → s.heap.size = sz → TS cl D (wsF u0) A s.heap s.heap [] → va_K D cl (tysG Z) s →
      (∀ (pc : Nat) (ls : Array Slot) (H : Heap) (locs : List Loc) (r : Int32) (u : S), K r u → TS cl D (wsF u) A s.heap H locs → narrow ty (.int r) = .int r → decode cc pc = .ok (.ireturn, 1) → W p l e (rk rn mc ms) s m args below meth c H locs mc ms Q (F0 m pc ls [.int r])) →
      ∀ ls : Array Slot, lv_has ls n (lv_args 0 av) → W p l e (rk rn mc ms) s m args below meth c s.heap [] 0 0 Q (F0 m 0 ls [])) :
    Met l y (wy y cc n ret) (rk rn mc ms) (preR cl D Z r0 (wsF u0) sz av) (poI cl D Z wsF u0 sz K) mc ms (va_A (wsF u0) sz) := by
  refine Met.ofW (cc := cc) (maxL := n) (ret := ret) hy rfl ?_
  intro p e s m args below meth c s₁ B hml hv
  obtain ⟨rfl, hsz, hP, hD, hK, hN, hR⟩ := hv
  have hts : ∀ w ∈ lw_g, w.before av.toArray s = true := fun w hw => atoms_spec (ws := wy y cc n ret) B.pre w (List.mem_cons_of_mem _ hw)
  have hown : s.vm.findClass y.cls = some m.cls := findClass_of_methodNamed B.named
  have hlocks := B.notSynchronized
  have hl := lv_entry av (n := n) hn
  rw [lg_entry_eq]
  refine body p e s m av.toArray below meth c _ (va_A (wsF u0) sz) ⟨B.exec, B.bytes, hml, hown, hts⟩ hN hR hsz ⟨hP, hD.self, va_S.rf, fun q h => Or.inr (hsz ▸ h)⟩ hK ?_ _ hl
  intro pc ls H locs r u hk hT hnar hd
  exact W.zret (ty := ty) B.exec B.bytes (B.returns.trans hret) hnar (fun t ht hW => ⟨⟨r, u, rfl, hk, by rw [ht]; exact hT.1, hT.2.1, va_K.moved hW.alike hK⟩, hT.2.2.1.F ht⟩) hT.2.2.1.2.2 hd
theorem rwv_ofR {K : S → Prop} (hy : plainName y.cls = true) (hn : (lg_sl av).length ≤ n) (hret : ret = none)
    (body : ∀ (p : Program) (e : Env) (s : State) (m : MethodId) (args : Array Value) (below : List Frame) (meth : Method) (c : Code) (Q : State → Prop) (A : Nat → Prop), CallFix p m c cc n s args lw_g y.cls → NW s → RD r0 A s s.heap → s.heap.size = sz → meth.name = y.name → TS cl D (wsF u0) A s.heap s.heap [] → va_K D cl (tysG Z) s →
      (∀ (pc : Nat) (ls : Array Slot) (H : Heap) (locs : List Loc) (u : S), K u → TS cl D (wsF u) A s.heap H locs → decode cc pc = .ok (.return_, 1) → W p l e (rk rn mc ms) s m args below meth c H locs mc ms Q (F0 m pc ls [])) →
      ∀ ls : Array Slot, lv_has ls n (lv_args 0 av) → W p l e (rk rn mc ms) s m args below meth c s.heap [] 0 0 Q (F0 m 0 ls [])) :
    Met l y (wy y cc n ret) (rk rn mc ms) (preR cl D Z r0 (wsF u0) sz av) (poV cl D Z wsF u0 sz K) mc ms (va_A (wsF u0) sz) := by
  refine Met.ofW (cc := cc) (maxL := n) (ret := ret) hy rfl ?_
  intro p e s m args below meth c s₁ B hml hv
  obtain ⟨rfl, hsz, hP, hD, hK, hN, hR⟩ := hv
  have hts : ∀ w ∈ lw_g, w.before av.toArray s = true := fun w hw => atoms_spec (ws := wy y cc n ret) B.pre w (List.mem_cons_of_mem _ hw)
  have hown : s.vm.findClass y.cls = some m.cls := findClass_of_methodNamed B.named
  have hlocks := B.notSynchronized
  have hin : meth.name = y.name := (name_of_methodNamed B.named B.method).1
  have hl := lv_entry av (n := n) hn
  rw [lg_entry_eq]
  refine body p e s m av.toArray below meth c _ (va_A (wsF u0) sz) ⟨B.exec, B.bytes, hml, hown, hts⟩ hN hR hsz hin ⟨hP, hD.self, va_S.rf, fun q h => Or.inr (hsz ▸ h)⟩ hK ?_ _ hl
  intro pc ls H locs u hk hT hd
  exact W.vret B.exec B.bytes (B.returns.trans hret) (fun t ht hW => ⟨⟨u, rfl, hk, by rw [ht]; exact hT.1, hT.2.1, va_K.moved hW.alike hK⟩, hT.2.2.1.F ht⟩) hT.2.2.1.2.2 hd
end OFR
section CALLSR
variable {p : Program} {l : Launch} {e : Env} {s : State} {m : MethodId} {args : Array Value} {below : List Frame} {meth : Method} {c : Code} {H H0 : Heap} {locs : List Loc} {cells slots : Nat} {Q : State → Prop}
variable {pc : Nat} {ls : Array Slot} {rest st0 : List Value} {A : Nat → Prop} {cl : List vw_C} {D : va_G} {Z : Nat → ClassId} {ws : va_W} {r : Nat → Nat} {mc ms : Nat}
variable {y : MethodName} {bytes cc : ByteArray} {maxL nL n index : Nat} {ret : Option FieldType} {rn rn' mcR msR : Nat} {Qc : Array Value → State → Outcome → State → Prop} {free : Addr → Prop} {own host : String} {b : Addr} {As : List Value}
theorem runVR (hC : CallFix p m c cc nL s args lw_g own) (hN : NW s) (hR : RD r (va_A ws H.size) s H) (hM : Met l y (wy y bytes maxL ret) (rk rn' mc ms) (preR cl D Z r ws H.size (.ref b :: As)) Qc mc ms free) (hi : MInfo y bytes maxL ret n) (hl : Cond.methodLink own index y ∈ lw_g) (hin : Cond.instanceMethod y ∈ lw_g) (hse : Cond.selects y.cls y y ∈ lw_g) (hlt : rn' < rn)
    (hP : va_P D cl ws H) (hD : va_D (fun _ => True) ws) (hK : va_K D cl (tysG Z) s) {ci q0 : Nat} {fs : List Value} {T : u_T} {N : Nat} (hq : ws[q0]? = some (b, .inr (ci, fs))) (hci : cl[ci]? = some (y.cls, T, N))
    (hn : As.length = n) (hsize : ls.size = nL) (hstack : st0 = As.reverse ++ .ref b :: rest) (hW : (rest.map fun v => v.category).sum ≤ 8) (hdg : decode cc pc = .ok (.invokevirtual index, 3)) (hf : cells + mc ≤ mcR ∧ slots + ms ≤ msR) :
    va_Run p l e (rk rn mcR msR) s m args below meth c H locs cells slots mc ms (F0 m pc ls st0) rest (Qc (Value.ref b :: As).toArray) free := by
  have hts := hC.2.2.2.2
  refine va_runV (As := As) (rest := rest) (C := y.cls) hC hM ⟨callB_of n hts (wy_good hi.1) rfl rfl rfl (hts _ hi.2.1) (hts _ hl) hi.2.2.2.1 (rk_fit hlt hi.2.2.1), hts _ hin, hts _ hse⟩ ⟨preR.blind, va_recv hK hP hci hq, fun U hU hW => ⟨rfl, by rw [hU], by rw [hU]; exact hP, hD, va_K.moved hW.alike hK, NW.warm hW hN, by rw [hU]; exact hR.warm hW⟩⟩ rfl hn hsize hstack (lv_room hW) hdg hf
theorem runVNR (hC : CallFix p m c cc nL s args lw_g own) (hN : NW s) (hR : RD r (va_A ws H.size) s H) (hM : Met l y (wy y bytes maxL ret) (rk rn' mc ms) (preR cl D Z r ws H.size (.ref b :: As)) Qc mc ms free) (hi : MInfo y bytes maxL ret n) (hl : Cond.methodLinkNest own index y host ∈ lw_n) (hin : Cond.instanceMethod y ∈ lw_g) (hse : Cond.selects y.cls y y ∈ lw_g) (hlt : rn' < rn)
    (hP : va_P D cl ws H) (hD : va_D (fun _ => True) ws) (hK : va_K D cl (tysG Z) s) {ci q0 : Nat} {fs : List Value} {T : u_T} {N : Nat} (hq : ws[q0]? = some (b, .inr (ci, fs))) (hci : cl[ci]? = some (y.cls, T, N))
    (hn : As.length = n) (hsize : ls.size = nL) (hstack : st0 = As.reverse ++ .ref b :: rest) (hW : (rest.map fun v => v.category).sum ≤ 8) (hdg : decode cc pc = .ok (.invokevirtual index, 3)) (hf : cells + mc ≤ mcR ∧ slots + ms ≤ msR) :
    va_Run p l e (rk rn mcR msR) s m args below meth c H locs cells slots mc ms (F0 m pc ls st0) rest (Qc (Value.ref b :: As).toArray) free := by
  have hts := hC.2.2.2.2
  refine va_runVN (As := As) (rest := rest) (C := y.cls) hC hM ⟨va_cnB n hts (wy_good hi.1) rfl rfl rfl (hN _ hl) (hts _ hi.2.1) hi.2.2.2.1 (rk_fit hlt hi.2.2.1), hts _ hin, hts _ hse⟩ ⟨preR.blind, va_recv hK hP hci hq, fun U hU hW => ⟨rfl, by rw [hU], by rw [hU]; exact hP, hD, va_K.moved hW.alike hK, NW.warm hW hN, by rw [hU]; exact hR.warm hW⟩⟩ rfl hn hsize hstack (lv_room hW) hdg hf
theorem runIR (hC : CallFix p m c cc nL s args lw_g own) (hN : NW s) (hR : RD r (va_A ws H.size) s H) (hM : Met l y (wy y bytes maxL none) (rk rn' mc ms) (preR cl D Z r ws H.size (.ref b :: As)) Qc mc ms free) (hi : MInfo y bytes maxL none n) (hl : Cond.methodLink own index y ∈ lw_g) (hin : Cond.instanceMethod y ∈ lw_g) (hnm : y.name = "<init>") (hlt : rn' < rn)
    (hP : va_P D cl ws H) (hD : va_D (fun _ => True) ws) (hK : va_K D cl (tysG Z) s)
    (hn : As.length = n) (hsize : ls.size = nL) (hstack : st0 = As.reverse ++ .ref b :: rest) (hW : (rest.map fun v => v.category).sum ≤ 8) (hdg : decode cc pc = .ok (.invokespecial index, 3)) (hf : cells + mc ≤ mcR ∧ slots + ms ≤ msR) :
    va_Run p l e (rk rn mcR msR) s m args below meth c H locs cells slots mc ms (F0 m pc ls st0) rest (Qc (Value.ref b :: As).toArray) free := by
  have hts := hC.2.2.2.2
  refine va_runI (As := As) (rest := rest) hC hM ⟨callB_of n hts (wy_good hi.1) rfl rfl rfl (hts _ hi.2.1) (hts _ hl) hi.2.2.2.1 (rk_fit hlt hi.2.2.1), hnm, hts _ hin⟩ ⟨preR.blind, fun U hU hW => ⟨rfl, by rw [hU], by rw [hU]; exact hP, hD, va_K.moved hW.alike hK, NW.warm hW hN, by rw [hU]; exact hR.warm hW⟩⟩ rfl hn hsize hstack (lv_room hW) hdg hf
/-! the strings' rows -/
variable {i : Nat} {k c0 : Int32}
theorem w_slen (hC : CallFix p m c cc nL s args lw_g own) (hR : RD r A s s.heap) (hS : va_S A s.heap H locs) (hi : i < 65) (hl : Cond.methodLink own index yJ0_length_8abf5 ∈ lw_g) (hlt : 1 < rn) (hsize : ls.size = nL) (hW : (rest.map fun v => v.category).sum ≤ 8) (hf : cells + 0 ≤ mcR ∧ slots + 0 ≤ msR) (hdg : decode cc pc = .ok (.invokevirtual index, 3))
    (kk : W p l e (rk rn mcR msR) s m args below meth c H locs cells slots Q (F0 m (pc + 3) ls (.int (Int32.ofNat (sn i)) :: rest))) : W p l e (rk rn mcR msR) s m args below meth c H locs cells slots Q (F0 m pc ls (.ref (r i) :: rest)) := by
  have hj := ((hR.js hi).kept hS.2.1).narrow (B := NoA) (fun q z => z.elim)
  exact ro_go (runJV (As := []) hC (c_slen l (r i) (r (100 + i)) (sn i) (sb i)) mi_J0_length_8abf5 hl wq_116 wq_117 hlt JS.steady hj hj.2.recv rfl hsize rfl hW hdg hf) (fun x hx => hx ▸ kk)
theorem w_schar (hC : CallFix p m c cc nL s args lw_g own) (hR : RD r A s s.heap) (hS : va_S A s.heap H locs) (hi : i < 65) (hk : inb k (sn i)) (hl : Cond.methodLink own index yJ0_charAt_5068e ∈ lw_g) (hlt : 3 < rn) (hsize : ls.size = nL) (hW : (rest.map fun v => v.category).sum ≤ 8) (hf : cells + 0 ≤ mcR ∧ slots + 0 ≤ msR) (hdg : decode cc pc = .ok (.invokevirtual index, 3))
    (kk : W p l e (rk rn mcR msR) s m args below meth c H locs cells slots Q (F0 m (pc + 3) ls (.int (chv (sb i) k) :: rest))) : W p l e (rk rn mcR msR) s m args below meth c H locs cells slots Q (F0 m pc ls (.int k :: .ref (r i) :: rest)) := by
  have hj := ((hR.js hi).kept hS.2.1).narrow (B := NoA) (fun q z => z.elim)
  exact ro_go (runJV (As := [.int k]) hC (c_charAt l (r i) (r (100 + i)) (sn i) (sb i) k (sn_small i hi) hk) mi_J0_charAt_5068e hl wq_127 wq_128 hlt JS.steady hj hj.2.recv rfl hsize rfl hW hdg hf) (fun x hx => hx ▸ kk)
end CALLSR
