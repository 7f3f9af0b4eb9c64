theorem wq_71 : Cond.initialized "java/lang/Math" ∈ lw_g := lw_g_mk (tb_1 (List.mem_of_getElem? (i := 7) rfl)) rfl
theorem wq_699 : Cond.static Lib.Math.max.name ∈ lw_g := lw_g_mk (tb_3 (List.mem_of_getElem? (i := 155) rfl)) rfl
theorem wq_700 : Cond.code Lib.Math.max.name Lib.Math.max.code 2 (some .int) ∈ lw_g := lw_g_mk (tb_3 (List.mem_of_getElem? (i := 156) rfl)) rfl
theorem wq_696 : Cond.static Lib.Math.min.name ∈ lw_g := lw_g_mk (tb_3 (List.mem_of_getElem? (i := 152) rfl)) rfl
theorem wq_697 : Cond.code Lib.Math.min.name Lib.Math.min.code 2 (some .int) ∈ lw_g := lw_g_mk (tb_3 (List.mem_of_getElem? (i := 153) rfl)) rfl
theorem wq_786 : Cond.static Lib.Math.abs.name ∈ lw_g := lw_g_mk (tb_4 (List.mem_of_getElem? (i := 2) rfl)) rfl
theorem wq_787 : Cond.code Lib.Math.abs.name Lib.Math.abs.code 1 (some .int) ∈ lw_g := lw_g_mk (tb_4 (List.mem_of_getElem? (i := 3) rfl)) rfl
/-! ===== more rows ===== -/
def fK : Nat := 4096
abbrev zb (x : Int32) : Prop := narrow .boolean (.int x) = .int x
def mxv (x y : Int32) : Int32 := if x < y then y else x
def mnv (x y : Int32) : Int32 := if y < x then y else x
def abv (x : Int32) : Int32 := if 0 ≤ x then x else 0 - x
theorem TS.D' {cl : List vw_C} {D : va_G} {ws : va_W} {A : Nat → Prop} {H0 H : Heap} {locs : List Loc} (h : TS cl D ws A H0 H locs) : va_D (fun _ => True) ws := h.2.1.weaken (fun _ _ _ _ => trivial)
theorem w_lkd (ps : List (Int × Int)) (dflt x : Int) (h : ∀ k ∈ ps.map (·.1), ¬ x = k) : Op.lookupswitch.offset ps dflt x = dflt := by
  have hn : ps.find? (fun q => q.1 == x) = none := by
    rw [List.find?_eq_none]
    intro q hq
    have := h q.1 (List.mem_map.mpr ⟨q, hq, rfl⟩)
    simp only [beq_iff_eq]
    exact fun z => this z.symm
  exact Op.lookupswitch.offset_none hn
section MATH
variable {p : Program} {l : Launch} {e : Env} {s : State} {m : MethodId} {args : Array Value} {below : List Frame} {meth : Method} {c : Code} {H : Heap} {locs : List Loc} {cells slots : Nat} {Q : State → Prop} {rn mcR msR : Nat}
variable {pc : Nat} {ls : Array Slot} {rest : List Value} {cc : ByteArray} {nL index : Nat} {own : String}
theorem w_max {x y : Int32} (hC : CallFix p m c cc nL s args lw_g own) (hl : Cond.methodLink own index Lib.Math.max.name ∈ lw_g) (hlt : 0 < rn) (hW : (rest.map fun v => v.category).sum ≤ 8) (hsize : ls.size = nL) (hf : cells ≤ mcR ∧ slots ≤ msR) (hdg : decode cc pc = .ok (.invokestatic index, 3))
    (kk : W p l e (rk rn mcR msR) s m args below meth c H locs cells slots Q (F0 m (pc + 3) ls (.int (mxv x y) :: rest))) : W p l e (rk rn mcR msR) s m args below meth c H locs cells slots Q (F0 m pc ls (.int y :: .int x :: rest)) :=
  have hts := hC.2.2.2.2
  va_mmax hC.1 hC.2.1 (hC.2.2.1.trans hsize.symm) hC.2.2.2.1 (hts _ hl) (hts _ wq_699) (hts _ wq_71) (hts _ wq_700) (by simp only [rk]; omega) (by simp only [rk]; omega) hf.1 hf.2 hdg kk
theorem w_min {x y : Int32} (hC : CallFix p m c cc nL s args lw_g own) (hl : Cond.methodLink own index Lib.Math.min.name ∈ lw_g) (hlt : 0 < rn) (hW : (rest.map fun v => v.category).sum ≤ 8) (hsize : ls.size = nL) (hf : cells ≤ mcR ∧ slots ≤ msR) (hdg : decode cc pc = .ok (.invokestatic index, 3))
    (kk : W p l e (rk rn mcR msR) s m args below meth c H locs cells slots Q (F0 m (pc + 3) ls (.int (mnv x y) :: rest))) : W p l e (rk rn mcR msR) s m args below meth c H locs cells slots Q (F0 m pc ls (.int y :: .int x :: rest)) :=
  have hts := hC.2.2.2.2
  va_mmin hC.1 hC.2.1 (hC.2.2.1.trans hsize.symm) hC.2.2.2.1 (hts _ hl) (hts _ wq_696) (hts _ wq_71) (hts _ wq_697) (by simp only [rk]; omega) (by simp only [rk]; omega) hf.1 hf.2 hdg kk
theorem w_abs {x : Int32} (hC : CallFix p m c cc nL s args lw_g own) (hl : Cond.methodLink own index Lib.Math.abs.name ∈ lw_g) (hlt : 0 < rn) (hW : (rest.map fun v => v.category).sum ≤ 8) (hsize : ls.size = nL) (hf : cells ≤ mcR ∧ slots ≤ msR) (hdg : decode cc pc = .ok (.invokestatic index, 3))
    (kk : W p l e (rk rn mcR msR) s m args below meth c H locs cells slots Q (F0 m (pc + 3) ls (.int (abv x) :: rest))) : W p l e (rk rn mcR msR) s m args below meth c H locs cells slots Q (F0 m pc ls (.int x :: rest)) :=
  have hts := hC.2.2.2.2
  va_mabs hC.1 hC.2.1 (hC.2.2.1.trans hsize.symm) hC.2.2.2.1 (hts _ hl) (hts _ wq_786) (hts _ wq_71) (hts _ wq_787) (by simp only [rk]; omega) (by simp only [rk]; omega) hf.1 hf.2 hdg kk
end MATH
