/-! ===== a row of rows; a method whose answer is a known cell ===== -/
section ROWS4
variable {p : Program} {l : Launch} {e : Env} {s : State} {m : MethodId} {args : Array Value} {below : List Frame} {meth : Method} {c : Code} {H H0 : Heap} {locs : List Loc} {cells slots : Nat} {Q : State → Prop} {R : Room}
variable {pc : Nat} {ls : Array Slot} {rest st0 : List Value} {A : Nat → Prop} {cl : List vw_C} {D : va_G} {Z : Nat → ClassId} {ws : va_W} {mc ms : Nat}
variable {cc : ByteArray} {nL index : Nat} {own host : String} {a : Nat}
theorem w_aaldR {q0 n : Nat} {f : Nat → Nat} {i : Int32} (hC : CallFix p m c cc nL s args lw_g own) (hK : va_K D cl (tysG Z) s) (hP : va_P D cl ws H) (ha : ws[q0]? = some (a, .inl (Z 3, n, .inr (.inr (.inr (.inr (fun j => if j < n then some (f j) else none))))))) (hi : inb i n) (hdg : decode cc pc = .ok (.aaload, 1))
    (kk : W p l e R s m args below meth c H locs cells slots Q (F0 m (pc + 1) ls (.ref (f i.toInt.toNat) :: rest))) : W p l e R s m args below meth c H locs cells slots Q (F0 m pc ls (.int i :: .ref a :: rest)) := by
  have hin := inb_in.mpr hi
  have hlt : i.toNatClampNeg < n := Nat.not_le.mp fun q => hin (Or.inr q)
  have hv : va_rf ((fun j => if j < n then some (f j) else none) i.toNatClampNeg) = .ref (f i.toInt.toNat) := by
    show va_rf (if i.toNatClampNeg < n then _ else _) = _
    rw [if_pos hlt]; rfl
  refine W.aald (v := va_rf ((fun j => if j < n then some (f j) else none) i.toNatClampNeg)) (ty := .array .int) hC.1 hC.2.1 (hP q0 _ ha) ((hK.2 3 _ rfl).1 n (fun j => va_rf ((fun j => if j < n then some (f j) else none) j))) rfl (fun q => by cases q) (by show ¬ (i < 0 ∨ (arrV _ _ _).slots.size ≤ _); rw [arrV_size]; exact hin) (by show (arrV _ _ _).slots[_]? = _; rw [arrV_read _ _ hlt]) rfl rfl hdg ?_
  rw [hv]; exact kk
def poR (cl : List vw_C) (D : va_G) (Z : Nat → ClassId) {S : Type} (wsF : S → va_W) (u0 : S) (sz a0 : Nat) (K : S → Prop) : Array Value → State → Outcome → State → Prop := fun _ st oc t => (∃ u : S, oc = .returned (some (.ref a0)) ∧ K u ∧ poB cl D Z wsF (va_A (wsF u0) sz) u t) ∧ va_F (va_A (wsF u0) sz) st t
theorem rwr_go {S : Type} {wsF : S → va_W} {u0 : S} {K : S → Prop} {wr : va_W} {isC isR pm : List Nat} {ws' : S → va_W} {a0 : Nat} {av : Array Value} (hr : va_Run p l e R s m args below meth c H locs cells slots mc ms (F0 m pc ls st0) rest (poR cl D Z wsF u0 H.size a0 K av) (va_A (wsF u0) H.size))
    (hc : Cut ws wsF u0 wr isC isR pm ws') (hT : TS cl D ws A H0 H locs)
    (kk : ∀ (u : S) (H1 : Heap) (locs1 : List Loc), K u → TS cl D (ws' u) A H0 H1 locs1 → W p l e R s m args below meth c H1 locs1 (cells + mc) (slots + ms) Q (F0 m (pc + 3) ls (.ref a0 :: rest))) : W p l e R s m args below meth c H locs cells slots Q (F0 m pc ls st0) := by
  have hF := va_free hT.2.1 hT.2.2.1 hT.2.2.2 isC hc.1
  intro T hTh X
  obtain ⟨v, st₀, t, T', L, h0, X', hL, e1, e2, ⟨⟨u, hv, hk, hP1, hD1, hK1⟩, hz, hkk⟩, st⟩ := hr T hTh X
  cases hv
  rw [h0] at hz hkk
  rw [← e1] at hP1 hkk hz
  have hS1 : va_S A H0 T'.heap (locs ++ L) := ⟨Nat.le_trans hT.2.2.1.1 hz, fun q h1 h2 => by rw [hkk q (Nat.lt_of_lt_of_le h1 hT.2.2.1.1) (fun z => h2 (hF q z))]; exact hT.2.2.1.2.1 q h1 h2, fun q hq => by
      rcases List.mem_append.mp hq with h | h
      · exact hT.2.2.1.2.2 q h
      · exact hF _ (hL q h)⟩
  obtain ⟨t2, a1, b1⟩ := kk u T'.heap (locs ++ L) hk (hc.join hT hkk hP1 hD1 hS1) T' rfl X'
  exact ⟨t2, st t2 a1, b1⟩
end ROWS4
theorem rwr_of {l : Launch} {y : MethodName} {cc : ByteArray} {n : Nat} {ret : Option FieldType} {rn mc ms : Nat} {cl : List vw_C} {D : va_G} {Z : Nat → ClassId} {sz : Nat} {av : List Value} {S : Type} {wsF : S → va_W} {u0 : S} {K : S → Prop} {C : String} {a0 : Nat} (hy : plainName y.cls = true) (hn : (lg_sl av).length ≤ n) (hret : ret = some (.object C))
    (body : ∀ (p : Program) (e : Env) (s : State) (m : MethodId) (args : Array Value) (below : List Frame) (meth : Method) (c : Code) (Q : State → Prop) (A : Nat → Prop), CallFix p m c cc n s args lw_g y.cls → NW s → s.heap.size = sz → TS cl D (wsF u0) A s.heap s.heap [] → va_K D cl (tysG Z) s →
      (∀ (pc : Nat) (ls : Array Slot) (H : Heap) (locs : List Loc) (u : S), K u → TS cl D (wsF u) A s.heap H locs → decode cc pc = .ok (.areturn, 1) → W p l e (rk rn mc ms) s m args below meth c H locs mc ms Q (F0 m pc ls [.ref a0])) →
      ∀ ls : Array Slot, lv_has ls n (lv_args 0 av) → W p l e (rk rn mc ms) s m args below meth c s.heap [] 0 0 Q (F0 m 0 ls [])) :
    Met l y (wy y cc n ret) (rk rn mc ms) (pre cl D Z (wsF u0) sz av) (poR cl D Z wsF u0 sz a0 K) mc ms (va_A (wsF u0) sz) := by
  refine Met.ofW (cc := cc) (maxL := n) (ret := ret) hy rfl ?_
  intro p e s m args below meth c s₁ B hml hv
  obtain ⟨rfl, hsz, hP, hD, hK, hN⟩ := hv
  have hts : ∀ w ∈ lw_g, w.before av.toArray s = true := fun w hw => atoms_spec (ws := wy y cc n ret) B.pre w (List.mem_cons_of_mem _ hw)
  have hown : s.vm.findClass y.cls = some m.cls := findClass_of_methodNamed B.named
  have hlocks := B.notSynchronized
  have hl := lv_entry av (n := n) hn
  rw [lg_entry_eq]
  refine body p e s m av.toArray below meth c _ (va_A (wsF u0) sz) ⟨B.exec, B.bytes, hml, hown, hts⟩ hN hsz ⟨hP, hD.self, va_S.rf, fun q h => Or.inr (hsz ▸ h)⟩ hK ?_ _ hl
  intro pc ls H locs u hk hT hd
  exact W.aret (rt := .object C) B.exec B.bytes (B.returns.trans hret) (Or.inl ⟨C, rfl⟩) (Or.inr ⟨a0, rfl⟩) (fun t ht hW => ⟨⟨u, rfl, hk, by rw [ht]; exact hT.1, hT.2.1, va_K.moved hW.alike hK⟩, hT.2.2.1.F ht⟩) hT.2.2.1.2.2 hd
