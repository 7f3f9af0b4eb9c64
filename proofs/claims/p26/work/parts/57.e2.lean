theorem wq_428 : Cond.fieldLink RX5 75 RX4 "minute" "I" ∈ lw_g := lw_g_mk (tb_2 (List.mem_of_getElem? (i := 124) rfl)) rfl
theorem wq_430 : Cond.fieldLink RX5 78 RX4 "turn" "I" ∈ lw_g := lw_g_mk (tb_2 (List.mem_of_getElem? (i := 126) rfl)) rfl
theorem wq_426 : Cond.fieldLink RX5 69 RX4 "plan" "LTunnelLeggers$Plan;" ∈ lw_g := lw_g_mk (tb_2 (List.mem_of_getElem? (i := 122) rfl)) rfl
theorem wq_289 : Cond.fieldLink RX5 81 RX1 "bores" "I" ∈ lw_g := lw_g_mk (tb_1 (List.mem_of_getElem? (i := 225) rfl)) rfl
theorem wq_293 : Cond.fieldLink RX5 84 RX1 "places" "I" ∈ lw_g := lw_g_mk (tb_1 (List.mem_of_getElem? (i := 229) rfl)) rfl
theorem wq_296 : Cond.fieldLink RX5 87 RX1 "shafts" "I" ∈ lw_g := lw_g_mk (tb_1 (List.mem_of_getElem? (i := 232) rfl)) rfl
theorem wq_301 : Cond.fieldLink RX5 90 RX1 "leggers" "I" ∈ lw_g := lw_g_mk (tb_1 (List.mem_of_getElem? (i := 237) rfl)) rfl
theorem wq_305 : Cond.fieldLink RX5 93 RX1 "boats" "I" ∈ lw_g := lw_g_mk (tb_2 (List.mem_of_getElem? (i := 1) rfl)) rfl
theorem wq_343 : Cond.fieldLink RX5 96 RX1 "orders" "LTunnelLeggers$Orders;" ∈ lw_g := lw_g_mk (tb_2 (List.mem_of_getElem? (i := 39) rfl)) rfl
theorem wq_254 : Cond.fieldLink RX5 100 RX0 "told" "I" ∈ lw_g := lw_g_mk (tb_1 (List.mem_of_getElem? (i := 190) rfl)) rfl
theorem wq_511 : Cond.methodLink RX5 105 yX4_tally ∈ lw_g := lw_g_mk (tb_2 (List.mem_of_getElem? (i := 207) rfl)) rfl
theorem wq_601 : Cond.methodLink RX5 114 yX5_needOneOf ∈ lw_g := lw_g_mk (tb_3 (List.mem_of_getElem? (i := 57) rfl)) rfl
theorem wq_317 : Cond.fieldLink RX5 118 RX1 "boreOf" "[I" ∈ lw_g := lw_g_mk (tb_2 (List.mem_of_getElem? (i := 13) rfl)) rfl
theorem wq_605 : Cond.methodLink RX5 122 yX5_at ∈ lw_g := lw_g_mk (tb_3 (List.mem_of_getElem? (i := 61) rfl)) rfl
theorem wq_434 : Cond.fieldLink RX5 126 RX4 "air" "[I" ∈ lw_g := lw_g_mk (tb_2 (List.mem_of_getElem? (i := 130) rfl)) rfl
theorem wq_606 : Cond.methodLink RX5 129 yX4_capsAt ∈ lw_g := lw_g_mk (tb_3 (List.mem_of_getElem? (i := 62) rfl)) rfl
theorem wq_610 : Cond.methodLink RX5 132 yX4_boatAt ∈ lw_g := lw_g_mk (tb_3 (List.mem_of_getElem? (i := 66) rfl)) rfl
theorem wq_308 : Cond.fieldLink RX5 137 RX1 "boreLong" "[I" ∈ lw_g := lw_g_mk (tb_2 (List.mem_of_getElem? (i := 4) rfl)) rfl
theorem wq_311 : Cond.fieldLink RX5 140 RX1 "boreLow" "[I" ∈ lw_g := lw_g_mk (tb_2 (List.mem_of_getElem? (i := 7) rfl)) rfl
theorem wq_314 : Cond.fieldLink RX5 143 RX1 "boreFirst" "[I" ∈ lw_g := lw_g_mk (tb_2 (List.mem_of_getElem? (i := 10) rfl)) rfl
theorem wq_619 : Cond.methodLink RX5 146 yX4_airOfBore ∈ lw_g := lw_g_mk (tb_3 (List.mem_of_getElem? (i := 75) rfl)) rfl
theorem wq_324 : Cond.fieldLink RX5 151 RX1 "strength" "[I" ∈ lw_g := lw_g_mk (tb_2 (List.mem_of_getElem? (i := 20) rfl)) rfl
theorem wq_328 : Cond.fieldLink RX5 154 RX1 "lungs" "[I" ∈ lw_g := lw_g_mk (tb_2 (List.mem_of_getElem? (i := 24) rfl)) rfl
theorem wq_436 : Cond.fieldLink RX5 157 RX4 "breath" "[I" ∈ lw_g := lw_g_mk (tb_2 (List.mem_of_getElem? (i := 132) rfl)) rfl
theorem wq_440 : Cond.fieldLink RX5 160 RX4 "capPlace" "[I" ∈ lw_g := lw_g_mk (tb_2 (List.mem_of_getElem? (i := 136) rfl)) rfl
theorem wq_628 : Cond.methodLink RX5 163 yX4_boatOf ∈ lw_g := lw_g_mk (tb_3 (List.mem_of_getElem? (i := 84) rfl)) rfl
theorem wq_438 : Cond.fieldLink RX5 166 RX4 "walk" "[I" ∈ lw_g := lw_g_mk (tb_2 (List.mem_of_getElem? (i := 134) rfl)) rfl
theorem wq_330 : Cond.fieldLink RX5 171 RX1 "weight" "[I" ∈ lw_g := lw_g_mk (tb_2 (List.mem_of_getElem? (i := 26) rfl)) rfl
theorem wq_442 : Cond.fieldLink RX5 174 RX4 "side" "[I" ∈ lw_g := lw_g_mk (tb_2 (List.mem_of_getElem? (i := 138) rfl)) rfl
theorem wq_444 : Cond.fieldLink RX5 177 RX4 "due" "[I" ∈ lw_g := lw_g_mk (tb_2 (List.mem_of_getElem? (i := 140) rfl)) rfl
theorem wq_446 : Cond.fieldLink RX5 180 RX4 "how" "[I" ∈ lw_g := lw_g_mk (tb_2 (List.mem_of_getElem? (i := 142) rfl)) rfl
theorem wq_448 : Cond.fieldLink RX5 183 RX4 "spot" "[I" ∈ lw_g := lw_g_mk (tb_2 (List.mem_of_getElem? (i := 144) rfl)) rfl
theorem wq_450 : Cond.fieldLink RX5 186 RX4 "pushed" "[I" ∈ lw_g := lw_g_mk (tb_2 (List.mem_of_getElem? (i := 146) rfl)) rfl
theorem wq_452 : Cond.fieldLink RX5 189 RX4 "outMinute" "[I" ∈ lw_g := lw_g_mk (tb_2 (List.mem_of_getElem? (i := 148) rfl)) rfl
theorem wq_340 : Cond.fieldLink RX5 197 RX1 "secondLegger" "[I" ∈ lw_g := lw_g_mk (tb_2 (List.mem_of_getElem? (i := 36) rfl)) rfl
theorem wq_337 : Cond.fieldLink RX5 194 RX1 "firstLegger" "[I" ∈ lw_g := lw_g_mk (tb_2 (List.mem_of_getElem? (i := 33) rfl)) rfl
theorem wq_820 : Cond.constantLong RX5 232 857 ∈ lw_g := lw_g_mk (tb_4 (List.mem_of_getElem? (i := 36) rfl)) rfl
theorem wq_821 : Cond.constantLong RX5 234 31 ∈ lw_g := lw_g_mk (tb_4 (List.mem_of_getElem? (i := 37) rfl)) rfl
theorem wq_822 : Cond.methodLink RX5 236 yX5_count ∈ lw_g := lw_g_mk (tb_4 (List.mem_of_getElem? (i := 38) rfl)) rfl
theorem wq_823 : Cond.methodLink RX5 239 yX5_place ∈ lw_g := lw_g_mk (tb_4 (List.mem_of_getElem? (i := 39) rfl)) rfl
theorem wq_824 : Cond.methodLink RX5 243 yX5_bore ∈ lw_g := lw_g_mk (tb_4 (List.mem_of_getElem? (i := 40) rfl)) rfl
theorem wq_825 : Cond.methodLink RX5 246 yX5_legger ∈ lw_g := lw_g_mk (tb_4 (List.mem_of_getElem? (i := 41) rfl)) rfl
theorem wq_827 : Cond.methodLink RX5 252 yX5_crew ∈ lw_g := lw_g_mk (tb_4 (List.mem_of_getElem? (i := 43) rfl)) rfl
theorem wq_826 : Cond.methodLink RX5 249 yX5_boat ∈ lw_g := lw_g_mk (tb_4 (List.mem_of_getElem? (i := 42) rfl)) rfl
theorem wq_1470 : Cond.methodLink RX5 206 yX5_put ∈ lw_g := lw_g_mk (tb_6 (List.mem_of_getElem? (i := 206) rfl)) rfl
theorem wq_651 : Cond.methodLink RX5 200 yX4_goesIn ∈ lw_g := lw_g_mk (tb_3 (List.mem_of_getElem? (i := 107) rfl)) rfl
theorem wq_709 : Cond.methodLink RX5 217 yX5_needMinutes ∈ lw_g := lw_g_mk (tb_3 (List.mem_of_getElem? (i := 165) rfl)) rfl
theorem wq_728 : Cond.methodLink RX5 220 yX4_run ∈ lw_g := lw_g_mk (tb_3 (List.mem_of_getElem? (i := 184) rfl)) rfl
theorem wq_1481 : Cond.methodLink RX5 214 yX4_sendBack ∈ lw_g := lw_g_mk (tb_6 (List.mem_of_getElem? (i := 217) rfl)) rfl
theorem wq_935 : Cond.methodLink RX5 53 yX5_append ∈ lw_g := lw_g_mk (tb_4 (List.mem_of_getElem? (i := 151) rfl)) rfl
theorem wq_796 : Cond.methodLink RX5 223 yX4_copyFrom ∈ lw_g := lw_g_mk (tb_4 (List.mem_of_getElem? (i := 12) rfl)) rfl
theorem wq_432 : Cond.fieldLink RX5 229 RX4 "idle" "I" ∈ lw_g := lw_g_mk (tb_2 (List.mem_of_getElem? (i := 128) rfl)) rfl
theorem wq_510 : Cond.code yX5_count cX5_count 2 (some .int) ∈ lw_g := lw_g_mk (tb_2 (List.mem_of_getElem? (i := 206) rfl)) rfl
theorem wq_600 : Cond.code yX5_place cX5_place 3 (some .int) ∈ lw_g := lw_g_mk (tb_3 (List.mem_of_getElem? (i := 56) rfl)) rfl
theorem wq_618 : Cond.code yX5_bore cX5_bore 3 (some .int) ∈ lw_g := lw_g_mk (tb_3 (List.mem_of_getElem? (i := 74) rfl)) rfl
theorem wq_627 : Cond.code yX5_legger cX5_legger 3 (some .int) ∈ lw_g := lw_g_mk (tb_3 (List.mem_of_getElem? (i := 83) rfl)) rfl
theorem wq_641 : Cond.code yX5_boat cX5_boat 3 (some .int) ∈ lw_g := lw_g_mk (tb_3 (List.mem_of_getElem? (i := 97) rfl)) rfl
theorem wq_646 : Cond.code yX5_crew cX5_crew 3 (some .int) ∈ lw_g := lw_g_mk (tb_3 (List.mem_of_getElem? (i := 102) rfl)) rfl
theorem wq_819 : Cond.code yX5_digest cX5_digest 5 (some .long) ∈ lw_g := lw_g_mk (tb_4 (List.mem_of_getElem? (i := 35) rfl)) rfl
theorem wq_896 : Cond.code yX5_mean cX5_mean 4 (some .double) ∈ lw_g := lw_g_mk (tb_4 (List.mem_of_getElem? (i := 112) rfl)) rfl
theorem wq_704 : Cond.code yX5_worst cX5_worst 3 (some .int) ∈ lw_g := lw_g_mk (tb_3 (List.mem_of_getElem? (i := 160) rfl)) rfl
theorem wq_1469 : Cond.code yX5_air cX5_air 3 (some .int) ∈ lw_g := lw_g_mk (tb_6 (List.mem_of_getElem? (i := 205) rfl)) rfl
theorem wq_650 : Cond.code yX5_canEnter cX5_canEnter 2 (some .boolean) ∈ lw_g := lw_g_mk (tb_3 (List.mem_of_getElem? (i := 106) rfl)) rfl
theorem wq_1464 : Cond.code yX5_whistle cX5_whistle 3 (some .int) ∈ lw_g := lw_g_mk (tb_6 (List.mem_of_getElem? (i := 200) rfl)) rfl
theorem wq_1474 : Cond.code yX5_cap cX5_cap 3 (some .int) ∈ lw_g := lw_g_mk (tb_6 (List.mem_of_getElem? (i := 210) rfl)) rfl
theorem wq_708 : Cond.code yX5_pass cX5_pass 3 (some .int) ∈ lw_g := lw_g_mk (tb_3 (List.mem_of_getElem? (i := 164) rfl)) rfl
theorem wq_1478 : Cond.code yX5_again cX5_again 3 (some .int) ∈ lw_g := lw_g_mk (tb_6 (List.mem_of_getElem? (i := 214) rfl)) rfl
theorem wq_918 : Cond.code yX5_feed cX5_feed 6 (some .int) ∈ lw_g := lw_g_mk (tb_4 (List.mem_of_getElem? (i := 134) rfl)) rfl
theorem wq_911 : Cond.code yX5_trim cX5_trim 2 (some .int) ∈ lw_g := lw_g_mk (tb_4 (List.mem_of_getElem? (i := 127) rfl)) rfl
theorem wq_508 : Cond.instanceMethod yX5_count ∈ lw_g := lw_g_mk (tb_2 (List.mem_of_getElem? (i := 204) rfl)) rfl
theorem wq_509 : Cond.selects RX5 yX5_count yX5_count ∈ lw_g := lw_g_mk (tb_2 (List.mem_of_getElem? (i := 205) rfl)) rfl
theorem wq_598 : Cond.instanceMethod yX5_place ∈ lw_g := lw_g_mk (tb_3 (List.mem_of_getElem? (i := 54) rfl)) rfl
theorem wq_599 : Cond.selects RX5 yX5_place yX5_place ∈ lw_g := lw_g_mk (tb_3 (List.mem_of_getElem? (i := 55) rfl)) rfl
theorem wq_616 : Cond.instanceMethod yX5_bore ∈ lw_g := lw_g_mk (tb_3 (List.mem_of_getElem? (i := 72) rfl)) rfl
theorem wq_617 : Cond.selects RX5 yX5_bore yX5_bore ∈ lw_g := lw_g_mk (tb_3 (List.mem_of_getElem? (i := 73) rfl)) rfl
theorem wq_625 : Cond.instanceMethod yX5_legger ∈ lw_g := lw_g_mk (tb_3 (List.mem_of_getElem? (i := 81) rfl)) rfl
theorem wq_626 : Cond.selects RX5 yX5_legger yX5_legger ∈ lw_g := lw_g_mk (tb_3 (List.mem_of_getElem? (i := 82) rfl)) rfl
theorem wq_639 : Cond.instanceMethod yX5_boat ∈ lw_g := lw_g_mk (tb_3 (List.mem_of_getElem? (i := 95) rfl)) rfl
theorem wq_640 : Cond.selects RX5 yX5_boat yX5_boat ∈ lw_g := lw_g_mk (tb_3 (List.mem_of_getElem? (i := 96) rfl)) rfl
theorem wq_644 : Cond.instanceMethod yX5_crew ∈ lw_g := lw_g_mk (tb_3 (List.mem_of_getElem? (i := 100) rfl)) rfl
theorem wq_645 : Cond.selects RX5 yX5_crew yX5_crew ∈ lw_g := lw_g_mk (tb_3 (List.mem_of_getElem? (i := 101) rfl)) rfl
theorem wq_1476 : Cond.instanceMethod yX5_again ∈ lw_g := lw_g_mk (tb_6 (List.mem_of_getElem? (i := 212) rfl)) rfl
theorem wq_1477 : Cond.selects RX5 yX5_again yX5_again ∈ lw_g := lw_g_mk (tb_6 (List.mem_of_getElem? (i := 213) rfl)) rfl
theorem wq_795 : Cond.code yX5_until cX5_until 3 (some .int) ∈ lw_g := lw_g_mk (tb_4 (List.mem_of_getElem? (i := 11) rfl)) rfl
theorem wq_806 : Cond.code yX5_foresee cX5_foresee 3 (some .int) ∈ lw_g := lw_g_mk (tb_4 (List.mem_of_getElem? (i := 22) rfl)) rfl
theorem wq_811 : Cond.code yX5_advise cX5_advise 6 (some .int) ∈ lw_g := lw_g_mk (tb_4 (List.mem_of_getElem? (i := 27) rfl)) rfl
theorem wq_815 : Cond.code yX5_missed cX5_missed 6 (some .int) ∈ lw_g := lw_g_mk (tb_4 (List.mem_of_getElem? (i := 31) rfl)) rfl
theorem wq_620 : Cond.instanceMethod yX4_airOfBore ∈ lw_g := lw_g_mk (tb_3 (List.mem_of_getElem? (i := 76) rfl)) rfl
theorem wq_621 : Cond.selects RX4 yX4_airOfBore yX4_airOfBore ∈ lw_g := lw_g_mk (tb_3 (List.mem_of_getElem? (i := 77) rfl)) rfl
theorem wq_607 : Cond.instanceMethod yX4_capsAt ∈ lw_g := lw_g_mk (tb_3 (List.mem_of_getElem? (i := 63) rfl)) rfl
theorem wq_608 : Cond.selects RX4 yX4_capsAt yX4_capsAt ∈ lw_g := lw_g_mk (tb_3 (List.mem_of_getElem? (i := 64) rfl)) rfl
theorem wq_512 : Cond.instanceMethod yX4_tally ∈ lw_g := lw_g_mk (tb_2 (List.mem_of_getElem? (i := 208) rfl)) rfl
theorem wq_513 : Cond.selects RX4 yX4_tally yX4_tally ∈ lw_g := lw_g_mk (tb_2 (List.mem_of_getElem? (i := 209) rfl)) rfl
theorem wq_1482 : Cond.instanceMethod yX4_sendBack ∈ lw_g := lw_g_mk (tb_6 (List.mem_of_getElem? (i := 218) rfl)) rfl
theorem wq_1483 : Cond.selects RX4 yX4_sendBack yX4_sendBack ∈ lw_g := lw_g_mk (tb_6 (List.mem_of_getElem? (i := 219) rfl)) rfl
theorem wq_729 : Cond.instanceMethod yX4_run ∈ lw_g := lw_g_mk (tb_3 (List.mem_of_getElem? (i := 185) rfl)) rfl
theorem wq_730 : Cond.selects RX4 yX4_run yX4_run ∈ lw_g := lw_g_mk (tb_3 (List.mem_of_getElem? (i := 186) rfl)) rfl
theorem wq_797 : Cond.instanceMethod yX4_copyFrom ∈ lw_g := lw_g_mk (tb_4 (List.mem_of_getElem? (i := 13) rfl)) rfl
theorem wq_798 : Cond.selects RX4 yX4_copyFrom yX4_copyFrom ∈ lw_g := lw_g_mk (tb_4 (List.mem_of_getElem? (i := 14) rfl)) rfl
theorem wq_937 : Cond.instanceMethod yX5_append ∈ lw_g := lw_g_mk (tb_4 (List.mem_of_getElem? (i := 153) rfl)) rfl
theorem wq_28 : Cond.selects RX5 yX5_append yX5_append ∈ lw_g := lw_g_mk (tb_0 (List.mem_of_getElem? (i := 28) rfl)) rfl
theorem w_nx {a b : Prop} (h : (a ∨ ¬ b) → False) : ¬ a ∧ b := ⟨fun z => h (Or.inl z), Classical.byContradiction (fun z => h (Or.inr z))⟩
section RWX
variable {p : Program} {l : Launch} {e : Env} {s : State} {m : MethodId} {args : Array Value} {below : List Frame} {meth : Method} {c : Code} {H H0 : Heap} {locs : List Loc} {cells slots : Nat} {Q : State → Prop} {R : Room} {pc : Nat} {ls : Array Slot} {rest st0 : List Value} {a : Array Value} {A : Nat → Prop} {mc ms : Nat} {D : va_G} {Z : Nat → ClassId} {ws : va_W}
theorem rwx_go {S : Type} {wsF : S → va_W} {u0 : S} {K : Int32 → S → Prop} {KX : Nat → Prop} {wr : va_W} {isC isR pm : List Nat} {ws' : S → va_W} (hr : vx_Run p l e R s m args below meth c H locs cells slots mc ms (F0 m pc ls st0) rest (poI vwCl D Z wsF u0 H.size K a) (xcP KX H.size) (va_A (wsF u0) H.size))
    (hc : Cut ws wsF u0 wr isC isR pm ws') (hT : TS vwCl D ws A H0 H locs)
    (kx : ∀ (k : Nat) (ce : Cell) (q9 : Nat) (H1 : Heap) (locs1 : List Loc), KX k → TS vwCl D ws A H0 H1 locs1 → H1[q9]? = some ce → ce.vm = .none → s.vm.findClass (exN k) = some ce.cls → vx_W p l e R s m args below meth c H1 locs1 (cells + mc) (slots + ms) Q (F0 m pc ls rest) q9)
    (kk : ∀ (r : Int32) (u : S) (H1 : Heap) (locs1 : List Loc), K r u → TS vwCl D (ws' u) A H0 H1 locs1 → W p l e R s m args below meth c H1 locs1 (cells + mc) (slots + ms) Q (F0 m (pc + 3) ls (.int r :: rest))) : W p l e R s m args below meth c H locs cells slots Q (F0 m pc ls st0) := by
  have hF := va_free hT.2.1 hT.2.2.1 hT.2.2.2 isC hc.1
  refine vx_calli hr hT.2.2.1 (fun q _ h => hF q h) hF (fun q h1 h2 => absurd h1 (Nat.not_lt.mpr h2)) (fun E ce q9 k t H1 locs1 _ _ hk hE hz hq hS h1 h2 h3 => ?_) (fun r u t H1 locs1 ht hvm hk hB hz1 hk1 hS1 => ?_)
  · rw [show E = exN k from hE] at h3
    exact kx k ce q9 H1 locs1 hk ⟨hT.1.kept (fun i x hx => hq _ (hT.1 i x hx).lt (Nat.not_le.mpr (hT.1 i x hx).lt)), hT.2.1, hS, hT.2.2.2⟩ h1 h2 h3
  · obtain ⟨hP1, hD1, _⟩ := hB
    rw [ht] at hP1
    exact kk r u H1 locs1 hk (hc.join hT hk1 hP1 hD1 hS1)
theorem runVX {y : MethodName} {bytes cc : ByteArray} {maxL nL n index : Nat} {ret : Option FieldType} {rn rn' mcR msR : Nat} {Qc : Array Value → State → Outcome → State → Prop} {XC : String → State → State → Prop} {free : Addr → Prop} {own : String} {b : Addr} {As : List Value} {cl : List vw_C} {r : Nat → Nat} (hC : CallFix p m c cc nL s args lw_g own) (hN : NW s) (hR : RXD r (va_A ws H.size) s H) (hM : vx_Met l y (wy y bytes maxL ret) (rk rn' mc ms) (preX cl D Z r ws H.size (.ref b :: As)) Qc XC mc ms free) (hi : MInfo y bytes maxL ret n) (hl : Cond.methodLink own index y ∈ lw_g) (hin : Cond.instanceMethod y ∈ lw_g) (hse : Cond.selects y.cls y y ∈ lw_g) (hlt : rn' < rn)
    (hP : va_P D cl ws H) (hD : va_D (fun _ => True) ws) (hK : va_K D cl (tysG Z) s) {ci q0 : Nat} {fs : List Value} {T : u_T} {N : Nat} (hq : ws[q0]? = some (b, .inr (ci, fs))) (hci : cl[ci]? = some (y.cls, T, N))
    (hn : As.length = n) (hsize : ls.size = nL) (hstack : st0 = As.reverse ++ .ref b :: rest) (hW : (rest.map fun v => v.category).sum ≤ 8) (hdg : decode cc pc = .ok (.invokevirtual index, 3)) (hf : cells + mc ≤ mcR ∧ slots + ms ≤ msR) :
    vx_Run p l e (rk rn mcR msR) s m args below meth c H locs cells slots mc ms (F0 m pc ls st0) rest (Qc (Value.ref b :: As).toArray) XC free := by
  have hts := hC.2.2.2.2
  exact vx_runV (As := As) (rest := rest) (C := y.cls) hC hM ⟨callB_of n hts (wy_good hi.1) rfl rfl rfl (hts _ hi.2.1) (hts _ hl) hi.2.2.2.1 (rk_fit hlt hi.2.2.1), hts _ hin, hts _ hse⟩ ⟨preX.blind, va_recv hK hP hci hq, fun U hU hW => ⟨rfl, by rw [hU], by rw [hU]; exact hP, hD, va_K.moved hW.alike hK, NW.warm hW hN, by rw [hU]; exact hR.warm hW⟩⟩ rfl hn hsize hstack (lv_room hW) hdg hf
end RWX
def poD (cl : List vw_C) (D : va_G) (Z : Nat → ClassId) {S : Type} (wsF : S → va_W) (u0 : S) (sz : Nat) (K : UInt64 → S → Prop) : Array Value → State → Outcome → State → Prop := va_Qd K (poB cl D Z wsF (va_A (wsF u0) sz)) (va_A (wsF u0) sz)
theorem rwd_of {l : Launch} {y : MethodName} {cc : ByteArray} {n : Nat} {ret : Option FieldType} {rn mc ms : Nat} {cl : List vw_C} {D : va_G} {Z : Nat → ClassId} {sz : Nat} {av : List Value} {S : Type} {wsF : S → va_W} {u0 : S} {K : UInt64 → S → Prop} (hy : plainName y.cls = true) (hn : (lg_sl av).length ≤ n) (hret : ret = some .double)
    (body : ∀ (p : Program) (e : Env) (s : State) (m : MethodId) (args : Array Value) (below : List Frame) (meth : Method) (c : Code) (Q : State → Prop) (A : Nat → Prop), CallFix p m c cc n s args lw_g y.cls → NW s → s.heap.size = sz → TS cl D (wsF u0) A s.heap s.heap [] → va_K D cl (tysG Z) s →
      (∀ (pc : Nat) (ls : Array Slot) (H : Heap) (locs : List Loc) (r : UInt64) (u : S), K r u → TS cl D (wsF u) A s.heap H locs → decode cc pc = .ok (.dreturn, 1) → W p l e (rk rn mc ms) s m args below meth c H locs mc ms Q (F0 m pc ls [.double r])) →
      ∀ ls : Array Slot, lv_has ls n (lv_args 0 av) → W p l e (rk rn mc ms) s m args below meth c s.heap [] 0 0 Q (F0 m 0 ls [])) :
    Met l y (wy y cc n ret) (rk rn mc ms) (pre cl D Z (wsF u0) sz av) (poD cl D Z wsF u0 sz K) mc ms (va_A (wsF u0) sz) := by
  refine Met.ofW (cc := cc) (maxL := n) (ret := ret) hy rfl ?_
  intro p e s m args below meth c s₁ B hml hv
  obtain ⟨rfl, hsz, hP, hD, hK, hN⟩ := hv
  have hts : ∀ w ∈ lw_g, w.before av.toArray s = true := fun w hw => atoms_spec (ws := wy y cc n ret) B.pre w (List.mem_cons_of_mem _ hw)
  have hown : s.vm.findClass y.cls = some m.cls := findClass_of_methodNamed B.named
  have hlocks := B.notSynchronized
  have hl := lv_entry av (n := n) hn
  rw [lg_entry_eq]
  refine body p e s m av.toArray below meth c _ (va_A (wsF u0) sz) ⟨B.exec, B.bytes, hml, hown, hts⟩ hN hsz ⟨hP, hD.self, va_S.rf, fun q h => Or.inr (hsz ▸ h)⟩ hK ?_ _ hl
  intro pc ls H locs r u hk hT hd
  exact W.dret B.exec B.bytes (B.returns.trans hret) (fun t ht hW => ⟨⟨r, u, rfl, hk, by rw [ht]; exact hT.1, hT.2.1, va_K.moved hW.alike hK⟩, hT.2.2.1.F ht⟩) hT.2.2.1.2.2 hd
theorem rwd_go {p : Program} {l : Launch} {e : Env} {s : State} {m : MethodId} {args : Array Value} {below : List Frame} {meth : Method} {c : Code} {H H0 : Heap} {locs : List Loc} {cells slots : Nat} {Q : State → Prop} {R : Room} {pc : Nat} {ls : Array Slot} {rest st0 : List Value} {a : Array Value} {A : Nat → Prop} {mc ms : Nat} {cl : List vw_C} {D : va_G} {Z : Nat → ClassId} {ws : va_W} {S : Type} {wsF : S → va_W} {u0 : S} {K : UInt64 → S → Prop} {wr : va_W} {isC isR pm : List Nat} {ws' : S → va_W} (hr : va_Run p l e R s m args below meth c H locs cells slots mc ms (F0 m pc ls st0) rest (poD cl D Z wsF u0 H.size K a) (va_A (wsF u0) H.size))
    (hc : Cut ws wsF u0 wr isC isR pm ws') (hT : TS cl D ws A H0 H locs)
    (kk : ∀ (r : UInt64) (u : S) (H1 : Heap) (locs1 : List Loc), K r u → TS cl D (ws' u) A H0 H1 locs1 → W p l e R s m args below meth c H1 locs1 (cells + mc) (slots + ms) Q (F0 m (pc + 3) ls (.double r :: rest))) : W p l e R s m args below meth c H locs cells slots Q (F0 m pc ls st0) := by
  have hF := va_free hT.2.1 hT.2.2.1 hT.2.2.2 isC hc.1
  refine va_calld hr hT.2.2.1 (fun q _ h => hF q h) hF (fun r u t H1 locs1 ht hvm hk hB hz1 hk1 hS1 => ?_)
  obtain ⟨hP1, hD1, _⟩ := hB
  rw [ht] at hP1
  exact kk r u H1 locs1 hk (hc.join hT hk1 hP1 hD1 hS1)
def CA (Z : Nat → ClassId) (a b q : Nat → Nat) (ca tp rd sp : Nat) (P : M2) (ap : Nat) (F : M2) (G : M2) (C : M2) : va_W := [(a 0, .inr (4, [.ref (q 20), .int (F 1 0), .int (F 2 0), .int (F 3 0), .ref (a 4), .ref (a 5), .ref (a 6), .ref (a 7), .ref (a 8), .ref (a 9), .ref (a 10), .ref (a 11), .ref (a 12), .ref (a 13), .ref (a 14)])), (a 4, .inl (Z 0, 60, .inl (F 4))), (a 5, .inl (Z 0, 6, .inl (F 5))), (a 6, .inl (Z 0, 6, .inl (F 6))), (a 7, .inl (Z 0, 6, .inl (F 7))), (a 8, .inl (Z 0, 8, .inl (F 8))), (a 9, .inl (Z 0, 8, .inl (F 9))), (a 10, .inl (Z 0, 8, .inl (F 10))), (a 11, .inl (Z 0, 8, .inl (F 11))), (a 12, .inl (Z 0, 8, .inl (F 12))), (a 13, .inl (Z 0, 8, .inl (F 13))), (a 14, .inl (Z 0, 400, .inl (F 14))), (q 20, .inr (1, [.int (P 20 0), .int (P 21 0), .int (P 22 0), .int (P 23 0), .int (P 24 0), .ref (q 25), .ref (q 26), .ref (q 27), .ref (q 28), .ref (q 29), .ref (q 30), .ref (q 31), .ref (q 32), .ref (q 33), .ref (q 34), .ref (q 35), .ref (q 36), .ref (q 37), .ref (q 40)])), (q 25, .inl (Z 0, 5, .inl (P 25))), (q 26, .inl (Z 0, 5, .inl (P 26))), (q 27, .inl (Z 0, 5, .inl (P 27))), (q 28, .inl (Z 0, 60, .inl (P 28))), (q 29, .inl (Z 0, 4, .inl (P 29))), (q 30, .inl (Z 0, 4, .inl (P 30))), (q 31, .inl (Z 0, 6, .inl (P 31))), (q 32, .inl (Z 0, 6, .inl (P 32))), (q 33, .inl (Z 0, 8, .inl (P 33))), (q 34, .inl (Z 0, 8, .inl (P 34))), (q 35, .inl (Z 0, 8, .inl (P 35))), (q 36, .inl (Z 0, 8, .inl (P 36))), (q 37, .inl (Z 0, 8, .inl (P 37))), (q 40, .inr (0, [.int (P 40 0), .ref (q 41), .ref (q 42), .ref (q 43), .ref (q 44), .int (P 45 0), .ref (q 46), .ref (q 47)])), (q 41, .inl (Z 0, 16, .inl (P 41))), (q 42, .inl (Z 0, 16, .inl (P 42))), (q 43, .inl (Z 0, 16, .inl (P 43))), (q 44, .inl (Z 0, 16, .inl (P 44))), (q 46, .inl (Z 0, 400, .inl (P 46))), (q 47, .inl (Z 0, 400, .inl (P 47))), (b 0, .inr (4, [.ref ap, .int (G 1 0), .int (G 2 0), .int (G 3 0), .ref (b 4), .ref (b 5), .ref (b 6), .ref (b 7), .ref (b 8), .ref (b 9), .ref (b 10), .ref (b 11), .ref (b 12), .ref (b 13), .ref (b 14)])), (b 4, .inl (Z 0, 60, .inl (G 4))), (b 5, .inl (Z 0, 6, .inl (G 5))), (b 6, .inl (Z 0, 6, .inl (G 6))), (b 7, .inl (Z 0, 6, .inl (G 7))), (b 8, .inl (Z 0, 8, .inl (G 8))), (b 9, .inl (Z 0, 8, .inl (G 9))), (b 10, .inl (Z 0, 8, .inl (G 10))), (b 11, .inl (Z 0, 8, .inl (G 11))), (b 12, .inl (Z 0, 8, .inl (G 12))), (b 13, .inl (Z 0, 8, .inl (G 13))), (b 14, .inl (Z 0, 400, .inl (G 14))), (ca, .inr (5, [.ref tp, .int (C 91 0), .int (C 92 0), .ref rd, .ref sp, .ref (a 0), .ref (b 0)]))]
abbrev cutCA : List Nat := [0, 1, 2, 3, 4, 5, 6, 7, 8, 9, 10, 11, 12, 13, 14, 15, 16, 17, 18, 19, 20, 21, 22, 23, 24, 25, 26, 27, 28, 29, 30, 31, 32, 33, 34, 35, 36, 37, 38, 39, 40, 41, 42, 43, 44, 45]
set_option maxRecDepth 100000 in
theorem cutOkCA (Z : Nat → ClassId) (a b q : Nat → Nat) (ca tp rd sp : Nat) (P : M2) (ap : Nat) (F : M2) (G : M2) (C : M2) : Cut (CA Z a b q ca tp rd sp P ap F G C) (fun u : Nat × M2 × M2 × M2 => CA Z a b q ca tp rd sp P u.1 u.2.1 u.2.2.1 u.2.2.2) (ap, F, G, C) [] cutCA [] cutCA (fun u : Nat × M2 × M2 × M2 => CA Z a b q ca tp rd sp P u.1 u.2.1 u.2.2.1 u.2.2.2) := ⟨rfl, rfl, rfl, fun i h => absurd h List.not_mem_nil, by decide, fun _ => rfl⟩
section ROWSX5
variable {p : Program} {l : Launch} {e : Env} {s : State} {m : MethodId} {args : Array Value} {below : List Frame} {meth : Method} {c : Code} {H H0 : Heap} {locs : List Loc} {cells slots : Nat} {Q : State → Prop} {R : Room} {rn mcR msR : Nat}
variable {pc : Nat} {ls : Array Slot} {rest : List Value} {A : Nat → Prop} {D : va_G}
variable {cc : ByteArray} {nL index : Nat} {own host : String}
theorem gCA_Atun_10 {Z : Nat → ClassId} {a b q : Nat → Nat} {ca tp rd sp : Nat} {P : M2} {ap : Nat} {F : M2} {G : M2} {C : M2} (hC : CallFix p m c cc nL s args lw_g own) (hK : va_K D vwCl (tysG Z) s) (hP : va_P D vwCl (CA Z a b q ca tp rd sp P ap F G C) H) (hl : Cond.fieldLink own index RX4 "how" "[I" ∈ lw_g) (hdg : decode cc pc = .ok (.getfield index, 3)) (kk : W p l e R s m args below meth c H locs cells slots Q (F0 m (pc + 3) ls (.ref (b 10) :: rest))) : W p l e R s m args below meth c H locs cells slots Q (F0 m pc ls (.ref (b 0) :: rest)) :=
  w_get (C := RX4) (T := TX4) (N := 15) (ci := 4) (q0 := 33) (k := 10) hC hK hP fi_X4 rfl rfl rfl (by decide) rfl hl hdg kk
theorem gCA_cl_1 {Z : Nat → ClassId} {a b q : Nat → Nat} {ca tp rd sp : Nat} {P : M2} {ap : Nat} {F : M2} {G : M2} {C : M2} (hC : CallFix p m c cc nL s args lw_g own) (hK : va_K D vwCl (tysG Z) s) (hP : va_P D vwCl (CA Z a b q ca tp rd sp P ap F G C) H) (hl : Cond.fieldLink own index RX5 "length" "I" ∈ lw_g) (hdg : decode cc pc = .ok (.getfield index, 3)) (kk : W p l e R s m args below meth c H locs cells slots Q (F0 m (pc + 3) ls (.int (C 91 0) :: rest))) : W p l e R s m args below meth c H locs cells slots Q (F0 m pc ls (.ref (ca) :: rest)) :=
  w_get (C := RX5) (T := TX5) (N := 7) (ci := 5) (q0 := 45) (k := 1) hC hK hP fi_X5 rfl rfl rfl (by decide) rfl hl hdg kk
theorem gCA_cl_5 {Z : Nat → ClassId} {a b q : Nat → Nat} {ca tp rd sp : Nat} {P : M2} {ap : Nat} {F : M2} {G : M2} {C : M2} (hC : CallFix p m c cc nL s args lw_g own) (hK : va_K D vwCl (tysG Z) s) (hP : va_P D vwCl (CA Z a b q ca tp rd sp P ap F G C) H) (hl : Cond.fieldLink own index RX5 "now" "LTunnelLeggers$Tunnel;" ∈ lw_g) (hdg : decode cc pc = .ok (.getfield index, 3)) (kk : W p l e R s m args below meth c H locs cells slots Q (F0 m (pc + 3) ls (.ref (a 0) :: rest))) : W p l e R s m args below meth c H locs cells slots Q (F0 m pc ls (.ref (ca) :: rest)) :=
  w_get (C := RX5) (T := TX5) (N := 7) (ci := 5) (q0 := 45) (k := 5) hC hK hP fi_X5 rfl rfl rfl (by decide) rfl hl hdg kk
theorem gCA_cl_6 {Z : Nat → ClassId} {a b q : Nat → Nat} {ca tp rd sp : Nat} {P : M2} {ap : Nat} {F : M2} {G : M2} {C : M2} (hC : CallFix p m c cc nL s args lw_g own) (hK : va_K D vwCl (tysG Z) s) (hP : va_P D vwCl (CA Z a b q ca tp rd sp P ap F G C) H) (hl : Cond.fieldLink own index RX5 "ahead" "LTunnelLeggers$Tunnel;" ∈ lw_g) (hdg : decode cc pc = .ok (.getfield index, 3)) (kk : W p l e R s m args below meth c H locs cells slots Q (F0 m (pc + 3) ls (.ref (b 0) :: rest))) : W p l e R s m args below meth c H locs cells slots Q (F0 m pc ls (.ref (ca) :: rest)) :=
  w_get (C := RX5) (T := TX5) (N := 7) (ci := 5) (q0 := 45) (k := 6) hC hK hP fi_X5 rfl rfl rfl (by decide) rfl hl hdg kk
theorem gCA_orders_0 {Z : Nat → ClassId} {a b q : Nat → Nat} {ca tp rd sp : Nat} {P : M2} {ap : Nat} {F : M2} {G : M2} {C : M2} (hC : CallFix p m c cc nL s args lw_g own) (hK : va_K D vwCl (tysG Z) s) (hP : va_P D vwCl (CA Z a b q ca tp rd sp P ap F G C) H) (hl : Cond.fieldLink own index RX0 "told" "I" ∈ lw_g) (hdg : decode cc pc = .ok (.getfield index, 3)) (kk : W p l e R s m args below meth c H locs cells slots Q (F0 m (pc + 3) ls (.int (P 40 0) :: rest))) : W p l e R s m args below meth c H locs cells slots Q (F0 m pc ls (.ref (q 40) :: rest)) :=
  w_get (C := RX0) (T := TX0) (N := 8) (ci := 0) (q0 := 26) (k := 0) hC hK hP fi_X0 rfl rfl rfl (by decide) rfl hl hdg kk
theorem gCA_plan_0 {Z : Nat → ClassId} {a b q : Nat → Nat} {ca tp rd sp : Nat} {P : M2} {ap : Nat} {F : M2} {G : M2} {C : M2} (hC : CallFix p m c cc nL s args lw_g own) (hK : va_K D vwCl (tysG Z) s) (hP : va_P D vwCl (CA Z a b q ca tp rd sp P ap F G C) H) (hl : Cond.fieldLink own index RX1 "bores" "I" ∈ lw_g) (hdg : decode cc pc = .ok (.getfield index, 3)) (kk : W p l e R s m args below meth c H locs cells slots Q (F0 m (pc + 3) ls (.int (P 20 0) :: rest))) : W p l e R s m args below meth c H locs cells slots Q (F0 m pc ls (.ref (q 20) :: rest)) :=
  w_get (C := RX1) (T := TX1) (N := 19) (ci := 1) (q0 := 12) (k := 0) hC hK hP fi_X1 rfl rfl rfl (by decide) rfl hl hdg kk
theorem gCA_plan_1 {Z : Nat → ClassId} {a b q : Nat → Nat} {ca tp rd sp : Nat} {P : M2} {ap : Nat} {F : M2} {G : M2} {C : M2} (hC : CallFix p m c cc nL s args lw_g own) (hK : va_K D vwCl (tysG Z) s) (hP : va_P D vwCl (CA Z a b q ca tp rd sp P ap F G C) H) (hl : Cond.fieldLink own index RX1 "places" "I" ∈ lw_g) (hdg : decode cc pc = .ok (.getfield index, 3)) (kk : W p l e R s m args below meth c H locs cells slots Q (F0 m (pc + 3) ls (.int (P 21 0) :: rest))) : W p l e R s m args below meth c H locs cells slots Q (F0 m pc ls (.ref (q 20) :: rest)) :=
  w_get (C := RX1) (T := TX1) (N := 19) (ci := 1) (q0 := 12) (k := 1) hC hK hP fi_X1 rfl rfl rfl (by decide) rfl hl hdg kk
theorem gCA_plan_2 {Z : Nat → ClassId} {a b q : Nat → Nat} {ca tp rd sp : Nat} {P : M2} {ap : Nat} {F : M2} {G : M2} {C : M2} (hC : CallFix p m c cc nL s args lw_g own) (hK : va_K D vwCl (tysG Z) s) (hP : va_P D vwCl (CA Z a b q ca tp rd sp P ap F G C) H) (hl : Cond.fieldLink own index RX1 "shafts" "I" ∈ lw_g) (hdg : decode cc pc = .ok (.getfield index, 3)) (kk : W p l e R s m args below meth c H locs cells slots Q (F0 m (pc + 3) ls (.int (P 22 0) :: rest))) : W p l e R s m args below meth c H locs cells slots Q (F0 m pc ls (.ref (q 20) :: rest)) :=
  w_get (C := RX1) (T := TX1) (N := 19) (ci := 1) (q0 := 12) (k := 2) hC hK hP fi_X1 rfl rfl rfl (by decide) rfl hl hdg kk
theorem gCA_plan_3 {Z : Nat → ClassId} {a b q : Nat → Nat} {ca tp rd sp : Nat} {P : M2} {ap : Nat} {F : M2} {G : M2} {C : M2} (hC : CallFix p m c cc nL s args lw_g own) (hK : va_K D vwCl (tysG Z) s) (hP : va_P D vwCl (CA Z a b q ca tp rd sp P ap F G C) H) (hl : Cond.fieldLink own index RX1 "leggers" "I" ∈ lw_g) (hdg : decode cc pc = .ok (.getfield index, 3)) (kk : W p l e R s m args below meth c H locs cells slots Q (F0 m (pc + 3) ls (.int (P 23 0) :: rest))) : W p l e R s m args below meth c H locs cells slots Q (F0 m pc ls (.ref (q 20) :: rest)) :=
  w_get (C := RX1) (T := TX1) (N := 19) (ci := 1) (q0 := 12) (k := 3) hC hK hP fi_X1 rfl rfl rfl (by decide) rfl hl hdg kk
theorem gCA_plan_4 {Z : Nat → ClassId} {a b q : Nat → Nat} {ca tp rd sp : Nat} {P : M2} {ap : Nat} {F : M2} {G : M2} {C : M2} (hC : CallFix p m c cc nL s args lw_g own) (hK : va_K D vwCl (tysG Z) s) (hP : va_P D vwCl (CA Z a b q ca tp rd sp P ap F G C) H) (hl : Cond.fieldLink own index RX1 "boats" "I" ∈ lw_g) (hdg : decode cc pc = .ok (.getfield index, 3)) (kk : W p l e R s m args below meth c H locs cells slots Q (F0 m (pc + 3) ls (.int (P 24 0) :: rest))) : W p l e R s m args below meth c H locs cells slots Q (F0 m pc ls (.ref (q 20) :: rest)) :=
  w_get (C := RX1) (T := TX1) (N := 19) (ci := 1) (q0 := 12) (k := 4) hC hK hP fi_X1 rfl rfl rfl (by decide) rfl hl hdg kk
theorem gCA_plan_5 {Z : Nat → ClassId} {a b q : Nat → Nat} {ca tp rd sp : Nat} {P : M2} {ap : Nat} {F : M2} {G : M2} {C : M2} (hC : CallFix p m c cc nL s args lw_g own) (hK : va_K D vwCl (tysG Z) s) (hP : va_P D vwCl (CA Z a b q ca tp rd sp P ap F G C) H) (hl : Cond.fieldLink own index RX1 "boreLong" "[I" ∈ lw_g) (hdg : decode cc pc = .ok (.getfield index, 3)) (kk : W p l e R s m args below meth c H locs cells slots Q (F0 m (pc + 3) ls (.ref (q 25) :: rest))) : W p l e R s m args below meth c H locs cells slots Q (F0 m pc ls (.ref (q 20) :: rest)) :=
  w_get (C := RX1) (T := TX1) (N := 19) (ci := 1) (q0 := 12) (k := 5) hC hK hP fi_X1 rfl rfl rfl (by decide) rfl hl hdg kk
theorem gCA_plan_6 {Z : Nat → ClassId} {a b q : Nat → Nat} {ca tp rd sp : Nat} {P : M2} {ap : Nat} {F : M2} {G : M2} {C : M2} (hC : CallFix p m c cc nL s args lw_g own) (hK : va_K D vwCl (tysG Z) s) (hP : va_P D vwCl (CA Z a b q ca tp rd sp P ap F G C) H) (hl : Cond.fieldLink own index RX1 "boreLow" "[I" ∈ lw_g) (hdg : decode cc pc = .ok (.getfield index, 3)) (kk : W p l e R s m args below meth c H locs cells slots Q (F0 m (pc + 3) ls (.ref (q 26) :: rest))) : W p l e R s m args below meth c H locs cells slots Q (F0 m pc ls (.ref (q 20) :: rest)) :=
  w_get (C := RX1) (T := TX1) (N := 19) (ci := 1) (q0 := 12) (k := 6) hC hK hP fi_X1 rfl rfl rfl (by decide) rfl hl hdg kk
theorem gCA_plan_7 {Z : Nat → ClassId} {a b q : Nat → Nat} {ca tp rd sp : Nat} {P : M2} {ap : Nat} {F : M2} {G : M2} {C : M2} (hC : CallFix p m c cc nL s args lw_g own) (hK : va_K D vwCl (tysG Z) s) (hP : va_P D vwCl (CA Z a b q ca tp rd sp P ap F G C) H) (hl : Cond.fieldLink own index RX1 "boreFirst" "[I" ∈ lw_g) (hdg : decode cc pc = .ok (.getfield index, 3)) (kk : W p l e R s m args below meth c H locs cells slots Q (F0 m (pc + 3) ls (.ref (q 27) :: rest))) : W p l e R s m args below meth c H locs cells slots Q (F0 m pc ls (.ref (q 20) :: rest)) :=
  w_get (C := RX1) (T := TX1) (N := 19) (ci := 1) (q0 := 12) (k := 7) hC hK hP fi_X1 rfl rfl rfl (by decide) rfl hl hdg kk
theorem gCA_plan_8 {Z : Nat → ClassId} {a b q : Nat → Nat} {ca tp rd sp : Nat} {P : M2} {ap : Nat} {F : M2} {G : M2} {C : M2} (hC : CallFix p m c cc nL s args lw_g own) (hK : va_K D vwCl (tysG Z) s) (hP : va_P D vwCl (CA Z a b q ca tp rd sp P ap F G C) H) (hl : Cond.fieldLink own index RX1 "boreOf" "[I" ∈ lw_g) (hdg : decode cc pc = .ok (.getfield index, 3)) (kk : W p l e R s m args below meth c H locs cells slots Q (F0 m (pc + 3) ls (.ref (q 28) :: rest))) : W p l e R s m args below meth c H locs cells slots Q (F0 m pc ls (.ref (q 20) :: rest)) :=
  w_get (C := RX1) (T := TX1) (N := 19) (ci := 1) (q0 := 12) (k := 8) hC hK hP fi_X1 rfl rfl rfl (by decide) rfl hl hdg kk
theorem gCA_plan_11 {Z : Nat → ClassId} {a b q : Nat → Nat} {ca tp rd sp : Nat} {P : M2} {ap : Nat} {F : M2} {G : M2} {C : M2} (hC : CallFix p m c cc nL s args lw_g own) (hK : va_K D vwCl (tysG Z) s) (hP : va_P D vwCl (CA Z a b q ca tp rd sp P ap F G C) H) (hl : Cond.fieldLink own index RX1 "strength" "[I" ∈ lw_g) (hdg : decode cc pc = .ok (.getfield index, 3)) (kk : W p l e R s m args below meth c H locs cells slots Q (F0 m (pc + 3) ls (.ref (q 31) :: rest))) : W p l e R s m args below meth c H locs cells slots Q (F0 m pc ls (.ref (q 20) :: rest)) :=
  w_get (C := RX1) (T := TX1) (N := 19) (ci := 1) (q0 := 12) (k := 11) hC hK hP fi_X1 rfl rfl rfl (by decide) rfl hl hdg kk
theorem gCA_plan_12 {Z : Nat → ClassId} {a b q : Nat → Nat} {ca tp rd sp : Nat} {P : M2} {ap : Nat} {F : M2} {G : M2} {C : M2} (hC : CallFix p m c cc nL s args lw_g own) (hK : va_K D vwCl (tysG Z) s) (hP : va_P D vwCl (CA Z a b q ca tp rd sp P ap F G C) H) (hl : Cond.fieldLink own index RX1 "lungs" "[I" ∈ lw_g) (hdg : decode cc pc = .ok (.getfield index, 3)) (kk : W p l e R s m args below meth c H locs cells slots Q (F0 m (pc + 3) ls (.ref (q 32) :: rest))) : W p l e R s m args below meth c H locs cells slots Q (F0 m pc ls (.ref (q 20) :: rest)) :=
  w_get (C := RX1) (T := TX1) (N := 19) (ci := 1) (q0 := 12) (k := 12) hC hK hP fi_X1 rfl rfl rfl (by decide) rfl hl hdg kk
theorem gCA_plan_13 {Z : Nat → ClassId} {a b q : Nat → Nat} {ca tp rd sp : Nat} {P : M2} {ap : Nat} {F : M2} {G : M2} {C : M2} (hC : CallFix p m c cc nL s args lw_g own) (hK : va_K D vwCl (tysG Z) s) (hP : va_P D vwCl (CA Z a b q ca tp rd sp P ap F G C) H) (hl : Cond.fieldLink own index RX1 "weight" "[I" ∈ lw_g) (hdg : decode cc pc = .ok (.getfield index, 3)) (kk : W p l e R s m args below meth c H locs cells slots Q (F0 m (pc + 3) ls (.ref (q 33) :: rest))) : W p l e R s m args below meth c H locs cells slots Q (F0 m pc ls (.ref (q 20) :: rest)) :=
  w_get (C := RX1) (T := TX1) (N := 19) (ci := 1) (q0 := 12) (k := 13) hC hK hP fi_X1 rfl rfl rfl (by decide) rfl hl hdg kk
theorem gCA_plan_16 {Z : Nat → ClassId} {a b q : Nat → Nat} {ca tp rd sp : Nat} {P : M2} {ap : Nat} {F : M2} {G : M2} {C : M2} (hC : CallFix p m c cc nL s args lw_g own) (hK : va_K D vwCl (tysG Z) s) (hP : va_P D vwCl (CA Z a b q ca tp rd sp P ap F G C) H) (hl : Cond.fieldLink own index RX1 "firstLegger" "[I" ∈ lw_g) (hdg : decode cc pc = .ok (.getfield index, 3)) (kk : W p l e R s m args below meth c H locs cells slots Q (F0 m (pc + 3) ls (.ref (q 36) :: rest))) : W p l e R s m args below meth c H locs cells slots Q (F0 m pc ls (.ref (q 20) :: rest)) :=
  w_get (C := RX1) (T := TX1) (N := 19) (ci := 1) (q0 := 12) (k := 16) hC hK hP fi_X1 rfl rfl rfl (by decide) rfl hl hdg kk
theorem gCA_plan_17 {Z : Nat → ClassId} {a b q : Nat → Nat} {ca tp rd sp : Nat} {P : M2} {ap : Nat} {F : M2} {G : M2} {C : M2} (hC : CallFix p m c cc nL s args lw_g own) (hK : va_K D vwCl (tysG Z) s) (hP : va_P D vwCl (CA Z a b q ca tp rd sp P ap F G C) H) (hl : Cond.fieldLink own index RX1 "secondLegger" "[I" ∈ lw_g) (hdg : decode cc pc = .ok (.getfield index, 3)) (kk : W p l e R s m args below meth c H locs cells slots Q (F0 m (pc + 3) ls (.ref (q 37) :: rest))) : W p l e R s m args below meth c H locs cells slots Q (F0 m pc ls (.ref (q 20) :: rest)) :=
  w_get (C := RX1) (T := TX1) (N := 19) (ci := 1) (q0 := 12) (k := 17) hC hK hP fi_X1 rfl rfl rfl (by decide) rfl hl hdg kk
theorem gCA_plan_18 {Z : Nat → ClassId} {a b q : Nat → Nat} {ca tp rd sp : Nat} {P : M2} {ap : Nat} {F : M2} {G : M2} {C : M2} (hC : CallFix p m c cc nL s args lw_g own) (hK : va_K D vwCl (tysG Z) s) (hP : va_P D vwCl (CA Z a b q ca tp rd sp P ap F G C) H) (hl : Cond.fieldLink own index RX1 "orders" "LTunnelLeggers$Orders;" ∈ lw_g) (hdg : decode cc pc = .ok (.getfield index, 3)) (kk : W p l e R s m args below meth c H locs cells slots Q (F0 m (pc + 3) ls (.ref (q 40) :: rest))) : W p l e R s m args below meth c H locs cells slots Q (F0 m pc ls (.ref (q 20) :: rest)) :=
  w_get (C := RX1) (T := TX1) (N := 19) (ci := 1) (q0 := 12) (k := 18) hC hK hP fi_X1 rfl rfl rfl (by decide) rfl hl hdg kk
theorem gCA_tun_0 {Z : Nat → ClassId} {a b q : Nat → Nat} {ca tp rd sp : Nat} {P : M2} {ap : Nat} {F : M2} {G : M2} {C : M2} (hC : CallFix p m c cc nL s args lw_g own) (hK : va_K D vwCl (tysG Z) s) (hP : va_P D vwCl (CA Z a b q ca tp rd sp P ap F G C) H) (hl : Cond.fieldLink own index RX4 "plan" "LTunnelLeggers$Plan;" ∈ lw_g) (hdg : decode cc pc = .ok (.getfield index, 3)) (kk : W p l e R s m args below meth c H locs cells slots Q (F0 m (pc + 3) ls (.ref (q 20) :: rest))) : W p l e R s m args below meth c H locs cells slots Q (F0 m pc ls (.ref (a 0) :: rest)) :=
  w_get (C := RX4) (T := TX4) (N := 15) (ci := 4) (q0 := 0) (k := 0) hC hK hP fi_X4 rfl rfl rfl (by decide) rfl hl hdg kk
theorem gCA_tun_1 {Z : Nat → ClassId} {a b q : Nat → Nat} {ca tp rd sp : Nat} {P : M2} {ap : Nat} {F : M2} {G : M2} {C : M2} (hC : CallFix p m c cc nL s args lw_g own) (hK : va_K D vwCl (tysG Z) s) (hP : va_P D vwCl (CA Z a b q ca tp rd sp P ap F G C) H) (hl : Cond.fieldLink own index RX4 "minute" "I" ∈ lw_g) (hdg : decode cc pc = .ok (.getfield index, 3)) (kk : W p l e R s m args below meth c H locs cells slots Q (F0 m (pc + 3) ls (.int (F 1 0) :: rest))) : W p l e R s m args below meth c H locs cells slots Q (F0 m pc ls (.ref (a 0) :: rest)) :=
  w_get (C := RX4) (T := TX4) (N := 15) (ci := 4) (q0 := 0) (k := 1) hC hK hP fi_X4 rfl rfl rfl (by decide) rfl hl hdg kk
theorem gCA_tun_2 {Z : Nat → ClassId} {a b q : Nat → Nat} {ca tp rd sp : Nat} {P : M2} {ap : Nat} {F : M2} {G : M2} {C : M2} (hC : CallFix p m c cc nL s args lw_g own) (hK : va_K D vwCl (tysG Z) s) (hP : va_P D vwCl (CA Z a b q ca tp rd sp P ap F G C) H) (hl : Cond.fieldLink own index RX4 "turn" "I" ∈ lw_g) (hdg : decode cc pc = .ok (.getfield index, 3)) (kk : W p l e R s m args below meth c H locs cells slots Q (F0 m (pc + 3) ls (.int (F 2 0) :: rest))) : W p l e R s m args below meth c H locs cells slots Q (F0 m pc ls (.ref (a 0) :: rest)) :=
  w_get (C := RX4) (T := TX4) (N := 15) (ci := 4) (q0 := 0) (k := 2) hC hK hP fi_X4 rfl rfl rfl (by decide) rfl hl hdg kk
theorem gCA_tun_4 {Z : Nat → ClassId} {a b q : Nat → Nat} {ca tp rd sp : Nat} {P : M2} {ap : Nat} {F : M2} {G : M2} {C : M2} (hC : CallFix p m c cc nL s args lw_g own) (hK : va_K D vwCl (tysG Z) s) (hP : va_P D vwCl (CA Z a b q ca tp rd sp P ap F G C) H) (hl : Cond.fieldLink own index RX4 "air" "[I" ∈ lw_g) (hdg : decode cc pc = .ok (.getfield index, 3)) (kk : W p l e R s m args below meth c H locs cells slots Q (F0 m (pc + 3) ls (.ref (a 4) :: rest))) : W p l e R s m args below meth c H locs cells slots Q (F0 m pc ls (.ref (a 0) :: rest)) :=
  w_get (C := RX4) (T := TX4) (N := 15) (ci := 4) (q0 := 0) (k := 4) hC hK hP fi_X4 rfl rfl rfl (by decide) rfl hl hdg kk
theorem gCA_tun_5 {Z : Nat → ClassId} {a b q : Nat → Nat} {ca tp rd sp : Nat} {P : M2} {ap : Nat} {F : M2} {G : M2} {C : M2} (hC : CallFix p m c cc nL s args lw_g own) (hK : va_K D vwCl (tysG Z) s) (hP : va_P D vwCl (CA Z a b q ca tp rd sp P ap F G C) H) (hl : Cond.fieldLink own index RX4 "breath" "[I" ∈ lw_g) (hdg : decode cc pc = .ok (.getfield index, 3)) (kk : W p l e R s m args below meth c H locs cells slots Q (F0 m (pc + 3) ls (.ref (a 5) :: rest))) : W p l e R s m args below meth c H locs cells slots Q (F0 m pc ls (.ref (a 0) :: rest)) :=
  w_get (C := RX4) (T := TX4) (N := 15) (ci := 4) (q0 := 0) (k := 5) hC hK hP fi_X4 rfl rfl rfl (by decide) rfl hl hdg kk
theorem gCA_tun_6 {Z : Nat → ClassId} {a b q : Nat → Nat} {ca tp rd sp : Nat} {P : M2} {ap : Nat} {F : M2} {G : M2} {C : M2} (hC : CallFix p m c cc nL s args lw_g own) (hK : va_K D vwCl (tysG Z) s) (hP : va_P D vwCl (CA Z a b q ca tp rd sp P ap F G C) H) (hl : Cond.fieldLink own index RX4 "walk" "[I" ∈ lw_g) (hdg : decode cc pc = .ok (.getfield index, 3)) (kk : W p l e R s m args below meth c H locs cells slots Q (F0 m (pc + 3) ls (.ref (a 6) :: rest))) : W p l e R s m args below meth c H locs cells slots Q (F0 m pc ls (.ref (a 0) :: rest)) :=
  w_get (C := RX4) (T := TX4) (N := 15) (ci := 4) (q0 := 0) (k := 6) hC hK hP fi_X4 rfl rfl rfl (by decide) rfl hl hdg kk
theorem gCA_tun_7 {Z : Nat → ClassId} {a b q : Nat → Nat} {ca tp rd sp : Nat} {P : M2} {ap : Nat} {F : M2} {G : M2} {C : M2} (hC : CallFix p m c cc nL s args lw_g own) (hK : va_K D vwCl (tysG Z) s) (hP : va_P D vwCl (CA Z a b q ca tp rd sp P ap F G C) H) (hl : Cond.fieldLink own index RX4 "capPlace" "[I" ∈ lw_g) (hdg : decode cc pc = .ok (.getfield index, 3)) (kk : W p l e R s m args below meth c H locs cells slots Q (F0 m (pc + 3) ls (.ref (a 7) :: rest))) : W p l e R s m args below meth c H locs cells slots Q (F0 m pc ls (.ref (a 0) :: rest)) :=
  w_get (C := RX4) (T := TX4) (N := 15) (ci := 4) (q0 := 0) (k := 7) hC hK hP fi_X4 rfl rfl rfl (by decide) rfl hl hdg kk
theorem gCA_tun_8 {Z : Nat → ClassId} {a b q : Nat → Nat} {ca tp rd sp : Nat} {P : M2} {ap : Nat} {F : M2} {G : M2} {C : M2} (hC : CallFix p m c cc nL s args lw_g own) (hK : va_K D vwCl (tysG Z) s) (hP : va_P D vwCl (CA Z a b q ca tp rd sp P ap F G C) H) (hl : Cond.fieldLink own index RX4 "side" "[I" ∈ lw_g) (hdg : decode cc pc = .ok (.getfield index, 3)) (kk : W p l e R s m args below meth c H locs cells slots Q (F0 m (pc + 3) ls (.ref (a 8) :: rest))) : W p l e R s m args below meth c H locs cells slots Q (F0 m pc ls (.ref (a 0) :: rest)) :=
  w_get (C := RX4) (T := TX4) (N := 15) (ci := 4) (q0 := 0) (k := 8) hC hK hP fi_X4 rfl rfl rfl (by decide) rfl hl hdg kk
theorem gCA_tun_9 {Z : Nat → ClassId} {a b q : Nat → Nat} {ca tp rd sp : Nat} {P : M2} {ap : Nat} {F : M2} {G : M2} {C : M2} (hC : CallFix p m c cc nL s args lw_g own) (hK : va_K D vwCl (tysG Z) s) (hP : va_P D vwCl (CA Z a b q ca tp rd sp P ap F G C) H) (hl : Cond.fieldLink own index RX4 "due" "[I" ∈ lw_g) (hdg : decode cc pc = .ok (.getfield index, 3)) (kk : W p l e R s m args below meth c H locs cells slots Q (F0 m (pc + 3) ls (.ref (a 9) :: rest))) : W p l e R s m args below meth c H locs cells slots Q (F0 m pc ls (.ref (a 0) :: rest)) :=
  w_get (C := RX4) (T := TX4) (N := 15) (ci := 4) (q0 := 0) (k := 9) hC hK hP fi_X4 rfl rfl rfl (by decide) rfl hl hdg kk
theorem gCA_tun_10 {Z : Nat → ClassId} {a b q : Nat → Nat} {ca tp rd sp : Nat} {P : M2} {ap : Nat} {F : M2} {G : M2} {C : M2} (hC : CallFix p m c cc nL s args lw_g own) (hK : va_K D vwCl (tysG Z) s) (hP : va_P D vwCl (CA Z a b q ca tp rd sp P ap F G C) H) (hl : Cond.fieldLink own index RX4 "how" "[I" ∈ lw_g) (hdg : decode cc pc = .ok (.getfield index, 3)) (kk : W p l e R s m args below meth c H locs cells slots Q (F0 m (pc + 3) ls (.ref (a 10) :: rest))) : W p l e R s m args below meth c H locs cells slots Q (F0 m pc ls (.ref (a 0) :: rest)) :=
  w_get (C := RX4) (T := TX4) (N := 15) (ci := 4) (q0 := 0) (k := 10) hC hK hP fi_X4 rfl rfl rfl (by decide) rfl hl hdg kk
theorem gCA_tun_11 {Z : Nat → ClassId} {a b q : Nat → Nat} {ca tp rd sp : Nat} {P : M2} {ap : Nat} {F : M2} {G : M2} {C : M2} (hC : CallFix p m c cc nL s args lw_g own) (hK : va_K D vwCl (tysG Z) s) (hP : va_P D vwCl (CA Z a b q ca tp rd sp P ap F G C) H) (hl : Cond.fieldLink own index RX4 "spot" "[I" ∈ lw_g) (hdg : decode cc pc = .ok (.getfield index, 3)) (kk : W p l e R s m args below meth c H locs cells slots Q (F0 m (pc + 3) ls (.ref (a 11) :: rest))) : W p l e R s m args below meth c H locs cells slots Q (F0 m pc ls (.ref (a 0) :: rest)) :=
  w_get (C := RX4) (T := TX4) (N := 15) (ci := 4) (q0 := 0) (k := 11) hC hK hP fi_X4 rfl rfl rfl (by decide) rfl hl hdg kk
theorem gCA_tun_12 {Z : Nat → ClassId} {a b q : Nat → Nat} {ca tp rd sp : Nat} {P : M2} {ap : Nat} {F : M2} {G : M2} {C : M2} (hC : CallFix p m c cc nL s args lw_g own) (hK : va_K D vwCl (tysG Z) s) (hP : va_P D vwCl (CA Z a b q ca tp rd sp P ap F G C) H) (hl : Cond.fieldLink own index RX4 "pushed" "[I" ∈ lw_g) (hdg : decode cc pc = .ok (.getfield index, 3)) (kk : W p l e R s m args below meth c H locs cells slots Q (F0 m (pc + 3) ls (.ref (a 12) :: rest))) : W p l e R s m args below meth c H locs cells slots Q (F0 m pc ls (.ref (a 0) :: rest)) :=
  w_get (C := RX4) (T := TX4) (N := 15) (ci := 4) (q0 := 0) (k := 12) hC hK hP fi_X4 rfl rfl rfl (by decide) rfl hl hdg kk
theorem gCA_tun_13 {Z : Nat → ClassId} {a b q : Nat → Nat} {ca tp rd sp : Nat} {P : M2} {ap : Nat} {F : M2} {G : M2} {C : M2} (hC : CallFix p m c cc nL s args lw_g own) (hK : va_K D vwCl (tysG Z) s) (hP : va_P D vwCl (CA Z a b q ca tp rd sp P ap F G C) H) (hl : Cond.fieldLink own index RX4 "outMinute" "[I" ∈ lw_g) (hdg : decode cc pc = .ok (.getfield index, 3)) (kk : W p l e R s m args below meth c H locs cells slots Q (F0 m (pc + 3) ls (.ref (a 13) :: rest))) : W p l e R s m args below meth c H locs cells slots Q (F0 m pc ls (.ref (a 0) :: rest)) :=
  w_get (C := RX4) (T := TX4) (N := 15) (ci := 4) (q0 := 0) (k := 13) hC hK hP fi_X4 rfl rfl rfl (by decide) rfl hl hdg kk
theorem pCA_Atun_2 {Z : Nat → ClassId} {a b q : Nat → Nat} {ca tp rd sp : Nat} {P : M2} {ap : Nat} {F : M2} {G : M2} {C : M2} {x : Int32} (hC : CallFix p m c cc nL s args lw_g own) (hK : va_K D vwCl (tysG Z) s) (hT : TS vwCl D (CA Z a b q ca tp rd sp P ap F G C) A H0 H locs) (hl : Cond.fieldLink own index RX4 "turn" "I" ∈ lw_g) (hdg : decode cc pc = .ok (.putfield index, 3)) (kk : ∀ (G1 : M2), G1 = up2 G 2 (fun _ => x) → ∀ (H1 : Heap) (locs1 : List Loc), TS vwCl D (CA Z a b q ca tp rd sp P ap F G1 C) A H0 H1 locs1 → W p l e R s m args below meth c H1 locs1 cells slots Q (F0 m (pc + 3) ls rest)) : W p l e R s m args below meth c H locs cells slots Q (F0 m pc ls (.int x :: .ref (b 0) :: rest)) :=
  w_put (C := RX4) (T := TX4) (N := 15) (ci := 4) (q0 := 33) (k := 2) (ty0 := tyX4) (ty := .int) (ws' := (CA Z a b q ca tp rd sp P ap F (up2 G 2 (fun _ => x)) C)) hC hK hT fi_X4 tyX4_ok nmX4 rfl rfl (by decide) rfl rfl rfl rfl rfl (Nat.le_of_ble_eq_true rfl) rfl hl hdg (fun H1 locs1 hT1 => kk _ rfl H1 locs1 hT1)
theorem pCA_Atun_3 {Z : Nat → ClassId} {a b q : Nat → Nat} {ca tp rd sp : Nat} {P : M2} {ap : Nat} {F : M2} {G : M2} {C : M2} {x : Int32} (hC : CallFix p m c cc nL s args lw_g own) (hK : va_K D vwCl (tysG Z) s) (hT : TS vwCl D (CA Z a b q ca tp rd sp P ap F G C) A H0 H locs) (hl : Cond.fieldLink own index RX4 "idle" "I" ∈ lw_g) (hdg : decode cc pc = .ok (.putfield index, 3)) (kk : ∀ (G1 : M2), G1 = up2 G 3 (fun _ => x) → ∀ (H1 : Heap) (locs1 : List Loc), TS vwCl D (CA Z a b q ca tp rd sp P ap F G1 C) A H0 H1 locs1 → W p l e R s m args below meth c H1 locs1 cells slots Q (F0 m (pc + 3) ls rest)) : W p l e R s m args below meth c H locs cells slots Q (F0 m pc ls (.int x :: .ref (b 0) :: rest)) :=
  w_put (C := RX4) (T := TX4) (N := 15) (ci := 4) (q0 := 33) (k := 3) (ty0 := tyX4) (ty := .int) (ws' := (CA Z a b q ca tp rd sp P ap F (up2 G 3 (fun _ => x)) C)) hC hK hT fi_X4 tyX4_ok nmX4 rfl rfl (by decide) rfl rfl rfl rfl rfl (Nat.le_of_ble_eq_true rfl) rfl hl hdg (fun H1 locs1 hT1 => kk _ rfl H1 locs1 hT1)
theorem pCA_tun_2 {Z : Nat → ClassId} {a b q : Nat → Nat} {ca tp rd sp : Nat} {P : M2} {ap : Nat} {F : M2} {G : M2} {C : M2} {x : Int32} (hC : CallFix p m c cc nL s args lw_g own) (hK : va_K D vwCl (tysG Z) s) (hT : TS vwCl D (CA Z a b q ca tp rd sp P ap F G C) A H0 H locs) (hl : Cond.fieldLink own index RX4 "turn" "I" ∈ lw_g) (hdg : decode cc pc = .ok (.putfield index, 3)) (kk : ∀ (F1 : M2), F1 = up2 F 2 (fun _ => x) → ∀ (H1 : Heap) (locs1 : List Loc), TS vwCl D (CA Z a b q ca tp rd sp P ap F1 G C) A H0 H1 locs1 → W p l e R s m args below meth c H1 locs1 cells slots Q (F0 m (pc + 3) ls rest)) : W p l e R s m args below meth c H locs cells slots Q (F0 m pc ls (.int x :: .ref (a 0) :: rest)) :=
  w_put (C := RX4) (T := TX4) (N := 15) (ci := 4) (q0 := 0) (k := 2) (ty0 := tyX4) (ty := .int) (ws' := (CA Z a b q ca tp rd sp P ap (up2 F 2 (fun _ => x)) G C)) hC hK hT fi_X4 tyX4_ok nmX4 rfl rfl (by decide) rfl rfl rfl rfl rfl (Nat.le_of_ble_eq_true rfl) rfl hl hdg (fun H1 locs1 hT1 => kk _ rfl H1 locs1 hT1)
theorem uSCA_Tair {Z : Nat → ClassId} {a b q : Nat → Nat} {ca tp rd sp : Nat} {P : M2} {ap : Nat} {F : M2} {G : M2} {C : M2} {i : Int32} {x : Int32} (hC : CallFix p m c cc nL s args lw_g own) (hN : NW s) (hK : va_K D vwCl (tysG Z) s) (hT : TS vwCl D (CA Z a b q ca tp rd sp P ap F G C) A H0 H locs) (hl : Cond.methodLink own index yX5_put ∈ lw_g) (hlt : 0 < rn) (hsize : ls.size = nL) (hW : (rest.map fun v => v.category).sum ≤ 8) (hf : cells + 0 ≤ mcR ∧ slots + 0 ≤ msR) (hdg : decode cc pc = .ok (.invokestatic index, 3)) (kk : ∀ (F1 : M2), F1 = up2 F 4 (putv (F 4) 60 i x) → ∀ (H1 : Heap) (locs1 : List Loc), TS vwCl D (CA Z a b q ca tp rd sp P ap F1 G C) A H0 H1 locs1 → W p l e (rk rn mcR msR) s m args below meth c H1 locs1 cells slots Q (F0 m (pc + 3) ls rest)) : W p l e (rk rn mcR msR) s m args below meth c H locs cells slots Q (F0 m pc ls (.int x :: .int i :: .ref (a 4) :: rest)) :=
  w_puS (q0 := 1) (ws' := (CA Z a b q ca tp rd sp P ap (up2 F 4 (putv (F 4) 60 i x)) G C)) hC hN hK hT hl rfl rfl (by decide) hlt hsize hW hf hdg (fun H1 locs1 hT1 => kk _ rfl H1 locs1 hT1)
theorem uSCA_TcapPlace {Z : Nat → ClassId} {a b q : Nat → Nat} {ca tp rd sp : Nat} {P : M2} {ap : Nat} {F : M2} {G : M2} {C : M2} {i : Int32} {x : Int32} (hC : CallFix p m c cc nL s args lw_g own) (hN : NW s) (hK : va_K D vwCl (tysG Z) s) (hT : TS vwCl D (CA Z a b q ca tp rd sp P ap F G C) A H0 H locs) (hl : Cond.methodLink own index yX5_put ∈ lw_g) (hlt : 0 < rn) (hsize : ls.size = nL) (hW : (rest.map fun v => v.category).sum ≤ 8) (hf : cells + 0 ≤ mcR ∧ slots + 0 ≤ msR) (hdg : decode cc pc = .ok (.invokestatic index, 3)) (kk : ∀ (F1 : M2), F1 = up2 F 7 (putv (F 7) 6 i x) → ∀ (H1 : Heap) (locs1 : List Loc), TS vwCl D (CA Z a b q ca tp rd sp P ap F1 G C) A H0 H1 locs1 → W p l e (rk rn mcR msR) s m args below meth c H1 locs1 cells slots Q (F0 m (pc + 3) ls rest)) : W p l e (rk rn mcR msR) s m args below meth c H locs cells slots Q (F0 m pc ls (.int x :: .int i :: .ref (a 7) :: rest)) :=
  w_puS (q0 := 4) (ws' := (CA Z a b q ca tp rd sp P ap (up2 F 7 (putv (F 7) 6 i x)) G C)) hC hN hK hT hl rfl rfl (by decide) hlt hsize hW hf hdg (fun H1 locs1 hT1 => kk _ rfl H1 locs1 hT1)
end ROWSX5
set_option maxRecDepth 100000 in
theorem sx_TWCA (Z : Nat → ClassId) (a b q : Nat → Nat) (ca tp rd sp : Nat) (P : M2) (ap : Nat) (F : M2) (G : M2) (C : M2) : ([0, 1, 2, 3, 4, 5, 6, 7, 8, 9, 10, 11, 12, 13, 14, 15, 16, 17, 18, 19, 20, 21, 22, 23, 24, 25, 26, 27, 28, 29, 30, 31, 32] : List Nat).map (fun i => (CA Z a b q ca tp rd sp P ap F G C)[i]?) = (TW Z a q P F).map some := rfl
set_option maxRecDepth 100000 in
theorem cx_TWCA (Z : Nat → ClassId) (a b q : Nat → Nat) (ca tp rd sp : Nat) (P : M2) (ap : Nat) (F : M2) (G : M2) (C : M2) : Cut (CA Z a b q ca tp rd sp P ap F G C) (TW Z a q P) F [(b 0, .inr (4, [.ref ap, .int (G 1 0), .int (G 2 0), .int (G 3 0), .ref (b 4), .ref (b 5), .ref (b 6), .ref (b 7), .ref (b 8), .ref (b 9), .ref (b 10), .ref (b 11), .ref (b 12), .ref (b 13), .ref (b 14)])), (b 4, .inl (Z 0, 60, .inl (G 4))), (b 5, .inl (Z 0, 6, .inl (G 5))), (b 6, .inl (Z 0, 6, .inl (G 6))), (b 7, .inl (Z 0, 6, .inl (G 7))), (b 8, .inl (Z 0, 8, .inl (G 8))), (b 9, .inl (Z 0, 8, .inl (G 9))), (b 10, .inl (Z 0, 8, .inl (G 10))), (b 11, .inl (Z 0, 8, .inl (G 11))), (b 12, .inl (Z 0, 8, .inl (G 12))), (b 13, .inl (Z 0, 8, .inl (G 13))), (b 14, .inl (Z 0, 400, .inl (G 14))), (ca, .inr (5, [.ref tp, .int (C 91 0), .int (C 92 0), .ref rd, .ref sp, .ref (a 0), .ref (b 0)]))] [0, 1, 2, 3, 4, 5, 6, 7, 8, 9, 10, 11, 12, 13, 14, 15, 16, 17, 18, 19, 20, 21, 22, 23, 24, 25, 26, 27, 28, 29, 30, 31, 32] [33, 34, 35, 36, 37, 38, 39, 40, 41, 42, 43, 44, 45] [13, 14, 15, 16, 17, 18, 19, 20, 21, 22, 23, 24, 25, 26, 27, 28, 29, 30, 31, 32, 33, 34, 35, 36, 37, 38, 39, 40, 41, 42, 43, 44, 45, 0, 1, 2, 3, 4, 5, 6, 7, 8, 9, 10, 11, 12] (fun u : M2 => (CA Z a b q ca tp rd sp P ap u G C)) := ⟨rfl, rfl, rfl, by decide, rfl, fun _ => rfl⟩
set_option maxRecDepth 100000 in
theorem sx_TWCAa (Z : Nat → ClassId) (a b q : Nat → Nat) (ca tp rd sp : Nat) (P : M2) (F : M2) (G : M2) (C : M2) : ([33, 34, 35, 36, 37, 38, 39, 40, 41, 42, 43, 44, 12, 13, 14, 15, 16, 17, 18, 19, 20, 21, 22, 23, 24, 25, 26, 27, 28, 29, 30, 31, 32] : List Nat).map (fun i => (CA Z a b q ca tp rd sp P (q 20) F G C)[i]?) = (TW Z b q P G).map some := rfl
set_option maxRecDepth 100000 in
theorem cx_TWCAa (Z : Nat → ClassId) (a b q : Nat → Nat) (ca tp rd sp : Nat) (P : M2) (F : M2) (G : M2) (C : M2) : Cut (CA Z a b q ca tp rd sp P (q 20) F G C) (TW Z b q P) G [(a 0, .inr (4, [.ref (q 20), .int (F 1 0), .int (F 2 0), .int (F 3 0), .ref (a 4), .ref (a 5), .ref (a 6), .ref (a 7), .ref (a 8), .ref (a 9), .ref (a 10), .ref (a 11), .ref (a 12), .ref (a 13), .ref (a 14)])), (a 4, .inl (Z 0, 60, .inl (F 4))), (a 5, .inl (Z 0, 6, .inl (F 5))), (a 6, .inl (Z 0, 6, .inl (F 6))), (a 7, .inl (Z 0, 6, .inl (F 7))), (a 8, .inl (Z 0, 8, .inl (F 8))), (a 9, .inl (Z 0, 8, .inl (F 9))), (a 10, .inl (Z 0, 8, .inl (F 10))), (a 11, .inl (Z 0, 8, .inl (F 11))), (a 12, .inl (Z 0, 8, .inl (F 12))), (a 13, .inl (Z 0, 8, .inl (F 13))), (a 14, .inl (Z 0, 400, .inl (F 14))), (ca, .inr (5, [.ref tp, .int (C 91 0), .int (C 92 0), .ref rd, .ref sp, .ref (a 0), .ref (b 0)]))] [33, 34, 35, 36, 37, 38, 39, 40, 41, 42, 43, 44, 12, 13, 14, 15, 16, 17, 18, 19, 20, 21, 22, 23, 24, 25, 26, 27, 28, 29, 30, 31, 32] [0, 1, 2, 3, 4, 5, 6, 7, 8, 9, 10, 11, 45] [0, 1, 2, 3, 4, 5, 6, 7, 8, 9, 10, 11, 25, 26, 27, 28, 29, 30, 31, 32, 33, 34, 35, 36, 37, 38, 39, 40, 41, 42, 43, 44, 45, 13, 14, 15, 16, 17, 18, 19, 20, 21, 22, 23, 24, 12] (fun u : M2 => (CA Z a b q ca tp rd sp P (q 20) F u C)) := ⟨rfl, rfl, rfl, by decide, rfl, fun _ => rfl⟩
set_option maxRecDepth 100000 in
theorem sx_TTCA (Z : Nat → ClassId) (a b q : Nat → Nat) (ca tp rd sp : Nat) (P : M2) (ap : Nat) (F : M2) (G : M2) (C : M2) : ([33, 34, 35, 36, 37, 38, 39, 40, 41, 42, 43, 44, 0, 1, 2, 3, 4, 5, 6, 7, 8, 9, 10, 11] : List Nat).map (fun i => (CA Z a b q ca tp rd sp P ap F G C)[i]?) = (TT Z b a q F ap G).map some := rfl
set_option maxRecDepth 100000 in
theorem cx_TTCA (Z : Nat → ClassId) (a b q : Nat → Nat) (ca tp rd sp : Nat) (P : M2) (ap : Nat) (F : M2) (G : M2) (C : M2) : Cut (CA Z a b q ca tp rd sp P ap F G C) (fun u : Nat × M2 => TT Z b a q F u.1 u.2) (ap, G) [(q 20, .inr (1, [.int (P 20 0), .int (P 21 0), .int (P 22 0), .int (P 23 0), .int (P 24 0), .ref (q 25), .ref (q 26), .ref (q 27), .ref (q 28), .ref (q 29), .ref (q 30), .ref (q 31), .ref (q 32), .ref (q 33), .ref (q 34), .ref (q 35), .ref (q 36), .ref (q 37), .ref (q 40)])), (q 25, .inl (Z 0, 5, .inl (P 25))), (q 26, .inl (Z 0, 5, .inl (P 26))), (q 27, .inl (Z 0, 5, .inl (P 27))), (q 28, .inl (Z 0, 60, .inl (P 28))), (q 29, .inl (Z 0, 4, .inl (P 29))), (q 30, .inl (Z 0, 4, .inl (P 30))), (q 31, .inl (Z 0, 6, .inl (P 31))), (q 32, .inl (Z 0, 6, .inl (P 32))), (q 33, .inl (Z 0, 8, .inl (P 33))), (q 34, .inl (Z 0, 8, .inl (P 34))), (q 35, .inl (Z 0, 8, .inl (P 35))), (q 36, .inl (Z 0, 8, .inl (P 36))), (q 37, .inl (Z 0, 8, .inl (P 37))), (q 40, .inr (0, [.int (P 40 0), .ref (q 41), .ref (q 42), .ref (q 43), .ref (q 44), .int (P 45 0), .ref (q 46), .ref (q 47)])), (q 41, .inl (Z 0, 16, .inl (P 41))), (q 42, .inl (Z 0, 16, .inl (P 42))), (q 43, .inl (Z 0, 16, .inl (P 43))), (q 44, .inl (Z 0, 16, .inl (P 44))), (q 46, .inl (Z 0, 400, .inl (P 46))), (q 47, .inl (Z 0, 400, .inl (P 47))), (ca, .inr (5, [.ref tp, .int (C 91 0), .int (C 92 0), .ref rd, .ref sp, .ref (a 0), .ref (b 0)]))] [33, 34, 35, 36, 37, 38, 39, 40, 41, 42, 43, 44, 0, 1, 2, 3, 4, 5, 6, 7, 8, 9, 10, 11] [12, 13, 14, 15, 16, 17, 18, 19, 20, 21, 22, 23, 24, 25, 26, 27, 28, 29, 30, 31, 32, 45] [34, 35, 36, 37, 38, 39, 40, 41, 42, 43, 44, 45, 0, 1, 2, 3, 4, 5, 6, 7, 8, 9, 10, 11, 12, 13, 14, 15, 16, 17, 18, 19, 20, 22, 23, 24, 25, 26, 27, 28, 29, 30, 31, 32, 33, 21] (fun u : Nat × M2 => (CA Z a b q ca tp rd sp P u.1 F u.2 C)) := ⟨rfl, rfl, rfl, by decide, rfl, fun _ => rfl⟩
section LX4_airOfBore0x
variable {p : Program} {l : Launch} {e : Env} {s : State} {m : MethodId} {args : Array Value} {below : List Frame} {meth : Method} {c : Code} {H H0 : Heap} {locs : List Loc} {cells slots : Nat} {Q : State → Prop} {R : Room} {rn mcR msR : Nat}
variable {pc : Nat} {ls : Array Slot} {rest : List Value} {A : Nat → Prop} {D : va_G}
variable {cc : ByteArray} {nL index : Nat} {own host : String}
theorem kx_X4_airOfBore {Z : Nat → ClassId} {a q : Nat → Nat} {P : M2} {F : M2} {x1 : Int32} {K : Int32 → Prop} {ws : va_W} {isC : List Nat} (hC : CallFix p m c cc nL s args lw_g own) (hN : NW s) (hK : va_K D vwCl (tysG Z) s) (hP : va_P D vwCl ws H) (hD : va_D (fun _ => True) ws) (hs : isC.map (fun i => ws[i]?) = (TW Z a q P F).map some) (hnd : va_nd isC = true) (hm : wp_X4_airOfBore P F x1 K) (hl : Cond.methodLink own index yX4_airOfBore ∈ lw_g) (hlt : 2 < rn) (hsize : ls.size = nL) (hW : (rest.map fun v => v.category).sum ≤ 8) (hf : cells + 0 ≤ mcR ∧ slots + 0 ≤ msR) (hdg : decode cc pc = .ok (.invokevirtual index, 3)) (kk : ∀ r : Int32, K r → W p l e (rk rn mcR msR) s m args below meth c H locs cells slots Q (F0 m (pc + 3) ls (.int r :: rest))) : W p l e (rk rn mcR msR) s m args below meth c H locs cells slots Q (F0 m pc ls (.int x1 :: .ref (a 0) :: rest)) :=
  ro_go (runV (As := [.int x1]) hC hN (c_X4_airOfBore l D Z a q P F H.size x1 K hm) mi_X4_airOfBore hl wq_620 wq_621 hlt (hP.sub isC (map_fm hs)) (hD.sub isC hnd hs) hK (q0 := 0) rfl rfl rfl hsize rfl hW hdg hf) kk
end LX4_airOfBore0x
section LX4_capsAt0x
variable {p : Program} {l : Launch} {e : Env} {s : State} {m : MethodId} {args : Array Value} {below : List Frame} {meth : Method} {c : Code} {H H0 : Heap} {locs : List Loc} {cells slots : Nat} {Q : State → Prop} {R : Room} {rn mcR msR : Nat}
variable {pc : Nat} {ls : Array Slot} {rest : List Value} {A : Nat → Prop} {D : va_G}
variable {cc : ByteArray} {nL index : Nat} {own host : String}
theorem kx_X4_capsAt {Z : Nat → ClassId} {a q : Nat → Nat} {P : M2} {F : M2} {x1 : Int32} {K : Int32 → Prop} {ws : va_W} {isC : List Nat} (hC : CallFix p m c cc nL s args lw_g own) (hN : NW s) (hK : va_K D vwCl (tysG Z) s) (hP : va_P D vwCl ws H) (hD : va_D (fun _ => True) ws) (hs : isC.map (fun i => ws[i]?) = (TW Z a q P F).map some) (hnd : va_nd isC = true) (hm : wp_X4_capsAt P F x1 K) (hl : Cond.methodLink own index yX4_capsAt ∈ lw_g) (hlt : 1 < rn) (hsize : ls.size = nL) (hW : (rest.map fun v => v.category).sum ≤ 8) (hf : cells + 0 ≤ mcR ∧ slots + 0 ≤ msR) (hdg : decode cc pc = .ok (.invokevirtual index, 3)) (kk : ∀ r : Int32, K r → W p l e (rk rn mcR msR) s m args below meth c H locs cells slots Q (F0 m (pc + 3) ls (.int r :: rest))) : W p l e (rk rn mcR msR) s m args below meth c H locs cells slots Q (F0 m pc ls (.int x1 :: .ref (a 0) :: rest)) :=
  ro_go (runV (As := [.int x1]) hC hN (c_X4_capsAt l D Z a q P F H.size x1 K hm) mi_X4_capsAt hl wq_607 wq_608 hlt (hP.sub isC (map_fm hs)) (hD.sub isC hnd hs) hK (q0 := 0) rfl rfl rfl hsize rfl hW hdg hf) kk
end LX4_capsAt0x
section LX4_boatAt0x
variable {p : Program} {l : Launch} {e : Env} {s : State} {m : MethodId} {args : Array Value} {below : List Frame} {meth : Method} {c : Code} {H H0 : Heap} {locs : List Loc} {cells slots : Nat} {Q : State → Prop} {R : Room} {rn mcR msR : Nat}
variable {pc : Nat} {ls : Array Slot} {rest : List Value} {A : Nat → Prop} {D : va_G}
variable {cc : ByteArray} {nL index : Nat} {own host : String}
theorem kx_X4_boatAt {Z : Nat → ClassId} {a q : Nat → Nat} {P : M2} {F : M2} {x1 : Int32} {K : Int32 → Prop} {ws : va_W} {isC : List Nat} (hC : CallFix p m c cc nL s args lw_g own) (hN : NW s) (hK : va_K D vwCl (tysG Z) s) (hP : va_P D vwCl ws H) (hD : va_D (fun _ => True) ws) (hs : isC.map (fun i => ws[i]?) = (TW Z a q P F).map some) (hnd : va_nd isC = true) (hm : wp_X4_boatAt P F x1 K) (hl : Cond.methodLink own index yX4_boatAt ∈ lw_g) (hlt : 1 < rn) (hsize : ls.size = nL) (hW : (rest.map fun v => v.category).sum ≤ 8) (hf : cells + 0 ≤ mcR ∧ slots + 0 ≤ msR) (hdg : decode cc pc = .ok (.invokevirtual index, 3)) (kk : ∀ r : Int32, K r → W p l e (rk rn mcR msR) s m args below meth c H locs cells slots Q (F0 m (pc + 3) ls (.int r :: rest))) : W p l e (rk rn mcR msR) s m args below meth c H locs cells slots Q (F0 m pc ls (.int x1 :: .ref (a 0) :: rest)) :=
  ro_go (runV (As := [.int x1]) hC hN (c_X4_boatAt l D Z a q P F H.size x1 K hm) mi_X4_boatAt hl wq_611 wq_612 hlt (hP.sub isC (map_fm hs)) (hD.sub isC hnd hs) hK (q0 := 0) rfl rfl rfl hsize rfl hW hdg hf) kk
end LX4_boatAt0x
section LX4_boatOf0x
variable {p : Program} {l : Launch} {e : Env} {s : State} {m : MethodId} {args : Array Value} {below : List Frame} {meth : Method} {c : Code} {H H0 : Heap} {locs : List Loc} {cells slots : Nat} {Q : State → Prop} {R : Room} {rn mcR msR : Nat}
variable {pc : Nat} {ls : Array Slot} {rest : List Value} {A : Nat → Prop} {D : va_G}
variable {cc : ByteArray} {nL index : Nat} {own host : String}
theorem kx_X4_boatOf {Z : Nat → ClassId} {a q : Nat → Nat} {P : M2} {F : M2} {x1 : Int32} {K : Int32 → Prop} {ws : va_W} {isC : List Nat} (hC : CallFix p m c cc nL s args lw_g own) (hN : NW s) (hK : va_K D vwCl (tysG Z) s) (hP : va_P D vwCl ws H) (hD : va_D (fun _ => True) ws) (hs : isC.map (fun i => ws[i]?) = (TW Z a q P F).map some) (hnd : va_nd isC = true) (hm : wp_X4_boatOf P F x1 K) (hl : Cond.methodLink own index yX4_boatOf ∈ lw_g) (hlt : 2 < rn) (hsize : ls.size = nL) (hW : (rest.map fun v => v.category).sum ≤ 8) (hf : cells + 0 ≤ mcR ∧ slots + 0 ≤ msR) (hdg : decode cc pc = .ok (.invokevirtual index, 3)) (kk : ∀ r : Int32, K r → W p l e (rk rn mcR msR) s m args below meth c H locs cells slots Q (F0 m (pc + 3) ls (.int r :: rest))) : W p l e (rk rn mcR msR) s m args below meth c H locs cells slots Q (F0 m pc ls (.int x1 :: .ref (a 0) :: rest)) :=
  ro_go (runV (As := [.int x1]) hC hN (c_X4_boatOf l D Z a q P F H.size x1 K hm) mi_X4_boatOf hl wq_629 wq_630 hlt (hP.sub isC (map_fm hs)) (hD.sub isC hnd hs) hK (q0 := 0) rfl rfl rfl hsize rfl hW hdg hf) kk
end LX4_boatOf0x
section LX4_tally0x
variable {p : Program} {l : Launch} {e : Env} {s : State} {m : MethodId} {args : Array Value} {below : List Frame} {meth : Method} {c : Code} {H H0 : Heap} {locs : List Loc} {cells slots : Nat} {Q : State → Prop} {R : Room} {rn mcR msR : Nat}
variable {pc : Nat} {ls : Array Slot} {rest : List Value} {A : Nat → Prop} {D : va_G}
variable {cc : ByteArray} {nL index : Nat} {own host : String}
theorem kx_X4_tally {Z : Nat → ClassId} {a q : Nat → Nat} {P : M2} {F : M2} {x1 : Int32} {K : Int32 → Prop} {ws : va_W} {isC : List Nat} (hC : CallFix p m c cc nL s args lw_g own) (hN : NW s) (hK : va_K D vwCl (tysG Z) s) (hP : va_P D vwCl ws H) (hD : va_D (fun _ => True) ws) (hs : isC.map (fun i => ws[i]?) = (TW Z a q P F).map some) (hnd : va_nd isC = true) (hm : wp_X4_tally P F x1 K) (hl : Cond.methodLink own index yX4_tally ∈ lw_g) (hlt : 2 < rn) (hsize : ls.size = nL) (hW : (rest.map fun v => v.category).sum ≤ 8) (hf : cells + 0 ≤ mcR ∧ slots + 0 ≤ msR) (hdg : decode cc pc = .ok (.invokevirtual index, 3)) (kk : ∀ r : Int32, K r → W p l e (rk rn mcR msR) s m args below meth c H locs cells slots Q (F0 m (pc + 3) ls (.int r :: rest))) : W p l e (rk rn mcR msR) s m args below meth c H locs cells slots Q (F0 m pc ls (.int x1 :: .ref (a 0) :: rest)) :=
  ro_go (runV (As := [.int x1]) hC hN (c_X4_tally l D Z a q P F H.size x1 K hm) mi_X4_tally hl wq_512 wq_513 hlt (hP.sub isC (map_fm hs)) (hD.sub isC hnd hs) hK (q0 := 0) rfl rfl rfl hsize rfl hW hdg hf) kk
end LX4_tally0x
section LX4_sendBack0x
variable {p : Program} {l : Launch} {e : Env} {s : State} {m : MethodId} {args : Array Value} {below : List Frame} {meth : Method} {c : Code} {H H0 : Heap} {locs : List Loc} {cells slots : Nat} {Q : State → Prop} {R : Room} {rn mcR msR : Nat}
variable {pc : Nat} {ls : Array Slot} {rest : List Value} {A : Nat → Prop} {D : va_G}
variable {cc : ByteArray} {nL index : Nat} {own host : String}
theorem kx_X4_sendBack {Z : Nat → ClassId} {a q : Nat → Nat} {P : M2} {F : M2} {x1 : Int32} {x2 : Int32} {K : M2 → Prop} {ws wr : va_W} {isC isR pm : List Nat} {ws' : M2 → va_W} (hC : CallFix p m c cc nL s args lw_g own) (hN : NW s) (hK : va_K D vwCl (tysG Z) s) (hT : TS vwCl D ws A H0 H locs) (hc : Cut ws (TW Z a q P) F wr isC isR pm ws') (hnd : va_nd isC = true) (hm : wp_X4_sendBack P F x1 x2 K) (hl : Cond.methodLink own index yX4_sendBack ∈ lw_g) (hlt : 2 < rn) (hsize : ls.size = nL) (hW : (rest.map fun v => v.category).sum ≤ 8) (hf : cells + 0 ≤ mcR ∧ slots + 0 ≤ msR) (hdg : decode cc pc = .ok (.invokevirtual index, 3)) (kk : ∀ (F1 : M2) (H1 : Heap) (locs1 : List Loc), K F1 → TS vwCl D (ws' F1) A H0 H1 locs1 → W p l e (rk rn mcR msR) s m args below meth c H1 locs1 cells slots Q (F0 m (pc + 3) ls (rest))) : W p l e (rk rn mcR msR) s m args below meth c H locs cells slots Q (F0 m pc ls (.int x2 :: .int x1 :: .ref (a 0) :: rest)) :=
  rwv_go (wsF := (TW Z a q P)) (u0 := F) (wr := wr) (isC := isC) (isR := isR) (pm := pm) (ws' := ws') (runV (As := [.int x1, .int x2]) hC hN (c_X4_sendBack l D Z a q P F H.size x1 x2 K hm) mi_X4_sendBack hl wq_1482 wq_1483 hlt (hT.1.sub isC (map_fm hc.1)) (hT.D'.sub isC hnd hc.1) hK (q0 := 0) rfl rfl rfl hsize rfl hW hdg hf) hc hT (fun u H1 locs1 hk hT1 => kk u H1 locs1 hk hT1)
end LX4_sendBack0x
section LX4_goesIn0x
variable {p : Program} {l : Launch} {e : Env} {s : State} {m : MethodId} {args : Array Value} {below : List Frame} {meth : Method} {c : Code} {H H0 : Heap} {locs : List Loc} {cells slots : Nat} {Q : State → Prop} {R : Room} {rn mcR msR : Nat}
variable {pc : Nat} {ls : Array Slot} {rest : List Value} {A : Nat → Prop} {D : va_G}
variable {cc : ByteArray} {nL index : Nat} {own host : String}
theorem kx_X4_goesIn {Z : Nat → ClassId} {a q : Nat → Nat} {P : M2} {F : M2} {x1 : Int32} {K : Int32 → M2 → Prop} {ws wr : va_W} {isC isR pm : List Nat} {ws' : M2 → va_W} (hC : CallFix p m c cc nL s args lw_g own) (hN : NW s) (hK : va_K D vwCl (tysG Z) s) (hT : TS vwCl D ws A H0 H locs) (hc : Cut ws (TW Z a q P) F wr isC isR pm ws') (hnd : va_nd isC = true) (hm : wp_X4_goesIn P F x1 K) (hl : Cond.methodLink own index yX4_goesIn ∈ lw_g) (hlt : 5 < rn) (hsize : ls.size = nL) (hW : (rest.map fun v => v.category).sum ≤ 8) (hf : cells + 0 ≤ mcR ∧ slots + 0 ≤ msR) (hdg : decode cc pc = .ok (.invokevirtual index, 3)) (kk : ∀ (r : Int32) (F1 : M2) (H1 : Heap) (locs1 : List Loc), K r F1 → TS vwCl D (ws' F1) A H0 H1 locs1 → W p l e (rk rn mcR msR) s m args below meth c H1 locs1 cells slots Q (F0 m (pc + 3) ls (.int r :: rest))) : W p l e (rk rn mcR msR) s m args below meth c H locs cells slots Q (F0 m pc ls (.int x1 :: .ref (a 0) :: rest)) :=
  rw_go (wsF := (TW Z a q P)) (u0 := F) (wr := wr) (isC := isC) (isR := isR) (pm := pm) (ws' := ws') (runV (As := [.int x1]) hC hN (c_X4_goesIn l D Z a q P F H.size x1 K hm) mi_X4_goesIn hl wq_652 wq_653 hlt (hT.1.sub isC (map_fm hc.1)) (hT.D'.sub isC hnd hc.1) hK (q0 := 0) rfl rfl rfl hsize rfl hW hdg hf) hc hT (fun r u H1 locs1 hk hT1 => kk r u H1 locs1 hk hT1)
end LX4_goesIn0x
section LX4_run0x
variable {p : Program} {l : Launch} {e : Env} {s : State} {m : MethodId} {args : Array Value} {below : List Frame} {meth : Method} {c : Code} {H H0 : Heap} {locs : List Loc} {cells slots : Nat} {Q : State → Prop} {R : Room} {rn mcR msR : Nat}
variable {pc : Nat} {ls : Array Slot} {rest : List Value} {A : Nat → Prop} {D : va_G}
variable {cc : ByteArray} {nL index : Nat} {own host : String}
theorem kx_X4_run {Z : Nat → ClassId} {a q : Nat → Nat} {P : M2} {F : M2} {x1 : Int32} {K : M2 → Prop} {ws wr : va_W} {isC isR pm : List Nat} {ws' : M2 → va_W} (hC : CallFix p m c cc nL s args lw_g own) (hN : NW s) (hK : va_K D vwCl (tysG Z) s) (hT : TS vwCl D ws A H0 H locs) (hc : Cut ws (TW Z a q P) F wr isC isR pm ws') (hnd : va_nd isC = true) (hm : wp_X4_run P F x1 K) (hl : Cond.methodLink own index yX4_run ∈ lw_g) (hlt : 6 < rn) (hsize : ls.size = nL) (hW : (rest.map fun v => v.category).sum ≤ 8) (hf : cells + 0 ≤ mcR ∧ slots + 0 ≤ msR) (hdg : decode cc pc = .ok (.invokevirtual index, 3)) (kk : ∀ (F1 : M2) (H1 : Heap) (locs1 : List Loc), K F1 → TS vwCl D (ws' F1) A H0 H1 locs1 → W p l e (rk rn mcR msR) s m args below meth c H1 locs1 cells slots Q (F0 m (pc + 3) ls (rest))) : W p l e (rk rn mcR msR) s m args below meth c H locs cells slots Q (F0 m pc ls (.int x1 :: .ref (a 0) :: rest)) :=
  rwv_go (wsF := (TW Z a q P)) (u0 := F) (wr := wr) (isC := isC) (isR := isR) (pm := pm) (ws' := ws') (runV (As := [.int x1]) hC hN (c_X4_run l D Z a q P F H.size x1 K hm) mi_X4_run hl wq_729 wq_730 hlt (hT.1.sub isC (map_fm hc.1)) (hT.D'.sub isC hnd hc.1) hK (q0 := 0) rfl rfl rfl hsize rfl hW hdg hf) hc hT (fun u H1 locs1 hk hT1 => kk u H1 locs1 hk hT1)
end LX4_run0x
section LX4_copyFrom0x
variable {p : Program} {l : Launch} {e : Env} {s : State} {m : MethodId} {args : Array Value} {below : List Frame} {meth : Method} {c : Code} {H H0 : Heap} {locs : List Loc} {cells slots : Nat} {Q : State → Prop} {R : Room} {rn mcR msR : Nat}
variable {pc : Nat} {ls : Array Slot} {rest : List Value} {A : Nat → Prop} {D : va_G}
variable {cc : ByteArray} {nL index : Nat} {own host : String}
theorem kx_X4_copyFrom {Z : Nat → ClassId} {a b q : Nat → Nat} {O : M2} {pr : Nat} {F : M2} {K : Nat → M2 → Prop} {ws wr : va_W} {isC isR pm : List Nat} {ws' : Nat × M2 → va_W} (hC : CallFix p m c cc nL s args lw_g own) (hN : NW s) (hK : va_K D vwCl (tysG Z) s) (hT : TS vwCl D ws A H0 H locs) (hc : Cut ws (fun u : Nat × M2 => TT Z a b q O u.1 u.2) (pr, F) wr isC isR pm ws') (hnd : va_nd isC = true) (hm : wp_X4_copyFrom q O pr F K) (hl : Cond.methodLink own index yX4_copyFrom ∈ lw_g) (hlt : 2 < rn) (hsize : ls.size = nL) (hW : (rest.map fun v => v.category).sum ≤ 8) (hf : cells + 0 ≤ mcR ∧ slots + 0 ≤ msR) (hdg : decode cc pc = .ok (.invokevirtual index, 3)) (kk : ∀ (pr1 : Nat) (F1 : M2) (H1 : Heap) (locs1 : List Loc), K pr1 F1 → TS vwCl D (ws' (pr1, F1)) A H0 H1 locs1 → W p l e (rk rn mcR msR) s m args below meth c H1 locs1 cells slots Q (F0 m (pc + 3) ls (rest))) : W p l e (rk rn mcR msR) s m args below meth c H locs cells slots Q (F0 m pc ls (.ref (b 0) :: .ref (a 0) :: rest)) :=
  rwv_go (wsF := (fun u : Nat × M2 => TT Z a b q O u.1 u.2)) (u0 := (pr, F)) (wr := wr) (isC := isC) (isR := isR) (pm := pm) (ws' := ws') (runV (As := [.ref (b 0)]) hC hN (c_X4_copyFrom l D Z a b q O pr F H.size K hm) mi_X4_copyFrom hl wq_797 wq_798 hlt (hT.1.sub isC (map_fm hc.1)) (hT.D'.sub isC hnd hc.1) hK (q0 := 0) rfl rfl rfl hsize rfl hW hdg hf) hc hT (fun u H1 locs1 hk hT1 => kk u.1 u.2 H1 locs1 hk hT1)
end LX4_copyFrom0x
section LX5_append0
variable {p : Program} {l : Launch} {e : Env} {s : State} {m : MethodId} {args : Array Value} {below : List Frame} {meth : Method} {c : Code} {H H0 : Heap} {locs : List Loc} {cells slots : Nat} {Q : State → Prop} {R : Room} {rn mcR msR : Nat}
variable {pc : Nat} {ls : Array Slot} {rest : List Value} {A : Nat → Prop} {D : va_G}
variable {cc : ByteArray} {nL index : Nat} {own host : String}
theorem k_X5_append {Z : Nat → ClassId} {ca tp rd sp tn ah : Nat} {F : M2} {C : M2} {x1 : Int32} {K : M2 → M2 → Prop} (hC : CallFix p m c cc nL s args lw_g own) (hN : NW s) (hK : va_K D vwCl (tysG Z) s) (hT : TS vwCl D (CT Z ca tp rd sp tn ah F C) A H0 H locs) (hm : wp_X5_append F C x1 K) (hl : Cond.methodLink own index yX5_append ∈ lw_g) (hlt : 1 < rn) (hsize : ls.size = nL) (hW : (rest.map fun v => v.category).sum ≤ 8) (hf : cells + 0 ≤ mcR ∧ slots + 0 ≤ msR) (hdg : decode cc pc = .ok (.invokevirtual index, 3)) (kk : ∀ (F1 : M2) (C1 : M2) (H1 : Heap) (locs1 : List Loc), K F1 C1 → TS vwCl D (CT Z ca tp rd sp tn ah F1 C1) A H0 H1 locs1 → W p l e (rk rn mcR msR) s m args below meth c H1 locs1 cells slots Q (F0 m (pc + 3) ls (rest))) : W p l e (rk rn mcR msR) s m args below meth c H locs cells slots Q (F0 m pc ls (.int x1 :: .ref (ca) :: rest)) :=
  rwv_go (wsF := (fun u : M2 × M2 => CT Z ca tp rd sp tn ah u.1 u.2)) (u0 := (F, C)) (wr := []) (isC := cutCT) (isR := []) (pm := cutCT) (ws' := (fun u : M2 × M2 => CT Z ca tp rd sp tn ah u.1 u.2)) (runV (As := [.int x1]) hC hN (c_X5_append l D Z ca tp rd sp tn ah F C H.size x1 K hm) mi_X5_append hl wq_937 wq_28 hlt hT.1 hT.D' hK (q0 := 0) rfl rfl rfl hsize rfl hW hdg hf) (cutOkCT Z ca tp rd sp tn ah F C) hT (fun u H1 locs1 hk hT1 => kk u.1 u.2 H1 locs1 hk hT1)
end LX5_append0
theorem dX5_count_0 : decode cX5_count 0 = .ok (.iload_n 1, 1) := by decide +kernel
theorem dX5_count_1 : decode cX5_count 1 = .ok (.tableswitch 170 0 13 #[71, 79, 87, 98, 109, 120, 131, 142, 156, 156, 156, 156, 156, 165], 71) := by decide +kernel
theorem dX5_count_72 : decode cX5_count 72 = .ok (.aload_n 0, 1) := by decide +kernel
theorem dX5_count_73 : decode cX5_count 73 = .ok (.getfield 39, 3) := by decide +kernel
theorem dX5_count_76 : decode cX5_count 76 = .ok (.getfield 75, 3) := by decide +kernel
theorem dX5_count_79 : decode cX5_count 79 = .ok (.ireturn, 1) := by decide +kernel
theorem dX5_count_80 : decode cX5_count 80 = .ok (.aload_n 0, 1) := by decide +kernel
theorem dX5_count_81 : decode cX5_count 81 = .ok (.getfield 39, 3) := by decide +kernel
theorem dX5_count_84 : decode cX5_count 84 = .ok (.getfield 78, 3) := by decide +kernel
theorem dX5_count_87 : decode cX5_count 87 = .ok (.ireturn, 1) := by decide +kernel
theorem dX5_count_88 : decode cX5_count 88 = .ok (.aload_n 0, 1) := by decide +kernel
theorem dX5_count_89 : decode cX5_count 89 = .ok (.getfield 39, 3) := by decide +kernel
theorem dX5_count_92 : decode cX5_count 92 = .ok (.getfield 69, 3) := by decide +kernel
theorem dX5_count_95 : decode cX5_count 95 = .ok (.getfield 81, 3) := by decide +kernel
theorem dX5_count_98 : decode cX5_count 98 = .ok (.ireturn, 1) := by decide +kernel
theorem dX5_count_99 : decode cX5_count 99 = .ok (.aload_n 0, 1) := by decide +kernel
theorem dX5_count_100 : decode cX5_count 100 = .ok (.getfield 39, 3) := by decide +kernel
theorem dX5_count_103 : decode cX5_count 103 = .ok (.getfield 69, 3) := by decide +kernel
theorem dX5_count_106 : decode cX5_count 106 = .ok (.getfield 84, 3) := by decide +kernel
theorem dX5_count_109 : decode cX5_count 109 = .ok (.ireturn, 1) := by decide +kernel
theorem dX5_count_110 : decode cX5_count 110 = .ok (.aload_n 0, 1) := by decide +kernel
theorem dX5_count_111 : decode cX5_count 111 = .ok (.getfield 39, 3) := by decide +kernel
theorem dX5_count_114 : decode cX5_count 114 = .ok (.getfield 69, 3) := by decide +kernel
theorem dX5_count_117 : decode cX5_count 117 = .ok (.getfield 87, 3) := by decide +kernel
theorem dX5_count_120 : decode cX5_count 120 = .ok (.ireturn, 1) := by decide +kernel
theorem dX5_count_121 : decode cX5_count 121 = .ok (.aload_n 0, 1) := by decide +kernel
theorem dX5_count_122 : decode cX5_count 122 = .ok (.getfield 39, 3) := by decide +kernel
theorem dX5_count_125 : decode cX5_count 125 = .ok (.getfield 69, 3) := by decide +kernel
theorem dX5_count_128 : decode cX5_count 128 = .ok (.getfield 90, 3) := by decide +kernel
theorem dX5_count_131 : decode cX5_count 131 = .ok (.ireturn, 1) := by decide +kernel
theorem dX5_count_132 : decode cX5_count 132 = .ok (.aload_n 0, 1) := by decide +kernel
theorem dX5_count_133 : decode cX5_count 133 = .ok (.getfield 39, 3) := by decide +kernel
theorem dX5_count_136 : decode cX5_count 136 = .ok (.getfield 69, 3) := by decide +kernel
theorem dX5_count_139 : decode cX5_count 139 = .ok (.getfield 93, 3) := by decide +kernel
theorem dX5_count_142 : decode cX5_count 142 = .ok (.ireturn, 1) := by decide +kernel
theorem dX5_count_143 : decode cX5_count 143 = .ok (.aload_n 0, 1) := by decide +kernel
theorem dX5_count_144 : decode cX5_count 144 = .ok (.getfield 39, 3) := by decide +kernel
theorem dX5_count_147 : decode cX5_count 147 = .ok (.getfield 69, 3) := by decide +kernel
theorem dX5_count_150 : decode cX5_count 150 = .ok (.getfield 96, 3) := by decide +kernel
theorem dX5_count_153 : decode cX5_count 153 = .ok (.getfield 100, 3) := by decide +kernel
theorem dX5_count_156 : decode cX5_count 156 = .ok (.ireturn, 1) := by decide +kernel
theorem dX5_count_157 : decode cX5_count 157 = .ok (.aload_n 0, 1) := by decide +kernel
theorem dX5_count_158 : decode cX5_count 158 = .ok (.getfield 39, 3) := by decide +kernel
theorem dX5_count_161 : decode cX5_count 161 = .ok (.iload_n 1, 1) := by decide +kernel
theorem dX5_count_162 : decode cX5_count 162 = .ok (.invokevirtual 105, 3) := by decide +kernel
theorem dX5_count_165 : decode cX5_count 165 = .ok (.ireturn, 1) := by decide +kernel
theorem dX5_count_166 : decode cX5_count 166 = .ok (.aload_n 0, 1) := by decide +kernel
theorem dX5_count_167 : decode cX5_count 167 = .ok (.getfield 13, 3) := by decide +kernel
theorem dX5_count_170 : decode cX5_count 170 = .ok (.ireturn, 1) := by decide +kernel
theorem dX5_count_171 : decode cX5_count 171 = .ok (.new 109, 3) := by decide +kernel
theorem dX5_count_174 : decode cX5_count 174 = .ok (.dup, 1) := by decide +kernel
theorem dX5_count_175 : decode cX5_count 175 = .ok (.ldc 111, 2) := by decide +kernel
theorem dX5_count_177 : decode cX5_count 177 = .ok (.invokespecial 113, 3) := by decide +kernel
theorem dX5_count_180 : decode cX5_count 180 = .ok (.athrow, 1) := by decide +kernel
theorem dX5_place_0 : decode cX5_place 0 = .ok (.iload_n 1, 1) := by decide +kernel
theorem dX5_place_1 : decode cX5_place 1 = .ok (.aload_n 0, 1) := by decide +kernel
theorem dX5_place_2 : decode cX5_place 2 = .ok (.getfield 39, 3) := by decide +kernel
theorem dX5_place_5 : decode cX5_place 5 = .ok (.getfield 69, 3) := by decide +kernel
theorem dX5_place_8 : decode cX5_place 8 = .ok (.getfield 84, 3) := by decide +kernel
theorem dX5_place_11 : decode cX5_place 11 = .ok (.invokestatic 114, 3) := by decide +kernel
theorem dX5_place_14 : decode cX5_place 14 = .ok (.iload_n 2, 1) := by decide +kernel
theorem dX5_place_15 : decode cX5_place 15 = .ok (.tableswitch 74 0 3 #[29, 44, 56, 65], 29) := by decide +kernel
theorem dX5_place_44 : decode cX5_place 44 = .ok (.aload_n 0, 1) := by decide +kernel
theorem dX5_place_45 : decode cX5_place 45 = .ok (.getfield 39, 3) := by decide +kernel
theorem dX5_place_48 : decode cX5_place 48 = .ok (.getfield 69, 3) := by decide +kernel
theorem dX5_place_51 : decode cX5_place 51 = .ok (.getfield 118, 3) := by decide +kernel
theorem dX5_place_54 : decode cX5_place 54 = .ok (.iload_n 1, 1) := by decide +kernel
theorem dX5_place_55 : decode cX5_place 55 = .ok (.invokestatic 122, 3) := by decide +kernel
theorem dX5_place_58 : decode cX5_place 58 = .ok (.ireturn, 1) := by decide +kernel
theorem dX5_place_59 : decode cX5_place 59 = .ok (.aload_n 0, 1) := by decide +kernel
theorem dX5_place_60 : decode cX5_place 60 = .ok (.getfield 39, 3) := by decide +kernel
theorem dX5_place_63 : decode cX5_place 63 = .ok (.getfield 126, 3) := by decide +kernel
theorem dX5_place_66 : decode cX5_place 66 = .ok (.iload_n 1, 1) := by decide +kernel
theorem dX5_place_67 : decode cX5_place 67 = .ok (.invokestatic 122, 3) := by decide +kernel
theorem dX5_place_70 : decode cX5_place 70 = .ok (.ireturn, 1) := by decide +kernel
theorem dX5_place_71 : decode cX5_place 71 = .ok (.aload_n 0, 1) := by decide +kernel
theorem dX5_place_72 : decode cX5_place 72 = .ok (.getfield 39, 3) := by decide +kernel
theorem dX5_place_75 : decode cX5_place 75 = .ok (.iload_n 1, 1) := by decide +kernel
theorem dX5_place_76 : decode cX5_place 76 = .ok (.invokevirtual 129, 3) := by decide +kernel
theorem dX5_place_79 : decode cX5_place 79 = .ok (.ireturn, 1) := by decide +kernel
theorem dX5_place_80 : decode cX5_place 80 = .ok (.aload_n 0, 1) := by decide +kernel
theorem dX5_place_81 : decode cX5_place 81 = .ok (.getfield 39, 3) := by decide +kernel
theorem dX5_place_84 : decode cX5_place 84 = .ok (.iload_n 1, 1) := by decide +kernel
theorem dX5_place_85 : decode cX5_place 85 = .ok (.invokevirtual 132, 3) := by decide +kernel
theorem dX5_place_88 : decode cX5_place 88 = .ok (.ireturn, 1) := by decide +kernel
theorem dX5_place_89 : decode cX5_place 89 = .ok (.new 109, 3) := by decide +kernel
theorem dX5_place_92 : decode cX5_place 92 = .ok (.dup, 1) := by decide +kernel
theorem dX5_place_93 : decode cX5_place 93 = .ok (.ldc 135, 2) := by decide +kernel
theorem dX5_place_95 : decode cX5_place 95 = .ok (.invokespecial 113, 3) := by decide +kernel
theorem dX5_place_98 : decode cX5_place 98 = .ok (.athrow, 1) := by decide +kernel
theorem dX5_bore_0 : decode cX5_bore 0 = .ok (.iload_n 1, 1) := by decide +kernel
theorem dX5_bore_1 : decode cX5_bore 1 = .ok (.aload_n 0, 1) := by decide +kernel
theorem dX5_bore_2 : decode cX5_bore 2 = .ok (.getfield 39, 3) := by decide +kernel
theorem dX5_bore_5 : decode cX5_bore 5 = .ok (.getfield 69, 3) := by decide +kernel
theorem dX5_bore_8 : decode cX5_bore 8 = .ok (.getfield 81, 3) := by decide +kernel
theorem dX5_bore_11 : decode cX5_bore 11 = .ok (.invokestatic 114, 3) := by decide +kernel
theorem dX5_bore_14 : decode cX5_bore 14 = .ok (.iload_n 2, 1) := by decide +kernel
theorem dX5_bore_15 : decode cX5_bore 15 = .ok (.tableswitch 83 0 3 #[29, 44, 59, 74], 29) := by decide +kernel
theorem dX5_bore_44 : decode cX5_bore 44 = .ok (.aload_n 0, 1) := by decide +kernel
theorem dX5_bore_45 : decode cX5_bore 45 = .ok (.getfield 39, 3) := by decide +kernel
theorem dX5_bore_48 : decode cX5_bore 48 = .ok (.getfield 69, 3) := by decide +kernel
theorem dX5_bore_51 : decode cX5_bore 51 = .ok (.getfield 137, 3) := by decide +kernel
theorem dX5_bore_54 : decode cX5_bore 54 = .ok (.iload_n 1, 1) := by decide +kernel
theorem dX5_bore_55 : decode cX5_bore 55 = .ok (.invokestatic 122, 3) := by decide +kernel
theorem dX5_bore_58 : decode cX5_bore 58 = .ok (.ireturn, 1) := by decide +kernel
theorem dX5_bore_59 : decode cX5_bore 59 = .ok (.aload_n 0, 1) := by decide +kernel
theorem dX5_bore_60 : decode cX5_bore 60 = .ok (.getfield 39, 3) := by decide +kernel
theorem dX5_bore_63 : decode cX5_bore 63 = .ok (.getfield 69, 3) := by decide +kernel
theorem dX5_bore_66 : decode cX5_bore 66 = .ok (.getfield 140, 3) := by decide +kernel
theorem dX5_bore_69 : decode cX5_bore 69 = .ok (.iload_n 1, 1) := by decide +kernel
theorem dX5_bore_70 : decode cX5_bore 70 = .ok (.invokestatic 122, 3) := by decide +kernel
theorem dX5_bore_73 : decode cX5_bore 73 = .ok (.ireturn, 1) := by decide +kernel
theorem dX5_bore_74 : decode cX5_bore 74 = .ok (.aload_n 0, 1) := by decide +kernel
theorem dX5_bore_75 : decode cX5_bore 75 = .ok (.getfield 39, 3) := by decide +kernel
theorem dX5_bore_78 : decode cX5_bore 78 = .ok (.getfield 69, 3) := by decide +kernel
theorem dX5_bore_81 : decode cX5_bore 81 = .ok (.getfield 143, 3) := by decide +kernel
theorem dX5_bore_84 : decode cX5_bore 84 = .ok (.iload_n 1, 1) := by decide +kernel
theorem dX5_bore_85 : decode cX5_bore 85 = .ok (.invokestatic 122, 3) := by decide +kernel
theorem dX5_bore_88 : decode cX5_bore 88 = .ok (.ireturn, 1) := by decide +kernel
theorem dX5_bore_89 : decode cX5_bore 89 = .ok (.aload_n 0, 1) := by decide +kernel
theorem dX5_bore_90 : decode cX5_bore 90 = .ok (.getfield 39, 3) := by decide +kernel
theorem dX5_bore_93 : decode cX5_bore 93 = .ok (.iload_n 1, 1) := by decide +kernel
theorem dX5_bore_94 : decode cX5_bore 94 = .ok (.invokevirtual 146, 3) := by decide +kernel
theorem dX5_bore_97 : decode cX5_bore 97 = .ok (.ireturn, 1) := by decide +kernel
theorem dX5_bore_98 : decode cX5_bore 98 = .ok (.new 109, 3) := by decide +kernel
theorem dX5_bore_101 : decode cX5_bore 101 = .ok (.dup, 1) := by decide +kernel
theorem dX5_bore_102 : decode cX5_bore 102 = .ok (.ldc 149, 2) := by decide +kernel
theorem dX5_bore_104 : decode cX5_bore 104 = .ok (.invokespecial 113, 3) := by decide +kernel
theorem dX5_bore_107 : decode cX5_bore 107 = .ok (.athrow, 1) := by decide +kernel
theorem dX5_legger_0 : decode cX5_legger 0 = .ok (.iload_n 1, 1) := by decide +kernel
theorem dX5_legger_1 : decode cX5_legger 1 = .ok (.aload_n 0, 1) := by decide +kernel
theorem dX5_legger_2 : decode cX5_legger 2 = .ok (.getfield 39, 3) := by decide +kernel
theorem dX5_legger_5 : decode cX5_legger 5 = .ok (.getfield 69, 3) := by decide +kernel
theorem dX5_legger_8 : decode cX5_legger 8 = .ok (.getfield 90, 3) := by decide +kernel
theorem dX5_legger_11 : decode cX5_legger 11 = .ok (.invokestatic 114, 3) := by decide +kernel
theorem dX5_legger_14 : decode cX5_legger 14 = .ok (.iload_n 2, 1) := by decide +kernel
theorem dX5_legger_15 : decode cX5_legger 15 = .ok (.tableswitch 137 0 6 #[41, 56, 71, 83, 104, 113, 125], 41) := by decide +kernel
theorem dX5_legger_56 : decode cX5_legger 56 = .ok (.aload_n 0, 1) := by decide +kernel
theorem dX5_legger_57 : decode cX5_legger 57 = .ok (.getfield 39, 3) := by decide +kernel
theorem dX5_legger_60 : decode cX5_legger 60 = .ok (.getfield 69, 3) := by decide +kernel
theorem dX5_legger_63 : decode cX5_legger 63 = .ok (.getfield 151, 3) := by decide +kernel
theorem dX5_legger_66 : decode cX5_legger 66 = .ok (.iload_n 1, 1) := by decide +kernel
theorem dX5_legger_67 : decode cX5_legger 67 = .ok (.invokestatic 122, 3) := by decide +kernel
theorem dX5_legger_70 : decode cX5_legger 70 = .ok (.ireturn, 1) := by decide +kernel
theorem dX5_legger_71 : decode cX5_legger 71 = .ok (.aload_n 0, 1) := by decide +kernel
theorem dX5_legger_72 : decode cX5_legger 72 = .ok (.getfield 39, 3) := by decide +kernel
theorem dX5_legger_75 : decode cX5_legger 75 = .ok (.getfield 69, 3) := by decide +kernel
theorem dX5_legger_78 : decode cX5_legger 78 = .ok (.getfield 154, 3) := by decide +kernel
theorem dX5_legger_81 : decode cX5_legger 81 = .ok (.iload_n 1, 1) := by decide +kernel
theorem dX5_legger_82 : decode cX5_legger 82 = .ok (.invokestatic 122, 3) := by decide +kernel
theorem dX5_legger_85 : decode cX5_legger 85 = .ok (.ireturn, 1) := by decide +kernel
theorem dX5_legger_86 : decode cX5_legger 86 = .ok (.aload_n 0, 1) := by decide +kernel
theorem dX5_legger_87 : decode cX5_legger 87 = .ok (.getfield 39, 3) := by decide +kernel
theorem dX5_legger_90 : decode cX5_legger 90 = .ok (.getfield 157, 3) := by decide +kernel
theorem dX5_legger_93 : decode cX5_legger 93 = .ok (.iload_n 1, 1) := by decide +kernel
theorem dX5_legger_94 : decode cX5_legger 94 = .ok (.invokestatic 122, 3) := by decide +kernel
theorem dX5_legger_97 : decode cX5_legger 97 = .ok (.ireturn, 1) := by decide +kernel
theorem dX5_legger_98 : decode cX5_legger 98 = .ok (.aload_n 0, 1) := by decide +kernel
theorem dX5_legger_99 : decode cX5_legger 99 = .ok (.getfield 39, 3) := by decide +kernel
theorem dX5_legger_102 : decode cX5_legger 102 = .ok (.getfield 160, 3) := by decide +kernel
theorem dX5_legger_105 : decode cX5_legger 105 = .ok (.iload_n 1, 1) := by decide +kernel
theorem dX5_legger_106 : decode cX5_legger 106 = .ok (.invokestatic 122, 3) := by decide +kernel
theorem dX5_legger_109 : decode cX5_legger 109 = .ok (.iconst (-1), 1) := by decide +kernel
theorem dX5_legger_110 : decode cX5_legger 110 = .ok (.if_icmp .ne 7, 3) := by decide +kernel
theorem dX5_legger_113 : decode cX5_legger 113 = .ok (.iconst 1, 1) := by decide +kernel
theorem dX5_legger_114 : decode cX5_legger 114 = .ok (.goto 4, 3) := by decide +kernel
theorem dX5_legger_117 : decode cX5_legger 117 = .ok (.iconst 0, 1) := by decide +kernel
theorem dX5_legger_118 : decode cX5_legger 118 = .ok (.ireturn, 1) := by decide +kernel
theorem dX5_legger_119 : decode cX5_legger 119 = .ok (.aload_n 0, 1) := by decide +kernel
theorem dX5_legger_120 : decode cX5_legger 120 = .ok (.getfield 39, 3) := by decide +kernel
theorem dX5_legger_123 : decode cX5_legger 123 = .ok (.iload_n 1, 1) := by decide +kernel
theorem dX5_legger_124 : decode cX5_legger 124 = .ok (.invokevirtual 163, 3) := by decide +kernel
theorem dX5_legger_127 : decode cX5_legger 127 = .ok (.ireturn, 1) := by decide +kernel
theorem dX5_legger_128 : decode cX5_legger 128 = .ok (.aload_n 0, 1) := by decide +kernel
theorem dX5_legger_129 : decode cX5_legger 129 = .ok (.getfield 39, 3) := by decide +kernel
theorem dX5_legger_132 : decode cX5_legger 132 = .ok (.getfield 166, 3) := by decide +kernel
theorem dX5_legger_135 : decode cX5_legger 135 = .ok (.iload_n 1, 1) := by decide +kernel
theorem dX5_legger_136 : decode cX5_legger 136 = .ok (.invokestatic 122, 3) := by decide +kernel
theorem dX5_legger_139 : decode cX5_legger 139 = .ok (.ireturn, 1) := by decide +kernel
theorem dX5_legger_140 : decode cX5_legger 140 = .ok (.aload_n 0, 1) := by decide +kernel
theorem dX5_legger_141 : decode cX5_legger 141 = .ok (.getfield 39, 3) := by decide +kernel
theorem dX5_legger_144 : decode cX5_legger 144 = .ok (.getfield 160, 3) := by decide +kernel
theorem dX5_legger_147 : decode cX5_legger 147 = .ok (.iload_n 1, 1) := by decide +kernel
theorem dX5_legger_148 : decode cX5_legger 148 = .ok (.invokestatic 122, 3) := by decide +kernel
theorem dX5_legger_151 : decode cX5_legger 151 = .ok (.ireturn, 1) := by decide +kernel
theorem dX5_legger_152 : decode cX5_legger 152 = .ok (.new 109, 3) := by decide +kernel
theorem dX5_legger_155 : decode cX5_legger 155 = .ok (.dup, 1) := by decide +kernel
theorem dX5_legger_156 : decode cX5_legger 156 = .ok (.ldc 169, 2) := by decide +kernel
theorem dX5_legger_158 : decode cX5_legger 158 = .ok (.invokespecial 113, 3) := by decide +kernel
theorem dX5_legger_161 : decode cX5_legger 161 = .ok (.athrow, 1) := by decide +kernel
theorem dX5_boat_0 : decode cX5_boat 0 = .ok (.iload_n 1, 1) := by decide +kernel
theorem dX5_boat_1 : decode cX5_boat 1 = .ok (.aload_n 0, 1) := by decide +kernel
theorem dX5_boat_2 : decode cX5_boat 2 = .ok (.getfield 39, 3) := by decide +kernel
theorem dX5_boat_5 : decode cX5_boat 5 = .ok (.getfield 69, 3) := by decide +kernel
theorem dX5_boat_8 : decode cX5_boat 8 = .ok (.getfield 93, 3) := by decide +kernel
theorem dX5_boat_11 : decode cX5_boat 11 = .ok (.invokestatic 114, 3) := by decide +kernel
theorem dX5_boat_14 : decode cX5_boat 14 = .ok (.iload_n 2, 1) := by decide +kernel
theorem dX5_boat_15 : decode cX5_boat 15 = .ok (.tableswitch 128 0 6 #[41, 56, 68, 80, 92, 104, 116], 41) := by decide +kernel
theorem dX5_boat_56 : decode cX5_boat 56 = .ok (.aload_n 0, 1) := by decide +kernel
theorem dX5_boat_57 : decode cX5_boat 57 = .ok (.getfield 39, 3) := by decide +kernel
theorem dX5_boat_60 : decode cX5_boat 60 = .ok (.getfield 69, 3) := by decide +kernel
theorem dX5_boat_63 : decode cX5_boat 63 = .ok (.getfield 171, 3) := by decide +kernel
theorem dX5_boat_66 : decode cX5_boat 66 = .ok (.iload_n 1, 1) := by decide +kernel
theorem dX5_boat_67 : decode cX5_boat 67 = .ok (.invokestatic 122, 3) := by decide +kernel
theorem dX5_boat_70 : decode cX5_boat 70 = .ok (.ireturn, 1) := by decide +kernel
theorem dX5_boat_71 : decode cX5_boat 71 = .ok (.aload_n 0, 1) := by decide +kernel
theorem dX5_boat_72 : decode cX5_boat 72 = .ok (.getfield 39, 3) := by decide +kernel
theorem dX5_boat_75 : decode cX5_boat 75 = .ok (.getfield 174, 3) := by decide +kernel
theorem dX5_boat_78 : decode cX5_boat 78 = .ok (.iload_n 1, 1) := by decide +kernel
theorem dX5_boat_79 : decode cX5_boat 79 = .ok (.invokestatic 122, 3) := by decide +kernel
theorem dX5_boat_82 : decode cX5_boat 82 = .ok (.ireturn, 1) := by decide +kernel
theorem dX5_boat_83 : decode cX5_boat 83 = .ok (.aload_n 0, 1) := by decide +kernel
theorem dX5_boat_84 : decode cX5_boat 84 = .ok (.getfield 39, 3) := by decide +kernel
theorem dX5_boat_87 : decode cX5_boat 87 = .ok (.getfield 177, 3) := by decide +kernel
theorem dX5_boat_90 : decode cX5_boat 90 = .ok (.iload_n 1, 1) := by decide +kernel
theorem dX5_boat_91 : decode cX5_boat 91 = .ok (.invokestatic 122, 3) := by decide +kernel
theorem dX5_boat_94 : decode cX5_boat 94 = .ok (.ireturn, 1) := by decide +kernel
theorem dX5_boat_95 : decode cX5_boat 95 = .ok (.aload_n 0, 1) := by decide +kernel
theorem dX5_boat_96 : decode cX5_boat 96 = .ok (.getfield 39, 3) := by decide +kernel
theorem dX5_boat_99 : decode cX5_boat 99 = .ok (.getfield 180, 3) := by decide +kernel
theorem dX5_boat_102 : decode cX5_boat 102 = .ok (.iload_n 1, 1) := by decide +kernel
theorem dX5_boat_103 : decode cX5_boat 103 = .ok (.invokestatic 122, 3) := by decide +kernel
theorem dX5_boat_106 : decode cX5_boat 106 = .ok (.ireturn, 1) := by decide +kernel
theorem dX5_boat_107 : decode cX5_boat 107 = .ok (.aload_n 0, 1) := by decide +kernel
theorem dX5_boat_108 : decode cX5_boat 108 = .ok (.getfield 39, 3) := by decide +kernel
theorem dX5_boat_111 : decode cX5_boat 111 = .ok (.getfield 183, 3) := by decide +kernel
theorem dX5_boat_114 : decode cX5_boat 114 = .ok (.iload_n 1, 1) := by decide +kernel
theorem dX5_boat_115 : decode cX5_boat 115 = .ok (.invokestatic 122, 3) := by decide +kernel
theorem dX5_boat_118 : decode cX5_boat 118 = .ok (.ireturn, 1) := by decide +kernel
theorem dX5_boat_119 : decode cX5_boat 119 = .ok (.aload_n 0, 1) := by decide +kernel
theorem dX5_boat_120 : decode cX5_boat 120 = .ok (.getfield 39, 3) := by decide +kernel
theorem dX5_boat_123 : decode cX5_boat 123 = .ok (.getfield 186, 3) := by decide +kernel
theorem dX5_boat_126 : decode cX5_boat 126 = .ok (.iload_n 1, 1) := by decide +kernel
theorem dX5_boat_127 : decode cX5_boat 127 = .ok (.invokestatic 122, 3) := by decide +kernel
theorem dX5_boat_130 : decode cX5_boat 130 = .ok (.ireturn, 1) := by decide +kernel
theorem dX5_boat_131 : decode cX5_boat 131 = .ok (.aload_n 0, 1) := by decide +kernel
theorem dX5_boat_132 : decode cX5_boat 132 = .ok (.getfield 39, 3) := by decide +kernel
theorem dX5_boat_135 : decode cX5_boat 135 = .ok (.getfield 189, 3) := by decide +kernel
theorem dX5_boat_138 : decode cX5_boat 138 = .ok (.iload_n 1, 1) := by decide +kernel
theorem dX5_boat_139 : decode cX5_boat 139 = .ok (.invokestatic 122, 3) := by decide +kernel
theorem dX5_boat_142 : decode cX5_boat 142 = .ok (.ireturn, 1) := by decide +kernel
theorem dX5_boat_143 : decode cX5_boat 143 = .ok (.new 109, 3) := by decide +kernel
theorem dX5_boat_146 : decode cX5_boat 146 = .ok (.dup, 1) := by decide +kernel
theorem dX5_boat_147 : decode cX5_boat 147 = .ok (.ldc 192, 2) := by decide +kernel
theorem dX5_boat_149 : decode cX5_boat 149 = .ok (.invokespecial 113, 3) := by decide +kernel
theorem dX5_boat_152 : decode cX5_boat 152 = .ok (.athrow, 1) := by decide +kernel
theorem dX5_crew_0 : decode cX5_crew 0 = .ok (.iload_n 1, 1) := by decide +kernel
theorem dX5_crew_1 : decode cX5_crew 1 = .ok (.aload_n 0, 1) := by decide +kernel
theorem dX5_crew_2 : decode cX5_crew 2 = .ok (.getfield 39, 3) := by decide +kernel
theorem dX5_crew_5 : decode cX5_crew 5 = .ok (.getfield 69, 3) := by decide +kernel
theorem dX5_crew_8 : decode cX5_crew 8 = .ok (.getfield 93, 3) := by decide +kernel
theorem dX5_crew_11 : decode cX5_crew 11 = .ok (.invokestatic 114, 3) := by decide +kernel
theorem dX5_crew_14 : decode cX5_crew 14 = .ok (.iload_n 2, 1) := by decide +kernel
theorem dX5_crew_15 : decode cX5_crew 15 = .ok (.iconst 2, 1) := by decide +kernel
theorem dX5_crew_16 : decode cX5_crew 16 = .ok (.invokestatic 114, 3) := by decide +kernel
theorem dX5_crew_19 : decode cX5_crew 19 = .ok (.iload_n 2, 1) := by decide +kernel
theorem dX5_crew_20 : decode cX5_crew 20 = .ok (.ifCond .ne 20, 3) := by decide +kernel
theorem dX5_crew_23 : decode cX5_crew 23 = .ok (.aload_n 0, 1) := by decide +kernel
theorem dX5_crew_24 : decode cX5_crew 24 = .ok (.getfield 39, 3) := by decide +kernel
theorem dX5_crew_27 : decode cX5_crew 27 = .ok (.getfield 69, 3) := by decide +kernel
theorem dX5_crew_30 : decode cX5_crew 30 = .ok (.getfield 194, 3) := by decide +kernel
theorem dX5_crew_33 : decode cX5_crew 33 = .ok (.iload_n 1, 1) := by decide +kernel
theorem dX5_crew_34 : decode cX5_crew 34 = .ok (.invokestatic 122, 3) := by decide +kernel
theorem dX5_crew_37 : decode cX5_crew 37 = .ok (.goto 17, 3) := by decide +kernel
theorem dX5_crew_40 : decode cX5_crew 40 = .ok (.aload_n 0, 1) := by decide +kernel
theorem dX5_crew_41 : decode cX5_crew 41 = .ok (.getfield 39, 3) := by decide +kernel
theorem dX5_crew_44 : decode cX5_crew 44 = .ok (.getfield 69, 3) := by decide +kernel
theorem dX5_crew_47 : decode cX5_crew 47 = .ok (.getfield 197, 3) := by decide +kernel
theorem dX5_crew_50 : decode cX5_crew 50 = .ok (.iload_n 1, 1) := by decide +kernel
theorem dX5_crew_51 : decode cX5_crew 51 = .ok (.invokestatic 122, 3) := by decide +kernel
theorem dX5_crew_54 : decode cX5_crew 54 = .ok (.ireturn, 1) := by decide +kernel
theorem dX5_digest_0 : decode cX5_digest 0 = .ok (.ldc2_w 232, 3) := by decide +kernel
theorem dX5_digest_3 : decode cX5_digest 3 = .ok (.lstore_n 1, 1) := by decide +kernel
theorem dX5_digest_4 : decode cX5_digest 4 = .ok (.iconst 0, 1) := by decide +kernel
theorem dX5_digest_5 : decode cX5_digest 5 = .ok (.istore_n 3, 1) := by decide +kernel
theorem dX5_digest_6 : decode cX5_digest 6 = .ok (.iload_n 3, 1) := by decide +kernel
theorem dX5_digest_7 : decode cX5_digest 7 = .ok (.bipush 13, 2) := by decide +kernel
theorem dX5_digest_9 : decode cX5_digest 9 = .ok (.if_icmp .gt 22, 3) := by decide +kernel
theorem dX5_digest_12 : decode cX5_digest 12 = .ok (.lload_n 1, 1) := by decide +kernel
theorem dX5_digest_13 : decode cX5_digest 13 = .ok (.ldc2_w 234, 3) := by decide +kernel
theorem dX5_digest_16 : decode cX5_digest 16 = .ok (.lmul, 1) := by decide +kernel
theorem dX5_digest_17 : decode cX5_digest 17 = .ok (.aload_n 0, 1) := by decide +kernel
theorem dX5_digest_18 : decode cX5_digest 18 = .ok (.iload_n 3, 1) := by decide +kernel
theorem dX5_digest_19 : decode cX5_digest 19 = .ok (.invokevirtual 236, 3) := by decide +kernel
theorem dX5_digest_22 : decode cX5_digest 22 = .ok (.i2l, 1) := by decide +kernel
theorem dX5_digest_23 : decode cX5_digest 23 = .ok (.ladd, 1) := by decide +kernel
theorem dX5_digest_24 : decode cX5_digest 24 = .ok (.lstore_n 1, 1) := by decide +kernel
theorem dX5_digest_25 : decode cX5_digest 25 = .ok (.iinc 3 1, 3) := by decide +kernel
theorem dX5_digest_28 : decode cX5_digest 28 = .ok (.goto (-22), 3) := by decide +kernel
theorem dX5_digest_31 : decode cX5_digest 31 = .ok (.iconst 0, 1) := by decide +kernel
theorem dX5_digest_32 : decode cX5_digest 32 = .ok (.istore_n 3, 1) := by decide +kernel
theorem dX5_digest_33 : decode cX5_digest 33 = .ok (.iload_n 3, 1) := by decide +kernel
theorem dX5_digest_34 : decode cX5_digest 34 = .ok (.aload_n 0, 1) := by decide +kernel
theorem dX5_digest_35 : decode cX5_digest 35 = .ok (.getfield 39, 3) := by decide +kernel
theorem dX5_digest_38 : decode cX5_digest 38 = .ok (.getfield 69, 3) := by decide +kernel
theorem dX5_digest_41 : decode cX5_digest 41 = .ok (.getfield 84, 3) := by decide +kernel
theorem dX5_digest_44 : decode cX5_digest 44 = .ok (.if_icmp .ge 39, 3) := by decide +kernel
theorem dX5_digest_47 : decode cX5_digest 47 = .ok (.iconst 0, 1) := by decide +kernel
theorem dX5_digest_48 : decode cX5_digest 48 = .ok (.istore 4, 2) := by decide +kernel
theorem dX5_digest_50 : decode cX5_digest 50 = .ok (.iload 4, 2) := by decide +kernel
theorem dX5_digest_52 : decode cX5_digest 52 = .ok (.iconst 3, 1) := by decide +kernel
theorem dX5_digest_53 : decode cX5_digest 53 = .ok (.if_icmp .gt 24, 3) := by decide +kernel
theorem dX5_digest_56 : decode cX5_digest 56 = .ok (.lload_n 1, 1) := by decide +kernel
theorem dX5_digest_57 : decode cX5_digest 57 = .ok (.ldc2_w 234, 3) := by decide +kernel
theorem dX5_digest_60 : decode cX5_digest 60 = .ok (.lmul, 1) := by decide +kernel
theorem dX5_digest_61 : decode cX5_digest 61 = .ok (.aload_n 0, 1) := by decide +kernel
theorem dX5_digest_62 : decode cX5_digest 62 = .ok (.iload_n 3, 1) := by decide +kernel
theorem dX5_digest_63 : decode cX5_digest 63 = .ok (.iload 4, 2) := by decide +kernel
theorem dX5_digest_65 : decode cX5_digest 65 = .ok (.invokevirtual 239, 3) := by decide +kernel
theorem dX5_digest_68 : decode cX5_digest 68 = .ok (.i2l, 1) := by decide +kernel
theorem dX5_digest_69 : decode cX5_digest 69 = .ok (.ladd, 1) := by decide +kernel
theorem dX5_digest_70 : decode cX5_digest 70 = .ok (.lstore_n 1, 1) := by decide +kernel
theorem dX5_digest_71 : decode cX5_digest 71 = .ok (.iinc 4 1, 3) := by decide +kernel
theorem dX5_digest_74 : decode cX5_digest 74 = .ok (.goto (-24), 3) := by decide +kernel
theorem dX5_digest_77 : decode cX5_digest 77 = .ok (.iinc 3 1, 3) := by decide +kernel
theorem dX5_digest_80 : decode cX5_digest 80 = .ok (.goto (-47), 3) := by decide +kernel
theorem dX5_digest_83 : decode cX5_digest 83 = .ok (.iconst 0, 1) := by decide +kernel
theorem dX5_digest_84 : decode cX5_digest 84 = .ok (.istore_n 3, 1) := by decide +kernel
theorem dX5_digest_85 : decode cX5_digest 85 = .ok (.iload_n 3, 1) := by decide +kernel
theorem dX5_digest_86 : decode cX5_digest 86 = .ok (.aload_n 0, 1) := by decide +kernel
theorem dX5_digest_87 : decode cX5_digest 87 = .ok (.getfield 39, 3) := by decide +kernel
theorem dX5_digest_90 : decode cX5_digest 90 = .ok (.getfield 69, 3) := by decide +kernel
theorem dX5_digest_93 : decode cX5_digest 93 = .ok (.getfield 81, 3) := by decide +kernel
theorem dX5_digest_96 : decode cX5_digest 96 = .ok (.if_icmp .ge 39, 3) := by decide +kernel
theorem dX5_digest_99 : decode cX5_digest 99 = .ok (.iconst 0, 1) := by decide +kernel
theorem dX5_digest_100 : decode cX5_digest 100 = .ok (.istore 4, 2) := by decide +kernel
theorem dX5_digest_102 : decode cX5_digest 102 = .ok (.iload 4, 2) := by decide +kernel
theorem dX5_digest_104 : decode cX5_digest 104 = .ok (.iconst 3, 1) := by decide +kernel
theorem dX5_digest_105 : decode cX5_digest 105 = .ok (.if_icmp .gt 24, 3) := by decide +kernel
theorem dX5_digest_108 : decode cX5_digest 108 = .ok (.lload_n 1, 1) := by decide +kernel
theorem dX5_digest_109 : decode cX5_digest 109 = .ok (.ldc2_w 234, 3) := by decide +kernel
theorem dX5_digest_112 : decode cX5_digest 112 = .ok (.lmul, 1) := by decide +kernel
theorem dX5_digest_113 : decode cX5_digest 113 = .ok (.aload_n 0, 1) := by decide +kernel
theorem dX5_digest_114 : decode cX5_digest 114 = .ok (.iload_n 3, 1) := by decide +kernel
theorem dX5_digest_115 : decode cX5_digest 115 = .ok (.iload 4, 2) := by decide +kernel
theorem dX5_digest_117 : decode cX5_digest 117 = .ok (.invokevirtual 243, 3) := by decide +kernel
theorem dX5_digest_120 : decode cX5_digest 120 = .ok (.i2l, 1) := by decide +kernel
theorem dX5_digest_121 : decode cX5_digest 121 = .ok (.ladd, 1) := by decide +kernel
theorem dX5_digest_122 : decode cX5_digest 122 = .ok (.lstore_n 1, 1) := by decide +kernel
theorem dX5_digest_123 : decode cX5_digest 123 = .ok (.iinc 4 1, 3) := by decide +kernel
theorem dX5_digest_126 : decode cX5_digest 126 = .ok (.goto (-24), 3) := by decide +kernel
theorem dX5_digest_129 : decode cX5_digest 129 = .ok (.iinc 3 1, 3) := by decide +kernel
theorem dX5_digest_132 : decode cX5_digest 132 = .ok (.goto (-47), 3) := by decide +kernel
theorem dX5_digest_135 : decode cX5_digest 135 = .ok (.iconst 0, 1) := by decide +kernel
theorem dX5_digest_136 : decode cX5_digest 136 = .ok (.istore_n 3, 1) := by decide +kernel
theorem dX5_digest_137 : decode cX5_digest 137 = .ok (.iload_n 3, 1) := by decide +kernel
theorem dX5_digest_138 : decode cX5_digest 138 = .ok (.aload_n 0, 1) := by decide +kernel
theorem dX5_digest_139 : decode cX5_digest 139 = .ok (.getfield 39, 3) := by decide +kernel
theorem dX5_digest_142 : decode cX5_digest 142 = .ok (.getfield 69, 3) := by decide +kernel
theorem dX5_digest_145 : decode cX5_digest 145 = .ok (.getfield 90, 3) := by decide +kernel
theorem dX5_digest_148 : decode cX5_digest 148 = .ok (.if_icmp .ge 40, 3) := by decide +kernel
theorem dX5_digest_151 : decode cX5_digest 151 = .ok (.iconst 0, 1) := by decide +kernel
theorem dX5_digest_152 : decode cX5_digest 152 = .ok (.istore 4, 2) := by decide +kernel
theorem dX5_digest_154 : decode cX5_digest 154 = .ok (.iload 4, 2) := by decide +kernel
theorem dX5_digest_156 : decode cX5_digest 156 = .ok (.bipush 6, 2) := by decide +kernel
theorem dX5_digest_158 : decode cX5_digest 158 = .ok (.if_icmp .gt 24, 3) := by decide +kernel
theorem dX5_digest_161 : decode cX5_digest 161 = .ok (.lload_n 1, 1) := by decide +kernel
theorem dX5_digest_162 : decode cX5_digest 162 = .ok (.ldc2_w 234, 3) := by decide +kernel
theorem dX5_digest_165 : decode cX5_digest 165 = .ok (.lmul, 1) := by decide +kernel
theorem dX5_digest_166 : decode cX5_digest 166 = .ok (.aload_n 0, 1) := by decide +kernel
theorem dX5_digest_167 : decode cX5_digest 167 = .ok (.iload_n 3, 1) := by decide +kernel
theorem dX5_digest_168 : decode cX5_digest 168 = .ok (.iload 4, 2) := by decide +kernel
theorem dX5_digest_170 : decode cX5_digest 170 = .ok (.invokevirtual 246, 3) := by decide +kernel
theorem dX5_digest_173 : decode cX5_digest 173 = .ok (.i2l, 1) := by decide +kernel
theorem dX5_digest_174 : decode cX5_digest 174 = .ok (.ladd, 1) := by decide +kernel
theorem dX5_digest_175 : decode cX5_digest 175 = .ok (.lstore_n 1, 1) := by decide +kernel
theorem dX5_digest_176 : decode cX5_digest 176 = .ok (.iinc 4 1, 3) := by decide +kernel
theorem dX5_digest_179 : decode cX5_digest 179 = .ok (.goto (-25), 3) := by decide +kernel
theorem dX5_digest_182 : decode cX5_digest 182 = .ok (.iinc 3 1, 3) := by decide +kernel
theorem dX5_digest_185 : decode cX5_digest 185 = .ok (.goto (-48), 3) := by decide +kernel
theorem dX5_digest_188 : decode cX5_digest 188 = .ok (.iconst 0, 1) := by decide +kernel
theorem dX5_digest_189 : decode cX5_digest 189 = .ok (.istore_n 3, 1) := by decide +kernel
theorem dX5_digest_190 : decode cX5_digest 190 = .ok (.iload_n 3, 1) := by decide +kernel
theorem dX5_digest_191 : decode cX5_digest 191 = .ok (.aload_n 0, 1) := by decide +kernel
theorem dX5_digest_192 : decode cX5_digest 192 = .ok (.getfield 39, 3) := by decide +kernel
theorem dX5_digest_195 : decode cX5_digest 195 = .ok (.getfield 69, 3) := by decide +kernel
theorem dX5_digest_198 : decode cX5_digest 198 = .ok (.getfield 93, 3) := by decide +kernel
theorem dX5_digest_201 : decode cX5_digest 201 = .ok (.if_icmp .ge 68, 3) := by decide +kernel
theorem dX5_digest_204 : decode cX5_digest 204 = .ok (.iconst 0, 1) := by decide +kernel
theorem dX5_digest_205 : decode cX5_digest 205 = .ok (.istore 4, 2) := by decide +kernel
theorem dX5_digest_207 : decode cX5_digest 207 = .ok (.iload 4, 2) := by decide +kernel
theorem dX5_digest_209 : decode cX5_digest 209 = .ok (.bipush 6, 2) := by decide +kernel
theorem dX5_digest_211 : decode cX5_digest 211 = .ok (.if_icmp .gt 24, 3) := by decide +kernel
theorem dX5_digest_214 : decode cX5_digest 214 = .ok (.lload_n 1, 1) := by decide +kernel
theorem dX5_digest_215 : decode cX5_digest 215 = .ok (.ldc2_w 234, 3) := by decide +kernel
theorem dX5_digest_218 : decode cX5_digest 218 = .ok (.lmul, 1) := by decide +kernel
theorem dX5_digest_219 : decode cX5_digest 219 = .ok (.aload_n 0, 1) := by decide +kernel
theorem dX5_digest_220 : decode cX5_digest 220 = .ok (.iload_n 3, 1) := by decide +kernel
theorem dX5_digest_221 : decode cX5_digest 221 = .ok (.iload 4, 2) := by decide +kernel
theorem dX5_digest_223 : decode cX5_digest 223 = .ok (.invokevirtual 249, 3) := by decide +kernel
theorem dX5_digest_226 : decode cX5_digest 226 = .ok (.i2l, 1) := by decide +kernel
theorem dX5_digest_227 : decode cX5_digest 227 = .ok (.ladd, 1) := by decide +kernel
theorem dX5_digest_228 : decode cX5_digest 228 = .ok (.lstore_n 1, 1) := by decide +kernel
theorem dX5_digest_229 : decode cX5_digest 229 = .ok (.iinc 4 1, 3) := by decide +kernel
theorem dX5_digest_232 : decode cX5_digest 232 = .ok (.goto (-25), 3) := by decide +kernel
theorem dX5_digest_235 : decode cX5_digest 235 = .ok (.lload_n 1, 1) := by decide +kernel
theorem dX5_digest_236 : decode cX5_digest 236 = .ok (.ldc2_w 234, 3) := by decide +kernel
theorem dX5_digest_239 : decode cX5_digest 239 = .ok (.lmul, 1) := by decide +kernel
theorem dX5_digest_240 : decode cX5_digest 240 = .ok (.aload_n 0, 1) := by decide +kernel
theorem dX5_digest_241 : decode cX5_digest 241 = .ok (.iload_n 3, 1) := by decide +kernel
theorem dX5_digest_242 : decode cX5_digest 242 = .ok (.iconst 0, 1) := by decide +kernel
theorem dX5_digest_243 : decode cX5_digest 243 = .ok (.invokevirtual 252, 3) := by decide +kernel
theorem dX5_digest_246 : decode cX5_digest 246 = .ok (.i2l, 1) := by decide +kernel
theorem dX5_digest_247 : decode cX5_digest 247 = .ok (.ladd, 1) := by decide +kernel
theorem dX5_digest_248 : decode cX5_digest 248 = .ok (.lstore_n 1, 1) := by decide +kernel
theorem dX5_digest_249 : decode cX5_digest 249 = .ok (.lload_n 1, 1) := by decide +kernel
theorem dX5_digest_250 : decode cX5_digest 250 = .ok (.ldc2_w 234, 3) := by decide +kernel
theorem dX5_digest_253 : decode cX5_digest 253 = .ok (.lmul, 1) := by decide +kernel
theorem dX5_digest_254 : decode cX5_digest 254 = .ok (.aload_n 0, 1) := by decide +kernel
theorem dX5_digest_255 : decode cX5_digest 255 = .ok (.iload_n 3, 1) := by decide +kernel
theorem dX5_digest_256 : decode cX5_digest 256 = .ok (.iconst 1, 1) := by decide +kernel
theorem dX5_digest_257 : decode cX5_digest 257 = .ok (.invokevirtual 252, 3) := by decide +kernel
theorem dX5_digest_260 : decode cX5_digest 260 = .ok (.i2l, 1) := by decide +kernel
theorem dX5_digest_261 : decode cX5_digest 261 = .ok (.ladd, 1) := by decide +kernel
theorem dX5_digest_262 : decode cX5_digest 262 = .ok (.lstore_n 1, 1) := by decide +kernel
theorem dX5_digest_263 : decode cX5_digest 263 = .ok (.iinc 3 1, 3) := by decide +kernel
theorem dX5_digest_266 : decode cX5_digest 266 = .ok (.goto (-76), 3) := by decide +kernel
theorem dX5_digest_269 : decode cX5_digest 269 = .ok (.lload_n 1, 1) := by decide +kernel
theorem dX5_digest_270 : decode cX5_digest 270 = .ok (.lreturn, 1) := by decide +kernel
theorem dX5_mean_0 : decode cX5_mean 0 = .ok (.aload_n 0, 1) := by decide +kernel
theorem dX5_mean_1 : decode cX5_mean 1 = .ok (.getfield 39, 3) := by decide +kernel
theorem dX5_mean_4 : decode cX5_mean 4 = .ok (.getfield 69, 3) := by decide +kernel
theorem dX5_mean_7 : decode cX5_mean 7 = .ok (.getfield 90, 3) := by decide +kernel
theorem dX5_mean_10 : decode cX5_mean 10 = .ok (.istore_n 1, 1) := by decide +kernel
theorem dX5_mean_11 : decode cX5_mean 11 = .ok (.iload_n 1, 1) := by decide +kernel
theorem dX5_mean_12 : decode cX5_mean 12 = .ok (.ifCond .gt 5, 3) := by decide +kernel
theorem dX5_mean_15 : decode cX5_mean 15 = .ok (.dconst 0, 1) := by decide +kernel
theorem dX5_mean_16 : decode cX5_mean 16 = .ok (.dreturn, 1) := by decide +kernel
theorem dX5_mean_17 : decode cX5_mean 17 = .ok (.iconst 0, 1) := by decide +kernel
theorem dX5_mean_18 : decode cX5_mean 18 = .ok (.istore_n 2, 1) := by decide +kernel
theorem dX5_mean_19 : decode cX5_mean 19 = .ok (.iconst 0, 1) := by decide +kernel
theorem dX5_mean_20 : decode cX5_mean 20 = .ok (.istore_n 3, 1) := by decide +kernel
theorem dX5_mean_21 : decode cX5_mean 21 = .ok (.iload_n 3, 1) := by decide +kernel
theorem dX5_mean_22 : decode cX5_mean 22 = .ok (.iload_n 1, 1) := by decide +kernel
theorem dX5_mean_23 : decode cX5_mean 23 = .ok (.if_icmp .ge 23, 3) := by decide +kernel
theorem dX5_mean_26 : decode cX5_mean 26 = .ok (.iload_n 2, 1) := by decide +kernel
theorem dX5_mean_27 : decode cX5_mean 27 = .ok (.aload_n 0, 1) := by decide +kernel
theorem dX5_mean_28 : decode cX5_mean 28 = .ok (.getfield 39, 3) := by decide +kernel
theorem dX5_mean_31 : decode cX5_mean 31 = .ok (.getfield 157, 3) := by decide +kernel
theorem dX5_mean_34 : decode cX5_mean 34 = .ok (.iload_n 3, 1) := by decide +kernel
theorem dX5_mean_35 : decode cX5_mean 35 = .ok (.invokestatic 122, 3) := by decide +kernel
theorem dX5_mean_38 : decode cX5_mean 38 = .ok (.iadd, 1) := by decide +kernel
theorem dX5_mean_39 : decode cX5_mean 39 = .ok (.istore_n 2, 1) := by decide +kernel
theorem dX5_mean_40 : decode cX5_mean 40 = .ok (.iinc 3 1, 3) := by decide +kernel
theorem dX5_mean_43 : decode cX5_mean 43 = .ok (.goto (-22), 3) := by decide +kernel
theorem dX5_mean_46 : decode cX5_mean 46 = .ok (.iload_n 2, 1) := by decide +kernel
theorem dX5_mean_47 : decode cX5_mean 47 = .ok (.i2d, 1) := by decide +kernel
theorem dX5_mean_48 : decode cX5_mean 48 = .ok (.iload_n 1, 1) := by decide +kernel
theorem dX5_mean_49 : decode cX5_mean 49 = .ok (.i2d, 1) := by decide +kernel
theorem dX5_mean_50 : decode cX5_mean 50 = .ok (.ddiv, 1) := by decide +kernel
theorem dX5_mean_51 : decode cX5_mean 51 = .ok (.dreturn, 1) := by decide +kernel
theorem dX5_worst_0 : decode cX5_worst 0 = .ok (.iconst (-1), 1) := by decide +kernel
theorem dX5_worst_1 : decode cX5_worst 1 = .ok (.istore_n 1, 1) := by decide +kernel
theorem dX5_worst_2 : decode cX5_worst 2 = .ok (.iconst 0, 1) := by decide +kernel
theorem dX5_worst_3 : decode cX5_worst 3 = .ok (.istore_n 2, 1) := by decide +kernel
theorem dX5_worst_4 : decode cX5_worst 4 = .ok (.iload_n 2, 1) := by decide +kernel
theorem dX5_worst_5 : decode cX5_worst 5 = .ok (.aload_n 0, 1) := by decide +kernel
theorem dX5_worst_6 : decode cX5_worst 6 = .ok (.getfield 39, 3) := by decide +kernel
theorem dX5_worst_9 : decode cX5_worst 9 = .ok (.getfield 69, 3) := by decide +kernel
theorem dX5_worst_12 : decode cX5_worst 12 = .ok (.getfield 84, 3) := by decide +kernel
theorem dX5_worst_15 : decode cX5_worst 15 = .ok (.if_icmp .ge 41, 3) := by decide +kernel
theorem dX5_worst_18 : decode cX5_worst 18 = .ok (.iload_n 1, 1) := by decide +kernel
theorem dX5_worst_19 : decode cX5_worst 19 = .ok (.iconst (-1), 1) := by decide +kernel
theorem dX5_worst_20 : decode cX5_worst 20 = .ok (.if_icmp .eq 28, 3) := by decide +kernel
theorem dX5_worst_23 : decode cX5_worst 23 = .ok (.aload_n 0, 1) := by decide +kernel
theorem dX5_worst_24 : decode cX5_worst 24 = .ok (.getfield 39, 3) := by decide +kernel
theorem dX5_worst_27 : decode cX5_worst 27 = .ok (.getfield 126, 3) := by decide +kernel
theorem dX5_worst_30 : decode cX5_worst 30 = .ok (.iload_n 2, 1) := by decide +kernel
theorem dX5_worst_31 : decode cX5_worst 31 = .ok (.invokestatic 122, 3) := by decide +kernel
theorem dX5_worst_34 : decode cX5_worst 34 = .ok (.aload_n 0, 1) := by decide +kernel
theorem dX5_worst_35 : decode cX5_worst 35 = .ok (.getfield 39, 3) := by decide +kernel
theorem dX5_worst_38 : decode cX5_worst 38 = .ok (.getfield 126, 3) := by decide +kernel
theorem dX5_worst_41 : decode cX5_worst 41 = .ok (.iload_n 1, 1) := by decide +kernel
theorem dX5_worst_42 : decode cX5_worst 42 = .ok (.invokestatic 122, 3) := by decide +kernel
theorem dX5_worst_45 : decode cX5_worst 45 = .ok (.if_icmp .ge 5, 3) := by decide +kernel
theorem dX5_worst_48 : decode cX5_worst 48 = .ok (.iload_n 2, 1) := by decide +kernel
theorem dX5_worst_49 : decode cX5_worst 49 = .ok (.istore_n 1, 1) := by decide +kernel
theorem dX5_worst_50 : decode cX5_worst 50 = .ok (.iinc 2 1, 3) := by decide +kernel
theorem dX5_worst_53 : decode cX5_worst 53 = .ok (.goto (-49), 3) := by decide +kernel
theorem dX5_worst_56 : decode cX5_worst 56 = .ok (.iload_n 1, 1) := by decide +kernel
theorem dX5_worst_57 : decode cX5_worst 57 = .ok (.ireturn, 1) := by decide +kernel
theorem dX5_air_0 : decode cX5_air 0 = .ok (.iconst 0, 1) := by decide +kernel
theorem dX5_air_1 : decode cX5_air 1 = .ok (.istore_n 1, 1) := by decide +kernel
theorem dX5_air_2 : decode cX5_air 2 = .ok (.iconst 0, 1) := by decide +kernel
theorem dX5_air_3 : decode cX5_air 3 = .ok (.istore_n 2, 1) := by decide +kernel
theorem dX5_air_4 : decode cX5_air 4 = .ok (.iload_n 2, 1) := by decide +kernel
theorem dX5_air_5 : decode cX5_air 5 = .ok (.aload_n 0, 1) := by decide +kernel
theorem dX5_air_6 : decode cX5_air 6 = .ok (.getfield 39, 3) := by decide +kernel
theorem dX5_air_9 : decode cX5_air 9 = .ok (.getfield 69, 3) := by decide +kernel
theorem dX5_air_12 : decode cX5_air 12 = .ok (.getfield 84, 3) := by decide +kernel
theorem dX5_air_15 : decode cX5_air 15 = .ok (.if_icmp .ge 39, 3) := by decide +kernel
theorem dX5_air_18 : decode cX5_air 18 = .ok (.iload_n 1, 1) := by decide +kernel
theorem dX5_air_19 : decode cX5_air 19 = .ok (.bipush 100, 2) := by decide +kernel
theorem dX5_air_21 : decode cX5_air 21 = .ok (.aload_n 0, 1) := by decide +kernel
theorem dX5_air_22 : decode cX5_air 22 = .ok (.getfield 39, 3) := by decide +kernel
theorem dX5_air_25 : decode cX5_air 25 = .ok (.getfield 126, 3) := by decide +kernel
theorem dX5_air_28 : decode cX5_air 28 = .ok (.iload_n 2, 1) := by decide +kernel
theorem dX5_air_29 : decode cX5_air 29 = .ok (.invokestatic 122, 3) := by decide +kernel
theorem dX5_air_32 : decode cX5_air 32 = .ok (.isub, 1) := by decide +kernel
theorem dX5_air_33 : decode cX5_air 33 = .ok (.iadd, 1) := by decide +kernel
theorem dX5_air_34 : decode cX5_air 34 = .ok (.istore_n 1, 1) := by decide +kernel
theorem dX5_air_35 : decode cX5_air 35 = .ok (.aload_n 0, 1) := by decide +kernel
theorem dX5_air_36 : decode cX5_air 36 = .ok (.getfield 39, 3) := by decide +kernel
theorem dX5_air_39 : decode cX5_air 39 = .ok (.getfield 126, 3) := by decide +kernel
theorem dX5_air_42 : decode cX5_air 42 = .ok (.iload_n 2, 1) := by decide +kernel
theorem dX5_air_43 : decode cX5_air 43 = .ok (.bipush 100, 2) := by decide +kernel
theorem dX5_air_45 : decode cX5_air 45 = .ok (.invokestatic 206, 3) := by decide +kernel
theorem dX5_air_48 : decode cX5_air 48 = .ok (.iinc 2 1, 3) := by decide +kernel
theorem dX5_air_51 : decode cX5_air 51 = .ok (.goto (-47), 3) := by decide +kernel
theorem dX5_air_54 : decode cX5_air 54 = .ok (.iload_n 1, 1) := by decide +kernel
theorem dX5_air_55 : decode cX5_air 55 = .ok (.ireturn, 1) := by decide +kernel
theorem dX5_canEnter_0 : decode cX5_canEnter 0 = .ok (.iload_n 1, 1) := by decide +kernel
theorem dX5_canEnter_1 : decode cX5_canEnter 1 = .ok (.aload_n 0, 1) := by decide +kernel
theorem dX5_canEnter_2 : decode cX5_canEnter 2 = .ok (.getfield 39, 3) := by decide +kernel
theorem dX5_canEnter_5 : decode cX5_canEnter 5 = .ok (.getfield 69, 3) := by decide +kernel
theorem dX5_canEnter_8 : decode cX5_canEnter 8 = .ok (.getfield 93, 3) := by decide +kernel
theorem dX5_canEnter_11 : decode cX5_canEnter 11 = .ok (.invokestatic 114, 3) := by decide +kernel
theorem dX5_canEnter_14 : decode cX5_canEnter 14 = .ok (.aload_n 0, 1) := by decide +kernel
theorem dX5_canEnter_15 : decode cX5_canEnter 15 = .ok (.getfield 39, 3) := by decide +kernel
theorem dX5_canEnter_18 : decode cX5_canEnter 18 = .ok (.iload_n 1, 1) := by decide +kernel
theorem dX5_canEnter_19 : decode cX5_canEnter 19 = .ok (.invokevirtual 200, 3) := by decide +kernel
theorem dX5_canEnter_22 : decode cX5_canEnter 22 = .ok (.ireturn, 1) := by decide +kernel
theorem dX5_whistle_0 : decode cX5_whistle 0 = .ok (.iload_n 1, 1) := by decide +kernel
theorem dX5_whistle_1 : decode cX5_whistle 1 = .ok (.ifCond .eq 18, 3) := by decide +kernel
theorem dX5_whistle_4 : decode cX5_whistle 4 = .ok (.iload_n 1, 1) := by decide +kernel
theorem dX5_whistle_5 : decode cX5_whistle 5 = .ok (.iconst 1, 1) := by decide +kernel
theorem dX5_whistle_6 : decode cX5_whistle 6 = .ok (.if_icmp .eq 13, 3) := by decide +kernel
theorem dX5_whistle_9 : decode cX5_whistle 9 = .ok (.new 57, 3) := by decide +kernel
theorem dX5_whistle_12 : decode cX5_whistle 12 = .ok (.dup, 1) := by decide +kernel
theorem dX5_whistle_13 : decode cX5_whistle 13 = .ok (.ldc 204, 2) := by decide +kernel
theorem dX5_whistle_15 : decode cX5_whistle 15 = .ok (.invokespecial 61, 3) := by decide +kernel
theorem dX5_whistle_18 : decode cX5_whistle 18 = .ok (.athrow, 1) := by decide +kernel
theorem dX5_whistle_19 : decode cX5_whistle 19 = .ok (.aload_n 0, 1) := by decide +kernel
theorem dX5_whistle_20 : decode cX5_whistle 20 = .ok (.getfield 39, 3) := by decide +kernel
theorem dX5_whistle_23 : decode cX5_whistle 23 = .ok (.getfield 78, 3) := by decide +kernel
theorem dX5_whistle_26 : decode cX5_whistle 26 = .ok (.istore_n 2, 1) := by decide +kernel
theorem dX5_whistle_27 : decode cX5_whistle 27 = .ok (.aload_n 0, 1) := by decide +kernel
theorem dX5_whistle_28 : decode cX5_whistle 28 = .ok (.getfield 39, 3) := by decide +kernel
theorem dX5_whistle_31 : decode cX5_whistle 31 = .ok (.iload_n 1, 1) := by decide +kernel
theorem dX5_whistle_32 : decode cX5_whistle 32 = .ok (.putfield 78, 3) := by decide +kernel
theorem dX5_whistle_35 : decode cX5_whistle 35 = .ok (.iload_n 2, 1) := by decide +kernel
theorem dX5_whistle_36 : decode cX5_whistle 36 = .ok (.ireturn, 1) := by decide +kernel
theorem dX5_cap_0 : decode cX5_cap 0 = .ok (.iload_n 1, 1) := by decide +kernel
theorem dX5_cap_1 : decode cX5_cap 1 = .ok (.aload_n 0, 1) := by decide +kernel
theorem dX5_cap_2 : decode cX5_cap 2 = .ok (.getfield 39, 3) := by decide +kernel
theorem dX5_cap_5 : decode cX5_cap 5 = .ok (.getfield 69, 3) := by decide +kernel
theorem dX5_cap_8 : decode cX5_cap 8 = .ok (.getfield 90, 3) := by decide +kernel
theorem dX5_cap_11 : decode cX5_cap 11 = .ok (.invokestatic 114, 3) := by decide +kernel
theorem dX5_cap_14 : decode cX5_cap 14 = .ok (.aload_n 0, 1) := by decide +kernel
theorem dX5_cap_15 : decode cX5_cap 15 = .ok (.getfield 39, 3) := by decide +kernel
theorem dX5_cap_18 : decode cX5_cap 18 = .ok (.getfield 160, 3) := by decide +kernel
theorem dX5_cap_21 : decode cX5_cap 21 = .ok (.iload_n 1, 1) := by decide +kernel
theorem dX5_cap_22 : decode cX5_cap 22 = .ok (.invokestatic 122, 3) := by decide +kernel
theorem dX5_cap_25 : decode cX5_cap 25 = .ok (.istore_n 2, 1) := by decide +kernel
theorem dX5_cap_26 : decode cX5_cap 26 = .ok (.aload_n 0, 1) := by decide +kernel
theorem dX5_cap_27 : decode cX5_cap 27 = .ok (.getfield 39, 3) := by decide +kernel
theorem dX5_cap_30 : decode cX5_cap 30 = .ok (.getfield 160, 3) := by decide +kernel
theorem dX5_cap_33 : decode cX5_cap 33 = .ok (.iload_n 1, 1) := by decide +kernel
theorem dX5_cap_34 : decode cX5_cap 34 = .ok (.iconst (-1), 1) := by decide +kernel
theorem dX5_cap_35 : decode cX5_cap 35 = .ok (.invokestatic 206, 3) := by decide +kernel
theorem dX5_cap_38 : decode cX5_cap 38 = .ok (.iload_n 2, 1) := by decide +kernel
theorem dX5_cap_39 : decode cX5_cap 39 = .ok (.ireturn, 1) := by decide +kernel
theorem dX5_pass_0 : decode cX5_pass 0 = .ok (.iload_n 1, 1) := by decide +kernel
theorem dX5_pass_1 : decode cX5_pass 1 = .ok (.invokestatic 217, 3) := by decide +kernel
theorem dX5_pass_4 : decode cX5_pass 4 = .ok (.aload_n 0, 1) := by decide +kernel
theorem dX5_pass_5 : decode cX5_pass 5 = .ok (.getfield 39, 3) := by decide +kernel
theorem dX5_pass_8 : decode cX5_pass 8 = .ok (.bipush 10, 2) := by decide +kernel
theorem dX5_pass_10 : decode cX5_pass 10 = .ok (.invokevirtual 105, 3) := by decide +kernel
theorem dX5_pass_13 : decode cX5_pass 13 = .ok (.istore_n 2, 1) := by decide +kernel
theorem dX5_pass_14 : decode cX5_pass 14 = .ok (.aload_n 0, 1) := by decide +kernel
theorem dX5_pass_15 : decode cX5_pass 15 = .ok (.getfield 39, 3) := by decide +kernel
theorem dX5_pass_18 : decode cX5_pass 18 = .ok (.iload_n 1, 1) := by decide +kernel
theorem dX5_pass_19 : decode cX5_pass 19 = .ok (.invokevirtual 220, 3) := by decide +kernel
theorem dX5_pass_22 : decode cX5_pass 22 = .ok (.aload_n 0, 1) := by decide +kernel
theorem dX5_pass_23 : decode cX5_pass 23 = .ok (.getfield 39, 3) := by decide +kernel
theorem dX5_pass_26 : decode cX5_pass 26 = .ok (.bipush 10, 2) := by decide +kernel
theorem dX5_pass_28 : decode cX5_pass 28 = .ok (.invokevirtual 105, 3) := by decide +kernel
theorem dX5_pass_31 : decode cX5_pass 31 = .ok (.iload_n 2, 1) := by decide +kernel
theorem dX5_pass_32 : decode cX5_pass 32 = .ok (.isub, 1) := by decide +kernel
theorem dX5_pass_33 : decode cX5_pass 33 = .ok (.ireturn, 1) := by decide +kernel
theorem dX5_again_0 : decode cX5_again 0 = .ok (.iload_n 1, 1) := by decide +kernel
theorem dX5_again_1 : decode cX5_again 1 = .ok (.aload_n 0, 1) := by decide +kernel
theorem dX5_again_2 : decode cX5_again 2 = .ok (.getfield 39, 3) := by decide +kernel
theorem dX5_again_5 : decode cX5_again 5 = .ok (.getfield 69, 3) := by decide +kernel
theorem dX5_again_8 : decode cX5_again 8 = .ok (.getfield 93, 3) := by decide +kernel
theorem dX5_again_11 : decode cX5_again 11 = .ok (.invokestatic 114, 3) := by decide +kernel
theorem dX5_again_14 : decode cX5_again 14 = .ok (.iload_n 2, 1) := by decide +kernel
theorem dX5_again_15 : decode cX5_again 15 = .ok (.ifCond .lt 10, 3) := by decide +kernel
theorem dX5_again_18 : decode cX5_again 18 = .ok (.iload_n 2, 1) := by decide +kernel
theorem dX5_again_19 : decode cX5_again 19 = .ok (.sipush 9999, 3) := by decide +kernel
theorem dX5_again_22 : decode cX5_again 22 = .ok (.if_icmp .le 13, 3) := by decide +kernel
theorem dX5_again_25 : decode cX5_again 25 = .ok (.new 57, 3) := by decide +kernel
theorem dX5_again_28 : decode cX5_again 28 = .ok (.dup, 1) := by decide +kernel
theorem dX5_again_29 : decode cX5_again 29 = .ok (.ldc 210, 2) := by decide +kernel
theorem dX5_again_31 : decode cX5_again 31 = .ok (.invokespecial 61, 3) := by decide +kernel
theorem dX5_again_34 : decode cX5_again 34 = .ok (.athrow, 1) := by decide +kernel
theorem dX5_again_35 : decode cX5_again 35 = .ok (.aload_n 0, 1) := by decide +kernel
theorem dX5_again_36 : decode cX5_again 36 = .ok (.getfield 39, 3) := by decide +kernel
theorem dX5_again_39 : decode cX5_again 39 = .ok (.getfield 180, 3) := by decide +kernel
theorem dX5_again_42 : decode cX5_again 42 = .ok (.iload_n 1, 1) := by decide +kernel
theorem dX5_again_43 : decode cX5_again 43 = .ok (.invokestatic 122, 3) := by decide +kernel
theorem dX5_again_46 : decode cX5_again 46 = .ok (.iconst 2, 1) := by decide +kernel
theorem dX5_again_47 : decode cX5_again 47 = .ok (.if_icmp .eq 13, 3) := by decide +kernel
theorem dX5_again_50 : decode cX5_again 50 = .ok (.new 46, 3) := by decide +kernel
theorem dX5_again_53 : decode cX5_again 53 = .ok (.dup, 1) := by decide +kernel
theorem dX5_again_54 : decode cX5_again 54 = .ok (.ldc 212, 2) := by decide +kernel
theorem dX5_again_56 : decode cX5_again 56 = .ok (.invokespecial 50, 3) := by decide +kernel
theorem dX5_again_59 : decode cX5_again 59 = .ok (.athrow, 1) := by decide +kernel
theorem dX5_again_60 : decode cX5_again 60 = .ok (.aload_n 0, 1) := by decide +kernel
theorem dX5_again_61 : decode cX5_again 61 = .ok (.getfield 39, 3) := by decide +kernel
theorem dX5_again_64 : decode cX5_again 64 = .ok (.iload_n 1, 1) := by decide +kernel
theorem dX5_again_65 : decode cX5_again 65 = .ok (.iload_n 2, 1) := by decide +kernel
theorem dX5_again_66 : decode cX5_again 66 = .ok (.invokevirtual 214, 3) := by decide +kernel
theorem dX5_again_69 : decode cX5_again 69 = .ok (.aload_n 0, 1) := by decide +kernel
theorem dX5_again_70 : decode cX5_again 70 = .ok (.getfield 39, 3) := by decide +kernel
theorem dX5_again_73 : decode cX5_again 73 = .ok (.getfield 174, 3) := by decide +kernel
theorem dX5_again_76 : decode cX5_again 76 = .ok (.iload_n 1, 1) := by decide +kernel
theorem dX5_again_77 : decode cX5_again 77 = .ok (.invokestatic 122, 3) := by decide +kernel
theorem dX5_again_80 : decode cX5_again 80 = .ok (.ireturn, 1) := by decide +kernel
theorem dX5_feed_0 : decode cX5_feed 0 = .ok (.aload_n 0, 1) := by decide +kernel
theorem dX5_feed_1 : decode cX5_feed 1 = .ok (.getfield 13, 3) := by decide +kernel
theorem dX5_feed_4 : decode cX5_feed 4 = .ok (.bipush 20, 2) := by decide +kernel
theorem dX5_feed_6 : decode cX5_feed 6 = .ok (.iadd, 1) := by decide +kernel
theorem dX5_feed_7 : decode cX5_feed 7 = .ok (.sipush 2000, 3) := by decide +kernel
theorem dX5_feed_10 : decode cX5_feed 10 = .ok (.if_icmp .le 13, 3) := by decide +kernel
theorem dX5_feed_13 : decode cX5_feed 13 = .ok (.new 46, 3) := by decide +kernel
theorem dX5_feed_16 : decode cX5_feed 16 = .ok (.dup, 1) := by decide +kernel
theorem dX5_feed_17 : decode cX5_feed 17 = .ok (.ldc 48, 2) := by decide +kernel
theorem dX5_feed_19 : decode cX5_feed 19 = .ok (.invokespecial 50, 3) := by decide +kernel
theorem dX5_feed_22 : decode cX5_feed 22 = .ok (.athrow, 1) := by decide +kernel
theorem dX5_feed_23 : decode cX5_feed 23 = .ok (.aload_n 0, 1) := by decide +kernel
theorem dX5_feed_24 : decode cX5_feed 24 = .ok (.iload_n 1, 1) := by decide +kernel
theorem dX5_feed_25 : decode cX5_feed 25 = .ok (.invokevirtual 53, 3) := by decide +kernel
theorem dX5_feed_28 : decode cX5_feed 28 = .ok (.aload_n 0, 1) := by decide +kernel
theorem dX5_feed_29 : decode cX5_feed 29 = .ok (.iload_n 2, 1) := by decide +kernel
theorem dX5_feed_30 : decode cX5_feed 30 = .ok (.invokevirtual 53, 3) := by decide +kernel
theorem dX5_feed_33 : decode cX5_feed 33 = .ok (.aload_n 0, 1) := by decide +kernel
theorem dX5_feed_34 : decode cX5_feed 34 = .ok (.iload_n 3, 1) := by decide +kernel
theorem dX5_feed_35 : decode cX5_feed 35 = .ok (.invokevirtual 53, 3) := by decide +kernel
theorem dX5_feed_38 : decode cX5_feed 38 = .ok (.aload_n 0, 1) := by decide +kernel
theorem dX5_feed_39 : decode cX5_feed 39 = .ok (.iload 4, 2) := by decide +kernel
theorem dX5_feed_41 : decode cX5_feed 41 = .ok (.invokevirtual 53, 3) := by decide +kernel
theorem dX5_feed_44 : decode cX5_feed 44 = .ok (.aload_n 0, 1) := by decide +kernel
theorem dX5_feed_45 : decode cX5_feed 45 = .ok (.iload 5, 2) := by decide +kernel
theorem dX5_feed_47 : decode cX5_feed 47 = .ok (.invokevirtual 53, 3) := by decide +kernel
theorem dX5_feed_50 : decode cX5_feed 50 = .ok (.aload_n 0, 1) := by decide +kernel
theorem dX5_feed_51 : decode cX5_feed 51 = .ok (.getfield 13, 3) := by decide +kernel
theorem dX5_feed_54 : decode cX5_feed 54 = .ok (.ireturn, 1) := by decide +kernel
theorem dX5_trim_0 : decode cX5_trim 0 = .ok (.iload_n 1, 1) := by decide +kernel
theorem dX5_trim_1 : decode cX5_trim 1 = .ok (.ifCond .lt 11, 3) := by decide +kernel
theorem dX5_trim_4 : decode cX5_trim 4 = .ok (.iload_n 1, 1) := by decide +kernel
theorem dX5_trim_5 : decode cX5_trim 5 = .ok (.aload_n 0, 1) := by decide +kernel
theorem dX5_trim_6 : decode cX5_trim 6 = .ok (.getfield 13, 3) := by decide +kernel
theorem dX5_trim_9 : decode cX5_trim 9 = .ok (.if_icmp .le 13, 3) := by decide +kernel
theorem dX5_trim_12 : decode cX5_trim 12 = .ok (.new 57, 3) := by decide +kernel
theorem dX5_trim_15 : decode cX5_trim 15 = .ok (.dup, 1) := by decide +kernel
theorem dX5_trim_16 : decode cX5_trim 16 = .ok (.ldc 59, 2) := by decide +kernel
theorem dX5_trim_18 : decode cX5_trim 18 = .ok (.invokespecial 61, 3) := by decide +kernel
theorem dX5_trim_21 : decode cX5_trim 21 = .ok (.athrow, 1) := by decide +kernel
theorem dX5_trim_22 : decode cX5_trim 22 = .ok (.aload_n 0, 1) := by decide +kernel
theorem dX5_trim_23 : decode cX5_trim 23 = .ok (.iload_n 1, 1) := by decide +kernel
theorem dX5_trim_24 : decode cX5_trim 24 = .ok (.putfield 13, 3) := by decide +kernel
theorem dX5_trim_27 : decode cX5_trim 27 = .ok (.iload_n 1, 1) := by decide +kernel
theorem dX5_trim_28 : decode cX5_trim 28 = .ok (.ireturn, 1) := by decide +kernel
theorem mi_X5_count : MInfo yX5_count cX5_count 2 (some .int) 1 := ⟨wq_510, wq_78, by decide, ⟨by decide +kernel, by decide +kernel, by decide +kernel⟩, by decide +kernel⟩
theorem mi_X5_place : MInfo yX5_place cX5_place 3 (some .int) 2 := ⟨wq_600, wq_78, by decide, ⟨by decide +kernel, by decide +kernel, by decide +kernel⟩, by decide +kernel⟩
theorem mi_X5_bore : MInfo yX5_bore cX5_bore 3 (some .int) 2 := ⟨wq_618, wq_78, by decide, ⟨by decide +kernel, by decide +kernel, by decide +kernel⟩, by decide +kernel⟩
theorem mi_X5_legger : MInfo yX5_legger cX5_legger 3 (some .int) 2 := ⟨wq_627, wq_78, by decide, ⟨by decide +kernel, by decide +kernel, by decide +kernel⟩, by decide +kernel⟩
theorem mi_X5_boat : MInfo yX5_boat cX5_boat 3 (some .int) 2 := ⟨wq_641, wq_78, by decide, ⟨by decide +kernel, by decide +kernel, by decide +kernel⟩, by decide +kernel⟩
theorem mi_X5_crew : MInfo yX5_crew cX5_crew 3 (some .int) 2 := ⟨wq_646, wq_78, by decide, ⟨by decide +kernel, by decide +kernel, by decide +kernel⟩, by decide +kernel⟩
theorem mi_X5_digest : MInfo yX5_digest cX5_digest 5 (some .long) 0 := ⟨wq_819, wq_78, by decide, ⟨by decide +kernel, by decide +kernel, by decide +kernel⟩, by decide +kernel⟩
theorem mi_X5_mean : MInfo yX5_mean cX5_mean 4 (some .double) 0 := ⟨wq_896, wq_78, by decide, ⟨by decide +kernel, by decide +kernel, by decide +kernel⟩, by decide +kernel⟩
theorem mi_X5_worst : MInfo yX5_worst cX5_worst 3 (some .int) 0 := ⟨wq_704, wq_78, by decide, ⟨by decide +kernel, by decide +kernel, by decide +kernel⟩, by decide +kernel⟩
theorem mi_X5_air : MInfo yX5_air cX5_air 3 (some .int) 0 := ⟨wq_1469, wq_78, by decide, ⟨by decide +kernel, by decide +kernel, by decide +kernel⟩, by decide +kernel⟩
theorem mi_X5_canEnter : MInfo yX5_canEnter cX5_canEnter 2 (some .boolean) 1 := ⟨wq_650, wq_78, by decide, ⟨by decide +kernel, by decide +kernel, by decide +kernel⟩, by decide +kernel⟩
theorem mi_X5_whistle : MInfo yX5_whistle cX5_whistle 3 (some .int) 1 := ⟨wq_1464, wq_78, by decide, ⟨by decide +kernel, by decide +kernel, by decide +kernel⟩, by decide +kernel⟩
theorem mi_X5_cap : MInfo yX5_cap cX5_cap 3 (some .int) 1 := ⟨wq_1474, wq_78, by decide, ⟨by decide +kernel, by decide +kernel, by decide +kernel⟩, by decide +kernel⟩
theorem mi_X5_pass : MInfo yX5_pass cX5_pass 3 (some .int) 1 := ⟨wq_708, wq_78, by decide, ⟨by decide +kernel, by decide +kernel, by decide +kernel⟩, by decide +kernel⟩
theorem mi_X5_again : MInfo yX5_again cX5_again 3 (some .int) 2 := ⟨wq_1478, wq_78, by decide, ⟨by decide +kernel, by decide +kernel, by decide +kernel⟩, by decide +kernel⟩
theorem mi_X5_feed : MInfo yX5_feed cX5_feed 6 (some .int) 5 := ⟨wq_918, wq_78, by decide, ⟨by decide +kernel, by decide +kernel, by decide +kernel⟩, by decide +kernel⟩
theorem mi_X5_trim : MInfo yX5_trim cX5_trim 2 (some .int) 1 := ⟨wq_911, wq_78, by decide, ⟨by decide +kernel, by decide +kernel, by decide +kernel⟩, by decide +kernel⟩
def wp_X5_count (q : Nat → Nat) (P : M2) (KX : Nat → Prop) (ap : Nat) (F : M2) (G : M2) (C : M2) (x1 : Int32) (K : Int32 → Prop) : Prop := ((x1 = 0 → K (F 1 0)) ∧ (x1 = 1 → K (F 2 0)) ∧ (x1 = 2 → K (P 20 0)) ∧ (x1 = 3 → K (P 21 0)) ∧ (x1 = 4 → K (P 22 0)) ∧ (x1 = 5 → K (P 23 0)) ∧ (x1 = 6 → K (P 24 0)) ∧ (x1 = 7 → K (P 40 0)) ∧ (x1 = 8 → wp_X4_tally P F x1 (fun r_162 => K r_162)) ∧ (x1 = 9 → wp_X4_tally P F x1 (fun r_162 => K r_162)) ∧ (x1 = 10 → wp_X4_tally P F x1 (fun r_162 => K r_162)) ∧ (x1 = 11 → wp_X4_tally P F x1 (fun r_162 => K r_162)) ∧ (x1 = 12 → wp_X4_tally P F x1 (fun r_162 => K r_162)) ∧ (x1 = 13 → K (C 91 0)) ∧ (¬ x1 = 0 → ¬ x1 = 1 → ¬ x1 = 2 → ¬ x1 = 3 → ¬ x1 = 4 → ¬ x1 = 5 → ¬ x1 = 6 → ¬ x1 = 7 → ¬ x1 = 8 → ¬ x1 = 9 → ¬ x1 = 10 → ¬ x1 = 11 → ¬ x1 = 12 → ¬ x1 = 13 → KX 2))
set_option maxRecDepth 100000 in
set_option maxHeartbeats 4000000 in
theorem c_X5_count (l : Launch) (D : va_G) (Z : Nat → ClassId) (a b q : Nat → Nat) (ca tp rd sp : Nat) (P : M2) (ap : Nat) (F : M2) (G : M2) (C : M2) (sz : Nat) (x1 : Int32) (K : Int32 → Prop) (hm : wp_X5_count q P (fun _ => False) ap F G C x1 K) : Met l yX5_count (wy yX5_count cX5_count 2 (some .int)) (rk 7 0 0) (pre vwCl D Z (CA Z a b q ca tp rd sp P ap F G C) sz [.ref (ca), .int x1]) (vp_Si K) 0 0 (fun _ => False) := by
  refine ro_of (ty := .int) (by decide +kernel) (Nat.le_of_ble_eq_true rfl) rfl ?_
  intro p e s m args below meth c Q hC hN hsz hP hD hK hret ls hl
  have hx := hC.1
  have hb := hC.2.1
  have hl : lv_has ls 2 [(0, .ref (ca)), (1, .int x1)] := hl
  refine lv_iload_n hx hb dX5_count_0 rfl (lv_at hl 1 rfl) ?_
  by_cases s1_0 : x1 = 0
  · have hm := hm.1 s1_0
    refine w_swi (off := 71) (tgt := 72) 0 hx hb dX5_count_1 s1_0 (by decide) (by decide) (by decide) (by decide) ?_
    refine lv_aload_n hx hb dX5_count_72 rfl (lv_at hl 0 rfl) ?_
    refine gCA_cl_5 hC hK hP wq_490 dX5_count_73 ?_
    refine gCA_tun_1 hC hK hP wq_428 dX5_count_76 ?_
    exact hret 79 _ _ hm rfl dX5_count_79
  have hm := hm.2
  by_cases s1_1 : x1 = 1
  · have hm := hm.1 s1_1
    refine w_swi (off := 79) (tgt := 80) 1 hx hb dX5_count_1 s1_1 (by decide) (by decide) (by decide) (by decide) ?_
    refine lv_aload_n hx hb dX5_count_80 rfl (lv_at hl 0 rfl) ?_
    refine gCA_cl_5 hC hK hP wq_490 dX5_count_81 ?_
    refine gCA_tun_2 hC hK hP wq_430 dX5_count_84 ?_
    exact hret 87 _ _ hm rfl dX5_count_87
  have hm := hm.2
  by_cases s1_2 : x1 = 2
  · have hm := hm.1 s1_2
    refine w_swi (off := 87) (tgt := 88) 2 hx hb dX5_count_1 s1_2 (by decide) (by decide) (by decide) (by decide) ?_
    refine lv_aload_n hx hb dX5_count_88 rfl (lv_at hl 0 rfl) ?_
    refine gCA_cl_5 hC hK hP wq_490 dX5_count_89 ?_
    refine gCA_tun_0 hC hK hP wq_426 dX5_count_92 ?_
    refine gCA_plan_0 hC hK hP wq_289 dX5_count_95 ?_
    exact hret 98 _ _ hm rfl dX5_count_98
  have hm := hm.2
  by_cases s1_3 : x1 = 3
  · have hm := hm.1 s1_3
    refine w_swi (off := 98) (tgt := 99) 3 hx hb dX5_count_1 s1_3 (by decide) (by decide) (by decide) (by decide) ?_
    refine lv_aload_n hx hb dX5_count_99 rfl (lv_at hl 0 rfl) ?_
    refine gCA_cl_5 hC hK hP wq_490 dX5_count_100 ?_
    refine gCA_tun_0 hC hK hP wq_426 dX5_count_103 ?_
    refine gCA_plan_1 hC hK hP wq_293 dX5_count_106 ?_
    exact hret 109 _ _ hm rfl dX5_count_109
  have hm := hm.2
  by_cases s1_4 : x1 = 4
  · have hm := hm.1 s1_4
    refine w_swi (off := 109) (tgt := 110) 4 hx hb dX5_count_1 s1_4 (by decide) (by decide) (by decide) (by decide) ?_
    refine lv_aload_n hx hb dX5_count_110 rfl (lv_at hl 0 rfl) ?_
    refine gCA_cl_5 hC hK hP wq_490 dX5_count_111 ?_
    refine gCA_tun_0 hC hK hP wq_426 dX5_count_114 ?_
    refine gCA_plan_2 hC hK hP wq_296 dX5_count_117 ?_
    exact hret 120 _ _ hm rfl dX5_count_120
  have hm := hm.2
  by_cases s1_5 : x1 = 5
  · have hm := hm.1 s1_5
    refine w_swi (off := 120) (tgt := 121) 5 hx hb dX5_count_1 s1_5 (by decide) (by decide) (by decide) (by decide) ?_
    refine lv_aload_n hx hb dX5_count_121 rfl (lv_at hl 0 rfl) ?_
    refine gCA_cl_5 hC hK hP wq_490 dX5_count_122 ?_
    refine gCA_tun_0 hC hK hP wq_426 dX5_count_125 ?_
    refine gCA_plan_3 hC hK hP wq_301 dX5_count_128 ?_
    exact hret 131 _ _ hm rfl dX5_count_131
  have hm := hm.2
  by_cases s1_6 : x1 = 6
  · have hm := hm.1 s1_6
    refine w_swi (off := 131) (tgt := 132) 6 hx hb dX5_count_1 s1_6 (by decide) (by decide) (by decide) (by decide) ?_
    refine lv_aload_n hx hb dX5_count_132 rfl (lv_at hl 0 rfl) ?_
    refine gCA_cl_5 hC hK hP wq_490 dX5_count_133 ?_
    refine gCA_tun_0 hC hK hP wq_426 dX5_count_136 ?_
    refine gCA_plan_4 hC hK hP wq_305 dX5_count_139 ?_
    exact hret 142 _ _ hm rfl dX5_count_142
  have hm := hm.2
  by_cases s1_7 : x1 = 7
  · have hm := hm.1 s1_7
    refine w_swi (off := 142) (tgt := 143) 7 hx hb dX5_count_1 s1_7 (by decide) (by decide) (by decide) (by decide) ?_
    refine lv_aload_n hx hb dX5_count_143 rfl (lv_at hl 0 rfl) ?_
    refine gCA_cl_5 hC hK hP wq_490 dX5_count_144 ?_
    refine gCA_tun_0 hC hK hP wq_426 dX5_count_147 ?_
    refine gCA_plan_18 hC hK hP wq_343 dX5_count_150 ?_
    refine gCA_orders_0 hC hK hP wq_254 dX5_count_153 ?_
    exact hret 156 _ _ hm rfl dX5_count_156
  have hm := hm.2
  by_cases s1_8 : x1 = 8
  · have hm := hm.1 s1_8
    refine w_swi (off := 156) (tgt := 157) 8 hx hb dX5_count_1 s1_8 (by decide) (by decide) (by decide) (by decide) ?_
    refine lv_aload_n hx hb dX5_count_157 rfl (lv_at hl 0 rfl) ?_
    refine gCA_cl_5 hC hK hP wq_490 dX5_count_158 ?_
    refine lv_iload_n hx hb dX5_count_161 rfl (lv_at hl 1 rfl) ?_
    refine kx_X4_tally hC hN hK hP hD (sx_TWCA Z a b q ca tp rd sp P ap F G C) rfl hm wq_511 (by decide) hl.1 (Nat.le_of_ble_eq_true rfl) ⟨Nat.le_refl _, Nat.le_refl _⟩ dX5_count_162 (fun r_162 hm => ?_)
    exact hret 165 _ _ hm rfl dX5_count_165
  have hm := hm.2
  by_cases s1_9 : x1 = 9
  · have hm := hm.1 s1_9
    refine w_swi (off := 156) (tgt := 157) 9 hx hb dX5_count_1 s1_9 (by decide) (by decide) (by decide) (by decide) ?_
    refine lv_aload_n hx hb dX5_count_157 rfl (lv_at hl 0 rfl) ?_
    refine gCA_cl_5 hC hK hP wq_490 dX5_count_158 ?_
    refine lv_iload_n hx hb dX5_count_161 rfl (lv_at hl 1 rfl) ?_
    refine kx_X4_tally hC hN hK hP hD (sx_TWCA Z a b q ca tp rd sp P ap F G C) rfl hm wq_511 (by decide) hl.1 (Nat.le_of_ble_eq_true rfl) ⟨Nat.le_refl _, Nat.le_refl _⟩ dX5_count_162 (fun r_162 hm => ?_)
    exact hret 165 _ _ hm rfl dX5_count_165
  have hm := hm.2
  by_cases s1_10 : x1 = 10
  · have hm := hm.1 s1_10
    refine w_swi (off := 156) (tgt := 157) 10 hx hb dX5_count_1 s1_10 (by decide) (by decide) (by decide) (by decide) ?_
    refine lv_aload_n hx hb dX5_count_157 rfl (lv_at hl 0 rfl) ?_
    refine gCA_cl_5 hC hK hP wq_490 dX5_count_158 ?_
    refine lv_iload_n hx hb dX5_count_161 rfl (lv_at hl 1 rfl) ?_
    refine kx_X4_tally hC hN hK hP hD (sx_TWCA Z a b q ca tp rd sp P ap F G C) rfl hm wq_511 (by decide) hl.1 (Nat.le_of_ble_eq_true rfl) ⟨Nat.le_refl _, Nat.le_refl _⟩ dX5_count_162 (fun r_162 hm => ?_)
    exact hret 165 _ _ hm rfl dX5_count_165
  have hm := hm.2
  by_cases s1_11 : x1 = 11
  · have hm := hm.1 s1_11
    refine w_swi (off := 156) (tgt := 157) 11 hx hb dX5_count_1 s1_11 (by decide) (by decide) (by decide) (by decide) ?_
    refine lv_aload_n hx hb dX5_count_157 rfl (lv_at hl 0 rfl) ?_
    refine gCA_cl_5 hC hK hP wq_490 dX5_count_158 ?_
    refine lv_iload_n hx hb dX5_count_161 rfl (lv_at hl 1 rfl) ?_
    refine kx_X4_tally hC hN hK hP hD (sx_TWCA Z a b q ca tp rd sp P ap F G C) rfl hm wq_511 (by decide) hl.1 (Nat.le_of_ble_eq_true rfl) ⟨Nat.le_refl _, Nat.le_refl _⟩ dX5_count_162 (fun r_162 hm => ?_)
    exact hret 165 _ _ hm rfl dX5_count_165
  have hm := hm.2
  by_cases s1_12 : x1 = 12
  · have hm := hm.1 s1_12
    refine w_swi (off := 156) (tgt := 157) 12 hx hb dX5_count_1 s1_12 (by decide) (by decide) (by decide) (by decide) ?_
    refine lv_aload_n hx hb dX5_count_157 rfl (lv_at hl 0 rfl) ?_
    refine gCA_cl_5 hC hK hP wq_490 dX5_count_158 ?_
    refine lv_iload_n hx hb dX5_count_161 rfl (lv_at hl 1 rfl) ?_
    refine kx_X4_tally hC hN hK hP hD (sx_TWCA Z a b q ca tp rd sp P ap F G C) rfl hm wq_511 (by decide) hl.1 (Nat.le_of_ble_eq_true rfl) ⟨Nat.le_refl _, Nat.le_refl _⟩ dX5_count_162 (fun r_162 hm => ?_)
    exact hret 165 _ _ hm rfl dX5_count_165
  have hm := hm.2
  by_cases s1_13 : x1 = 13
  · have hm := hm.1 s1_13
    refine w_swi (off := 165) (tgt := 166) 13 hx hb dX5_count_1 s1_13 (by decide) (by decide) (by decide) (by decide) ?_
    refine lv_aload_n hx hb dX5_count_166 rfl (lv_at hl 0 rfl) ?_
    refine gCA_cl_1 hC hK hP wq_486 dX5_count_167 ?_
    exact hret 170 _ _ hm rfl dX5_count_170
  have hm := hm.2
  have hm := hm s1_0 s1_1 s1_2 s1_3 s1_4 s1_5 s1_6 s1_7 s1_8 s1_9 s1_10 s1_11 s1_12 s1_13
  refine w_swd (tgt := 171) [0, 1, 2, 3, 4, 5, 6, 7, 8, 9, 10, 11, 12, 13] hx hb dX5_count_1 (by decide) (by decide) (fun k hk => ?_) (by decide) ?_
  · simp only [List.mem_cons, List.not_mem_nil, or_false] at hk
    rcases hk with rfl | rfl | rfl | rfl | rfl | rfl | rfl | rfl | rfl | rfl | rfl | rfl | rfl | rfl
    · exact eq_toInt s1_0
    · exact eq_toInt s1_1
    · exact eq_toInt s1_2
    · exact eq_toInt s1_3
    · exact eq_toInt s1_4
    · exact eq_toInt s1_5
    · exact eq_toInt s1_6
    · exact eq_toInt s1_7
    · exact eq_toInt s1_8
    · exact eq_toInt s1_9
    · exact eq_toInt s1_10
    · exact eq_toInt s1_11
    · exact eq_toInt s1_12
    · exact eq_toInt s1_13
  · exact False.elim hm
section KX5_count
variable {p : Program} {l : Launch} {e : Env} {s : State} {m : MethodId} {args : Array Value} {below : List Frame} {meth : Method} {c : Code} {H H0 : Heap} {locs : List Loc} {cells slots : Nat} {Q : State → Prop} {R : Room} {rn mcR msR : Nat}
variable {pc : Nat} {ls : Array Slot} {rest : List Value} {A : Nat → Prop} {D : va_G}
variable {cc : ByteArray} {nL index : Nat} {own host : String}
theorem k_X5_count {Z : Nat → ClassId} {a b q : Nat → Nat} {ca tp rd sp : Nat} {P : M2} {ap : Nat} {F : M2} {G : M2} {C : M2} {x1 : Int32} {K : Int32 → Prop} (hC : CallFix p m c cc nL s args lw_g own) (hN : NW s) (hK : va_K D vwCl (tysG Z) s) (hP : va_P D vwCl (CA Z a b q ca tp rd sp P ap F G C) H) (hD : va_D (fun _ => True) (CA Z a b q ca tp rd sp P ap F G C)) (hm : wp_X5_count q P (fun _ => False) ap F G C x1 K) (hl : Cond.methodLink own index yX5_count ∈ lw_g) (hlt : 7 < rn) (hsize : ls.size = nL) (hW : (rest.map fun v => v.category).sum ≤ 8) (hf : cells + 0 ≤ mcR ∧ slots + 0 ≤ msR) (hdg : decode cc pc = .ok (.invokevirtual index, 3)) (kk : ∀ r : Int32, K r → W p l e (rk rn mcR msR) s m args below meth c H locs cells slots Q (F0 m (pc + 3) ls (.int r :: rest))) : W p l e (rk rn mcR msR) s m args below meth c H locs cells slots Q (F0 m pc ls (.int x1 :: .ref (ca) :: rest)) :=
  ro_go (runV (As := [.int x1]) hC hN (c_X5_count l D Z a b q ca tp rd sp P ap F G C H.size x1 K hm) mi_X5_count hl wq_508 wq_509 hlt hP hD hK (q0 := 45) rfl rfl rfl hsize rfl hW hdg hf) kk
end KX5_count
def wp_X5_place (q : Nat → Nat) (P : M2) (KX : Nat → Prop) (ap : Nat) (F : M2) (G : M2) (C : M2) (x1 : Int32) (x2 : Int32) (K : Int32 → Prop) : Prop := ((¬ x1 < 0 → x1 < (P 21 0) → ((x2 = 0 → K (atv (P 28) 60 x1)) ∧ (x2 = 1 → K (atv (F 4) 60 x1)) ∧ (x2 = 2 → wp_X4_capsAt P F x1 (fun r_76 => K r_76)) ∧ (x2 = 3 → wp_X4_boatAt P F x1 (fun r_85 => K r_85)) ∧ (¬ x2 = 0 → ¬ x2 = 1 → ¬ x2 = 2 → ¬ x2 = 3 → KX 2))) ∧ ((x1 < 0 ∨ ¬ x1 < (P 21 0)) → KX 2))
set_option maxRecDepth 100000 in
set_option maxHeartbeats 4000000 in
theorem c_X5_place (l : Launch) (D : va_G) (Z : Nat → ClassId) (a b q : Nat → Nat) (ca tp rd sp : Nat) (P : M2) (ap : Nat) (F : M2) (G : M2) (C : M2) (sz : Nat) (x1 : Int32) (x2 : Int32) (K : Int32 → Prop) (hm : wp_X5_place q P (fun _ => False) ap F G C x1 x2 K) : Met l yX5_place (wy yX5_place cX5_place 3 (some .int)) (rk 7 0 0) (pre vwCl D Z (CA Z a b q ca tp rd sp P ap F G C) sz [.ref (ca), .int x1, .int x2]) (vp_Si K) 0 0 (fun _ => False) := by
  refine ro_of (ty := .int) (by decide +kernel) (Nat.le_of_ble_eq_true rfl) rfl ?_
  intro p e s m args below meth c Q hC hN hsz hP hD hK hret ls hl
  have hx := hC.1
  have hb := hC.2.1
  have hl : lv_has ls 3 [(0, .ref (ca)), (1, .int x1), (2, .int x2)] := hl
  refine lv_iload_n hx hb dX5_place_0 rfl (lv_at hl 1 rfl) ?_
  refine lv_aload_n hx hb dX5_place_1 rfl (lv_at hl 0 rfl) ?_
  refine gCA_cl_5 hC hK hP wq_490 dX5_place_2 ?_
  refine gCA_tun_0 hC hK hP wq_426 dX5_place_5 ?_
  refine gCA_plan_1 hC hK hP wq_293 dX5_place_8 ?_
  have h_11 := w_nx hm.2
  refine w_needOneOfN hC h_11.1 h_11.2 wq_601 (by decide) hl.1 (Nat.le_of_ble_eq_true rfl) ⟨Nat.le_refl _, Nat.le_refl _⟩ dX5_place_11 ?_
  have hm := hm.1 h_11.1 h_11.2
  refine lv_iload_n hx hb dX5_place_14 rfl (lv_at hl 2 rfl) ?_
  by_cases s15_0 : x2 = 0
  · have hm := hm.1 s15_0
    refine w_swi (off := 29) (tgt := 44) 0 hx hb dX5_place_15 s15_0 (by decide) (by decide) (by decide) (by decide) ?_
    refine lv_aload_n hx hb dX5_place_44 rfl (lv_at hl 0 rfl) ?_
    refine gCA_cl_5 hC hK hP wq_490 dX5_place_45 ?_
    refine gCA_tun_0 hC hK hP wq_426 dX5_place_48 ?_
    refine gCA_plan_8 hC hK hP wq_317 dX5_place_51 ?_
    refine lv_iload_n hx hb dX5_place_54 rfl (lv_at hl 1 rfl) ?_
    refine w_atS (q0 := 16) hC hN hK hP wq_605 rfl (by decide) (by decide) hl.1 (Nat.le_of_ble_eq_true rfl) ⟨Nat.le_refl _, Nat.le_refl _⟩ dX5_place_55 ?_
    exact hret 58 _ _ hm rfl dX5_place_58
  have hm := hm.2
  by_cases s15_1 : x2 = 1
  · have hm := hm.1 s15_1
    refine w_swi (off := 44) (tgt := 59) 1 hx hb dX5_place_15 s15_1 (by decide) (by decide) (by decide) (by decide) ?_
    refine lv_aload_n hx hb dX5_place_59 rfl (lv_at hl 0 rfl) ?_
    refine gCA_cl_5 hC hK hP wq_490 dX5_place_60 ?_
    refine gCA_tun_4 hC hK hP wq_434 dX5_place_63 ?_
    refine lv_iload_n hx hb dX5_place_66 rfl (lv_at hl 1 rfl) ?_
    refine w_atS (q0 := 1) hC hN hK hP wq_605 rfl (by decide) (by decide) hl.1 (Nat.le_of_ble_eq_true rfl) ⟨Nat.le_refl _, Nat.le_refl _⟩ dX5_place_67 ?_
    exact hret 70 _ _ hm rfl dX5_place_70
  have hm := hm.2
  by_cases s15_2 : x2 = 2
  · have hm := hm.1 s15_2
    refine w_swi (off := 56) (tgt := 71) 2 hx hb dX5_place_15 s15_2 (by decide) (by decide) (by decide) (by decide) ?_
    refine lv_aload_n hx hb dX5_place_71 rfl (lv_at hl 0 rfl) ?_
    refine gCA_cl_5 hC hK hP wq_490 dX5_place_72 ?_
    refine lv_iload_n hx hb dX5_place_75 rfl (lv_at hl 1 rfl) ?_
    refine kx_X4_capsAt hC hN hK hP hD (sx_TWCA Z a b q ca tp rd sp P ap F G C) rfl hm wq_606 (by decide) hl.1 (Nat.le_of_ble_eq_true rfl) ⟨Nat.le_refl _, Nat.le_refl _⟩ dX5_place_76 (fun r_76 hm => ?_)
    exact hret 79 _ _ hm rfl dX5_place_79
  have hm := hm.2
  by_cases s15_3 : x2 = 3
  · have hm := hm.1 s15_3
    refine w_swi (off := 65) (tgt := 80) 3 hx hb dX5_place_15 s15_3 (by decide) (by decide) (by decide) (by decide) ?_
    refine lv_aload_n hx hb dX5_place_80 rfl (lv_at hl 0 rfl) ?_
    refine gCA_cl_5 hC hK hP wq_490 dX5_place_81 ?_
    refine lv_iload_n hx hb dX5_place_84 rfl (lv_at hl 1 rfl) ?_
    refine kx_X4_boatAt hC hN hK hP hD (sx_TWCA Z a b q ca tp rd sp P ap F G C) rfl hm wq_610 (by decide) hl.1 (Nat.le_of_ble_eq_true rfl) ⟨Nat.le_refl _, Nat.le_refl _⟩ dX5_place_85 (fun r_85 hm => ?_)
    exact hret 88 _ _ hm rfl dX5_place_88
  have hm := hm.2
  have hm := hm s15_0 s15_1 s15_2 s15_3
  refine w_swd (tgt := 89) [0, 1, 2, 3] hx hb dX5_place_15 (by decide) (by decide) (fun k hk => ?_) (by decide) ?_
  · simp only [List.mem_cons, List.not_mem_nil, or_false] at hk
    rcases hk with rfl | rfl | rfl | rfl
    · exact eq_toInt s15_0
    · exact eq_toInt s15_1
    · exact eq_toInt s15_2
    · exact eq_toInt s15_3
  · exact False.elim hm
section KX5_place
variable {p : Program} {l : Launch} {e : Env} {s : State} {m : MethodId} {args : Array Value} {below : List Frame} {meth : Method} {c : Code} {H H0 : Heap} {locs : List Loc} {cells slots : Nat} {Q : State → Prop} {R : Room} {rn mcR msR : Nat}
variable {pc : Nat} {ls : Array Slot} {rest : List Value} {A : Nat → Prop} {D : va_G}
variable {cc : ByteArray} {nL index : Nat} {own host : String}
theorem k_X5_place {Z : Nat → ClassId} {a b q : Nat → Nat} {ca tp rd sp : Nat} {P : M2} {ap : Nat} {F : M2} {G : M2} {C : M2} {x1 : Int32} {x2 : Int32} {K : Int32 → Prop} (hC : CallFix p m c cc nL s args lw_g own) (hN : NW s) (hK : va_K D vwCl (tysG Z) s) (hP : va_P D vwCl (CA Z a b q ca tp rd sp P ap F G C) H) (hD : va_D (fun _ => True) (CA Z a b q ca tp rd sp P ap F G C)) (hm : wp_X5_place q P (fun _ => False) ap F G C x1 x2 K) (hl : Cond.methodLink own index yX5_place ∈ lw_g) (hlt : 7 < rn) (hsize : ls.size = nL) (hW : (rest.map fun v => v.category).sum ≤ 8) (hf : cells + 0 ≤ mcR ∧ slots + 0 ≤ msR) (hdg : decode cc pc = .ok (.invokevirtual index, 3)) (kk : ∀ r : Int32, K r → W p l e (rk rn mcR msR) s m args below meth c H locs cells slots Q (F0 m (pc + 3) ls (.int r :: rest))) : W p l e (rk rn mcR msR) s m args below meth c H locs cells slots Q (F0 m pc ls (.int x2 :: .int x1 :: .ref (ca) :: rest)) :=
  ro_go (runV (As := [.int x1, .int x2]) hC hN (c_X5_place l D Z a b q ca tp rd sp P ap F G C H.size x1 x2 K hm) mi_X5_place hl wq_598 wq_599 hlt hP hD hK (q0 := 45) rfl rfl rfl hsize rfl hW hdg hf) kk
end KX5_place
def wp_X5_bore (q : Nat → Nat) (P : M2) (KX : Nat → Prop) (ap : Nat) (F : M2) (G : M2) (C : M2) (x1 : Int32) (x2 : Int32) (K : Int32 → Prop) : Prop := ((¬ x1 < 0 → x1 < (P 20 0) → ((x2 = 0 → K (atv (P 25) 5 x1)) ∧ (x2 = 1 → K (atv (P 26) 5 x1)) ∧ (x2 = 2 → K (atv (P 27) 5 x1)) ∧ (x2 = 3 → wp_X4_airOfBore P F x1 (fun r_94 => K r_94)) ∧ (¬ x2 = 0 → ¬ x2 = 1 → ¬ x2 = 2 → ¬ x2 = 3 → KX 2))) ∧ ((x1 < 0 ∨ ¬ x1 < (P 20 0)) → KX 2))
set_option maxRecDepth 100000 in
set_option maxHeartbeats 4000000 in
theorem c_X5_bore (l : Launch) (D : va_G) (Z : Nat → ClassId) (a b q : Nat → Nat) (ca tp rd sp : Nat) (P : M2) (ap : Nat) (F : M2) (G : M2) (C : M2) (sz : Nat) (x1 : Int32) (x2 : Int32) (K : Int32 → Prop) (hm : wp_X5_bore q P (fun _ => False) ap F G C x1 x2 K) : Met l yX5_bore (wy yX5_bore cX5_bore 3 (some .int)) (rk 7 0 0) (pre vwCl D Z (CA Z a b q ca tp rd sp P ap F G C) sz [.ref (ca), .int x1, .int x2]) (vp_Si K) 0 0 (fun _ => False) := by
  refine ro_of (ty := .int) (by decide +kernel) (Nat.le_of_ble_eq_true rfl) rfl ?_
  intro p e s m args below meth c Q hC hN hsz hP hD hK hret ls hl
  have hx := hC.1
  have hb := hC.2.1
  have hl : lv_has ls 3 [(0, .ref (ca)), (1, .int x1), (2, .int x2)] := hl
  refine lv_iload_n hx hb dX5_bore_0 rfl (lv_at hl 1 rfl) ?_
  refine lv_aload_n hx hb dX5_bore_1 rfl (lv_at hl 0 rfl) ?_
  refine gCA_cl_5 hC hK hP wq_490 dX5_bore_2 ?_
  refine gCA_tun_0 hC hK hP wq_426 dX5_bore_5 ?_
  refine gCA_plan_0 hC hK hP wq_289 dX5_bore_8 ?_
  have h_11 := w_nx hm.2
  refine w_needOneOfN hC h_11.1 h_11.2 wq_601 (by decide) hl.1 (Nat.le_of_ble_eq_true rfl) ⟨Nat.le_refl _, Nat.le_refl _⟩ dX5_bore_11 ?_
  have hm := hm.1 h_11.1 h_11.2
  refine lv_iload_n hx hb dX5_bore_14 rfl (lv_at hl 2 rfl) ?_
  by_cases s15_0 : x2 = 0
  · have hm := hm.1 s15_0
    refine w_swi (off := 29) (tgt := 44) 0 hx hb dX5_bore_15 s15_0 (by decide) (by decide) (by decide) (by decide) ?_
    refine lv_aload_n hx hb dX5_bore_44 rfl (lv_at hl 0 rfl) ?_
    refine gCA_cl_5 hC hK hP wq_490 dX5_bore_45 ?_
    refine gCA_tun_0 hC hK hP wq_426 dX5_bore_48 ?_
    refine gCA_plan_5 hC hK hP wq_308 dX5_bore_51 ?_
    refine lv_iload_n hx hb dX5_bore_54 rfl (lv_at hl 1 rfl) ?_
    refine w_atS (q0 := 13) hC hN hK hP wq_605 rfl (by decide) (by decide) hl.1 (Nat.le_of_ble_eq_true rfl) ⟨Nat.le_refl _, Nat.le_refl _⟩ dX5_bore_55 ?_
    exact hret 58 _ _ hm rfl dX5_bore_58
  have hm := hm.2
  by_cases s15_1 : x2 = 1
  · have hm := hm.1 s15_1
    refine w_swi (off := 44) (tgt := 59) 1 hx hb dX5_bore_15 s15_1 (by decide) (by decide) (by decide) (by decide) ?_
    refine lv_aload_n hx hb dX5_bore_59 rfl (lv_at hl 0 rfl) ?_
    refine gCA_cl_5 hC hK hP wq_490 dX5_bore_60 ?_
    refine gCA_tun_0 hC hK hP wq_426 dX5_bore_63 ?_
    refine gCA_plan_6 hC hK hP wq_311 dX5_bore_66 ?_
    refine lv_iload_n hx hb dX5_bore_69 rfl (lv_at hl 1 rfl) ?_
    refine w_atS (q0 := 14) hC hN hK hP wq_605 rfl (by decide) (by decide) hl.1 (Nat.le_of_ble_eq_true rfl) ⟨Nat.le_refl _, Nat.le_refl _⟩ dX5_bore_70 ?_
    exact hret 73 _ _ hm rfl dX5_bore_73
  have hm := hm.2
  by_cases s15_2 : x2 = 2
  · have hm := hm.1 s15_2
    refine w_swi (off := 59) (tgt := 74) 2 hx hb dX5_bore_15 s15_2 (by decide) (by decide) (by decide) (by decide) ?_
    refine lv_aload_n hx hb dX5_bore_74 rfl (lv_at hl 0 rfl) ?_
    refine gCA_cl_5 hC hK hP wq_490 dX5_bore_75 ?_
    refine gCA_tun_0 hC hK hP wq_426 dX5_bore_78 ?_
    refine gCA_plan_7 hC hK hP wq_314 dX5_bore_81 ?_
    refine lv_iload_n hx hb dX5_bore_84 rfl (lv_at hl 1 rfl) ?_
    refine w_atS (q0 := 15) hC hN hK hP wq_605 rfl (by decide) (by decide) hl.1 (Nat.le_of_ble_eq_true rfl) ⟨Nat.le_refl _, Nat.le_refl _⟩ dX5_bore_85 ?_
    exact hret 88 _ _ hm rfl dX5_bore_88
  have hm := hm.2
  by_cases s15_3 : x2 = 3
  · have hm := hm.1 s15_3
    refine w_swi (off := 74) (tgt := 89) 3 hx hb dX5_bore_15 s15_3 (by decide) (by decide) (by decide) (by decide) ?_
    refine lv_aload_n hx hb dX5_bore_89 rfl (lv_at hl 0 rfl) ?_
    refine gCA_cl_5 hC hK hP wq_490 dX5_bore_90 ?_
    refine lv_iload_n hx hb dX5_bore_93 rfl (lv_at hl 1 rfl) ?_
    refine kx_X4_airOfBore hC hN hK hP hD (sx_TWCA Z a b q ca tp rd sp P ap F G C) rfl hm wq_619 (by decide) hl.1 (Nat.le_of_ble_eq_true rfl) ⟨Nat.le_refl _, Nat.le_refl _⟩ dX5_bore_94 (fun r_94 hm => ?_)
    exact hret 97 _ _ hm rfl dX5_bore_97
  have hm := hm.2
  have hm := hm s15_0 s15_1 s15_2 s15_3
  refine w_swd (tgt := 98) [0, 1, 2, 3] hx hb dX5_bore_15 (by decide) (by decide) (fun k hk => ?_) (by decide) ?_
  · simp only [List.mem_cons, List.not_mem_nil, or_false] at hk
    rcases hk with rfl | rfl | rfl | rfl
    · exact eq_toInt s15_0
    · exact eq_toInt s15_1
    · exact eq_toInt s15_2
    · exact eq_toInt s15_3
  · exact False.elim hm
section KX5_bore
variable {p : Program} {l : Launch} {e : Env} {s : State} {m : MethodId} {args : Array Value} {below : List Frame} {meth : Method} {c : Code} {H H0 : Heap} {locs : List Loc} {cells slots : Nat} {Q : State → Prop} {R : Room} {rn mcR msR : Nat}
variable {pc : Nat} {ls : Array Slot} {rest : List Value} {A : Nat → Prop} {D : va_G}
variable {cc : ByteArray} {nL index : Nat} {own host : String}
theorem k_X5_bore {Z : Nat → ClassId} {a b q : Nat → Nat} {ca tp rd sp : Nat} {P : M2} {ap : Nat} {F : M2} {G : M2} {C : M2} {x1 : Int32} {x2 : Int32} {K : Int32 → Prop} (hC : CallFix p m c cc nL s args lw_g own) (hN : NW s) (hK : va_K D vwCl (tysG Z) s) (hP : va_P D vwCl (CA Z a b q ca tp rd sp P ap F G C) H) (hD : va_D (fun _ => True) (CA Z a b q ca tp rd sp P ap F G C)) (hm : wp_X5_bore q P (fun _ => False) ap F G C x1 x2 K) (hl : Cond.methodLink own index yX5_bore ∈ lw_g) (hlt : 7 < rn) (hsize : ls.size = nL) (hW : (rest.map fun v => v.category).sum ≤ 8) (hf : cells + 0 ≤ mcR ∧ slots + 0 ≤ msR) (hdg : decode cc pc = .ok (.invokevirtual index, 3)) (kk : ∀ r : Int32, K r → W p l e (rk rn mcR msR) s m args below meth c H locs cells slots Q (F0 m (pc + 3) ls (.int r :: rest))) : W p l e (rk rn mcR msR) s m args below meth c H locs cells slots Q (F0 m pc ls (.int x2 :: .int x1 :: .ref (ca) :: rest)) :=
  ro_go (runV (As := [.int x1, .int x2]) hC hN (c_X5_bore l D Z a b q ca tp rd sp P ap F G C H.size x1 x2 K hm) mi_X5_bore hl wq_616 wq_617 hlt hP hD hK (q0 := 45) rfl rfl rfl hsize rfl hW hdg hf) kk
end KX5_bore
def wp_X5_legger (q : Nat → Nat) (P : M2) (KX : Nat → Prop) (ap : Nat) (F : M2) (G : M2) (C : M2) (x1 : Int32) (x2 : Int32) (K : Int32 → Prop) : Prop := ((¬ x1 < 0 → x1 < (P 23 0) → ((x2 = 0 → K (atv (P 31) 6 x1)) ∧ (x2 = 1 → K (atv (P 32) 6 x1)) ∧ (x2 = 2 → K (atv (F 5) 6 x1)) ∧ (x2 = 3 → ((¬ (atv (F 7) 6 x1) = ((-1)) → K 0) ∧ ((atv (F 7) 6 x1) = ((-1)) → K 1))) ∧ (x2 = 4 → wp_X4_boatOf P F x1 (fun r_124 => K r_124)) ∧ (x2 = 5 → K (atv (F 6) 6 x1)) ∧ (x2 = 6 → K (atv (F 7) 6 x1)) ∧ (¬ x2 = 0 → ¬ x2 = 1 → ¬ x2 = 2 → ¬ x2 = 3 → ¬ x2 = 4 → ¬ x2 = 5 → ¬ x2 = 6 → KX 2))) ∧ ((x1 < 0 ∨ ¬ x1 < (P 23 0)) → KX 2))
set_option maxRecDepth 100000 in
set_option maxHeartbeats 4000000 in
theorem c_X5_legger (l : Launch) (D : va_G) (Z : Nat → ClassId) (a b q : Nat → Nat) (ca tp rd sp : Nat) (P : M2) (ap : Nat) (F : M2) (G : M2) (C : M2) (sz : Nat) (x1 : Int32) (x2 : Int32) (K : Int32 → Prop) (hm : wp_X5_legger q P (fun _ => False) ap F G C x1 x2 K) : Met l yX5_legger (wy yX5_legger cX5_legger 3 (some .int)) (rk 7 0 0) (pre vwCl D Z (CA Z a b q ca tp rd sp P ap F G C) sz [.ref (ca), .int x1, .int x2]) (vp_Si K) 0 0 (fun _ => False) := by
  refine ro_of (ty := .int) (by decide +kernel) (Nat.le_of_ble_eq_true rfl) rfl ?_
  intro p e s m args below meth c Q hC hN hsz hP hD hK hret ls hl
  have hx := hC.1
  have hb := hC.2.1
  have hl : lv_has ls 3 [(0, .ref (ca)), (1, .int x1), (2, .int x2)] := hl
  refine lv_iload_n hx hb dX5_legger_0 rfl (lv_at hl 1 rfl) ?_
  refine lv_aload_n hx hb dX5_legger_1 rfl (lv_at hl 0 rfl) ?_
  refine gCA_cl_5 hC hK hP wq_490 dX5_legger_2 ?_
  refine gCA_tun_0 hC hK hP wq_426 dX5_legger_5 ?_
  refine gCA_plan_3 hC hK hP wq_301 dX5_legger_8 ?_
  have h_11 := w_nx hm.2
  refine w_needOneOfN hC h_11.1 h_11.2 wq_601 (by decide) hl.1 (Nat.le_of_ble_eq_true rfl) ⟨Nat.le_refl _, Nat.le_refl _⟩ dX5_legger_11 ?_
  have hm := hm.1 h_11.1 h_11.2
  refine lv_iload_n hx hb dX5_legger_14 rfl (lv_at hl 2 rfl) ?_
  by_cases s15_0 : x2 = 0
  · have hm := hm.1 s15_0
    refine w_swi (off := 41) (tgt := 56) 0 hx hb dX5_legger_15 s15_0 (by decide) (by decide) (by decide) (by decide) ?_
    refine lv_aload_n hx hb dX5_legger_56 rfl (lv_at hl 0 rfl) ?_
    refine gCA_cl_5 hC hK hP wq_490 dX5_legger_57 ?_
    refine gCA_tun_0 hC hK hP wq_426 dX5_legger_60 ?_
    refine gCA_plan_11 hC hK hP wq_324 dX5_legger_63 ?_
    refine lv_iload_n hx hb dX5_legger_66 rfl (lv_at hl 1 rfl) ?_
    refine w_atS (q0 := 19) hC hN hK hP wq_605 rfl (by decide) (by decide) hl.1 (Nat.le_of_ble_eq_true rfl) ⟨Nat.le_refl _, Nat.le_refl _⟩ dX5_legger_67 ?_
    exact hret 70 _ _ hm rfl dX5_legger_70
  have hm := hm.2
  by_cases s15_1 : x2 = 1
  · have hm := hm.1 s15_1
    refine w_swi (off := 56) (tgt := 71) 1 hx hb dX5_legger_15 s15_1 (by decide) (by decide) (by decide) (by decide) ?_
    refine lv_aload_n hx hb dX5_legger_71 rfl (lv_at hl 0 rfl) ?_
    refine gCA_cl_5 hC hK hP wq_490 dX5_legger_72 ?_
    refine gCA_tun_0 hC hK hP wq_426 dX5_legger_75 ?_
    refine gCA_plan_12 hC hK hP wq_328 dX5_legger_78 ?_
    refine lv_iload_n hx hb dX5_legger_81 rfl (lv_at hl 1 rfl) ?_
    refine w_atS (q0 := 20) hC hN hK hP wq_605 rfl (by decide) (by decide) hl.1 (Nat.le_of_ble_eq_true rfl) ⟨Nat.le_refl _, Nat.le_refl _⟩ dX5_legger_82 ?_
    exact hret 85 _ _ hm rfl dX5_legger_85
  have hm := hm.2
  by_cases s15_2 : x2 = 2
  · have hm := hm.1 s15_2
    refine w_swi (off := 71) (tgt := 86) 2 hx hb dX5_legger_15 s15_2 (by decide) (by decide) (by decide) (by decide) ?_
    refine lv_aload_n hx hb dX5_legger_86 rfl (lv_at hl 0 rfl) ?_
    refine gCA_cl_5 hC hK hP wq_490 dX5_legger_87 ?_
    refine gCA_tun_5 hC hK hP wq_436 dX5_legger_90 ?_
    refine lv_iload_n hx hb dX5_legger_93 rfl (lv_at hl 1 rfl) ?_
    refine w_atS (q0 := 2) hC hN hK hP wq_605 rfl (by decide) (by decide) hl.1 (Nat.le_of_ble_eq_true rfl) ⟨Nat.le_refl _, Nat.le_refl _⟩ dX5_legger_94 ?_
    exact hret 97 _ _ hm rfl dX5_legger_97
  have hm := hm.2
  by_cases s15_3 : x2 = 3
  · have hm := hm.1 s15_3
    refine w_swi (off := 83) (tgt := 98) 3 hx hb dX5_legger_15 s15_3 (by decide) (by decide) (by decide) (by decide) ?_
    refine lv_aload_n hx hb dX5_legger_98 rfl (lv_at hl 0 rfl) ?_
    refine gCA_cl_5 hC hK hP wq_490 dX5_legger_99 ?_
    refine gCA_tun_7 hC hK hP wq_440 dX5_legger_102 ?_
    refine lv_iload_n hx hb dX5_legger_105 rfl (lv_at hl 1 rfl) ?_
    refine w_atS (q0 := 4) hC hN hK hP wq_605 rfl (by decide) (by decide) hl.1 (Nat.le_of_ble_eq_true rfl) ⟨Nat.le_refl _, Nat.le_refl _⟩ dX5_legger_106 ?_
    refine lv_iconst (v := (-1)) hx hb dX5_legger_109 (by decide) ?_
    refine lv_icmp_ne (tgt := 117) hx hb dX5_legger_110 (by decide) (fun c_110 => ?_) (fun c_110 => ?_)
    · have hm := hm.1 c_110
      refine lv_iconst (v := 0) hx hb dX5_legger_117 (by decide) ?_
      exact hret 118 _ _ hm rfl dX5_legger_118
    · have hm := hm.2 c_110
      refine lv_iconst (v := 1) hx hb dX5_legger_113 (by decide) ?_
      refine lv_goto (tgt := 118) hx hb dX5_legger_114 (by decide) ?_
      exact hret 118 _ _ hm rfl dX5_legger_118
  have hm := hm.2
  by_cases s15_4 : x2 = 4
  · have hm := hm.1 s15_4
    refine w_swi (off := 104) (tgt := 119) 4 hx hb dX5_legger_15 s15_4 (by decide) (by decide) (by decide) (by decide) ?_
    refine lv_aload_n hx hb dX5_legger_119 rfl (lv_at hl 0 rfl) ?_
    refine gCA_cl_5 hC hK hP wq_490 dX5_legger_120 ?_
    refine lv_iload_n hx hb dX5_legger_123 rfl (lv_at hl 1 rfl) ?_
    refine kx_X4_boatOf hC hN hK hP hD (sx_TWCA Z a b q ca tp rd sp P ap F G C) rfl hm wq_628 (by decide) hl.1 (Nat.le_of_ble_eq_true rfl) ⟨Nat.le_refl _, Nat.le_refl _⟩ dX5_legger_124 (fun r_124 hm => ?_)
    exact hret 127 _ _ hm rfl dX5_legger_127
  have hm := hm.2
  by_cases s15_5 : x2 = 5
  · have hm := hm.1 s15_5
    refine w_swi (off := 113) (tgt := 128) 5 hx hb dX5_legger_15 s15_5 (by decide) (by decide) (by decide) (by decide) ?_
    refine lv_aload_n hx hb dX5_legger_128 rfl (lv_at hl 0 rfl) ?_
    refine gCA_cl_5 hC hK hP wq_490 dX5_legger_129 ?_
    refine gCA_tun_6 hC hK hP wq_438 dX5_legger_132 ?_
    refine lv_iload_n hx hb dX5_legger_135 rfl (lv_at hl 1 rfl) ?_
    refine w_atS (q0 := 3) hC hN hK hP wq_605 rfl (by decide) (by decide) hl.1 (Nat.le_of_ble_eq_true rfl) ⟨Nat.le_refl _, Nat.le_refl _⟩ dX5_legger_136 ?_
    exact hret 139 _ _ hm rfl dX5_legger_139
  have hm := hm.2
  by_cases s15_6 : x2 = 6
  · have hm := hm.1 s15_6
    refine w_swi (off := 125) (tgt := 140) 6 hx hb dX5_legger_15 s15_6 (by decide) (by decide) (by decide) (by decide) ?_
    refine lv_aload_n hx hb dX5_legger_140 rfl (lv_at hl 0 rfl) ?_
    refine gCA_cl_5 hC hK hP wq_490 dX5_legger_141 ?_
    refine gCA_tun_7 hC hK hP wq_440 dX5_legger_144 ?_
    refine lv_iload_n hx hb dX5_legger_147 rfl (lv_at hl 1 rfl) ?_
    refine w_atS (q0 := 4) hC hN hK hP wq_605 rfl (by decide) (by decide) hl.1 (Nat.le_of_ble_eq_true rfl) ⟨Nat.le_refl _, Nat.le_refl _⟩ dX5_legger_148 ?_
    exact hret 151 _ _ hm rfl dX5_legger_151
  have hm := hm.2
  have hm := hm s15_0 s15_1 s15_2 s15_3 s15_4 s15_5 s15_6
  refine w_swd (tgt := 152) [0, 1, 2, 3, 4, 5, 6] hx hb dX5_legger_15 (by decide) (by decide) (fun k hk => ?_) (by decide) ?_
  · simp only [List.mem_cons, List.not_mem_nil, or_false] at hk
    rcases hk with rfl | rfl | rfl | rfl | rfl | rfl | rfl
    · exact eq_toInt s15_0
    · exact eq_toInt s15_1
    · exact eq_toInt s15_2
    · exact eq_toInt s15_3
    · exact eq_toInt s15_4
    · exact eq_toInt s15_5
    · exact eq_toInt s15_6
  · exact False.elim hm
section KX5_legger
variable {p : Program} {l : Launch} {e : Env} {s : State} {m : MethodId} {args : Array Value} {below : List Frame} {meth : Method} {c : Code} {H H0 : Heap} {locs : List Loc} {cells slots : Nat} {Q : State → Prop} {R : Room} {rn mcR msR : Nat}
variable {pc : Nat} {ls : Array Slot} {rest : List Value} {A : Nat → Prop} {D : va_G}
variable {cc : ByteArray} {nL index : Nat} {own host : String}
theorem k_X5_legger {Z : Nat → ClassId} {a b q : Nat → Nat} {ca tp rd sp : Nat} {P : M2} {ap : Nat} {F : M2} {G : M2} {C : M2} {x1 : Int32} {x2 : Int32} {K : Int32 → Prop} (hC : CallFix p m c cc nL s args lw_g own) (hN : NW s) (hK : va_K D vwCl (tysG Z) s) (hP : va_P D vwCl (CA Z a b q ca tp rd sp P ap F G C) H) (hD : va_D (fun _ => True) (CA Z a b q ca tp rd sp P ap F G C)) (hm : wp_X5_legger q P (fun _ => False) ap F G C x1 x2 K) (hl : Cond.methodLink own index yX5_legger ∈ lw_g) (hlt : 7 < rn) (hsize : ls.size = nL) (hW : (rest.map fun v => v.category).sum ≤ 8) (hf : cells + 0 ≤ mcR ∧ slots + 0 ≤ msR) (hdg : decode cc pc = .ok (.invokevirtual index, 3)) (kk : ∀ r : Int32, K r → W p l e (rk rn mcR msR) s m args below meth c H locs cells slots Q (F0 m (pc + 3) ls (.int r :: rest))) : W p l e (rk rn mcR msR) s m args below meth c H locs cells slots Q (F0 m pc ls (.int x2 :: .int x1 :: .ref (ca) :: rest)) :=
  ro_go (runV (As := [.int x1, .int x2]) hC hN (c_X5_legger l D Z a b q ca tp rd sp P ap F G C H.size x1 x2 K hm) mi_X5_legger hl wq_625 wq_626 hlt hP hD hK (q0 := 45) rfl rfl rfl hsize rfl hW hdg hf) kk
end KX5_legger
def wp_X5_boat (q : Nat → Nat) (P : M2) (KX : Nat → Prop) (ap : Nat) (F : M2) (G : M2) (C : M2) (x1 : Int32) (x2 : Int32) (K : Int32 → Prop) : Prop := ((¬ x1 < 0 → x1 < (P 24 0) → ((x2 = 0 → K (atv (P 33) 8 x1)) ∧ (x2 = 1 → K (atv (F 8) 8 x1)) ∧ (x2 = 2 → K (atv (F 9) 8 x1)) ∧ (x2 = 3 → K (atv (F 10) 8 x1)) ∧ (x2 = 4 → K (atv (F 11) 8 x1)) ∧ (x2 = 5 → K (atv (F 12) 8 x1)) ∧ (x2 = 6 → K (atv (F 13) 8 x1)) ∧ (¬ x2 = 0 → ¬ x2 = 1 → ¬ x2 = 2 → ¬ x2 = 3 → ¬ x2 = 4 → ¬ x2 = 5 → ¬ x2 = 6 → KX 2))) ∧ ((x1 < 0 ∨ ¬ x1 < (P 24 0)) → KX 2))
set_option maxRecDepth 100000 in
set_option maxHeartbeats 4000000 in
theorem c_X5_boat (l : Launch) (D : va_G) (Z : Nat → ClassId) (a b q : Nat → Nat) (ca tp rd sp : Nat) (P : M2) (ap : Nat) (F : M2) (G : M2) (C : M2) (sz : Nat) (x1 : Int32) (x2 : Int32) (K : Int32 → Prop) (hm : wp_X5_boat q P (fun _ => False) ap F G C x1 x2 K) : Met l yX5_boat (wy yX5_boat cX5_boat 3 (some .int)) (rk 7 0 0) (pre vwCl D Z (CA Z a b q ca tp rd sp P ap F G C) sz [.ref (ca), .int x1, .int x2]) (vp_Si K) 0 0 (fun _ => False) := by
  refine ro_of (ty := .int) (by decide +kernel) (Nat.le_of_ble_eq_true rfl) rfl ?_
  intro p e s m args below meth c Q hC hN hsz hP hD hK hret ls hl
  have hx := hC.1
  have hb := hC.2.1
  have hl : lv_has ls 3 [(0, .ref (ca)), (1, .int x1), (2, .int x2)] := hl
  refine lv_iload_n hx hb dX5_boat_0 rfl (lv_at hl 1 rfl) ?_
  refine lv_aload_n hx hb dX5_boat_1 rfl (lv_at hl 0 rfl) ?_
  refine gCA_cl_5 hC hK hP wq_490 dX5_boat_2 ?_
  refine gCA_tun_0 hC hK hP wq_426 dX5_boat_5 ?_
  refine gCA_plan_4 hC hK hP wq_305 dX5_boat_8 ?_
  have h_11 := w_nx hm.2
  refine w_needOneOfN hC h_11.1 h_11.2 wq_601 (by decide) hl.1 (Nat.le_of_ble_eq_true rfl) ⟨Nat.le_refl _, Nat.le_refl _⟩ dX5_boat_11 ?_
  have hm := hm.1 h_11.1 h_11.2
  refine lv_iload_n hx hb dX5_boat_14 rfl (lv_at hl 2 rfl) ?_
  by_cases s15_0 : x2 = 0
  · have hm := hm.1 s15_0
    refine w_swi (off := 41) (tgt := 56) 0 hx hb dX5_boat_15 s15_0 (by decide) (by decide) (by decide) (by decide) ?_
    refine lv_aload_n hx hb dX5_boat_56 rfl (lv_at hl 0 rfl) ?_
    refine gCA_cl_5 hC hK hP wq_490 dX5_boat_57 ?_
    refine gCA_tun_0 hC hK hP wq_426 dX5_boat_60 ?_
    refine gCA_plan_13 hC hK hP wq_330 dX5_boat_63 ?_
    refine lv_iload_n hx hb dX5_boat_66 rfl (lv_at hl 1 rfl) ?_
    refine w_atS (q0 := 21) hC hN hK hP wq_605 rfl (by decide) (by decide) hl.1 (Nat.le_of_ble_eq_true rfl) ⟨Nat.le_refl _, Nat.le_refl _⟩ dX5_boat_67 ?_
    exact hret 70 _ _ hm rfl dX5_boat_70
  have hm := hm.2
  by_cases s15_1 : x2 = 1
  · have hm := hm.1 s15_1
    refine w_swi (off := 56) (tgt := 71) 1 hx hb dX5_boat_15 s15_1 (by decide) (by decide) (by decide) (by decide) ?_
    refine lv_aload_n hx hb dX5_boat_71 rfl (lv_at hl 0 rfl) ?_
    refine gCA_cl_5 hC hK hP wq_490 dX5_boat_72 ?_
    refine gCA_tun_8 hC hK hP wq_442 dX5_boat_75 ?_
    refine lv_iload_n hx hb dX5_boat_78 rfl (lv_at hl 1 rfl) ?_
    refine w_atS (q0 := 5) hC hN hK hP wq_605 rfl (by decide) (by decide) hl.1 (Nat.le_of_ble_eq_true rfl) ⟨Nat.le_refl _, Nat.le_refl _⟩ dX5_boat_79 ?_
    exact hret 82 _ _ hm rfl dX5_boat_82
  have hm := hm.2
  by_cases s15_2 : x2 = 2
  · have hm := hm.1 s15_2
    refine w_swi (off := 68) (tgt := 83) 2 hx hb dX5_boat_15 s15_2 (by decide) (by decide) (by decide) (by decide) ?_
    refine lv_aload_n hx hb dX5_boat_83 rfl (lv_at hl 0 rfl) ?_
    refine gCA_cl_5 hC hK hP wq_490 dX5_boat_84 ?_
    refine gCA_tun_9 hC hK hP wq_444 dX5_boat_87 ?_
    refine lv_iload_n hx hb dX5_boat_90 rfl (lv_at hl 1 rfl) ?_
    refine w_atS (q0 := 6) hC hN hK hP wq_605 rfl (by decide) (by decide) hl.1 (Nat.le_of_ble_eq_true rfl) ⟨Nat.le_refl _, Nat.le_refl _⟩ dX5_boat_91 ?_
    exact hret 94 _ _ hm rfl dX5_boat_94
  have hm := hm.2
  by_cases s15_3 : x2 = 3
  · have hm := hm.1 s15_3
    refine w_swi (off := 80) (tgt := 95) 3 hx hb dX5_boat_15 s15_3 (by decide) (by decide) (by decide) (by decide) ?_
    refine lv_aload_n hx hb dX5_boat_95 rfl (lv_at hl 0 rfl) ?_
    refine gCA_cl_5 hC hK hP wq_490 dX5_boat_96 ?_
    refine gCA_tun_10 hC hK hP wq_446 dX5_boat_99 ?_
    refine lv_iload_n hx hb dX5_boat_102 rfl (lv_at hl 1 rfl) ?_
    refine w_atS (q0 := 7) hC hN hK hP wq_605 rfl (by decide) (by decide) hl.1 (Nat.le_of_ble_eq_true rfl) ⟨Nat.le_refl _, Nat.le_refl _⟩ dX5_boat_103 ?_
    exact hret 106 _ _ hm rfl dX5_boat_106
  have hm := hm.2
  by_cases s15_4 : x2 = 4
  · have hm := hm.1 s15_4
    refine w_swi (off := 92) (tgt := 107) 4 hx hb dX5_boat_15 s15_4 (by decide) (by decide) (by decide) (by decide) ?_
    refine lv_aload_n hx hb dX5_boat_107 rfl (lv_at hl 0 rfl) ?_
    refine gCA_cl_5 hC hK hP wq_490 dX5_boat_108 ?_
    refine gCA_tun_11 hC hK hP wq_448 dX5_boat_111 ?_
    refine lv_iload_n hx hb dX5_boat_114 rfl (lv_at hl 1 rfl) ?_
    refine w_atS (q0 := 8) hC hN hK hP wq_605 rfl (by decide) (by decide) hl.1 (Nat.le_of_ble_eq_true rfl) ⟨Nat.le_refl _, Nat.le_refl _⟩ dX5_boat_115 ?_
    exact hret 118 _ _ hm rfl dX5_boat_118
  have hm := hm.2
  by_cases s15_5 : x2 = 5
  · have hm := hm.1 s15_5
    refine w_swi (off := 104) (tgt := 119) 5 hx hb dX5_boat_15 s15_5 (by decide) (by decide) (by decide) (by decide) ?_
    refine lv_aload_n hx hb dX5_boat_119 rfl (lv_at hl 0 rfl) ?_
    refine gCA_cl_5 hC hK hP wq_490 dX5_boat_120 ?_
    refine gCA_tun_12 hC hK hP wq_450 dX5_boat_123 ?_
    refine lv_iload_n hx hb dX5_boat_126 rfl (lv_at hl 1 rfl) ?_
    refine w_atS (q0 := 9) hC hN hK hP wq_605 rfl (by decide) (by decide) hl.1 (Nat.le_of_ble_eq_true rfl) ⟨Nat.le_refl _, Nat.le_refl _⟩ dX5_boat_127 ?_
    exact hret 130 _ _ hm rfl dX5_boat_130
  have hm := hm.2
  by_cases s15_6 : x2 = 6
  · have hm := hm.1 s15_6
    refine w_swi (off := 116) (tgt := 131) 6 hx hb dX5_boat_15 s15_6 (by decide) (by decide) (by decide) (by decide) ?_
    refine lv_aload_n hx hb dX5_boat_131 rfl (lv_at hl 0 rfl) ?_
    refine gCA_cl_5 hC hK hP wq_490 dX5_boat_132 ?_
    refine gCA_tun_13 hC hK hP wq_452 dX5_boat_135 ?_
    refine lv_iload_n hx hb dX5_boat_138 rfl (lv_at hl 1 rfl) ?_
    refine w_atS (q0 := 10) hC hN hK hP wq_605 rfl (by decide) (by decide) hl.1 (Nat.le_of_ble_eq_true rfl) ⟨Nat.le_refl _, Nat.le_refl _⟩ dX5_boat_139 ?_
    exact hret 142 _ _ hm rfl dX5_boat_142
  have hm := hm.2
  have hm := hm s15_0 s15_1 s15_2 s15_3 s15_4 s15_5 s15_6
  refine w_swd (tgt := 143) [0, 1, 2, 3, 4, 5, 6] hx hb dX5_boat_15 (by decide) (by decide) (fun k hk => ?_) (by decide) ?_
  · simp only [List.mem_cons, List.not_mem_nil, or_false] at hk
    rcases hk with rfl | rfl | rfl | rfl | rfl | rfl | rfl
    · exact eq_toInt s15_0
    · exact eq_toInt s15_1
    · exact eq_toInt s15_2
    · exact eq_toInt s15_3
    · exact eq_toInt s15_4
    · exact eq_toInt s15_5
    · exact eq_toInt s15_6
  · exact False.elim hm
section KX5_boat
variable {p : Program} {l : Launch} {e : Env} {s : State} {m : MethodId} {args : Array Value} {below : List Frame} {meth : Method} {c : Code} {H H0 : Heap} {locs : List Loc} {cells slots : Nat} {Q : State → Prop} {R : Room} {rn mcR msR : Nat}
variable {pc : Nat} {ls : Array Slot} {rest : List Value} {A : Nat → Prop} {D : va_G}
variable {cc : ByteArray} {nL index : Nat} {own host : String}
theorem k_X5_boat {Z : Nat → ClassId} {a b q : Nat → Nat} {ca tp rd sp : Nat} {P : M2} {ap : Nat} {F : M2} {G : M2} {C : M2} {x1 : Int32} {x2 : Int32} {K : Int32 → Prop} (hC : CallFix p m c cc nL s args lw_g own) (hN : NW s) (hK : va_K D vwCl (tysG Z) s) (hP : va_P D vwCl (CA Z a b q ca tp rd sp P ap F G C) H) (hD : va_D (fun _ => True) (CA Z a b q ca tp rd sp P ap F G C)) (hm : wp_X5_boat q P (fun _ => False) ap F G C x1 x2 K) (hl : Cond.methodLink own index yX5_boat ∈ lw_g) (hlt : 7 < rn) (hsize : ls.size = nL) (hW : (rest.map fun v => v.category).sum ≤ 8) (hf : cells + 0 ≤ mcR ∧ slots + 0 ≤ msR) (hdg : decode cc pc = .ok (.invokevirtual index, 3)) (kk : ∀ r : Int32, K r → W p l e (rk rn mcR msR) s m args below meth c H locs cells slots Q (F0 m (pc + 3) ls (.int r :: rest))) : W p l e (rk rn mcR msR) s m args below meth c H locs cells slots Q (F0 m pc ls (.int x2 :: .int x1 :: .ref (ca) :: rest)) :=
  ro_go (runV (As := [.int x1, .int x2]) hC hN (c_X5_boat l D Z a b q ca tp rd sp P ap F G C H.size x1 x2 K hm) mi_X5_boat hl wq_639 wq_640 hlt hP hD hK (q0 := 45) rfl rfl rfl hsize rfl hW hdg hf) kk
end KX5_boat
def wp_X5_crew (q : Nat → Nat) (P : M2) (KX : Nat → Prop) (ap : Nat) (F : M2) (G : M2) (C : M2) (x1 : Int32) (x2 : Int32) (K : Int32 → Prop) : Prop := ((¬ x1 < 0 → x1 < (P 24 0) → ((¬ x2 < 0 → x2 < 2 → ((¬ x2 = 0 → K (atv (P 37) 8 x1)) ∧ (x2 = 0 → K (atv (P 36) 8 x1)))) ∧ ((x2 < 0 ∨ ¬ x2 < 2) → KX 2))) ∧ ((x1 < 0 ∨ ¬ x1 < (P 24 0)) → KX 2))
set_option maxRecDepth 100000 in
set_option maxHeartbeats 4000000 in
theorem c_X5_crew (l : Launch) (D : va_G) (Z : Nat → ClassId) (a b q : Nat → Nat) (ca tp rd sp : Nat) (P : M2) (ap : Nat) (F : M2) (G : M2) (C : M2) (sz : Nat) (x1 : Int32) (x2 : Int32) (K : Int32 → Prop) (hm : wp_X5_crew q P (fun _ => False) ap F G C x1 x2 K) : Met l yX5_crew (wy yX5_crew cX5_crew 3 (some .int)) (rk 7 0 0) (pre vwCl D Z (CA Z a b q ca tp rd sp P ap F G C) sz [.ref (ca), .int x1, .int x2]) (vp_Si K) 0 0 (fun _ => False) := by
  refine ro_of (ty := .int) (by decide +kernel) (Nat.le_of_ble_eq_true rfl) rfl ?_
  intro p e s m args below meth c Q hC hN hsz hP hD hK hret ls hl
  have hx := hC.1
  have hb := hC.2.1
  have hl : lv_has ls 3 [(0, .ref (ca)), (1, .int x1), (2, .int x2)] := hl
  refine lv_iload_n hx hb dX5_crew_0 rfl (lv_at hl 1 rfl) ?_
  refine lv_aload_n hx hb dX5_crew_1 rfl (lv_at hl 0 rfl) ?_
  refine gCA_cl_5 hC hK hP wq_490 dX5_crew_2 ?_
  refine gCA_tun_0 hC hK hP wq_426 dX5_crew_5 ?_
  refine gCA_plan_4 hC hK hP wq_305 dX5_crew_8 ?_
  have h_11 := w_nx hm.2
  refine w_needOneOfN hC h_11.1 h_11.2 wq_601 (by decide) hl.1 (Nat.le_of_ble_eq_true rfl) ⟨Nat.le_refl _, Nat.le_refl _⟩ dX5_crew_11 ?_
  have hm := hm.1 h_11.1 h_11.2
  refine lv_iload_n hx hb dX5_crew_14 rfl (lv_at hl 2 rfl) ?_
  refine lv_iconst (v := 2) hx hb dX5_crew_15 (by decide) ?_
  have h_16 := w_nx hm.2
  refine w_needOneOfN hC h_16.1 h_16.2 wq_601 (by decide) hl.1 (Nat.le_of_ble_eq_true rfl) ⟨Nat.le_refl _, Nat.le_refl _⟩ dX5_crew_16 ?_
  have hm := hm.1 h_16.1 h_16.2
  refine lv_iload_n hx hb dX5_crew_19 rfl (lv_at hl 2 rfl) ?_
  refine lv_if_ne (tgt := 40) hx hb dX5_crew_20 (by decide) (fun c_20 => ?_) (fun c_20 => ?_)
  · have hm := hm.1 c_20
    refine lv_aload_n hx hb dX5_crew_40 rfl (lv_at hl 0 rfl) ?_
    refine gCA_cl_5 hC hK hP wq_490 dX5_crew_41 ?_
    refine gCA_tun_0 hC hK hP wq_426 dX5_crew_44 ?_
    refine gCA_plan_17 hC hK hP wq_340 dX5_crew_47 ?_
    refine lv_iload_n hx hb dX5_crew_50 rfl (lv_at hl 1 rfl) ?_
    refine w_atS (q0 := 25) hC hN hK hP wq_605 rfl (by decide) (by decide) hl.1 (Nat.le_of_ble_eq_true rfl) ⟨Nat.le_refl _, Nat.le_refl _⟩ dX5_crew_51 ?_
    exact hret 54 _ _ hm rfl dX5_crew_54
  · have hm := hm.2 c_20
    refine lv_aload_n hx hb dX5_crew_23 rfl (lv_at hl 0 rfl) ?_
    refine gCA_cl_5 hC hK hP wq_490 dX5_crew_24 ?_
    refine gCA_tun_0 hC hK hP wq_426 dX5_crew_27 ?_
    refine gCA_plan_16 hC hK hP wq_337 dX5_crew_30 ?_
    refine lv_iload_n hx hb dX5_crew_33 rfl (lv_at hl 1 rfl) ?_
    refine w_atS (q0 := 24) hC hN hK hP wq_605 rfl (by decide) (by decide) hl.1 (Nat.le_of_ble_eq_true rfl) ⟨Nat.le_refl _, Nat.le_refl _⟩ dX5_crew_34 ?_
    refine lv_goto (tgt := 54) hx hb dX5_crew_37 (by decide) ?_
    exact hret 54 _ _ hm rfl dX5_crew_54
section KX5_crew
variable {p : Program} {l : Launch} {e : Env} {s : State} {m : MethodId} {args : Array Value} {below : List Frame} {meth : Method} {c : Code} {H H0 : Heap} {locs : List Loc} {cells slots : Nat} {Q : State → Prop} {R : Room} {rn mcR msR : Nat}
variable {pc : Nat} {ls : Array Slot} {rest : List Value} {A : Nat → Prop} {D : va_G}
variable {cc : ByteArray} {nL index : Nat} {own host : String}
theorem k_X5_crew {Z : Nat → ClassId} {a b q : Nat → Nat} {ca tp rd sp : Nat} {P : M2} {ap : Nat} {F : M2} {G : M2} {C : M2} {x1 : Int32} {x2 : Int32} {K : Int32 → Prop} (hC : CallFix p m c cc nL s args lw_g own) (hN : NW s) (hK : va_K D vwCl (tysG Z) s) (hP : va_P D vwCl (CA Z a b q ca tp rd sp P ap F G C) H) (hD : va_D (fun _ => True) (CA Z a b q ca tp rd sp P ap F G C)) (hm : wp_X5_crew q P (fun _ => False) ap F G C x1 x2 K) (hl : Cond.methodLink own index yX5_crew ∈ lw_g) (hlt : 7 < rn) (hsize : ls.size = nL) (hW : (rest.map fun v => v.category).sum ≤ 8) (hf : cells + 0 ≤ mcR ∧ slots + 0 ≤ msR) (hdg : decode cc pc = .ok (.invokevirtual index, 3)) (kk : ∀ r : Int32, K r → W p l e (rk rn mcR msR) s m args below meth c H locs cells slots Q (F0 m (pc + 3) ls (.int r :: rest))) : W p l e (rk rn mcR msR) s m args below meth c H locs cells slots Q (F0 m pc ls (.int x2 :: .int x1 :: .ref (ca) :: rest)) :=
  ro_go (runV (As := [.int x1, .int x2]) hC hN (c_X5_crew l D Z a b q ca tp rd sp P ap F G C H.size x1 x2 K hm) mi_X5_crew hl wq_644 wq_645 hlt hP hD hK (q0 := 45) rfl rfl rfl hsize rfl hW hdg hf) kk
end KX5_crew
def wl_X5_digest_207 (q : Nat → Nat) (P : M2) (ap : Nat) (F : M2) (G : M2) (C : M2) (C190 : Int64 → Int32 → Prop) (K : Int64 → Prop) : Nat → Int64 → Int32 → Int32 → Prop
  | 0, _, _, _ => False
  | n + 1, v1, v3, v4 => ((6 < v4 → wp_X5_crew q P (fun _ => False) ap F G C v3 0 (fun r_243 => (∀ v1_248, v1_248 = (v1 * 31) + r_243.toInt64 → wp_X5_crew q P (fun _ => False) ap F G C v3 1 (fun r_257 => (∀ v1_262, v1_262 = (v1_248 * 31) + r_257.toInt64 → (∀ v3_263 : Int32, v3_263 = v3 + 1 → C190 v1_262 v3_263)))))) ∧ (¬ 6 < v4 → wp_X5_boat q P (fun _ => False) ap F G C v3 v4 (fun r_223 => (∀ v1_228, v1_228 = (v1 * 31) + r_223.toInt64 → (∀ v4_229 : Int32, v4_229 = v4 + 1 → wl_X5_digest_207 q P ap F G C C190 K n v1_228 v3 v4_229)))))
def wl_X5_digest_190 (q : Nat → Nat) (P : M2) (ap : Nat) (F : M2) (G : M2) (C : M2) (K : Int64 → Prop) : Nat → Int64 → Int32 → Prop
  | 0, _, _ => False
  | n + 1, v1, v3 => (((P 24 0) ≤ v3 → K v1) ∧ (¬ (P 24 0) ≤ v3 → wl_X5_digest_207 q P ap F G C (wl_X5_digest_190 q P ap F G C K n) K fK v1 v3 0))
def wl_X5_digest_154 (q : Nat → Nat) (P : M2) (ap : Nat) (F : M2) (G : M2) (C : M2) (C137 : Int64 → Int32 → Prop) (K : Int64 → Prop) : Nat → Int64 → Int32 → Int32 → Prop
  | 0, _, _, _ => False
  | n + 1, v1, v3, v4 => ((6 < v4 → (∀ v3_182 : Int32, v3_182 = v3 + 1 → C137 v1 v3_182)) ∧ (¬ 6 < v4 → wp_X5_legger q P (fun _ => False) ap F G C v3 v4 (fun r_170 => (∀ v1_175, v1_175 = (v1 * 31) + r_170.toInt64 → (∀ v4_176 : Int32, v4_176 = v4 + 1 → wl_X5_digest_154 q P ap F G C C137 K n v1_175 v3 v4_176)))))
def wl_X5_digest_137 (q : Nat → Nat) (P : M2) (ap : Nat) (F : M2) (G : M2) (C : M2) (K : Int64 → Prop) : Nat → Int64 → Int32 → Prop
  | 0, _, _ => False
  | n + 1, v1, v3 => (((P 23 0) ≤ v3 → wl_X5_digest_190 q P ap F G C K fK v1 0) ∧ (¬ (P 23 0) ≤ v3 → wl_X5_digest_154 q P ap F G C (wl_X5_digest_137 q P ap F G C K n) K fK v1 v3 0))
def wl_X5_digest_102 (q : Nat → Nat) (P : M2) (ap : Nat) (F : M2) (G : M2) (C : M2) (C85 : Int64 → Int32 → Prop) (K : Int64 → Prop) : Nat → Int64 → Int32 → Int32 → Prop
  | 0, _, _, _ => False
  | n + 1, v1, v3, v4 => ((3 < v4 → (∀ v3_129 : Int32, v3_129 = v3 + 1 → C85 v1 v3_129)) ∧ (¬ 3 < v4 → wp_X5_bore q P (fun _ => False) ap F G C v3 v4 (fun r_117 => (∀ v1_122, v1_122 = (v1 * 31) + r_117.toInt64 → (∀ v4_123 : Int32, v4_123 = v4 + 1 → wl_X5_digest_102 q P ap F G C C85 K n v1_122 v3 v4_123)))))
def wl_X5_digest_85 (q : Nat → Nat) (P : M2) (ap : Nat) (F : M2) (G : M2) (C : M2) (K : Int64 → Prop) : Nat → Int64 → Int32 → Prop
  | 0, _, _ => False
  | n + 1, v1, v3 => (((P 20 0) ≤ v3 → wl_X5_digest_137 q P ap F G C K fK v1 0) ∧ (¬ (P 20 0) ≤ v3 → wl_X5_digest_102 q P ap F G C (wl_X5_digest_85 q P ap F G C K n) K fK v1 v3 0))
def wl_X5_digest_50 (q : Nat → Nat) (P : M2) (ap : Nat) (F : M2) (G : M2) (C : M2) (C33 : Int64 → Int32 → Prop) (K : Int64 → Prop) : Nat → Int64 → Int32 → Int32 → Prop
  | 0, _, _, _ => False
  | n + 1, v1, v3, v4 => ((3 < v4 → (∀ v3_77 : Int32, v3_77 = v3 + 1 → C33 v1 v3_77)) ∧ (¬ 3 < v4 → wp_X5_place q P (fun _ => False) ap F G C v3 v4 (fun r_65 => (∀ v1_70, v1_70 = (v1 * 31) + r_65.toInt64 → (∀ v4_71 : Int32, v4_71 = v4 + 1 → wl_X5_digest_50 q P ap F G C C33 K n v1_70 v3 v4_71)))))
def wl_X5_digest_33 (q : Nat → Nat) (P : M2) (ap : Nat) (F : M2) (G : M2) (C : M2) (K : Int64 → Prop) : Nat → Int64 → Int32 → Prop
  | 0, _, _ => False
  | n + 1, v1, v3 => (((P 21 0) ≤ v3 → wl_X5_digest_85 q P ap F G C K fK v1 0) ∧ (¬ (P 21 0) ≤ v3 → wl_X5_digest_50 q P ap F G C (wl_X5_digest_33 q P ap F G C K n) K fK v1 v3 0))
def wl_X5_digest_6 (q : Nat → Nat) (P : M2) (ap : Nat) (F : M2) (G : M2) (C : M2) (K : Int64 → Prop) : Nat → Int64 → Int32 → Prop
  | 0, _, _ => False
  | n + 1, v1, v3 => ((13 < v3 → wl_X5_digest_33 q P ap F G C K fK v1 0) ∧ (¬ 13 < v3 → wp_X5_count q P (fun _ => False) ap F G C v3 (fun r_19 => (∀ v1_24, v1_24 = (v1 * 31) + r_19.toInt64 → (∀ v3_25 : Int32, v3_25 = v3 + 1 → wl_X5_digest_6 q P ap F G C K n v1_24 v3_25)))))
def wp_X5_digest (q : Nat → Nat) (P : M2) (ap : Nat) (F : M2) (G : M2) (C : M2) (K : Int64 → Prop) : Prop := wl_X5_digest_6 q P ap F G C K fK 857 0
set_option maxRecDepth 100000 in
set_option maxHeartbeats 4000000 in
theorem c_X5_digest (l : Launch) (D : va_G) (Z : Nat → ClassId) (a b q : Nat → Nat) (ca tp rd sp : Nat) (P : M2) (ap : Nat) (F : M2) (G : M2) (C : M2) (sz : Nat) (K : Int64 → Prop) (hm : wp_X5_digest q P ap F G C K) : Met l yX5_digest (wy yX5_digest cX5_digest 5 (some .long)) (rk 8 0 0) (pre vwCl D Z (CA Z a b q ca tp rd sp P ap F G C) sz [.ref (ca)]) (vp_Sl K) 0 0 (fun _ => False) := by
  refine rol_of (by decide +kernel) (Nat.le_of_ble_eq_true rfl) rfl ?_
  intro p e s m args below meth c Q hC hN hsz hP hD hK hret ls hl
  have hx := hC.1
  have hb := hC.2.1
  have hl : lv_has ls 5 [(0, .ref (ca))] := hl
  have L190 : ∀ (n190 : Nat), ∀ (v1 : Int64) (v3 : Int32) (ls : Array Slot), wl_X5_digest_190 q P ap F G C K n190 v1 v3 → lv_has ls 5 [(0, .ref (ca)), (1, .long v1), (3, .int v3)] → W p l e (rk 8 0 0) s m args below meth c s.heap [] 0 0 Q (F0 m 190 ls []) := by
    intro n190
    induction n190 with
    | zero =>
      intro v1 v3 ls hm hl
      exact False.elim hm
    | succ n190 ih190 =>
      have L207 : ∀ (n207 : Nat), ∀ (v1 : Int64) (v3 : Int32) (v4 : Int32) (ls : Array Slot), wl_X5_digest_207 q P ap F G C (wl_X5_digest_190 q P ap F G C K n190) K n207 v1 v3 v4 → lv_has ls 5 [(0, .ref (ca)), (1, .long v1), (3, .int v3), (4, .int v4)] → W p l e (rk 8 0 0) s m args below meth c s.heap [] 0 0 Q (F0 m 207 ls []) := by
        intro n207
        induction n207 with
        | zero =>
          intro v1 v3 v4 ls hm hl
          exact False.elim hm
        | succ n207 ih207 =>
          intro v1 v3 v4 ls hm hl
          refine lv_iload hx hb dX5_digest_207 (lv_at hl 3 rfl) ?_
          refine lv_bipush (v := 6) hx hb dX5_digest_209 (by decide) ?_
          refine lv_icmp_gt (tgt := 235) hx hb dX5_digest_211 (by decide) (fun c_211 => ?_) (fun c_211 => ?_)
          · have hm := hm.1 c_211
            refine lv_lload_n hx hb dX5_digest_235 rfl (lv_at hl 1 rfl) ?_
            refine lv_ldc2 (v := 31) hx hb hC.2.2.2.1 (hC.2.2.2.2 _ wq_821) dX5_digest_236 ?_
            refine lv_lmul hx hb dX5_digest_239 ?_
            refine lv_aload_n hx hb dX5_digest_240 rfl (lv_at hl 0 rfl) ?_
            refine lv_iload_n hx hb dX5_digest_241 rfl (lv_at hl 2 rfl) ?_
            refine lv_iconst (v := 0) hx hb dX5_digest_242 (by decide) ?_
            refine k_X5_crew hC hN hK hP hD hm wq_827 (by decide) hl.1 (Nat.le_of_ble_eq_true rfl) ⟨Nat.le_refl _, Nat.le_refl _⟩ dX5_digest_243 (fun r_243 hm => ?_)
            refine lv_i2l (v := r_243.toInt64) hx hb dX5_digest_246 rfl ?_
            refine lv_ladd hx hb dX5_digest_247 ?_
            refine lv_topl (fun v1_248 ev1_248 => ?_)
            have hm := hm v1_248 ev1_248
            refine lv_lstore_n (lv' := [(1, .long v1_248), (0, .ref (ca)), (3, .int v3), (4, .int v4)]) hx hb dX5_digest_248 rfl hl (by decide) rfl (fun ls hl => ?_)
            refine lv_lload_n hx hb dX5_digest_249 rfl (lv_at hl 0 rfl) ?_
            refine lv_ldc2 (v := 31) hx hb hC.2.2.2.1 (hC.2.2.2.2 _ wq_821) dX5_digest_250 ?_
            refine lv_lmul hx hb dX5_digest_253 ?_
            refine lv_aload_n hx hb dX5_digest_254 rfl (lv_at hl 1 rfl) ?_
            refine lv_iload_n hx hb dX5_digest_255 rfl (lv_at hl 2 rfl) ?_
            refine lv_iconst (v := 1) hx hb dX5_digest_256 (by decide) ?_
            refine k_X5_crew hC hN hK hP hD hm wq_827 (by decide) hl.1 (Nat.le_of_ble_eq_true rfl) ⟨Nat.le_refl _, Nat.le_refl _⟩ dX5_digest_257 (fun r_257 hm => ?_)
            refine lv_i2l (v := r_257.toInt64) hx hb dX5_digest_260 rfl ?_
            refine lv_ladd hx hb dX5_digest_261 ?_
            refine lv_topl (fun v1_262 ev1_262 => ?_)
            have hm := hm v1_262 ev1_262
            refine lv_lstore_n (lv' := [(1, .long v1_262), (0, .ref (ca)), (3, .int v3), (4, .int v4)]) hx hb dX5_digest_262 rfl hl (by decide) rfl (fun ls hl => ?_)
            obtain ⟨v3_263, ev3_263⟩ : ∃ y : Int32, y = v3 + 1 := ⟨_, rfl⟩
            have hm := hm v3_263 ev3_263
            refine lv_iinc (v := v3_263) (lv' := [(3, .int v3_263), (1, .long v1_262), (0, .ref (ca)), (4, .int v4)]) hx hb dX5_digest_263 hl (k := 2) rfl (by rw [ev3_263]; rfl) (by decide) rfl (fun ls hl => ?_)
            refine lv_goto (tgt := 190) hx hb dX5_digest_266 (by decide) ?_
            exact ih190 _ _ _ hm (lv_sub hl [2, 1, 0] rfl)
          · have hm := hm.2 c_211
            refine lv_lload_n hx hb dX5_digest_214 rfl (lv_at hl 1 rfl) ?_
            refine lv_ldc2 (v := 31) hx hb hC.2.2.2.1 (hC.2.2.2.2 _ wq_821) dX5_digest_215 ?_
            refine lv_lmul hx hb dX5_digest_218 ?_
            refine lv_aload_n hx hb dX5_digest_219 rfl (lv_at hl 0 rfl) ?_
            refine lv_iload_n hx hb dX5_digest_220 rfl (lv_at hl 2 rfl) ?_
            refine lv_iload hx hb dX5_digest_221 (lv_at hl 3 rfl) ?_
            refine k_X5_boat hC hN hK hP hD hm wq_826 (by decide) hl.1 (Nat.le_of_ble_eq_true rfl) ⟨Nat.le_refl _, Nat.le_refl _⟩ dX5_digest_223 (fun r_223 hm => ?_)
            refine lv_i2l (v := r_223.toInt64) hx hb dX5_digest_226 rfl ?_
            refine lv_ladd hx hb dX5_digest_227 ?_
            refine lv_topl (fun v1_228 ev1_228 => ?_)
            have hm := hm v1_228 ev1_228
            refine lv_lstore_n (lv' := [(1, .long v1_228), (0, .ref (ca)), (3, .int v3), (4, .int v4)]) hx hb dX5_digest_228 rfl hl (by decide) rfl (fun ls hl => ?_)
            obtain ⟨v4_229, ev4_229⟩ : ∃ y : Int32, y = v4 + 1 := ⟨_, rfl⟩
            have hm := hm v4_229 ev4_229
            refine lv_iinc (v := v4_229) (lv' := [(4, .int v4_229), (1, .long v1_228), (0, .ref (ca)), (3, .int v3)]) hx hb dX5_digest_229 hl (k := 3) rfl (by rw [ev4_229]; rfl) (by decide) rfl (fun ls hl => ?_)
            refine lv_goto (tgt := 207) hx hb dX5_digest_232 (by decide) ?_
            exact ih207 _ _ _ _ hm (lv_sub hl [2, 1, 3, 0] rfl)
      intro v1 v3 ls hm hl
      refine lv_iload_n hx hb dX5_digest_190 rfl (lv_at hl 2 rfl) ?_
      refine lv_aload_n hx hb dX5_digest_191 rfl (lv_at hl 0 rfl) ?_
      refine gCA_cl_5 hC hK hP wq_490 dX5_digest_192 ?_
      refine gCA_tun_0 hC hK hP wq_426 dX5_digest_195 ?_
      refine gCA_plan_4 hC hK hP wq_305 dX5_digest_198 ?_
      refine lv_icmp_ge (tgt := 269) hx hb dX5_digest_201 (by decide) (fun c_201 => ?_) (fun c_201 => ?_)
      · have hm := hm.1 c_201
        refine lv_lload_n hx hb dX5_digest_269 rfl (lv_at hl 1 rfl) ?_
        exact hret 270 _ _ hm dX5_digest_270
      · have hm := hm.2 c_201
        refine lv_iconst (v := 0) hx hb dX5_digest_204 (by decide) ?_
        refine lv_istore (lv' := [(4, .int 0), (0, .ref (ca)), (1, .long v1), (3, .int v3)]) hx hb dX5_digest_205 hl (by decide) rfl (fun ls hl => ?_)
        exact L207 _ _ _ _ _ hm (lv_sub hl [1, 2, 3, 0] rfl)
  have L137 : ∀ (n137 : Nat), ∀ (v1 : Int64) (v3 : Int32) (ls : Array Slot), wl_X5_digest_137 q P ap F G C K n137 v1 v3 → lv_has ls 5 [(0, .ref (ca)), (1, .long v1), (3, .int v3)] → W p l e (rk 8 0 0) s m args below meth c s.heap [] 0 0 Q (F0 m 137 ls []) := by
    intro n137
    induction n137 with
    | zero =>
      intro v1 v3 ls hm hl
      exact False.elim hm
    | succ n137 ih137 =>
      have L154 : ∀ (n154 : Nat), ∀ (v1 : Int64) (v3 : Int32) (v4 : Int32) (ls : Array Slot), wl_X5_digest_154 q P ap F G C (wl_X5_digest_137 q P ap F G C K n137) K n154 v1 v3 v4 → lv_has ls 5 [(0, .ref (ca)), (1, .long v1), (3, .int v3), (4, .int v4)] → W p l e (rk 8 0 0) s m args below meth c s.heap [] 0 0 Q (F0 m 154 ls []) := by
        intro n154
        induction n154 with
        | zero =>
          intro v1 v3 v4 ls hm hl
          exact False.elim hm
        | succ n154 ih154 =>
          intro v1 v3 v4 ls hm hl
          refine lv_iload hx hb dX5_digest_154 (lv_at hl 3 rfl) ?_
          refine lv_bipush (v := 6) hx hb dX5_digest_156 (by decide) ?_
          refine lv_icmp_gt (tgt := 182) hx hb dX5_digest_158 (by decide) (fun c_158 => ?_) (fun c_158 => ?_)
          · have hm := hm.1 c_158
            obtain ⟨v3_182, ev3_182⟩ : ∃ y : Int32, y = v3 + 1 := ⟨_, rfl⟩
            have hm := hm v3_182 ev3_182
            refine lv_iinc (v := v3_182) (lv' := [(3, .int v3_182), (0, .ref (ca)), (1, .long v1), (4, .int v4)]) hx hb dX5_digest_182 hl (k := 2) rfl (by rw [ev3_182]; rfl) (by decide) rfl (fun ls hl => ?_)
            refine lv_goto (tgt := 137) hx hb dX5_digest_185 (by decide) ?_
            exact ih137 _ _ _ hm (lv_sub hl [1, 2, 0] rfl)
          · have hm := hm.2 c_158
            refine lv_lload_n hx hb dX5_digest_161 rfl (lv_at hl 1 rfl) ?_
            refine lv_ldc2 (v := 31) hx hb hC.2.2.2.1 (hC.2.2.2.2 _ wq_821) dX5_digest_162 ?_
            refine lv_lmul hx hb dX5_digest_165 ?_
            refine lv_aload_n hx hb dX5_digest_166 rfl (lv_at hl 0 rfl) ?_
            refine lv_iload_n hx hb dX5_digest_167 rfl (lv_at hl 2 rfl) ?_
            refine lv_iload hx hb dX5_digest_168 (lv_at hl 3 rfl) ?_
            refine k_X5_legger hC hN hK hP hD hm wq_825 (by decide) hl.1 (Nat.le_of_ble_eq_true rfl) ⟨Nat.le_refl _, Nat.le_refl _⟩ dX5_digest_170 (fun r_170 hm => ?_)
            refine lv_i2l (v := r_170.toInt64) hx hb dX5_digest_173 rfl ?_
            refine lv_ladd hx hb dX5_digest_174 ?_
            refine lv_topl (fun v1_175 ev1_175 => ?_)
            have hm := hm v1_175 ev1_175
            refine lv_lstore_n (lv' := [(1, .long v1_175), (0, .ref (ca)), (3, .int v3), (4, .int v4)]) hx hb dX5_digest_175 rfl hl (by decide) rfl (fun ls hl => ?_)
            obtain ⟨v4_176, ev4_176⟩ : ∃ y : Int32, y = v4 + 1 := ⟨_, rfl⟩
            have hm := hm v4_176 ev4_176
            refine lv_iinc (v := v4_176) (lv' := [(4, .int v4_176), (1, .long v1_175), (0, .ref (ca)), (3, .int v3)]) hx hb dX5_digest_176 hl (k := 3) rfl (by rw [ev4_176]; rfl) (by decide) rfl (fun ls hl => ?_)
            refine lv_goto (tgt := 154) hx hb dX5_digest_179 (by decide) ?_
            exact ih154 _ _ _ _ hm (lv_sub hl [2, 1, 3, 0] rfl)
      intro v1 v3 ls hm hl
      refine lv_iload_n hx hb dX5_digest_137 rfl (lv_at hl 2 rfl) ?_
      refine lv_aload_n hx hb dX5_digest_138 rfl (lv_at hl 0 rfl) ?_
      refine gCA_cl_5 hC hK hP wq_490 dX5_digest_139 ?_
      refine gCA_tun_0 hC hK hP wq_426 dX5_digest_142 ?_
      refine gCA_plan_3 hC hK hP wq_301 dX5_digest_145 ?_
      refine lv_icmp_ge (tgt := 188) hx hb dX5_digest_148 (by decide) (fun c_148 => ?_) (fun c_148 => ?_)
      · have hm := hm.1 c_148
        refine lv_iconst (v := 0) hx hb dX5_digest_188 (by decide) ?_
        refine lv_istore_n (lv' := [(3, .int 0), (0, .ref (ca)), (1, .long v1)]) hx hb dX5_digest_189 rfl hl (by decide) rfl (fun ls hl => ?_)
        exact L190 _ _ _ _ hm (lv_sub hl [1, 2, 0] rfl)
      · have hm := hm.2 c_148
        refine lv_iconst (v := 0) hx hb dX5_digest_151 (by decide) ?_
        refine lv_istore (lv' := [(4, .int 0), (0, .ref (ca)), (1, .long v1), (3, .int v3)]) hx hb dX5_digest_152 hl (by decide) rfl (fun ls hl => ?_)
        exact L154 _ _ _ _ _ hm (lv_sub hl [1, 2, 3, 0] rfl)
  have L85 : ∀ (n85 : Nat), ∀ (v1 : Int64) (v3 : Int32) (ls : Array Slot), wl_X5_digest_85 q P ap F G C K n85 v1 v3 → lv_has ls 5 [(0, .ref (ca)), (1, .long v1), (3, .int v3)] → W p l e (rk 8 0 0) s m args below meth c s.heap [] 0 0 Q (F0 m 85 ls []) := by
    intro n85
    induction n85 with
    | zero =>
      intro v1 v3 ls hm hl
      exact False.elim hm
    | succ n85 ih85 =>
      have L102 : ∀ (n102 : Nat), ∀ (v1 : Int64) (v3 : Int32) (v4 : Int32) (ls : Array Slot), wl_X5_digest_102 q P ap F G C (wl_X5_digest_85 q P ap F G C K n85) K n102 v1 v3 v4 → lv_has ls 5 [(0, .ref (ca)), (1, .long v1), (3, .int v3), (4, .int v4)] → W p l e (rk 8 0 0) s m args below meth c s.heap [] 0 0 Q (F0 m 102 ls []) := by
        intro n102
        induction n102 with
        | zero =>
          intro v1 v3 v4 ls hm hl
          exact False.elim hm
        | succ n102 ih102 =>
          intro v1 v3 v4 ls hm hl
          refine lv_iload hx hb dX5_digest_102 (lv_at hl 3 rfl) ?_
          refine lv_iconst (v := 3) hx hb dX5_digest_104 (by decide) ?_
          refine lv_icmp_gt (tgt := 129) hx hb dX5_digest_105 (by decide) (fun c_105 => ?_) (fun c_105 => ?_)
          · have hm := hm.1 c_105
            obtain ⟨v3_129, ev3_129⟩ : ∃ y : Int32, y = v3 + 1 := ⟨_, rfl⟩
            have hm := hm v3_129 ev3_129
            refine lv_iinc (v := v3_129) (lv' := [(3, .int v3_129), (0, .ref (ca)), (1, .long v1), (4, .int v4)]) hx hb dX5_digest_129 hl (k := 2) rfl (by rw [ev3_129]; rfl) (by decide) rfl (fun ls hl => ?_)
            refine lv_goto (tgt := 85) hx hb dX5_digest_132 (by decide) ?_
            exact ih85 _ _ _ hm (lv_sub hl [1, 2, 0] rfl)
          · have hm := hm.2 c_105
            refine lv_lload_n hx hb dX5_digest_108 rfl (lv_at hl 1 rfl) ?_
            refine lv_ldc2 (v := 31) hx hb hC.2.2.2.1 (hC.2.2.2.2 _ wq_821) dX5_digest_109 ?_
            refine lv_lmul hx hb dX5_digest_112 ?_
            refine lv_aload_n hx hb dX5_digest_113 rfl (lv_at hl 0 rfl) ?_
            refine lv_iload_n hx hb dX5_digest_114 rfl (lv_at hl 2 rfl) ?_
            refine lv_iload hx hb dX5_digest_115 (lv_at hl 3 rfl) ?_
            refine k_X5_bore hC hN hK hP hD hm wq_824 (by decide) hl.1 (Nat.le_of_ble_eq_true rfl) ⟨Nat.le_refl _, Nat.le_refl _⟩ dX5_digest_117 (fun r_117 hm => ?_)
            refine lv_i2l (v := r_117.toInt64) hx hb dX5_digest_120 rfl ?_
            refine lv_ladd hx hb dX5_digest_121 ?_
            refine lv_topl (fun v1_122 ev1_122 => ?_)
            have hm := hm v1_122 ev1_122
            refine lv_lstore_n (lv' := [(1, .long v1_122), (0, .ref (ca)), (3, .int v3), (4, .int v4)]) hx hb dX5_digest_122 rfl hl (by decide) rfl (fun ls hl => ?_)
            obtain ⟨v4_123, ev4_123⟩ : ∃ y : Int32, y = v4 + 1 := ⟨_, rfl⟩
            have hm := hm v4_123 ev4_123
            refine lv_iinc (v := v4_123) (lv' := [(4, .int v4_123), (1, .long v1_122), (0, .ref (ca)), (3, .int v3)]) hx hb dX5_digest_123 hl (k := 3) rfl (by rw [ev4_123]; rfl) (by decide) rfl (fun ls hl => ?_)
            refine lv_goto (tgt := 102) hx hb dX5_digest_126 (by decide) ?_
            exact ih102 _ _ _ _ hm (lv_sub hl [2, 1, 3, 0] rfl)
      intro v1 v3 ls hm hl
      refine lv_iload_n hx hb dX5_digest_85 rfl (lv_at hl 2 rfl) ?_
      refine lv_aload_n hx hb dX5_digest_86 rfl (lv_at hl 0 rfl) ?_
      refine gCA_cl_5 hC hK hP wq_490 dX5_digest_87 ?_
      refine gCA_tun_0 hC hK hP wq_426 dX5_digest_90 ?_
      refine gCA_plan_0 hC hK hP wq_289 dX5_digest_93 ?_
      refine lv_icmp_ge (tgt := 135) hx hb dX5_digest_96 (by decide) (fun c_96 => ?_) (fun c_96 => ?_)
      · have hm := hm.1 c_96
        refine lv_iconst (v := 0) hx hb dX5_digest_135 (by decide) ?_
        refine lv_istore_n (lv' := [(3, .int 0), (0, .ref (ca)), (1, .long v1)]) hx hb dX5_digest_136 rfl hl (by decide) rfl (fun ls hl => ?_)
        exact L137 _ _ _ _ hm (lv_sub hl [1, 2, 0] rfl)
      · have hm := hm.2 c_96
        refine lv_iconst (v := 0) hx hb dX5_digest_99 (by decide) ?_
        refine lv_istore (lv' := [(4, .int 0), (0, .ref (ca)), (1, .long v1), (3, .int v3)]) hx hb dX5_digest_100 hl (by decide) rfl (fun ls hl => ?_)
        exact L102 _ _ _ _ _ hm (lv_sub hl [1, 2, 3, 0] rfl)
  have L33 : ∀ (n33 : Nat), ∀ (v1 : Int64) (v3 : Int32) (ls : Array Slot), wl_X5_digest_33 q P ap F G C K n33 v1 v3 → lv_has ls 5 [(0, .ref (ca)), (1, .long v1), (3, .int v3)] → W p l e (rk 8 0 0) s m args below meth c s.heap [] 0 0 Q (F0 m 33 ls []) := by
    intro n33
    induction n33 with
    | zero =>
      intro v1 v3 ls hm hl
      exact False.elim hm
    | succ n33 ih33 =>
      have L50 : ∀ (n50 : Nat), ∀ (v1 : Int64) (v3 : Int32) (v4 : Int32) (ls : Array Slot), wl_X5_digest_50 q P ap F G C (wl_X5_digest_33 q P ap F G C K n33) K n50 v1 v3 v4 → lv_has ls 5 [(0, .ref (ca)), (1, .long v1), (3, .int v3), (4, .int v4)] → W p l e (rk 8 0 0) s m args below meth c s.heap [] 0 0 Q (F0 m 50 ls []) := by
        intro n50
        induction n50 with
        | zero =>
          intro v1 v3 v4 ls hm hl
          exact False.elim hm
        | succ n50 ih50 =>
          intro v1 v3 v4 ls hm hl
          refine lv_iload hx hb dX5_digest_50 (lv_at hl 3 rfl) ?_
          refine lv_iconst (v := 3) hx hb dX5_digest_52 (by decide) ?_
          refine lv_icmp_gt (tgt := 77) hx hb dX5_digest_53 (by decide) (fun c_53 => ?_) (fun c_53 => ?_)
          · have hm := hm.1 c_53
            obtain ⟨v3_77, ev3_77⟩ : ∃ y : Int32, y = v3 + 1 := ⟨_, rfl⟩
            have hm := hm v3_77 ev3_77
            refine lv_iinc (v := v3_77) (lv' := [(3, .int v3_77), (0, .ref (ca)), (1, .long v1), (4, .int v4)]) hx hb dX5_digest_77 hl (k := 2) rfl (by rw [ev3_77]; rfl) (by decide) rfl (fun ls hl => ?_)
            refine lv_goto (tgt := 33) hx hb dX5_digest_80 (by decide) ?_
            exact ih33 _ _ _ hm (lv_sub hl [1, 2, 0] rfl)
          · have hm := hm.2 c_53
            refine lv_lload_n hx hb dX5_digest_56 rfl (lv_at hl 1 rfl) ?_
            refine lv_ldc2 (v := 31) hx hb hC.2.2.2.1 (hC.2.2.2.2 _ wq_821) dX5_digest_57 ?_
            refine lv_lmul hx hb dX5_digest_60 ?_
            refine lv_aload_n hx hb dX5_digest_61 rfl (lv_at hl 0 rfl) ?_
            refine lv_iload_n hx hb dX5_digest_62 rfl (lv_at hl 2 rfl) ?_
            refine lv_iload hx hb dX5_digest_63 (lv_at hl 3 rfl) ?_
            refine k_X5_place hC hN hK hP hD hm wq_823 (by decide) hl.1 (Nat.le_of_ble_eq_true rfl) ⟨Nat.le_refl _, Nat.le_refl _⟩ dX5_digest_65 (fun r_65 hm => ?_)
            refine lv_i2l (v := r_65.toInt64) hx hb dX5_digest_68 rfl ?_
            refine lv_ladd hx hb dX5_digest_69 ?_
            refine lv_topl (fun v1_70 ev1_70 => ?_)
            have hm := hm v1_70 ev1_70
            refine lv_lstore_n (lv' := [(1, .long v1_70), (0, .ref (ca)), (3, .int v3), (4, .int v4)]) hx hb dX5_digest_70 rfl hl (by decide) rfl (fun ls hl => ?_)
            obtain ⟨v4_71, ev4_71⟩ : ∃ y : Int32, y = v4 + 1 := ⟨_, rfl⟩
            have hm := hm v4_71 ev4_71
            refine lv_iinc (v := v4_71) (lv' := [(4, .int v4_71), (1, .long v1_70), (0, .ref (ca)), (3, .int v3)]) hx hb dX5_digest_71 hl (k := 3) rfl (by rw [ev4_71]; rfl) (by decide) rfl (fun ls hl => ?_)
            refine lv_goto (tgt := 50) hx hb dX5_digest_74 (by decide) ?_
            exact ih50 _ _ _ _ hm (lv_sub hl [2, 1, 3, 0] rfl)
      intro v1 v3 ls hm hl
      refine lv_iload_n hx hb dX5_digest_33 rfl (lv_at hl 2 rfl) ?_
      refine lv_aload_n hx hb dX5_digest_34 rfl (lv_at hl 0 rfl) ?_
      refine gCA_cl_5 hC hK hP wq_490 dX5_digest_35 ?_
      refine gCA_tun_0 hC hK hP wq_426 dX5_digest_38 ?_
      refine gCA_plan_1 hC hK hP wq_293 dX5_digest_41 ?_
      refine lv_icmp_ge (tgt := 83) hx hb dX5_digest_44 (by decide) (fun c_44 => ?_) (fun c_44 => ?_)
      · have hm := hm.1 c_44
        refine lv_iconst (v := 0) hx hb dX5_digest_83 (by decide) ?_
        refine lv_istore_n (lv' := [(3, .int 0), (0, .ref (ca)), (1, .long v1)]) hx hb dX5_digest_84 rfl hl (by decide) rfl (fun ls hl => ?_)
        exact L85 _ _ _ _ hm (lv_sub hl [1, 2, 0] rfl)
      · have hm := hm.2 c_44
        refine lv_iconst (v := 0) hx hb dX5_digest_47 (by decide) ?_
        refine lv_istore (lv' := [(4, .int 0), (0, .ref (ca)), (1, .long v1), (3, .int v3)]) hx hb dX5_digest_48 hl (by decide) rfl (fun ls hl => ?_)
        exact L50 _ _ _ _ _ hm (lv_sub hl [1, 2, 3, 0] rfl)
  have L6 : ∀ (n6 : Nat), ∀ (v1 : Int64) (v3 : Int32) (ls : Array Slot), wl_X5_digest_6 q P ap F G C K n6 v1 v3 → lv_has ls 5 [(0, .ref (ca)), (1, .long v1), (3, .int v3)] → W p l e (rk 8 0 0) s m args below meth c s.heap [] 0 0 Q (F0 m 6 ls []) := by
    intro n6
    induction n6 with
    | zero =>
      intro v1 v3 ls hm hl
      exact False.elim hm
    | succ n6 ih6 =>
      intro v1 v3 ls hm hl
      refine lv_iload_n hx hb dX5_digest_6 rfl (lv_at hl 2 rfl) ?_
      refine lv_bipush (v := 13) hx hb dX5_digest_7 (by decide) ?_
      refine lv_icmp_gt (tgt := 31) hx hb dX5_digest_9 (by decide) (fun c_9 => ?_) (fun c_9 => ?_)
      · have hm := hm.1 c_9
        refine lv_iconst (v := 0) hx hb dX5_digest_31 (by decide) ?_
        refine lv_istore_n (lv' := [(3, .int 0), (0, .ref (ca)), (1, .long v1)]) hx hb dX5_digest_32 rfl hl (by decide) rfl (fun ls hl => ?_)
        exact L33 _ _ _ _ hm (lv_sub hl [1, 2, 0] rfl)
      · have hm := hm.2 c_9
        refine lv_lload_n hx hb dX5_digest_12 rfl (lv_at hl 1 rfl) ?_
        refine lv_ldc2 (v := 31) hx hb hC.2.2.2.1 (hC.2.2.2.2 _ wq_821) dX5_digest_13 ?_
        refine lv_lmul hx hb dX5_digest_16 ?_
        refine lv_aload_n hx hb dX5_digest_17 rfl (lv_at hl 0 rfl) ?_
        refine lv_iload_n hx hb dX5_digest_18 rfl (lv_at hl 2 rfl) ?_
        refine k_X5_count hC hN hK hP hD hm wq_822 (by decide) hl.1 (Nat.le_of_ble_eq_true rfl) ⟨Nat.le_refl _, Nat.le_refl _⟩ dX5_digest_19 (fun r_19 hm => ?_)
        refine lv_i2l (v := r_19.toInt64) hx hb dX5_digest_22 rfl ?_
        refine lv_ladd hx hb dX5_digest_23 ?_
        refine lv_topl (fun v1_24 ev1_24 => ?_)
        have hm := hm v1_24 ev1_24
        refine lv_lstore_n (lv' := [(1, .long v1_24), (0, .ref (ca)), (3, .int v3)]) hx hb dX5_digest_24 rfl hl (by decide) rfl (fun ls hl => ?_)
        obtain ⟨v3_25, ev3_25⟩ : ∃ y : Int32, y = v3 + 1 := ⟨_, rfl⟩
        have hm := hm v3_25 ev3_25
        refine lv_iinc (v := v3_25) (lv' := [(3, .int v3_25), (1, .long v1_24), (0, .ref (ca))]) hx hb dX5_digest_25 hl (k := 2) rfl (by rw [ev3_25]; rfl) (by decide) rfl (fun ls hl => ?_)
        refine lv_goto (tgt := 6) hx hb dX5_digest_28 (by decide) ?_
        exact ih6 _ _ _ hm (lv_sub hl [2, 1, 0] rfl)
  refine lv_ldc2 (v := 857) hx hb hC.2.2.2.1 (hC.2.2.2.2 _ wq_820) dX5_digest_0 ?_
  refine lv_lstore_n (lv' := [(1, .long 857), (0, .ref (ca))]) hx hb dX5_digest_3 rfl hl (by decide) rfl (fun ls hl => ?_)
  refine lv_iconst (v := 0) hx hb dX5_digest_4 (by decide) ?_
  refine lv_istore_n (lv' := [(3, .int 0), (1, .long 857), (0, .ref (ca))]) hx hb dX5_digest_5 rfl hl (by decide) rfl (fun ls hl => ?_)
  exact L6 _ _ _ _ hm (lv_sub hl [2, 1, 0] rfl)
def wl_X5_mean_21 (q : Nat → Nat) (P : M2) (K : UInt64 → Nat → M2 → M2 → M2 → Prop) : Nat → Nat → M2 → M2 → M2 → Int32 → Int32 → Int32 → Prop
  | 0, _, _, _, _, _, _, _ => False
  | n + 1, ap, F, G, C, v1, v2, v3 => ((v1 ≤ v3 → (vf_n64 (FP.ddiv (FP.i2d v2) (FP.i2d v1)) ∧ K (FP.ddiv (FP.i2d v2) (FP.i2d v1)) ap F G C)) ∧ (¬ v1 ≤ v3 → (∀ v2_39, v2_39 = v2 + (atv (F 5) 6 v3) → (∀ v3_40 : Int32, v3_40 = v3 + 1 → wl_X5_mean_21 q P K n ap F G C v1 v2_39 v3_40))))
def wp_X5_mean (q : Nat → Nat) (P : M2) (ap : Nat) (F : M2) (G : M2) (C : M2) (K : UInt64 → Nat → M2 → M2 → M2 → Prop) : Prop := (∀ v1_10, v1_10 = P 23 0 → ((0 < v1_10 → wl_X5_mean_21 q P K fK ap F G C v1_10 0 0) ∧ (¬ 0 < v1_10 → K FP.dconst0 ap F G C)))
set_option maxRecDepth 100000 in
set_option maxHeartbeats 4000000 in
theorem c_X5_mean (l : Launch) (D : va_G) (Z : Nat → ClassId) (a b q : Nat → Nat) (ca tp rd sp : Nat) (P : M2) (ap : Nat) (F : M2) (G : M2) (C : M2) (sz : Nat) (K : UInt64 → Nat → M2 → M2 → M2 → Prop) (hm : wp_X5_mean q P ap F G C K) : Met l yX5_mean (wy yX5_mean cX5_mean 4 (some .double)) (rk 1 0 0) (pre vwCl D Z (CA Z a b q ca tp rd sp P ap F G C) sz [.ref (ca)]) (poD vwCl D Z (fun u : Nat × M2 × M2 × M2 => CA Z a b q ca tp rd sp P u.1 u.2.1 u.2.2.1 u.2.2.2) (ap, F, G, C) sz (fun (r : UInt64) (u : Nat × M2 × M2 × M2) => K r u.1 u.2.1 u.2.2.1 u.2.2.2)) 0 0 (va_A (CA Z a b q ca tp rd sp P ap F G C) sz) := by
  refine rwd_of (wsF := (fun u : Nat × M2 × M2 × M2 => CA Z a b q ca tp rd sp P u.1 u.2.1 u.2.2.1 u.2.2.2)) (u0 := (ap, F, G, C)) (by decide +kernel) (Nat.le_of_ble_eq_true rfl) rfl ?_
  intro p e s m args below meth c Q A hC hN hsz hT hK hret ls hl
  have hx := hC.1
  have hb := hC.2.1
  have hl : lv_has ls 4 [(0, .ref (ca))] := hl
  have hT : TS vwCl D (CA Z a b q ca tp rd sp P ap F G C) A s.heap s.heap [] := hT
  have L21 : ∀ (n21 : Nat), ∀ (ap : Nat) (F : M2) (G : M2) (C : M2) (v1 : Int32) (v2 : Int32) (v3 : Int32) (H : Heap) (locs : List Loc) (ls : Array Slot), wl_X5_mean_21 q P K n21 ap F G C v1 v2 v3 → TS vwCl D (CA Z a b q ca tp rd sp P ap F G C) A s.heap H locs → lv_has ls 4 [(0, .ref (ca)), (1, .int v1), (2, .int v2), (3, .int v3)] → W p l e (rk 1 0 0) s m args below meth c H locs 0 0 Q (F0 m 21 ls []) := by
    intro n21
    induction n21 with
    | zero =>
      intro ap F G C v1 v2 v3 H locs ls hm hT hl
      exact False.elim hm
    | succ n21 ih21 =>
      intro ap F G C v1 v2 v3 H locs ls hm hT hl
      refine lv_iload_n hx hb dX5_mean_21 rfl (lv_at hl 3 rfl) ?_
      refine lv_iload_n hx hb dX5_mean_22 rfl (lv_at hl 1 rfl) ?_
      refine lv_icmp_ge (tgt := 46) hx hb dX5_mean_23 (by decide) (fun c_23 => ?_) (fun c_23 => ?_)
      · have hm := hm.1 c_23
        refine lv_iload_n hx hb dX5_mean_46 rfl (lv_at hl 2 rfl) ?_
        refine lv_i2d hx hb dX5_mean_47 ?_
        refine lv_iload_n hx hb dX5_mean_48 rfl (lv_at hl 1 rfl) ?_
        refine lv_i2d hx hb dX5_mean_49 ?_
        refine lv_ddiv hx hb dX5_mean_50 hm.1 ?_
        have hm := hm.2
        exact hret 51 _ _ _ _ (ap, F, G, C) hm hT dX5_mean_51
      · have hm := hm.2 c_23
        refine lv_iload_n hx hb dX5_mean_26 rfl (lv_at hl 2 rfl) ?_
        refine lv_aload_n hx hb dX5_mean_27 rfl (lv_at hl 0 rfl) ?_
        refine gCA_cl_5 hC hK hT.1 wq_490 dX5_mean_28 ?_
        refine gCA_tun_5 hC hK hT.1 wq_436 dX5_mean_31 ?_
        refine lv_iload_n hx hb dX5_mean_34 rfl (lv_at hl 3 rfl) ?_
        refine w_atS (q0 := 2) hC hN hK hT.1 wq_605 rfl (by decide) (by decide) hl.1 (Nat.le_of_ble_eq_true rfl) ⟨Nat.le_refl _, Nat.le_refl _⟩ dX5_mean_35 ?_
        refine lv_iadd hx hb dX5_mean_38 ?_
        refine lv_topi (fun v2_39 ev2_39 => ?_)
        have hm := hm v2_39 ev2_39
        refine lv_istore_n (lv' := [(2, .int v2_39), (0, .ref (ca)), (1, .int v1), (3, .int v3)]) hx hb dX5_mean_39 rfl hl (by decide) rfl (fun ls hl => ?_)
        obtain ⟨v3_40, ev3_40⟩ : ∃ y : Int32, y = v3 + 1 := ⟨_, rfl⟩
        have hm := hm v3_40 ev3_40
        refine lv_iinc (v := v3_40) (lv' := [(3, .int v3_40), (2, .int v2_39), (0, .ref (ca)), (1, .int v1)]) hx hb dX5_mean_40 hl (k := 3) rfl (by rw [ev3_40]; rfl) (by decide) rfl (fun ls hl => ?_)
        refine lv_goto (tgt := 21) hx hb dX5_mean_43 (by decide) ?_
        exact ih21 _ _ _ _ _ _ _ _ _ _ hm hT (lv_sub hl [2, 3, 1, 0] rfl)
  refine lv_aload_n hx hb dX5_mean_0 rfl (lv_at hl 0 rfl) ?_
  refine gCA_cl_5 hC hK hT.1 wq_490 dX5_mean_1 ?_
  refine gCA_tun_0 hC hK hT.1 wq_426 dX5_mean_4 ?_
  refine gCA_plan_3 hC hK hT.1 wq_301 dX5_mean_7 ?_
  refine lv_topi (fun v1_10 ev1_10 => ?_)
  have hm := hm v1_10 ev1_10
  refine lv_istore_n (lv' := [(1, .int v1_10), (0, .ref (ca))]) hx hb dX5_mean_10 rfl hl (by decide) rfl (fun ls hl => ?_)
  refine lv_iload_n hx hb dX5_mean_11 rfl (lv_at hl 0 rfl) ?_
  refine lv_if_gt (tgt := 17) hx hb dX5_mean_12 (by decide) (fun c_12 => ?_) (fun c_12 => ?_)
  · have hm := hm.1 c_12
    refine lv_iconst (v := 0) hx hb dX5_mean_17 (by decide) ?_
    refine lv_istore_n (lv' := [(2, .int 0), (1, .int v1_10), (0, .ref (ca))]) hx hb dX5_mean_18 rfl hl (by decide) rfl (fun ls hl => ?_)
    refine lv_iconst (v := 0) hx hb dX5_mean_19 (by decide) ?_
    refine lv_istore_n (lv' := [(3, .int 0), (2, .int 0), (1, .int v1_10), (0, .ref (ca))]) hx hb dX5_mean_20 rfl hl (by decide) rfl (fun ls hl => ?_)
    exact L21 _ _ _ _ _ _ _ _ _ _ _ hm hT (lv_sub hl [3, 2, 1, 0] rfl)
  · have hm := hm.2 c_12
    refine lv_dconst0 hx hb dX5_mean_15 ?_
    exact hret 16 _ _ _ _ (ap, F, G, C) hm hT dX5_mean_16
def wl_X5_worst_4 (q : Nat → Nat) (P : M2) (ap : Nat) (F : M2) (G : M2) (C : M2) (K : Int32 → Prop) : Nat → Int32 → Int32 → Prop
  | 0, _, _ => False
  | n + 1, v1, v2 => (((P 21 0) ≤ v2 → K v1) ∧ (¬ (P 21 0) ≤ v2 → ((v1 = ((-1)) → (∀ v2_50 : Int32, v2_50 = v2 + 1 → wl_X5_worst_4 q P ap F G C K n v2 v2_50)) ∧ (¬ v1 = ((-1)) → (((atv (F 4) 60 v1) ≤ (atv (F 4) 60 v2) → (∀ v2_50 : Int32, v2_50 = v2 + 1 → wl_X5_worst_4 q P ap F G C K n v1 v2_50)) ∧ (¬ (atv (F 4) 60 v1) ≤ (atv (F 4) 60 v2) → (∀ v2_50 : Int32, v2_50 = v2 + 1 → wl_X5_worst_4 q P ap F G C K n v2 v2_50)))))))
def wp_X5_worst (q : Nat → Nat) (P : M2) (ap : Nat) (F : M2) (G : M2) (C : M2) (K : Int32 → Prop) : Prop := wl_X5_worst_4 q P ap F G C K fK ((-1)) 0
set_option maxRecDepth 100000 in
set_option maxHeartbeats 4000000 in
theorem c_X5_worst (l : Launch) (D : va_G) (Z : Nat → ClassId) (a b q : Nat → Nat) (ca tp rd sp : Nat) (P : M2) (ap : Nat) (F : M2) (G : M2) (C : M2) (sz : Nat) (K : Int32 → Prop) (hm : wp_X5_worst q P ap F G C K) : Met l yX5_worst (wy yX5_worst cX5_worst 3 (some .int)) (rk 1 0 0) (pre vwCl D Z (CA Z a b q ca tp rd sp P ap F G C) sz [.ref (ca)]) (vp_Si K) 0 0 (fun _ => False) := by
  refine ro_of (ty := .int) (by decide +kernel) (Nat.le_of_ble_eq_true rfl) rfl ?_
  intro p e s m args below meth c Q hC hN hsz hP hD hK hret ls hl
  have hx := hC.1
  have hb := hC.2.1
  have hl : lv_has ls 3 [(0, .ref (ca))] := hl
  have L4 : ∀ (n4 : Nat), ∀ (v1 : Int32) (v2 : Int32) (ls : Array Slot), wl_X5_worst_4 q P ap F G C K n4 v1 v2 → lv_has ls 3 [(0, .ref (ca)), (1, .int v1), (2, .int v2)] → W p l e (rk 1 0 0) s m args below meth c s.heap [] 0 0 Q (F0 m 4 ls []) := by
    intro n4
    induction n4 with
    | zero =>
      intro v1 v2 ls hm hl
      exact False.elim hm
    | succ n4 ih4 =>
      intro v1 v2 ls hm hl
      refine lv_iload_n hx hb dX5_worst_4 rfl (lv_at hl 2 rfl) ?_
      refine lv_aload_n hx hb dX5_worst_5 rfl (lv_at hl 0 rfl) ?_
      refine gCA_cl_5 hC hK hP wq_490 dX5_worst_6 ?_
      refine gCA_tun_0 hC hK hP wq_426 dX5_worst_9 ?_
      refine gCA_plan_1 hC hK hP wq_293 dX5_worst_12 ?_
      refine lv_icmp_ge (tgt := 56) hx hb dX5_worst_15 (by decide) (fun c_15 => ?_) (fun c_15 => ?_)
      · have hm := hm.1 c_15
        refine lv_iload_n hx hb dX5_worst_56 rfl (lv_at hl 1 rfl) ?_
        exact hret 57 _ _ hm rfl dX5_worst_57
      · have hm := hm.2 c_15
        refine lv_iload_n hx hb dX5_worst_18 rfl (lv_at hl 1 rfl) ?_
        refine lv_iconst (v := (-1)) hx hb dX5_worst_19 (by decide) ?_
        refine lv_icmp_eq (tgt := 48) hx hb dX5_worst_20 (by decide) (fun c_20 => ?_) (fun c_20 => ?_)
        · have hm := hm.1 c_20
          refine lv_iload_n hx hb dX5_worst_48 rfl (lv_at hl 2 rfl) ?_
          refine lv_istore_n (lv' := [(1, .int v2), (0, .ref (ca)), (2, .int v2)]) hx hb dX5_worst_49 rfl hl (by decide) rfl (fun ls hl => ?_)
          obtain ⟨v2_50, ev2_50⟩ : ∃ y : Int32, y = v2 + 1 := ⟨_, rfl⟩
          have hm := hm v2_50 ev2_50
          refine lv_iinc (v := v2_50) (lv' := [(2, .int v2_50), (1, .int v2), (0, .ref (ca))]) hx hb dX5_worst_50 hl (k := 2) rfl (by rw [ev2_50]; rfl) (by decide) rfl (fun ls hl => ?_)
          refine lv_goto (tgt := 4) hx hb dX5_worst_53 (by decide) ?_
          exact ih4 _ _ _ hm (lv_sub hl [2, 1, 0] rfl)
        · have hm := hm.2 c_20
          refine lv_aload_n hx hb dX5_worst_23 rfl (lv_at hl 0 rfl) ?_
          refine gCA_cl_5 hC hK hP wq_490 dX5_worst_24 ?_
          refine gCA_tun_4 hC hK hP wq_434 dX5_worst_27 ?_
          refine lv_iload_n hx hb dX5_worst_30 rfl (lv_at hl 2 rfl) ?_
          refine w_atS (q0 := 1) hC hN hK hP wq_605 rfl (by decide) (by decide) hl.1 (Nat.le_of_ble_eq_true rfl) ⟨Nat.le_refl _, Nat.le_refl _⟩ dX5_worst_31 ?_
          refine lv_aload_n hx hb dX5_worst_34 rfl (lv_at hl 0 rfl) ?_
          refine gCA_cl_5 hC hK hP wq_490 dX5_worst_35 ?_
          refine gCA_tun_4 hC hK hP wq_434 dX5_worst_38 ?_
          refine lv_iload_n hx hb dX5_worst_41 rfl (lv_at hl 1 rfl) ?_
          refine w_atS (q0 := 1) hC hN hK hP wq_605 rfl (by decide) (by decide) hl.1 (Nat.le_of_ble_eq_true rfl) ⟨Nat.le_refl _, Nat.le_refl _⟩ dX5_worst_42 ?_
          refine lv_icmp_ge (tgt := 50) hx hb dX5_worst_45 (by decide) (fun c_45 => ?_) (fun c_45 => ?_)
          · have hm := hm.1 c_45
            obtain ⟨v2_50, ev2_50⟩ : ∃ y : Int32, y = v2 + 1 := ⟨_, rfl⟩
            have hm := hm v2_50 ev2_50
            refine lv_iinc (v := v2_50) (lv' := [(2, .int v2_50), (0, .ref (ca)), (1, .int v1)]) hx hb dX5_worst_50 hl (k := 2) rfl (by rw [ev2_50]; rfl) (by decide) rfl (fun ls hl => ?_)
            refine lv_goto (tgt := 4) hx hb dX5_worst_53 (by decide) ?_
            exact ih4 _ _ _ hm (lv_sub hl [1, 2, 0] rfl)
          · have hm := hm.2 c_45
            refine lv_iload_n hx hb dX5_worst_48 rfl (lv_at hl 2 rfl) ?_
            refine lv_istore_n (lv' := [(1, .int v2), (0, .ref (ca)), (2, .int v2)]) hx hb dX5_worst_49 rfl hl (by decide) rfl (fun ls hl => ?_)
            obtain ⟨v2_50, ev2_50⟩ : ∃ y : Int32, y = v2 + 1 := ⟨_, rfl⟩
            have hm := hm v2_50 ev2_50
            refine lv_iinc (v := v2_50) (lv' := [(2, .int v2_50), (1, .int v2), (0, .ref (ca))]) hx hb dX5_worst_50 hl (k := 2) rfl (by rw [ev2_50]; rfl) (by decide) rfl (fun ls hl => ?_)
            refine lv_goto (tgt := 4) hx hb dX5_worst_53 (by decide) ?_
            exact ih4 _ _ _ hm (lv_sub hl [2, 1, 0] rfl)
  refine lv_iconst (v := (-1)) hx hb dX5_worst_0 (by decide) ?_
  refine lv_istore_n (lv' := [(1, .int ((-1))), (0, .ref (ca))]) hx hb dX5_worst_1 rfl hl (by decide) rfl (fun ls hl => ?_)
  refine lv_iconst (v := 0) hx hb dX5_worst_2 (by decide) ?_
  refine lv_istore_n (lv' := [(2, .int 0), (1, .int ((-1))), (0, .ref (ca))]) hx hb dX5_worst_3 rfl hl (by decide) rfl (fun ls hl => ?_)
  exact L4 _ _ _ _ hm (lv_sub hl [2, 1, 0] rfl)
def wl_X5_air_4 (q : Nat → Nat) (P : M2) (K : Int32 → Nat → M2 → M2 → M2 → Prop) : Nat → Nat → M2 → M2 → M2 → Int32 → Int32 → Prop
  | 0, _, _, _, _, _, _ => False
  | n + 1, ap, F, G, C, v1, v2 => (((P 21 0) ≤ v2 → K v1 ap F G C) ∧ (¬ (P 21 0) ≤ v2 → (∀ v1_34, v1_34 = v1 + (100 - (atv (F 4) 60 v2)) → (∀ F_45 : M2, F_45 = up2 F 4 (putv (F 4) 60 v2 100) → (∀ v2_48 : Int32, v2_48 = v2 + 1 → wl_X5_air_4 q P K n ap F_45 G C v1_34 v2_48)))))
def wp_X5_air (q : Nat → Nat) (P : M2) (ap : Nat) (F : M2) (G : M2) (C : M2) (K : Int32 → Nat → M2 → M2 → M2 → Prop) : Prop := wl_X5_air_4 q P K fK ap F G C 0 0
set_option maxRecDepth 100000 in
set_option maxHeartbeats 4000000 in
theorem c_X5_air (l : Launch) (D : va_G) (Z : Nat → ClassId) (a b q : Nat → Nat) (ca tp rd sp : Nat) (P : M2) (ap : Nat) (F : M2) (G : M2) (C : M2) (sz : Nat) (K : Int32 → Nat → M2 → M2 → M2 → Prop) (hm : wp_X5_air q P ap F G C K) : Met l yX5_air (wy yX5_air cX5_air 3 (some .int)) (rk 1 0 0) (pre vwCl D Z (CA Z a b q ca tp rd sp P ap F G C) sz [.ref (ca)]) (poI vwCl D Z (fun u : Nat × M2 × M2 × M2 => CA Z a b q ca tp rd sp P u.1 u.2.1 u.2.2.1 u.2.2.2) (ap, F, G, C) sz (fun (r : Int32) (u : Nat × M2 × M2 × M2) => K r u.1 u.2.1 u.2.2.1 u.2.2.2)) 0 0 (va_A (CA Z a b q ca tp rd sp P ap F G C) sz) := by
  refine rw_of (ty := .int) (wsF := (fun u : Nat × M2 × M2 × M2 => CA Z a b q ca tp rd sp P u.1 u.2.1 u.2.2.1 u.2.2.2)) (u0 := (ap, F, G, C)) (by decide +kernel) (Nat.le_of_ble_eq_true rfl) rfl ?_
  intro p e s m args below meth c Q A hC hN hsz hT hK hret ls hl
  have hx := hC.1
  have hb := hC.2.1
  have hl : lv_has ls 3 [(0, .ref (ca))] := hl
  have hT : TS vwCl D (CA Z a b q ca tp rd sp P ap F G C) A s.heap s.heap [] := hT
  have L4 : ∀ (n4 : Nat), ∀ (ap : Nat) (F : M2) (G : M2) (C : M2) (v1 : Int32) (v2 : Int32) (H : Heap) (locs : List Loc) (ls : Array Slot), wl_X5_air_4 q P K n4 ap F G C v1 v2 → TS vwCl D (CA Z a b q ca tp rd sp P ap F G C) A s.heap H locs → lv_has ls 3 [(0, .ref (ca)), (1, .int v1), (2, .int v2)] → W p l e (rk 1 0 0) s m args below meth c H locs 0 0 Q (F0 m 4 ls []) := by
    intro n4
    induction n4 with
    | zero =>
      intro ap F G C v1 v2 H locs ls hm hT hl
      exact False.elim hm
    | succ n4 ih4 =>
      intro ap F G C v1 v2 H locs ls hm hT hl
      refine lv_iload_n hx hb dX5_air_4 rfl (lv_at hl 2 rfl) ?_
      refine lv_aload_n hx hb dX5_air_5 rfl (lv_at hl 0 rfl) ?_
      refine gCA_cl_5 hC hK hT.1 wq_490 dX5_air_6 ?_
      refine gCA_tun_0 hC hK hT.1 wq_426 dX5_air_9 ?_
      refine gCA_plan_1 hC hK hT.1 wq_293 dX5_air_12 ?_
      refine lv_icmp_ge (tgt := 54) hx hb dX5_air_15 (by decide) (fun c_15 => ?_) (fun c_15 => ?_)
      · have hm := hm.1 c_15
        refine lv_iload_n hx hb dX5_air_54 rfl (lv_at hl 1 rfl) ?_
        exact hret 55 _ _ _ _ (ap, F, G, C) hm hT rfl dX5_air_55
      · have hm := hm.2 c_15
        refine lv_iload_n hx hb dX5_air_18 rfl (lv_at hl 1 rfl) ?_
        refine lv_bipush (v := 100) hx hb dX5_air_19 (by decide) ?_
        refine lv_aload_n hx hb dX5_air_21 rfl (lv_at hl 0 rfl) ?_
        refine gCA_cl_5 hC hK hT.1 wq_490 dX5_air_22 ?_
        refine gCA_tun_4 hC hK hT.1 wq_434 dX5_air_25 ?_
        refine lv_iload_n hx hb dX5_air_28 rfl (lv_at hl 2 rfl) ?_
        refine w_atS (q0 := 1) hC hN hK hT.1 wq_605 rfl (by decide) (by decide) hl.1 (Nat.le_of_ble_eq_true rfl) ⟨Nat.le_refl _, Nat.le_refl _⟩ dX5_air_29 ?_
        refine lv_isub hx hb dX5_air_32 ?_
        refine lv_iadd hx hb dX5_air_33 ?_
        refine lv_topi (fun v1_34 ev1_34 => ?_)
        have hm := hm v1_34 ev1_34
        refine lv_istore_n (lv' := [(1, .int v1_34), (0, .ref (ca)), (2, .int v2)]) hx hb dX5_air_34 rfl hl (by decide) rfl (fun ls hl => ?_)
        refine lv_aload_n hx hb dX5_air_35 rfl (lv_at hl 1 rfl) ?_
        refine gCA_cl_5 hC hK hT.1 wq_490 dX5_air_36 ?_
        refine gCA_tun_4 hC hK hT.1 wq_434 dX5_air_39 ?_
        refine lv_iload_n hx hb dX5_air_42 rfl (lv_at hl 2 rfl) ?_
        refine lv_bipush (v := 100) hx hb dX5_air_43 (by decide) ?_
        refine uSCA_Tair hC hN hK hT wq_1470 (by decide) hl.1 (Nat.le_of_ble_eq_true rfl) ⟨Nat.le_refl _, Nat.le_refl _⟩ dX5_air_45 (fun F_45 eF_45 H locs hT => ?_)
        have hm := hm F_45 eF_45
        obtain ⟨v2_48, ev2_48⟩ : ∃ y : Int32, y = v2 + 1 := ⟨_, rfl⟩
        have hm := hm v2_48 ev2_48
        refine lv_iinc (v := v2_48) (lv' := [(2, .int v2_48), (1, .int v1_34), (0, .ref (ca))]) hx hb dX5_air_48 hl (k := 2) rfl (by rw [ev2_48]; rfl) (by decide) rfl (fun ls hl => ?_)
        refine lv_goto (tgt := 4) hx hb dX5_air_51 (by decide) ?_
        exact ih4 _ _ _ _ _ _ _ _ _ hm hT (lv_sub hl [2, 1, 0] rfl)
  refine lv_iconst (v := 0) hx hb dX5_air_0 (by decide) ?_
  refine lv_istore_n (lv' := [(1, .int 0), (0, .ref (ca))]) hx hb dX5_air_1 rfl hl (by decide) rfl (fun ls hl => ?_)
  refine lv_iconst (v := 0) hx hb dX5_air_2 (by decide) ?_
  refine lv_istore_n (lv' := [(2, .int 0), (1, .int 0), (0, .ref (ca))]) hx hb dX5_air_3 rfl hl (by decide) rfl (fun ls hl => ?_)
  exact L4 _ _ _ _ _ _ _ _ _ _ hm hT (lv_sub hl [2, 1, 0] rfl)
def wp_X5_canEnter (q : Nat → Nat) (P : M2) (KX : Nat → Prop) (ap : Nat) (F : M2) (G : M2) (C : M2) (x1 : Int32) (K : Int32 → Nat → M2 → M2 → M2 → Prop) : Prop := ((¬ x1 < 0 → x1 < (P 24 0) → wp_X4_goesIn P F x1 (fun r_19 F_19 => (zb r_19 ∧ K r_19 ap F_19 G C))) ∧ ((x1 < 0 ∨ ¬ x1 < (P 24 0)) → KX 2))
set_option maxRecDepth 100000 in
set_option maxHeartbeats 4000000 in
theorem c_X5_canEnter (l : Launch) (D : va_G) (Z : Nat → ClassId) (a b q : Nat → Nat) (ca tp rd sp : Nat) (P : M2) (ap : Nat) (F : M2) (G : M2) (C : M2) (sz : Nat) (x1 : Int32) (K : Int32 → Nat → M2 → M2 → M2 → Prop) (hm : wp_X5_canEnter q P (fun _ => False) ap F G C x1 K) : Met l yX5_canEnter (wy yX5_canEnter cX5_canEnter 2 (some .boolean)) (rk 7 0 0) (pre vwCl D Z (CA Z a b q ca tp rd sp P ap F G C) sz [.ref (ca), .int x1]) (poI vwCl D Z (fun u : Nat × M2 × M2 × M2 => CA Z a b q ca tp rd sp P u.1 u.2.1 u.2.2.1 u.2.2.2) (ap, F, G, C) sz (fun (r : Int32) (u : Nat × M2 × M2 × M2) => K r u.1 u.2.1 u.2.2.1 u.2.2.2)) 0 0 (va_A (CA Z a b q ca tp rd sp P ap F G C) sz) := by
  refine rw_of (ty := .boolean) (wsF := (fun u : Nat × M2 × M2 × M2 => CA Z a b q ca tp rd sp P u.1 u.2.1 u.2.2.1 u.2.2.2)) (u0 := (ap, F, G, C)) (by decide +kernel) (Nat.le_of_ble_eq_true rfl) rfl ?_
  intro p e s m args below meth c Q A hC hN hsz hT hK hret ls hl
  have hx := hC.1
  have hb := hC.2.1
  have hl : lv_has ls 2 [(0, .ref (ca)), (1, .int x1)] := hl
  have hT : TS vwCl D (CA Z a b q ca tp rd sp P ap F G C) A s.heap s.heap [] := hT
  refine lv_iload_n hx hb dX5_canEnter_0 rfl (lv_at hl 1 rfl) ?_
  refine lv_aload_n hx hb dX5_canEnter_1 rfl (lv_at hl 0 rfl) ?_
  refine gCA_cl_5 hC hK hT.1 wq_490 dX5_canEnter_2 ?_
  refine gCA_tun_0 hC hK hT.1 wq_426 dX5_canEnter_5 ?_
  refine gCA_plan_4 hC hK hT.1 wq_305 dX5_canEnter_8 ?_
  have h_11 := w_nx hm.2
  refine w_needOneOfN hC h_11.1 h_11.2 wq_601 (by decide) hl.1 (Nat.le_of_ble_eq_true rfl) ⟨Nat.le_refl _, Nat.le_refl _⟩ dX5_canEnter_11 ?_
  have hm := hm.1 h_11.1 h_11.2
  refine lv_aload_n hx hb dX5_canEnter_14 rfl (lv_at hl 0 rfl) ?_
  refine gCA_cl_5 hC hK hT.1 wq_490 dX5_canEnter_15 ?_
  refine lv_iload_n hx hb dX5_canEnter_18 rfl (lv_at hl 1 rfl) ?_
  refine kx_X4_goesIn hC hN hK hT (cx_TWCA Z a b q ca tp rd sp P ap F G C) rfl hm wq_651 (by decide) hl.1 (Nat.le_of_ble_eq_true rfl) ⟨Nat.le_refl _, Nat.le_refl _⟩ dX5_canEnter_19 (fun r_19 F_19 H locs hm hT => ?_)
  have hT : TS vwCl D (CA Z a b q ca tp rd sp P ap F_19 G C) A s.heap H locs := hT
  exact hret 22 _ _ _ _ (ap, F_19, G, C) hm.2 hT hm.1 dX5_canEnter_22
section KX5_canEnter
variable {p : Program} {l : Launch} {e : Env} {s : State} {m : MethodId} {args : Array Value} {below : List Frame} {meth : Method} {c : Code} {H H0 : Heap} {locs : List Loc} {cells slots : Nat} {Q : State → Prop} {R : Room} {rn mcR msR : Nat}
variable {pc : Nat} {ls : Array Slot} {rest : List Value} {A : Nat → Prop} {D : va_G}
variable {cc : ByteArray} {nL index : Nat} {own host : String}
end KX5_canEnter
def wj_X5_whistle_19 (q : Nat → Nat) (P : M2) (KX : Nat → Prop) (K : Int32 → Nat → M2 → M2 → M2 → Prop) (ap : Nat) (F : M2) (G : M2) (C : M2) (v1 : Int32) : Prop := (∀ v2_26, v2_26 = F 2 0 → (∀ F_32 : M2, F_32 = up2 F 2 (fun _ => v1) → K v2_26 ap F_32 G C))
def wp_X5_whistle (q : Nat → Nat) (P : M2) (KX : Nat → Prop) (ap : Nat) (F : M2) (G : M2) (C : M2) (x1 : Int32) (K : Int32 → Nat → M2 → M2 → M2 → Prop) : Prop := ((x1 = 0 → wj_X5_whistle_19 q P KX K ap F G C x1) ∧ (¬ x1 = 0 → ((x1 = 1 → wj_X5_whistle_19 q P KX K ap F G C x1) ∧ (¬ x1 = 1 → KX 1))))
set_option maxRecDepth 100000 in
set_option maxHeartbeats 4000000 in
theorem c_X5_whistle (l : Launch) (D : va_G) (Z : Nat → ClassId) (a b q : Nat → Nat) (ca tp rd sp : Nat) (P : M2) (ap : Nat) (F : M2) (G : M2) (C : M2) (sz : Nat) (x1 : Int32) (K : Int32 → Nat → M2 → M2 → M2 → Prop) (hm : wp_X5_whistle q P (fun _ => False) ap F G C x1 K) : Met l yX5_whistle (wy yX5_whistle cX5_whistle 3 (some .int)) (rk 7 0 0) (pre vwCl D Z (CA Z a b q ca tp rd sp P ap F G C) sz [.ref (ca), .int x1]) (poI vwCl D Z (fun u : Nat × M2 × M2 × M2 => CA Z a b q ca tp rd sp P u.1 u.2.1 u.2.2.1 u.2.2.2) (ap, F, G, C) sz (fun (r : Int32) (u : Nat × M2 × M2 × M2) => K r u.1 u.2.1 u.2.2.1 u.2.2.2)) 0 0 (va_A (CA Z a b q ca tp rd sp P ap F G C) sz) := by
  refine rw_of (ty := .int) (wsF := (fun u : Nat × M2 × M2 × M2 => CA Z a b q ca tp rd sp P u.1 u.2.1 u.2.2.1 u.2.2.2)) (u0 := (ap, F, G, C)) (by decide +kernel) (Nat.le_of_ble_eq_true rfl) rfl ?_
  intro p e s m args below meth c Q A hC hN hsz hT hK hret ls hl
  have hx := hC.1
  have hb := hC.2.1
  have hl : lv_has ls 3 [(0, .ref (ca)), (1, .int x1)] := hl
  have hT : TS vwCl D (CA Z a b q ca tp rd sp P ap F G C) A s.heap s.heap [] := hT
  have L19 : ∀ (ap : Nat) (F : M2) (G : M2) (C : M2) (v1 : Int32) (H : Heap) (locs : List Loc) (ls : Array Slot), wj_X5_whistle_19 q P (fun _ => False) K ap F G C v1 → TS vwCl D (CA Z a b q ca tp rd sp P ap F G C) A s.heap H locs → lv_has ls 3 [(0, .ref (ca)), (1, .int v1)] → W p l e (rk 7 0 0) s m args below meth c H locs 0 0 Q (F0 m 19 ls []) := by
    intro ap F G C v1 H locs ls hm hT hl
    refine lv_aload_n hx hb dX5_whistle_19 rfl (lv_at hl 0 rfl) ?_
    refine gCA_cl_5 hC hK hT.1 wq_490 dX5_whistle_20 ?_
    refine gCA_tun_2 hC hK hT.1 wq_430 dX5_whistle_23 ?_
    refine lv_topi (fun v2_26 ev2_26 => ?_)
    have hm := hm v2_26 ev2_26
    refine lv_istore_n (lv' := [(2, .int v2_26), (0, .ref (ca)), (1, .int v1)]) hx hb dX5_whistle_26 rfl hl (by decide) rfl (fun ls hl => ?_)
    refine lv_aload_n hx hb dX5_whistle_27 rfl (lv_at hl 1 rfl) ?_
    refine gCA_cl_5 hC hK hT.1 wq_490 dX5_whistle_28 ?_
    refine lv_iload_n hx hb dX5_whistle_31 rfl (lv_at hl 2 rfl) ?_
    refine pCA_tun_2 hC hK hT wq_430 dX5_whistle_32 (fun F_32 eF_32 H locs hT => ?_)
    have hm := hm F_32 eF_32
    refine lv_iload_n hx hb dX5_whistle_35 rfl (lv_at hl 0 rfl) ?_
    exact hret 36 _ _ _ _ (ap, F_32, G, C) hm hT rfl dX5_whistle_36
  refine lv_iload_n hx hb dX5_whistle_0 rfl (lv_at hl 1 rfl) ?_
  refine lv_if_eq (tgt := 19) hx hb dX5_whistle_1 (by decide) (fun c_1 => ?_) (fun c_1 => ?_)
  · have hm := hm.1 c_1
    exact L19 _ _ _ _ _ _ _ _ hm hT (lv_sub hl [0, 1] rfl)
  · have hm := hm.2 c_1
    refine lv_iload_n hx hb dX5_whistle_4 rfl (lv_at hl 1 rfl) ?_
    refine lv_iconst (v := 1) hx hb dX5_whistle_5 (by decide) ?_
    refine lv_icmp_eq (tgt := 19) hx hb dX5_whistle_6 (by decide) (fun c_6 => ?_) (fun c_6 => ?_)
    · have hm := hm.1 c_6
      exact L19 _ _ _ _ _ _ _ _ hm hT (lv_sub hl [0, 1] rfl)
    · have hm := hm.2 c_6
      exact False.elim hm
section KX5_whistle
variable {p : Program} {l : Launch} {e : Env} {s : State} {m : MethodId} {args : Array Value} {below : List Frame} {meth : Method} {c : Code} {H H0 : Heap} {locs : List Loc} {cells slots : Nat} {Q : State → Prop} {R : Room} {rn mcR msR : Nat}
variable {pc : Nat} {ls : Array Slot} {rest : List Value} {A : Nat → Prop} {D : va_G}
variable {cc : ByteArray} {nL index : Nat} {own host : String}
end KX5_whistle
def wp_X5_cap (q : Nat → Nat) (P : M2) (KX : Nat → Prop) (ap : Nat) (F : M2) (G : M2) (C : M2) (x1 : Int32) (K : Int32 → Nat → M2 → M2 → M2 → Prop) : Prop := ((¬ x1 < 0 → x1 < (P 23 0) → (∀ v2_25, v2_25 = atv (F 7) 6 x1 → (∀ F_35 : M2, F_35 = up2 F 7 (putv (F 7) 6 x1 ((-1))) → K v2_25 ap F_35 G C))) ∧ ((x1 < 0 ∨ ¬ x1 < (P 23 0)) → KX 2))
set_option maxRecDepth 100000 in
set_option maxHeartbeats 4000000 in
theorem c_X5_cap (l : Launch) (D : va_G) (Z : Nat → ClassId) (a b q : Nat → Nat) (ca tp rd sp : Nat) (P : M2) (ap : Nat) (F : M2) (G : M2) (C : M2) (sz : Nat) (x1 : Int32) (K : Int32 → Nat → M2 → M2 → M2 → Prop) (hm : wp_X5_cap q P (fun _ => False) ap F G C x1 K) : Met l yX5_cap (wy yX5_cap cX5_cap 3 (some .int)) (rk 7 0 0) (pre vwCl D Z (CA Z a b q ca tp rd sp P ap F G C) sz [.ref (ca), .int x1]) (poI vwCl D Z (fun u : Nat × M2 × M2 × M2 => CA Z a b q ca tp rd sp P u.1 u.2.1 u.2.2.1 u.2.2.2) (ap, F, G, C) sz (fun (r : Int32) (u : Nat × M2 × M2 × M2) => K r u.1 u.2.1 u.2.2.1 u.2.2.2)) 0 0 (va_A (CA Z a b q ca tp rd sp P ap F G C) sz) := by
  refine rw_of (ty := .int) (wsF := (fun u : Nat × M2 × M2 × M2 => CA Z a b q ca tp rd sp P u.1 u.2.1 u.2.2.1 u.2.2.2)) (u0 := (ap, F, G, C)) (by decide +kernel) (Nat.le_of_ble_eq_true rfl) rfl ?_
  intro p e s m args below meth c Q A hC hN hsz hT hK hret ls hl
  have hx := hC.1
  have hb := hC.2.1
  have hl : lv_has ls 3 [(0, .ref (ca)), (1, .int x1)] := hl
  have hT : TS vwCl D (CA Z a b q ca tp rd sp P ap F G C) A s.heap s.heap [] := hT
  refine lv_iload_n hx hb dX5_cap_0 rfl (lv_at hl 1 rfl) ?_
  refine lv_aload_n hx hb dX5_cap_1 rfl (lv_at hl 0 rfl) ?_
  refine gCA_cl_5 hC hK hT.1 wq_490 dX5_cap_2 ?_
  refine gCA_tun_0 hC hK hT.1 wq_426 dX5_cap_5 ?_
  refine gCA_plan_3 hC hK hT.1 wq_301 dX5_cap_8 ?_
  have h_11 := w_nx hm.2
  refine w_needOneOfN hC h_11.1 h_11.2 wq_601 (by decide) hl.1 (Nat.le_of_ble_eq_true rfl) ⟨Nat.le_refl _, Nat.le_refl _⟩ dX5_cap_11 ?_
  have hm := hm.1 h_11.1 h_11.2
  refine lv_aload_n hx hb dX5_cap_14 rfl (lv_at hl 0 rfl) ?_
  refine gCA_cl_5 hC hK hT.1 wq_490 dX5_cap_15 ?_
  refine gCA_tun_7 hC hK hT.1 wq_440 dX5_cap_18 ?_
  refine lv_iload_n hx hb dX5_cap_21 rfl (lv_at hl 1 rfl) ?_
  refine w_atS (q0 := 4) hC hN hK hT.1 wq_605 rfl (by decide) (by decide) hl.1 (Nat.le_of_ble_eq_true rfl) ⟨Nat.le_refl _, Nat.le_refl _⟩ dX5_cap_22 ?_
  refine lv_topi (fun v2_25 ev2_25 => ?_)
  have hm := hm v2_25 ev2_25
  refine lv_istore_n (lv' := [(2, .int v2_25), (0, .ref (ca)), (1, .int x1)]) hx hb dX5_cap_25 rfl hl (by decide) rfl (fun ls hl => ?_)
  refine lv_aload_n hx hb dX5_cap_26 rfl (lv_at hl 1 rfl) ?_
  refine gCA_cl_5 hC hK hT.1 wq_490 dX5_cap_27 ?_
  refine gCA_tun_7 hC hK hT.1 wq_440 dX5_cap_30 ?_
  refine lv_iload_n hx hb dX5_cap_33 rfl (lv_at hl 2 rfl) ?_
  refine lv_iconst (v := (-1)) hx hb dX5_cap_34 (by decide) ?_
  refine uSCA_TcapPlace hC hN hK hT wq_1470 (by decide) hl.1 (Nat.le_of_ble_eq_true rfl) ⟨Nat.le_refl _, Nat.le_refl _⟩ dX5_cap_35 (fun F_35 eF_35 H locs hT => ?_)
  have hm := hm F_35 eF_35
  refine lv_iload_n hx hb dX5_cap_38 rfl (lv_at hl 0 rfl) ?_
  exact hret 39 _ _ _ _ (ap, F_35, G, C) hm hT rfl dX5_cap_39
section KX5_cap
variable {p : Program} {l : Launch} {e : Env} {s : State} {m : MethodId} {args : Array Value} {below : List Frame} {meth : Method} {c : Code} {H H0 : Heap} {locs : List Loc} {cells slots : Nat} {Q : State → Prop} {R : Room} {rn mcR msR : Nat}
variable {pc : Nat} {ls : Array Slot} {rest : List Value} {A : Nat → Prop} {D : va_G}
variable {cc : ByteArray} {nL index : Nat} {own host : String}
end KX5_cap
def wp_X5_pass (q : Nat → Nat) (P : M2) (KX : Nat → Prop) (ap : Nat) (F : M2) (G : M2) (C : M2) (x1 : Int32) (K : Int32 → Nat → M2 → M2 → M2 → Prop) : Prop := ((¬ x1 < 1 → x1 ≤ 120 → wp_X4_tally P F 10 (fun r_10 => wp_X4_run P F x1 (fun F_19 => wp_X4_tally P F_19 10 (fun r_28 => K (r_28 - r_10) ap F_19 G C)))) ∧ ((x1 < 1 ∨ ¬ x1 ≤ 120) → KX 1))
set_option maxRecDepth 100000 in
set_option maxHeartbeats 4000000 in
theorem c_X5_pass (l : Launch) (D : va_G) (Z : Nat → ClassId) (a b q : Nat → Nat) (ca tp rd sp : Nat) (P : M2) (ap : Nat) (F : M2) (G : M2) (C : M2) (sz : Nat) (x1 : Int32) (K : Int32 → Nat → M2 → M2 → M2 → Prop) (hm : wp_X5_pass q P (fun _ => False) ap F G C x1 K) : Met l yX5_pass (wy yX5_pass cX5_pass 3 (some .int)) (rk 7 0 0) (pre vwCl D Z (CA Z a b q ca tp rd sp P ap F G C) sz [.ref (ca), .int x1]) (poI vwCl D Z (fun u : Nat × M2 × M2 × M2 => CA Z a b q ca tp rd sp P u.1 u.2.1 u.2.2.1 u.2.2.2) (ap, F, G, C) sz (fun (r : Int32) (u : Nat × M2 × M2 × M2) => K r u.1 u.2.1 u.2.2.1 u.2.2.2)) 0 0 (va_A (CA Z a b q ca tp rd sp P ap F G C) sz) := by
  refine rw_of (ty := .int) (wsF := (fun u : Nat × M2 × M2 × M2 => CA Z a b q ca tp rd sp P u.1 u.2.1 u.2.2.1 u.2.2.2)) (u0 := (ap, F, G, C)) (by decide +kernel) (Nat.le_of_ble_eq_true rfl) rfl ?_
  intro p e s m args below meth c Q A hC hN hsz hT hK hret ls hl
  have hx := hC.1
  have hb := hC.2.1
  have hl : lv_has ls 3 [(0, .ref (ca)), (1, .int x1)] := hl
  have hT : TS vwCl D (CA Z a b q ca tp rd sp P ap F G C) A s.heap s.heap [] := hT
  refine lv_iload_n hx hb dX5_pass_0 rfl (lv_at hl 1 rfl) ?_
  have h_1 := w_nx hm.2
  refine w_needMinutesN hC h_1.1 h_1.2 wq_709 (by decide) hl.1 (Nat.le_of_ble_eq_true rfl) ⟨Nat.le_refl _, Nat.le_refl _⟩ dX5_pass_1 ?_
  have hm := hm.1 h_1.1 h_1.2
  refine lv_aload_n hx hb dX5_pass_4 rfl (lv_at hl 0 rfl) ?_
  refine gCA_cl_5 hC hK hT.1 wq_490 dX5_pass_5 ?_
  refine lv_bipush (v := 10) hx hb dX5_pass_8 (by decide) ?_
  refine kx_X4_tally hC hN hK hT.1 hT.D' (sx_TWCA Z a b q ca tp rd sp P ap F G C) rfl hm wq_511 (by decide) hl.1 (Nat.le_of_ble_eq_true rfl) ⟨Nat.le_refl _, Nat.le_refl _⟩ dX5_pass_10 (fun r_10 hm => ?_)
  refine lv_istore_n (lv' := [(2, .int r_10), (0, .ref (ca)), (1, .int x1)]) hx hb dX5_pass_13 rfl hl (by decide) rfl (fun ls hl => ?_)
  refine lv_aload_n hx hb dX5_pass_14 rfl (lv_at hl 1 rfl) ?_
  refine gCA_cl_5 hC hK hT.1 wq_490 dX5_pass_15 ?_
  refine lv_iload_n hx hb dX5_pass_18 rfl (lv_at hl 2 rfl) ?_
  refine kx_X4_run hC hN hK hT (cx_TWCA Z a b q ca tp rd sp P ap F G C) rfl hm wq_728 (by decide) hl.1 (Nat.le_of_ble_eq_true rfl) ⟨Nat.le_refl _, Nat.le_refl _⟩ dX5_pass_19 (fun F_19 H locs hm hT => ?_)
  have hT : TS vwCl D (CA Z a b q ca tp rd sp P ap F_19 G C) A s.heap H locs := hT
  refine lv_aload_n hx hb dX5_pass_22 rfl (lv_at hl 1 rfl) ?_
  refine gCA_cl_5 hC hK hT.1 wq_490 dX5_pass_23 ?_
  refine lv_bipush (v := 10) hx hb dX5_pass_26 (by decide) ?_
  refine kx_X4_tally hC hN hK hT.1 hT.D' (sx_TWCA Z a b q ca tp rd sp P ap F_19 G C) rfl hm wq_511 (by decide) hl.1 (Nat.le_of_ble_eq_true rfl) ⟨Nat.le_refl _, Nat.le_refl _⟩ dX5_pass_28 (fun r_28 hm => ?_)
  refine lv_iload_n hx hb dX5_pass_31 rfl (lv_at hl 0 rfl) ?_
  refine lv_isub hx hb dX5_pass_32 ?_
  exact hret 33 _ _ _ _ (ap, F_19, G, C) hm hT rfl dX5_pass_33
section KX5_pass
variable {p : Program} {l : Launch} {e : Env} {s : State} {m : MethodId} {args : Array Value} {below : List Frame} {meth : Method} {c : Code} {H H0 : Heap} {locs : List Loc} {cells slots : Nat} {Q : State → Prop} {R : Room} {rn mcR msR : Nat}
variable {pc : Nat} {ls : Array Slot} {rest : List Value} {A : Nat → Prop} {D : va_G}
variable {cc : ByteArray} {nL index : Nat} {own host : String}
end KX5_pass
def wp_X5_again (q : Nat → Nat) (P : M2) (KX : Nat → Prop) (ap : Nat) (F : M2) (G : M2) (C : M2) (x1 : Int32) (x2 : Int32) (K : Int32 → Nat → M2 → M2 → M2 → Prop) : Prop := ((¬ x1 < 0 → x1 < (P 24 0) → ((x2 < 0 → KX 1) ∧ (¬ x2 < 0 → ((x2 ≤ 9999 → (((atv (F 10) 8 x1) = 2 → wp_X4_sendBack P F x1 x2 (fun F_66 => K (atv (F_66 8) 8 x1) ap F_66 G C)) ∧ (¬ (atv (F 10) 8 x1) = 2 → KX 0))) ∧ (¬ x2 ≤ 9999 → KX 1))))) ∧ ((x1 < 0 ∨ ¬ x1 < (P 24 0)) → KX 2))
set_option maxRecDepth 100000 in
set_option maxHeartbeats 4000000 in
theorem x_X5_again (l : Launch) (hfl : l.stackTraces = false) (D : va_G) (rx : Nat → Nat) (Z : Nat → ClassId) (a b q : Nat → Nat) (ca tp rd sp : Nat) (P : M2) (sz : Nat) (ap : Nat) (F : M2) (G : M2) (C : M2) (x1 : Int32) (x2 : Int32) (KX : Nat → Prop) (K : Int32 → Nat → M2 → M2 → M2 → Prop) (hm : wp_X5_again q P KX ap F G C x1 x2 K) : vx_Met l yX5_again (wy yX5_again cX5_again 3 (some .int)) (rk 7 2 12) (preX vwCl D Z rx (CA Z a b q ca tp rd sp P ap F G C) sz [.ref (ca), .int x1, .int x2]) (poI vwCl D Z (fun u : Nat × M2 × M2 × M2 => CA Z a b q ca tp rd sp P u.1 u.2.1 u.2.2.1 u.2.2.2) (ap, F, G, C) sz (fun (r : Int32) (u : Nat × M2 × M2 × M2) => K r u.1 u.2.1 u.2.2.1 u.2.2.2)) (xcP KX sz) 2 12 (va_A (CA Z a b q ca tp rd sp P ap F G C) sz) := by
  refine rwx_of (ty := .int) (wsF := (fun u : Nat × M2 × M2 × M2 => CA Z a b q ca tp rd sp P u.1 u.2.1 u.2.2.1 u.2.2.2)) (u0 := (ap, F, G, C)) hfl rfl (by decide) (by decide +kernel) (Nat.le_of_ble_eq_true rfl) rfl ?_
  intro p e s m args below meth c Q A hC hN hR hsz hT hK hthr hret ls hl
  have hx := hC.1
  have hb := hC.2.1
  have hl : lv_has ls 3 [(0, .ref (ca)), (1, .int x1), (2, .int x2)] := hl
  have hT : TS vwCl D (CA Z a b q ca tp rd sp P ap F G C) A s.heap s.heap [] := hT
  refine lv_iload_n hx hb dX5_again_0 rfl (lv_at hl 1 rfl) ?_
  refine lv_aload_n hx hb dX5_again_1 rfl (lv_at hl 0 rfl) ?_
  refine gCA_cl_5 hC hK hT.1 wq_490 dX5_again_2 ?_
  refine gCA_tun_0 hC hK hT.1 wq_426 dX5_again_5 ?_
  refine gCA_plan_4 hC hK hT.1 wq_305 dX5_again_8 ?_
  refine w_needOneOf hC hfl hR hthr wq_601 (by decide) hl.1 (Nat.le_of_ble_eq_true rfl) ⟨(Nat.le_of_ble_eq_true rfl), (Nat.le_of_ble_eq_true rfl)⟩ dX5_again_11 hm.2 (fun c1_11 c2_11 => ?_)
  have hm := hm.1 c1_11 c2_11
  refine lv_iload_n hx hb dX5_again_14 rfl (lv_at hl 2 rfl) ?_
  refine lv_if_lt (tgt := 25) hx hb dX5_again_15 (by decide) (fun c_15 => ?_) (fun c_15 => ?_)
  · have hm := hm.1 c_15
    exact hthr.2 8 1 25 _ _ _ _ (by decide) hm dX5_again_25 dX5_again_28 dX5_again_29 dX5_again_31 dX5_again_34 (Nat.le_of_ble_eq_true rfl) hl.1 (Nat.le_of_ble_eq_true rfl) (Nat.le_of_ble_eq_true rfl)
  · have hm := hm.2 c_15
    refine lv_iload_n hx hb dX5_again_18 rfl (lv_at hl 2 rfl) ?_
    refine lv_sipush (v := 9999) hx hb dX5_again_19 (by decide) ?_
    refine lv_icmp_le (tgt := 35) hx hb dX5_again_22 (by decide) (fun c_22 => ?_) (fun c_22 => ?_)
    · have hm := hm.1 c_22
      refine lv_aload_n hx hb dX5_again_35 rfl (lv_at hl 0 rfl) ?_
      refine gCA_cl_5 hC hK hT.1 wq_490 dX5_again_36 ?_
      refine gCA_tun_10 hC hK hT.1 wq_446 dX5_again_39 ?_
      refine lv_iload_n hx hb dX5_again_42 rfl (lv_at hl 1 rfl) ?_
      refine w_atS (q0 := 7) hC hN hK hT.1 wq_605 rfl (by decide) (by decide) hl.1 (Nat.le_of_ble_eq_true rfl) ⟨(Nat.le_of_ble_eq_true rfl), (Nat.le_of_ble_eq_true rfl)⟩ dX5_again_43 ?_
      refine lv_iconst (v := 2) hx hb dX5_again_46 (by decide) ?_
      refine lv_icmp_eq (tgt := 60) hx hb dX5_again_47 (by decide) (fun c_47 => ?_) (fun c_47 => ?_)
      · have hm := hm.1 c_47
        refine lv_aload_n hx hb dX5_again_60 rfl (lv_at hl 0 rfl) ?_
        refine gCA_cl_5 hC hK hT.1 wq_490 dX5_again_61 ?_
        refine lv_iload_n hx hb dX5_again_64 rfl (lv_at hl 1 rfl) ?_
        refine lv_iload_n hx hb dX5_again_65 rfl (lv_at hl 2 rfl) ?_
        refine kx_X4_sendBack hC hN hK hT (cx_TWCA Z a b q ca tp rd sp P ap F G C) rfl hm wq_1481 (by decide) hl.1 (Nat.le_of_ble_eq_true rfl) ⟨(Nat.le_of_ble_eq_true rfl), (Nat.le_of_ble_eq_true rfl)⟩ dX5_again_66 (fun F_66 H locs hm hT => ?_)
        have hT : TS vwCl D (CA Z a b q ca tp rd sp P ap F_66 G C) A s.heap H locs := hT
        refine lv_aload_n hx hb dX5_again_69 rfl (lv_at hl 0 rfl) ?_
        refine gCA_cl_5 hC hK hT.1 wq_490 dX5_again_70 ?_
        refine gCA_tun_8 hC hK hT.1 wq_442 dX5_again_73 ?_
        refine lv_iload_n hx hb dX5_again_76 rfl (lv_at hl 1 rfl) ?_
        refine w_atS (q0 := 5) hC hN hK hT.1 wq_605 rfl (by decide) (by decide) hl.1 (Nat.le_of_ble_eq_true rfl) ⟨(Nat.le_of_ble_eq_true rfl), (Nat.le_of_ble_eq_true rfl)⟩ dX5_again_77 ?_
        refine W.widen (k := 2) (n := 12) (Nat.le_of_ble_eq_true rfl) (Nat.le_of_ble_eq_true rfl) ?_
        exact hret 80 _ _ _ _ (ap, F_66, G, C) hm hT rfl dX5_again_80
      · have hm := hm.2 c_47
        exact hthr.2 9 0 50 _ _ _ _ (by decide) hm dX5_again_50 dX5_again_53 dX5_again_54 dX5_again_56 dX5_again_59 (Nat.le_of_ble_eq_true rfl) hl.1 (Nat.le_of_ble_eq_true rfl) (Nat.le_of_ble_eq_true rfl)
    · have hm := hm.2 c_22
      exact hthr.2 8 1 25 _ _ _ _ (by decide) hm dX5_again_25 dX5_again_28 dX5_again_29 dX5_again_31 dX5_again_34 (Nat.le_of_ble_eq_true rfl) hl.1 (Nat.le_of_ble_eq_true rfl) (Nat.le_of_ble_eq_true rfl)
section XX5_again
variable {p : Program} {l : Launch} {e : Env} {s : State} {m : MethodId} {args : Array Value} {below : List Frame} {meth : Method} {c : Code} {H H0 : Heap} {locs : List Loc} {cells slots : Nat} {Q : State → Prop} {R : Room} {rn mcR msR : Nat}
variable {pc : Nat} {ls : Array Slot} {rest : List Value} {A : Nat → Prop} {D : va_G}
variable {cc : ByteArray} {nL index : Nat} {own host : String}
theorem xk_X5_again {Z : Nat → ClassId} {a b q : Nat → Nat} {ca tp rd sp : Nat} {P : M2} {ap : Nat} {F : M2} {G : M2} {C : M2} {x1 : Int32} {x2 : Int32} {K : Int32 → Nat → M2 → M2 → M2 → Prop} {KX : Nat → Prop} {rx : Nat → Nat} {ws wr : va_W} {isC isR pm : List Nat} {ws' : Nat × M2 × M2 × M2 → va_W} (hC : CallFix p m c cc nL s args lw_g own) (hN : NW s) (hfl : l.stackTraces = false) (hR : RXD rx (va_A ws H.size) s H) (hK : va_K D vwCl (tysG Z) s) (hT : TS vwCl D ws A H0 H locs) (hc : Cut ws (fun u : Nat × M2 × M2 × M2 => CA Z a b q ca tp rd sp P u.1 u.2.1 u.2.2.1 u.2.2.2) (ap, F, G, C) wr isC isR pm ws') (hnd : va_nd isC = true) (hm : wp_X5_again q P KX ap F G C x1 x2 K) (hl : Cond.methodLink own index yX5_again ∈ lw_g) (hlt : 7 < rn) (hsize : ls.size = nL) (hW : (rest.map fun v => v.category).sum ≤ 8) (hf : cells + 2 ≤ mcR ∧ slots + 12 ≤ msR) (hdg : decode cc pc = .ok (.invokevirtual index, 3))
    (kx : ∀ (k : Nat) (ce : Cell) (q9 : Nat) (H1 : Heap) (locs1 : List Loc), KX k → TS vwCl D ws A H0 H1 locs1 → H1[q9]? = some ce → ce.vm = .none → s.vm.findClass (exN k) = some ce.cls → vx_W p l e (rk rn mcR msR) s m args below meth c H1 locs1 (cells + 2) (slots + 12) Q (F0 m pc ls rest) q9)
    (kk : ∀ (r : Int32) (ap1 : Nat) (F1 : M2) (G1 : M2) (C1 : M2) (H1 : Heap) (locs1 : List Loc), K r ap1 F1 G1 C1 → TS vwCl D (ws' (ap1, F1, G1, C1)) A H0 H1 locs1 → W p l e (rk rn mcR msR) s m args below meth c H1 locs1 (cells + 2) (slots + 12) Q (F0 m (pc + 3) ls (.int r :: rest))) : W p l e (rk rn mcR msR) s m args below meth c H locs cells slots Q (F0 m pc ls (.int x2 :: .int x1 :: .ref (ca) :: rest)) :=
  rwx_go (wsF := (fun u : Nat × M2 × M2 × M2 => CA Z a b q ca tp rd sp P u.1 u.2.1 u.2.2.1 u.2.2.2)) (u0 := (ap, F, G, C)) (K := (fun (r : Int32) (u : Nat × M2 × M2 × M2) => K r u.1 u.2.1 u.2.2.1 u.2.2.2)) (KX := KX) (wr := wr) (isC := isC) (isR := isR) (pm := pm) (ws' := ws') (runVX (As := [.int x1, .int x2]) hC hN (hR.sub hc.1) (x_X5_again l hfl D rx Z a b q ca tp rd sp P H.size ap F G C x1 x2 KX K hm) mi_X5_again hl wq_1476 wq_1477 hlt (hT.1.sub isC (map_fm hc.1)) (hT.D'.sub isC hnd hc.1) hK (q0 := 45) rfl rfl rfl hsize rfl hW hdg hf) hc hT kx (fun r u H1 locs1 hk hT1 => kk r u.1 u.2.1 u.2.2.1 u.2.2.2 H1 locs1 hk hT1)
end XX5_again
def wp_X5_feed (KX : Nat → Prop) (F : M2) (C : M2) (x1 : Int32) (x2 : Int32) (x3 : Int32) (x4 : Int32) (x5 : Int32) (K : Int32 → M2 → M2 → Prop) : Prop := ((((C 91 0) + 20) ≤ 2000 → wp_X5_append F C x1 (fun F_25 C_25 => wp_X5_append F_25 C_25 x2 (fun F_30 C_30 => wp_X5_append F_30 C_30 x3 (fun F_35 C_35 => wp_X5_append F_35 C_35 x4 (fun F_41 C_41 => wp_X5_append F_41 C_41 x5 (fun F_47 C_47 => K (C_47 91 0) F_47 C_47)))))) ∧ (¬ ((C 91 0) + 20) ≤ 2000 → KX 0))
set_option maxRecDepth 100000 in
set_option maxHeartbeats 4000000 in
theorem c_X5_feed (l : Launch) (D : va_G) (Z : Nat → ClassId) (ca tp rd sp tn ah : Nat) (F : M2) (C : M2) (sz : Nat) (x1 : Int32) (x2 : Int32) (x3 : Int32) (x4 : Int32) (x5 : Int32) (K : Int32 → M2 → M2 → Prop) (hm : wp_X5_feed (fun _ => False) F C x1 x2 x3 x4 x5 K) : Met l yX5_feed (wy yX5_feed cX5_feed 6 (some .int)) (rk 7 0 0) (pre vwCl D Z (CT Z ca tp rd sp tn ah F C) sz [.ref (ca), .int x1, .int x2, .int x3, .int x4, .int x5]) (poI vwCl D Z (fun u : M2 × M2 => CT Z ca tp rd sp tn ah u.1 u.2) (F, C) sz (fun (r : Int32) (u : M2 × M2) => K r u.1 u.2)) 0 0 (va_A (CT Z ca tp rd sp tn ah F C) sz) := by
  refine rw_of (ty := .int) (wsF := (fun u : M2 × M2 => CT Z ca tp rd sp tn ah u.1 u.2)) (u0 := (F, C)) (by decide +kernel) (Nat.le_of_ble_eq_true rfl) rfl ?_
  intro p e s m args below meth c Q A hC hN hsz hT hK hret ls hl
  have hx := hC.1
  have hb := hC.2.1
  have hl : lv_has ls 6 [(0, .ref (ca)), (1, .int x1), (2, .int x2), (3, .int x3), (4, .int x4), (5, .int x5)] := hl
  have hT : TS vwCl D (CT Z ca tp rd sp tn ah F C) A s.heap s.heap [] := hT
  refine lv_aload_n hx hb dX5_feed_0 rfl (lv_at hl 0 rfl) ?_
  refine gCT_cl_1 hC hK hT.1 wq_486 dX5_feed_1 ?_
  refine lv_bipush (v := 20) hx hb dX5_feed_4 (by decide) ?_
  refine lv_iadd hx hb dX5_feed_6 ?_
  refine lv_sipush (v := 2000) hx hb dX5_feed_7 (by decide) ?_
  refine lv_icmp_le (tgt := 23) hx hb dX5_feed_10 (by decide) (fun c_10 => ?_) (fun c_10 => ?_)
  · have hm := hm.1 c_10
    refine lv_aload_n hx hb dX5_feed_23 rfl (lv_at hl 0 rfl) ?_
    refine lv_iload_n hx hb dX5_feed_24 rfl (lv_at hl 1 rfl) ?_
    refine k_X5_append hC hN hK hT hm wq_935 (by decide) hl.1 (Nat.le_of_ble_eq_true rfl) ⟨Nat.le_refl _, Nat.le_refl _⟩ dX5_feed_25 (fun F_25 C_25 H locs hm hT => ?_)
    refine lv_aload_n hx hb dX5_feed_28 rfl (lv_at hl 0 rfl) ?_
    refine lv_iload_n hx hb dX5_feed_29 rfl (lv_at hl 2 rfl) ?_
    refine k_X5_append hC hN hK hT hm wq_935 (by decide) hl.1 (Nat.le_of_ble_eq_true rfl) ⟨Nat.le_refl _, Nat.le_refl _⟩ dX5_feed_30 (fun F_30 C_30 H locs hm hT => ?_)
    refine lv_aload_n hx hb dX5_feed_33 rfl (lv_at hl 0 rfl) ?_
    refine lv_iload_n hx hb dX5_feed_34 rfl (lv_at hl 3 rfl) ?_
    refine k_X5_append hC hN hK hT hm wq_935 (by decide) hl.1 (Nat.le_of_ble_eq_true rfl) ⟨Nat.le_refl _, Nat.le_refl _⟩ dX5_feed_35 (fun F_35 C_35 H locs hm hT => ?_)
    refine lv_aload_n hx hb dX5_feed_38 rfl (lv_at hl 0 rfl) ?_
    refine lv_iload hx hb dX5_feed_39 (lv_at hl 4 rfl) ?_
    refine k_X5_append hC hN hK hT hm wq_935 (by decide) hl.1 (Nat.le_of_ble_eq_true rfl) ⟨Nat.le_refl _, Nat.le_refl _⟩ dX5_feed_41 (fun F_41 C_41 H locs hm hT => ?_)
    refine lv_aload_n hx hb dX5_feed_44 rfl (lv_at hl 0 rfl) ?_
    refine lv_iload hx hb dX5_feed_45 (lv_at hl 5 rfl) ?_
    refine k_X5_append hC hN hK hT hm wq_935 (by decide) hl.1 (Nat.le_of_ble_eq_true rfl) ⟨Nat.le_refl _, Nat.le_refl _⟩ dX5_feed_47 (fun F_47 C_47 H locs hm hT => ?_)
    refine lv_aload_n hx hb dX5_feed_50 rfl (lv_at hl 0 rfl) ?_
    refine gCT_cl_1 hC hK hT.1 wq_486 dX5_feed_51 ?_
    exact hret 54 _ _ _ _ (F_47, C_47) hm hT rfl dX5_feed_54
  · have hm := hm.2 c_10
    exact False.elim hm
section KX5_feed
variable {p : Program} {l : Launch} {e : Env} {s : State} {m : MethodId} {args : Array Value} {below : List Frame} {meth : Method} {c : Code} {H H0 : Heap} {locs : List Loc} {cells slots : Nat} {Q : State → Prop} {R : Room} {rn mcR msR : Nat}
variable {pc : Nat} {ls : Array Slot} {rest : List Value} {A : Nat → Prop} {D : va_G}
variable {cc : ByteArray} {nL index : Nat} {own host : String}
end KX5_feed
def wp_X5_trim (KX : Nat → Prop) (F : M2) (C : M2) (x1 : Int32) (K : Int32 → M2 → M2 → Prop) : Prop := ((x1 < 0 → KX 1) ∧ (¬ x1 < 0 → ((x1 ≤ (C 91 0) → (∀ C_24 : M2, C_24 = up2 C 91 (fun _ => x1) → K x1 F C_24)) ∧ (¬ x1 ≤ (C 91 0) → KX 1))))
set_option maxRecDepth 100000 in
set_option maxHeartbeats 4000000 in
theorem c_X5_trim (l : Launch) (D : va_G) (Z : Nat → ClassId) (ca tp rd sp tn ah : Nat) (F : M2) (C : M2) (sz : Nat) (x1 : Int32) (K : Int32 → M2 → M2 → Prop) (hm : wp_X5_trim (fun _ => False) F C x1 K) : Met l yX5_trim (wy yX5_trim cX5_trim 2 (some .int)) (rk 7 0 0) (pre vwCl D Z (CT Z ca tp rd sp tn ah F C) sz [.ref (ca), .int x1]) (poI vwCl D Z (fun u : M2 × M2 => CT Z ca tp rd sp tn ah u.1 u.2) (F, C) sz (fun (r : Int32) (u : M2 × M2) => K r u.1 u.2)) 0 0 (va_A (CT Z ca tp rd sp tn ah F C) sz) := by
  refine rw_of (ty := .int) (wsF := (fun u : M2 × M2 => CT Z ca tp rd sp tn ah u.1 u.2)) (u0 := (F, C)) (by decide +kernel) (Nat.le_of_ble_eq_true rfl) rfl ?_
  intro p e s m args below meth c Q A hC hN hsz hT hK hret ls hl
  have hx := hC.1
  have hb := hC.2.1
  have hl : lv_has ls 2 [(0, .ref (ca)), (1, .int x1)] := hl
  have hT : TS vwCl D (CT Z ca tp rd sp tn ah F C) A s.heap s.heap [] := hT
  refine lv_iload_n hx hb dX5_trim_0 rfl (lv_at hl 1 rfl) ?_
  refine lv_if_lt (tgt := 12) hx hb dX5_trim_1 (by decide) (fun c_1 => ?_) (fun c_1 => ?_)
  · have hm := hm.1 c_1
    exact False.elim hm
  · have hm := hm.2 c_1
    refine lv_iload_n hx hb dX5_trim_4 rfl (lv_at hl 1 rfl) ?_
    refine lv_aload_n hx hb dX5_trim_5 rfl (lv_at hl 0 rfl) ?_
    refine gCT_cl_1 hC hK hT.1 wq_486 dX5_trim_6 ?_
    refine lv_icmp_le (tgt := 22) hx hb dX5_trim_9 (by decide) (fun c_9 => ?_) (fun c_9 => ?_)
    · have hm := hm.1 c_9
      refine lv_aload_n hx hb dX5_trim_22 rfl (lv_at hl 0 rfl) ?_
      refine lv_iload_n hx hb dX5_trim_23 rfl (lv_at hl 1 rfl) ?_
      refine pCT_cl_1 hC hK hT wq_486 dX5_trim_24 (fun C_24 eC_24 H locs hT => ?_)
      have hm := hm C_24 eC_24
      refine lv_iload_n hx hb dX5_trim_27 rfl (lv_at hl 1 rfl) ?_
      exact hret 28 _ _ _ _ (F, C_24) hm hT rfl dX5_trim_28
    · have hm := hm.2 c_9
      exact False.elim hm
section KX5_trim
variable {p : Program} {l : Launch} {e : Env} {s : State} {m : MethodId} {args : Array Value} {below : List Frame} {meth : Method} {c : Code} {H H0 : Heap} {locs : List Loc} {cells slots : Nat} {Q : State → Prop} {R : Room} {rn mcR msR : Nat}
variable {pc : Nat} {ls : Array Slot} {rest : List Value} {A : Nat → Prop} {D : va_G}
variable {cc : ByteArray} {nL index : Nat} {own host : String}
end KX5_trim
