/-! the keys' table: String's own methods, and the walk of keysByNumber -/
theorem q_k3 : (Jvm.Cond.initialized "java/lang/String") ∈ WS := q_in_tab (q_c1 (j := 3) rfl) rfl
theorem q_k4 : (Jvm.Cond.initialized "java/lang/StringLatin1") ∈ WS := q_in_tab (q_c1 (j := 4) rfl) rfl
theorem q_k5 : (Jvm.Cond.initialized "jdk/internal/util/Preconditions") ∈ WS := q_in_tab (q_c1 (j := 5) rfl) rfl
theorem q_k43 : (Jvm.Cond.methodLink "SoulOffice" (364 : Nat) yJ0_length_8abf5) ∈ WS := q_in_tab (q_c1 (j := 43) rfl) rfl
theorem q_k44 : (Jvm.Cond.instanceMethod yJ0_length_8abf5) ∈ WS := q_in_tab (q_c1 (j := 44) rfl) rfl
theorem q_k45 : (Jvm.Cond.selects "java/lang/String" yJ0_length_8abf5 yJ0_length_8abf5) ∈ WS := q_in_tab (q_c1 (j := 45) rfl) rfl
theorem q_k46 : (Jvm.Cond.code yJ0_length_8abf5 cJ0_length_8abf5 1 (some .int)) ∈ WS := q_in_tab (q_c1 (j := 46) rfl) rfl
theorem q_k47 : (Jvm.Cond.methodLink "java/lang/String" (335 : Nat) yJ0_coder_7d493) ∈ WS := q_in_tab (q_c1 (j := 47) rfl) rfl
theorem q_k48 : (Jvm.Cond.instanceMethod yJ0_coder_7d493) ∈ WS := q_in_tab (q_c1 (j := 48) rfl) rfl
theorem q_k49 : (Jvm.Cond.selects "java/lang/String" yJ0_coder_7d493 yJ0_coder_7d493) ∈ WS := q_in_tab (q_c1 (j := 49) rfl) rfl
theorem q_k50 : (Jvm.Cond.code yJ0_coder_7d493 cJ0_coder_7d493 1 (some .byte)) ∈ WS := q_in_tab (q_c1 (j := 50) rfl) rfl
theorem q_k51 : (Jvm.Cond.fieldLink "java/lang/String" (38 : Nat) "java/lang/String" "COMPACT_STRINGS" "Z") ∈ WS := q_in_tab (q_c1 (j := 51) rfl) rfl
theorem q_k53 : (Jvm.Cond.methodLink "SoulOffice" (368 : Nat) yJ0_charAt_5068e) ∈ WS := q_in_tab (q_c1 (j := 53) rfl) rfl
theorem q_k54 : (Jvm.Cond.instanceMethod yJ0_charAt_5068e) ∈ WS := q_in_tab (q_c1 (j := 54) rfl) rfl
theorem q_k55 : (Jvm.Cond.selects "java/lang/String" yJ0_charAt_5068e yJ0_charAt_5068e) ∈ WS := q_in_tab (q_c1 (j := 55) rfl) rfl
theorem q_k56 : (Jvm.Cond.code yJ0_charAt_5068e cJ0_charAt_5068e 2 (some .char)) ∈ WS := q_in_tab (q_c1 (j := 56) rfl) rfl
theorem q_k57 : (Jvm.Cond.methodLink "java/lang/String" (492 : Nat) yJ0_isLatin1_aae02) ∈ WS := q_in_tab (q_c1 (j := 57) rfl) rfl
theorem q_k58 : (Jvm.Cond.instanceMethod yJ0_isLatin1_aae02) ∈ WS := q_in_tab (q_c1 (j := 58) rfl) rfl
theorem q_k59 : (Jvm.Cond.selects "java/lang/String" yJ0_isLatin1_aae02 yJ0_isLatin1_aae02) ∈ WS := q_in_tab (q_c1 (j := 59) rfl) rfl
theorem q_k60 : (Jvm.Cond.code yJ0_isLatin1_aae02 cJ0_isLatin1_aae02 1 (some .boolean)) ∈ WS := q_in_tab (q_c1 (j := 60) rfl) rfl
theorem q_k61 : (Jvm.Cond.methodLink "java/lang/String" (495 : Nat) yJ1_charAt_3b067) ∈ WS := q_in_tab (q_c1 (j := 61) rfl) rfl
theorem q_k62 : (Jvm.Cond.static yJ1_charAt_3b067) ∈ WS := q_in_tab (q_c1 (j := 62) rfl) rfl
theorem q_k63 : (Jvm.Cond.code yJ1_charAt_3b067 cJ1_charAt_3b067 2 (some .char)) ∈ WS := q_in_tab (q_c1 (j := 63) rfl) rfl
theorem q_k64 : (Jvm.Cond.methodLink "java/lang/StringLatin1" (9 : Nat) yJ0_checkIndex_df160) ∈ WS := q_in_tab (q_c1 (j := 64) rfl) rfl
theorem q_k65 : (Jvm.Cond.static yJ0_checkIndex_df160) ∈ WS := q_in_tab (q_c1 (j := 65) rfl) rfl
theorem q_k66 : (Jvm.Cond.code yJ0_checkIndex_df160 cJ0_checkIndex_df160 2 none) ∈ WS := q_in_tab (q_c1 (j := 66) rfl) rfl
theorem q_k67 : (Jvm.Cond.fieldLink "java/lang/String" (1053 : Nat) "jdk/internal/util/Preconditions" "SIOOBE_FORMATTER" "Ljava/util/function/BiFunction;") ∈ WS := q_in_tab (q_c1 (j := 67) rfl) rfl
abbrev q_yP : MethodName := ⟨"jdk/internal/util/Preconditions", "checkIndex", "(IILjava/util/function/BiFunction;)I"⟩
abbrev q_cP : ByteArray := prog_30_method_11_code
theorem q_k69 : (Jvm.Cond.methodLink "java/lang/String" (1059 : Nat) q_yP) ∈ WS := q_in_tab (q_c1 (j := 69) rfl) rfl
theorem q_k70 : (Jvm.Cond.static q_yP) ∈ WS := q_in_tab (q_c1 (j := 70) rfl) rfl
theorem q_k71 : (Jvm.Cond.code q_yP q_cP 3 (some .int)) ∈ WS := q_in_tab (q_c1 (j := 71) rfl) rfl
theorem q_k91 : (Jvm.Cond.methodLink "SoulOffice" (372 : Nat) yX11_withLetter) ∈ WS := q_in_tab (q_c1 (j := 91) rfl) rfl
theorem q_k92 : (Jvm.Cond.static yX11_withLetter) ∈ WS := q_in_tab (q_c1 (j := 92) rfl) rfl
theorem q_k93 : (Jvm.Cond.code yX11_withLetter cX11_withLetter 3 (some .long)) ∈ WS := q_in_tab (q_c1 (j := 93) rfl) rfl
theorem q_k1913 : (Jvm.Cond.fieldLink "java/lang/String" (9 : Nat) "java/lang/String" "value" "[B") ∈ WS := q_in_tab (q_c9 (j := 5) rfl) rfl
theorem q_k1914 : (Jvm.Cond.fieldLink "java/lang/String" (15 : Nat) "java/lang/String" "coder" "B") ∈ WS := q_in_tab (q_c9 (j := 6) rfl) rfl
def q_S0 (adK adV : Nat → Nat) (Z : ZZ) (U : State) (H : Heap) : Prop := vk_S 1 [101] [q_kb] adK adV (aZ Z) U H ∧ va_Z "java/lang/String" "COMPACT_STRINGS" "Z" (.int 1) (aZ Z) U H ∧ va_Zq "jdk/internal/util/Preconditions" "SIOOBE_FORMATTER" "Ljava/util/function/BiFunction;" (aZ Z) U H
def q_rk (k : Nat) : Room := { frames := k, cells := 0, slots := 0, locals := 100 * k + 60 }
def q_sP (r : Option Value) : Array Value → State → Outcome → State → Prop := fun _ st o t => o = .returned r ∧ t.heap = st.heap
section Q16
variable {p : Program} {l : Launch} {e : Env} {R : Room} {s : State} {m : MethodId} {args : Array Value} {below : List Frame} {meth : Method} {c : Code} {Q : State → Prop} {Z : ZZ} {H H1 : Heap} {locs locs1 : List Loc} {cells slots pc nL na k index ml : Nat} {adK adV : Nat → Nat} {cB cc : ByteArray} {own : String} {y : MethodName} {ret : Option FieldType} {As rest : List Value} {r : Option Value} {ls : Array Slot}
theorem q_S0_warm {u U : State} (hW : u.WarmedH U.vm) (h : q_S0 adK adV Z u H) : q_S0 adK adV Z U H := ⟨vk_S.moved hW.alike h.1, va_Z.moved hW.alike h.2.1, va_Zq.moved hW.alike h.2.2⟩
theorem q_S0_kept {U : State} (hq : ∀ a : Nat, a < H.size → ¬ aZ Z a → H1[a]? = H[a]?) (h : q_S0 adK adV Z U H) : q_S0 adK adV Z U H1 := ⟨vk_S.kept h.1 hq, va_Z.kept h.2.1 hq, va_Zq.kept h.2.2 hq⟩
abbrev q_Pk (adK adV : Nat → Nat) (Z : ZZ) (As : List Value) : Array Value → State → Prop := va_Pc As (fun U => q_S0 adK adV Z U U.heap)
theorem q_Pk_blind : FrameBlind (q_Pk adK adV Z As) := fun a U g mk q => ⟨q.1, q_S0_warm (State.WarmedH.refl U) q.2⟩
theorem q_lfS (hx : p.tables.exec = Jvm.exec) (hb : c.code = cB) (hml : c.maxLocals = nL) (hown : s.vm.findClass own = some m.cls) (hts : ∀ w ∈ WS, w.before args s = true)
    (hM : Met l y (.code y cc ml ret :: WS) (q_rk k) (q_Pk adK adV Z As) (q_sP r) 0 0 (fun _ => False)) (w1 : Cond.methodLink own index y ∈ WS) (w2 : Cond.static y ∈ WS) (w3 : Cond.initialized y.cls ∈ WS) (w4 : Cond.code y cc ml ret ∈ WS)
    (hy : y.cls ≠ "java/lang/invoke/MethodHandle" ∧ y.cls ≠ "java/lang/invoke/VarHandle" ∧ (parseMethodDescriptor y.desc).map (fun d => d.parameters.length) = some na) (hna : As.length = na) (hR : k + 1 ≤ R.frames ∧ 8 + (ml + 11) + (100 * k + 60) ≤ R.locals)
    (hLs : ls.size = nL) (hsum : (rest.map fun v => v.category).sum ≤ 8) (hd : decode cB pc = .ok (.invokestatic index, 3)) (hc : cells ≤ R.cells) (hu : slots ≤ R.slots) {st : List Value} (hst : st = As.reverse ++ rest)
    (hpre : ∀ U : State, U.heap = H → s.WarmedH U.vm → q_S0 adK adV Z U H)
    (kk : ∀ locs1 : List Loc, (∀ q ∈ locs1, q ∈ locs) → W p l e R s m args below meth c H locs1 cells slots Q (F0 m (pc + 3) ls (r.toList ++ rest))) : W p l e R s m args below meth c H locs cells slots Q (F0 m pc ls st) := by
  subst hst
  have hG : GoodIn WS (va_wsS own index y (.code y cc ml ret :: WS)) := q_goodIn (fun w hw9 => by
    rcases List.mem_append.mp hw9 with h9 | h9
    · rcases List.mem_cons.mp h9 with rfl | h9
      · exact w1
      rcases List.mem_cons.mp h9 with rfl | h9
      · exact w2
      rcases List.mem_cons.mp h9 with rfl | h9
      · exact w3
      · cases h9
    · rcases List.mem_cons.mp h9 with rfl | h9
      · exact w4
      · exact h9)
  refine q_run (va_runS (As := As) (rest := rest) ⟨hx, hb, hml, hown, hts⟩ hM (va_cwS na hts hG rfl rfl rfl hy hR) ⟨q_Pk_blind, fun U hU hWU => ⟨rfl, by show q_S0 adK adV Z U U.heap; rw [hU]; exact hpre U hU hWU⟩⟩ rfl hna hLs rfl (lv_room hsum) hd ⟨hc, hu⟩) (fun v st₀ t locs1 h0 hal hq hlo1 => ?_)
  obtain ⟨q1, q2⟩ := hq
  cases q1
  rw [q2, h0]
  exact kk locs1 (fun q hq => (hlo1 q hq).resolve_right (fun h => h))
theorem q_lfV (hx : p.tables.exec = Jvm.exec) (hb : c.code = cB) (hml : c.maxLocals = nL) (hown : s.vm.findClass own = some m.cls) (hts : ∀ w ∈ WS, w.before args s = true) {a : Nat}
    (hM : Met l y (.code y cc ml ret :: WS) (q_rk k) (q_Pk adK adV Z (.ref a :: As)) (q_sP r) 0 0 (fun _ => False)) (w1 : Cond.methodLink own index y ∈ WS) (w2 : Cond.instanceMethod y ∈ WS) (w5 : Cond.selects "java/lang/String" y y ∈ WS) (w4 : Cond.code y cc ml ret ∈ WS)
    (hy : y.cls = "java/lang/String" ∧ y.cls ≠ "java/lang/invoke/MethodHandle" ∧ y.cls ≠ "java/lang/invoke/VarHandle" ∧ (parseMethodDescriptor y.desc).map (fun d => d.parameters.length) = some na) (hna : As.length = na) (hR : k + 1 ≤ R.frames ∧ 8 + (ml + 11) + (100 * k + 60) ≤ R.locals)
    (hLs : ls.size = nL) (hsum : (rest.map fun v => v.category).sum ≤ 8) (hd : decode cB pc = .ok (.invokevirtual index, 3)) (hc : cells ≤ R.cells) (hu : slots ≤ R.slots) {st : List Value} (hst : st = As.reverse ++ .ref a :: rest)
    (hpre : ∀ U : State, U.heap = H → s.WarmedH U.vm → q_S0 adK adV Z U H) (hrc : ∃ cell : Cell, H[a]? = some cell ∧ cell.vm.isStatics = false ∧ s.vm.findClass "java/lang/String" = some cell.cls)
    (kk : ∀ locs1 : List Loc, (∀ q ∈ locs1, q ∈ locs) → W p l e R s m args below meth c H locs1 cells slots Q (F0 m (pc + 3) ls (r.toList ++ rest))) : W p l e R s m args below meth c H locs cells slots Q (F0 m pc ls st) := by
  subst hst
  have hG : GoodIn WS (wsV own index "java/lang/String" y (.code y cc ml ret :: WS)) := q_goodIn (fun w hw9 => by
    rcases List.mem_append.mp hw9 with h9 | h9
    · rcases List.mem_cons.mp h9 with rfl | h9
      · exact w1
      rcases List.mem_cons.mp h9 with rfl | h9
      · exact w2
      rcases List.mem_cons.mp h9 with rfl | h9
      · exact w5
      rcases List.mem_cons.mp h9 with rfl | h9
      · exact q_k3
      · cases h9
    · rcases List.mem_cons.mp h9 with rfl | h9
      · exact w4
      · exact h9)
  refine q_run (va_runV (As := As) (rest := rest) ⟨hx, hb, hml, hown, hts⟩ hM (cwV na hts hG rfl rfl rfl hy hR) ⟨q_Pk_blind, hrc, fun U hU hWU => ⟨rfl, by show q_S0 adK adV Z U U.heap; rw [hU]; exact hpre U hU hWU⟩⟩ rfl hna hLs rfl (lv_room hsum) hd ⟨hc, hu⟩) (fun v st₀ t locs1 h0 hal hq hlo1 => ?_)
  obtain ⟨q1, q2⟩ := hq
  cases q1
  rw [q2, h0]
  exact kk locs1 (fun q hq => (hlo1 q hq).resolve_right (fun h => h))
theorem q_hS {s : State} : va_S (aZ Z) s.heap s.heap [] := va_S.rf
theorem q_nof {P : Loc → Prop} (h : ∀ q ∈ locs1, q ∈ ([] : List Loc)) : ∀ q ∈ locs1, P q := fun q hq => by cases h q hq
theorem q_coder (l : Launch) : Met l yJ0_coder_7d493 (.code yJ0_coder_7d493 cJ0_coder_7d493 1 (some .byte) :: WS) (q_rk 1) (q_Pk adK adV Z [.ref (adK 0)]) (q_sP (some (.int 0))) 0 0 (fun _ => False) := by
  refine Met.ofW (cc := cJ0_coder_7d493) (maxL := 1) (ret := some .byte) (by decide +kernel) rfl ?_
  intro p e s m args below meth c s₁ B hml hv
  obtain ⟨rfl, a1, a2, a3⟩ := hv
  have hts := atoms_spec (ws := .code yJ0_coder_7d493 cJ0_coder_7d493 1 (some .byte) :: WS) B.pre
  have hown : s.vm.findClass "java/lang/String" = some m.cls := findClass_of_methodNamed B.named
  have hx := B.exec
  have hb := B.bytes
  have hlocks := B.notSynchronized
  rw [lg_entry_eq]
  refine va_gets hx hb a2 q_hS hown (hts _ (List.mem_cons_of_mem _ q_k51)) (fun _ h => h) (by decide +kernel) ?_
  refine lv_if_eq hx hb (off := 10) (tgt := 13) (by decide +kernel) (by decide) (fun h => absurd h (by decide)) (fun _ => ?_)
  refine lv_aload_n hx hb (k := 0) (i := 0) (by decide +kernel) rfl rfl ?_
  refine vk_getf hx hb (a1.1 0 (by decide)).2.1 q_hS hown (hts _ (List.mem_cons_of_mem _ q_k1914)) (fun _ h => h) (by decide +kernel) ?_
  refine lv_goto hx hb (off := 4) (tgt := 14) (by decide +kernel) (by decide) ?_
  exact W.zret hx hb B.returns (by decide +kernel) (fun t ht _ => ⟨rfl, ht⟩) (fun q hq => by cases hq) (by decide +kernel)
theorem q_isL (l : Launch) : Met l yJ0_isLatin1_aae02 (.code yJ0_isLatin1_aae02 cJ0_isLatin1_aae02 1 (some .boolean) :: WS) (q_rk 1) (q_Pk adK adV Z [.ref (adK 0)]) (q_sP (some (.int 1))) 0 0 (fun _ => False) := by
  refine Met.ofW (cc := cJ0_isLatin1_aae02) (maxL := 1) (ret := some .boolean) (by decide +kernel) rfl ?_
  intro p e s m args below meth c s₁ B hml hv
  obtain ⟨rfl, a1, a2, a3⟩ := hv
  have hts := atoms_spec (ws := .code yJ0_isLatin1_aae02 cJ0_isLatin1_aae02 1 (some .boolean) :: WS) B.pre
  have hown : s.vm.findClass "java/lang/String" = some m.cls := findClass_of_methodNamed B.named
  have hx := B.exec
  have hb := B.bytes
  have hlocks := B.notSynchronized
  rw [lg_entry_eq]
  refine va_gets hx hb a2 q_hS hown (hts _ (List.mem_cons_of_mem _ q_k51)) (fun _ h => h) (by decide +kernel) ?_
  refine lv_if_eq hx hb (off := 14) (tgt := 17) (by decide +kernel) (by decide) (fun h => absurd h (by decide)) (fun _ => ?_)
  refine lv_aload_n hx hb (k := 0) (i := 0) (by decide +kernel) rfl rfl ?_
  refine vk_getf hx hb (a1.1 0 (by decide)).2.1 q_hS hown (hts _ (List.mem_cons_of_mem _ q_k1914)) (fun _ h => h) (by decide +kernel) ?_
  refine lv_if_ne hx hb (off := 7) (tgt := 17) (by decide +kernel) (by decide) (fun h => absurd rfl h) (fun _ => ?_)
  refine lv_iconst hx hb (n := 1) (v := 1) (by decide +kernel) (by decide) ?_
  refine lv_goto hx hb (off := 4) (tgt := 18) (by decide +kernel) (by decide) ?_
  exact W.zret hx hb B.returns (by decide +kernel) (fun t ht _ => ⟨rfl, ht⟩) (fun q hq => by cases hq) (by decide +kernel)
theorem q_chkP (l : Launch) (i n : Int32) (o : Option Nat) (h0 : ¬ i < 0) (h1 : i < n) : Met l q_yP (.code q_yP q_cP 3 (some .int) :: WS) (q_rk 1) (q_Pk adK adV Z [.int i, .int n, va_rf o]) (q_sP (some (.int i))) 0 0 (fun _ => False) := by
  refine Met.ofW (cc := q_cP) (maxL := 3) (ret := some .int) (by decide +kernel) rfl ?_
  intro p e s m args below meth c s₁ B hml hv
  obtain ⟨rfl, a1, a2, a3⟩ := hv
  have hts := atoms_spec (ws := .code q_yP q_cP 3 (some .int) :: WS) B.pre
  have hx := B.exec
  have hb := B.bytes
  have hlocks := B.notSynchronized
  rw [lg_entry_eq]
  have g0 : ∀ L : Array Slot, L = (lg_sl [.int i, .int n, va_rf o] ++ List.replicate (3 - (lg_sl [.int i, .int n, va_rf o]).length) Slot.unset).toArray → L[0]? = some (.val (.int i)) ∧ L[1]? = some (.val (.int n)) := by
    intro L hL
    subst hL
    cases o <;> exact ⟨rfl, rfl⟩
  generalize hL : (lg_sl [.int i, .int n, va_rf o] ++ List.replicate (3 - (lg_sl [.int i, .int n, va_rf o]).length) Slot.unset).toArray = L
  obtain ⟨g1, g2⟩ := g0 L hL.symm
  refine lv_iload_n hx hb (k := 0) (i := 0) (by decide +kernel) rfl g1 ?_
  refine lv_if_lt hx hb (off := 8) (tgt := 9) (by decide +kernel) (by decide) (fun h => absurd h h0) (fun _ => ?_)
  refine lv_iload_n hx hb (k := 0) (i := 0) (by decide +kernel) rfl g1 ?_
  refine lv_iload_n hx hb (k := 1) (i := 1) (by decide +kernel) rfl g2 ?_
  refine lv_icmp_lt hx hb (off := 10) (tgt := 16) (by decide +kernel) (by decide) (fun _ => ?_) (fun h => absurd h1 h)
  refine lv_iload_n hx hb (k := 0) (i := 0) (by decide +kernel) rfl g1 ?_
  exact W.iret hx hb B.returns (fun t ht _ => ⟨rfl, ht⟩) (fun q hq => by cases hq) (by decide +kernel)
theorem q_chk (l : Launch) (i n : Int32) (h0 : ¬ i < 0) (h1 : i < n) : Met l yJ0_checkIndex_df160 (.code yJ0_checkIndex_df160 cJ0_checkIndex_df160 2 none :: WS) (q_rk 3) (q_Pk adK adV Z [.int i, .int n]) (q_sP none) 0 0 (fun _ => False) := by
  refine Met.ofW (cc := cJ0_checkIndex_df160) (maxL := 2) (ret := none) (by decide +kernel) rfl ?_
  intro p e s m args below meth c s₁ B hml hv
  obtain ⟨rfl, a1, a2, a3⟩ := hv
  have hts := atoms_spec (ws := .code yJ0_checkIndex_df160 cJ0_checkIndex_df160 2 none :: WS) B.pre
  have hts' : ∀ w ∈ WS, w.before ([Value.int i, .int n].toArray) s = true := fun w hw => hts w (List.mem_cons_of_mem _ hw)
  have hown : s.vm.findClass "java/lang/String" = some m.cls := findClass_of_methodNamed B.named
  have hx := B.exec
  have hb := B.bytes
  have hlocks := B.notSynchronized
  rw [lg_entry_eq]
  refine lv_iload_n hx hb (k := 0) (i := 0) (by decide +kernel) rfl rfl ?_
  refine lv_iload_n hx hb (k := 1) (i := 1) (by decide +kernel) rfl rfl ?_
  have go : ∀ o : Option Nat, va_Z "jdk/internal/util/Preconditions" "SIOOBE_FORMATTER" "Ljava/util/function/BiFunction;" (va_rf o) (aZ Z) s s.heap → W p l e (headSpec (.code yJ0_checkIndex_df160 cJ0_checkIndex_df160 2 none :: WS) (q_rk 3)).room s m ([Value.int i, .int n].toArray) below meth c s.heap [] 0 0 (MQ below (q_sP none) ([Value.int i, .int n].toArray) s 0 0 (fun _ => False)) (F0 m 2 (lg_sl [Value.int i, .int n] ++ List.replicate (2 - (lg_sl [Value.int i, .int n]).length) Slot.unset).toArray [.int n, .int i]) := by
    intro o hZ
    refine va_gets hx hb hZ q_hS hown (hts' _ q_k67) (fun _ h => h) (by decide +kernel) ?_
    refine q_lfS (na := 3) (As := [.int i, .int n, va_rf o]) (rest := []) hx hb hml hown hts' (q_chkP l i n o h0 h1) q_k69 q_k70 q_k5 q_k71 ⟨by decide, by decide, by decide⟩ rfl ⟨by decide, by decide⟩ rfl (by decide) (by decide +kernel) (by decide) (by decide) rfl (fun U hU hWU => q_S0_warm hWU ⟨a1, a2, a3⟩) (fun locs1 hl1 => ?_)
    refine lv_pop hx hb (by decide +kernel) rfl ?_
    exact W.vret hx hb B.returns (fun t ht _ => ⟨rfl, ht⟩) (q_nof hl1) (by decide +kernel)
  rcases a3 with a3 | ⟨t, a3⟩
  · exact go none a3
  · exact go (some t) a3
theorem q_l1c (l : Launch) (i : Nat) (hi : i < 101) : Met l yJ1_charAt_3b067 (.code yJ1_charAt_3b067 cJ1_charAt_3b067 2 (some .char) :: WS) (q_rk 5) (q_Pk adK adV Z [.ref (adV 0), .int (Int32.ofNat i)]) (q_sP (some (.int (q_kb.getD i 0)))) 0 0 (fun _ => False) := by
  refine Met.ofW (cc := cJ1_charAt_3b067) (maxL := 2) (ret := some .char) (by decide +kernel) rfl ?_
  intro p e s m args below meth c s₁ B hml hv
  obtain ⟨rfl, a1, a2, a3⟩ := hv
  have hts := atoms_spec (ws := .code yJ1_charAt_3b067 cJ1_charAt_3b067 2 (some .char) :: WS) B.pre
  have hts' : ∀ w ∈ WS, w.before ([Value.ref (adV 0), .int (Int32.ofNat i)].toArray) s = true := fun w hw => hts w (List.mem_cons_of_mem _ hw)
  have hown : s.vm.findClass "java/lang/StringLatin1" = some m.cls := findClass_of_methodNamed B.named
  have hx := B.exec
  have hb := B.bytes
  have hlocks := B.notSynchronized
  rw [lg_entry_eq]
  have f1 : ∀ j : Nat, j < 101 → ¬ Int32.ofNat j < 0 ∧ Int32.ofNat j < 101 ∧ (Int32.ofNat j).toNatClampNeg = j ∧ ((q_kb.getD j 0 &&& 255).toUInt32 % 65536).toInt32 = q_kb.getD j 0 ∧ narrow .char (Value.int (q_kb.getD j 0)) = Value.int (q_kb.getD j 0) := by decide +kernel
  obtain ⟨f2, f3, f4, f5, f6⟩ := f1 i hi
  refine lv_iload_n hx hb (k := 1) (i := 1) (by decide +kernel) rfl rfl ?_
  refine lv_aload_n hx hb (k := 0) (i := 0) (by decide +kernel) rfl rfl ?_
  refine va_tlen hx hb (a1.1 0 (by decide)).2.2.2 q_hS (v := 101) (by decide) (by decide +kernel) ?_
  refine q_lfS (na := 2) (As := [.int (Int32.ofNat i), .int 101]) (rest := []) hx hb hml hown hts' (q_chk l (Int32.ofNat i) 101 f2 f3) q_k64 q_k65 q_k3 q_k66 ⟨by decide, by decide, by decide⟩ rfl ⟨by decide, by decide⟩ rfl (by decide) (by decide +kernel) (by decide) (by decide) rfl (fun U hU hWU => q_S0_warm hWU ⟨a1, a2, a3⟩) (fun locs1 hl1 => ?_)
  refine lv_aload_n hx hb (k := 0) (i := 0) (by decide +kernel) rfl rfl ?_
  refine lv_iload_n hx hb (k := 1) (i := 1) (by decide +kernel) rfl rfl ?_
  have hS1 : va_S (aZ Z) s.heap s.heap locs1 := ⟨Nat.le_refl _, fun _ _ _ => rfl, q_nof hl1⟩
  refine va_tb hx hb (a1.1 0 (by decide)).2.2.2 hS1 (i := Int32.ofNat i) (vp_in_iff.mpr ?_) (v := .int (q_kb.getD i 0)) (by rw [f4]; rfl) (by decide +kernel) ?_
  · show 0 ≤ (Int32.ofNat i).toInt ∧ (Int32.ofNat i).toInt < ((101 : Nat) : Int)
    have g1 : ∀ j : Nat, j < 101 → 0 ≤ (Int32.ofNat j).toInt ∧ (Int32.ofNat j).toInt < ((101 : Nat) : Int) := by decide +kernel
    exact g1 i hi
  refine lv_sipush hx hb (n := 255) (v := 255) (by decide +kernel) (by decide) ?_
  refine lv_iand hx hb (by decide +kernel) ?_
  refine lv_i2c hx hb (by decide +kernel) f5 ?_
  exact W.zret hx hb B.returns f6 (fun t ht _ => ⟨rfl, ht⟩) (q_nof hl1) (by decide +kernel)
theorem q_chAt (l : Launch) (i : Nat) (hi : i < 101) : Met l yJ0_charAt_5068e (.code yJ0_charAt_5068e cJ0_charAt_5068e 2 (some .char) :: WS) (q_rk 7) (q_Pk adK adV Z [.ref (adK 0), .int (Int32.ofNat i)]) (q_sP (some (.int (q_kb.getD i 0)))) 0 0 (fun _ => False) := by
  refine Met.ofW (cc := cJ0_charAt_5068e) (maxL := 2) (ret := some .char) (by decide +kernel) rfl ?_
  intro p e s m args below meth c s₁ B hml hv
  obtain ⟨rfl, a1, a2, a3⟩ := hv
  have hts := atoms_spec (ws := .code yJ0_charAt_5068e cJ0_charAt_5068e 2 (some .char) :: WS) B.pre
  have hts' : ∀ w ∈ WS, w.before ([Value.ref (adK 0), .int (Int32.ofNat i)].toArray) s = true := fun w hw => hts w (List.mem_cons_of_mem _ hw)
  have hown : s.vm.findClass "java/lang/String" = some m.cls := findClass_of_methodNamed B.named
  have hx := B.exec
  have hb := B.bytes
  have hlocks := B.notSynchronized
  rw [lg_entry_eq]
  have f1 : ∀ j : Nat, j < 101 → narrow .char (Value.int (q_kb.getD j 0)) = Value.int (q_kb.getD j 0) := by decide +kernel
  have f6 := f1 i hi
  refine lv_aload_n hx hb (k := 0) (i := 0) (by decide +kernel) rfl rfl ?_
  refine q_lfV (na := 0) (As := []) (rest := []) hx hb hml hown hts' (q_isL l) q_k57 q_k58 q_k59 q_k60 ⟨by decide, by decide, by decide, by decide⟩ rfl ⟨by decide, by decide⟩ rfl (by decide) (by decide +kernel) (by decide) (by decide) rfl (fun U hU hWU => q_S0_warm hWU ⟨a1, a2, a3⟩) (vk_recv a1 (by decide) q_hS) (fun locs1 hl1 => ?_)
  have hS1 : va_S (aZ Z) s.heap s.heap locs1 := ⟨Nat.le_refl _, fun _ _ _ => rfl, q_nof hl1⟩
  refine lv_if_eq hx hb (off := 12) (tgt := 16) (by decide +kernel) (by decide) (fun h => absurd h (by decide)) (fun _ => ?_)
  refine lv_aload_n hx hb (k := 0) (i := 0) (by decide +kernel) rfl rfl ?_
  refine vk_getf hx hb (a1.1 0 (by decide)).2.2.1 hS1 hown (hts' _ q_k1913) (fun _ h => h) (by decide +kernel) ?_
  refine lv_iload_n hx hb (k := 1) (i := 1) (by decide +kernel) rfl rfl ?_
  refine q_lfS (na := 2) (As := [.ref (adV 0), .int (Int32.ofNat i)]) (rest := []) hx hb hml hown hts' (q_l1c l i hi) q_k61 q_k62 q_k4 q_k63 ⟨by decide, by decide, by decide⟩ rfl ⟨by decide, by decide⟩ rfl (by decide) (by decide +kernel) (by decide) (by decide) rfl (fun U hU hWU => q_S0_warm hWU ⟨a1, a2, a3⟩) (fun locs2 hl2 => ?_)
  exact W.zret hx hb B.returns f6 (fun t ht _ => ⟨rfl, ht⟩) (q_nof (fun q hq => hl1 q (hl2 q hq))) (by decide +kernel)
theorem q_len (l : Launch) : Met l yJ0_length_8abf5 (.code yJ0_length_8abf5 cJ0_length_8abf5 1 (some .int) :: WS) (q_rk 3) (q_Pk adK adV Z [.ref (adK 0)]) (q_sP (some (.int 101))) 0 0 (fun _ => False) := by
  refine Met.ofW (cc := cJ0_length_8abf5) (maxL := 1) (ret := some .int) (by decide +kernel) rfl ?_
  intro p e s m args below meth c s₁ B hml hv
  obtain ⟨rfl, a1, a2, a3⟩ := hv
  have hts := atoms_spec (ws := .code yJ0_length_8abf5 cJ0_length_8abf5 1 (some .int) :: WS) B.pre
  have hts' : ∀ w ∈ WS, w.before ([Value.ref (adK 0)].toArray) s = true := fun w hw => hts w (List.mem_cons_of_mem _ hw)
  have hown : s.vm.findClass "java/lang/String" = some m.cls := findClass_of_methodNamed B.named
  have hx := B.exec
  have hb := B.bytes
  have hlocks := B.notSynchronized
  rw [lg_entry_eq]
  refine lv_aload_n hx hb (k := 0) (i := 0) (by decide +kernel) rfl rfl ?_
  refine vk_getf hx hb (a1.1 0 (by decide)).2.2.1 q_hS hown (hts' _ q_k1913) (fun _ h => h) (by decide +kernel) ?_
  refine va_tlen hx hb (a1.1 0 (by decide)).2.2.2 q_hS (v := 101) (by decide) (by decide +kernel) ?_
  refine lv_aload_n hx hb (k := 0) (i := 0) (by decide +kernel) rfl rfl ?_
  refine q_lfV (na := 0) (As := []) (rest := [.int 101]) hx hb hml hown hts' (q_coder l) q_k47 q_k48 q_k49 q_k50 ⟨by decide, by decide, by decide, by decide⟩ rfl ⟨by decide, by decide⟩ rfl (by decide) (by decide +kernel) (by decide) (by decide) rfl (fun U hU hWU => q_S0_warm hWU ⟨a1, a2, a3⟩) (vk_recv a1 (by decide) q_hS) (fun locs1 hl1 => ?_)
  refine lv_ishr hx hb (by decide +kernel) ?_
  exact W.iret hx hb B.returns (fun t ht _ => ⟨rfl, ht⟩) (q_nof hl1) (by decide +kernel)
theorem q_wl (l : Launch) (x : Int64) (i : Int32) : Met l yX11_withLetter (.code yX11_withLetter cX11_withLetter 3 (some .long) :: WS) (q_rk 1) (q_Pk adK adV Z [.long x, .int i]) (q_sP (some (.long (x * 32 + (i - 97 + 1).toInt64)))) 0 0 (fun _ => False) := by
  refine Met.ofW (cc := cX11_withLetter) (maxL := 3) (ret := some .long) (by decide +kernel) rfl ?_
  intro p e s m args below meth c s₁ B hml hv
  obtain ⟨rfl, a1, a2, a3⟩ := hv
  have hts := atoms_spec (ws := .code yX11_withLetter cX11_withLetter 3 (some .long) :: WS) B.pre
  have hts' : ∀ w ∈ WS, w.before ([Value.long x, .int i].toArray) s = true := fun w hw => hts w (List.mem_cons_of_mem _ hw)
  have hown : s.vm.findClass RX11 = some m.cls := findClass_of_methodNamed B.named
  have hx := B.exec
  have hb := B.bytes
  have hlocks := B.notSynchronized
  rw [lg_entry_eq]
  refine lv_lload_n hx hb (k := 0) (i := 0) (by decide +kernel) rfl rfl ?_
  refine lv_ldc2 hx hb hown (v := 32) (hts' _ q_w202) (by decide +kernel) ?_
  refine lv_lmul hx hb (by decide +kernel) ?_
  refine lv_iload_n hx hb (k := 2) (i := 2) (by decide +kernel) rfl rfl ?_
  refine lv_bipush hx hb (n := 97) (v := 97) (by decide +kernel) (by decide) ?_
  refine lv_isub hx hb (by decide +kernel) ?_
  refine lv_iconst hx hb (n := 1) (v := 1) (by decide +kernel) (by decide) ?_
  refine lv_iadd hx hb (by decide +kernel) ?_
  refine lv_i2l hx hb (by decide +kernel) rfl ?_
  refine lv_ladd hx hb (by decide +kernel) ?_
  exact W.lret hx hb B.returns (fun t ht _ => ⟨rfl, ht⟩) (fun q hq => by cases hq) (by decide +kernel)
end Q16
def kk_st : Nat → List Int64 × Int64
  | 0 => ([], 0)
  | i + 1 => if q_kb.getD i 0 = 32 then ((kk_st i).1 ++ [(kk_st i).2], 0) else ((kk_st i).1, (kk_st i).2 * 32 + (q_kb.getD i 0 - 97 + 1).toInt64)
def kk_f (i : Nat) : Nat → Int64 := fun j => (kk_st i).1.getD j 0
def kk_n (i : Nat) : Int32 := Int32.ofNat (kk_st i).1.length
def kk_lv (sz i : Nat) : List (Nat × Value) := [(4, .int (Int32.ofNat i)), (2, .long (kk_st i).2), (1, .int (kk_n i)), (0, .ref sz)]
theorem kk_app (l : List Int64) (x : Int64) : (fun j => (l ++ [x]).getD j 0) = vp_updL (fun j => l.getD j 0) l.length x := by
  funext j
  unfold vp_updL
  by_cases h : j = l.length
  · subst h
    simp
  · rw [if_neg h]
    by_cases h2 : j < l.length
    · simp [List.getElem?_append_left h2]
    · have h3 : l.length < j := by omega
      simp only [List.getD_eq_getElem?_getD]
      rw [List.getElem?_eq_none (by simp; omega), List.getElem?_eq_none (by omega)]
set_option maxRecDepth 100000 in
theorem kk_facts : ∀ i : Nat, i < 101 → (kk_st i).1.length < 20 := by decide +kernel
set_option maxRecDepth 100000 in
theorem kk_last : ∀ j : Nat, j < 20 → (kk_st 101).1.getD j 0 = Int64.ofInt (q_keys (j : Int)) := by decide +kernel
theorem kk_small : ∀ n : Nat, n < 20 → (Int32.ofNat n).toNatClampNeg = n ∧ (0 ≤ (Int32.ofNat n).toInt ∧ (Int32.ofNat n).toInt < ((20 : Nat) : Int)) ∧ ¬ (20 : Int32) ≤ Int32.ofNat n ∧ Int32.ofNat n + Int32.ofInt 1 = Int32.ofNat (n + 1) := by decide +kernel
theorem kk_idx : ∀ n : Nat, n < 101 → ¬ (101 : Int32) ≤ Int32.ofNat n ∧ Int32.ofNat n + Int32.ofInt 1 = Int32.ofNat (n + 1) := by decide +kernel
section Q17
variable {p : Program} {l : Launch} {e : Env} {R : Room} {s : State} {m : MethodId} {args : Array Value} {below : List Frame} {meth : Method} {c : Code} {Q : State → Prop} {Z : ZZ} {D : va_G} {H H1 : Heap} {locs locs1 : List Loc} {cells slots pc nL na k index ml : Nat} {adK adV : Nat → Nat} {cB cc : ByteArray} {own : String} {y : MethodName} {ret : Option FieldType} {As rest : List Value} {r : Option Value} {ls : Array Slot}
theorem q_ldcwS (hexec : p.tables.exec = Jvm.exec) (hb : c.code = cB) {tx : String} {q : Nat} (hown : s.vm.findClass own = some m.cls) (hZ : vk_R own index tx q s) (hdg : decode cB pc = .ok (.ldc_w index, 3))
    (kk : W p l e R s m args below meth c H locs cells slots Q (F0 m (pc + 3) ls (.ref q :: rest))) : W p l e R s m args below meth c H locs cells slots Q (F0 m pc ls rest) := by
  intro T hT X
  obtain ⟨t, a1, b1⟩ := kk T hT X
  refine ⟨t, ?_, b1⟩
  obtain ⟨k, cf, i, a', hk, hcf, hcp, -, hr, hev'⟩ := Cond.stringRef_spec hown hZ.1
  cases hZ.2.symm.trans hev'
  obtain ⟨k', hk', he⟩ := X.warmed.alike.2.2 _ _ hk
  have hr' : k'.resolved[index]? = some (some (.string q)) := by
    rcases X.warmed.entry hk hk' index with h | ⟨h, -⟩
    · rw [h]; exact hr
    · rw [hr] at h; cases h
  have hdg2 : decode c.code pc = .ok (.ldc_w index, 3) := by rw [hb]; exact hdg
  jvm_step X.here [hexec, hdg2, ldc_w.wp_string (e := e) (s := T) (f := F0 m pc ls rest) X.here.top hk' (by rw [he]; exact hcf) hcp hr']
  exact a1
theorem kk_perm {lv lv' : List (Nat × Value)} (h : lv_has ls nL lv) (hs : ∀ q ∈ lv', q ∈ lv) : lv_has ls nL lv' := ⟨h.1, h.2.1, fun q hq => h.2.2 q (hs q hq)⟩
theorem q_SA {sz : Nat} (hz : Z.1 < sz) (h : va_S (fun q => sz ≤ q) s.heap H locs) : va_S (aZ Z) s.heap H locs := ⟨h.1, fun q h1 h2 => h.2.1 q h1 (fun h3 : sz ≤ q => h2 (show Z.1 < q by omega)), fun x hx => show Z.1 < x.base from Nat.lt_of_lt_of_le hz (h.2.2 x hx)⟩
abbrev kk_ws (Z : ZZ) (sz i : Nat) : va_W := [(sz, .inl (Z.2.2 21, 20, .inr (.inl (kk_f i))))]
set_option maxHeartbeats 1000000 in
theorem kk_loop {sz : Nat} (hx : p.tables.exec = Jvm.exec) (hb : c.code = cX11_keysByNumber) (hml : c.maxLocals = 6) (hown : s.vm.findClass RX11 = some m.cls) (hts : ∀ w ∈ WS, w.before args s = true) (hR : R = { frames := 10, cells := 1, slots := 20, locals := 1200 })
    (hsz : s.heap.size = sz) (hz : Z.1 < sz) (hvm : q_Vm Z D s) (hst : vk_R RX11 362 "kind meets soul only wish debt grows as day clerk or and not waits owes debts dues births left place " (adK 0) s) (h0 : q_S0 adK adV Z s s.heap)
    (kend : ∀ (H : Heap) (locs : List Loc) (ls : Array Slot), ls[0]? = some (.val (.ref sz)) → va_P D vwCl (kk_ws Z sz 101) H → va_S (fun q => sz ≤ q) s.heap H locs → W p l e R s m args below meth c H locs 1 20 Q (F0 m 71 ls []))
    (k : Nat) : ∀ (i : Nat) (H : Heap) (locs : List Loc) (ls : Array Slot), i + k = 101 → lv_has ls 6 (kk_lv sz i) → va_P D vwCl (kk_ws Z sz i) H → va_S (fun q => sz ≤ q) s.heap H locs → W p l e R s m args below meth c H locs 1 20 Q (F0 m 12 ls []) := by
  subst hR
  induction k with
  | zero =>
    intro i H locs ls hi hL hP hS
    have hi1 : i = 101 := by omega
    subst hi1
    have hSZ := q_SA hz hS
    have h0H : ∀ U : State, U.heap = H → s.WarmedH U.vm → q_S0 adK adV Z U H := fun U _ hWU => q_S0_warm hWU (q_S0_kept hSZ.2.1 h0)
    refine lv_iload hx hb (i := 4) (by decide +kernel) (hL.2.2 (4, _) q_mm) ?_
    refine q_ldcwS hx hb hown hst (by decide +kernel) ?_
    refine q_lfV (na := 0) (As := []) (rest := [.int (Int32.ofNat 101)]) hx hb hml hown hts (q_len l) q_k43 q_k44 q_k45 q_k46 ⟨by decide, by decide, by decide, by decide⟩ rfl ⟨by decide, by decide⟩ hL.1 (by decide) (by decide +kernel) (by decide) (by decide) rfl h0H (vk_recv h0.1 (by decide) hSZ) (fun locs1 hl1 => ?_)
    refine lv_icmp_ge hx hb (off := 51) (tgt := 71) (by decide +kernel) (by decide) (fun _ => ?_) (fun h => absurd (by decide) h)
    exact kend H locs1 ls (hL.2.2 (0, _) q_m3) hP ⟨hS.1, hS.2.1, fun q hq => hS.2.2 q (hl1 q hq)⟩
  | succ k ih =>
    intro i H locs ls hi hL hP hS
    have hi1 : i < 101 := by omega
    have hSZ := q_SA hz hS
    have h0H : ∀ U : State, U.heap = H → s.WarmedH U.vm → q_S0 adK adV Z U H := fun U _ hWU => q_S0_warm hWU (q_S0_kept hSZ.2.1 h0)
    obtain ⟨x1, x2⟩ := kk_idx i hi1
    have n1 := kk_facts i hi1
    obtain ⟨n2, n3, n4, n5⟩ := kk_small _ n1
    refine lv_iload hx hb (i := 4) (by decide +kernel) (hL.2.2 (4, _) q_mm) ?_
    refine q_ldcwS hx hb hown hst (by decide +kernel) ?_
    refine q_lfV (na := 0) (As := []) (rest := [.int (Int32.ofNat i)]) hx hb hml hown hts (q_len l) q_k43 q_k44 q_k45 q_k46 ⟨by decide, by decide, by decide, by decide⟩ rfl ⟨by decide, by decide⟩ hL.1 (by show (1 + 0 : Nat) ≤ 8; decide) (by decide +kernel) (by decide) (by decide) rfl h0H (vk_recv h0.1 (by decide) hSZ) (fun locs1 hl1 => ?_)
    refine lv_icmp_ge hx hb (off := 51) (tgt := 71) (by decide +kernel) (by decide) (fun h => absurd h x1) (fun _ => ?_)
    refine lv_iload_n hx hb (k := 1) (i := 1) (by decide +kernel) rfl (hL.2.2 (1, _) q_m2) ?_
    refine lv_bipush hx hb (n := 20) (v := 20) (by decide +kernel) (by decide) ?_
    refine lv_icmp_ge hx hb (off := 45) (tgt := 71) (by decide +kernel) (by decide) (fun h => absurd h n4) (fun _ => ?_)
    refine q_ldcwS hx hb hown hst (by decide +kernel) ?_
    refine lv_iload hx hb (i := 4) (by decide +kernel) (hL.2.2 (4, _) q_mm) ?_
    refine q_lfV (na := 1) (As := [.int (Int32.ofNat i)]) (rest := []) hx hb hml hown hts (q_chAt l i hi1) q_k53 q_k54 q_k55 q_k56 ⟨by decide, by decide, by decide, by decide⟩ rfl ⟨by decide, by decide⟩ hL.1 (by decide) (by decide +kernel) (by decide) (by decide) rfl h0H (vk_recv h0.1 (by decide) hSZ) (fun locs2 hl2 => ?_)
    have hl3 : ∀ q ∈ locs2, q ∈ locs := fun q hq => hl1 q (hl2 q hq)
    have hS2 : va_S (fun q => sz ≤ q) s.heap H locs2 := ⟨hS.1, hS.2.1, fun q hq => hS.2.2 q (hl3 q hq)⟩
    refine lv_istore hx hb (i := 5) (nL := 6) (lv := kk_lv sz i) (lv' := (5, .int (q_kb.getD i 0)) :: kk_lv sz i) (by decide +kernel) hL (by decide) rfl (fun ls5 hL5 => ?_)
    refine lv_iload hx hb (i := 5) (by decide +kernel) (hL5.2.2 (5, _) List.mem_cons_self) ?_
    refine lv_bipush hx hb (n := 32) (v := 32) (by decide +kernel) (by decide) ?_
    have fin : ∀ (H9 : Heap) (locs9 : List Loc) (ls9 : Array Slot), lv_has ls9 6 [(2, .long (kk_st (i + 1)).2), (1, .int (kk_n (i + 1))), (5, .int (q_kb.getD i 0)), (4, .int (Int32.ofNat i)), (0, .ref sz)] → va_P D vwCl (kk_ws Z sz (i + 1)) H9 → va_S (fun q => sz ≤ q) s.heap H9 locs9 → W p l e { frames := 10, cells := 1, slots := 20, locals := 1200 } s m args below meth c H9 locs9 1 20 Q (F0 m 65 ls9 []) := by
      intro H9 locs9 ls9 hL9 hP9 hS9
      refine lv_iinc hx hb (i := 4) (nL := 6) (k := 3) (n := 1) (x := Int32.ofNat i) (v := Int32.ofNat (i + 1)) (lv' := (4, .int (Int32.ofNat (i + 1))) :: [(2, .long (kk_st (i + 1)).2), (1, .int (kk_n (i + 1))), (5, .int (q_kb.getD i 0)), (0, .ref sz)]) (by decide +kernel) hL9 rfl x2 (by decide) rfl (fun ls8 hL8 => ?_)
      refine lv_goto hx hb (off := -56) (tgt := 12) (by decide +kernel) (by decide) ?_
      exact ih (i + 1) H9 locs9 ls8 (by omega) (kk_perm hL8 (fun q hq => by simp only [kk_lv, List.mem_cons, List.not_mem_nil, or_false] at hq ⊢; rcases hq with rfl | rfl | rfl | rfl <;> simp)) hP9 hS9
    refine lv_icmp_ne hx hb (off := 15) (tgt := 58) (by decide +kernel) (by decide) (fun hne => ?_) (fun heq => ?_)
    · have e1 : kk_st (i + 1) = ((kk_st i).1, (kk_st i).2 * 32 + (q_kb.getD i 0 - 97 + 1).toInt64) := by
        show (if q_kb.getD i 0 = 32 then _ else _) = _
        rw [if_neg hne]
      refine lv_lload_n hx hb (k := 2) (i := 2) (by decide +kernel) rfl (hL5.2.2 (2, .long (kk_st i).2) q_m2) ?_
      refine lv_iload hx hb (i := 5) (by decide +kernel) (hL5.2.2 (5, _) List.mem_cons_self) ?_
      refine q_lfS (na := 2) (As := [.long (kk_st i).2, .int (q_kb.getD i 0)]) (rest := []) hx hb hml hown hts (q_wl l (kk_st i).2 (q_kb.getD i 0)) q_k91 q_k92 q_w109 q_k93 ⟨by decide, by decide, by decide⟩ rfl ⟨by decide, by decide⟩ hL5.1 (by decide) (by decide +kernel) (by decide) (by decide) rfl h0H (fun locs3 hl4 => ?_)
      refine lv_lstore_n hx hb (k := 2) (i := 2) (nL := 6) (lv := [(1, .int (kk_n i)), (5, .int (q_kb.getD i 0)), (4, .int (Int32.ofNat i)), (0, .ref sz)]) (lv' := [(2, .long ((kk_st i).2 * 32 + (q_kb.getD i 0 - 97 + 1).toInt64)), (1, .int (kk_n i)), (5, .int (q_kb.getD i 0)), (4, .int (Int32.ofNat i)), (0, .ref sz)]) (by decide +kernel) rfl (kk_perm hL5 (fun q hq => by simp only [kk_lv, List.mem_cons, List.not_mem_nil, or_false] at hq ⊢; rcases hq with rfl | rfl | rfl | rfl <;> simp)) (by decide) rfl (fun ls7 hL7 => ?_)
      refine fin H locs3 ls7 ?_ ?_ ⟨hS2.1, hS2.2.1, fun q hq => hS2.2.2 q (hl4 q hq)⟩
      · unfold kk_n; rw [e1]; exact hL7
      · unfold kk_ws kk_f; rw [e1]; exact hP
    · have e1 : kk_st (i + 1) = ((kk_st i).1 ++ [(kk_st i).2], 0) := by
        show (if q_kb.getD i 0 = 32 then _ else _) = _
        rw [if_pos heq]
      refine lv_aload_n hx hb (k := 0) (i := 0) (by decide +kernel) rfl (hL5.2.2 (0, .ref sz) q_m4) ?_
      refine lv_iload_n hx hb (k := 1) (i := 1) (by decide +kernel) rfl (hL5.2.2 (1, .int (kk_n i)) q_m3) ?_
      refine lv_lload_n hx hb (k := 2) (i := 2) (by decide +kernel) rfl (hL5.2.2 (2, .long (kk_st i).2) q_m2) ?_
      have hD : va_D (fun q => sz ≤ q) (kk_ws Z sz i) := ⟨fun a b x y hx hy _ => by
        have h1 : a < 1 := (List.getElem?_eq_some_iff.mp hx).1
        have h2 : b < 1 := (List.getElem?_eq_some_iff.mp hy).1
        omega, fun a x hx => by
        have h1 : a < 1 := (List.getElem?_eq_some_iff.mp hx).1
        rw [show a = 0 by omega] at hx
        cases hx
        exact Nat.le_refl sz⟩
      refine va_last hx hb hvm.1 hP hD hS2 0 1 (cA := Z.2.2 21) (n := 20) (f := kk_f i) rfl rfl (i := kk_n i) (x := (kk_st i).2) (vp_in_iff.mpr n3) (by decide +kernel) (fun H6 locs6 hP6 hD6 hS6 => ?_)
      have e2 : vp_updL (kk_f i) (kk_n i).toNatClampNeg (kk_st i).2 = kk_f (i + 1) := by
        unfold kk_n kk_f
        rw [n2, e1]
        exact (kk_app _ _).symm
      rw [e2] at hP6
      refine lv_iinc hx hb (i := 1) (nL := 6) (k := 0) (n := 1) (x := kk_n i) (v := kk_n (i + 1)) (lv := [(1, .int (kk_n i)), (5, .int (q_kb.getD i 0)), (4, .int (Int32.ofNat i)), (0, .ref sz)]) (lv' := [(1, .int (kk_n (i + 1))), (5, .int (q_kb.getD i 0)), (4, .int (Int32.ofNat i)), (0, .ref sz)]) (by decide +kernel) (kk_perm hL5 (fun q hq => by simp only [kk_lv, List.mem_cons, List.not_mem_nil, or_false] at hq ⊢; rcases hq with rfl | rfl | rfl | rfl <;> simp)) rfl (by unfold kk_n; rw [e1]; simp only [List.length_append, List.length_singleton]; exact n5) (by decide) rfl (fun ls7 hL7 => ?_)
      refine lv_lconst hx hb (n := 0) (v := 0) (by decide +kernel) (by decide) ?_
      refine lv_lstore_n hx hb (k := 2) (i := 2) (nL := 6) (lv' := [(2, .long 0), (1, .int (kk_n (i + 1))), (5, .int (q_kb.getD i 0)), (4, .int (Int32.ofNat i)), (0, .ref sz)]) (by decide +kernel) rfl hL7 (by decide) rfl (fun ls8 hL8 => ?_)
      refine lv_goto hx hb (off := 10) (tgt := 65) (by decide +kernel) (by decide) ?_
      exact fin H6 locs6 ls8 (by rw [show (kk_st (i + 1)).2 = 0 by rw [e1]]; exact hL8) hP6 hS6
set_option maxHeartbeats 1000000 in
theorem q_key (l : Launch) : q_Key l := by
  intro Z D sz
  refine Met.ofW (cc := cX11_keysByNumber) (maxL := 6) (ret := some (.array .long)) (by decide +kernel) rfl ?_
  intro p e s m args below meth c s₁ B hml hv
  obtain ⟨rfl, hsz, hz, hvm, hx1, hx2, adK, adV, c1, c2, c3, c4⟩ := hv
  have hts := atoms_spec (ws := .code yX11_keysByNumber cX11_keysByNumber 6 (some (.array .long)) :: WS) B.pre
  have hts' : ∀ w ∈ WS, w.before ([] : List Value).toArray s = true := fun w hw => hts w (List.mem_cons_of_mem _ hw)
  have hown : s.vm.findClass RX11 = some m.cls := findClass_of_methodNamed B.named
  have hx := B.exec
  have hb := B.bytes
  have hlocks := B.notSynchronized
  rw [lg_entry_eq]
  have hen := lv_entry ([] : List Value) (n := 6) (by decide)
  refine lv_bipush hx hb (n := 20) (v := 20) (by decide +kernel) (by decide) ?_
  refine va_newaK hx hb (atype := .long) (hts' _ (q_arr _ q_m1)) rfl (show decode cX11_keysByNumber 2 = .ok (.newarray .long, 2) by decide +kernel) rfl (n := 20) (N := 20) (by decide) (by decide) (by decide) (by decide) (by decide) hsz (fun H1 cA g1 z1 o1 hAr hNm => ?_)
  have hcA : cA = Z.2.2 21 := Option.some.inj (hNm.symm.trans (hvm.1.2 1 _ rfl).2)
  subst hcA
  have hS1 : va_S (fun q => sz ≤ q) s.heap H1 [] := ⟨by omega, fun q h1 h2 => o1 q (by omega), fun q hq => by cases hq⟩
  suffices hW0 : W p l e _ s m _ below meth c H1 [] (0 + 1) (0 + 20) _ (F0 m 4 (lg_sl ([] : List Value) ++ List.replicate (6 - (lg_sl ([] : List Value)).length) Slot.unset).toArray [.ref sz]) from hW0
  refine lv_astore_n hx hb (k := 0) (i := 0) (nL := 6) (lv := []) (lv' := [(0, .ref sz)]) (by decide +kernel) rfl ⟨hen.1, hen.2.1, fun q hq => by cases hq⟩ (by decide) rfl (fun ls1 hL1 => ?_)
  refine lv_iconst hx hb (n := 0) (v := 0) (by decide +kernel) (by decide) ?_
  refine lv_istore_n hx hb (k := 1) (i := 1) (nL := 6) (lv' := [(1, .int 0), (0, .ref sz)]) (by decide +kernel) rfl hL1 (by decide) rfl (fun ls2 hL2 => ?_)
  refine lv_lconst hx hb (n := 0) (v := 0) (by decide +kernel) (by decide) ?_
  refine lv_lstore_n hx hb (k := 2) (i := 2) (nL := 6) (lv' := [(2, .long 0), (1, .int 0), (0, .ref sz)]) (by decide +kernel) rfl hL2 (by decide) rfl (fun ls3 hL3 => ?_)
  refine lv_iconst hx hb (n := 0) (v := 0) (by decide +kernel) (by decide) ?_
  refine lv_istore hx hb (i := 4) (nL := 6) (lv' := [(4, .int 0), (2, .long 0), (1, .int 0), (0, .ref sz)]) (by decide +kernel) hL3 (by decide) rfl (fun ls4 hL4 => ?_)
  refine kk_loop (D := D) (adK := adK) (adV := adV) hx hb hml hown hts' rfl hsz hz hvm c1 ⟨c2, c3, c4⟩ ?_ 101 0 H1 [] ls4 (by decide) hL4 ?_ hS1
  · intro H locs ls h0 hP hS T hT X
    have hT1 : T.heap.size ≤ s.heap.size + 1 := X.heapSize
    rw [hT] at hT1
    have ha : H[sz]? = some (arrV (Z.2.2 21) 20 (fun j => .long (kk_f 101 j))) := hP 0 _ rfl
    have hlt : sz < H.size := (Array.getElem?_eq_some_iff.mp ha).1
    have hcell : arrV (Z.2.2 21) 20 (fun j => Value.long (kk_f 101 j)) = arrV (Z.2.2 21) 20 (fun j => .long (Int64.ofInt (q_keys (j : Int)))) := by
      unfold arrV
      have e1 : (fun j : Fin 20 => Value.long (kk_f 101 j.val)) = (fun j : Fin 20 => Value.long (Int64.ofInt (q_keys (j.val : Int)))) := by
        funext j
        exact congrArg Value.long (kk_last j.val j.isLt)
      rw [e1]
    have hH : H = s.heap.push (arrV (Z.2.2 21) 20 (fun j => .long (Int64.ofInt (q_keys (j : Int))))) := by
      apply Array.ext_getElem?
      intro j
      rw [Array.getElem?_push]
      by_cases hj : j = s.heap.size
      · rw [if_pos hj, hj, hsz, ha, hcell]
      · rw [if_neg hj]
        by_cases hj2 : j < s.heap.size
        · exact hS.2.1 j hj2 (by omega)
        · rw [Array.getElem?_eq_none (by omega), Array.getElem?_eq_none (by omega)]
    suffices hW1 : W p l e _ s m _ below meth c H locs 1 20 _ (F0 m 71 ls []) from hW1 T hT X
    refine lv_aload_n hx hb (k := 0) (i := 0) (by decide +kernel) rfl h0 ?_
    refine W.aret hx hb B.returns (Or.inr ⟨.long, rfl⟩) (Or.inr ⟨sz, rfl⟩) (fun t ht _ => ⟨rfl, by rw [ht]; exact hH⟩) (fun q hq => hS.2.2 q hq) (by decide +kernel)
  · intro k q hk
    have h1 : k < 1 := (List.getElem?_eq_some_iff.mp hk).1
    rw [show k = 0 by omega] at hk
    cases hk
    exact g1
end Q17
