/-! from the law's entry to the evaluator -/
def q_h0 (L : Nat) (xs : Nat → Int32) : HH := ((0, 0, (fun _ => (0, 0)), (fun _ _ => 0), (L, xs)), fun _ _ => 0)
def q_L0 : LV := [some (aR q_S), none, none, none, none, none, none]
theorem q_isn (w : Cond) (h : q_isN w = true) : w.onTables = true := by
  cases w <;> first | rfl | cases h
theorem q_flags (l : Launch) (h : l.flags = flags0) : l.stackTraces = false := by
  unfold Launch.stackTraces
  rw [h]
  decide +kernel
theorem q_ws {w : Cond} (h : w ∈ WS) : w ∈ lw_tbl := (List.mem_filter.mp h).1
theorem q_nwm {w : Cond} (h : w ∈ q_NW) : w ∈ lw_tbl ∧ q_isN w = true := List.mem_filter.mp h

theorem q_ni0 : Cond.instantiable RX0 7 ∈ WS := q_in_tab (q_c2 (j := 223) rfl) rfl
theorem q_ni1 : Cond.instantiable RX1 11 ∈ WS := q_in_tab (q_c2 (j := 134) rfl) rfl
theorem q_ni2 : Cond.instantiable RX2 3 ∈ WS := q_in_tab (q_c2 (j := 102) rfl) rfl
theorem q_ni3 : Cond.instantiable RX3 4 ∈ WS := q_in_tab (q_c3 (j := 38) rfl) rfl
theorem q_ni4 : Cond.instantiable RX4 11 ∈ WS := q_in_tab (q_c1 (j := 237) rfl) rfl
theorem q_ni5 : Cond.instantiable RX5 11 ∈ WS := q_in_tab (q_c2 (j := 179) rfl) rfl
theorem q_ni6 : Cond.instantiable RX6 6 ∈ WS := q_in_tab (q_c3 (j := 11) rfl) rfl
theorem q_ni7 : Cond.instantiable RX7 2 ∈ WS := q_in_tab (q_c2 (j := 121) rfl) rfl
theorem q_ni8 : Cond.instantiable RX8 11 ∈ WS := q_in_tab (q_c1 (j := 155) rfl) rfl
theorem q_ni9 : Cond.instantiable RX9 9 ∈ WS := q_in_tab (q_c2 (j := 66) rfl) rfl
theorem q_ni10 : Cond.instantiable RX10 15 ∈ WS := q_in_tab (q_c1 (j := 34) rfl) rfl
theorem q_ni11 : Cond.instantiable RX11 15 ∈ WS := q_in_tab (q_c1 (j := 26) rfl) rfl
theorem q_ni12 : Cond.instantiable RX12 49 ∈ WS := q_in_tab (q_c6 (j := 124) rfl) rfl
theorem q_vk1 : ∀ (k : Nat) (r : vw_C), vwCl[k]? = some r → ∃ n : Nat, Cond.instantiable r.1 n ∈ WS := by
  intro k r h
  match k, h with
  | 0, h => cases h; exact ⟨_, q_ni0⟩
  | 1, h => cases h; exact ⟨_, q_ni1⟩
  | 2, h => cases h; exact ⟨_, q_ni2⟩
  | 3, h => cases h; exact ⟨_, q_ni3⟩
  | 4, h => cases h; exact ⟨_, q_ni4⟩
  | 5, h => cases h; exact ⟨_, q_ni5⟩
  | 6, h => cases h; exact ⟨_, q_ni6⟩
  | 7, h => cases h; exact ⟨_, q_ni7⟩
  | 8, h => cases h; exact ⟨_, q_ni8⟩
  | 9, h => cases h; exact ⟨_, q_ni9⟩
  | 10, h => cases h; exact ⟨_, q_ni10⟩
  | 11, h => cases h; exact ⟨_, q_ni11⟩
  | 12, h => cases h; exact ⟨_, q_ni12⟩
  | k + 13, h => simp [vwCl] at h
theorem q_z1 : (Jvm.Cond.laysStatic "java/lang/String" "COMPACT_STRINGS" "Z") ∈ tables_1 := q_c1 (j := 52) rfl
theorem q_z2 : (Jvm.Cond.laysStatic "jdk/internal/util/Preconditions" "SIOOBE_FORMATTER" "Ljava/util/function/BiFunction;") ∈ tables_1 := q_c1 (j := 68) rfl
theorem q_z3 : (Jvm.Cond.laysStatic "java/lang/Throwable" "UNASSIGNED_STACK" "[Ljava/lang/StackTraceElement;") ∈ tables_1 := q_c6 (j := 72) rfl
theorem q_z4 : (Jvm.Cond.laysStatic "java/lang/Throwable" "SUPPRESSED_SENTINEL" "Ljava/util/List;") ∈ tables_1 := q_c6 (j := 74) rfl
theorem q_z5 : (Jvm.Cond.initialized "java/lang/Throwable") ∈ tables_1 := q_c1 (j := 20) rfl
theorem q_z6 : (Jvm.Cond.stringRef "SoulOffice" (362 : Nat) "kind meets soul only wish debt grows as day clerk or and not waits owes debts dues births left place ") ∈ tables_1 := q_c1 (j := 42) rfl
theorem q_z7 : (Jvm.Cond.arrayOver (Jvm.ClassFile.FieldType.object "SoulOffice$Life")) ∈ tables_1 := q_c2 (j := 108) rfl
theorem q_z8 : (Jvm.Cond.arrayOver (Jvm.ClassFile.FieldType.object "SoulOffice$Image")) ∈ tables_1 := q_c3 (j := 37) rfl
theorem q_tt {w : Cond} (h : w ∈ tables_1) : w ∈ lw_tbl := List.mem_append_right _ h
section Q18
variable {p : Program} {l : Launch} {e : Env} {s : State} {m : MethodId} {args : Array Value} {below : List Frame} {meth : Method} {c : Code} {b L : Nat} {xs : Nat → Int32}
theorem q_ac1 {ty : FieldType} (h : (Cond.arrayClass ty).before args s = true) : ∃ cA : ClassId, ArrOfT s cA ty ∧ s.vm.findClass ("[" ++ ty.toString) = some cA := by
  obtain ⟨cA, k, comp, h1, h2, h3⟩ := Cond.arrayClass_spec h
  exact ⟨cA, fun n z => ⟨fun k h => (by cases h), k, h2, comp, h3⟩, h1⟩
theorem q_ac2 {C : String} (h : (Cond.arrayOver (.object C)).before args s = true) : ∃ cA : ClassId, ArrOfT s cA (.object C) ∧ va_RA s cA (.object C) := by
  obtain ⟨comp, cA, k, h1, h2, h3, h4, h5⟩ := Cond.arrayOver_spec h
  exact ⟨cA, fun n z => ⟨fun k h => (by cases h), k, h3, comp, h4⟩, k, comp, h3, h4, h1, h5⟩
set_option maxHeartbeats 1000000 in
/-- what holds at the law's entry, as the evaluator's runs want it -/
theorem q_enter (hts : ∀ w ∈ lw_tbl, w.before args s = true) (hgv : (Jvm.Cond.and given_1 narrow_1).before args s = true) (hb : b < s.heap.size) : ∃ (Z : ZZ) (D : va_G), Z.1 + 1 = s.heap.size ∧ Z.2.1 = b ∧ q_Vm Z D s ∧ q_Ex Z s s.heap := by
  have hK : ∀ k : Nat, ∃ q : ClassId × (Nat → Nat), ∀ r : vw_C, vwCl[k]? = some r → u_Kn s r.1 r.2.1 r.2.2 q.1 q.2 := by
    intro k
    cases hr : vwCl[k]? with
    | none => exact ⟨(0, fun _ => 0), fun r h => by cases h⟩
    | some r =>
      obtain ⟨n, hn⟩ := q_vk1 k r hr
      obtain ⟨ty, hC⟩ := q_cls hr
      obtain ⟨cC, iS, h⟩ := u_known (ws := lw_tbl) hts (fun w hw => q_ws (hC.1 w hw)) (hts _ (q_ws hn))
      exact ⟨(cC, iS), fun r' h' => by cases h'; exact h⟩
  obtain ⟨D0, hD0⟩ := Classical.axiomOfChoice hK
  obtain ⟨a20, b20, c20⟩ := q_ac1 (hts _ (q_ws (q_arr _ q_mm)))
  obtain ⟨a21, b21, c21⟩ := q_ac1 (hts _ (q_ws (q_arr _ q_m1)))
  obtain ⟨a22, b22, c22⟩ := q_ac1 (hts _ (q_ws (q_arr _ q_m2)))
  obtain ⟨a23, b23, c23⟩ := q_ac1 (hts _ (q_ws (q_arr _ q_m3)))
  obtain ⟨a24, b24, c24⟩ := q_ac2 (hts _ (q_tt q_z7))
  obtain ⟨a25, b25, c25⟩ := q_ac2 (hts _ (q_tt q_z8))
  have hZ : ∃ Z : ZZ, Z.1 + 1 = s.heap.size ∧ Z.2.1 = b ∧ tyZ Z = [(a20, .int), (a21, .long), (a22, .byte), (a23, .boolean), (a24, .object "SoulOffice$Life"), (a25, .object "SoulOffice$Image")] :=
    ⟨(s.heap.size - 1, b, fun k => if k = 20 then a20 else if k = 21 then a21 else if k = 22 then a22 else if k = 23 then a23 else if k = 24 then a24 else a25), by show s.heap.size - 1 + 1 = _; omega, rfl, rfl⟩
  obtain ⟨Z, z1, z2, z3⟩ := hZ
  have hA : ∀ a : Nat, a < s.heap.size → ¬ aZ Z a := fun a h1 h2 => by
    have h3 : Z.1 < a := h2
    omega
  refine ⟨Z, (fun k => (D0 k).1, fun k => (D0 k).2), z1, z2, ⟨⟨fun k r h => hD0 k r h, ?_⟩, ?_, va_AO.of (hts _ (q_tt q_z7)), va_AO.of (hts _ (q_tt q_z8))⟩, ?_⟩
  · rw [z3]
    intro k q hq
    match k, hq with
    | 0, hq => cases hq; exact ⟨b20, c20⟩
    | 1, hq => cases hq; exact ⟨b21, c21⟩
    | 2, hq => cases hq; exact ⟨b22, c22⟩
    | 3, hq => cases hq; exact ⟨b23, c23⟩
    | 4, hq => cases hq; exact ⟨b24, c24⟩
    | 5, hq => cases hq; exact ⟨b25, c25⟩
    | k + 6, hq => simp at hq
  · exact fun w hw => va_Nw.of (q_isn w (q_nwm hw).2) (hts _ (q_nwm hw).1)
  · have hg := flat_of_before _ hgv
    have e1 : (Cond.eq (Term.static "java/lang/String" "COMPACT_STRINGS" "Z") (Term.int 1)).before args s = true := hg _ (by decide +kernel)
    have e2 : (Cond.isRef (Term.static "jdk/internal/util/Preconditions" "SIOOBE_FORMATTER" "Ljava/util/function/BiFunction;")).before args s = true := hg _ (by decide +kernel)
    have e3 : (Cond.isRef (Term.static "java/lang/Throwable" "UNASSIGNED_STACK" "[Ljava/lang/StackTraceElement;")).before args s = true := hg _ (by decide +kernel)
    have e4 : (Cond.isRef (Term.static "java/lang/Throwable" "SUPPRESSED_SENTINEL" "Ljava/util/List;")).before args s = true := hg _ (by decide +kernel)
    have f1 : (Cond.exactly (Term.string "SoulOffice" 362) "java/lang/String").before args s = true := hg _ (by decide +kernel)
    have f2 : (Cond.eq ((Term.string "SoulOffice" 362).field "java/lang/String" "coder" "B") (Term.int 0)).before args s = true := hg _ (by decide +kernel)
    have f3 : (Cond.arrayOf ((Term.string "SoulOffice" 362).field "java/lang/String" "value" "[B") FieldType.byte).before args s = true := hg _ (by decide +kernel)
    have f4 : (Cond.eq ((Term.string "SoulOffice" 362).field "java/lang/String" "value" "[B").length (Term.int 101)).before args s = true := hg _ (by decide +kernel)
    have f5 : ∀ j : Nat, j < 101 → (Cond.eq (((Term.string "SoulOffice" 362).field "java/lang/String" "value" "[B").elem (Term.int (Int32.ofNat j))) (Term.int (q_kb.getD j 0))).before args s = true := by
      intro j hj
      have f6 : ∀ j : Nat, j < 101 → (Cond.eq (((Term.string "SoulOffice" 362).field "java/lang/String" "value" "[B").elem (Term.int (Int32.ofNat j))) (Term.int (q_kb.getD j 0))) ∈ flatC (Jvm.Cond.and given_1 narrow_1) := by
        decide +kernel
      exact hg _ (f6 j hj)
    obtain ⟨adK, adV, g1, g2⟩ := vk_Sof (N := 1) (tm := fun _ => Term.string "SoulOffice" 362) (len := [101]) (byt := [q_kb]) (A := aZ Z) (fun i hi => by rw [show i = 0 by omega]; decide) (fun i _ => f1) (fun i _ => f2) (fun i _ => f3) (fun i hi => by rw [show i = 0 by omega]; exact f4) (fun i hi j hj => by rw [show i = 0 by omega] at hj ⊢; exact f5 j hj) (fun i j hi hj hij => absurd (by omega) hij) hA
    refine ⟨vx_Zqof (hts _ (q_tt q_z3)) (hts _ (q_tt q_z5)) e3 hA, vx_Zqof (hts _ (q_tt q_z4)) (hts _ (q_tt q_z5)) e4 hA, adK, adV, vk_R.of (hts _ (q_tt q_z6)) (g2 0 (by decide)), g1, ?_, va_Zqof (hts _ (q_tt q_z2)) (hts _ (q_ws q_k5)) e2 hA⟩
    exact va_Zof (hts _ (q_tt q_z1)) (hts _ (q_ws q_k3)) (va_eqt e1) hA
/-- the law's body, out of the evaluator -/
def q_Law : Prop := ∀ (L : Nat) (xs : Nat → Int32), L ≤ 3072 → ∃ (n : Nat) (h' : HH), ev n 60 q_law 0 q_L0 [] (q_h0 L xs) = some (.inl (some (aI 1)), h') ∧ nC h' ≤ 601024 ∧ nU h' ≤ 7293034
end Q18
