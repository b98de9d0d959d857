/-- the words of a pool's entry -/
def q_pw (o i : Nat) (q : Nat × Nat × Nat × Int) : List Cond :=
  if q.1 = 0 then [.fieldLink (oN o) i ((vwCl.getD q.2.1 (RL, fun _ => ("", "", "", false), 0)).2.1 q.2.2.1).1 ((vwCl.getD q.2.1 (RL, fun _ => ("", "", "", false), 0)).2.1 q.2.2.1).2.1 ((vwCl.getD q.2.1 (RL, fun _ => ("", "", "", false), 0)).2.1 q.2.2.1).2.2.1]
  else if q.1 = 1 then [.methodLink (oN o) i (mY q.2.1), .instanceMethod (mY q.2.1), .selects (mY q.2.1).cls (mY q.2.1) (mY q.2.1), .initialized (mY q.2.1).cls, .code (mY q.2.1) (mC q.2.1) (mL q.2.1) (mR q.2.1)]
  else if q.1 = 2 then [.methodLink (oN o) i (mY q.2.1), .static (mY q.2.1), .initialized (mY q.2.1).cls, .code (mY q.2.1) (mC q.2.1) (mL q.2.1) (mR q.2.1)]
  else if q.1 = 3 then [.static (mY q.2.1), .initialized (mY q.2.1).cls, .code (mY q.2.1) (mC q.2.1) (mL q.2.1) (mR q.2.1)]
  else if q.1 = 4 then [.methodLink (oN o) i (mY q.2.1), .instanceMethod (mY q.2.1), .initialized (mY q.2.1).cls, .code (mY q.2.1) (mC q.2.1) (mL q.2.1) none]
  else if q.1 = 5 then [.instanceMethod (mY q.2.1), .initialized (mY q.2.1).cls, .code (mY q.2.1) (mC q.2.1) (mL q.2.1) none]
  else if q.1 = 6 then [.classLink (oN o) i (oN q.2.1), .instantiable (oN q.2.1) (q_N q.2.1), .initialized (oN q.2.1)]
  else if q.1 = 8 then [.constant (oN o) i (Int32.ofInt q.2.2.2)]
  else if q.1 = 9 then [.constantLong (oN o) i (Int64.ofInt q.2.2.2)]
  else if q.1 = 10 then [.methodLink (oN o) i arraycopyName, .native arraycopyName, .static arraycopyName, .initialized "java/lang/System"]
  else if q.1 = 11 then [.methodLink (oN o) i objectInit, .instanceMethod objectInit, .code objectInit ⟨#[0xb1]⟩ 1 none]
  else if q.1 = 12 then [.static yX11_keysByNumber, .initialized RX11, .code yX11_keysByNumber cX11_keysByNumber 6 (some (.array .long))]
  else if q.1 = 15 then [.methodLink (oN o) i Lib.Math.max.name, .static Lib.Math.max.name, .initialized "java/lang/Math", .code Lib.Math.max.name Lib.Math.max.code 2 (some .int)]
  else if q.1 = 16 then [.methodLink (oN o) i Lib.Math.min.name, .static Lib.Math.min.name, .initialized "java/lang/Math", .code Lib.Math.min.name Lib.Math.min.code 2 (some .int)]
  else if q.1 = 13 then [.methodLink (oN o) i yL_soul, .static yL_soul, .initialized RL, .codeWith yL_soul cL_soul 5 (some .int) [((0), (10), (13), (13))]]
  else if q.1 = 14 then [.methodLink (oN o) i yL_net, .static yL_net, .initialized RL, .codeWith yL_net cL_net 4 (some .int) [((0), (9), (12), (13))]]
  else if q.1 = 17 then [.classLink (oN o) i "java/util/NoSuchElementException"]
  else []
def q_pn (o i : Nat) (q : Nat × Nat × Nat × Int) : List Cond :=
  if q.1 = 3 ∨ q.1 = 5 then [.methodLinkNest (oN o) i (mY q.2.1) RX11]
  else if q.1 = 12 then [.methodLinkNest (oN o) i yX11_keysByNumber RX11]
  else []

def q_all {α : Type} (p : α → Prop) : List α → Prop
  | [] => True
  | a :: l => p a ∧ q_all p l
theorem q_all_of {α : Type} {p : α → Prop} : ∀ {l : List α}, q_all p l → ∀ a ∈ l, p a
  | [], _, a, h => by cases h
  | b :: l, hp, a, h => by
    rcases List.mem_cons.mp h with e | h
    · rw [e]; exact hp.1
    · exact q_all_of hp.2 a h
theorem q_in_tab {w : Cond} (h : w ∈ tables_1) (g : goodWord w = true) : w ∈ WS := List.mem_filter.mpr ⟨List.mem_append_right _ h, g⟩
theorem q_in_nest {w : Cond} (h : w ∈ tables_1) (g : q_isN w = true) : w ∈ q_NW := List.mem_filter.mpr ⟨List.mem_append_right _ h, g⟩
theorem q_c1 {w : Cond} {j : Nat} (h : tables_1_1[j]? = some w) : w ∈ tables_1 := List.mem_append_left _ (List.mem_of_getElem? h)
theorem q_c2 {w : Cond} {j : Nat} (h : tables_1_2[j]? = some w) : w ∈ tables_1 := List.mem_append_right _ (List.mem_append_left _ (List.mem_of_getElem? h))
theorem q_c3 {w : Cond} {j : Nat} (h : tables_1_3[j]? = some w) : w ∈ tables_1 := List.mem_append_right _ (List.mem_append_right _ (List.mem_append_left _ (List.mem_of_getElem? h)))
theorem q_c4 {w : Cond} {j : Nat} (h : tables_1_4[j]? = some w) : w ∈ tables_1 := List.mem_append_right _ (List.mem_append_right _ (List.mem_append_right _ (List.mem_append_left _ (List.mem_of_getElem? h))))
theorem q_c5 {w : Cond} {j : Nat} (h : tables_1_5[j]? = some w) : w ∈ tables_1 := List.mem_append_right _ (List.mem_append_right _ (List.mem_append_right _ (List.mem_append_right _ (List.mem_append_left _ (List.mem_of_getElem? h)))))
theorem q_c6 {w : Cond} {j : Nat} (h : tables_1_6[j]? = some w) : w ∈ tables_1 := List.mem_append_right _ (List.mem_append_right _ (List.mem_append_right _ (List.mem_append_right _ (List.mem_append_right _ (List.mem_append_left _ (List.mem_of_getElem? h))))))
theorem q_c7 {w : Cond} {j : Nat} (h : tables_1_7[j]? = some w) : w ∈ tables_1 := List.mem_append_right _ (List.mem_append_right _ (List.mem_append_right _ (List.mem_append_right _ (List.mem_append_right _ (List.mem_append_right _ (List.mem_append_left _ (List.mem_of_getElem? h)))))))
theorem q_c8 {w : Cond} {j : Nat} (h : tables_1_8[j]? = some w) : w ∈ tables_1 := List.mem_append_right _ (List.mem_append_right _ (List.mem_append_right _ (List.mem_append_right _ (List.mem_append_right _ (List.mem_append_right _ (List.mem_append_right _ (List.mem_append_left _ (List.mem_of_getElem? h))))))))
theorem q_c9 {w : Cond} {j : Nat} (h : tables_1_9[j]? = some w) : w ∈ tables_1 := List.mem_append_right _ (List.mem_append_right _ (List.mem_append_right _ (List.mem_append_right _ (List.mem_append_right _ (List.mem_append_right _ (List.mem_append_right _ (List.mem_append_right _ (List.mem_of_getElem? h))))))))
theorem q_v1 {q : MethodName × Nat} {j : Nat} (h : lw_privs_1[j]? = some q) : q ∈ lw_privs := List.mem_append_left _ (List.mem_of_getElem? h)
theorem q_v2 {q : MethodName × Nat} {j : Nat} (h : lw_privs_2[j]? = some q) : q ∈ lw_privs := List.mem_append_right _ (List.mem_append_left _ (List.mem_of_getElem? h))
theorem q_v3 {q : MethodName × Nat} {j : Nat} (h : lw_privs_3[j]? = some q) : q ∈ lw_privs := List.mem_append_right _ (List.mem_append_right _ (List.mem_append_left _ (List.mem_of_getElem? h)))
theorem q_v4 {q : MethodName × Nat} {j : Nat} (h : lw_privs_4[j]? = some q) : q ∈ lw_privs := List.mem_append_right _ (List.mem_append_right _ (List.mem_append_right _ (List.mem_append_left _ (List.mem_of_getElem? h))))
theorem q_v5 {q : MethodName × Nat} {j : Nat} (h : lw_privs_5[j]? = some q) : q ∈ lw_privs := List.mem_append_right _ (List.mem_append_right _ (List.mem_append_right _ (List.mem_append_right _ (List.mem_append_left _ (List.mem_of_getElem? h)))))
theorem q_v6 {q : MethodName × Nat} {j : Nat} (h : lw_privs_6[j]? = some q) : q ∈ lw_privs := List.mem_append_right _ (List.mem_append_right _ (List.mem_append_right _ (List.mem_append_right _ (List.mem_append_right _ (List.mem_append_left _ (List.mem_of_getElem? h))))))
theorem q_v7 {q : MethodName × Nat} {j : Nat} (h : lw_privs_7[j]? = some q) : q ∈ lw_privs := List.mem_append_right _ (List.mem_append_right _ (List.mem_append_right _ (List.mem_append_right _ (List.mem_append_right _ (List.mem_append_right _ (List.mem_of_getElem? h))))))
theorem q_in_prv {q : MethodName × Nat} (h : q ∈ lw_privs) (g : goodWord (Cond.selects q.1.cls q.1 q.1) = true) : Cond.selects q.1.cls q.1 q.1 ∈ WS := List.mem_filter.mpr ⟨List.mem_append_left _ (List.mem_map.mpr ⟨q, h, rfl⟩), g⟩
def q_gd (o : Nat) (x : Nat × Nat × Nat × Nat × Int) : Prop := q_all (fun w => w ∈ WS) (q_pw o x.1 x.2) ∧ q_all (fun w => w ∈ q_NW) (q_pn o x.1 x.2)
theorem q_w575 : (Jvm.Cond.methodLink "SoulOffice$AppealSearch" (3 : Nat) ({ cls := "java/lang/Object", name := "<init>", desc := "()V" } : Jvm.MethodName)) ∈ WS := q_in_tab (q_c2 (j := 227) rfl) rfl
theorem q_w139 : (Jvm.Cond.instanceMethod ({ cls := "java/lang/Object", name := "<init>", desc := "()V" } : Jvm.MethodName)) ∈ WS := q_in_tab (q_c1 (j := 31) rfl) rfl
theorem q_w140 : (Jvm.Cond.code ({ cls := "java/lang/Object", name := "<init>", desc := "()V" } : Jvm.MethodName) object_method_1_code (1 : Nat) (Option.none : Option Jvm.ClassFile.FieldType)) ∈ WS := q_in_tab (q_c1 (j := 32) rfl) rfl
theorem q_g0_3 : q_gd 0 (3, 11, 0, 0, 0) := ⟨⟨q_w575, ⟨q_w139, ⟨q_w140, True.intro⟩⟩⟩, True.intro⟩
theorem q_w578 : (Jvm.Cond.fieldLink "SoulOffice$AppealSearch" (9 : Nat) "SoulOffice$AppealSearch" "room" "[I") ∈ WS := q_in_tab (q_c2 (j := 230) rfl) rfl
theorem q_g0_9 : q_gd 0 (9, 0, 0, 2, 0) := ⟨⟨q_w578, True.intro⟩, True.intro⟩
theorem q_w579 : (Jvm.Cond.fieldLink "SoulOffice$AppealSearch" (15 : Nat) "SoulOffice$AppealSearch" "steps" "[I") ∈ WS := q_in_tab (q_c2 (j := 231) rfl) rfl
theorem q_g0_15 : q_gd 0 (15, 0, 0, 3, 0) := ⟨⟨q_w579, True.intro⟩, True.intro⟩
theorem q_w580 : (Jvm.Cond.fieldLink "SoulOffice$AppealSearch" (18 : Nat) "SoulOffice$AppealSearch" "chosen" "[I") ∈ WS := q_in_tab (q_c2 (j := 232) rfl) rfl
theorem q_g0_18 : q_gd 0 (18, 0, 0, 4, 0) := ⟨⟨q_w580, True.intro⟩, True.intro⟩
theorem q_w576 : (Jvm.Cond.fieldLink "SoulOffice$AppealSearch" (21 : Nat) "SoulOffice$AppealSearch" "rules" "LSoulOffice$Rules;") ∈ WS := q_in_tab (q_c2 (j := 228) rfl) rfl
theorem q_g0_21 : q_gd 0 (21, 0, 0, 0, 0) := ⟨⟨q_w576, True.intro⟩, True.intro⟩
theorem q_w577 : (Jvm.Cond.fieldLink "SoulOffice$AppealSearch" (25 : Nat) "SoulOffice$AppealSearch" "life" "LSoulOffice$Life;") ∈ WS := q_in_tab (q_c2 (j := 229) rfl) rfl
theorem q_g0_25 : q_gd 0 (25, 0, 0, 1, 0) := ⟨⟨q_w577, True.intro⟩, True.intro⟩
theorem q_w371 : (Jvm.Cond.fieldLink "SoulOffice$AppealSearch" (29 : Nat) "SoulOffice$Life" "today" "[I") ∈ WS := q_in_tab (q_c2 (j := 23) rfl) rfl
theorem q_g0_29 : q_gd 0 (29, 0, 4, 7, 0) := ⟨⟨q_w371, True.intro⟩, True.intro⟩
theorem q_w1153 : (Jvm.Cond.methodLink "SoulOffice$AppealSearch" (34 : Nat) ({ cls := "SoulOffice$Rules", name := "mayBe", desc := "(II)Z" } : Jvm.MethodName)) ∈ WS := q_in_tab (q_c5 (j := 85) rfl) rfl
theorem q_w817 : (Jvm.Cond.instanceMethod ({ cls := "SoulOffice$Rules", name := "mayBe", desc := "(II)Z" } : Jvm.MethodName)) ∈ WS := q_in_tab (q_c3 (j := 229) rfl) rfl
theorem q_w818 : (Jvm.Cond.selects "SoulOffice$Rules" ({ cls := "SoulOffice$Rules", name := "mayBe", desc := "(II)Z" } : Jvm.MethodName) ({ cls := "SoulOffice$Rules", name := "mayBe", desc := "(II)Z" } : Jvm.MethodName)) ∈ WS := q_in_tab (q_c3 (j := 230) rfl) rfl
theorem q_w115 : (Jvm.Cond.initialized "SoulOffice$Rules") ∈ WS := q_in_tab (q_c1 (j := 7) rfl) rfl
theorem q_w819 : (Jvm.Cond.code ({ cls := "SoulOffice$Rules", name := "mayBe", desc := "(II)Z" } : Jvm.MethodName) prog_10_method_4_code (3 : Nat) (Option.some Jvm.ClassFile.FieldType.boolean)) ∈ WS := q_in_tab (q_c3 (j := 231) rfl) rfl
theorem q_g0_34 : q_gd 0 (34, 1, 72, 0, 0) := ⟨⟨q_w1153, ⟨q_w817, ⟨q_w818, ⟨q_w115, ⟨q_w819, True.intro⟩⟩⟩⟩⟩, True.intro⟩
theorem q_w359 : (Jvm.Cond.fieldLink "SoulOffice$AppealSearch" (40 : Nat) "SoulOffice$Life" "as" "[I") ∈ WS := q_in_tab (q_c2 (j := 11) rfl) rfl
theorem q_g0_40 : q_gd 0 (40, 0, 4, 4, 0) := ⟨⟨q_w359, True.intro⟩, True.intro⟩
theorem q_w269 : (Jvm.Cond.fieldLink "SoulOffice$AppealSearch" (43 : Nat) "SoulOffice$Rules" "kinds" "I") ∈ WS := q_in_tab (q_c1 (j := 161) rfl) rfl
theorem q_g0_43 : q_gd 0 (43, 0, 8, 0, 0) := ⟨⟨q_w269, True.intro⟩, True.intro⟩
theorem q_w374 : (Jvm.Cond.fieldLink "SoulOffice$AppealSearch" (47 : Nat) "SoulOffice$Life" "free" "[I") ∈ WS := q_in_tab (q_c2 (j := 26) rfl) rfl
theorem q_g0_47 : q_gd 0 (47, 0, 4, 8, 0) := ⟨⟨q_w374, True.intro⟩, True.intro⟩
theorem q_w1154 : (Jvm.Cond.methodLink "SoulOffice$AppealSearch" (50 : Nat) ({ cls := "SoulOffice$AppealSearch", name := "stepOn", desc := "(II)V" } : Jvm.MethodName)) ∈ WS := q_in_tab (q_c5 (j := 86) rfl) rfl
theorem q_w1156 : (Jvm.Cond.instanceMethod ({ cls := "SoulOffice$AppealSearch", name := "stepOn", desc := "(II)V" } : Jvm.MethodName)) ∈ WS := q_in_tab (q_c5 (j := 88) rfl) rfl
theorem q_w28 : Cond.selects "SoulOffice$AppealSearch" (⟨"SoulOffice$AppealSearch", "stepOn", "(II)V"⟩ : MethodName) (⟨"SoulOffice$AppealSearch", "stepOn", "(II)V"⟩ : MethodName) ∈ WS := q_in_prv (q := ((⟨"SoulOffice$AppealSearch", "stepOn", "(II)V"⟩ : MethodName), 7)) (q_v2 (j := 12) rfl) rfl
theorem q_w123 : (Jvm.Cond.initialized "SoulOffice$AppealSearch") ∈ WS := q_in_tab (q_c1 (j := 15) rfl) rfl
theorem q_w1157 : (Jvm.Cond.code ({ cls := "SoulOffice$AppealSearch", name := "stepOn", desc := "(II)V" } : Jvm.MethodName) prog_2_method_3_code (6 : Nat) (Option.none : Option Jvm.ClassFile.FieldType)) ∈ WS := q_in_tab (q_c5 (j := 89) rfl) rfl
theorem q_g0_50 : q_gd 0 (50, 1, 2, 0, 0) := ⟨⟨q_w1154, ⟨q_w1156, ⟨q_w28, ⟨q_w123, ⟨q_w1157, True.intro⟩⟩⟩⟩⟩, True.intro⟩
theorem q_w277 : (Jvm.Cond.fieldLink "SoulOffice$AppealSearch" (54 : Nat) "SoulOffice$Rules" "souls" "I") ∈ WS := q_in_tab (q_c1 (j := 169) rfl) rfl
theorem q_g0_54 : q_gd 0 (54, 0, 8, 1, 0) := ⟨⟨q_w277, True.intro⟩, True.intro⟩
theorem q_w581 : (Jvm.Cond.fieldLink "SoulOffice$AppealSearch" (57 : Nat) "SoulOffice$AppealSearch" "asker" "I") ∈ WS := q_in_tab (q_c2 (j := 233) rfl) rfl
theorem q_g0_57 : q_gd 0 (57, 0, 0, 5, 0) := ⟨⟨q_w581, True.intro⟩, True.intro⟩
theorem q_w582 : (Jvm.Cond.fieldLink "SoulOffice$AppealSearch" (60 : Nat) "SoulOffice$AppealSearch" "asked" "I") ∈ WS := q_in_tab (q_c2 (j := 234) rfl) rfl
theorem q_g0_60 : q_gd 0 (60, 0, 0, 6, 0) := ⟨⟨q_w582, True.intro⟩, True.intro⟩
theorem q_w304 : (Jvm.Cond.fieldLink "SoulOffice$AppealSearch" (63 : Nat) "SoulOffice$Rules" "places" "[I") ∈ WS := q_in_tab (q_c1 (j := 196) rfl) rfl
theorem q_g0_63 : q_gd 0 (63, 0, 8, 6, 0) := ⟨⟨q_w304, True.intro⟩, True.intro⟩
theorem q_w1167 : (Jvm.Cond.methodLink "SoulOffice$AppealSearch" (66 : Nat) ({ cls := "java/lang/System", name := "arraycopy", desc := "(Ljava/lang/Object;ILjava/lang/Object;II)V" } : Jvm.MethodName)) ∈ WS := q_in_tab (q_c5 (j := 99) rfl) rfl
theorem q_w412 : (Jvm.Cond.native ({ cls := "java/lang/System", name := "arraycopy", desc := "(Ljava/lang/Object;ILjava/lang/Object;II)V" } : Jvm.MethodName)) ∈ WS := q_in_tab (q_c2 (j := 64) rfl) rfl
theorem q_w411 : (Jvm.Cond.static ({ cls := "java/lang/System", name := "arraycopy", desc := "(Ljava/lang/Object;ILjava/lang/Object;II)V" } : Jvm.MethodName)) ∈ WS := q_in_tab (q_c2 (j := 63) rfl) rfl
theorem q_w117 : (Jvm.Cond.initialized "java/lang/System") ∈ WS := q_in_tab (q_c1 (j := 9) rfl) rfl
theorem q_g0_66 : q_gd 0 (66, 10, 0, 0, 0) := ⟨⟨q_w1167, ⟨q_w412, ⟨q_w411, ⟨q_w117, True.intro⟩⟩⟩⟩, True.intro⟩
theorem q_w1168 : (Jvm.Cond.methodLink "SoulOffice$AppealSearch" (72 : Nat) ({ cls := "SoulOffice$AppealSearch", name := "choose", desc := "(II)Z" } : Jvm.MethodName)) ∈ WS := q_in_tab (q_c5 (j := 100) rfl) rfl
theorem q_w1170 : (Jvm.Cond.instanceMethod ({ cls := "SoulOffice$AppealSearch", name := "choose", desc := "(II)Z" } : Jvm.MethodName)) ∈ WS := q_in_tab (q_c5 (j := 102) rfl) rfl
theorem q_w29 : Cond.selects "SoulOffice$AppealSearch" (⟨"SoulOffice$AppealSearch", "choose", "(II)Z"⟩ : MethodName) (⟨"SoulOffice$AppealSearch", "choose", "(II)Z"⟩ : MethodName) ∈ WS := q_in_prv (q := ((⟨"SoulOffice$AppealSearch", "choose", "(II)Z"⟩ : MethodName), 7)) (q_v2 (j := 13) rfl) rfl
theorem q_w1171 : (Jvm.Cond.code ({ cls := "SoulOffice$AppealSearch", name := "choose", desc := "(II)Z" } : Jvm.MethodName) prog_2_method_5_code (4 : Nat) (Option.some Jvm.ClassFile.FieldType.boolean)) ∈ WS := q_in_tab (q_c5 (j := 103) rfl) rfl
theorem q_g0_72 : q_gd 0 (72, 1, 4, 0, 0) := ⟨⟨q_w1168, ⟨q_w1170, ⟨q_w29, ⟨q_w123, ⟨q_w1171, True.intro⟩⟩⟩⟩⟩, True.intro⟩
theorem q_w1172 : (Jvm.Cond.methodLink "SoulOffice$AppealSearch" (75 : Nat) ({ cls := "SoulOffice$AppealSearch", name := "goOnWith", desc := "(III)Z" } : Jvm.MethodName)) ∈ WS := q_in_tab (q_c5 (j := 104) rfl) rfl
theorem q_w1174 : (Jvm.Cond.instanceMethod ({ cls := "SoulOffice$AppealSearch", name := "goOnWith", desc := "(III)Z" } : Jvm.MethodName)) ∈ WS := q_in_tab (q_c5 (j := 106) rfl) rfl
theorem q_w30 : Cond.selects "SoulOffice$AppealSearch" (⟨"SoulOffice$AppealSearch", "goOnWith", "(III)Z"⟩ : MethodName) (⟨"SoulOffice$AppealSearch", "goOnWith", "(III)Z"⟩ : MethodName) ∈ WS := q_in_prv (q := ((⟨"SoulOffice$AppealSearch", "goOnWith", "(III)Z"⟩ : MethodName), 7)) (q_v2 (j := 14) rfl) rfl
theorem q_w1175 : (Jvm.Cond.code ({ cls := "SoulOffice$AppealSearch", name := "goOnWith", desc := "(III)Z" } : Jvm.MethodName) prog_2_method_7_code (4 : Nat) (Option.some Jvm.ClassFile.FieldType.boolean)) ∈ WS := q_in_tab (q_c5 (j := 107) rfl) rfl
theorem q_g0_75 : q_gd 0 (75, 1, 268, 0, 0) := ⟨⟨q_w1172, ⟨q_w1174, ⟨q_w30, ⟨q_w123, ⟨q_w1175, True.intro⟩⟩⟩⟩⟩, True.intro⟩
theorem q_w1176 : (Jvm.Cond.methodLink "SoulOffice$AppealSearch" (79 : Nat) ({ cls := "SoulOffice$AppealSearch", name := "chooseAs", desc := "(III)Z" } : Jvm.MethodName)) ∈ WS := q_in_tab (q_c5 (j := 108) rfl) rfl
theorem q_w1178 : (Jvm.Cond.instanceMethod ({ cls := "SoulOffice$AppealSearch", name := "chooseAs", desc := "(III)Z" } : Jvm.MethodName)) ∈ WS := q_in_tab (q_c5 (j := 110) rfl) rfl
theorem q_w31 : Cond.selects "SoulOffice$AppealSearch" (⟨"SoulOffice$AppealSearch", "chooseAs", "(III)Z"⟩ : MethodName) (⟨"SoulOffice$AppealSearch", "chooseAs", "(III)Z"⟩ : MethodName) ∈ WS := q_in_prv (q := ((⟨"SoulOffice$AppealSearch", "chooseAs", "(III)Z"⟩ : MethodName), 7)) (q_v2 (j := 15) rfl) rfl
theorem q_w1179 : (Jvm.Cond.code ({ cls := "SoulOffice$AppealSearch", name := "chooseAs", desc := "(III)Z" } : Jvm.MethodName) prog_2_method_6_code (5 : Nat) (Option.some Jvm.ClassFile.FieldType.boolean)) ∈ WS := q_in_tab (q_c5 (j := 111) rfl) rfl
theorem q_g0_79 : q_gd 0 (79, 1, 5, 0, 0) := ⟨⟨q_w1176, ⟨q_w1178, ⟨q_w31, ⟨q_w123, ⟨q_w1179, True.intro⟩⟩⟩⟩⟩, True.intro⟩
theorem q_w1184 : (Jvm.Cond.methodLink "SoulOffice$AppealSearch" (82 : Nat) ({ cls := "SoulOffice$Life", name := "become", desc := "(II)V" } : Jvm.MethodName)) ∈ WS := q_in_tab (q_c5 (j := 116) rfl) rfl
theorem q_w912 : (Jvm.Cond.instanceMethod ({ cls := "SoulOffice$Life", name := "become", desc := "(II)V" } : Jvm.MethodName)) ∈ WS := q_in_tab (q_c4 (j := 84) rfl) rfl
theorem q_w913 : (Jvm.Cond.selects "SoulOffice$Life" ({ cls := "SoulOffice$Life", name := "become", desc := "(II)V" } : Jvm.MethodName) ({ cls := "SoulOffice$Life", name := "become", desc := "(II)V" } : Jvm.MethodName)) ∈ WS := q_in_tab (q_c4 (j := 85) rfl) rfl
theorem q_w116 : (Jvm.Cond.initialized "SoulOffice$Life") ∈ WS := q_in_tab (q_c1 (j := 8) rfl) rfl
theorem q_w914 : (Jvm.Cond.code ({ cls := "SoulOffice$Life", name := "become", desc := "(II)V" } : Jvm.MethodName) prog_6_method_13_code (3 : Nat) (Option.none : Option Jvm.ClassFile.FieldType)) ∈ WS := q_in_tab (q_c4 (j := 86) rfl) rfl
theorem q_g0_82 : q_gd 0 (82, 1, 31, 0, 0) := ⟨⟨q_w1184, ⟨q_w912, ⟨q_w913, ⟨q_w116, ⟨q_w914, True.intro⟩⟩⟩⟩⟩, True.intro⟩
theorem q_w486 : (Jvm.Cond.methodLink "SoulOffice$Book" (3 : Nat) ({ cls := "java/lang/Object", name := "<init>", desc := "()V" } : Jvm.MethodName)) ∈ WS := q_in_tab (q_c2 (j := 138) rfl) rfl
theorem q_g1_3 : q_gd 1 (3, 11, 0, 0, 0) := ⟨⟨q_w486, ⟨q_w139, ⟨q_w140, True.intro⟩⟩⟩, True.intro⟩
theorem q_w490 : (Jvm.Cond.fieldLink "SoulOffice$Book" (9 : Nat) "SoulOffice$Book" "act" "[I") ∈ WS := q_in_tab (q_c2 (j := 142) rfl) rfl
theorem q_g1_9 : q_gd 1 (9, 0, 1, 3, 0) := ⟨⟨q_w490, True.intro⟩, True.intro⟩
theorem q_w491 : (Jvm.Cond.fieldLink "SoulOffice$Book" (15 : Nat) "SoulOffice$Book" "who" "[I") ∈ WS := q_in_tab (q_c2 (j := 143) rfl) rfl
theorem q_g1_15 : q_gd 1 (15, 0, 1, 4, 0) := ⟨⟨q_w491, True.intro⟩, True.intro⟩
theorem q_w492 : (Jvm.Cond.fieldLink "SoulOffice$Book" (18 : Nat) "SoulOffice$Book" "what" "[I") ∈ WS := q_in_tab (q_c2 (j := 144) rfl) rfl
theorem q_g1_18 : q_gd 1 (18, 0, 1, 5, 0) := ⟨⟨q_w492, True.intro⟩, True.intro⟩
theorem q_w487 : (Jvm.Cond.fieldLink "SoulOffice$Book" (21 : Nat) "SoulOffice$Book" "tape" "LSoulOffice$Tape;") ∈ WS := q_in_tab (q_c2 (j := 139) rfl) rfl
theorem q_g1_21 : q_gd 1 (21, 0, 1, 0, 0) := ⟨⟨q_w487, True.intro⟩, True.intro⟩
theorem q_w488 : (Jvm.Cond.fieldLink "SoulOffice$Book" (25 : Nat) "SoulOffice$Book" "rules" "LSoulOffice$Rules;") ∈ WS := q_in_tab (q_c2 (j := 140) rfl) rfl
theorem q_g1_25 : q_gd 1 (25, 0, 1, 1, 0) := ⟨⟨q_w488, True.intro⟩, True.intro⟩
theorem q_w489 : (Jvm.Cond.fieldLink "SoulOffice$Book" (29 : Nat) "SoulOffice$Book" "lines" "I") ∈ WS := q_in_tab (q_c2 (j := 141) rfl) rfl
theorem q_g1_29 : q_gd 1 (29, 0, 1, 2, 0) := ⟨⟨q_w489, True.intro⟩, True.intro⟩
theorem q_w869 : (Jvm.Cond.methodLink "SoulOffice$Book" (33 : Nat) ({ cls := "SoulOffice$Tape", name := "beginReading", desc := "(I)V" } : Jvm.MethodName)) ∈ WS := q_in_tab (q_c4 (j := 41) rfl) rfl
theorem q_w722 : (Jvm.Cond.instanceMethod ({ cls := "SoulOffice$Tape", name := "beginReading", desc := "(I)V" } : Jvm.MethodName)) ∈ WS := q_in_tab (q_c3 (j := 134) rfl) rfl
theorem q_w723 : (Jvm.Cond.selects "SoulOffice$Tape" ({ cls := "SoulOffice$Tape", name := "beginReading", desc := "(I)V" } : Jvm.MethodName) ({ cls := "SoulOffice$Tape", name := "beginReading", desc := "(I)V" } : Jvm.MethodName)) ∈ WS := q_in_tab (q_c3 (j := 135) rfl) rfl
theorem q_w110 : (Jvm.Cond.initialized "SoulOffice$Tape") ∈ WS := q_in_tab (q_c1 (j := 2) rfl) rfl
theorem q_w724 : (Jvm.Cond.code ({ cls := "SoulOffice$Tape", name := "beginReading", desc := "(I)V" } : Jvm.MethodName) prog_12_method_3_code (6 : Nat) (Option.none : Option Jvm.ClassFile.FieldType)) ∈ WS := q_in_tab (q_c3 (j := 136) rfl) rfl
theorem q_g1_33 : q_gd 1 (33, 1, 95, 0, 0) := ⟨⟨q_w869, ⟨q_w722, ⟨q_w723, ⟨q_w110, ⟨q_w724, True.intro⟩⟩⟩⟩⟩, True.intro⟩
theorem q_w215 : (Jvm.Cond.fieldLink "SoulOffice$Book" (39 : Nat) "SoulOffice$Tape" "sort" "I") ∈ WS := q_in_tab (q_c1 (j := 107) rfl) rfl
theorem q_g1_39 : q_gd 1 (39, 0, 10, 10, 0) := ⟨⟨q_w215, True.intro⟩, True.intro⟩
theorem q_w870 : (Jvm.Cond.methodLink "SoulOffice$Book" (42 : Nat) ({ cls := "SoulOffice$Tape", name := "endsHere", desc := "()Z" } : Jvm.MethodName)) ∈ WS := q_in_tab (q_c4 (j := 42) rfl) rfl
theorem q_w751 : (Jvm.Cond.instanceMethod ({ cls := "SoulOffice$Tape", name := "endsHere", desc := "()Z" } : Jvm.MethodName)) ∈ WS := q_in_tab (q_c3 (j := 163) rfl) rfl
theorem q_w752 : (Jvm.Cond.selects "SoulOffice$Tape" ({ cls := "SoulOffice$Tape", name := "endsHere", desc := "()Z" } : Jvm.MethodName) ({ cls := "SoulOffice$Tape", name := "endsHere", desc := "()Z" } : Jvm.MethodName)) ∈ WS := q_in_tab (q_c3 (j := 164) rfl) rfl
theorem q_w753 : (Jvm.Cond.code ({ cls := "SoulOffice$Tape", name := "endsHere", desc := "()Z" } : Jvm.MethodName) prog_12_method_8_code (1 : Nat) (Option.some Jvm.ClassFile.FieldType.boolean)) ∈ WS := q_in_tab (q_c3 (j := 165) rfl) rfl
theorem q_g1_42 : q_gd 1 (42, 1, 100, 0, 0) := ⟨⟨q_w870, ⟨q_w751, ⟨q_w752, ⟨q_w110, ⟨q_w753, True.intro⟩⟩⟩⟩⟩, True.intro⟩
theorem q_w871 : (Jvm.Cond.methodLink "SoulOffice$Book" (46 : Nat) ({ cls := "SoulOffice$Book", name := "readLine", desc := "()Z" } : Jvm.MethodName)) ∈ WS := q_in_tab (q_c4 (j := 43) rfl) rfl
theorem q_w873 : (Jvm.Cond.instanceMethod ({ cls := "SoulOffice$Book", name := "readLine", desc := "()Z" } : Jvm.MethodName)) ∈ WS := q_in_tab (q_c4 (j := 45) rfl) rfl
theorem q_w12 : Cond.selects "SoulOffice$Book" (⟨"SoulOffice$Book", "readLine", "()Z"⟩ : MethodName) (⟨"SoulOffice$Book", "readLine", "()Z"⟩ : MethodName) ∈ WS := q_in_prv (q := ((⟨"SoulOffice$Book", "readLine", "()Z"⟩ : MethodName), 11)) (q_v1 (j := 12) rfl) rfl
theorem q_w121 : (Jvm.Cond.initialized "SoulOffice$Book") ∈ WS := q_in_tab (q_c1 (j := 13) rfl) rfl
theorem q_w874 : (Jvm.Cond.code ({ cls := "SoulOffice$Book", name := "readLine", desc := "()Z" } : Jvm.MethodName) prog_3_method_3_code (4 : Nat) (Option.some Jvm.ClassFile.FieldType.boolean)) ∈ WS := q_in_tab (q_c4 (j := 46) rfl) rfl
theorem q_g1_46 : q_gd 1 (46, 1, 9, 0, 0) := ⟨⟨q_w871, ⟨q_w873, ⟨q_w12, ⟨q_w121, ⟨q_w874, True.intro⟩⟩⟩⟩⟩, True.intro⟩
theorem q_w889 : (Jvm.Cond.methodLink "SoulOffice$Book" (49 : Nat) ({ cls := "SoulOffice$Tape", name := "takeSign", desc := "(C)Z" } : Jvm.MethodName)) ∈ WS := q_in_tab (q_c4 (j := 61) rfl) rfl
theorem q_w840 : (Jvm.Cond.instanceMethod ({ cls := "SoulOffice$Tape", name := "takeSign", desc := "(C)Z" } : Jvm.MethodName)) ∈ WS := q_in_tab (q_c4 (j := 12) rfl) rfl
theorem q_w841 : (Jvm.Cond.selects "SoulOffice$Tape" ({ cls := "SoulOffice$Tape", name := "takeSign", desc := "(C)Z" } : Jvm.MethodName) ({ cls := "SoulOffice$Tape", name := "takeSign", desc := "(C)Z" } : Jvm.MethodName)) ∈ WS := q_in_tab (q_c4 (j := 13) rfl) rfl
theorem q_w842 : (Jvm.Cond.code ({ cls := "SoulOffice$Tape", name := "takeSign", desc := "(C)Z" } : Jvm.MethodName) prog_12_method_11_code (2 : Nat) (Option.some Jvm.ClassFile.FieldType.boolean)) ∈ WS := q_in_tab (q_c4 (j := 14) rfl) rfl
theorem q_g1_49 : q_gd 1 (49, 1, 103, 0, 0) := ⟨⟨q_w889, ⟨q_w840, ⟨q_w841, ⟨q_w110, ⟨q_w842, True.intro⟩⟩⟩⟩⟩, True.intro⟩
theorem q_w875 : (Jvm.Cond.methodLink "SoulOffice$Book" (53 : Nat) ({ cls := "SoulOffice$Tape", name := "isKey", desc := "(I)Z" } : Jvm.MethodName)) ∈ WS := q_in_tab (q_c4 (j := 47) rfl) rfl
theorem q_w876 : (Jvm.Cond.instanceMethod ({ cls := "SoulOffice$Tape", name := "isKey", desc := "(I)Z" } : Jvm.MethodName)) ∈ WS := q_in_tab (q_c4 (j := 48) rfl) rfl
theorem q_w877 : (Jvm.Cond.selects "SoulOffice$Tape" ({ cls := "SoulOffice$Tape", name := "isKey", desc := "(I)Z" } : Jvm.MethodName) ({ cls := "SoulOffice$Tape", name := "isKey", desc := "(I)Z" } : Jvm.MethodName)) ∈ WS := q_in_tab (q_c4 (j := 49) rfl) rfl
theorem q_w878 : (Jvm.Cond.code ({ cls := "SoulOffice$Tape", name := "isKey", desc := "(I)Z" } : Jvm.MethodName) prog_12_method_9_code (2 : Nat) (Option.some Jvm.ClassFile.FieldType.boolean)) ∈ WS := q_in_tab (q_c4 (j := 50) rfl) rfl
theorem q_g1_53 : q_gd 1 (53, 1, 101, 0, 0) := ⟨⟨q_w875, ⟨q_w876, ⟨q_w877, ⟨q_w110, ⟨q_w878, True.intro⟩⟩⟩⟩⟩, True.intro⟩
theorem q_w295 : (Jvm.Cond.fieldLink "SoulOffice$Book" (57 : Nat) "SoulOffice$Rules" "soulNames" "[J") ∈ WS := q_in_tab (q_c1 (j := 187) rfl) rfl
theorem q_g1_57 : q_gd 1 (57, 0, 8, 4, 0) := ⟨⟨q_w295, True.intro⟩, True.intro⟩
theorem q_w279 : (Jvm.Cond.fieldLink "SoulOffice$Book" (63 : Nat) "SoulOffice$Rules" "souls" "I") ∈ WS := q_in_tab (q_c1 (j := 171) rfl) rfl
theorem q_g1_63 : q_gd 1 (63, 0, 8, 1, 0) := ⟨⟨q_w279, True.intro⟩, True.intro⟩
theorem q_w879 : (Jvm.Cond.methodLink "SoulOffice$Book" (66 : Nat) ({ cls := "SoulOffice$Tape", name := "nameHere", desc := "([JI)I" } : Jvm.MethodName)) ∈ WS := q_in_tab (q_c4 (j := 51) rfl) rfl
theorem q_w797 : (Jvm.Cond.instanceMethod ({ cls := "SoulOffice$Tape", name := "nameHere", desc := "([JI)I" } : Jvm.MethodName)) ∈ WS := q_in_tab (q_c3 (j := 209) rfl) rfl
theorem q_w798 : (Jvm.Cond.selects "SoulOffice$Tape" ({ cls := "SoulOffice$Tape", name := "nameHere", desc := "([JI)I" } : Jvm.MethodName) ({ cls := "SoulOffice$Tape", name := "nameHere", desc := "([JI)I" } : Jvm.MethodName)) ∈ WS := q_in_tab (q_c3 (j := 210) rfl) rfl
theorem q_w799 : (Jvm.Cond.code ({ cls := "SoulOffice$Tape", name := "nameHere", desc := "([JI)I" } : Jvm.MethodName) prog_12_method_14_code (4 : Nat) (Option.some Jvm.ClassFile.FieldType.int)) ∈ WS := q_in_tab (q_c3 (j := 211) rfl) rfl
theorem q_g1_66 : q_gd 1 (66, 1, 106, 0, 0) := ⟨⟨q_w879, ⟨q_w797, ⟨q_w798, ⟨q_w110, ⟨q_w799, True.intro⟩⟩⟩⟩⟩, True.intro⟩
theorem q_w880 : (Jvm.Cond.methodLink "SoulOffice$Book" (70 : Nat) ({ cls := "SoulOffice$Tape", name := "refuse", desc := "(I)Z" } : Jvm.MethodName)) ∈ WS := q_in_tab (q_c4 (j := 52) rfl) rfl
theorem q_w755 : (Jvm.Cond.instanceMethod ({ cls := "SoulOffice$Tape", name := "refuse", desc := "(I)Z" } : Jvm.MethodName)) ∈ WS := q_in_tab (q_c3 (j := 167) rfl) rfl
theorem q_w756 : (Jvm.Cond.selects "SoulOffice$Tape" ({ cls := "SoulOffice$Tape", name := "refuse", desc := "(I)Z" } : Jvm.MethodName) ({ cls := "SoulOffice$Tape", name := "refuse", desc := "(I)Z" } : Jvm.MethodName)) ∈ WS := q_in_tab (q_c3 (j := 168) rfl) rfl
theorem q_w757 : (Jvm.Cond.code ({ cls := "SoulOffice$Tape", name := "refuse", desc := "(I)Z" } : Jvm.MethodName) prog_12_method_7_code (2 : Nat) (Option.some Jvm.ClassFile.FieldType.boolean)) ∈ WS := q_in_tab (q_c3 (j := 169) rfl) rfl
theorem q_g1_70 : q_gd 1 (70, 1, 99, 0, 0) := ⟨⟨q_w880, ⟨q_w755, ⟨q_w756, ⟨q_w110, ⟨q_w757, True.intro⟩⟩⟩⟩⟩, True.intro⟩
theorem q_w881 : (Jvm.Cond.methodLink "SoulOffice$Book" (73 : Nat) ({ cls := "SoulOffice$Tape", name := "advance", desc := "()V" } : Jvm.MethodName)) ∈ WS := q_in_tab (q_c4 (j := 53) rfl) rfl
theorem q_w747 : (Jvm.Cond.instanceMethod ({ cls := "SoulOffice$Tape", name := "advance", desc := "()V" } : Jvm.MethodName)) ∈ WS := q_in_tab (q_c3 (j := 159) rfl) rfl
theorem q_w748 : (Jvm.Cond.selects "SoulOffice$Tape" ({ cls := "SoulOffice$Tape", name := "advance", desc := "()V" } : Jvm.MethodName) ({ cls := "SoulOffice$Tape", name := "advance", desc := "()V" } : Jvm.MethodName)) ∈ WS := q_in_tab (q_c3 (j := 160) rfl) rfl
theorem q_w749 : (Jvm.Cond.code ({ cls := "SoulOffice$Tape", name := "advance", desc := "()V" } : Jvm.MethodName) prog_12_method_6_code (1 : Nat) (Option.none : Option Jvm.ClassFile.FieldType)) ∈ WS := q_in_tab (q_c3 (j := 161) rfl) rfl
theorem q_g1_73 : q_gd 1 (73, 1, 98, 0, 0) := ⟨⟨q_w881, ⟨q_w747, ⟨q_w748, ⟨q_w110, ⟨q_w749, True.intro⟩⟩⟩⟩⟩, True.intro⟩
theorem q_w882 : (Jvm.Cond.methodLink "SoulOffice$Book" (76 : Nat) ({ cls := "SoulOffice$Tape", name := "takeKey", desc := "(I)Z" } : Jvm.MethodName)) ∈ WS := q_in_tab (q_c4 (j := 54) rfl) rfl
theorem q_w883 : (Jvm.Cond.instanceMethod ({ cls := "SoulOffice$Tape", name := "takeKey", desc := "(I)Z" } : Jvm.MethodName)) ∈ WS := q_in_tab (q_c4 (j := 55) rfl) rfl
theorem q_w884 : (Jvm.Cond.selects "SoulOffice$Tape" ({ cls := "SoulOffice$Tape", name := "takeKey", desc := "(I)Z" } : Jvm.MethodName) ({ cls := "SoulOffice$Tape", name := "takeKey", desc := "(I)Z" } : Jvm.MethodName)) ∈ WS := q_in_tab (q_c4 (j := 56) rfl) rfl
theorem q_w885 : (Jvm.Cond.code ({ cls := "SoulOffice$Tape", name := "takeKey", desc := "(I)Z" } : Jvm.MethodName) prog_12_method_12_code (2 : Nat) (Option.some Jvm.ClassFile.FieldType.boolean)) ∈ WS := q_in_tab (q_c4 (j := 57) rfl) rfl
theorem q_g1_76 : q_gd 1 (76, 1, 104, 0, 0) := ⟨⟨q_w882, ⟨q_w883, ⟨q_w884, ⟨q_w110, ⟨q_w885, True.intro⟩⟩⟩⟩⟩, True.intro⟩
theorem q_w291 : (Jvm.Cond.fieldLink "SoulOffice$Book" (79 : Nat) "SoulOffice$Rules" "kindNames" "[J") ∈ WS := q_in_tab (q_c1 (j := 183) rfl) rfl
theorem q_g1_79 : q_gd 1 (79, 0, 8, 3, 0) := ⟨⟨q_w291, True.intro⟩, True.intro⟩
theorem q_w270 : (Jvm.Cond.fieldLink "SoulOffice$Book" (82 : Nat) "SoulOffice$Rules" "kinds" "I") ∈ WS := q_in_tab (q_c1 (j := 162) rfl) rfl
theorem q_g1_82 : q_gd 1 (82, 0, 8, 0, 0) := ⟨⟨q_w270, True.intro⟩, True.intro⟩
theorem q_w887 : (Jvm.Cond.methodLink "SoulOffice$Book" (85 : Nat) ({ cls := "SoulOffice$Tape", name := "takeName", desc := "([JI)I" } : Jvm.MethodName)) ∈ WS := q_in_tab (q_c4 (j := 59) rfl) rfl
theorem q_w793 : (Jvm.Cond.instanceMethod ({ cls := "SoulOffice$Tape", name := "takeName", desc := "([JI)I" } : Jvm.MethodName)) ∈ WS := q_in_tab (q_c3 (j := 205) rfl) rfl
theorem q_w794 : (Jvm.Cond.selects "SoulOffice$Tape" ({ cls := "SoulOffice$Tape", name := "takeName", desc := "([JI)I" } : Jvm.MethodName) ({ cls := "SoulOffice$Tape", name := "takeName", desc := "([JI)I" } : Jvm.MethodName)) ∈ WS := q_in_tab (q_c3 (j := 206) rfl) rfl
theorem q_w795 : (Jvm.Cond.code ({ cls := "SoulOffice$Tape", name := "takeName", desc := "([JI)I" } : Jvm.MethodName) prog_12_method_15_code (4 : Nat) (Option.some Jvm.ClassFile.FieldType.int)) ∈ WS := q_in_tab (q_c3 (j := 207) rfl) rfl
theorem q_g1_85 : q_gd 1 (85, 1, 107, 0, 0) := ⟨⟨q_w887, ⟨q_w793, ⟨q_w794, ⟨q_w110, ⟨q_w795, True.intro⟩⟩⟩⟩⟩, True.intro⟩
theorem q_w888 : (Jvm.Cond.methodLink "SoulOffice$Book" (88 : Nat) ({ cls := "SoulOffice$Tape", name := "takeNumber", desc := "(II)I" } : Jvm.MethodName)) ∈ WS := q_in_tab (q_c4 (j := 60) rfl) rfl
theorem q_w781 : (Jvm.Cond.instanceMethod ({ cls := "SoulOffice$Tape", name := "takeNumber", desc := "(II)I" } : Jvm.MethodName)) ∈ WS := q_in_tab (q_c3 (j := 193) rfl) rfl
theorem q_w782 : (Jvm.Cond.selects "SoulOffice$Tape" ({ cls := "SoulOffice$Tape", name := "takeNumber", desc := "(II)I" } : Jvm.MethodName) ({ cls := "SoulOffice$Tape", name := "takeNumber", desc := "(II)I" } : Jvm.MethodName)) ∈ WS := q_in_tab (q_c3 (j := 194) rfl) rfl
theorem q_w783 : (Jvm.Cond.code ({ cls := "SoulOffice$Tape", name := "takeNumber", desc := "(II)I" } : Jvm.MethodName) prog_12_method_13_code (4 : Nat) (Option.some Jvm.ClassFile.FieldType.int)) ∈ WS := q_in_tab (q_c3 (j := 195) rfl) rfl
theorem q_g1_88 : q_gd 1 (88, 1, 105, 0, 0) := ⟨⟨q_w888, ⟨q_w781, ⟨q_w782, ⟨q_w110, ⟨q_w783, True.intro⟩⟩⟩⟩⟩, True.intro⟩
theorem q_w354 : (Jvm.Cond.fieldLink "SoulOffice$Book" (92 : Nat) "SoulOffice$Life" "settledSum" "I") ∈ WS := q_in_tab (q_c2 (j := 6) rfl) rfl
theorem q_g1_92 : q_gd 1 (92, 0, 4, 2, 0) := ⟨⟨q_w354, True.intro⟩, True.intro⟩
theorem q_w493 : (Jvm.Cond.fieldLink "SoulOffice$Book" (97 : Nat) "SoulOffice$Book" "told" "Z") ∈ WS := q_in_tab (q_c2 (j := 145) rfl) rfl
theorem q_g1_97 : q_gd 1 (97, 0, 1, 6, 0) := ⟨⟨q_w493, True.intro⟩, True.intro⟩
theorem q_w495 : (Jvm.Cond.fieldLink "SoulOffice$Book" (101 : Nat) "SoulOffice$Book" "wrong" "I") ∈ WS := q_in_tab (q_c2 (j := 147) rfl) rfl
theorem q_g1_101 : q_gd 1 (101, 0, 1, 7, 0) := ⟨⟨q_w495, True.intro⟩, True.intro⟩
theorem q_w497 : (Jvm.Cond.fieldLink "SoulOffice$Book" (104 : Nat) "SoulOffice$Book" "ahead" "I") ∈ WS := q_in_tab (q_c2 (j := 149) rfl) rfl
theorem q_g1_104 : q_gd 1 (104, 0, 1, 8, 0) := ⟨⟨q_w497, True.intro⟩, True.intro⟩
theorem q_w898 : (Jvm.Cond.methodLink "SoulOffice$Book" (107 : Nat) ({ cls := "SoulOffice$Book", name := "runLine", desc := "(LSoulOffice$Life;I)I" } : Jvm.MethodName)) ∈ WS := q_in_tab (q_c4 (j := 70) rfl) rfl
theorem q_w900 : (Jvm.Cond.instanceMethod ({ cls := "SoulOffice$Book", name := "runLine", desc := "(LSoulOffice$Life;I)I" } : Jvm.MethodName)) ∈ WS := q_in_tab (q_c4 (j := 72) rfl) rfl
theorem q_w13 : Cond.selects "SoulOffice$Book" (⟨"SoulOffice$Book", "runLine", "(LSoulOffice$Life;I)I"⟩ : MethodName) (⟨"SoulOffice$Book", "runLine", "(LSoulOffice$Life;I)I"⟩ : MethodName) ∈ WS := q_in_prv (q := ((⟨"SoulOffice$Book", "runLine", "(LSoulOffice$Life;I)I"⟩ : MethodName), 11)) (q_v1 (j := 13) rfl) rfl
theorem q_w901 : (Jvm.Cond.code ({ cls := "SoulOffice$Book", name := "runLine", desc := "(LSoulOffice$Life;I)I" } : Jvm.MethodName) prog_3_method_5_code (4 : Nat) (Option.some Jvm.ClassFile.FieldType.int)) ∈ WS := q_in_tab (q_c4 (j := 73) rfl) rfl
theorem q_g1_107 : q_gd 1 (107, 1, 11, 0, 0) := ⟨⟨q_w898, ⟨q_w900, ⟨q_w13, ⟨q_w121, ⟨q_w901, True.intro⟩⟩⟩⟩⟩, True.intro⟩
theorem q_w499 : (Jvm.Cond.fieldLink "SoulOffice$Book" (111 : Nat) "SoulOffice$Book" "settledInIt" "I") ∈ WS := q_in_tab (q_c2 (j := 151) rfl) rfl
theorem q_g1_111 : q_gd 1 (111, 0, 1, 9, 0) := ⟨⟨q_w499, True.intro⟩, True.intro⟩
theorem q_w956 : (Jvm.Cond.methodLink "SoulOffice$Book" (114 : Nat) ({ cls := "SoulOffice$Life", name := "allDebts", desc := "()I" } : Jvm.MethodName)) ∈ WS := q_in_tab (q_c4 (j := 128) rfl) rfl
theorem q_w957 : (Jvm.Cond.instanceMethod ({ cls := "SoulOffice$Life", name := "allDebts", desc := "()I" } : Jvm.MethodName)) ∈ WS := q_in_tab (q_c4 (j := 129) rfl) rfl
theorem q_w958 : (Jvm.Cond.selects "SoulOffice$Life" ({ cls := "SoulOffice$Life", name := "allDebts", desc := "()I" } : Jvm.MethodName) ({ cls := "SoulOffice$Life", name := "allDebts", desc := "()I" } : Jvm.MethodName)) ∈ WS := q_in_tab (q_c4 (j := 130) rfl) rfl
theorem q_w959 : (Jvm.Cond.code ({ cls := "SoulOffice$Life", name := "allDebts", desc := "()I" } : Jvm.MethodName) prog_6_method_6_code (3 : Nat) (Option.some Jvm.ClassFile.FieldType.int)) ∈ WS := q_in_tab (q_c4 (j := 131) rfl) rfl
theorem q_g1_114 : q_gd 1 (114, 1, 24, 0, 0) := ⟨⟨q_w956, ⟨q_w957, ⟨q_w958, ⟨q_w116, ⟨q_w959, True.intro⟩⟩⟩⟩⟩, True.intro⟩
theorem q_w501 : (Jvm.Cond.fieldLink "SoulOffice$Book" (118 : Nat) "SoulOffice$Book" "debtsThen" "I") ∈ WS := q_in_tab (q_c2 (j := 153) rfl) rfl
theorem q_g1_118 : q_gd 1 (118, 0, 1, 10, 0) := ⟨⟨q_w501, True.intro⟩, True.intro⟩
theorem q_w902 : (Jvm.Cond.methodLink "SoulOffice$Book" (121 : Nat) ({ cls := "SoulOffice$Life", name := "whyNot", desc := "(II)I" } : Jvm.MethodName)) ∈ WS := q_in_tab (q_c4 (j := 74) rfl) rfl
theorem q_w903 : (Jvm.Cond.instanceMethod ({ cls := "SoulOffice$Life", name := "whyNot", desc := "(II)I" } : Jvm.MethodName)) ∈ WS := q_in_tab (q_c4 (j := 75) rfl) rfl
theorem q_w904 : (Jvm.Cond.selects "SoulOffice$Life" ({ cls := "SoulOffice$Life", name := "whyNot", desc := "(II)I" } : Jvm.MethodName) ({ cls := "SoulOffice$Life", name := "whyNot", desc := "(II)I" } : Jvm.MethodName)) ∈ WS := q_in_tab (q_c4 (j := 76) rfl) rfl
theorem q_w905 : (Jvm.Cond.code ({ cls := "SoulOffice$Life", name := "whyNot", desc := "(II)I" } : Jvm.MethodName) prog_6_method_11_code (3 : Nat) (Option.some Jvm.ClassFile.FieldType.int)) ∈ WS := q_in_tab (q_c4 (j := 77) rfl) rfl
theorem q_g1_121 : q_gd 1 (121, 1, 29, 0, 0) := ⟨⟨q_w902, ⟨q_w903, ⟨q_w904, ⟨q_w116, ⟨q_w905, True.intro⟩⟩⟩⟩⟩, True.intro⟩
theorem q_w907 : (Jvm.Cond.methodLink "SoulOffice$Book" (124 : Nat) ({ cls := "SoulOffice$Life", name := "giveOut", desc := "(II)V" } : Jvm.MethodName)) ∈ WS := q_in_tab (q_c4 (j := 79) rfl) rfl
theorem q_w908 : (Jvm.Cond.instanceMethod ({ cls := "SoulOffice$Life", name := "giveOut", desc := "(II)V" } : Jvm.MethodName)) ∈ WS := q_in_tab (q_c4 (j := 80) rfl) rfl
theorem q_w909 : (Jvm.Cond.selects "SoulOffice$Life" ({ cls := "SoulOffice$Life", name := "giveOut", desc := "(II)V" } : Jvm.MethodName) ({ cls := "SoulOffice$Life", name := "giveOut", desc := "(II)V" } : Jvm.MethodName)) ∈ WS := q_in_tab (q_c4 (j := 81) rfl) rfl
theorem q_w910 : (Jvm.Cond.code ({ cls := "SoulOffice$Life", name := "giveOut", desc := "(II)V" } : Jvm.MethodName) prog_6_method_12_code (3 : Nat) (Option.none : Option Jvm.ClassFile.FieldType)) ∈ WS := q_in_tab (q_c4 (j := 82) rfl) rfl
theorem q_g1_124 : q_gd 1 (124, 1, 30, 0, 0) := ⟨⟨q_w907, ⟨q_w908, ⟨q_w909, ⟨q_w116, ⟨q_w910, True.intro⟩⟩⟩⟩⟩, True.intro⟩
theorem q_w915 : (Jvm.Cond.methodLink "SoulOffice$Book" (128 : Nat) ({ cls := "SoulOffice$Life", name := "canPass", desc := "(I)Z" } : Jvm.MethodName)) ∈ WS := q_in_tab (q_c4 (j := 87) rfl) rfl
theorem q_w916 : (Jvm.Cond.instanceMethod ({ cls := "SoulOffice$Life", name := "canPass", desc := "(I)Z" } : Jvm.MethodName)) ∈ WS := q_in_tab (q_c4 (j := 88) rfl) rfl
theorem q_w917 : (Jvm.Cond.selects "SoulOffice$Life" ({ cls := "SoulOffice$Life", name := "canPass", desc := "(I)Z" } : Jvm.MethodName) ({ cls := "SoulOffice$Life", name := "canPass", desc := "(I)Z" } : Jvm.MethodName)) ∈ WS := q_in_tab (q_c4 (j := 89) rfl) rfl
theorem q_w918 : (Jvm.Cond.code ({ cls := "SoulOffice$Life", name := "canPass", desc := "(I)Z" } : Jvm.MethodName) prog_6_method_14_code (2 : Nat) (Option.some Jvm.ClassFile.FieldType.boolean)) ∈ WS := q_in_tab (q_c4 (j := 90) rfl) rfl
theorem q_g1_128 : q_gd 1 (128, 1, 32, 0, 0) := ⟨⟨q_w915, ⟨q_w916, ⟨q_w917, ⟨q_w116, ⟨q_w918, True.intro⟩⟩⟩⟩⟩, True.intro⟩
theorem q_w919 : (Jvm.Cond.methodLink "SoulOffice$Book" (131 : Nat) ({ cls := "SoulOffice$Life", name := "passDays", desc := "(I)V" } : Jvm.MethodName)) ∈ WS := q_in_tab (q_c4 (j := 91) rfl) rfl
theorem q_w920 : (Jvm.Cond.instanceMethod ({ cls := "SoulOffice$Life", name := "passDays", desc := "(I)V" } : Jvm.MethodName)) ∈ WS := q_in_tab (q_c4 (j := 92) rfl) rfl
theorem q_w921 : (Jvm.Cond.selects "SoulOffice$Life" ({ cls := "SoulOffice$Life", name := "passDays", desc := "(I)V" } : Jvm.MethodName) ({ cls := "SoulOffice$Life", name := "passDays", desc := "(I)V" } : Jvm.MethodName)) ∈ WS := q_in_tab (q_c4 (j := 93) rfl) rfl
theorem q_w922 : (Jvm.Cond.code ({ cls := "SoulOffice$Life", name := "passDays", desc := "(I)V" } : Jvm.MethodName) prog_6_method_15_code (3 : Nat) (Option.none : Option Jvm.ClassFile.FieldType)) ∈ WS := q_in_tab (q_c4 (j := 94) rfl) rfl
theorem q_g1_131 : q_gd 1 (131, 1, 33, 0, 0) := ⟨⟨q_w919, ⟨q_w920, ⟨q_w921, ⟨q_w116, ⟨q_w922, True.intro⟩⟩⟩⟩⟩, True.intro⟩
theorem q_w942 : (Jvm.Cond.methodLink "SoulOffice$Book" (134 : Nat) ({ cls := "SoulOffice$Life", name := "passClerkDays", desc := "(I)V" } : Jvm.MethodName)) ∈ WS := q_in_tab (q_c4 (j := 114) rfl) rfl
theorem q_w943 : (Jvm.Cond.instanceMethod ({ cls := "SoulOffice$Life", name := "passClerkDays", desc := "(I)V" } : Jvm.MethodName)) ∈ WS := q_in_tab (q_c4 (j := 115) rfl) rfl
theorem q_w944 : (Jvm.Cond.selects "SoulOffice$Life" ({ cls := "SoulOffice$Life", name := "passClerkDays", desc := "(I)V" } : Jvm.MethodName) ({ cls := "SoulOffice$Life", name := "passClerkDays", desc := "(I)V" } : Jvm.MethodName)) ∈ WS := q_in_tab (q_c4 (j := 116) rfl) rfl
theorem q_w945 : (Jvm.Cond.code ({ cls := "SoulOffice$Life", name := "passClerkDays", desc := "(I)V" } : Jvm.MethodName) prog_6_method_16_code (3 : Nat) (Option.none : Option Jvm.ClassFile.FieldType)) ∈ WS := q_in_tab (q_c4 (j := 117) rfl) rfl
theorem q_g1_134 : q_gd 1 (134, 1, 34, 0, 0) := ⟨⟨q_w942, ⟨q_w943, ⟨q_w944, ⟨q_w116, ⟨q_w945, True.intro⟩⟩⟩⟩⟩, True.intro⟩
theorem q_w454 : (Jvm.Cond.methodLink "SoulOffice$History" (3 : Nat) ({ cls := "java/lang/Object", name := "<init>", desc := "()V" } : Jvm.MethodName)) ∈ WS := q_in_tab (q_c2 (j := 106) rfl) rfl
theorem q_g2_3 : q_gd 2 (3, 11, 0, 0, 0) := ⟨⟨q_w454, ⟨q_w139, ⟨q_w140, True.intro⟩⟩⟩, True.intro⟩
theorem q_w455 : (Jvm.Cond.classLink "SoulOffice$History" (9 : Nat) "SoulOffice$Life") ∈ WS := q_in_tab (q_c2 (j := 107) rfl) rfl
theorem q_w345 : (Jvm.Cond.instantiable "SoulOffice$Life" (11 : Nat)) ∈ WS := q_in_tab (q_c1 (j := 237) rfl) rfl
theorem q_g2_9 : q_gd 2 (9, 6, 4, 0, 0) := ⟨⟨q_w455, ⟨q_w345, ⟨q_w116, True.intro⟩⟩⟩, True.intro⟩
theorem q_w458 : (Jvm.Cond.fieldLink "SoulOffice$History" (11 : Nat) "SoulOffice$History" "kept" "[LSoulOffice$Life;") ∈ WS := q_in_tab (q_c2 (j := 110) rfl) rfl
theorem q_g2_11 : q_gd 2 (11, 0, 2, 0, 0) := ⟨⟨q_w458, True.intro⟩, True.intro⟩
theorem q_w457 : (Jvm.Cond.methodLink "SoulOffice$History" (17 : Nat) ({ cls := "SoulOffice$Life", name := "<init>", desc := "(LSoulOffice$Rules;)V" } : Jvm.MethodName)) ∈ WS := q_in_tab (q_c2 (j := 109) rfl) rfl
theorem q_w347 : (Jvm.Cond.instanceMethod ({ cls := "SoulOffice$Life", name := "<init>", desc := "(LSoulOffice$Rules;)V" } : Jvm.MethodName)) ∈ WS := q_in_tab (q_c1 (j := 239) rfl) rfl
theorem q_w348 : (Jvm.Cond.code ({ cls := "SoulOffice$Life", name := "<init>", desc := "(LSoulOffice$Rules;)V" } : Jvm.MethodName) prog_6_method_1_code (2 : Nat) (Option.none : Option Jvm.ClassFile.FieldType)) ∈ WS := q_in_tab (q_c2 (j := 0) rfl) rfl
theorem q_g2_17 : q_gd 2 (17, 4, 19, 0, 0) := ⟨⟨q_w457, ⟨q_w347, ⟨q_w116, ⟨q_w348, True.intro⟩⟩⟩⟩, True.intro⟩
theorem q_w459 : (Jvm.Cond.fieldLink "SoulOffice$History" (20 : Nat) "SoulOffice$History" "size" "I") ∈ WS := q_in_tab (q_c2 (j := 111) rfl) rfl
theorem q_g2_20 : q_gd 2 (20, 0, 2, 1, 0) := ⟨⟨q_w459, True.intro⟩, True.intro⟩
theorem q_w460 : (Jvm.Cond.fieldLink "SoulOffice$History" (24 : Nat) "SoulOffice$History" "next" "I") ∈ WS := q_in_tab (q_c2 (j := 112) rfl) rfl
theorem q_g2_24 : q_gd 2 (24, 0, 2, 2, 0) := ⟨⟨q_w460, True.intro⟩, True.intro⟩
theorem q_w964 : (Jvm.Cond.methodLink "SoulOffice$History" (27 : Nat) ({ cls := "SoulOffice$Life", name := "copyFrom", desc := "(LSoulOffice$Life;)V" } : Jvm.MethodName)) ∈ WS := q_in_tab (q_c4 (j := 136) rfl) rfl
theorem q_w891 : (Jvm.Cond.instanceMethod ({ cls := "SoulOffice$Life", name := "copyFrom", desc := "(LSoulOffice$Life;)V" } : Jvm.MethodName)) ∈ WS := q_in_tab (q_c4 (j := 63) rfl) rfl
theorem q_w892 : (Jvm.Cond.selects "SoulOffice$Life" ({ cls := "SoulOffice$Life", name := "copyFrom", desc := "(LSoulOffice$Life;)V" } : Jvm.MethodName) ({ cls := "SoulOffice$Life", name := "copyFrom", desc := "(LSoulOffice$Life;)V" } : Jvm.MethodName)) ∈ WS := q_in_tab (q_c4 (j := 64) rfl) rfl
theorem q_w893 : (Jvm.Cond.code ({ cls := "SoulOffice$Life", name := "copyFrom", desc := "(LSoulOffice$Life;)V" } : Jvm.MethodName) prog_6_method_3_code (2 : Nat) (Option.none : Option Jvm.ClassFile.FieldType)) ∈ WS := q_in_tab (q_c4 (j := 65) rfl) rfl
theorem q_g2_27 : q_gd 2 (27, 1, 21, 0, 0) := ⟨⟨q_w964, ⟨q_w891, ⟨q_w892, ⟨q_w116, ⟨q_w893, True.intro⟩⟩⟩⟩⟩, True.intro⟩
theorem q_w965 : (Jvm.Cond.methodLink "SoulOffice$History" (31 : Nat) ({ cls := "java/lang/Math", name := "min", desc := "(II)I" } : Jvm.MethodName)) ∈ WS := q_in_tab (q_c4 (j := 137) rfl) rfl
theorem q_w934 : (Jvm.Cond.static ({ cls := "java/lang/Math", name := "min", desc := "(II)I" } : Jvm.MethodName)) ∈ WS := q_in_tab (q_c4 (j := 106) rfl) rfl
theorem q_w127 : (Jvm.Cond.initialized "java/lang/Math") ∈ WS := q_in_tab (q_c1 (j := 19) rfl) rfl
theorem q_w935 : (Jvm.Cond.code ({ cls := "java/lang/Math", name := "min", desc := "(II)I" } : Jvm.MethodName) prog_20_method_69_code (2 : Nat) (Option.some Jvm.ClassFile.FieldType.int)) ∈ WS := q_in_tab (q_c4 (j := 107) rfl) rfl
theorem q_g2_31 : q_gd 2 (31, 16, 0, 0, 0) := ⟨⟨q_w965, ⟨q_w934, ⟨q_w127, ⟨q_w935, True.intro⟩⟩⟩⟩, True.intro⟩
theorem q_w630 : (Jvm.Cond.methodLink "SoulOffice$Image" (1 : Nat) ({ cls := "java/lang/Object", name := "<init>", desc := "()V" } : Jvm.MethodName)) ∈ WS := q_in_tab (q_c3 (j := 42) rfl) rfl
theorem q_g3_1 : q_gd 3 (1, 11, 0, 0, 0) := ⟨⟨q_w630, ⟨q_w139, ⟨q_w140, True.intro⟩⟩⟩, True.intro⟩
theorem q_w631 : (Jvm.Cond.classLink "SoulOffice$Image" (7 : Nat) "SoulOffice$Rules") ∈ WS := q_in_tab (q_c3 (j := 43) rfl) rfl
theorem q_w263 : (Jvm.Cond.instantiable "SoulOffice$Rules" (11 : Nat)) ∈ WS := q_in_tab (q_c1 (j := 155) rfl) rfl
theorem q_g3_7 : q_gd 3 (7, 6, 8, 0, 0) := ⟨⟨q_w631, ⟨q_w263, ⟨q_w115, True.intro⟩⟩⟩, True.intro⟩
theorem q_w265 : (Jvm.Cond.instanceMethod ({ cls := "SoulOffice$Rules", name := "<init>", desc := "()V" } : Jvm.MethodName)) ∈ WS := q_in_tab (q_c1 (j := 157) rfl) rfl
theorem q_w266 : (Jvm.Cond.code ({ cls := "SoulOffice$Rules", name := "<init>", desc := "()V" } : Jvm.MethodName) prog_10_method_1_code (1 : Nat) (Option.none : Option Jvm.ClassFile.FieldType)) ∈ WS := q_in_tab (q_c1 (j := 158) rfl) rfl
theorem q_w632 : (Jvm.Cond.methodLinkNest "SoulOffice$Image" (9 : Nat) ({ cls := "SoulOffice$Rules", name := "<init>", desc := "()V" } : Jvm.MethodName) "SoulOffice") ∈ q_NW := q_in_nest (q_c3 (j := 44) rfl) rfl
theorem q_g3_9 : q_gd 3 (9, 5, 69, 0, 0) := ⟨⟨q_w265, ⟨q_w115, ⟨q_w266, True.intro⟩⟩⟩, ⟨q_w632, True.intro⟩⟩
theorem q_w637 : (Jvm.Cond.fieldLink "SoulOffice$Image" (10 : Nat) "SoulOffice$Image" "rules" "LSoulOffice$Rules;") ∈ WS := q_in_tab (q_c3 (j := 49) rfl) rfl
theorem q_g3_10 : q_gd 3 (10, 0, 3, 0, 0) := ⟨⟨q_w637, True.intro⟩, True.intro⟩
theorem q_w633 : (Jvm.Cond.classLink "SoulOffice$Image" (16 : Nat) "SoulOffice$Life") ∈ WS := q_in_tab (q_c3 (j := 45) rfl) rfl
theorem q_g3_16 : q_gd 3 (16, 6, 4, 0, 0) := ⟨⟨q_w633, ⟨q_w345, ⟨q_w116, True.intro⟩⟩⟩, True.intro⟩
theorem q_w634 : (Jvm.Cond.methodLink "SoulOffice$Image" (18 : Nat) ({ cls := "SoulOffice$Life", name := "<init>", desc := "(LSoulOffice$Rules;)V" } : Jvm.MethodName)) ∈ WS := q_in_tab (q_c3 (j := 46) rfl) rfl
theorem q_g3_18 : q_gd 3 (18, 4, 19, 0, 0) := ⟨⟨q_w634, ⟨q_w347, ⟨q_w116, ⟨q_w348, True.intro⟩⟩⟩⟩, True.intro⟩
theorem q_w638 : (Jvm.Cond.fieldLink "SoulOffice$Image" (21 : Nat) "SoulOffice$Image" "life" "LSoulOffice$Life;") ∈ WS := q_in_tab (q_c3 (j := 50) rfl) rfl
theorem q_g3_21 : q_gd 3 (21, 0, 3, 1, 0) := ⟨⟨q_w638, True.intro⟩, True.intro⟩
theorem q_w635 : (Jvm.Cond.classLink "SoulOffice$Image" (25 : Nat) "SoulOffice$Sentence") ∈ WS := q_in_tab (q_c3 (j := 47) rfl) rfl
theorem q_w414 : (Jvm.Cond.instantiable "SoulOffice$Sentence" (9 : Nat)) ∈ WS := q_in_tab (q_c2 (j := 66) rfl) rfl
theorem q_w118 : (Jvm.Cond.initialized "SoulOffice$Sentence") ∈ WS := q_in_tab (q_c1 (j := 10) rfl) rfl
theorem q_g3_25 : q_gd 3 (25, 6, 9, 0, 0) := ⟨⟨q_w635, ⟨q_w414, ⟨q_w118, True.intro⟩⟩⟩, True.intro⟩
theorem q_w636 : (Jvm.Cond.methodLink "SoulOffice$Image" (27 : Nat) ({ cls := "SoulOffice$Sentence", name := "<init>", desc := "(LSoulOffice$Tape;LSoulOffice$Rules;)V" } : Jvm.MethodName)) ∈ WS := q_in_tab (q_c3 (j := 48) rfl) rfl
theorem q_w416 : (Jvm.Cond.instanceMethod ({ cls := "SoulOffice$Sentence", name := "<init>", desc := "(LSoulOffice$Tape;LSoulOffice$Rules;)V" } : Jvm.MethodName)) ∈ WS := q_in_tab (q_c2 (j := 68) rfl) rfl
theorem q_w417 : (Jvm.Cond.code ({ cls := "SoulOffice$Sentence", name := "<init>", desc := "(LSoulOffice$Tape;LSoulOffice$Rules;)V" } : Jvm.MethodName) prog_11_method_1_code (3 : Nat) (Option.none : Option Jvm.ClassFile.FieldType)) ∈ WS := q_in_tab (q_c2 (j := 69) rfl) rfl
theorem q_g3_27 : q_gd 3 (27, 4, 79, 0, 0) := ⟨⟨q_w636, ⟨q_w416, ⟨q_w118, ⟨q_w417, True.intro⟩⟩⟩⟩, True.intro⟩
theorem q_w639 : (Jvm.Cond.fieldLink "SoulOffice$Image" (30 : Nat) "SoulOffice$Image" "saying" "LSoulOffice$Sentence;") ∈ WS := q_in_tab (q_c3 (j := 51) rfl) rfl
theorem q_g3_30 : q_gd 3 (30, 0, 3, 2, 0) := ⟨⟨q_w639, True.intro⟩, True.intro⟩
theorem q_w1201 : (Jvm.Cond.methodLink "SoulOffice$Image" (34 : Nat) ({ cls := "SoulOffice$Rules", name := "copyFrom", desc := "(LSoulOffice$Rules;)V" } : Jvm.MethodName)) ∈ WS := q_in_tab (q_c5 (j := 133) rfl) rfl
theorem q_w845 : (Jvm.Cond.instanceMethod ({ cls := "SoulOffice$Rules", name := "copyFrom", desc := "(LSoulOffice$Rules;)V" } : Jvm.MethodName)) ∈ WS := q_in_tab (q_c4 (j := 17) rfl) rfl
theorem q_w846 : (Jvm.Cond.selects "SoulOffice$Rules" ({ cls := "SoulOffice$Rules", name := "copyFrom", desc := "(LSoulOffice$Rules;)V" } : Jvm.MethodName) ({ cls := "SoulOffice$Rules", name := "copyFrom", desc := "(LSoulOffice$Rules;)V" } : Jvm.MethodName)) ∈ WS := q_in_tab (q_c4 (j := 18) rfl) rfl
theorem q_w847 : (Jvm.Cond.code ({ cls := "SoulOffice$Rules", name := "copyFrom", desc := "(LSoulOffice$Rules;)V" } : Jvm.MethodName) prog_10_method_10_code (2 : Nat) (Option.none : Option Jvm.ClassFile.FieldType)) ∈ WS := q_in_tab (q_c4 (j := 19) rfl) rfl
theorem q_g3_34 : q_gd 3 (34, 1, 78, 0, 0) := ⟨⟨q_w1201, ⟨q_w845, ⟨q_w846, ⟨q_w115, ⟨q_w847, True.intro⟩⟩⟩⟩⟩, True.intro⟩
theorem q_w1202 : (Jvm.Cond.methodLink "SoulOffice$Image" (37 : Nat) ({ cls := "SoulOffice$Life", name := "copyFrom", desc := "(LSoulOffice$Life;)V" } : Jvm.MethodName)) ∈ WS := q_in_tab (q_c5 (j := 134) rfl) rfl
theorem q_g3_37 : q_gd 3 (37, 1, 21, 0, 0) := ⟨⟨q_w1202, ⟨q_w891, ⟨q_w892, ⟨q_w116, ⟨q_w893, True.intro⟩⟩⟩⟩⟩, True.intro⟩
theorem q_w1203 : (Jvm.Cond.methodLink "SoulOffice$Image" (40 : Nat) ({ cls := "SoulOffice$Sentence", name := "copyFrom", desc := "(LSoulOffice$Sentence;)V" } : Jvm.MethodName)) ∈ WS := q_in_tab (q_c5 (j := 135) rfl) rfl
theorem q_w1017 : (Jvm.Cond.instanceMethod ({ cls := "SoulOffice$Sentence", name := "copyFrom", desc := "(LSoulOffice$Sentence;)V" } : Jvm.MethodName)) ∈ WS := q_in_tab (q_c4 (j := 189) rfl) rfl
theorem q_w1018 : (Jvm.Cond.selects "SoulOffice$Sentence" ({ cls := "SoulOffice$Sentence", name := "copyFrom", desc := "(LSoulOffice$Sentence;)V" } : Jvm.MethodName) ({ cls := "SoulOffice$Sentence", name := "copyFrom", desc := "(LSoulOffice$Sentence;)V" } : Jvm.MethodName)) ∈ WS := q_in_tab (q_c4 (j := 190) rfl) rfl
theorem q_w1019 : (Jvm.Cond.code ({ cls := "SoulOffice$Sentence", name := "copyFrom", desc := "(LSoulOffice$Sentence;)V" } : Jvm.MethodName) prog_11_method_3_code (2 : Nat) (Option.none : Option Jvm.ClassFile.FieldType)) ∈ WS := q_in_tab (q_c4 (j := 191) rfl) rfl
theorem q_g3_40 : q_gd 3 (40, 1, 81, 0, 0) := ⟨⟨q_w1203, ⟨q_w1017, ⟨q_w1018, ⟨q_w118, ⟨q_w1019, True.intro⟩⟩⟩⟩⟩, True.intro⟩
theorem q_w640 : (Jvm.Cond.fieldLink "SoulOffice$Image" (43 : Nat) "SoulOffice$Image" "kept" "Z") ∈ WS := q_in_tab (q_c3 (j := 52) rfl) rfl
theorem q_g3_43 : q_gd 3 (43, 0, 3, 3, 0) := ⟨⟨q_w640, True.intro⟩, True.intro⟩
theorem q_w349 : (Jvm.Cond.methodLink "SoulOffice$Life" (3 : Nat) ({ cls := "java/lang/Object", name := "<init>", desc := "()V" } : Jvm.MethodName)) ∈ WS := q_in_tab (q_c2 (j := 1) rfl) rfl
theorem q_g4_3 : q_gd 4 (3, 11, 0, 0, 0) := ⟨⟨q_w349, ⟨q_w139, ⟨q_w140, True.intro⟩⟩⟩, True.intro⟩
theorem q_w358 : (Jvm.Cond.fieldLink "SoulOffice$Life" (9 : Nat) "SoulOffice$Life" "as" "[I") ∈ WS := q_in_tab (q_c2 (j := 10) rfl) rfl
theorem q_g4_9 : q_gd 4 (9, 0, 4, 4, 0) := ⟨⟨q_w358, True.intro⟩, True.intro⟩
theorem q_w363 : (Jvm.Cond.fieldLink "SoulOffice$Life" (15 : Nat) "SoulOffice$Life" "left" "[I") ∈ WS := q_in_tab (q_c2 (j := 15) rfl) rfl
theorem q_g4_15 : q_gd 4 (15, 0, 4, 5, 0) := ⟨⟨q_w363, True.intro⟩, True.intro⟩
theorem q_w367 : (Jvm.Cond.fieldLink "SoulOffice$Life" (18 : Nat) "SoulOffice$Life" "births" "[I") ∈ WS := q_in_tab (q_c2 (j := 19) rfl) rfl
theorem q_g4_18 : q_gd 4 (18, 0, 4, 6, 0) := ⟨⟨q_w367, True.intro⟩, True.intro⟩
theorem q_w370 : (Jvm.Cond.fieldLink "SoulOffice$Life" (21 : Nat) "SoulOffice$Life" "today" "[I") ∈ WS := q_in_tab (q_c2 (j := 22) rfl) rfl
theorem q_g4_21 : q_gd 4 (21, 0, 4, 7, 0) := ⟨⟨q_w370, True.intro⟩, True.intro⟩
theorem q_w373 : (Jvm.Cond.fieldLink "SoulOffice$Life" (24 : Nat) "SoulOffice$Life" "free" "[I") ∈ WS := q_in_tab (q_c2 (j := 25) rfl) rfl
theorem q_g4_24 : q_gd 4 (24, 0, 4, 8, 0) := ⟨⟨q_w373, True.intro⟩, True.intro⟩
theorem q_w377 : (Jvm.Cond.fieldLink "SoulOffice$Life" (27 : Nat) "SoulOffice$Life" "owed" "[I") ∈ WS := q_in_tab (q_c2 (j := 29) rfl) rfl
theorem q_g4_27 : q_gd 4 (27, 0, 4, 9, 0) := ⟨⟨q_w377, True.intro⟩, True.intro⟩
theorem q_w381 : (Jvm.Cond.fieldLink "SoulOffice$Life" (30 : Nat) "SoulOffice$Life" "settledLast" "[I") ∈ WS := q_in_tab (q_c2 (j := 33) rfl) rfl
theorem q_g4_30 : q_gd 4 (30, 0, 4, 10, 0) := ⟨⟨q_w381, True.intro⟩, True.intro⟩
theorem q_w350 : (Jvm.Cond.fieldLink "SoulOffice$Life" (33 : Nat) "SoulOffice$Life" "rules" "LSoulOffice$Rules;") ∈ WS := q_in_tab (q_c2 (j := 2) rfl) rfl
theorem q_g4_33 : q_gd 4 (33, 0, 4, 0, 0) := ⟨⟨q_w350, True.intro⟩, True.intro⟩
theorem q_w351 : (Jvm.Cond.fieldLink "SoulOffice$Life" (37 : Nat) "SoulOffice$Life" "day" "I") ∈ WS := q_in_tab (q_c2 (j := 3) rfl) rfl
theorem q_g4_37 : q_gd 4 (37, 0, 4, 1, 0) := ⟨⟨q_w351, True.intro⟩, True.intro⟩
theorem q_w353 : (Jvm.Cond.fieldLink "SoulOffice$Life" (41 : Nat) "SoulOffice$Life" "settledSum" "I") ∈ WS := q_in_tab (q_c2 (j := 5) rfl) rfl
theorem q_g4_41 : q_gd 4 (41, 0, 4, 2, 0) := ⟨⟨q_w353, True.intro⟩, True.intro⟩
theorem q_w356 : (Jvm.Cond.fieldLink "SoulOffice$Life" (44 : Nat) "SoulOffice$Life" "grownSum" "I") ∈ WS := q_in_tab (q_c2 (j := 8) rfl) rfl
theorem q_g4_44 : q_gd 4 (44, 0, 4, 3, 0) := ⟨⟨q_w356, True.intro⟩, True.intro⟩
theorem q_w303 : (Jvm.Cond.fieldLink "SoulOffice$Life" (47 : Nat) "SoulOffice$Rules" "places" "[I") ∈ WS := q_in_tab (q_c1 (j := 195) rfl) rfl
theorem q_g4_47 : q_gd 4 (47, 0, 8, 6, 0) := ⟨⟨q_w303, True.intro⟩, True.intro⟩
theorem q_w410 : (Jvm.Cond.methodLink "SoulOffice$Life" (52 : Nat) ({ cls := "java/lang/System", name := "arraycopy", desc := "(Ljava/lang/Object;ILjava/lang/Object;II)V" } : Jvm.MethodName)) ∈ WS := q_in_tab (q_c2 (j := 62) rfl) rfl
theorem q_g4_52 : q_gd 4 (52, 10, 0, 0, 0) := ⟨⟨q_w410, ⟨q_w412, ⟨q_w411, ⟨q_w117, True.intro⟩⟩⟩⟩, True.intro⟩
theorem q_w319 : (Jvm.Cond.fieldLink "SoulOffice$Life" (58 : Nat) "SoulOffice$Rules" "owedFirst" "[I") ∈ WS := q_in_tab (q_c1 (j := 211) rfl) rfl
theorem q_g4_58 : q_gd 4 (58, 0, 8, 10, 0) := ⟨⟨q_w319, True.intro⟩, True.intro⟩
theorem q_w280 : (Jvm.Cond.fieldLink "SoulOffice$Life" (61 : Nat) "SoulOffice$Rules" "souls" "I") ∈ WS := q_in_tab (q_c1 (j := 172) rfl) rfl
theorem q_g4_61 : q_gd 4 (61, 0, 8, 1, 0) := ⟨⟨q_w280, True.intro⟩, True.intro⟩
theorem q_w833 : (Jvm.Cond.static ({ cls := "SoulOffice", name := "soulPair", desc := "(II)I" } : Jvm.MethodName)) ∈ WS := q_in_tab (q_c4 (j := 5) rfl) rfl
theorem q_w109 : (Jvm.Cond.initialized "SoulOffice") ∈ WS := q_in_tab (q_c1 (j := 1) rfl) rfl
theorem q_w834 : (Jvm.Cond.code ({ cls := "SoulOffice", name := "soulPair", desc := "(II)I" } : Jvm.MethodName) prog_1_method_43_code (2 : Nat) (Option.some Jvm.ClassFile.FieldType.int)) ∈ WS := q_in_tab (q_c4 (j := 6) rfl) rfl
theorem q_w927 : (Jvm.Cond.methodLinkNest "SoulOffice$Life" (64 : Nat) ({ cls := "SoulOffice", name := "soulPair", desc := "(II)I" } : Jvm.MethodName) "SoulOffice") ∈ q_NW := q_in_nest (q_c4 (j := 99) rfl) rfl
theorem q_g4_64 : q_gd 4 (64, 3, 151, 0, 0) := ⟨⟨q_w833, ⟨q_w109, ⟨q_w834, True.intro⟩⟩⟩, ⟨q_w927, True.intro⟩⟩
theorem q_w906 : (Jvm.Cond.methodLink "SoulOffice$Life" (68 : Nat) ({ cls := "SoulOffice$Rules", name := "mayBe", desc := "(II)Z" } : Jvm.MethodName)) ∈ WS := q_in_tab (q_c4 (j := 78) rfl) rfl
theorem q_g4_68 : q_gd 4 (68, 1, 72, 0, 0) := ⟨⟨q_w906, ⟨q_w817, ⟨q_w818, ⟨q_w115, ⟨q_w819, True.intro⟩⟩⟩⟩⟩, True.intro⟩
theorem q_w911 : (Jvm.Cond.methodLink "SoulOffice$Life" (72 : Nat) ({ cls := "SoulOffice$Life", name := "become", desc := "(II)V" } : Jvm.MethodName)) ∈ WS := q_in_tab (q_c4 (j := 83) rfl) rfl
theorem q_g4_72 : q_gd 4 (72, 1, 31, 0, 0) := ⟨⟨q_w911, ⟨q_w912, ⟨q_w913, ⟨q_w116, ⟨q_w914, True.intro⟩⟩⟩⟩⟩, True.intro⟩
theorem q_w301 : (Jvm.Cond.fieldLink "SoulOffice$Life" (76 : Nat) "SoulOffice$Rules" "lifeDays" "[I") ∈ WS := q_in_tab (q_c1 (j := 193) rfl) rfl
theorem q_g4_76 : q_gd 4 (76, 0, 8, 5, 0) := ⟨⟨q_w301, True.intro⟩, True.intro⟩
theorem q_w923 : (Jvm.Cond.methodLink "SoulOffice$Life" (79 : Nat) ({ cls := "SoulOffice$Life", name := "passDay", desc := "()V" } : Jvm.MethodName)) ∈ WS := q_in_tab (q_c4 (j := 95) rfl) rfl
theorem q_w925 : (Jvm.Cond.instanceMethod ({ cls := "SoulOffice$Life", name := "passDay", desc := "()V" } : Jvm.MethodName)) ∈ WS := q_in_tab (q_c4 (j := 97) rfl) rfl
theorem q_w14 : Cond.selects "SoulOffice$Life" (⟨"SoulOffice$Life", "passDay", "()V"⟩ : MethodName) (⟨"SoulOffice$Life", "passDay", "()V"⟩ : MethodName) ∈ WS := q_in_prv (q := ((⟨"SoulOffice$Life", "passDay", "()V"⟩ : MethodName), 11)) (q_v1 (j := 14) rfl) rfl
theorem q_w926 : (Jvm.Cond.code ({ cls := "SoulOffice$Life", name := "passDay", desc := "()V" } : Jvm.MethodName) prog_6_method_20_code (3 : Nat) (Option.none : Option Jvm.ClassFile.FieldType)) ∈ WS := q_in_tab (q_c4 (j := 98) rfl) rfl
theorem q_g4_79 : q_gd 4 (79, 1, 38, 0, 0) := ⟨⟨q_w923, ⟨q_w925, ⟨q_w14, ⟨q_w116, ⟨q_w926, True.intro⟩⟩⟩⟩⟩, True.intro⟩
theorem q_w946 : (Jvm.Cond.methodLink "SoulOffice$Life" (82 : Nat) ({ cls := "SoulOffice$Life", name := "giveByClerk", desc := "()V" } : Jvm.MethodName)) ∈ WS := q_in_tab (q_c4 (j := 118) rfl) rfl
theorem q_w947 : (Jvm.Cond.instanceMethod ({ cls := "SoulOffice$Life", name := "giveByClerk", desc := "()V" } : Jvm.MethodName)) ∈ WS := q_in_tab (q_c4 (j := 119) rfl) rfl
theorem q_w948 : (Jvm.Cond.selects "SoulOffice$Life" ({ cls := "SoulOffice$Life", name := "giveByClerk", desc := "()V" } : Jvm.MethodName) ({ cls := "SoulOffice$Life", name := "giveByClerk", desc := "()V" } : Jvm.MethodName)) ∈ WS := q_in_tab (q_c4 (j := 120) rfl) rfl
theorem q_w949 : (Jvm.Cond.code ({ cls := "SoulOffice$Life", name := "giveByClerk", desc := "()V" } : Jvm.MethodName) prog_6_method_18_code (3 : Nat) (Option.none : Option Jvm.ClassFile.FieldType)) ∈ WS := q_in_tab (q_c4 (j := 121) rfl) rfl
theorem q_g4_82 : q_gd 4 (82, 1, 36, 0, 0) := ⟨⟨q_w946, ⟨q_w947, ⟨q_w948, ⟨q_w116, ⟨q_w949, True.intro⟩⟩⟩⟩⟩, True.intro⟩
theorem q_w275 : (Jvm.Cond.fieldLink "SoulOffice$Life" (85 : Nat) "SoulOffice$Rules" "kinds" "I") ∈ WS := q_in_tab (q_c1 (j := 167) rfl) rfl
theorem q_g4_85 : q_gd 4 (85, 0, 8, 0, 0) := ⟨⟨q_w275, True.intro⟩, True.intro⟩
theorem q_w1144 : (Jvm.Cond.constant "SoulOffice$Life" (88 : Nat) (1103515245 : Int32)) ∈ WS := q_in_tab (q_c5 (j := 76) rfl) rfl
theorem q_g4_88 : q_gd 4 (88, 8, 0, 0, 1103515245) := ⟨⟨q_w1144, True.intro⟩, True.intro⟩
theorem q_w954 : (Jvm.Cond.methodLink "SoulOffice$Life" (89 : Nat) ({ cls := "SoulOffice$Life", name := "whyNot", desc := "(II)I" } : Jvm.MethodName)) ∈ WS := q_in_tab (q_c4 (j := 126) rfl) rfl
theorem q_g4_89 : q_gd 4 (89, 1, 29, 0, 0) := ⟨⟨q_w954, ⟨q_w903, ⟨q_w904, ⟨q_w116, ⟨q_w905, True.intro⟩⟩⟩⟩⟩, True.intro⟩
theorem q_w955 : (Jvm.Cond.methodLink "SoulOffice$Life" (92 : Nat) ({ cls := "SoulOffice$Life", name := "giveOut", desc := "(II)V" } : Jvm.MethodName)) ∈ WS := q_in_tab (q_c4 (j := 127) rfl) rfl
theorem q_g4_92 : q_gd 4 (92, 1, 30, 0, 0) := ⟨⟨q_w955, ⟨q_w908, ⟨q_w909, ⟨q_w116, ⟨q_w910, True.intro⟩⟩⟩⟩⟩, True.intro⟩
theorem q_w950 : (Jvm.Cond.methodLink "SoulOffice$Life" (95 : Nat) ({ cls := "SoulOffice$Life", name := "clerksChoice", desc := "(I)I" } : Jvm.MethodName)) ∈ WS := q_in_tab (q_c4 (j := 122) rfl) rfl
theorem q_w952 : (Jvm.Cond.instanceMethod ({ cls := "SoulOffice$Life", name := "clerksChoice", desc := "(I)I" } : Jvm.MethodName)) ∈ WS := q_in_tab (q_c4 (j := 124) rfl) rfl
theorem q_w17 : Cond.selects "SoulOffice$Life" (⟨"SoulOffice$Life", "clerksChoice", "(I)I"⟩ : MethodName) (⟨"SoulOffice$Life", "clerksChoice", "(I)I"⟩ : MethodName) ∈ WS := q_in_prv (q := ((⟨"SoulOffice$Life", "clerksChoice", "(I)I"⟩ : MethodName), 11)) (q_v2 (j := 1) rfl) rfl
theorem q_w953 : (Jvm.Cond.code ({ cls := "SoulOffice$Life", name := "clerksChoice", desc := "(I)I" } : Jvm.MethodName) prog_6_method_19_code (4 : Nat) (Option.some Jvm.ClassFile.FieldType.int)) ∈ WS := q_in_tab (q_c4 (j := 125) rfl) rfl
theorem q_g4_95 : q_gd 4 (95, 1, 37, 0, 0) := ⟨⟨q_w950, ⟨q_w952, ⟨q_w17, ⟨q_w116, ⟨q_w953, True.intro⟩⟩⟩⟩⟩, True.intro⟩
theorem q_w317 : (Jvm.Cond.fieldLink "SoulOffice$Life" (99 : Nat) "SoulOffice$Rules" "wish" "[I") ∈ WS := q_in_tab (q_c1 (j := 209) rfl) rfl
theorem q_g4_99 : q_gd 4 (99, 0, 8, 9, 0) := ⟨⟨q_w317, True.intro⟩, True.intro⟩
theorem q_w928 : (Jvm.Cond.methodLink "SoulOffice$Life" (102 : Nat) ({ cls := "SoulOffice$Life", name := "settlePair", desc := "(II)I" } : Jvm.MethodName)) ∈ WS := q_in_tab (q_c4 (j := 100) rfl) rfl
theorem q_w930 : (Jvm.Cond.instanceMethod ({ cls := "SoulOffice$Life", name := "settlePair", desc := "(II)I" } : Jvm.MethodName)) ∈ WS := q_in_tab (q_c4 (j := 102) rfl) rfl
theorem q_w15 : Cond.selects "SoulOffice$Life" (⟨"SoulOffice$Life", "settlePair", "(II)I"⟩ : MethodName) (⟨"SoulOffice$Life", "settlePair", "(II)I"⟩ : MethodName) ∈ WS := q_in_prv (q := ((⟨"SoulOffice$Life", "settlePair", "(II)I"⟩ : MethodName), 11)) (q_v1 (j := 15) rfl) rfl
theorem q_w931 : (Jvm.Cond.code ({ cls := "SoulOffice$Life", name := "settlePair", desc := "(II)I" } : Jvm.MethodName) prog_6_method_21_code (8 : Nat) (Option.some Jvm.ClassFile.FieldType.int)) ∈ WS := q_in_tab (q_c4 (j := 103) rfl) rfl
theorem q_g4_102 : q_gd 4 (102, 1, 39, 0, 0) := ⟨⟨q_w928, ⟨q_w930, ⟨q_w15, ⟨q_w116, ⟨q_w931, True.intro⟩⟩⟩⟩⟩, True.intro⟩
theorem q_w936 : (Jvm.Cond.methodLink "SoulOffice$Life" (105 : Nat) ({ cls := "SoulOffice$Life", name := "grow", desc := "()V" } : Jvm.MethodName)) ∈ WS := q_in_tab (q_c4 (j := 108) rfl) rfl
theorem q_w938 : (Jvm.Cond.instanceMethod ({ cls := "SoulOffice$Life", name := "grow", desc := "()V" } : Jvm.MethodName)) ∈ WS := q_in_tab (q_c4 (j := 110) rfl) rfl
theorem q_w16 : Cond.selects "SoulOffice$Life" (⟨"SoulOffice$Life", "grow", "()V"⟩ : MethodName) (⟨"SoulOffice$Life", "grow", "()V"⟩ : MethodName) ∈ WS := q_in_prv (q := ((⟨"SoulOffice$Life", "grow", "()V"⟩ : MethodName), 11)) (q_v2 (j := 0) rfl) rfl
theorem q_w939 : (Jvm.Cond.code ({ cls := "SoulOffice$Life", name := "grow", desc := "()V" } : Jvm.MethodName) prog_6_method_22_code (3 : Nat) (Option.none : Option Jvm.ClassFile.FieldType)) ∈ WS := q_in_tab (q_c4 (j := 111) rfl) rfl
theorem q_g4_105 : q_gd 4 (105, 1, 40, 0, 0) := ⟨⟨q_w936, ⟨q_w938, ⟨q_w16, ⟨q_w116, ⟨q_w939, True.intro⟩⟩⟩⟩⟩, True.intro⟩
theorem q_w941 : (Jvm.Cond.methodLink "SoulOffice$Life" (108 : Nat) ({ cls := "java/lang/Math", name := "max", desc := "(II)I" } : Jvm.MethodName)) ∈ WS := q_in_tab (q_c4 (j := 113) rfl) rfl
theorem q_w763 : (Jvm.Cond.static ({ cls := "java/lang/Math", name := "max", desc := "(II)I" } : Jvm.MethodName)) ∈ WS := q_in_tab (q_c3 (j := 175) rfl) rfl
theorem q_w764 : (Jvm.Cond.code ({ cls := "java/lang/Math", name := "max", desc := "(II)I" } : Jvm.MethodName) prog_20_method_65_code (2 : Nat) (Option.some Jvm.ClassFile.FieldType.int)) ∈ WS := q_in_tab (q_c3 (j := 176) rfl) rfl
theorem q_g4_108 : q_gd 4 (108, 15, 0, 0, 0) := ⟨⟨q_w941, ⟨q_w763, ⟨q_w127, ⟨q_w764, True.intro⟩⟩⟩⟩, True.intro⟩
theorem q_w310 : (Jvm.Cond.fieldLink "SoulOffice$Life" (113 : Nat) "SoulOffice$Rules" "meeting" "[I") ∈ WS := q_in_tab (q_c1 (j := 202) rfl) rfl
theorem q_g4_113 : q_gd 4 (113, 0, 8, 7, 0) := ⟨⟨q_w310, True.intro⟩, True.intro⟩
theorem q_w802 : (Jvm.Cond.static ({ cls := "SoulOffice", name := "kindPair", desc := "(II)I" } : Jvm.MethodName)) ∈ WS := q_in_tab (q_c3 (j := 214) rfl) rfl
theorem q_w803 : (Jvm.Cond.code ({ cls := "SoulOffice", name := "kindPair", desc := "(II)I" } : Jvm.MethodName) prog_1_method_44_code (2 : Nat) (Option.some Jvm.ClassFile.FieldType.int)) ∈ WS := q_in_tab (q_c3 (j := 215) rfl) rfl
theorem q_w932 : (Jvm.Cond.methodLinkNest "SoulOffice$Life" (116 : Nat) ({ cls := "SoulOffice", name := "kindPair", desc := "(II)I" } : Jvm.MethodName) "SoulOffice") ∈ q_NW := q_in_nest (q_c4 (j := 104) rfl) rfl
theorem q_g4_116 : q_gd 4 (116, 3, 152, 0, 0) := ⟨⟨q_w802, ⟨q_w109, ⟨q_w803, True.intro⟩⟩⟩, ⟨q_w932, True.intro⟩⟩
theorem q_w933 : (Jvm.Cond.methodLink "SoulOffice$Life" (119 : Nat) ({ cls := "java/lang/Math", name := "min", desc := "(II)I" } : Jvm.MethodName)) ∈ WS := q_in_tab (q_c4 (j := 105) rfl) rfl
theorem q_g4_119 : q_gd 4 (119, 16, 0, 0, 0) := ⟨⟨q_w933, ⟨q_w934, ⟨q_w127, ⟨q_w935, True.intro⟩⟩⟩⟩, True.intro⟩
theorem q_w289 : (Jvm.Cond.fieldLink "SoulOffice$Life" (122 : Nat) "SoulOffice$Rules" "grows" "I") ∈ WS := q_in_tab (q_c1 (j := 181) rfl) rfl
theorem q_g4_122 : q_gd 4 (122, 0, 8, 2, 0) := ⟨⟨q_w289, True.intro⟩, True.intro⟩
theorem q_w940 : (Jvm.Cond.constant "SoulOffice$Life" (125 : Nat) (99999 : Int32)) ∈ WS := q_in_tab (q_c4 (j := 112) rfl) rfl
theorem q_g4_125 : q_gd 4 (125, 8, 0, 0, 99999) := ⟨⟨q_w940, True.intro⟩, True.intro⟩
theorem q_w531 : (Jvm.Cond.methodLink "SoulOffice$MostSearch" (3 : Nat) ({ cls := "java/lang/Object", name := "<init>", desc := "()V" } : Jvm.MethodName)) ∈ WS := q_in_tab (q_c2 (j := 183) rfl) rfl
theorem q_g5_3 : q_gd 5 (3, 11, 0, 0, 0) := ⟨⟨q_w531, ⟨q_w139, ⟨q_w140, True.intro⟩⟩⟩, True.intro⟩
theorem q_w538 : (Jvm.Cond.fieldLink "SoulOffice$MostSearch" (9 : Nat) "SoulOffice$MostSearch" "who" "[I") ∈ WS := q_in_tab (q_c2 (j := 190) rfl) rfl
theorem q_g5_9 : q_gd 5 (9, 0, 5, 2, 0) := ⟨⟨q_w538, True.intro⟩, True.intro⟩
theorem q_w540 : (Jvm.Cond.fieldLink "SoulOffice$MostSearch" (15 : Nat) "SoulOffice$MostSearch" "alone" "[I") ∈ WS := q_in_tab (q_c2 (j := 192) rfl) rfl
theorem q_g5_15 : q_gd 5 (15, 0, 5, 4, 0) := ⟨⟨q_w540, True.intro⟩, True.intro⟩
theorem q_w541 : (Jvm.Cond.fieldLink "SoulOffice$MostSearch" (18 : Nat) "SoulOffice$MostSearch" "together" "[I") ∈ WS := q_in_tab (q_c2 (j := 193) rfl) rfl
theorem q_g5_18 : q_gd 5 (18, 0, 5, 5, 0) := ⟨⟨q_w541, True.intro⟩, True.intro⟩
theorem q_w542 : (Jvm.Cond.fieldLink "SoulOffice$MostSearch" (21 : Nat) "SoulOffice$MostSearch" "bound" "[I") ∈ WS := q_in_tab (q_c2 (j := 194) rfl) rfl
theorem q_g5_21 : q_gd 5 (21, 0, 5, 6, 0) := ⟨⟨q_w542, True.intro⟩, True.intro⟩
theorem q_w543 : (Jvm.Cond.fieldLink "SoulOffice$MostSearch" (24 : Nat) "SoulOffice$MostSearch" "free" "[I") ∈ WS := q_in_tab (q_c2 (j := 195) rfl) rfl
theorem q_g5_24 : q_gd 5 (24, 0, 5, 7, 0) := ⟨⟨q_w543, True.intro⟩, True.intro⟩
theorem q_w544 : (Jvm.Cond.fieldLink "SoulOffice$MostSearch" (27 : Nat) "SoulOffice$MostSearch" "chosen" "[I") ∈ WS := q_in_tab (q_c2 (j := 196) rfl) rfl
theorem q_g5_27 : q_gd 5 (27, 0, 5, 8, 0) := ⟨⟨q_w544, True.intro⟩, True.intro⟩
theorem q_w546 : (Jvm.Cond.fieldLink "SoulOffice$MostSearch" (30 : Nat) "SoulOffice$MostSearch" "given" "[I") ∈ WS := q_in_tab (q_c2 (j := 198) rfl) rfl
theorem q_g5_30 : q_gd 5 (30, 0, 5, 10, 0) := ⟨⟨q_w546, True.intro⟩, True.intro⟩
theorem q_w536 : (Jvm.Cond.fieldLink "SoulOffice$MostSearch" (33 : Nat) "SoulOffice$MostSearch" "rules" "LSoulOffice$Rules;") ∈ WS := q_in_tab (q_c2 (j := 188) rfl) rfl
theorem q_g5_33 : q_gd 5 (33, 0, 5, 0, 0) := ⟨⟨q_w536, True.intro⟩, True.intro⟩
theorem q_w537 : (Jvm.Cond.fieldLink "SoulOffice$MostSearch" (37 : Nat) "SoulOffice$MostSearch" "life" "LSoulOffice$Life;") ∈ WS := q_in_tab (q_c2 (j := 189) rfl) rfl
theorem q_g5_37 : q_gd 5 (37, 0, 5, 1, 0) := ⟨⟨q_w537, True.intro⟩, True.intro⟩
theorem q_w532 : (Jvm.Cond.methodLink "SoulOffice$MostSearch" (41 : Nat) ({ cls := "SoulOffice$MostSearch", name := "clearGiven", desc := "()V" } : Jvm.MethodName)) ∈ WS := q_in_tab (q_c2 (j := 184) rfl) rfl
theorem q_w534 : (Jvm.Cond.instanceMethod ({ cls := "SoulOffice$MostSearch", name := "clearGiven", desc := "()V" } : Jvm.MethodName)) ∈ WS := q_in_tab (q_c2 (j := 186) rfl) rfl
theorem q_w0 : Cond.selects "SoulOffice$MostSearch" (⟨"SoulOffice$MostSearch", "clearGiven", "()V"⟩ : MethodName) (⟨"SoulOffice$MostSearch", "clearGiven", "()V"⟩ : MethodName) ∈ WS := q_in_prv (q := ((⟨"SoulOffice$MostSearch", "clearGiven", "()V"⟩ : MethodName), 11)) (q_v1 (j := 0) rfl) rfl
theorem q_w122 : (Jvm.Cond.initialized "SoulOffice$MostSearch") ∈ WS := q_in_tab (q_c1 (j := 14) rfl) rfl
theorem q_w535 : (Jvm.Cond.code ({ cls := "SoulOffice$MostSearch", name := "clearGiven", desc := "()V" } : Jvm.MethodName) prog_7_method_2_code (2 : Nat) (Option.none : Option Jvm.ClassFile.FieldType)) ∈ WS := q_in_tab (q_c2 (j := 187) rfl) rfl
theorem q_g5_41 : q_gd 5 (41, 1, 42, 0, 0) := ⟨⟨q_w532, ⟨q_w534, ⟨q_w0, ⟨q_w122, ⟨q_w535, True.intro⟩⟩⟩⟩⟩, True.intro⟩
theorem q_w539 : (Jvm.Cond.fieldLink "SoulOffice$MostSearch" (44 : Nat) "SoulOffice$MostSearch" "waiting" "I") ∈ WS := q_in_tab (q_c2 (j := 191) rfl) rfl
theorem q_g5_44 : q_gd 5 (44, 0, 5, 3, 0) := ⟨⟨q_w539, True.intro⟩, True.intro⟩
theorem q_w281 : (Jvm.Cond.fieldLink "SoulOffice$MostSearch" (48 : Nat) "SoulOffice$Rules" "souls" "I") ∈ WS := q_in_tab (q_c1 (j := 173) rfl) rfl
theorem q_g5_48 : q_gd 5 (48, 0, 8, 1, 0) := ⟨⟨q_w281, True.intro⟩, True.intro⟩
theorem q_w360 : (Jvm.Cond.fieldLink "SoulOffice$MostSearch" (53 : Nat) "SoulOffice$Life" "as" "[I") ∈ WS := q_in_tab (q_c2 (j := 12) rfl) rfl
theorem q_g5_53 : q_gd 5 (53, 0, 4, 4, 0) := ⟨⟨q_w360, True.intro⟩, True.intro⟩
theorem q_w375 : (Jvm.Cond.fieldLink "SoulOffice$MostSearch" (58 : Nat) "SoulOffice$Life" "free" "[I") ∈ WS := q_in_tab (q_c2 (j := 27) rfl) rfl
theorem q_g5_58 : q_gd 5 (58, 0, 4, 8, 0) := ⟨⟨q_w375, True.intro⟩, True.intro⟩
theorem q_w1220 : (Jvm.Cond.methodLink "SoulOffice$MostSearch" (59 : Nat) ({ cls := "java/lang/System", name := "arraycopy", desc := "(Ljava/lang/Object;ILjava/lang/Object;II)V" } : Jvm.MethodName)) ∈ WS := q_in_tab (q_c5 (j := 152) rfl) rfl
theorem q_g5_59 : q_gd 5 (59, 10, 0, 0, 0) := ⟨⟨q_w1220, ⟨q_w412, ⟨q_w411, ⟨q_w117, True.intro⟩⟩⟩⟩, True.intro⟩
theorem q_w1221 : (Jvm.Cond.methodLink "SoulOffice$MostSearch" (65 : Nat) ({ cls := "SoulOffice$MostSearch", name := "fillTables", desc := "(I)V" } : Jvm.MethodName)) ∈ WS := q_in_tab (q_c5 (j := 153) rfl) rfl
theorem q_w1223 : (Jvm.Cond.instanceMethod ({ cls := "SoulOffice$MostSearch", name := "fillTables", desc := "(I)V" } : Jvm.MethodName)) ∈ WS := q_in_tab (q_c5 (j := 155) rfl) rfl
theorem q_w32 : Cond.selects "SoulOffice$MostSearch" (⟨"SoulOffice$MostSearch", "fillTables", "(I)V"⟩ : MethodName) (⟨"SoulOffice$MostSearch", "fillTables", "(I)V"⟩ : MethodName) ∈ WS := q_in_prv (q := ((⟨"SoulOffice$MostSearch", "fillTables", "(I)V"⟩ : MethodName), 11)) (q_v3 (j := 0) rfl) rfl
theorem q_w1224 : (Jvm.Cond.code ({ cls := "SoulOffice$MostSearch", name := "fillTables", desc := "(I)V" } : Jvm.MethodName) prog_7_method_6_code (4 : Nat) (Option.none : Option Jvm.ClassFile.FieldType)) ∈ WS := q_in_tab (q_c5 (j := 156) rfl) rfl
theorem q_g5_65 : q_gd 5 (65, 1, 46, 0, 0) := ⟨⟨q_w1221, ⟨q_w1223, ⟨q_w32, ⟨q_w122, ⟨q_w1224, True.intro⟩⟩⟩⟩⟩, True.intro⟩
theorem q_w545 : (Jvm.Cond.fieldLink "SoulOffice$MostSearch" (69 : Nat) "SoulOffice$MostSearch" "best" "I") ∈ WS := q_in_tab (q_c2 (j := 197) rfl) rfl
theorem q_g5_69 : q_gd 5 (69, 0, 5, 9, 0) := ⟨⟨q_w545, True.intro⟩, True.intro⟩
theorem q_w1249 : (Jvm.Cond.methodLink "SoulOffice$MostSearch" (72 : Nat) ({ cls := "SoulOffice$MostSearch", name := "byTheLiving", desc := "(I)I" } : Jvm.MethodName)) ∈ WS := q_in_tab (q_c5 (j := 181) rfl) rfl
theorem q_w1251 : (Jvm.Cond.instanceMethod ({ cls := "SoulOffice$MostSearch", name := "byTheLiving", desc := "(I)I" } : Jvm.MethodName)) ∈ WS := q_in_tab (q_c5 (j := 183) rfl) rfl
theorem q_w37 : Cond.selects "SoulOffice$MostSearch" (⟨"SoulOffice$MostSearch", "byTheLiving", "(I)I"⟩ : MethodName) (⟨"SoulOffice$MostSearch", "byTheLiving", "(I)I"⟩ : MethodName) ∈ WS := q_in_prv (q := ((⟨"SoulOffice$MostSearch", "byTheLiving", "(I)I"⟩ : MethodName), 11)) (q_v3 (j := 5) rfl) rfl
theorem q_w1252 : (Jvm.Cond.code ({ cls := "SoulOffice$MostSearch", name := "byTheLiving", desc := "(I)I" } : Jvm.MethodName) prog_7_method_5_code (6 : Nat) (Option.some Jvm.ClassFile.FieldType.int)) ∈ WS := q_in_tab (q_c5 (j := 184) rfl) rfl
theorem q_g5_72 : q_gd 5 (72, 1, 45, 0, 0) := ⟨⟨q_w1249, ⟨q_w1251, ⟨q_w37, ⟨q_w122, ⟨q_w1252, True.intro⟩⟩⟩⟩⟩, True.intro⟩
theorem q_w1253 : (Jvm.Cond.methodLink "SoulOffice$MostSearch" (76 : Nat) ({ cls := "SoulOffice$MostSearch", name := "choose", desc := "(II)V" } : Jvm.MethodName)) ∈ WS := q_in_tab (q_c5 (j := 185) rfl) rfl
theorem q_w1255 : (Jvm.Cond.instanceMethod ({ cls := "SoulOffice$MostSearch", name := "choose", desc := "(II)V" } : Jvm.MethodName)) ∈ WS := q_in_tab (q_c5 (j := 187) rfl) rfl
theorem q_w38 : Cond.selects "SoulOffice$MostSearch" (⟨"SoulOffice$MostSearch", "choose", "(II)V"⟩ : MethodName) (⟨"SoulOffice$MostSearch", "choose", "(II)V"⟩ : MethodName) ∈ WS := q_in_prv (q := ((⟨"SoulOffice$MostSearch", "choose", "(II)V"⟩ : MethodName), 11)) (q_v3 (j := 6) rfl) rfl
theorem q_w1256 : (Jvm.Cond.code ({ cls := "SoulOffice$MostSearch", name := "choose", desc := "(II)V" } : Jvm.MethodName) prog_7_method_12_code (4 : Nat) (Option.none : Option Jvm.ClassFile.FieldType)) ∈ WS := q_in_tab (q_c5 (j := 188) rfl) rfl
theorem q_g5_76 : q_gd 5 (76, 1, 52, 0, 0) := ⟨⟨q_w1253, ⟨q_w1255, ⟨q_w38, ⟨q_w122, ⟨q_w1256, True.intro⟩⟩⟩⟩⟩, True.intro⟩
theorem q_w364 : (Jvm.Cond.fieldLink "SoulOffice$MostSearch" (80 : Nat) "SoulOffice$Life" "left" "[I") ∈ WS := q_in_tab (q_c2 (j := 16) rfl) rfl
theorem q_g5_80 : q_gd 5 (80, 0, 4, 5, 0) := ⟨⟨q_w364, True.intro⟩, True.intro⟩
theorem q_w1229 : (Jvm.Cond.methodLink "SoulOffice$MostSearch" (83 : Nat) ({ cls := "java/lang/Math", name := "min", desc := "(II)I" } : Jvm.MethodName)) ∈ WS := q_in_tab (q_c5 (j := 161) rfl) rfl
theorem q_g5_83 : q_gd 5 (83, 16, 0, 0, 0) := ⟨⟨q_w1229, ⟨q_w934, ⟨q_w127, ⟨q_w935, True.intro⟩⟩⟩⟩, True.intro⟩
theorem q_w308 : (Jvm.Cond.fieldLink "SoulOffice$MostSearch" (89 : Nat) "SoulOffice$Rules" "meeting" "[I") ∈ WS := q_in_tab (q_c1 (j := 200) rfl) rfl
theorem q_g5_89 : q_gd 5 (89, 0, 8, 7, 0) := ⟨⟨q_w308, True.intro⟩, True.intro⟩
theorem q_w1230 : (Jvm.Cond.methodLinkNest "SoulOffice$MostSearch" (92 : Nat) ({ cls := "SoulOffice", name := "kindPair", desc := "(II)I" } : Jvm.MethodName) "SoulOffice") ∈ q_NW := q_in_nest (q_c5 (j := 162) rfl) rfl
theorem q_g5_92 : q_gd 5 (92, 3, 152, 0, 0) := ⟨⟨q_w802, ⟨q_w109, ⟨q_w803, True.intro⟩⟩⟩, ⟨q_w1230, True.intro⟩⟩
theorem q_w1232 : (Jvm.Cond.methodLink "SoulOffice$MostSearch" (95 : Nat) ({ cls := "SoulOffice$MostSearch", name := "pairSum", desc := "(IIII)I" } : Jvm.MethodName)) ∈ WS := q_in_tab (q_c5 (j := 164) rfl) rfl
theorem q_w1234 : (Jvm.Cond.instanceMethod ({ cls := "SoulOffice$MostSearch", name := "pairSum", desc := "(IIII)I" } : Jvm.MethodName)) ∈ WS := q_in_tab (q_c5 (j := 166) rfl) rfl
theorem q_w34 : Cond.selects "SoulOffice$MostSearch" (⟨"SoulOffice$MostSearch", "pairSum", "(IIII)I"⟩ : MethodName) (⟨"SoulOffice$MostSearch", "pairSum", "(IIII)I"⟩ : MethodName) ∈ WS := q_in_prv (q := ((⟨"SoulOffice$MostSearch", "pairSum", "(IIII)I"⟩ : MethodName), 11)) (q_v3 (j := 2) rfl) rfl
theorem q_w1235 : (Jvm.Cond.code ({ cls := "SoulOffice$MostSearch", name := "pairSum", desc := "(IIII)I" } : Jvm.MethodName) prog_7_method_10_code (11 : Nat) (Option.some Jvm.ClassFile.FieldType.int)) ∈ WS := q_in_tab (q_c5 (j := 167) rfl) rfl
theorem q_g5_95 : q_gd 5 (95, 1, 50, 0, 0) := ⟨⟨q_w1232, ⟨q_w1234, ⟨q_w34, ⟨q_w122, ⟨q_w1235, True.intro⟩⟩⟩⟩⟩, True.intro⟩
theorem q_w1225 : (Jvm.Cond.methodLink "SoulOffice$MostSearch" (99 : Nat) ({ cls := "SoulOffice$MostSearch", name := "fillAlone", desc := "(II)I" } : Jvm.MethodName)) ∈ WS := q_in_tab (q_c5 (j := 157) rfl) rfl
theorem q_w1227 : (Jvm.Cond.instanceMethod ({ cls := "SoulOffice$MostSearch", name := "fillAlone", desc := "(II)I" } : Jvm.MethodName)) ∈ WS := q_in_tab (q_c5 (j := 159) rfl) rfl
theorem q_w33 : Cond.selects "SoulOffice$MostSearch" (⟨"SoulOffice$MostSearch", "fillAlone", "(II)I"⟩ : MethodName) (⟨"SoulOffice$MostSearch", "fillAlone", "(II)I"⟩ : MethodName) ∈ WS := q_in_prv (q := ((⟨"SoulOffice$MostSearch", "fillAlone", "(II)I"⟩ : MethodName), 11)) (q_v3 (j := 1) rfl) rfl
theorem q_w1228 : (Jvm.Cond.code ({ cls := "SoulOffice$MostSearch", name := "fillAlone", desc := "(II)I" } : Jvm.MethodName) prog_7_method_7_code (10 : Nat) (Option.some Jvm.ClassFile.FieldType.int)) ∈ WS := q_in_tab (q_c5 (j := 160) rfl) rfl
theorem q_g5_99 : q_gd 5 (99, 1, 47, 0, 0) := ⟨⟨q_w1225, ⟨q_w1227, ⟨q_w33, ⟨q_w122, ⟨q_w1228, True.intro⟩⟩⟩⟩⟩, True.intro⟩
theorem q_w1242 : (Jvm.Cond.methodLink "SoulOffice$MostSearch" (102 : Nat) ({ cls := "SoulOffice$MostSearch", name := "fillTogether", desc := "(III)I" } : Jvm.MethodName)) ∈ WS := q_in_tab (q_c5 (j := 174) rfl) rfl
theorem q_w1244 : (Jvm.Cond.instanceMethod ({ cls := "SoulOffice$MostSearch", name := "fillTogether", desc := "(III)I" } : Jvm.MethodName)) ∈ WS := q_in_tab (q_c5 (j := 176) rfl) rfl
theorem q_w36 : Cond.selects "SoulOffice$MostSearch" (⟨"SoulOffice$MostSearch", "fillTogether", "(III)I"⟩ : MethodName) (⟨"SoulOffice$MostSearch", "fillTogether", "(III)I"⟩ : MethodName) ∈ WS := q_in_prv (q := ((⟨"SoulOffice$MostSearch", "fillTogether", "(III)I"⟩ : MethodName), 11)) (q_v3 (j := 4) rfl) rfl
theorem q_w1245 : (Jvm.Cond.code ({ cls := "SoulOffice$MostSearch", name := "fillTogether", desc := "(III)I" } : Jvm.MethodName) prog_7_method_8_code (9 : Nat) (Option.some Jvm.ClassFile.FieldType.int)) ∈ WS := q_in_tab (q_c5 (j := 177) rfl) rfl
theorem q_g5_102 : q_gd 5 (102, 1, 48, 0, 0) := ⟨⟨q_w1242, ⟨q_w1244, ⟨q_w36, ⟨q_w122, ⟨q_w1245, True.intro⟩⟩⟩⟩⟩, True.intro⟩
theorem q_w272 : (Jvm.Cond.fieldLink "SoulOffice$MostSearch" (106 : Nat) "SoulOffice$Rules" "kinds" "I") ∈ WS := q_in_tab (q_c1 (j := 164) rfl) rfl
theorem q_g5_106 : q_gd 5 (106, 0, 8, 0, 0) := ⟨⟨q_w272, True.intro⟩, True.intro⟩
theorem q_w299 : (Jvm.Cond.fieldLink "SoulOffice$MostSearch" (109 : Nat) "SoulOffice$Rules" "lifeDays" "[I") ∈ WS := q_in_tab (q_c1 (j := 191) rfl) rfl
theorem q_g5_109 : q_gd 5 (109, 0, 8, 5, 0) := ⟨⟨q_w299, True.intro⟩, True.intro⟩
theorem q_w1231 : (Jvm.Cond.methodLink "SoulOffice$MostSearch" (112 : Nat) ({ cls := "java/lang/Math", name := "max", desc := "(II)I" } : Jvm.MethodName)) ∈ WS := q_in_tab (q_c5 (j := 163) rfl) rfl
theorem q_g5_112 : q_gd 5 (112, 15, 0, 0, 0) := ⟨⟨q_w1231, ⟨q_w763, ⟨q_w127, ⟨q_w764, True.intro⟩⟩⟩⟩, True.intro⟩
theorem q_w1246 : (Jvm.Cond.methodLink "SoulOffice$MostSearch" (115 : Nat) ({ cls := "SoulOffice$MostSearch", name := "togetherAt", desc := "(IIII)I" } : Jvm.MethodName)) ∈ WS := q_in_tab (q_c5 (j := 178) rfl) rfl
theorem q_w1247 : (Jvm.Cond.static ({ cls := "SoulOffice$MostSearch", name := "togetherAt", desc := "(IIII)I" } : Jvm.MethodName)) ∈ WS := q_in_tab (q_c5 (j := 179) rfl) rfl
theorem q_w1248 : (Jvm.Cond.code ({ cls := "SoulOffice$MostSearch", name := "togetherAt", desc := "(IIII)I" } : Jvm.MethodName) prog_7_method_9_code (4 : Nat) (Option.some Jvm.ClassFile.FieldType.int)) ∈ WS := q_in_tab (q_c5 (j := 180) rfl) rfl
theorem q_g5_115 : q_gd 5 (115, 2, 49, 0, 0) := ⟨⟨q_w1246, ⟨q_w1247, ⟨q_w122, ⟨q_w1248, True.intro⟩⟩⟩⟩, True.intro⟩
theorem q_w378 : (Jvm.Cond.fieldLink "SoulOffice$MostSearch" (118 : Nat) "SoulOffice$Life" "owed" "[I") ∈ WS := q_in_tab (q_c2 (j := 30) rfl) rfl
theorem q_g5_118 : q_gd 5 (118, 0, 4, 9, 0) := ⟨⟨q_w378, True.intro⟩, True.intro⟩
theorem q_w1236 : (Jvm.Cond.methodLinkNest "SoulOffice$MostSearch" (121 : Nat) ({ cls := "SoulOffice", name := "soulPair", desc := "(II)I" } : Jvm.MethodName) "SoulOffice") ∈ q_NW := q_in_nest (q_c5 (j := 168) rfl) rfl
theorem q_g5_121 : q_gd 5 (121, 3, 151, 0, 0) := ⟨⟨q_w833, ⟨q_w109, ⟨q_w834, True.intro⟩⟩⟩, ⟨q_w1236, True.intro⟩⟩
theorem q_w1237 : (Jvm.Cond.methodLink "SoulOffice$MostSearch" (124 : Nat) ({ cls := "SoulOffice$MostSearch", name := "grownBy", desc := "(I)I" } : Jvm.MethodName)) ∈ WS := q_in_tab (q_c5 (j := 169) rfl) rfl
theorem q_w1239 : (Jvm.Cond.instanceMethod ({ cls := "SoulOffice$MostSearch", name := "grownBy", desc := "(I)I" } : Jvm.MethodName)) ∈ WS := q_in_tab (q_c5 (j := 171) rfl) rfl
theorem q_w35 : Cond.selects "SoulOffice$MostSearch" (⟨"SoulOffice$MostSearch", "grownBy", "(I)I"⟩ : MethodName) (⟨"SoulOffice$MostSearch", "grownBy", "(I)I"⟩ : MethodName) ∈ WS := q_in_prv (q := ((⟨"SoulOffice$MostSearch", "grownBy", "(I)I"⟩ : MethodName), 11)) (q_v3 (j := 3) rfl) rfl
theorem q_w1240 : (Jvm.Cond.code ({ cls := "SoulOffice$MostSearch", name := "grownBy", desc := "(I)I" } : Jvm.MethodName) prog_7_method_11_code (2 : Nat) (Option.some Jvm.ClassFile.FieldType.int)) ∈ WS := q_in_tab (q_c5 (j := 172) rfl) rfl
theorem q_g5_124 : q_gd 5 (124, 1, 51, 0, 0) := ⟨⟨q_w1237, ⟨q_w1239, ⟨q_w35, ⟨q_w122, ⟨q_w1240, True.intro⟩⟩⟩⟩⟩, True.intro⟩
theorem q_w288 : (Jvm.Cond.fieldLink "SoulOffice$MostSearch" (127 : Nat) "SoulOffice$Rules" "grows" "I") ∈ WS := q_in_tab (q_c1 (j := 180) rfl) rfl
theorem q_g5_127 : q_gd 5 (127, 0, 8, 2, 0) := ⟨⟨q_w288, True.intro⟩, True.intro⟩
theorem q_w1241 : (Jvm.Cond.constant "SoulOffice$MostSearch" (130 : Nat) (99999 : Int32)) ∈ WS := q_in_tab (q_c5 (j := 173) rfl) rfl
theorem q_g5_130 : q_gd 5 (130, 8, 0, 0, 99999) := ⟨⟨q_w1241, True.intro⟩, True.intro⟩
theorem q_w1257 : (Jvm.Cond.methodLink "SoulOffice$MostSearch" (131 : Nat) ({ cls := "SoulOffice$MostSearch", name := "keepWay", desc := "(I)V" } : Jvm.MethodName)) ∈ WS := q_in_tab (q_c5 (j := 189) rfl) rfl
theorem q_w1259 : (Jvm.Cond.instanceMethod ({ cls := "SoulOffice$MostSearch", name := "keepWay", desc := "(I)V" } : Jvm.MethodName)) ∈ WS := q_in_tab (q_c5 (j := 191) rfl) rfl
theorem q_w39 : Cond.selects "SoulOffice$MostSearch" (⟨"SoulOffice$MostSearch", "keepWay", "(I)V"⟩ : MethodName) (⟨"SoulOffice$MostSearch", "keepWay", "(I)V"⟩ : MethodName) ∈ WS := q_in_prv (q := ((⟨"SoulOffice$MostSearch", "keepWay", "(I)V"⟩ : MethodName), 11)) (q_v3 (j := 7) rfl) rfl
theorem q_w1260 : (Jvm.Cond.code ({ cls := "SoulOffice$MostSearch", name := "keepWay", desc := "(I)V" } : Jvm.MethodName) prog_7_method_15_code (3 : Nat) (Option.none : Option Jvm.ClassFile.FieldType)) ∈ WS := q_in_tab (q_c5 (j := 192) rfl) rfl
theorem q_g5_131 : q_gd 5 (131, 1, 54, 0, 0) := ⟨⟨q_w1257, ⟨q_w1259, ⟨q_w39, ⟨q_w122, ⟨q_w1260, True.intro⟩⟩⟩⟩⟩, True.intro⟩
theorem q_w1261 : (Jvm.Cond.methodLink "SoulOffice$MostSearch" (134 : Nat) ({ cls := "SoulOffice$MostSearch", name := "chooseAs", desc := "(III)V" } : Jvm.MethodName)) ∈ WS := q_in_tab (q_c5 (j := 193) rfl) rfl
theorem q_w1263 : (Jvm.Cond.instanceMethod ({ cls := "SoulOffice$MostSearch", name := "chooseAs", desc := "(III)V" } : Jvm.MethodName)) ∈ WS := q_in_tab (q_c5 (j := 195) rfl) rfl
theorem q_w40 : Cond.selects "SoulOffice$MostSearch" (⟨"SoulOffice$MostSearch", "chooseAs", "(III)V"⟩ : MethodName) (⟨"SoulOffice$MostSearch", "chooseAs", "(III)V"⟩ : MethodName) ∈ WS := q_in_prv (q := ((⟨"SoulOffice$MostSearch", "chooseAs", "(III)V"⟩ : MethodName), 11)) (q_v3 (j := 8) rfl) rfl
theorem q_w1264 : (Jvm.Cond.code ({ cls := "SoulOffice$MostSearch", name := "chooseAs", desc := "(III)V" } : Jvm.MethodName) prog_7_method_13_code (4 : Nat) (Option.none : Option Jvm.ClassFile.FieldType)) ∈ WS := q_in_tab (q_c5 (j := 196) rfl) rfl
theorem q_g5_134 : q_gd 5 (134, 1, 269, 0, 0) := ⟨⟨q_w1261, ⟨q_w1263, ⟨q_w40, ⟨q_w122, ⟨q_w1264, True.intro⟩⟩⟩⟩⟩, True.intro⟩
theorem q_w1265 : (Jvm.Cond.methodLink "SoulOffice$MostSearch" (138 : Nat) ({ cls := "SoulOffice$Rules", name := "mayBe", desc := "(II)Z" } : Jvm.MethodName)) ∈ WS := q_in_tab (q_c5 (j := 197) rfl) rfl
theorem q_g5_138 : q_gd 5 (138, 1, 72, 0, 0) := ⟨⟨q_w1265, ⟨q_w817, ⟨q_w818, ⟨q_w115, ⟨q_w819, True.intro⟩⟩⟩⟩⟩, True.intro⟩
theorem q_w1266 : (Jvm.Cond.methodLink "SoulOffice$MostSearch" (142 : Nat) ({ cls := "SoulOffice$MostSearch", name := "addedBy", desc := "(II)I" } : Jvm.MethodName)) ∈ WS := q_in_tab (q_c5 (j := 198) rfl) rfl
theorem q_w1268 : (Jvm.Cond.instanceMethod ({ cls := "SoulOffice$MostSearch", name := "addedBy", desc := "(II)I" } : Jvm.MethodName)) ∈ WS := q_in_tab (q_c5 (j := 200) rfl) rfl
theorem q_w41 : Cond.selects "SoulOffice$MostSearch" (⟨"SoulOffice$MostSearch", "addedBy", "(II)I"⟩ : MethodName) (⟨"SoulOffice$MostSearch", "addedBy", "(II)I"⟩ : MethodName) ∈ WS := q_in_prv (q := ((⟨"SoulOffice$MostSearch", "addedBy", "(II)I"⟩ : MethodName), 11)) (q_v3 (j := 9) rfl) rfl
theorem q_w1269 : (Jvm.Cond.code ({ cls := "SoulOffice$MostSearch", name := "addedBy", desc := "(II)I" } : Jvm.MethodName) prog_7_method_14_code (5 : Nat) (Option.some Jvm.ClassFile.FieldType.int)) ∈ WS := q_in_tab (q_c5 (j := 201) rfl) rfl
theorem q_g5_142 : q_gd 5 (142, 1, 53, 0, 0) := ⟨⟨q_w1266, ⟨q_w1268, ⟨q_w41, ⟨q_w122, ⟨q_w1269, True.intro⟩⟩⟩⟩⟩, True.intro⟩
theorem q_w603 : (Jvm.Cond.methodLink "SoulOffice$Nets" (3 : Nat) ({ cls := "java/lang/Object", name := "<init>", desc := "()V" } : Jvm.MethodName)) ∈ WS := q_in_tab (q_c3 (j := 15) rfl) rfl
theorem q_g6_3 : q_gd 6 (3, 11, 0, 0, 0) := ⟨⟨q_w603, ⟨q_w139, ⟨q_w140, True.intro⟩⟩⟩, True.intro⟩
theorem q_w606 : (Jvm.Cond.fieldLink "SoulOffice$Nets" (9 : Nat) "SoulOffice$Nets" "nonzero" "[I") ∈ WS := q_in_tab (q_c3 (j := 18) rfl) rfl
theorem q_g6_9 : q_gd 6 (9, 0, 6, 2, 0) := ⟨⟨q_w606, True.intro⟩, True.intro⟩
theorem q_w607 : (Jvm.Cond.fieldLink "SoulOffice$Nets" (15 : Nat) "SoulOffice$Nets" "sum" "[I") ∈ WS := q_in_tab (q_c3 (j := 19) rfl) rfl
theorem q_g6_15 : q_gd 6 (15, 0, 6, 3, 0) := ⟨⟨q_w607, True.intro⟩, True.intro⟩
theorem q_w608 : (Jvm.Cond.fieldLink "SoulOffice$Nets" (18 : Nat) "SoulOffice$Nets" "parts" "[I") ∈ WS := q_in_tab (q_c3 (j := 20) rfl) rfl
theorem q_g6_18 : q_gd 6 (18, 0, 6, 4, 0) := ⟨⟨q_w608, True.intro⟩, True.intro⟩
theorem q_w604 : (Jvm.Cond.fieldLink "SoulOffice$Nets" (21 : Nat) "SoulOffice$Nets" "rules" "LSoulOffice$Rules;") ∈ WS := q_in_tab (q_c3 (j := 16) rfl) rfl
theorem q_g6_21 : q_gd 6 (21, 0, 6, 0, 0) := ⟨⟨q_w604, True.intro⟩, True.intro⟩
theorem q_w605 : (Jvm.Cond.fieldLink "SoulOffice$Nets" (25 : Nat) "SoulOffice$Nets" "life" "LSoulOffice$Life;") ∈ WS := q_in_tab (q_c3 (j := 17) rfl) rfl
theorem q_g6_25 : q_gd 6 (25, 0, 6, 1, 0) := ⟨⟨q_w605, True.intro⟩, True.intro⟩
theorem q_w1296 : (Jvm.Cond.methodLink "SoulOffice$Nets" (29 : Nat) ({ cls := "SoulOffice$Nets", name := "collect", desc := "()V" } : Jvm.MethodName)) ∈ WS := q_in_tab (q_c5 (j := 228) rfl) rfl
theorem q_w1298 : (Jvm.Cond.instanceMethod ({ cls := "SoulOffice$Nets", name := "collect", desc := "()V" } : Jvm.MethodName)) ∈ WS := q_in_tab (q_c5 (j := 230) rfl) rfl
theorem q_w42 : Cond.selects "SoulOffice$Nets" (⟨"SoulOffice$Nets", "collect", "()V"⟩ : MethodName) (⟨"SoulOffice$Nets", "collect", "()V"⟩ : MethodName) ∈ WS := q_in_prv (q := ((⟨"SoulOffice$Nets", "collect", "()V"⟩ : MethodName), 6)) (q_v3 (j := 10) rfl) rfl
theorem q_w124 : (Jvm.Cond.initialized "SoulOffice$Nets") ∈ WS := q_in_tab (q_c1 (j := 16) rfl) rfl
theorem q_w1299 : (Jvm.Cond.code ({ cls := "SoulOffice$Nets", name := "collect", desc := "()V" } : Jvm.MethodName) prog_8_method_3_code (3 : Nat) (Option.none : Option Jvm.ClassFile.FieldType)) ∈ WS := q_in_tab (q_c5 (j := 231) rfl) rfl
theorem q_g6_29 : q_gd 6 (29, 1, 57, 0, 0) := ⟨⟨q_w1296, ⟨q_w1298, ⟨q_w42, ⟨q_w124, ⟨q_w1299, True.intro⟩⟩⟩⟩⟩, True.intro⟩
theorem q_w609 : (Jvm.Cond.fieldLink "SoulOffice$Nets" (32 : Nat) "SoulOffice$Nets" "size" "I") ∈ WS := q_in_tab (q_c3 (j := 21) rfl) rfl
theorem q_g6_32 : q_gd 6 (32, 0, 6, 5, 0) := ⟨⟨q_w609, True.intro⟩, True.intro⟩
theorem q_w1302 : (Jvm.Cond.methodLink "SoulOffice$Nets" (36 : Nat) ({ cls := "java/lang/Math", name := "max", desc := "(II)I" } : Jvm.MethodName)) ∈ WS := q_in_tab (q_c5 (j := 234) rfl) rfl
theorem q_g6_36 : q_gd 6 (36, 15, 0, 0, 0) := ⟨⟨q_w1302, ⟨q_w763, ⟨q_w127, ⟨q_w764, True.intro⟩⟩⟩⟩, True.intro⟩
theorem q_w278 : (Jvm.Cond.fieldLink "SoulOffice$Nets" (42 : Nat) "SoulOffice$Rules" "souls" "I") ∈ WS := q_in_tab (q_c1 (j := 170) rfl) rfl
theorem q_g6_42 : q_gd 6 (42, 0, 8, 1, 0) := ⟨⟨q_w278, True.intro⟩, True.intro⟩
theorem q_w1300 : (Jvm.Cond.methodLink "SoulOffice$Nets" (47 : Nat) ({ cls := "SoulOffice$Life", name := "owedInAll", desc := "(I)I" } : Jvm.MethodName)) ∈ WS := q_in_tab (q_c5 (j := 232) rfl) rfl
theorem q_w1047 : (Jvm.Cond.instanceMethod ({ cls := "SoulOffice$Life", name := "owedInAll", desc := "(I)I" } : Jvm.MethodName)) ∈ WS := q_in_tab (q_c4 (j := 219) rfl) rfl
theorem q_w1048 : (Jvm.Cond.selects "SoulOffice$Life" ({ cls := "SoulOffice$Life", name := "owedInAll", desc := "(I)I" } : Jvm.MethodName) ({ cls := "SoulOffice$Life", name := "owedInAll", desc := "(I)I" } : Jvm.MethodName)) ∈ WS := q_in_tab (q_c4 (j := 220) rfl) rfl
theorem q_w1049 : (Jvm.Cond.code ({ cls := "SoulOffice$Life", name := "owedInAll", desc := "(I)I" } : Jvm.MethodName) prog_6_method_5_code (4 : Nat) (Option.some Jvm.ClassFile.FieldType.int)) ∈ WS := q_in_tab (q_c4 (j := 221) rfl) rfl
theorem q_g6_47 : q_gd 6 (47, 1, 23, 0, 0) := ⟨⟨q_w1300, ⟨q_w1047, ⟨q_w1048, ⟨q_w116, ⟨q_w1049, True.intro⟩⟩⟩⟩⟩, True.intro⟩
theorem q_w1301 : (Jvm.Cond.methodLink "SoulOffice$Nets" (53 : Nat) ({ cls := "SoulOffice$Life", name := "owesInAll", desc := "(I)I" } : Jvm.MethodName)) ∈ WS := q_in_tab (q_c5 (j := 233) rfl) rfl
theorem q_w1039 : (Jvm.Cond.instanceMethod ({ cls := "SoulOffice$Life", name := "owesInAll", desc := "(I)I" } : Jvm.MethodName)) ∈ WS := q_in_tab (q_c4 (j := 211) rfl) rfl
theorem q_w1040 : (Jvm.Cond.selects "SoulOffice$Life" ({ cls := "SoulOffice$Life", name := "owesInAll", desc := "(I)I" } : Jvm.MethodName) ({ cls := "SoulOffice$Life", name := "owesInAll", desc := "(I)I" } : Jvm.MethodName)) ∈ WS := q_in_tab (q_c4 (j := 212) rfl) rfl
theorem q_w1041 : (Jvm.Cond.code ({ cls := "SoulOffice$Life", name := "owesInAll", desc := "(I)I" } : Jvm.MethodName) prog_6_method_4_code (4 : Nat) (Option.some Jvm.ClassFile.FieldType.int)) ∈ WS := q_in_tab (q_c4 (j := 213) rfl) rfl
theorem q_g6_53 : q_gd 6 (53, 1, 22, 0, 0) := ⟨⟨q_w1301, ⟨q_w1039, ⟨q_w1040, ⟨q_w116, ⟨q_w1041, True.intro⟩⟩⟩⟩⟩, True.intro⟩
theorem q_w473 : (Jvm.Cond.methodLink "SoulOffice$OfficeText" (3 : Nat) ({ cls := "java/lang/Object", name := "<init>", desc := "()V" } : Jvm.MethodName)) ∈ WS := q_in_tab (q_c2 (j := 125) rfl) rfl
theorem q_g7_3 : q_gd 7 (3, 11, 0, 0, 0) := ⟨⟨q_w473, ⟨q_w139, ⟨q_w140, True.intro⟩⟩⟩, True.intro⟩
theorem q_w474 : (Jvm.Cond.fieldLink "SoulOffice$OfficeText" (9 : Nat) "SoulOffice$OfficeText" "tape" "LSoulOffice$Tape;") ∈ WS := q_in_tab (q_c2 (j := 126) rfl) rfl
theorem q_g7_9 : q_gd 7 (9, 0, 7, 0, 0) := ⟨⟨q_w474, True.intro⟩, True.intro⟩
theorem q_w475 : (Jvm.Cond.fieldLink "SoulOffice$OfficeText" (15 : Nat) "SoulOffice$OfficeText" "draft" "LSoulOffice$Rules;") ∈ WS := q_in_tab (q_c2 (j := 127) rfl) rfl
theorem q_g7_15 : q_gd 7 (15, 0, 7, 1, 0) := ⟨⟨q_w475, True.intro⟩, True.intro⟩
theorem q_w717 : (Jvm.Cond.methodLink "SoulOffice$OfficeText" (19 : Nat) ({ cls := "SoulOffice$Rules", name := "clear", desc := "()V" } : Jvm.MethodName)) ∈ WS := q_in_tab (q_c3 (j := 129) rfl) rfl
theorem q_w718 : (Jvm.Cond.instanceMethod ({ cls := "SoulOffice$Rules", name := "clear", desc := "()V" } : Jvm.MethodName)) ∈ WS := q_in_tab (q_c3 (j := 130) rfl) rfl
theorem q_w719 : (Jvm.Cond.selects "SoulOffice$Rules" ({ cls := "SoulOffice$Rules", name := "clear", desc := "()V" } : Jvm.MethodName) ({ cls := "SoulOffice$Rules", name := "clear", desc := "()V" } : Jvm.MethodName)) ∈ WS := q_in_tab (q_c3 (j := 131) rfl) rfl
theorem q_w720 : (Jvm.Cond.code ({ cls := "SoulOffice$Rules", name := "clear", desc := "()V" } : Jvm.MethodName) prog_10_method_6_code (2 : Nat) (Option.none : Option Jvm.ClassFile.FieldType)) ∈ WS := q_in_tab (q_c3 (j := 132) rfl) rfl
theorem q_g7_19 : q_gd 7 (19, 1, 74, 0, 0) := ⟨⟨q_w717, ⟨q_w718, ⟨q_w719, ⟨q_w115, ⟨q_w720, True.intro⟩⟩⟩⟩⟩, True.intro⟩
theorem q_w721 : (Jvm.Cond.methodLink "SoulOffice$OfficeText" (24 : Nat) ({ cls := "SoulOffice$Tape", name := "beginReading", desc := "(I)V" } : Jvm.MethodName)) ∈ WS := q_in_tab (q_c3 (j := 133) rfl) rfl
theorem q_g7_24 : q_gd 7 (24, 1, 95, 0, 0) := ⟨⟨q_w721, ⟨q_w722, ⟨q_w723, ⟨q_w110, ⟨q_w724, True.intro⟩⟩⟩⟩⟩, True.intro⟩
theorem q_w216 : (Jvm.Cond.fieldLink "SoulOffice$OfficeText" (30 : Nat) "SoulOffice$Tape" "sort" "I") ∈ WS := q_in_tab (q_c1 (j := 108) rfl) rfl
theorem q_g7_30 : q_gd 7 (30, 0, 10, 10, 0) := ⟨⟨q_w216, True.intro⟩, True.intro⟩
theorem q_w750 : (Jvm.Cond.methodLink "SoulOffice$OfficeText" (34 : Nat) ({ cls := "SoulOffice$Tape", name := "endsHere", desc := "()Z" } : Jvm.MethodName)) ∈ WS := q_in_tab (q_c3 (j := 162) rfl) rfl
theorem q_g7_34 : q_gd 7 (34, 1, 100, 0, 0) := ⟨⟨q_w750, ⟨q_w751, ⟨q_w752, ⟨q_w110, ⟨q_w753, True.intro⟩⟩⟩⟩⟩, True.intro⟩
theorem q_w758 : (Jvm.Cond.methodLink "SoulOffice$OfficeText" (38 : Nat) ({ cls := "SoulOffice$Rules", name := "fillUntold", desc := "()V" } : Jvm.MethodName)) ∈ WS := q_in_tab (q_c3 (j := 170) rfl) rfl
theorem q_w759 : (Jvm.Cond.instanceMethod ({ cls := "SoulOffice$Rules", name := "fillUntold", desc := "()V" } : Jvm.MethodName)) ∈ WS := q_in_tab (q_c3 (j := 171) rfl) rfl
theorem q_w760 : (Jvm.Cond.selects "SoulOffice$Rules" ({ cls := "SoulOffice$Rules", name := "fillUntold", desc := "()V" } : Jvm.MethodName) ({ cls := "SoulOffice$Rules", name := "fillUntold", desc := "()V" } : Jvm.MethodName)) ∈ WS := q_in_tab (q_c3 (j := 172) rfl) rfl
theorem q_w761 : (Jvm.Cond.code ({ cls := "SoulOffice$Rules", name := "fillUntold", desc := "()V" } : Jvm.MethodName) prog_10_method_7_code (2 : Nat) (Option.none : Option Jvm.ClassFile.FieldType)) ∈ WS := q_in_tab (q_c3 (j := 173) rfl) rfl
theorem q_g7_38 : q_gd 7 (38, 1, 75, 0, 0) := ⟨⟨q_w758, ⟨q_w759, ⟨q_w760, ⟨q_w115, ⟨q_w761, True.intro⟩⟩⟩⟩⟩, True.intro⟩
theorem q_w765 : (Jvm.Cond.methodLink "SoulOffice$OfficeText" (41 : Nat) ({ cls := "SoulOffice$OfficeText", name := "readLine", desc := "()Z" } : Jvm.MethodName)) ∈ WS := q_in_tab (q_c3 (j := 177) rfl) rfl
theorem q_w767 : (Jvm.Cond.instanceMethod ({ cls := "SoulOffice$OfficeText", name := "readLine", desc := "()Z" } : Jvm.MethodName)) ∈ WS := q_in_tab (q_c3 (j := 179) rfl) rfl
theorem q_w3 : Cond.selects "SoulOffice$OfficeText" (⟨"SoulOffice$OfficeText", "readLine", "()Z"⟩ : MethodName) (⟨"SoulOffice$OfficeText", "readLine", "()Z"⟩ : MethodName) ∈ WS := q_in_prv (q := ((⟨"SoulOffice$OfficeText", "readLine", "()Z"⟩ : MethodName), 2)) (q_v1 (j := 3) rfl) rfl
theorem q_w120 : (Jvm.Cond.initialized "SoulOffice$OfficeText") ∈ WS := q_in_tab (q_c1 (j := 12) rfl) rfl
theorem q_w768 : (Jvm.Cond.code ({ cls := "SoulOffice$OfficeText", name := "readLine", desc := "()Z" } : Jvm.MethodName) prog_9_method_3_code (1 : Nat) (Option.some Jvm.ClassFile.FieldType.boolean)) ∈ WS := q_in_tab (q_c3 (j := 180) rfl) rfl
theorem q_g7_41 : q_gd 7 (41, 1, 60, 0, 0) := ⟨⟨q_w765, ⟨q_w767, ⟨q_w3, ⟨q_w120, ⟨q_w768, True.intro⟩⟩⟩⟩⟩, True.intro⟩
theorem q_w839 : (Jvm.Cond.methodLink "SoulOffice$OfficeText" (44 : Nat) ({ cls := "SoulOffice$Tape", name := "takeSign", desc := "(C)Z" } : Jvm.MethodName)) ∈ WS := q_in_tab (q_c4 (j := 11) rfl) rfl
theorem q_g7_44 : q_gd 7 (44, 1, 103, 0, 0) := ⟨⟨q_w839, ⟨q_w840, ⟨q_w841, ⟨q_w110, ⟨q_w842, True.intro⟩⟩⟩⟩⟩, True.intro⟩
theorem q_w769 : (Jvm.Cond.methodLink "SoulOffice$OfficeText" (48 : Nat) ({ cls := "SoulOffice$Tape", name := "refuse", desc := "(I)Z" } : Jvm.MethodName)) ∈ WS := q_in_tab (q_c3 (j := 181) rfl) rfl
theorem q_g7_48 : q_gd 7 (48, 1, 99, 0, 0) := ⟨⟨q_w769, ⟨q_w755, ⟨q_w756, ⟨q_w110, ⟨q_w757, True.intro⟩⟩⟩⟩⟩, True.intro⟩
theorem q_w221 : (Jvm.Cond.fieldLink "SoulOffice$OfficeText" (52 : Nat) "SoulOffice$Tape" "number" "I") ∈ WS := q_in_tab (q_c1 (j := 113) rfl) rfl
theorem q_g7_52 : q_gd 7 (52, 0, 10, 12, 0) := ⟨⟨q_w221, True.intro⟩, True.intro⟩
theorem q_w770 : (Jvm.Cond.methodLink "SoulOffice$OfficeText" (55 : Nat) ({ cls := "SoulOffice$OfficeText", name := "readKind", desc := "()Z" } : Jvm.MethodName)) ∈ WS := q_in_tab (q_c3 (j := 182) rfl) rfl
theorem q_w772 : (Jvm.Cond.instanceMethod ({ cls := "SoulOffice$OfficeText", name := "readKind", desc := "()Z" } : Jvm.MethodName)) ∈ WS := q_in_tab (q_c3 (j := 184) rfl) rfl
theorem q_w4 : Cond.selects "SoulOffice$OfficeText" (⟨"SoulOffice$OfficeText", "readKind", "()Z"⟩ : MethodName) (⟨"SoulOffice$OfficeText", "readKind", "()Z"⟩ : MethodName) ∈ WS := q_in_prv (q := ((⟨"SoulOffice$OfficeText", "readKind", "()Z"⟩ : MethodName), 2)) (q_v1 (j := 4) rfl) rfl
theorem q_w773 : (Jvm.Cond.code ({ cls := "SoulOffice$OfficeText", name := "readKind", desc := "()Z" } : Jvm.MethodName) prog_9_method_4_code (5 : Nat) (Option.some Jvm.ClassFile.FieldType.boolean)) ∈ WS := q_in_tab (q_c3 (j := 185) rfl) rfl
theorem q_g7_55 : q_gd 7 (55, 1, 61, 0, 0) := ⟨⟨q_w770, ⟨q_w772, ⟨q_w4, ⟨q_w120, ⟨q_w773, True.intro⟩⟩⟩⟩⟩, True.intro⟩
theorem q_w788 : (Jvm.Cond.methodLink "SoulOffice$OfficeText" (58 : Nat) ({ cls := "SoulOffice$OfficeText", name := "readMeets", desc := "()Z" } : Jvm.MethodName)) ∈ WS := q_in_tab (q_c3 (j := 200) rfl) rfl
theorem q_w790 : (Jvm.Cond.instanceMethod ({ cls := "SoulOffice$OfficeText", name := "readMeets", desc := "()Z" } : Jvm.MethodName)) ∈ WS := q_in_tab (q_c3 (j := 202) rfl) rfl
theorem q_w6 : Cond.selects "SoulOffice$OfficeText" (⟨"SoulOffice$OfficeText", "readMeets", "()Z"⟩ : MethodName) (⟨"SoulOffice$OfficeText", "readMeets", "()Z"⟩ : MethodName) ∈ WS := q_in_prv (q := ((⟨"SoulOffice$OfficeText", "readMeets", "()Z"⟩ : MethodName), 2)) (q_v1 (j := 6) rfl) rfl
theorem q_w791 : (Jvm.Cond.code ({ cls := "SoulOffice$OfficeText", name := "readMeets", desc := "()Z" } : Jvm.MethodName) prog_9_method_5_code (4 : Nat) (Option.some Jvm.ClassFile.FieldType.boolean)) ∈ WS := q_in_tab (q_c3 (j := 203) rfl) rfl
theorem q_g7_58 : q_gd 7 (58, 1, 62, 0, 0) := ⟨⟨q_w788, ⟨q_w790, ⟨q_w6, ⟨q_w120, ⟨q_w791, True.intro⟩⟩⟩⟩⟩, True.intro⟩
theorem q_w804 : (Jvm.Cond.methodLink "SoulOffice$OfficeText" (61 : Nat) ({ cls := "SoulOffice$OfficeText", name := "readSoul", desc := "()Z" } : Jvm.MethodName)) ∈ WS := q_in_tab (q_c3 (j := 216) rfl) rfl
theorem q_w806 : (Jvm.Cond.instanceMethod ({ cls := "SoulOffice$OfficeText", name := "readSoul", desc := "()Z" } : Jvm.MethodName)) ∈ WS := q_in_tab (q_c3 (j := 218) rfl) rfl
theorem q_w7 : Cond.selects "SoulOffice$OfficeText" (⟨"SoulOffice$OfficeText", "readSoul", "()Z"⟩ : MethodName) (⟨"SoulOffice$OfficeText", "readSoul", "()Z"⟩ : MethodName) ∈ WS := q_in_prv (q := ((⟨"SoulOffice$OfficeText", "readSoul", "()Z"⟩ : MethodName), 2)) (q_v1 (j := 7) rfl) rfl
theorem q_w807 : (Jvm.Cond.code ({ cls := "SoulOffice$OfficeText", name := "readSoul", desc := "()Z" } : Jvm.MethodName) prog_9_method_6_code (3 : Nat) (Option.some Jvm.ClassFile.FieldType.boolean)) ∈ WS := q_in_tab (q_c3 (j := 219) rfl) rfl
theorem q_g7_61 : q_gd 7 (61, 1, 63, 0, 0) := ⟨⟨q_w804, ⟨q_w806, ⟨q_w7, ⟨q_w120, ⟨q_w807, True.intro⟩⟩⟩⟩⟩, True.intro⟩
theorem q_w812 : (Jvm.Cond.methodLink "SoulOffice$OfficeText" (64 : Nat) ({ cls := "SoulOffice$OfficeText", name := "readOnly", desc := "()Z" } : Jvm.MethodName)) ∈ WS := q_in_tab (q_c3 (j := 224) rfl) rfl
theorem q_w814 : (Jvm.Cond.instanceMethod ({ cls := "SoulOffice$OfficeText", name := "readOnly", desc := "()Z" } : Jvm.MethodName)) ∈ WS := q_in_tab (q_c3 (j := 226) rfl) rfl
theorem q_w8 : Cond.selects "SoulOffice$OfficeText" (⟨"SoulOffice$OfficeText", "readOnly", "()Z"⟩ : MethodName) (⟨"SoulOffice$OfficeText", "readOnly", "()Z"⟩ : MethodName) ∈ WS := q_in_prv (q := ((⟨"SoulOffice$OfficeText", "readOnly", "()Z"⟩ : MethodName), 2)) (q_v1 (j := 8) rfl) rfl
theorem q_w815 : (Jvm.Cond.code ({ cls := "SoulOffice$OfficeText", name := "readOnly", desc := "()Z" } : Jvm.MethodName) prog_9_method_7_code (4 : Nat) (Option.some Jvm.ClassFile.FieldType.boolean)) ∈ WS := q_in_tab (q_c3 (j := 227) rfl) rfl
theorem q_g7_64 : q_gd 7 (64, 1, 64, 0, 0) := ⟨⟨q_w812, ⟨q_w814, ⟨q_w8, ⟨q_w120, ⟨q_w815, True.intro⟩⟩⟩⟩⟩, True.intro⟩
theorem q_w824 : (Jvm.Cond.methodLink "SoulOffice$OfficeText" (67 : Nat) ({ cls := "SoulOffice$OfficeText", name := "readWish", desc := "()Z" } : Jvm.MethodName)) ∈ WS := q_in_tab (q_c3 (j := 236) rfl) rfl
theorem q_w826 : (Jvm.Cond.instanceMethod ({ cls := "SoulOffice$OfficeText", name := "readWish", desc := "()Z" } : Jvm.MethodName)) ∈ WS := q_in_tab (q_c3 (j := 238) rfl) rfl
theorem q_w9 : Cond.selects "SoulOffice$OfficeText" (⟨"SoulOffice$OfficeText", "readWish", "()Z"⟩ : MethodName) (⟨"SoulOffice$OfficeText", "readWish", "()Z"⟩ : MethodName) ∈ WS := q_in_prv (q := ((⟨"SoulOffice$OfficeText", "readWish", "()Z"⟩ : MethodName), 2)) (q_v1 (j := 9) rfl) rfl
theorem q_w827 : (Jvm.Cond.code ({ cls := "SoulOffice$OfficeText", name := "readWish", desc := "()Z" } : Jvm.MethodName) prog_9_method_8_code (3 : Nat) (Option.some Jvm.ClassFile.FieldType.boolean)) ∈ WS := q_in_tab (q_c3 (j := 239) rfl) rfl
theorem q_g7_67 : q_gd 7 (67, 1, 65, 0, 0) := ⟨⟨q_w824, ⟨q_w826, ⟨q_w9, ⟨q_w120, ⟨q_w827, True.intro⟩⟩⟩⟩⟩, True.intro⟩
theorem q_w828 : (Jvm.Cond.methodLink "SoulOffice$OfficeText" (70 : Nat) ({ cls := "SoulOffice$OfficeText", name := "readDebt", desc := "()Z" } : Jvm.MethodName)) ∈ WS := q_in_tab (q_c4 (j := 0) rfl) rfl
theorem q_w830 : (Jvm.Cond.instanceMethod ({ cls := "SoulOffice$OfficeText", name := "readDebt", desc := "()Z" } : Jvm.MethodName)) ∈ WS := q_in_tab (q_c4 (j := 2) rfl) rfl
theorem q_w10 : Cond.selects "SoulOffice$OfficeText" (⟨"SoulOffice$OfficeText", "readDebt", "()Z"⟩ : MethodName) (⟨"SoulOffice$OfficeText", "readDebt", "()Z"⟩ : MethodName) ∈ WS := q_in_prv (q := ((⟨"SoulOffice$OfficeText", "readDebt", "()Z"⟩ : MethodName), 2)) (q_v1 (j := 10) rfl) rfl
theorem q_w831 : (Jvm.Cond.code ({ cls := "SoulOffice$OfficeText", name := "readDebt", desc := "()Z" } : Jvm.MethodName) prog_9_method_9_code (4 : Nat) (Option.some Jvm.ClassFile.FieldType.boolean)) ∈ WS := q_in_tab (q_c4 (j := 3) rfl) rfl
theorem q_g7_70 : q_gd 7 (70, 1, 66, 0, 0) := ⟨⟨q_w828, ⟨q_w830, ⟨q_w10, ⟨q_w120, ⟨q_w831, True.intro⟩⟩⟩⟩⟩, True.intro⟩
theorem q_w835 : (Jvm.Cond.methodLink "SoulOffice$OfficeText" (73 : Nat) ({ cls := "SoulOffice$OfficeText", name := "readGrows", desc := "()Z" } : Jvm.MethodName)) ∈ WS := q_in_tab (q_c4 (j := 7) rfl) rfl
theorem q_w837 : (Jvm.Cond.instanceMethod ({ cls := "SoulOffice$OfficeText", name := "readGrows", desc := "()Z" } : Jvm.MethodName)) ∈ WS := q_in_tab (q_c4 (j := 9) rfl) rfl
theorem q_w11 : Cond.selects "SoulOffice$OfficeText" (⟨"SoulOffice$OfficeText", "readGrows", "()Z"⟩ : MethodName) (⟨"SoulOffice$OfficeText", "readGrows", "()Z"⟩ : MethodName) ∈ WS := q_in_prv (q := ((⟨"SoulOffice$OfficeText", "readGrows", "()Z"⟩ : MethodName), 2)) (q_v1 (j := 11) rfl) rfl
theorem q_w838 : (Jvm.Cond.code ({ cls := "SoulOffice$OfficeText", name := "readGrows", desc := "()Z" } : Jvm.MethodName) prog_9_method_10_code (1 : Nat) (Option.some Jvm.ClassFile.FieldType.boolean)) ∈ WS := q_in_tab (q_c4 (j := 10) rfl) rfl
theorem q_g7_73 : q_gd 7 (73, 1, 67, 0, 0) := ⟨⟨q_w835, ⟨q_w837, ⟨q_w11, ⟨q_w120, ⟨q_w838, True.intro⟩⟩⟩⟩⟩, True.intro⟩
theorem q_w271 : (Jvm.Cond.fieldLink "SoulOffice$OfficeText" (76 : Nat) "SoulOffice$Rules" "kinds" "I") ∈ WS := q_in_tab (q_c1 (j := 163) rfl) rfl
theorem q_g7_76 : q_gd 7 (76, 0, 8, 0, 0) := ⟨⟨q_w271, True.intro⟩, True.intro⟩
theorem q_w774 : (Jvm.Cond.methodLink "SoulOffice$OfficeText" (79 : Nat) ({ cls := "SoulOffice$Tape", name := "advance", desc := "()V" } : Jvm.MethodName)) ∈ WS := q_in_tab (q_c3 (j := 186) rfl) rfl
theorem q_g7_79 : q_gd 7 (79, 1, 98, 0, 0) := ⟨⟨q_w774, ⟨q_w747, ⟨q_w748, ⟨q_w110, ⟨q_w749, True.intro⟩⟩⟩⟩⟩, True.intro⟩
theorem q_w224 : (Jvm.Cond.fieldLink "SoulOffice$OfficeText" (82 : Nat) "SoulOffice$Tape" "word" "J") ∈ WS := q_in_tab (q_c1 (j := 116) rfl) rfl
theorem q_g7_82 : q_gd 7 (82, 0, 10, 13, 0) := ⟨⟨q_w224, True.intro⟩, True.intro⟩
theorem q_w775 : (Jvm.Cond.methodLink "SoulOffice$OfficeText" (86 : Nat) ({ cls := "SoulOffice$OfficeText", name := "takeNewName", desc := "()Z" } : Jvm.MethodName)) ∈ WS := q_in_tab (q_c3 (j := 187) rfl) rfl
theorem q_w777 : (Jvm.Cond.instanceMethod ({ cls := "SoulOffice$OfficeText", name := "takeNewName", desc := "()Z" } : Jvm.MethodName)) ∈ WS := q_in_tab (q_c3 (j := 189) rfl) rfl
theorem q_w5 : Cond.selects "SoulOffice$OfficeText" (⟨"SoulOffice$OfficeText", "takeNewName", "()Z"⟩ : MethodName) (⟨"SoulOffice$OfficeText", "takeNewName", "()Z"⟩ : MethodName) ∈ WS := q_in_prv (q := ((⟨"SoulOffice$OfficeText", "takeNewName", "()Z"⟩ : MethodName), 2)) (q_v1 (j := 5) rfl) rfl
theorem q_w778 : (Jvm.Cond.code ({ cls := "SoulOffice$OfficeText", name := "takeNewName", desc := "()Z" } : Jvm.MethodName) prog_9_method_11_code (1 : Nat) (Option.some Jvm.ClassFile.FieldType.boolean)) ∈ WS := q_in_tab (q_c3 (j := 190) rfl) rfl
theorem q_g7_86 : q_gd 7 (86, 1, 68, 0, 0) := ⟨⟨q_w775, ⟨q_w777, ⟨q_w5, ⟨q_w120, ⟨q_w778, True.intro⟩⟩⟩⟩⟩, True.intro⟩
theorem q_w780 : (Jvm.Cond.methodLink "SoulOffice$OfficeText" (89 : Nat) ({ cls := "SoulOffice$Tape", name := "takeNumber", desc := "(II)I" } : Jvm.MethodName)) ∈ WS := q_in_tab (q_c3 (j := 192) rfl) rfl
theorem q_g7_89 : q_gd 7 (89, 1, 105, 0, 0) := ⟨⟨q_w780, ⟨q_w781, ⟨q_w782, ⟨q_w110, ⟨q_w783, True.intro⟩⟩⟩⟩⟩, True.intro⟩
theorem q_w784 : (Jvm.Cond.methodLink "SoulOffice$OfficeText" (93 : Nat) ({ cls := "SoulOffice$Rules", name := "addKind", desc := "(JII)V" } : Jvm.MethodName)) ∈ WS := q_in_tab (q_c3 (j := 196) rfl) rfl
theorem q_w785 : (Jvm.Cond.instanceMethod ({ cls := "SoulOffice$Rules", name := "addKind", desc := "(JII)V" } : Jvm.MethodName)) ∈ WS := q_in_tab (q_c3 (j := 197) rfl) rfl
theorem q_w786 : (Jvm.Cond.selects "SoulOffice$Rules" ({ cls := "SoulOffice$Rules", name := "addKind", desc := "(JII)V" } : Jvm.MethodName) ({ cls := "SoulOffice$Rules", name := "addKind", desc := "(JII)V" } : Jvm.MethodName)) ∈ WS := q_in_tab (q_c3 (j := 198) rfl) rfl
theorem q_w787 : (Jvm.Cond.code ({ cls := "SoulOffice$Rules", name := "addKind", desc := "(JII)V" } : Jvm.MethodName) prog_10_method_8_code (5 : Nat) (Option.none : Option Jvm.ClassFile.FieldType)) ∈ WS := q_in_tab (q_c3 (j := 199) rfl) rfl
theorem q_g7_93 : q_gd 7 (93, 1, 76, 0, 0) := ⟨⟨q_w784, ⟨q_w785, ⟨q_w786, ⟨q_w115, ⟨q_w787, True.intro⟩⟩⟩⟩⟩, True.intro⟩
theorem q_w292 : (Jvm.Cond.fieldLink "SoulOffice$OfficeText" (97 : Nat) "SoulOffice$Rules" "kindNames" "[J") ∈ WS := q_in_tab (q_c1 (j := 184) rfl) rfl
theorem q_g7_97 : q_gd 7 (97, 0, 8, 3, 0) := ⟨⟨q_w292, True.intro⟩, True.intro⟩
theorem q_w792 : (Jvm.Cond.methodLink "SoulOffice$OfficeText" (101 : Nat) ({ cls := "SoulOffice$Tape", name := "takeName", desc := "([JI)I" } : Jvm.MethodName)) ∈ WS := q_in_tab (q_c3 (j := 204) rfl) rfl
theorem q_g7_101 : q_gd 7 (101, 1, 107, 0, 0) := ⟨⟨q_w792, ⟨q_w793, ⟨q_w794, ⟨q_w110, ⟨q_w795, True.intro⟩⟩⟩⟩⟩, True.intro⟩
theorem q_w800 : (Jvm.Cond.methodLink "SoulOffice$OfficeText" (105 : Nat) ({ cls := "SoulOffice$Tape", name := "nameHere", desc := "([JI)I" } : Jvm.MethodName)) ∈ WS := q_in_tab (q_c3 (j := 212) rfl) rfl
theorem q_g7_105 : q_gd 7 (105, 1, 106, 0, 0) := ⟨⟨q_w800, ⟨q_w797, ⟨q_w798, ⟨q_w110, ⟨q_w799, True.intro⟩⟩⟩⟩⟩, True.intro⟩
theorem q_w307 : (Jvm.Cond.fieldLink "SoulOffice$OfficeText" (108 : Nat) "SoulOffice$Rules" "meeting" "[I") ∈ WS := q_in_tab (q_c1 (j := 199) rfl) rfl
theorem q_g7_108 : q_gd 7 (108, 0, 8, 7, 0) := ⟨⟨q_w307, True.intro⟩, True.intro⟩
theorem q_w801 : (Jvm.Cond.methodLinkNest "SoulOffice$OfficeText" (112 : Nat) ({ cls := "SoulOffice", name := "kindPair", desc := "(II)I" } : Jvm.MethodName) "SoulOffice") ∈ q_NW := q_in_nest (q_c3 (j := 213) rfl) rfl
theorem q_g7_112 : q_gd 7 (112, 3, 152, 0, 0) := ⟨⟨q_w802, ⟨q_w109, ⟨q_w803, True.intro⟩⟩⟩, ⟨q_w801, True.intro⟩⟩
theorem q_w282 : (Jvm.Cond.fieldLink "SoulOffice$OfficeText" (115 : Nat) "SoulOffice$Rules" "souls" "I") ∈ WS := q_in_tab (q_c1 (j := 174) rfl) rfl
theorem q_g7_115 : q_gd 7 (115, 0, 8, 1, 0) := ⟨⟨q_w282, True.intro⟩, True.intro⟩
theorem q_w808 : (Jvm.Cond.methodLink "SoulOffice$OfficeText" (118 : Nat) ({ cls := "SoulOffice$Rules", name := "addSoul", desc := "(J)V" } : Jvm.MethodName)) ∈ WS := q_in_tab (q_c3 (j := 220) rfl) rfl
theorem q_w809 : (Jvm.Cond.instanceMethod ({ cls := "SoulOffice$Rules", name := "addSoul", desc := "(J)V" } : Jvm.MethodName)) ∈ WS := q_in_tab (q_c3 (j := 221) rfl) rfl
theorem q_w810 : (Jvm.Cond.selects "SoulOffice$Rules" ({ cls := "SoulOffice$Rules", name := "addSoul", desc := "(J)V" } : Jvm.MethodName) ({ cls := "SoulOffice$Rules", name := "addSoul", desc := "(J)V" } : Jvm.MethodName)) ∈ WS := q_in_tab (q_c3 (j := 222) rfl) rfl
theorem q_w811 : (Jvm.Cond.code ({ cls := "SoulOffice$Rules", name := "addSoul", desc := "(J)V" } : Jvm.MethodName) prog_10_method_9_code (3 : Nat) (Option.none : Option Jvm.ClassFile.FieldType)) ∈ WS := q_in_tab (q_c3 (j := 223) rfl) rfl
theorem q_g7_118 : q_gd 7 (118, 1, 77, 0, 0) := ⟨⟨q_w808, ⟨q_w809, ⟨q_w810, ⟨q_w115, ⟨q_w811, True.intro⟩⟩⟩⟩⟩, True.intro⟩
theorem q_w296 : (Jvm.Cond.fieldLink "SoulOffice$OfficeText" (122 : Nat) "SoulOffice$Rules" "soulNames" "[J") ∈ WS := q_in_tab (q_c1 (j := 188) rfl) rfl
theorem q_g7_122 : q_gd 7 (122, 0, 8, 4, 0) := ⟨⟨q_w296, True.intro⟩, True.intro⟩
theorem q_w312 : (Jvm.Cond.fieldLink "SoulOffice$OfficeText" (125 : Nat) "SoulOffice$Rules" "may" "[I") ∈ WS := q_in_tab (q_c1 (j := 204) rfl) rfl
theorem q_g7_125 : q_gd 7 (125, 0, 8, 8, 0) := ⟨⟨q_w312, True.intro⟩, True.intro⟩
theorem q_w816 : (Jvm.Cond.methodLink "SoulOffice$OfficeText" (128 : Nat) ({ cls := "SoulOffice$Rules", name := "mayBe", desc := "(II)Z" } : Jvm.MethodName)) ∈ WS := q_in_tab (q_c3 (j := 228) rfl) rfl
theorem q_g7_128 : q_gd 7 (128, 1, 72, 0, 0) := ⟨⟨q_w816, ⟨q_w817, ⟨q_w818, ⟨q_w115, ⟨q_w819, True.intro⟩⟩⟩⟩⟩, True.intro⟩
theorem q_w820 : (Jvm.Cond.methodLink "SoulOffice$OfficeText" (132 : Nat) ({ cls := "SoulOffice$Tape", name := "isSign", desc := "(C)Z" } : Jvm.MethodName)) ∈ WS := q_in_tab (q_c3 (j := 232) rfl) rfl
theorem q_w821 : (Jvm.Cond.instanceMethod ({ cls := "SoulOffice$Tape", name := "isSign", desc := "(C)Z" } : Jvm.MethodName)) ∈ WS := q_in_tab (q_c3 (j := 233) rfl) rfl
theorem q_w822 : (Jvm.Cond.selects "SoulOffice$Tape" ({ cls := "SoulOffice$Tape", name := "isSign", desc := "(C)Z" } : Jvm.MethodName) ({ cls := "SoulOffice$Tape", name := "isSign", desc := "(C)Z" } : Jvm.MethodName)) ∈ WS := q_in_tab (q_c3 (j := 234) rfl) rfl
theorem q_w823 : (Jvm.Cond.code ({ cls := "SoulOffice$Tape", name := "isSign", desc := "(C)Z" } : Jvm.MethodName) prog_12_method_10_code (2 : Nat) (Option.some Jvm.ClassFile.FieldType.boolean)) ∈ WS := q_in_tab (q_c3 (j := 235) rfl) rfl
theorem q_g7_132 : q_gd 7 (132, 1, 102, 0, 0) := ⟨⟨q_w820, ⟨q_w821, ⟨q_w822, ⟨q_w110, ⟨q_w823, True.intro⟩⟩⟩⟩⟩, True.intro⟩
theorem q_w315 : (Jvm.Cond.fieldLink "SoulOffice$OfficeText" (135 : Nat) "SoulOffice$Rules" "wish" "[I") ∈ WS := q_in_tab (q_c1 (j := 207) rfl) rfl
theorem q_g7_135 : q_gd 7 (135, 0, 8, 9, 0) := ⟨⟨q_w315, True.intro⟩, True.intro⟩
theorem q_w320 : (Jvm.Cond.fieldLink "SoulOffice$OfficeText" (138 : Nat) "SoulOffice$Rules" "owedFirst" "[I") ∈ WS := q_in_tab (q_c1 (j := 212) rfl) rfl
theorem q_g7_138 : q_gd 7 (138, 0, 8, 10, 0) := ⟨⟨q_w320, True.intro⟩, True.intro⟩
theorem q_w832 : (Jvm.Cond.methodLinkNest "SoulOffice$OfficeText" (141 : Nat) ({ cls := "SoulOffice", name := "soulPair", desc := "(II)I" } : Jvm.MethodName) "SoulOffice") ∈ q_NW := q_in_nest (q_c4 (j := 4) rfl) rfl
theorem q_g7_141 : q_gd 7 (141, 3, 151, 0, 0) := ⟨⟨q_w833, ⟨q_w109, ⟨q_w834, True.intro⟩⟩⟩, ⟨q_w832, True.intro⟩⟩
theorem q_w286 : (Jvm.Cond.fieldLink "SoulOffice$OfficeText" (144 : Nat) "SoulOffice$Rules" "grows" "I") ∈ WS := q_in_tab (q_c1 (j := 178) rfl) rfl
theorem q_g7_144 : q_gd 7 (144, 0, 8, 2, 0) := ⟨⟨q_w286, True.intro⟩, True.intro⟩
theorem q_w779 : (Jvm.Cond.methodLink "SoulOffice$OfficeText" (147 : Nat) ({ cls := "SoulOffice$Tape", name := "placeOf", desc := "(J[JI)I" } : Jvm.MethodName)) ∈ WS := q_in_tab (q_c3 (j := 191) rfl) rfl
theorem q_w741 : (Jvm.Cond.static ({ cls := "SoulOffice$Tape", name := "placeOf", desc := "(J[JI)I" } : Jvm.MethodName)) ∈ WS := q_in_tab (q_c3 (j := 153) rfl) rfl
theorem q_w742 : (Jvm.Cond.code ({ cls := "SoulOffice$Tape", name := "placeOf", desc := "(J[JI)I" } : Jvm.MethodName) prog_12_method_16_code (5 : Nat) (Option.some Jvm.ClassFile.FieldType.int)) ∈ WS := q_in_tab (q_c3 (j := 154) rfl) rfl
theorem q_g7_147 : q_gd 7 (147, 2, 108, 0, 0) := ⟨⟨q_w779, ⟨q_w741, ⟨q_w110, ⟨q_w742, True.intro⟩⟩⟩⟩, True.intro⟩
theorem q_w267 : (Jvm.Cond.methodLink "SoulOffice$Rules" (3 : Nat) ({ cls := "java/lang/Object", name := "<init>", desc := "()V" } : Jvm.MethodName)) ∈ WS := q_in_tab (q_c1 (j := 159) rfl) rfl
theorem q_g8_3 : q_gd 8 (3, 11, 0, 0, 0) := ⟨⟨q_w267, ⟨q_w139, ⟨q_w140, True.intro⟩⟩⟩, True.intro⟩
theorem q_w290 : (Jvm.Cond.fieldLink "SoulOffice$Rules" (9 : Nat) "SoulOffice$Rules" "kindNames" "[J") ∈ WS := q_in_tab (q_c1 (j := 182) rfl) rfl
theorem q_g8_9 : q_gd 8 (9, 0, 8, 3, 0) := ⟨⟨q_w290, True.intro⟩, True.intro⟩
theorem q_w294 : (Jvm.Cond.fieldLink "SoulOffice$Rules" (15 : Nat) "SoulOffice$Rules" "soulNames" "[J") ∈ WS := q_in_tab (q_c1 (j := 186) rfl) rfl
theorem q_g8_15 : q_gd 8 (15, 0, 8, 4, 0) := ⟨⟨q_w294, True.intro⟩, True.intro⟩
theorem q_w298 : (Jvm.Cond.fieldLink "SoulOffice$Rules" (18 : Nat) "SoulOffice$Rules" "lifeDays" "[I") ∈ WS := q_in_tab (q_c1 (j := 190) rfl) rfl
theorem q_g8_18 : q_gd 8 (18, 0, 8, 5, 0) := ⟨⟨q_w298, True.intro⟩, True.intro⟩
theorem q_w302 : (Jvm.Cond.fieldLink "SoulOffice$Rules" (22 : Nat) "SoulOffice$Rules" "places" "[I") ∈ WS := q_in_tab (q_c1 (j := 194) rfl) rfl
theorem q_g8_22 : q_gd 8 (22, 0, 8, 6, 0) := ⟨⟨q_w302, True.intro⟩, True.intro⟩
theorem q_w306 : (Jvm.Cond.fieldLink "SoulOffice$Rules" (25 : Nat) "SoulOffice$Rules" "meeting" "[I") ∈ WS := q_in_tab (q_c1 (j := 198) rfl) rfl
theorem q_g8_25 : q_gd 8 (25, 0, 8, 7, 0) := ⟨⟨q_w306, True.intro⟩, True.intro⟩
theorem q_w311 : (Jvm.Cond.fieldLink "SoulOffice$Rules" (28 : Nat) "SoulOffice$Rules" "may" "[I") ∈ WS := q_in_tab (q_c1 (j := 203) rfl) rfl
theorem q_g8_28 : q_gd 8 (28, 0, 8, 8, 0) := ⟨⟨q_w311, True.intro⟩, True.intro⟩
theorem q_w314 : (Jvm.Cond.fieldLink "SoulOffice$Rules" (31 : Nat) "SoulOffice$Rules" "wish" "[I") ∈ WS := q_in_tab (q_c1 (j := 206) rfl) rfl
theorem q_g8_31 : q_gd 8 (31, 0, 8, 9, 0) := ⟨⟨q_w314, True.intro⟩, True.intro⟩
theorem q_w318 : (Jvm.Cond.fieldLink "SoulOffice$Rules" (34 : Nat) "SoulOffice$Rules" "owedFirst" "[I") ∈ WS := q_in_tab (q_c1 (j := 210) rfl) rfl
theorem q_g8_34 : q_gd 8 (34, 0, 8, 10, 0) := ⟨⟨q_w318, True.intro⟩, True.intro⟩
theorem q_w268 : (Jvm.Cond.fieldLink "SoulOffice$Rules" (37 : Nat) "SoulOffice$Rules" "kinds" "I") ∈ WS := q_in_tab (q_c1 (j := 160) rfl) rfl
theorem q_g8_37 : q_gd 8 (37, 0, 8, 0, 0) := ⟨⟨q_w268, True.intro⟩, True.intro⟩
theorem q_w276 : (Jvm.Cond.fieldLink "SoulOffice$Rules" (41 : Nat) "SoulOffice$Rules" "souls" "I") ∈ WS := q_in_tab (q_c1 (j := 168) rfl) rfl
theorem q_g8_41 : q_gd 8 (41, 0, 8, 1, 0) := ⟨⟨q_w276, True.intro⟩, True.intro⟩
theorem q_w1286 : (Jvm.Cond.methodLink "SoulOffice$Rules" (44 : Nat) ({ cls := "SoulOffice$Rules", name := "mayBe", desc := "(II)Z" } : Jvm.MethodName)) ∈ WS := q_in_tab (q_c5 (j := 218) rfl) rfl
theorem q_g8_44 : q_gd 8 (44, 1, 72, 0, 0) := ⟨⟨q_w1286, ⟨q_w817, ⟨q_w818, ⟨q_w115, ⟨q_w819, True.intro⟩⟩⟩⟩⟩, True.intro⟩
theorem q_w1287 : (Jvm.Cond.methodLinkNest "SoulOffice$Rules" (48 : Nat) ({ cls := "SoulOffice", name := "kindPair", desc := "(II)I" } : Jvm.MethodName) "SoulOffice") ∈ q_NW := q_in_nest (q_c5 (j := 219) rfl) rfl
theorem q_g8_48 : q_gd 8 (48, 3, 152, 0, 0) := ⟨⟨q_w802, ⟨q_w109, ⟨q_w803, True.intro⟩⟩⟩, ⟨q_w1287, True.intro⟩⟩
theorem q_w285 : (Jvm.Cond.fieldLink "SoulOffice$Rules" (52 : Nat) "SoulOffice$Rules" "grows" "I") ∈ WS := q_in_tab (q_c1 (j := 177) rfl) rfl
theorem q_g8_52 : q_gd 8 (52, 0, 8, 2, 0) := ⟨⟨q_w285, True.intro⟩, True.intro⟩
theorem q_w762 : (Jvm.Cond.methodLink "SoulOffice$Rules" (55 : Nat) ({ cls := "java/lang/Math", name := "max", desc := "(II)I" } : Jvm.MethodName)) ∈ WS := q_in_tab (q_c3 (j := 174) rfl) rfl
theorem q_g8_55 : q_gd 8 (55, 15, 0, 0, 0) := ⟨⟨q_w762, ⟨q_w763, ⟨q_w127, ⟨q_w764, True.intro⟩⟩⟩⟩, True.intro⟩
theorem q_w848 : (Jvm.Cond.methodLink "SoulOffice$Rules" (60 : Nat) ({ cls := "java/lang/System", name := "arraycopy", desc := "(Ljava/lang/Object;ILjava/lang/Object;II)V" } : Jvm.MethodName)) ∈ WS := q_in_tab (q_c4 (j := 20) rfl) rfl
theorem q_g8_60 : q_gd 8 (60, 10, 0, 0, 0) := ⟨⟨q_w848, ⟨q_w412, ⟨q_w411, ⟨q_w117, True.intro⟩⟩⟩⟩, True.intro⟩
theorem q_w418 : (Jvm.Cond.methodLink "SoulOffice$Sentence" (3 : Nat) ({ cls := "java/lang/Object", name := "<init>", desc := "()V" } : Jvm.MethodName)) ∈ WS := q_in_tab (q_c2 (j := 70) rfl) rfl
theorem q_g9_3 : q_gd 9 (3, 11, 0, 0, 0) := ⟨⟨q_w418, ⟨q_w139, ⟨q_w140, True.intro⟩⟩⟩, True.intro⟩
theorem q_w421 : (Jvm.Cond.fieldLink "SoulOffice$Sentence" (11 : Nat) "SoulOffice$Sentence" "step" "[I") ∈ WS := q_in_tab (q_c2 (j := 73) rfl) rfl
theorem q_g9_11 : q_gd 9 (11, 0, 9, 2, 0) := ⟨⟨q_w421, True.intro⟩, True.intro⟩
theorem q_w422 : (Jvm.Cond.fieldLink "SoulOffice$Sentence" (15 : Nat) "SoulOffice$Sentence" "sign" "[I") ∈ WS := q_in_tab (q_c2 (j := 74) rfl) rfl
theorem q_g9_15 : q_gd 9 (15, 0, 9, 3, 0) := ⟨⟨q_w422, True.intro⟩, True.intro⟩
theorem q_w423 : (Jvm.Cond.fieldLink "SoulOffice$Sentence" (18 : Nat) "SoulOffice$Sentence" "number" "[I") ∈ WS := q_in_tab (q_c2 (j := 75) rfl) rfl
theorem q_g9_18 : q_gd 9 (18, 0, 9, 4, 0) := ⟨⟨q_w423, True.intro⟩, True.intro⟩
theorem q_w424 : (Jvm.Cond.fieldLink "SoulOffice$Sentence" (21 : Nat) "SoulOffice$Sentence" "stack" "[I") ∈ WS := q_in_tab (q_c2 (j := 76) rfl) rfl
theorem q_g9_21 : q_gd 9 (21, 0, 9, 5, 0) := ⟨⟨q_w424, True.intro⟩, True.intro⟩
theorem q_w419 : (Jvm.Cond.fieldLink "SoulOffice$Sentence" (24 : Nat) "SoulOffice$Sentence" "tape" "LSoulOffice$Tape;") ∈ WS := q_in_tab (q_c2 (j := 71) rfl) rfl
theorem q_g9_24 : q_gd 9 (24, 0, 9, 0, 0) := ⟨⟨q_w419, True.intro⟩, True.intro⟩
theorem q_w420 : (Jvm.Cond.fieldLink "SoulOffice$Sentence" (28 : Nat) "SoulOffice$Sentence" "rules" "LSoulOffice$Rules;") ∈ WS := q_in_tab (q_c2 (j := 72) rfl) rfl
theorem q_g9_28 : q_gd 9 (28, 0, 9, 1, 0) := ⟨⟨q_w420, True.intro⟩, True.intro⟩
theorem q_w426 : (Jvm.Cond.fieldLink "SoulOffice$Sentence" (32 : Nat) "SoulOffice$Sentence" "told" "Z") ∈ WS := q_in_tab (q_c2 (j := 78) rfl) rfl
theorem q_g9_32 : q_gd 9 (32, 0, 9, 7, 0) := ⟨⟨q_w426, True.intro⟩, True.intro⟩
theorem q_w428 : (Jvm.Cond.fieldLink "SoulOffice$Sentence" (36 : Nat) "SoulOffice$Sentence" "ones" "I") ∈ WS := q_in_tab (q_c2 (j := 80) rfl) rfl
theorem q_g9_36 : q_gd 9 (36, 0, 9, 8, 0) := ⟨⟨q_w428, True.intro⟩, True.intro⟩
theorem q_w425 : (Jvm.Cond.fieldLink "SoulOffice$Sentence" (40 : Nat) "SoulOffice$Sentence" "steps" "I") ∈ WS := q_in_tab (q_c2 (j := 77) rfl) rfl
theorem q_g9_40 : q_gd 9 (40, 0, 9, 6, 0) := ⟨⟨q_w425, True.intro⟩, True.intro⟩
theorem q_w1020 : (Jvm.Cond.methodLink "SoulOffice$Sentence" (43 : Nat) ({ cls := "java/lang/System", name := "arraycopy", desc := "(Ljava/lang/Object;ILjava/lang/Object;II)V" } : Jvm.MethodName)) ∈ WS := q_in_tab (q_c4 (j := 192) rfl) rfl
theorem q_g9_43 : q_gd 9 (43, 10, 0, 0, 0) := ⟨⟨q_w1020, ⟨q_w412, ⟨q_w411, ⟨q_w117, True.intro⟩⟩⟩⟩, True.intro⟩
theorem q_w978 : (Jvm.Cond.methodLink "SoulOffice$Sentence" (49 : Nat) ({ cls := "SoulOffice$Sentence", name := "clear", desc := "()V" } : Jvm.MethodName)) ∈ WS := q_in_tab (q_c4 (j := 150) rfl) rfl
theorem q_w850 : (Jvm.Cond.instanceMethod ({ cls := "SoulOffice$Sentence", name := "clear", desc := "()V" } : Jvm.MethodName)) ∈ WS := q_in_tab (q_c4 (j := 22) rfl) rfl
theorem q_w851 : (Jvm.Cond.selects "SoulOffice$Sentence" ({ cls := "SoulOffice$Sentence", name := "clear", desc := "()V" } : Jvm.MethodName) ({ cls := "SoulOffice$Sentence", name := "clear", desc := "()V" } : Jvm.MethodName)) ∈ WS := q_in_tab (q_c4 (j := 23) rfl) rfl
theorem q_w852 : (Jvm.Cond.code ({ cls := "SoulOffice$Sentence", name := "clear", desc := "()V" } : Jvm.MethodName) prog_11_method_2_code (1 : Nat) (Option.none : Option Jvm.ClassFile.FieldType)) ∈ WS := q_in_tab (q_c4 (j := 24) rfl) rfl
theorem q_g9_49 : q_gd 9 (49, 1, 80, 0, 0) := ⟨⟨q_w978, ⟨q_w850, ⟨q_w851, ⟨q_w118, ⟨q_w852, True.intro⟩⟩⟩⟩⟩, True.intro⟩
theorem q_w979 : (Jvm.Cond.methodLink "SoulOffice$Sentence" (52 : Nat) ({ cls := "SoulOffice$Tape", name := "beginReading", desc := "(I)V" } : Jvm.MethodName)) ∈ WS := q_in_tab (q_c4 (j := 151) rfl) rfl
theorem q_g9_52 : q_gd 9 (52, 1, 95, 0, 0) := ⟨⟨q_w979, ⟨q_w722, ⟨q_w723, ⟨q_w110, ⟨q_w724, True.intro⟩⟩⟩⟩⟩, True.intro⟩
theorem q_w980 : (Jvm.Cond.methodLink "SoulOffice$Sentence" (58 : Nat) ({ cls := "SoulOffice$Sentence", name := "readCond", desc := "(I)Z" } : Jvm.MethodName)) ∈ WS := q_in_tab (q_c4 (j := 152) rfl) rfl
theorem q_w982 : (Jvm.Cond.instanceMethod ({ cls := "SoulOffice$Sentence", name := "readCond", desc := "(I)Z" } : Jvm.MethodName)) ∈ WS := q_in_tab (q_c4 (j := 154) rfl) rfl
theorem q_w18 : Cond.selects "SoulOffice$Sentence" (⟨"SoulOffice$Sentence", "readCond", "(I)Z"⟩ : MethodName) (⟨"SoulOffice$Sentence", "readCond", "(I)Z"⟩ : MethodName) ∈ WS := q_in_prv (q := ((⟨"SoulOffice$Sentence", "readCond", "(I)Z"⟩ : MethodName), 9)) (q_v2 (j := 2) rfl) rfl
theorem q_w983 : (Jvm.Cond.code ({ cls := "SoulOffice$Sentence", name := "readCond", desc := "(I)Z" } : Jvm.MethodName) prog_11_method_5_code (3 : Nat) (Option.some Jvm.ClassFile.FieldType.boolean)) ∈ WS := q_in_tab (q_c4 (j := 155) rfl) rfl
theorem q_g9_58 : q_gd 9 (58, 1, 83, 0, 0) := ⟨⟨q_w980, ⟨q_w982, ⟨q_w18, ⟨q_w118, ⟨q_w983, True.intro⟩⟩⟩⟩⟩, True.intro⟩
theorem q_w1015 : (Jvm.Cond.methodLink "SoulOffice$Sentence" (62 : Nat) ({ cls := "SoulOffice$Tape", name := "endsHere", desc := "()Z" } : Jvm.MethodName)) ∈ WS := q_in_tab (q_c4 (j := 187) rfl) rfl
theorem q_g9_62 : q_gd 9 (62, 1, 100, 0, 0) := ⟨⟨q_w1015, ⟨q_w751, ⟨q_w752, ⟨q_w110, ⟨q_w753, True.intro⟩⟩⟩⟩⟩, True.intro⟩
theorem q_w984 : (Jvm.Cond.methodLink "SoulOffice$Sentence" (66 : Nat) ({ cls := "SoulOffice$Sentence", name := "readAll", desc := "(I)Z" } : Jvm.MethodName)) ∈ WS := q_in_tab (q_c4 (j := 156) rfl) rfl
theorem q_w986 : (Jvm.Cond.instanceMethod ({ cls := "SoulOffice$Sentence", name := "readAll", desc := "(I)Z" } : Jvm.MethodName)) ∈ WS := q_in_tab (q_c4 (j := 158) rfl) rfl
theorem q_w19 : Cond.selects "SoulOffice$Sentence" (⟨"SoulOffice$Sentence", "readAll", "(I)Z"⟩ : MethodName) (⟨"SoulOffice$Sentence", "readAll", "(I)Z"⟩ : MethodName) ∈ WS := q_in_prv (q := ((⟨"SoulOffice$Sentence", "readAll", "(I)Z"⟩ : MethodName), 9)) (q_v2 (j := 3) rfl) rfl
theorem q_w987 : (Jvm.Cond.code ({ cls := "SoulOffice$Sentence", name := "readAll", desc := "(I)Z" } : Jvm.MethodName) prog_11_method_6_code (3 : Nat) (Option.some Jvm.ClassFile.FieldType.boolean)) ∈ WS := q_in_tab (q_c4 (j := 159) rfl) rfl
theorem q_g9_66 : q_gd 9 (66, 1, 84, 0, 0) := ⟨⟨q_w984, ⟨q_w986, ⟨q_w19, ⟨q_w118, ⟨q_w987, True.intro⟩⟩⟩⟩⟩, True.intro⟩
theorem q_w1014 : (Jvm.Cond.methodLink "SoulOffice$Sentence" (69 : Nat) ({ cls := "SoulOffice$Tape", name := "isKey", desc := "(I)Z" } : Jvm.MethodName)) ∈ WS := q_in_tab (q_c4 (j := 186) rfl) rfl
theorem q_g9_69 : q_gd 9 (69, 1, 101, 0, 0) := ⟨⟨q_w1014, ⟨q_w876, ⟨q_w877, ⟨q_w110, ⟨q_w878, True.intro⟩⟩⟩⟩⟩, True.intro⟩
theorem q_w994 : (Jvm.Cond.methodLink "SoulOffice$Sentence" (72 : Nat) ({ cls := "SoulOffice$Tape", name := "advance", desc := "()V" } : Jvm.MethodName)) ∈ WS := q_in_tab (q_c4 (j := 166) rfl) rfl
theorem q_g9_72 : q_gd 9 (72, 1, 98, 0, 0) := ⟨⟨q_w994, ⟨q_w747, ⟨q_w748, ⟨q_w110, ⟨q_w749, True.intro⟩⟩⟩⟩⟩, True.intro⟩
theorem q_w1000 : (Jvm.Cond.methodLink "SoulOffice$Sentence" (75 : Nat) ({ cls := "SoulOffice$Sentence", name := "addStep", desc := "(III)Z" } : Jvm.MethodName)) ∈ WS := q_in_tab (q_c4 (j := 172) rfl) rfl
theorem q_w1002 : (Jvm.Cond.instanceMethod ({ cls := "SoulOffice$Sentence", name := "addStep", desc := "(III)Z" } : Jvm.MethodName)) ∈ WS := q_in_tab (q_c4 (j := 174) rfl) rfl
theorem q_w22 : Cond.selects "SoulOffice$Sentence" (⟨"SoulOffice$Sentence", "addStep", "(III)Z"⟩ : MethodName) (⟨"SoulOffice$Sentence", "addStep", "(III)Z"⟩ : MethodName) ∈ WS := q_in_prv (q := ((⟨"SoulOffice$Sentence", "addStep", "(III)Z"⟩ : MethodName), 9)) (q_v2 (j := 6) rfl) rfl
theorem q_w1003 : (Jvm.Cond.code ({ cls := "SoulOffice$Sentence", name := "addStep", desc := "(III)Z" } : Jvm.MethodName) prog_11_method_11_code (4 : Nat) (Option.some Jvm.ClassFile.FieldType.boolean)) ∈ WS := q_in_tab (q_c4 (j := 175) rfl) rfl
theorem q_g9_75 : q_gd 9 (75, 1, 88, 0, 0) := ⟨⟨q_w1000, ⟨q_w1002, ⟨q_w22, ⟨q_w118, ⟨q_w1003, True.intro⟩⟩⟩⟩⟩, True.intro⟩
theorem q_w988 : (Jvm.Cond.methodLink "SoulOffice$Sentence" (79 : Nat) ({ cls := "SoulOffice$Sentence", name := "readOne", desc := "(I)Z" } : Jvm.MethodName)) ∈ WS := q_in_tab (q_c4 (j := 160) rfl) rfl
theorem q_w990 : (Jvm.Cond.instanceMethod ({ cls := "SoulOffice$Sentence", name := "readOne", desc := "(I)Z" } : Jvm.MethodName)) ∈ WS := q_in_tab (q_c4 (j := 162) rfl) rfl
theorem q_w20 : Cond.selects "SoulOffice$Sentence" (⟨"SoulOffice$Sentence", "readOne", "(I)Z"⟩ : MethodName) (⟨"SoulOffice$Sentence", "readOne", "(I)Z"⟩ : MethodName) ∈ WS := q_in_prv (q := ((⟨"SoulOffice$Sentence", "readOne", "(I)Z"⟩ : MethodName), 9)) (q_v2 (j := 4) rfl) rfl
theorem q_w991 : (Jvm.Cond.code ({ cls := "SoulOffice$Sentence", name := "readOne", desc := "(I)Z" } : Jvm.MethodName) prog_11_method_7_code (5 : Nat) (Option.some Jvm.ClassFile.FieldType.boolean)) ∈ WS := q_in_tab (q_c4 (j := 163) rfl) rfl
theorem q_g9_79 : q_gd 9 (79, 1, 85, 0, 0) := ⟨⟨q_w988, ⟨q_w990, ⟨q_w20, ⟨q_w118, ⟨q_w991, True.intro⟩⟩⟩⟩⟩, True.intro⟩
theorem q_w992 : (Jvm.Cond.methodLink "SoulOffice$Sentence" (82 : Nat) ({ cls := "SoulOffice$Tape", name := "isSign", desc := "(C)Z" } : Jvm.MethodName)) ∈ WS := q_in_tab (q_c4 (j := 164) rfl) rfl
theorem q_g9_82 : q_gd 9 (82, 1, 102, 0, 0) := ⟨⟨q_w992, ⟨q_w821, ⟨q_w822, ⟨q_w110, ⟨q_w823, True.intro⟩⟩⟩⟩⟩, True.intro⟩
theorem q_w218 : (Jvm.Cond.fieldLink "SoulOffice$Sentence" (86 : Nat) "SoulOffice$Tape" "sort" "I") ∈ WS := q_in_tab (q_c1 (j := 110) rfl) rfl
theorem q_g9_86 : q_gd 9 (86, 0, 10, 10, 0) := ⟨⟨q_w218, True.intro⟩, True.intro⟩
theorem q_w223 : (Jvm.Cond.fieldLink "SoulOffice$Sentence" (89 : Nat) "SoulOffice$Tape" "number" "I") ∈ WS := q_in_tab (q_c1 (j := 115) rfl) rfl
theorem q_g9_89 : q_gd 9 (89, 0, 10, 12, 0) := ⟨⟨q_w223, True.intro⟩, True.intro⟩
theorem q_w993 : (Jvm.Cond.methodLink "SoulOffice$Sentence" (91 : Nat) ({ cls := "SoulOffice$Tape", name := "refuse", desc := "(I)Z" } : Jvm.MethodName)) ∈ WS := q_in_tab (q_c4 (j := 165) rfl) rfl
theorem q_g9_91 : q_gd 9 (91, 1, 99, 0, 0) := ⟨⟨q_w993, ⟨q_w755, ⟨q_w756, ⟨q_w110, ⟨q_w757, True.intro⟩⟩⟩⟩⟩, True.intro⟩
theorem q_w995 : (Jvm.Cond.methodLink "SoulOffice$Sentence" (94 : Nat) ({ cls := "SoulOffice$Tape", name := "takeSign", desc := "(C)Z" } : Jvm.MethodName)) ∈ WS := q_in_tab (q_c4 (j := 167) rfl) rfl
theorem q_g9_94 : q_gd 9 (94, 1, 103, 0, 0) := ⟨⟨q_w995, ⟨q_w840, ⟨q_w841, ⟨q_w110, ⟨q_w842, True.intro⟩⟩⟩⟩⟩, True.intro⟩
theorem q_w996 : (Jvm.Cond.methodLink "SoulOffice$Sentence" (97 : Nat) ({ cls := "SoulOffice$Sentence", name := "readNot", desc := "(I)Z" } : Jvm.MethodName)) ∈ WS := q_in_tab (q_c4 (j := 168) rfl) rfl
theorem q_w998 : (Jvm.Cond.instanceMethod ({ cls := "SoulOffice$Sentence", name := "readNot", desc := "(I)Z" } : Jvm.MethodName)) ∈ WS := q_in_tab (q_c4 (j := 170) rfl) rfl
theorem q_w21 : Cond.selects "SoulOffice$Sentence" (⟨"SoulOffice$Sentence", "readNot", "(I)Z"⟩ : MethodName) (⟨"SoulOffice$Sentence", "readNot", "(I)Z"⟩ : MethodName) ∈ WS := q_in_prv (q := ((⟨"SoulOffice$Sentence", "readNot", "(I)Z"⟩ : MethodName), 9)) (q_v2 (j := 5) rfl) rfl
theorem q_w999 : (Jvm.Cond.code ({ cls := "SoulOffice$Sentence", name := "readNot", desc := "(I)Z" } : Jvm.MethodName) prog_11_method_8_code (2 : Nat) (Option.some Jvm.ClassFile.FieldType.boolean)) ∈ WS := q_in_tab (q_c4 (j := 171) rfl) rfl
theorem q_g9_97 : q_gd 9 (97, 1, 270, 0, 0) := ⟨⟨q_w996, ⟨q_w998, ⟨q_w21, ⟨q_w118, ⟨q_w999, True.intro⟩⟩⟩⟩⟩, True.intro⟩
theorem q_w293 : (Jvm.Cond.fieldLink "SoulOffice$Sentence" (100 : Nat) "SoulOffice$Rules" "kindNames" "[J") ∈ WS := q_in_tab (q_c1 (j := 185) rfl) rfl
theorem q_g9_100 : q_gd 9 (100, 0, 8, 3, 0) := ⟨⟨q_w293, True.intro⟩, True.intro⟩
theorem q_w273 : (Jvm.Cond.fieldLink "SoulOffice$Sentence" (106 : Nat) "SoulOffice$Rules" "kinds" "I") ∈ WS := q_in_tab (q_c1 (j := 165) rfl) rfl
theorem q_g9_106 : q_gd 9 (106, 0, 8, 0, 0) := ⟨⟨q_w273, True.intro⟩, True.intro⟩
theorem q_w1004 : (Jvm.Cond.methodLink "SoulOffice$Sentence" (109 : Nat) ({ cls := "SoulOffice$Sentence", name := "readNamed", desc := "(I[JI)Z" } : Jvm.MethodName)) ∈ WS := q_in_tab (q_c4 (j := 176) rfl) rfl
theorem q_w1006 : (Jvm.Cond.instanceMethod ({ cls := "SoulOffice$Sentence", name := "readNamed", desc := "(I[JI)Z" } : Jvm.MethodName)) ∈ WS := q_in_tab (q_c4 (j := 178) rfl) rfl
theorem q_w23 : Cond.selects "SoulOffice$Sentence" (⟨"SoulOffice$Sentence", "readNamed", "(I[JI)Z"⟩ : MethodName) (⟨"SoulOffice$Sentence", "readNamed", "(I[JI)Z"⟩ : MethodName) ∈ WS := q_in_prv (q := ((⟨"SoulOffice$Sentence", "readNamed", "(I[JI)Z"⟩ : MethodName), 9)) (q_v2 (j := 7) rfl) rfl
theorem q_w1007 : (Jvm.Cond.code ({ cls := "SoulOffice$Sentence", name := "readNamed", desc := "(I[JI)Z" } : Jvm.MethodName) prog_11_method_9_code (5 : Nat) (Option.some Jvm.ClassFile.FieldType.boolean)) ∈ WS := q_in_tab (q_c4 (j := 179) rfl) rfl
theorem q_g9_109 : q_gd 9 (109, 1, 86, 0, 0) := ⟨⟨q_w1004, ⟨q_w1006, ⟨q_w23, ⟨q_w118, ⟨q_w1007, True.intro⟩⟩⟩⟩⟩, True.intro⟩
theorem q_w297 : (Jvm.Cond.fieldLink "SoulOffice$Sentence" (113 : Nat) "SoulOffice$Rules" "soulNames" "[J") ∈ WS := q_in_tab (q_c1 (j := 189) rfl) rfl
theorem q_g9_113 : q_gd 9 (113, 0, 8, 4, 0) := ⟨⟨q_w297, True.intro⟩, True.intro⟩
theorem q_w283 : (Jvm.Cond.fieldLink "SoulOffice$Sentence" (116 : Nat) "SoulOffice$Rules" "souls" "I") ∈ WS := q_in_tab (q_c1 (j := 175) rfl) rfl
theorem q_g9_116 : q_gd 9 (116, 0, 8, 1, 0) := ⟨⟨q_w283, True.intro⟩, True.intro⟩
theorem q_w1009 : (Jvm.Cond.methodLink "SoulOffice$Sentence" (119 : Nat) ({ cls := "SoulOffice$Sentence", name := "readCompared", desc := "(I)Z" } : Jvm.MethodName)) ∈ WS := q_in_tab (q_c4 (j := 181) rfl) rfl
theorem q_w1011 : (Jvm.Cond.instanceMethod ({ cls := "SoulOffice$Sentence", name := "readCompared", desc := "(I)Z" } : Jvm.MethodName)) ∈ WS := q_in_tab (q_c4 (j := 183) rfl) rfl
theorem q_w24 : Cond.selects "SoulOffice$Sentence" (⟨"SoulOffice$Sentence", "readCompared", "(I)Z"⟩ : MethodName) (⟨"SoulOffice$Sentence", "readCompared", "(I)Z"⟩ : MethodName) ∈ WS := q_in_prv (q := ((⟨"SoulOffice$Sentence", "readCompared", "(I)Z"⟩ : MethodName), 9)) (q_v2 (j := 8) rfl) rfl
theorem q_w1012 : (Jvm.Cond.code ({ cls := "SoulOffice$Sentence", name := "readCompared", desc := "(I)Z" } : Jvm.MethodName) prog_11_method_10_code (4 : Nat) (Option.some Jvm.ClassFile.FieldType.boolean)) ∈ WS := q_in_tab (q_c4 (j := 184) rfl) rfl
theorem q_g9_119 : q_gd 9 (119, 1, 87, 0, 0) := ⟨⟨q_w1009, ⟨q_w1011, ⟨q_w24, ⟨q_w118, ⟨q_w1012, True.intro⟩⟩⟩⟩⟩, True.intro⟩
theorem q_w1008 : (Jvm.Cond.methodLink "SoulOffice$Sentence" (122 : Nat) ({ cls := "SoulOffice$Tape", name := "nameHere", desc := "([JI)I" } : Jvm.MethodName)) ∈ WS := q_in_tab (q_c4 (j := 180) rfl) rfl
theorem q_g9_122 : q_gd 9 (122, 1, 106, 0, 0) := ⟨⟨q_w1008, ⟨q_w797, ⟨q_w798, ⟨q_w110, ⟨q_w799, True.intro⟩⟩⟩⟩⟩, True.intro⟩
theorem q_w1013 : (Jvm.Cond.methodLink "SoulOffice$Sentence" (126 : Nat) ({ cls := "SoulOffice$Tape", name := "takeNumber", desc := "(II)I" } : Jvm.MethodName)) ∈ WS := q_in_tab (q_c4 (j := 185) rfl) rfl
theorem q_g9_126 : q_gd 9 (126, 1, 105, 0, 0) := ⟨⟨q_w1013, ⟨q_w781, ⟨q_w782, ⟨q_w110, ⟨q_w783, True.intro⟩⟩⟩⟩⟩, True.intro⟩
theorem q_w1029 : (Jvm.Cond.methodLink "SoulOffice$Sentence" (130 : Nat) ({ cls := "SoulOffice$Sentence", name := "soulsByStep", desc := "(ILSoulOffice$Life;)I" } : Jvm.MethodName)) ∈ WS := q_in_tab (q_c4 (j := 201) rfl) rfl
theorem q_w1031 : (Jvm.Cond.instanceMethod ({ cls := "SoulOffice$Sentence", name := "soulsByStep", desc := "(ILSoulOffice$Life;)I" } : Jvm.MethodName)) ∈ WS := q_in_tab (q_c4 (j := 203) rfl) rfl
theorem q_w25 : Cond.selects "SoulOffice$Sentence" (⟨"SoulOffice$Sentence", "soulsByStep", "(ILSoulOffice$Life;)I"⟩ : MethodName) (⟨"SoulOffice$Sentence", "soulsByStep", "(ILSoulOffice$Life;)I"⟩ : MethodName) ∈ WS := q_in_prv (q := ((⟨"SoulOffice$Sentence", "soulsByStep", "(ILSoulOffice$Life;)I"⟩ : MethodName), 9)) (q_v2 (j := 9) rfl) rfl
theorem q_w1032 : (Jvm.Cond.code ({ cls := "SoulOffice$Sentence", name := "soulsByStep", desc := "(ILSoulOffice$Life;)I" } : Jvm.MethodName) prog_11_method_13_code (5 : Nat) (Option.some Jvm.ClassFile.FieldType.int)) ∈ WS := q_in_tab (q_c4 (j := 204) rfl) rfl
theorem q_g9_130 : q_gd 9 (130, 1, 90, 0, 0) := ⟨⟨q_w1029, ⟨q_w1031, ⟨q_w25, ⟨q_w118, ⟨q_w1032, True.intro⟩⟩⟩⟩⟩, True.intro⟩
theorem q_w1033 : (Jvm.Cond.methodLink "SoulOffice$Sentence" (134 : Nat) ({ cls := "SoulOffice$Sentence", name := "holds", desc := "(ILSoulOffice$Life;I)Z" } : Jvm.MethodName)) ∈ WS := q_in_tab (q_c4 (j := 205) rfl) rfl
theorem q_w1035 : (Jvm.Cond.instanceMethod ({ cls := "SoulOffice$Sentence", name := "holds", desc := "(ILSoulOffice$Life;I)Z" } : Jvm.MethodName)) ∈ WS := q_in_tab (q_c4 (j := 207) rfl) rfl
theorem q_w26 : Cond.selects "SoulOffice$Sentence" (⟨"SoulOffice$Sentence", "holds", "(ILSoulOffice$Life;I)Z"⟩ : MethodName) (⟨"SoulOffice$Sentence", "holds", "(ILSoulOffice$Life;I)Z"⟩ : MethodName) ∈ WS := q_in_prv (q := ((⟨"SoulOffice$Sentence", "holds", "(ILSoulOffice$Life;I)Z"⟩ : MethodName), 9)) (q_v2 (j := 10) rfl) rfl
theorem q_w1036 : (Jvm.Cond.code ({ cls := "SoulOffice$Sentence", name := "holds", desc := "(ILSoulOffice$Life;I)Z" } : Jvm.MethodName) prog_11_method_14_code (4 : Nat) (Option.some Jvm.ClassFile.FieldType.boolean)) ∈ WS := q_in_tab (q_c4 (j := 208) rfl) rfl
theorem q_g9_134 : q_gd 9 (134, 1, 91, 0, 0) := ⟨⟨q_w1033, ⟨q_w1035, ⟨q_w26, ⟨q_w118, ⟨q_w1036, True.intro⟩⟩⟩⟩⟩, True.intro⟩
theorem q_w362 : (Jvm.Cond.fieldLink "SoulOffice$Sentence" (138 : Nat) "SoulOffice$Life" "as" "[I") ∈ WS := q_in_tab (q_c2 (j := 14) rfl) rfl
theorem q_g9_138 : q_gd 9 (138, 0, 4, 4, 0) := ⟨⟨q_w362, True.intro⟩, True.intro⟩
theorem q_w380 : (Jvm.Cond.fieldLink "SoulOffice$Sentence" (143 : Nat) "SoulOffice$Life" "owed" "[I") ∈ WS := q_in_tab (q_c2 (j := 32) rfl) rfl
theorem q_g9_143 : q_gd 9 (143, 0, 4, 9, 0) := ⟨⟨q_w380, True.intro⟩, True.intro⟩
theorem q_w1037 : (Jvm.Cond.methodLinkNest "SoulOffice$Sentence" (146 : Nat) ({ cls := "SoulOffice", name := "soulPair", desc := "(II)I" } : Jvm.MethodName) "SoulOffice") ∈ q_NW := q_in_nest (q_c4 (j := 209) rfl) rfl
theorem q_g9_146 : q_gd 9 (146, 3, 151, 0, 0) := ⟨⟨q_w833, ⟨q_w109, ⟨q_w834, True.intro⟩⟩⟩, ⟨q_w1037, True.intro⟩⟩
theorem q_w1038 : (Jvm.Cond.methodLink "SoulOffice$Sentence" (149 : Nat) ({ cls := "SoulOffice$Life", name := "owesInAll", desc := "(I)I" } : Jvm.MethodName)) ∈ WS := q_in_tab (q_c4 (j := 210) rfl) rfl
theorem q_g9_149 : q_gd 9 (149, 1, 22, 0, 0) := ⟨⟨q_w1038, ⟨q_w1039, ⟨q_w1040, ⟨q_w116, ⟨q_w1041, True.intro⟩⟩⟩⟩⟩, True.intro⟩
theorem q_w1042 : (Jvm.Cond.methodLink "SoulOffice$Sentence" (153 : Nat) ({ cls := "SoulOffice$Sentence", name := "compares", desc := "(II)Z" } : Jvm.MethodName)) ∈ WS := q_in_tab (q_c4 (j := 214) rfl) rfl
theorem q_w1044 : (Jvm.Cond.instanceMethod ({ cls := "SoulOffice$Sentence", name := "compares", desc := "(II)Z" } : Jvm.MethodName)) ∈ WS := q_in_tab (q_c4 (j := 216) rfl) rfl
theorem q_w27 : Cond.selects "SoulOffice$Sentence" (⟨"SoulOffice$Sentence", "compares", "(II)Z"⟩ : MethodName) (⟨"SoulOffice$Sentence", "compares", "(II)Z"⟩ : MethodName) ∈ WS := q_in_prv (q := ((⟨"SoulOffice$Sentence", "compares", "(II)Z"⟩ : MethodName), 9)) (q_v2 (j := 11) rfl) rfl
theorem q_w1045 : (Jvm.Cond.code ({ cls := "SoulOffice$Sentence", name := "compares", desc := "(II)Z" } : Jvm.MethodName) prog_11_method_15_code (3 : Nat) (Option.some Jvm.ClassFile.FieldType.boolean)) ∈ WS := q_in_tab (q_c4 (j := 217) rfl) rfl
theorem q_g9_153 : q_gd 9 (153, 1, 92, 0, 0) := ⟨⟨q_w1042, ⟨q_w1044, ⟨q_w27, ⟨q_w118, ⟨q_w1045, True.intro⟩⟩⟩⟩⟩, True.intro⟩
theorem q_w1046 : (Jvm.Cond.methodLink "SoulOffice$Sentence" (157 : Nat) ({ cls := "SoulOffice$Life", name := "owedInAll", desc := "(I)I" } : Jvm.MethodName)) ∈ WS := q_in_tab (q_c4 (j := 218) rfl) rfl
theorem q_g9_157 : q_gd 9 (157, 1, 23, 0, 0) := ⟨⟨q_w1046, ⟨q_w1047, ⟨q_w1048, ⟨q_w116, ⟨q_w1049, True.intro⟩⟩⟩⟩⟩, True.intro⟩
theorem q_w369 : (Jvm.Cond.fieldLink "SoulOffice$Sentence" (160 : Nat) "SoulOffice$Life" "births" "[I") ∈ WS := q_in_tab (q_c2 (j := 21) rfl) rfl
theorem q_g9_160 : q_gd 9 (160, 0, 4, 6, 0) := ⟨⟨q_w369, True.intro⟩, True.intro⟩
theorem q_w366 : (Jvm.Cond.fieldLink "SoulOffice$Sentence" (163 : Nat) "SoulOffice$Life" "left" "[I") ∈ WS := q_in_tab (q_c2 (j := 18) rfl) rfl
theorem q_g9_163 : q_gd 9 (163, 0, 4, 5, 0) := ⟨⟨q_w366, True.intro⟩, True.intro⟩
theorem q_w146 : (Jvm.Cond.methodLink "SoulOffice$Tape" (3 : Nat) ({ cls := "java/lang/Object", name := "<init>", desc := "()V" } : Jvm.MethodName)) ∈ WS := q_in_tab (q_c1 (j := 38) rfl) rfl
theorem q_g10_3 : q_gd 10 (3, 11, 0, 0, 0) := ⟨⟨q_w146, ⟨q_w139, ⟨q_w140, True.intro⟩⟩⟩, True.intro⟩
theorem q_w203 : (Jvm.Cond.fieldLink "SoulOffice$Tape" (9 : Nat) "SoulOffice$Tape" "bytes" "[I") ∈ WS := q_in_tab (q_c1 (j := 95) rfl) rfl
theorem q_g10_9 : q_gd 10 (9, 0, 10, 0, 0) := ⟨⟨q_w203, True.intro⟩, True.intro⟩
theorem q_w148 : (Jvm.Cond.static ({ cls := "SoulOffice", name := "keysByNumber", desc := "()[J" } : Jvm.MethodName)) ∈ WS := q_in_tab (q_c1 (j := 40) rfl) rfl
theorem q_w149 : (Jvm.Cond.code ({ cls := "SoulOffice", name := "keysByNumber", desc := "()[J" } : Jvm.MethodName) prog_1_method_49_code (6 : Nat) (Option.some (Jvm.ClassFile.FieldType.array Jvm.ClassFile.FieldType.long))) ∈ WS := q_in_tab (q_c1 (j := 41) rfl) rfl
theorem q_w147 : (Jvm.Cond.methodLinkNest "SoulOffice$Tape" (15 : Nat) ({ cls := "SoulOffice", name := "keysByNumber", desc := "()[J" } : Jvm.MethodName) "SoulOffice") ∈ q_NW := q_in_nest (q_c1 (j := 39) rfl) rfl
theorem q_g10_15 : q_gd 10 (15, 12, 0, 0, 0) := ⟨⟨q_w148, ⟨q_w109, ⟨q_w149, True.intro⟩⟩⟩, ⟨q_w147, True.intro⟩⟩
theorem q_w207 : (Jvm.Cond.fieldLink "SoulOffice$Tape" (19 : Nat) "SoulOffice$Tape" "keys" "[J") ∈ WS := q_in_tab (q_c1 (j := 99) rfl) rfl
theorem q_g10_19 : q_gd 10 (19, 0, 10, 2, 0) := ⟨⟨q_w207, True.intro⟩, True.intro⟩
theorem q_w208 : (Jvm.Cond.fieldLink "SoulOffice$Tape" (23 : Nat) "SoulOffice$Tape" "sorts" "[I") ∈ WS := q_in_tab (q_c1 (j := 100) rfl) rfl
theorem q_g10_23 : q_gd 10 (23, 0, 10, 3, 0) := ⟨⟨q_w208, True.intro⟩, True.intro⟩
theorem q_w209 : (Jvm.Cond.fieldLink "SoulOffice$Tape" (26 : Nat) "SoulOffice$Tape" "places" "[I") ∈ WS := q_in_tab (q_c1 (j := 101) rfl) rfl
theorem q_g10_26 : q_gd 10 (26, 0, 10, 4, 0) := ⟨⟨q_w209, True.intro⟩, True.intro⟩
theorem q_w210 : (Jvm.Cond.fieldLink "SoulOffice$Tape" (29 : Nat) "SoulOffice$Tape" "numbers" "[I") ∈ WS := q_in_tab (q_c1 (j := 102) rfl) rfl
theorem q_g10_29 : q_gd 10 (29, 0, 10, 5, 0) := ⟨⟨q_w210, True.intro⟩, True.intro⟩
theorem q_w211 : (Jvm.Cond.fieldLink "SoulOffice$Tape" (32 : Nat) "SoulOffice$Tape" "words" "[J") ∈ WS := q_in_tab (q_c1 (j := 103) rfl) rfl
theorem q_g10_32 : q_gd 10 (32, 0, 10, 6, 0) := ⟨⟨q_w211, True.intro⟩, True.intro⟩
theorem q_w206 : (Jvm.Cond.fieldLink "SoulOffice$Tape" (35 : Nat) "SoulOffice$Tape" "length" "I") ∈ WS := q_in_tab (q_c1 (j := 98) rfl) rfl
theorem q_g10_35 : q_gd 10 (35, 0, 10, 1, 0) := ⟨⟨q_w206, True.intro⟩, True.intro⟩
theorem q_w226 : (Jvm.Cond.fieldLink "SoulOffice$Tape" (39 : Nat) "SoulOffice$Tape" "faultKind" "I") ∈ WS := q_in_tab (q_c1 (j := 118) rfl) rfl
theorem q_g10_39 : q_gd 10 (39, 0, 10, 14, 0) := ⟨⟨q_w226, True.intro⟩, True.intro⟩
theorem q_w214 : (Jvm.Cond.fieldLink "SoulOffice$Tape" (42 : Nat) "SoulOffice$Tape" "tooLong" "Z") ∈ WS := q_in_tab (q_c1 (j := 106) rfl) rfl
theorem q_g10_42 : q_gd 10 (42, 0, 10, 9, 0) := ⟨⟨q_w214, True.intro⟩, True.intro⟩
theorem q_w212 : (Jvm.Cond.fieldLink "SoulOffice$Tape" (46 : Nat) "SoulOffice$Tape" "tokens" "I") ∈ WS := q_in_tab (q_c1 (j := 104) rfl) rfl
theorem q_g10_46 : q_gd 10 (46, 0, 10, 7, 0) := ⟨⟨q_w212, True.intro⟩, True.intro⟩
theorem q_w726 : (Jvm.Cond.static ({ cls := "SoulOffice", name := "isSmallLetter", desc := "(I)Z" } : Jvm.MethodName)) ∈ WS := q_in_tab (q_c3 (j := 138) rfl) rfl
theorem q_w727 : (Jvm.Cond.code ({ cls := "SoulOffice", name := "isSmallLetter", desc := "(I)Z" } : Jvm.MethodName) prog_1_method_45_code (1 : Nat) (Option.some Jvm.ClassFile.FieldType.boolean)) ∈ WS := q_in_tab (q_c3 (j := 139) rfl) rfl
theorem q_w725 : (Jvm.Cond.methodLinkNest "SoulOffice$Tape" (49 : Nat) ({ cls := "SoulOffice", name := "isSmallLetter", desc := "(I)Z" } : Jvm.MethodName) "SoulOffice") ∈ q_NW := q_in_nest (q_c3 (j := 137) rfl) rfl
theorem q_g10_49 : q_gd 10 (49, 3, 153, 0, 0) := ⟨⟨q_w726, ⟨q_w109, ⟨q_w727, True.intro⟩⟩⟩, ⟨q_w725, True.intro⟩⟩
theorem q_w729 : (Jvm.Cond.static ({ cls := "SoulOffice", name := "isDigit", desc := "(I)Z" } : Jvm.MethodName)) ∈ WS := q_in_tab (q_c3 (j := 141) rfl) rfl
theorem q_w730 : (Jvm.Cond.code ({ cls := "SoulOffice", name := "isDigit", desc := "(I)Z" } : Jvm.MethodName) prog_1_method_46_code (1 : Nat) (Option.some Jvm.ClassFile.FieldType.boolean)) ∈ WS := q_in_tab (q_c3 (j := 142) rfl) rfl
theorem q_w728 : (Jvm.Cond.methodLinkNest "SoulOffice$Tape" (53 : Nat) ({ cls := "SoulOffice", name := "isDigit", desc := "(I)Z" } : Jvm.MethodName) "SoulOffice") ∈ q_NW := q_in_nest (q_c3 (j := 140) rfl) rfl
theorem q_g10_53 : q_gd 10 (53, 3, 154, 0, 0) := ⟨⟨q_w729, ⟨q_w109, ⟨q_w730, True.intro⟩⟩⟩, ⟨q_w728, True.intro⟩⟩
theorem q_w731 : (Jvm.Cond.methodLink "SoulOffice$Tape" (56 : Nat) ({ cls := "SoulOffice$Tape", name := "addRun", desc := "(I)I" } : Jvm.MethodName)) ∈ WS := q_in_tab (q_c3 (j := 143) rfl) rfl
theorem q_w733 : (Jvm.Cond.instanceMethod ({ cls := "SoulOffice$Tape", name := "addRun", desc := "(I)I" } : Jvm.MethodName)) ∈ WS := q_in_tab (q_c3 (j := 145) rfl) rfl
theorem q_w1 : Cond.selects "SoulOffice$Tape" (⟨"SoulOffice$Tape", "addRun", "(I)I"⟩ : MethodName) (⟨"SoulOffice$Tape", "addRun", "(I)I"⟩ : MethodName) ∈ WS := q_in_prv (q := ((⟨"SoulOffice$Tape", "addRun", "(I)I"⟩ : MethodName), 15)) (q_v1 (j := 1) rfl) rfl
theorem q_w734 : (Jvm.Cond.code ({ cls := "SoulOffice$Tape", name := "addRun", desc := "(I)I" } : Jvm.MethodName) prog_12_method_4_code (9 : Nat) (Option.some Jvm.ClassFile.FieldType.int)) ∈ WS := q_in_tab (q_c3 (j := 146) rfl) rfl
theorem q_g10_56 : q_gd 10 (56, 1, 96, 0, 0) := ⟨⟨q_w731, ⟨q_w733, ⟨q_w1, ⟨q_w110, ⟨q_w734, True.intro⟩⟩⟩⟩⟩, True.intro⟩
theorem q_w744 : (Jvm.Cond.static ({ cls := "SoulOffice", name := "isSignByte", desc := "(I)Z" } : Jvm.MethodName)) ∈ WS := q_in_tab (q_c3 (j := 156) rfl) rfl
theorem q_w745 : (Jvm.Cond.code ({ cls := "SoulOffice", name := "isSignByte", desc := "(I)Z" } : Jvm.MethodName) prog_1_method_47_code (1 : Nat) (Option.some Jvm.ClassFile.FieldType.boolean)) ∈ WS := q_in_tab (q_c3 (j := 157) rfl) rfl
theorem q_w743 : (Jvm.Cond.methodLinkNest "SoulOffice$Tape" (60 : Nat) ({ cls := "SoulOffice", name := "isSignByte", desc := "(I)Z" } : Jvm.MethodName) "SoulOffice") ∈ q_NW := q_in_nest (q_c3 (j := 155) rfl) rfl
theorem q_g10_60 : q_gd 10 (60, 3, 155, 0, 0) := ⟨⟨q_w744, ⟨q_w109, ⟨q_w745, True.intro⟩⟩⟩, ⟨q_w743, True.intro⟩⟩
theorem q_w736 : (Jvm.Cond.methodLink "SoulOffice$Tape" (63 : Nat) ({ cls := "SoulOffice$Tape", name := "addToken", desc := "(IIIJ)V" } : Jvm.MethodName)) ∈ WS := q_in_tab (q_c3 (j := 148) rfl) rfl
theorem q_w738 : (Jvm.Cond.instanceMethod ({ cls := "SoulOffice$Tape", name := "addToken", desc := "(IIIJ)V" } : Jvm.MethodName)) ∈ WS := q_in_tab (q_c3 (j := 150) rfl) rfl
theorem q_w2 : Cond.selects "SoulOffice$Tape" (⟨"SoulOffice$Tape", "addToken", "(IIIJ)V"⟩ : MethodName) (⟨"SoulOffice$Tape", "addToken", "(IIIJ)V"⟩ : MethodName) ∈ WS := q_in_prv (q := ((⟨"SoulOffice$Tape", "addToken", "(IIIJ)V"⟩ : MethodName), 15)) (q_v1 (j := 2) rfl) rfl
theorem q_w739 : (Jvm.Cond.code ({ cls := "SoulOffice$Tape", name := "addToken", desc := "(IIIJ)V" } : Jvm.MethodName) prog_12_method_5_code (6 : Nat) (Option.none : Option Jvm.ClassFile.FieldType)) ∈ WS := q_in_tab (q_c3 (j := 151) rfl) rfl
theorem q_g10_63 : q_gd 10 (63, 1, 97, 0, 0) := ⟨⟨q_w736, ⟨q_w738, ⟨q_w2, ⟨q_w110, ⟨q_w739, True.intro⟩⟩⟩⟩⟩, True.intro⟩
theorem q_w213 : (Jvm.Cond.fieldLink "SoulOffice$Tape" (67 : Nat) "SoulOffice$Tape" "next" "I") ∈ WS := q_in_tab (q_c1 (j := 105) rfl) rfl
theorem q_g10_67 : q_gd 10 (67, 0, 10, 8, 0) := ⟨⟨q_w213, True.intro⟩, True.intro⟩
theorem q_w746 : (Jvm.Cond.methodLink "SoulOffice$Tape" (70 : Nat) ({ cls := "SoulOffice$Tape", name := "advance", desc := "()V" } : Jvm.MethodName)) ∈ WS := q_in_tab (q_c3 (j := 158) rfl) rfl
theorem q_g10_70 : q_gd 10 (70, 1, 98, 0, 0) := ⟨⟨q_w746, ⟨q_w747, ⟨q_w748, ⟨q_w110, ⟨q_w749, True.intro⟩⟩⟩⟩⟩, True.intro⟩
theorem q_w200 : (Jvm.Cond.static ({ cls := "SoulOffice", name := "withLetter", desc := "(JI)J" } : Jvm.MethodName)) ∈ WS := q_in_tab (q_c1 (j := 92) rfl) rfl
theorem q_w201 : (Jvm.Cond.code ({ cls := "SoulOffice", name := "withLetter", desc := "(JI)J" } : Jvm.MethodName) prog_1_method_48_code (3 : Nat) (Option.some Jvm.ClassFile.FieldType.long)) ∈ WS := q_in_tab (q_c1 (j := 93) rfl) rfl
theorem q_w735 : (Jvm.Cond.methodLinkNest "SoulOffice$Tape" (73 : Nat) ({ cls := "SoulOffice", name := "withLetter", desc := "(JI)J" } : Jvm.MethodName) "SoulOffice") ∈ q_NW := q_in_nest (q_c3 (j := 147) rfl) rfl
theorem q_g10_73 : q_gd 10 (73, 3, 156, 0, 0) := ⟨⟨q_w200, ⟨q_w109, ⟨q_w201, True.intro⟩⟩⟩, ⟨q_w735, True.intro⟩⟩
theorem q_w740 : (Jvm.Cond.methodLink "SoulOffice$Tape" (77 : Nat) ({ cls := "SoulOffice$Tape", name := "placeOf", desc := "(J[JI)I" } : Jvm.MethodName)) ∈ WS := q_in_tab (q_c3 (j := 152) rfl) rfl
theorem q_g10_77 : q_gd 10 (77, 2, 108, 0, 0) := ⟨⟨q_w740, ⟨q_w741, ⟨q_w110, ⟨q_w742, True.intro⟩⟩⟩⟩, True.intro⟩
theorem q_w217 : (Jvm.Cond.fieldLink "SoulOffice$Tape" (81 : Nat) "SoulOffice$Tape" "sort" "I") ∈ WS := q_in_tab (q_c1 (j := 109) rfl) rfl
theorem q_g10_81 : q_gd 10 (81, 0, 10, 10, 0) := ⟨⟨q_w217, True.intro⟩, True.intro⟩
theorem q_w220 : (Jvm.Cond.fieldLink "SoulOffice$Tape" (84 : Nat) "SoulOffice$Tape" "place" "I") ∈ WS := q_in_tab (q_c1 (j := 112) rfl) rfl
theorem q_g10_84 : q_gd 10 (84, 0, 10, 11, 0) := ⟨⟨q_w220, True.intro⟩, True.intro⟩
theorem q_w222 : (Jvm.Cond.fieldLink "SoulOffice$Tape" (87 : Nat) "SoulOffice$Tape" "number" "I") ∈ WS := q_in_tab (q_c1 (j := 114) rfl) rfl
theorem q_g10_87 : q_gd 10 (87, 0, 10, 12, 0) := ⟨⟨q_w222, True.intro⟩, True.intro⟩
theorem q_w225 : (Jvm.Cond.fieldLink "SoulOffice$Tape" (90 : Nat) "SoulOffice$Tape" "word" "J") ∈ WS := q_in_tab (q_c1 (j := 117) rfl) rfl
theorem q_g10_90 : q_gd 10 (90, 0, 10, 13, 0) := ⟨⟨q_w225, True.intro⟩, True.intro⟩
theorem q_w754 : (Jvm.Cond.methodLink "SoulOffice$Tape" (94 : Nat) ({ cls := "SoulOffice$Tape", name := "refuse", desc := "(I)Z" } : Jvm.MethodName)) ∈ WS := q_in_tab (q_c3 (j := 166) rfl) rfl
theorem q_g10_94 : q_gd 10 (94, 1, 99, 0, 0) := ⟨⟨q_w754, ⟨q_w755, ⟨q_w756, ⟨q_w110, ⟨q_w757, True.intro⟩⟩⟩⟩⟩, True.intro⟩
theorem q_w843 : (Jvm.Cond.methodLink "SoulOffice$Tape" (97 : Nat) ({ cls := "SoulOffice$Tape", name := "isSign", desc := "(C)Z" } : Jvm.MethodName)) ∈ WS := q_in_tab (q_c4 (j := 15) rfl) rfl
theorem q_g10_97 : q_gd 10 (97, 1, 102, 0, 0) := ⟨⟨q_w843, ⟨q_w821, ⟨q_w822, ⟨q_w110, ⟨q_w823, True.intro⟩⟩⟩⟩⟩, True.intro⟩
theorem q_w886 : (Jvm.Cond.methodLink "SoulOffice$Tape" (101 : Nat) ({ cls := "SoulOffice$Tape", name := "isKey", desc := "(I)Z" } : Jvm.MethodName)) ∈ WS := q_in_tab (q_c4 (j := 58) rfl) rfl
theorem q_g10_101 : q_gd 10 (101, 1, 101, 0, 0) := ⟨⟨q_w886, ⟨q_w876, ⟨q_w877, ⟨q_w110, ⟨q_w878, True.intro⟩⟩⟩⟩⟩, True.intro⟩
theorem q_w796 : (Jvm.Cond.methodLink "SoulOffice$Tape" (104 : Nat) ({ cls := "SoulOffice$Tape", name := "nameHere", desc := "([JI)I" } : Jvm.MethodName)) ∈ WS := q_in_tab (q_c3 (j := 208) rfl) rfl
theorem q_g10_104 : q_gd 10 (104, 1, 106, 0, 0) := ⟨⟨q_w796, ⟨q_w797, ⟨q_w798, ⟨q_w110, ⟨q_w799, True.intro⟩⟩⟩⟩⟩, True.intro⟩
theorem q_w138 : (Jvm.Cond.methodLink "SoulOffice" (1 : Nat) ({ cls := "java/lang/Object", name := "<init>", desc := "()V" } : Jvm.MethodName)) ∈ WS := q_in_tab (q_c1 (j := 30) rfl) rfl
theorem q_g11_1 : q_gd 11 (1, 11, 0, 0, 0) := ⟨⟨q_w138, ⟨q_w139, ⟨q_w140, True.intro⟩⟩⟩, True.intro⟩
theorem q_w141 : (Jvm.Cond.classLink "SoulOffice" (7 : Nat) "SoulOffice$Tape") ∈ WS := q_in_tab (q_c1 (j := 33) rfl) rfl
theorem q_w142 : (Jvm.Cond.instantiable "SoulOffice$Tape" (15 : Nat)) ∈ WS := q_in_tab (q_c1 (j := 34) rfl) rfl
theorem q_g11_7 : q_gd 11 (7, 6, 10, 0, 0) := ⟨⟨q_w141, ⟨q_w142, ⟨q_w110, True.intro⟩⟩⟩, True.intro⟩
theorem q_w144 : (Jvm.Cond.instanceMethod ({ cls := "SoulOffice$Tape", name := "<init>", desc := "()V" } : Jvm.MethodName)) ∈ WS := q_in_tab (q_c1 (j := 36) rfl) rfl
theorem q_w145 : (Jvm.Cond.code ({ cls := "SoulOffice$Tape", name := "<init>", desc := "()V" } : Jvm.MethodName) prog_12_method_1_code (1 : Nat) (Option.none : Option Jvm.ClassFile.FieldType)) ∈ WS := q_in_tab (q_c1 (j := 37) rfl) rfl
theorem q_w143 : (Jvm.Cond.methodLinkNest "SoulOffice" (9 : Nat) ({ cls := "SoulOffice$Tape", name := "<init>", desc := "()V" } : Jvm.MethodName) "SoulOffice") ∈ q_NW := q_in_nest (q_c1 (j := 35) rfl) rfl
theorem q_g11_9 : q_gd 11 (9, 5, 93, 0, 0) := ⟨⟨q_w144, ⟨q_w110, ⟨q_w145, True.intro⟩⟩⟩, ⟨q_w143, True.intro⟩⟩
theorem q_w262 : (Jvm.Cond.classLink "SoulOffice" (10 : Nat) "SoulOffice$Rules") ∈ WS := q_in_tab (q_c1 (j := 154) rfl) rfl
theorem q_g11_10 : q_gd 11 (10, 6, 8, 0, 0) := ⟨⟨q_w262, ⟨q_w263, ⟨q_w115, True.intro⟩⟩⟩, True.intro⟩
theorem q_w264 : (Jvm.Cond.methodLinkNest "SoulOffice" (12 : Nat) ({ cls := "SoulOffice$Rules", name := "<init>", desc := "()V" } : Jvm.MethodName) "SoulOffice") ∈ q_NW := q_in_nest (q_c1 (j := 156) rfl) rfl
theorem q_g11_12 : q_gd 11 (12, 5, 69, 0, 0) := ⟨⟨q_w265, ⟨q_w115, ⟨q_w266, True.intro⟩⟩⟩, ⟨q_w264, True.intro⟩⟩
theorem q_w344 : (Jvm.Cond.classLink "SoulOffice" (13 : Nat) "SoulOffice$Life") ∈ WS := q_in_tab (q_c1 (j := 236) rfl) rfl
theorem q_g11_13 : q_gd 11 (13, 6, 4, 0, 0) := ⟨⟨q_w344, ⟨q_w345, ⟨q_w116, True.intro⟩⟩⟩, True.intro⟩
theorem q_w346 : (Jvm.Cond.methodLink "SoulOffice" (15 : Nat) ({ cls := "SoulOffice$Life", name := "<init>", desc := "(LSoulOffice$Rules;)V" } : Jvm.MethodName)) ∈ WS := q_in_tab (q_c1 (j := 238) rfl) rfl
theorem q_g11_15 : q_gd 11 (15, 4, 19, 0, 0) := ⟨⟨q_w346, ⟨q_w347, ⟨q_w116, ⟨q_w348, True.intro⟩⟩⟩⟩, True.intro⟩
theorem q_w406 : (Jvm.Cond.methodLink "SoulOffice" (18 : Nat) ({ cls := "SoulOffice$Life", name := "begin", desc := "()V" } : Jvm.MethodName)) ∈ WS := q_in_tab (q_c2 (j := 58) rfl) rfl
theorem q_w407 : (Jvm.Cond.instanceMethod ({ cls := "SoulOffice$Life", name := "begin", desc := "()V" } : Jvm.MethodName)) ∈ WS := q_in_tab (q_c2 (j := 59) rfl) rfl
theorem q_w408 : (Jvm.Cond.selects "SoulOffice$Life" ({ cls := "SoulOffice$Life", name := "begin", desc := "()V" } : Jvm.MethodName) ({ cls := "SoulOffice$Life", name := "begin", desc := "()V" } : Jvm.MethodName)) ∈ WS := q_in_tab (q_c2 (j := 60) rfl) rfl
theorem q_w409 : (Jvm.Cond.code ({ cls := "SoulOffice$Life", name := "begin", desc := "()V" } : Jvm.MethodName) prog_6_method_2_code (2 : Nat) (Option.none : Option Jvm.ClassFile.FieldType)) ∈ WS := q_in_tab (q_c2 (j := 61) rfl) rfl
theorem q_g11_18 : q_gd 11 (18, 1, 20, 0, 0) := ⟨⟨q_w406, ⟨q_w407, ⟨q_w408, ⟨q_w116, ⟨q_w409, True.intro⟩⟩⟩⟩⟩, True.intro⟩
theorem q_w651 : (Jvm.Cond.fieldLink "SoulOffice" (21 : Nat) "SoulOffice" "tape" "LSoulOffice$Tape;") ∈ WS := q_in_tab (q_c3 (j := 63) rfl) rfl
theorem q_g11_21 : q_gd 11 (21, 0, 11, 0, 0) := ⟨⟨q_w651, True.intro⟩, True.intro⟩
theorem q_w652 : (Jvm.Cond.fieldLink "SoulOffice" (27 : Nat) "SoulOffice" "rules" "LSoulOffice$Rules;") ∈ WS := q_in_tab (q_c3 (j := 64) rfl) rfl
theorem q_g11_27 : q_gd 11 (27, 0, 11, 1, 0) := ⟨⟨q_w652, True.intro⟩, True.intro⟩
theorem q_w653 : (Jvm.Cond.fieldLink "SoulOffice" (31 : Nat) "SoulOffice" "draft" "LSoulOffice$Rules;") ∈ WS := q_in_tab (q_c3 (j := 65) rfl) rfl
theorem q_g11_31 : q_gd 11 (31, 0, 11, 2, 0) := ⟨⟨q_w653, True.intro⟩, True.intro⟩
theorem q_w654 : (Jvm.Cond.fieldLink "SoulOffice" (34 : Nat) "SoulOffice" "life" "LSoulOffice$Life;") ∈ WS := q_in_tab (q_c3 (j := 66) rfl) rfl
theorem q_g11_34 : q_gd 11 (34, 0, 11, 3, 0) := ⟨⟨q_w654, True.intro⟩, True.intro⟩
theorem q_w655 : (Jvm.Cond.fieldLink "SoulOffice" (38 : Nat) "SoulOffice" "trial" "LSoulOffice$Life;") ∈ WS := q_in_tab (q_c3 (j := 67) rfl) rfl
theorem q_g11_38 : q_gd 11 (38, 0, 11, 4, 0) := ⟨⟨q_w655, True.intro⟩, True.intro⟩
theorem q_w413 : (Jvm.Cond.classLink "SoulOffice" (41 : Nat) "SoulOffice$Sentence") ∈ WS := q_in_tab (q_c2 (j := 65) rfl) rfl
theorem q_g11_41 : q_gd 11 (41, 6, 9, 0, 0) := ⟨⟨q_w413, ⟨q_w414, ⟨q_w118, True.intro⟩⟩⟩, True.intro⟩
theorem q_w415 : (Jvm.Cond.methodLink "SoulOffice" (43 : Nat) ({ cls := "SoulOffice$Sentence", name := "<init>", desc := "(LSoulOffice$Tape;LSoulOffice$Rules;)V" } : Jvm.MethodName)) ∈ WS := q_in_tab (q_c2 (j := 67) rfl) rfl
theorem q_g11_43 : q_gd 11 (43, 4, 79, 0, 0) := ⟨⟨q_w415, ⟨q_w416, ⟨q_w118, ⟨q_w417, True.intro⟩⟩⟩⟩, True.intro⟩
theorem q_w656 : (Jvm.Cond.fieldLink "SoulOffice" (46 : Nat) "SoulOffice" "saying" "LSoulOffice$Sentence;") ∈ WS := q_in_tab (q_c3 (j := 68) rfl) rfl
theorem q_g11_46 : q_gd 11 (46, 0, 11, 5, 0) := ⟨⟨q_w656, True.intro⟩, True.intro⟩
theorem q_w657 : (Jvm.Cond.fieldLink "SoulOffice" (50 : Nat) "SoulOffice" "sayingDraft" "LSoulOffice$Sentence;") ∈ WS := q_in_tab (q_c3 (j := 69) rfl) rfl
theorem q_g11_50 : q_gd 11 (50, 0, 11, 6, 0) := ⟨⟨q_w657, True.intro⟩, True.intro⟩
theorem q_w449 : (Jvm.Cond.classLink "SoulOffice" (53 : Nat) "SoulOffice$History") ∈ WS := q_in_tab (q_c2 (j := 101) rfl) rfl
theorem q_w450 : (Jvm.Cond.instantiable "SoulOffice$History" (3 : Nat)) ∈ WS := q_in_tab (q_c2 (j := 102) rfl) rfl
theorem q_w119 : (Jvm.Cond.initialized "SoulOffice$History") ∈ WS := q_in_tab (q_c1 (j := 11) rfl) rfl
theorem q_g11_53 : q_gd 11 (53, 6, 2, 0, 0) := ⟨⟨q_w449, ⟨q_w450, ⟨q_w119, True.intro⟩⟩⟩, True.intro⟩
theorem q_w451 : (Jvm.Cond.methodLink "SoulOffice" (55 : Nat) ({ cls := "SoulOffice$History", name := "<init>", desc := "(LSoulOffice$Rules;)V" } : Jvm.MethodName)) ∈ WS := q_in_tab (q_c2 (j := 103) rfl) rfl
theorem q_w452 : (Jvm.Cond.instanceMethod ({ cls := "SoulOffice$History", name := "<init>", desc := "(LSoulOffice$Rules;)V" } : Jvm.MethodName)) ∈ WS := q_in_tab (q_c2 (j := 104) rfl) rfl
theorem q_w453 : (Jvm.Cond.code ({ cls := "SoulOffice$History", name := "<init>", desc := "(LSoulOffice$Rules;)V" } : Jvm.MethodName) prog_4_method_1_code (3 : Nat) (Option.none : Option Jvm.ClassFile.FieldType)) ∈ WS := q_in_tab (q_c2 (j := 105) rfl) rfl
theorem q_g11_55 : q_gd 11 (55, 4, 12, 0, 0) := ⟨⟨q_w451, ⟨q_w452, ⟨q_w119, ⟨q_w453, True.intro⟩⟩⟩⟩, True.intro⟩
theorem q_w658 : (Jvm.Cond.fieldLink "SoulOffice" (56 : Nat) "SoulOffice" "history" "LSoulOffice$History;") ∈ WS := q_in_tab (q_c3 (j := 70) rfl) rfl
theorem q_g11_56 : q_gd 11 (56, 0, 11, 7, 0) := ⟨⟨q_w658, True.intro⟩, True.intro⟩
theorem q_w468 : (Jvm.Cond.classLink "SoulOffice" (60 : Nat) "SoulOffice$OfficeText") ∈ WS := q_in_tab (q_c2 (j := 120) rfl) rfl
theorem q_w469 : (Jvm.Cond.instantiable "SoulOffice$OfficeText" (2 : Nat)) ∈ WS := q_in_tab (q_c2 (j := 121) rfl) rfl
theorem q_g11_60 : q_gd 11 (60, 6, 7, 0, 0) := ⟨⟨q_w468, ⟨q_w469, ⟨q_w120, True.intro⟩⟩⟩, True.intro⟩
theorem q_w470 : (Jvm.Cond.methodLink "SoulOffice" (62 : Nat) ({ cls := "SoulOffice$OfficeText", name := "<init>", desc := "(LSoulOffice$Tape;LSoulOffice$Rules;)V" } : Jvm.MethodName)) ∈ WS := q_in_tab (q_c2 (j := 122) rfl) rfl
theorem q_w471 : (Jvm.Cond.instanceMethod ({ cls := "SoulOffice$OfficeText", name := "<init>", desc := "(LSoulOffice$Tape;LSoulOffice$Rules;)V" } : Jvm.MethodName)) ∈ WS := q_in_tab (q_c2 (j := 123) rfl) rfl
theorem q_w472 : (Jvm.Cond.code ({ cls := "SoulOffice$OfficeText", name := "<init>", desc := "(LSoulOffice$Tape;LSoulOffice$Rules;)V" } : Jvm.MethodName) prog_9_method_1_code (3 : Nat) (Option.none : Option Jvm.ClassFile.FieldType)) ∈ WS := q_in_tab (q_c2 (j := 124) rfl) rfl
theorem q_g11_62 : q_gd 11 (62, 4, 58, 0, 0) := ⟨⟨q_w470, ⟨q_w471, ⟨q_w120, ⟨q_w472, True.intro⟩⟩⟩⟩, True.intro⟩
theorem q_w660 : (Jvm.Cond.fieldLink "SoulOffice" (63 : Nat) "SoulOffice" "officeText" "LSoulOffice$OfficeText;") ∈ WS := q_in_tab (q_c3 (j := 72) rfl) rfl
theorem q_g11_63 : q_gd 11 (63, 0, 11, 9, 0) := ⟨⟨q_w660, True.intro⟩, True.intro⟩
theorem q_w481 : (Jvm.Cond.classLink "SoulOffice" (67 : Nat) "SoulOffice$Book") ∈ WS := q_in_tab (q_c2 (j := 133) rfl) rfl
theorem q_w482 : (Jvm.Cond.instantiable "SoulOffice$Book" (11 : Nat)) ∈ WS := q_in_tab (q_c2 (j := 134) rfl) rfl
theorem q_g11_67 : q_gd 11 (67, 6, 1, 0, 0) := ⟨⟨q_w481, ⟨q_w482, ⟨q_w121, True.intro⟩⟩⟩, True.intro⟩
theorem q_w483 : (Jvm.Cond.methodLink "SoulOffice" (69 : Nat) ({ cls := "SoulOffice$Book", name := "<init>", desc := "(LSoulOffice$Tape;LSoulOffice$Rules;)V" } : Jvm.MethodName)) ∈ WS := q_in_tab (q_c2 (j := 135) rfl) rfl
theorem q_w484 : (Jvm.Cond.instanceMethod ({ cls := "SoulOffice$Book", name := "<init>", desc := "(LSoulOffice$Tape;LSoulOffice$Rules;)V" } : Jvm.MethodName)) ∈ WS := q_in_tab (q_c2 (j := 136) rfl) rfl
theorem q_w485 : (Jvm.Cond.code ({ cls := "SoulOffice$Book", name := "<init>", desc := "(LSoulOffice$Tape;LSoulOffice$Rules;)V" } : Jvm.MethodName) prog_3_method_1_code (3 : Nat) (Option.none : Option Jvm.ClassFile.FieldType)) ∈ WS := q_in_tab (q_c2 (j := 137) rfl) rfl
theorem q_g11_69 : q_gd 11 (69, 4, 7, 0, 0) := ⟨⟨q_w483, ⟨q_w484, ⟨q_w121, ⟨q_w485, True.intro⟩⟩⟩⟩, True.intro⟩
theorem q_w661 : (Jvm.Cond.fieldLink "SoulOffice" (70 : Nat) "SoulOffice" "book" "LSoulOffice$Book;") ∈ WS := q_in_tab (q_c3 (j := 73) rfl) rfl
theorem q_g11_70 : q_gd 11 (70, 0, 11, 10, 0) := ⟨⟨q_w661, True.intro⟩, True.intro⟩
theorem q_w526 : (Jvm.Cond.classLink "SoulOffice" (74 : Nat) "SoulOffice$MostSearch") ∈ WS := q_in_tab (q_c2 (j := 178) rfl) rfl
theorem q_w527 : (Jvm.Cond.instantiable "SoulOffice$MostSearch" (11 : Nat)) ∈ WS := q_in_tab (q_c2 (j := 179) rfl) rfl
theorem q_g11_74 : q_gd 11 (74, 6, 5, 0, 0) := ⟨⟨q_w526, ⟨q_w527, ⟨q_w122, True.intro⟩⟩⟩, True.intro⟩
theorem q_w528 : (Jvm.Cond.methodLink "SoulOffice" (76 : Nat) ({ cls := "SoulOffice$MostSearch", name := "<init>", desc := "(LSoulOffice$Rules;LSoulOffice$Life;)V" } : Jvm.MethodName)) ∈ WS := q_in_tab (q_c2 (j := 180) rfl) rfl
theorem q_w529 : (Jvm.Cond.instanceMethod ({ cls := "SoulOffice$MostSearch", name := "<init>", desc := "(LSoulOffice$Rules;LSoulOffice$Life;)V" } : Jvm.MethodName)) ∈ WS := q_in_tab (q_c2 (j := 181) rfl) rfl
theorem q_w530 : (Jvm.Cond.code ({ cls := "SoulOffice$MostSearch", name := "<init>", desc := "(LSoulOffice$Rules;LSoulOffice$Life;)V" } : Jvm.MethodName) prog_7_method_1_code (3 : Nat) (Option.none : Option Jvm.ClassFile.FieldType)) ∈ WS := q_in_tab (q_c2 (j := 182) rfl) rfl
theorem q_g11_76 : q_gd 11 (76, 4, 41, 0, 0) := ⟨⟨q_w528, ⟨q_w529, ⟨q_w122, ⟨q_w530, True.intro⟩⟩⟩⟩, True.intro⟩
theorem q_w662 : (Jvm.Cond.fieldLink "SoulOffice" (79 : Nat) "SoulOffice" "mostSearch" "LSoulOffice$MostSearch;") ∈ WS := q_in_tab (q_c3 (j := 74) rfl) rfl
theorem q_g11_79 : q_gd 11 (79, 0, 11, 11, 0) := ⟨⟨q_w662, True.intro⟩, True.intro⟩
theorem q_w570 : (Jvm.Cond.classLink "SoulOffice" (83 : Nat) "SoulOffice$AppealSearch") ∈ WS := q_in_tab (q_c2 (j := 222) rfl) rfl
theorem q_w571 : (Jvm.Cond.instantiable "SoulOffice$AppealSearch" (7 : Nat)) ∈ WS := q_in_tab (q_c2 (j := 223) rfl) rfl
theorem q_g11_83 : q_gd 11 (83, 6, 0, 0, 0) := ⟨⟨q_w570, ⟨q_w571, ⟨q_w123, True.intro⟩⟩⟩, True.intro⟩
theorem q_w572 : (Jvm.Cond.methodLink "SoulOffice" (85 : Nat) ({ cls := "SoulOffice$AppealSearch", name := "<init>", desc := "(LSoulOffice$Rules;LSoulOffice$Life;)V" } : Jvm.MethodName)) ∈ WS := q_in_tab (q_c2 (j := 224) rfl) rfl
theorem q_w573 : (Jvm.Cond.instanceMethod ({ cls := "SoulOffice$AppealSearch", name := "<init>", desc := "(LSoulOffice$Rules;LSoulOffice$Life;)V" } : Jvm.MethodName)) ∈ WS := q_in_tab (q_c2 (j := 225) rfl) rfl
theorem q_w574 : (Jvm.Cond.code ({ cls := "SoulOffice$AppealSearch", name := "<init>", desc := "(LSoulOffice$Rules;LSoulOffice$Life;)V" } : Jvm.MethodName) prog_2_method_1_code (3 : Nat) (Option.none : Option Jvm.ClassFile.FieldType)) ∈ WS := q_in_tab (q_c2 (j := 226) rfl) rfl
theorem q_g11_85 : q_gd 11 (85, 4, 0, 0, 0) := ⟨⟨q_w572, ⟨q_w573, ⟨q_w123, ⟨q_w574, True.intro⟩⟩⟩⟩, True.intro⟩
theorem q_w663 : (Jvm.Cond.fieldLink "SoulOffice" (86 : Nat) "SoulOffice" "appealSearch" "LSoulOffice$AppealSearch;") ∈ WS := q_in_tab (q_c3 (j := 75) rfl) rfl
theorem q_g11_86 : q_gd 11 (86, 0, 11, 12, 0) := ⟨⟨q_w663, True.intro⟩, True.intro⟩
theorem q_w598 : (Jvm.Cond.classLink "SoulOffice" (90 : Nat) "SoulOffice$Nets") ∈ WS := q_in_tab (q_c3 (j := 10) rfl) rfl
theorem q_w599 : (Jvm.Cond.instantiable "SoulOffice$Nets" (6 : Nat)) ∈ WS := q_in_tab (q_c3 (j := 11) rfl) rfl
theorem q_g11_90 : q_gd 11 (90, 6, 6, 0, 0) := ⟨⟨q_w598, ⟨q_w599, ⟨q_w124, True.intro⟩⟩⟩, True.intro⟩
theorem q_w600 : (Jvm.Cond.methodLink "SoulOffice" (92 : Nat) ({ cls := "SoulOffice$Nets", name := "<init>", desc := "(LSoulOffice$Rules;LSoulOffice$Life;)V" } : Jvm.MethodName)) ∈ WS := q_in_tab (q_c3 (j := 12) rfl) rfl
theorem q_w601 : (Jvm.Cond.instanceMethod ({ cls := "SoulOffice$Nets", name := "<init>", desc := "(LSoulOffice$Rules;LSoulOffice$Life;)V" } : Jvm.MethodName)) ∈ WS := q_in_tab (q_c3 (j := 13) rfl) rfl
theorem q_w602 : (Jvm.Cond.code ({ cls := "SoulOffice$Nets", name := "<init>", desc := "(LSoulOffice$Rules;LSoulOffice$Life;)V" } : Jvm.MethodName) prog_8_method_1_code (3 : Nat) (Option.none : Option Jvm.ClassFile.FieldType)) ∈ WS := q_in_tab (q_c3 (j := 14) rfl) rfl
theorem q_g11_92 : q_gd 11 (92, 4, 55, 0, 0) := ⟨⟨q_w600, ⟨q_w601, ⟨q_w124, ⟨q_w602, True.intro⟩⟩⟩⟩, True.intro⟩
theorem q_w664 : (Jvm.Cond.fieldLink "SoulOffice" (93 : Nat) "SoulOffice" "nets" "LSoulOffice$Nets;") ∈ WS := q_in_tab (q_c3 (j := 76) rfl) rfl
theorem q_g11_93 : q_gd 11 (93, 0, 11, 13, 0) := ⟨⟨q_w664, True.intro⟩, True.intro⟩
theorem q_w624 : (Jvm.Cond.classLink "SoulOffice" (97 : Nat) "SoulOffice$Image") ∈ WS := q_in_tab (q_c3 (j := 36) rfl) rfl
theorem q_w626 : (Jvm.Cond.instantiable "SoulOffice$Image" (4 : Nat)) ∈ WS := q_in_tab (q_c3 (j := 38) rfl) rfl
theorem q_w125 : (Jvm.Cond.initialized "SoulOffice$Image") ∈ WS := q_in_tab (q_c1 (j := 17) rfl) rfl
theorem q_g11_97 : q_gd 11 (97, 6, 3, 0, 0) := ⟨⟨q_w624, ⟨q_w626, ⟨q_w125, True.intro⟩⟩⟩, True.intro⟩
theorem q_w627 : (Jvm.Cond.methodLink "SoulOffice" (99 : Nat) ({ cls := "SoulOffice$Image", name := "<init>", desc := "(LSoulOffice$Tape;LSoulOffice$Rules;)V" } : Jvm.MethodName)) ∈ WS := q_in_tab (q_c3 (j := 39) rfl) rfl
theorem q_w628 : (Jvm.Cond.instanceMethod ({ cls := "SoulOffice$Image", name := "<init>", desc := "(LSoulOffice$Tape;LSoulOffice$Rules;)V" } : Jvm.MethodName)) ∈ WS := q_in_tab (q_c3 (j := 40) rfl) rfl
theorem q_w629 : (Jvm.Cond.code ({ cls := "SoulOffice$Image", name := "<init>", desc := "(LSoulOffice$Tape;LSoulOffice$Rules;)V" } : Jvm.MethodName) prog_5_method_1_code (3 : Nat) (Option.none : Option Jvm.ClassFile.FieldType)) ∈ WS := q_in_tab (q_c3 (j := 41) rfl) rfl
theorem q_g11_99 : q_gd 11 (99, 4, 16, 0, 0) := ⟨⟨q_w627, ⟨q_w628, ⟨q_w125, ⟨q_w629, True.intro⟩⟩⟩⟩, True.intro⟩
theorem q_w659 : (Jvm.Cond.fieldLink "SoulOffice" (100 : Nat) "SoulOffice" "images" "[LSoulOffice$Image;") ∈ WS := q_in_tab (q_c3 (j := 71) rfl) rfl
theorem q_g11_100 : q_gd 11 (100, 0, 11, 8, 0) := ⟨⟨q_w659, True.intro⟩, True.intro⟩
theorem q_w665 : (Jvm.Cond.fieldLink "SoulOffice" (104 : Nat) "SoulOffice" "firstWay" "[I") ∈ WS := q_in_tab (q_c3 (j := 77) rfl) rfl
theorem q_g11_104 : q_gd 11 (104, 0, 11, 14, 0) := ⟨⟨q_w665, True.intro⟩, True.intro⟩
theorem q_w205 : (Jvm.Cond.fieldLink "SoulOffice" (108 : Nat) "SoulOffice$Tape" "length" "I") ∈ WS := q_in_tab (q_c1 (j := 97) rfl) rfl
theorem q_g11_108 : q_gd 11 (108, 0, 10, 1, 0) := ⟨⟨q_w205, True.intro⟩, True.intro⟩
theorem q_w701 : (Jvm.Cond.methodLink "SoulOffice" (112 : Nat) ({ cls := "SoulOffice$Tape", name := "addNumber", desc := "(I)V" } : Jvm.MethodName)) ∈ WS := q_in_tab (q_c3 (j := 113) rfl) rfl
theorem q_w702 : (Jvm.Cond.instanceMethod ({ cls := "SoulOffice$Tape", name := "addNumber", desc := "(I)V" } : Jvm.MethodName)) ∈ WS := q_in_tab (q_c3 (j := 114) rfl) rfl
theorem q_w703 : (Jvm.Cond.selects "SoulOffice$Tape" ({ cls := "SoulOffice$Tape", name := "addNumber", desc := "(I)V" } : Jvm.MethodName) ({ cls := "SoulOffice$Tape", name := "addNumber", desc := "(I)V" } : Jvm.MethodName)) ∈ WS := q_in_tab (q_c3 (j := 115) rfl) rfl
theorem q_w704 : (Jvm.Cond.code ({ cls := "SoulOffice$Tape", name := "addNumber", desc := "(I)V" } : Jvm.MethodName) prog_12_method_2_code (3 : Nat) (Option.none : Option Jvm.ClassFile.FieldType)) ∈ WS := q_in_tab (q_c3 (j := 116) rfl) rfl
theorem q_g11_112 : q_gd 11 (112, 1, 94, 0, 0) := ⟨⟨q_w701, ⟨q_w702, ⟨q_w703, ⟨q_w110, ⟨q_w704, True.intro⟩⟩⟩⟩⟩, True.intro⟩
theorem q_w713 : (Jvm.Cond.methodLink "SoulOffice" (116 : Nat) ({ cls := "SoulOffice$OfficeText", name := "readLines", desc := "()I" } : Jvm.MethodName)) ∈ WS := q_in_tab (q_c3 (j := 125) rfl) rfl
theorem q_w714 : (Jvm.Cond.instanceMethod ({ cls := "SoulOffice$OfficeText", name := "readLines", desc := "()I" } : Jvm.MethodName)) ∈ WS := q_in_tab (q_c3 (j := 126) rfl) rfl
theorem q_w715 : (Jvm.Cond.selects "SoulOffice$OfficeText" ({ cls := "SoulOffice$OfficeText", name := "readLines", desc := "()I" } : Jvm.MethodName) ({ cls := "SoulOffice$OfficeText", name := "readLines", desc := "()I" } : Jvm.MethodName)) ∈ WS := q_in_tab (q_c3 (j := 127) rfl) rfl
theorem q_w716 : (Jvm.Cond.code ({ cls := "SoulOffice$OfficeText", name := "readLines", desc := "()I" } : Jvm.MethodName) prog_9_method_2_code (2 : Nat) (Option.some Jvm.ClassFile.FieldType.int)) ∈ WS := q_in_tab (q_c3 (j := 128) rfl) rfl
theorem q_g11_116 : q_gd 11 (116, 1, 59, 0, 0) := ⟨⟨q_w713, ⟨q_w714, ⟨q_w715, ⟨q_w120, ⟨q_w716, True.intro⟩⟩⟩⟩⟩, True.intro⟩
theorem q_w219 : (Jvm.Cond.fieldLink "SoulOffice" (120 : Nat) "SoulOffice$Tape" "place" "I") ∈ WS := q_in_tab (q_c1 (j := 111) rfl) rfl
theorem q_g11_120 : q_gd 11 (120, 0, 10, 11, 0) := ⟨⟨q_w219, True.intro⟩, True.intro⟩
theorem q_w844 : (Jvm.Cond.methodLink "SoulOffice" (123 : Nat) ({ cls := "SoulOffice$Rules", name := "copyFrom", desc := "(LSoulOffice$Rules;)V" } : Jvm.MethodName)) ∈ WS := q_in_tab (q_c4 (j := 16) rfl) rfl
theorem q_g11_123 : q_gd 11 (123, 1, 78, 0, 0) := ⟨⟨q_w844, ⟨q_w845, ⟨q_w846, ⟨q_w115, ⟨q_w847, True.intro⟩⟩⟩⟩⟩, True.intro⟩
theorem q_w849 : (Jvm.Cond.methodLink "SoulOffice" (126 : Nat) ({ cls := "SoulOffice$Sentence", name := "clear", desc := "()V" } : Jvm.MethodName)) ∈ WS := q_in_tab (q_c4 (j := 21) rfl) rfl
theorem q_g11_126 : q_gd 11 (126, 1, 80, 0, 0) := ⟨⟨q_w849, ⟨q_w850, ⟨q_w851, ⟨q_w118, ⟨q_w852, True.intro⟩⟩⟩⟩⟩, True.intro⟩
theorem q_w853 : (Jvm.Cond.methodLink "SoulOffice" (129 : Nat) ({ cls := "SoulOffice$History", name := "clear", desc := "()V" } : Jvm.MethodName)) ∈ WS := q_in_tab (q_c4 (j := 25) rfl) rfl
theorem q_w854 : (Jvm.Cond.instanceMethod ({ cls := "SoulOffice$History", name := "clear", desc := "()V" } : Jvm.MethodName)) ∈ WS := q_in_tab (q_c4 (j := 26) rfl) rfl
theorem q_w855 : (Jvm.Cond.selects "SoulOffice$History" ({ cls := "SoulOffice$History", name := "clear", desc := "()V" } : Jvm.MethodName) ({ cls := "SoulOffice$History", name := "clear", desc := "()V" } : Jvm.MethodName)) ∈ WS := q_in_tab (q_c4 (j := 27) rfl) rfl
theorem q_w856 : (Jvm.Cond.code ({ cls := "SoulOffice$History", name := "clear", desc := "()V" } : Jvm.MethodName) prog_4_method_2_code (1 : Nat) (Option.none : Option Jvm.ClassFile.FieldType)) ∈ WS := q_in_tab (q_c4 (j := 28) rfl) rfl
theorem q_g11_129 : q_gd 11 (129, 1, 13, 0, 0) := ⟨⟨q_w853, ⟨q_w854, ⟨q_w855, ⟨q_w119, ⟨q_w856, True.intro⟩⟩⟩⟩⟩, True.intro⟩
theorem q_w227 : (Jvm.Cond.fieldLink "SoulOffice" (130 : Nat) "SoulOffice$Tape" "faultKind" "I") ∈ WS := q_in_tab (q_c1 (j := 119) rfl) rfl
theorem q_g11_130 : q_gd 11 (130, 0, 10, 14, 0) := ⟨⟨q_w227, True.intro⟩, True.intro⟩
theorem q_w865 : (Jvm.Cond.methodLink "SoulOffice" (133 : Nat) ({ cls := "SoulOffice$Book", name := "readLines", desc := "()Z" } : Jvm.MethodName)) ∈ WS := q_in_tab (q_c4 (j := 37) rfl) rfl
theorem q_w866 : (Jvm.Cond.instanceMethod ({ cls := "SoulOffice$Book", name := "readLines", desc := "()Z" } : Jvm.MethodName)) ∈ WS := q_in_tab (q_c4 (j := 38) rfl) rfl
theorem q_w867 : (Jvm.Cond.selects "SoulOffice$Book" ({ cls := "SoulOffice$Book", name := "readLines", desc := "()Z" } : Jvm.MethodName) ({ cls := "SoulOffice$Book", name := "readLines", desc := "()Z" } : Jvm.MethodName)) ∈ WS := q_in_tab (q_c4 (j := 39) rfl) rfl
theorem q_w868 : (Jvm.Cond.code ({ cls := "SoulOffice$Book", name := "readLines", desc := "()Z" } : Jvm.MethodName) prog_3_method_2_code (2 : Nat) (Option.some Jvm.ClassFile.FieldType.boolean)) ∈ WS := q_in_tab (q_c4 (j := 40) rfl) rfl
theorem q_g11_133 : q_gd 11 (133, 1, 8, 0, 0) := ⟨⟨q_w865, ⟨q_w866, ⟨q_w867, ⟨q_w121, ⟨q_w868, True.intro⟩⟩⟩⟩⟩, True.intro⟩
theorem q_w890 : (Jvm.Cond.methodLink "SoulOffice" (136 : Nat) ({ cls := "SoulOffice$Life", name := "copyFrom", desc := "(LSoulOffice$Life;)V" } : Jvm.MethodName)) ∈ WS := q_in_tab (q_c4 (j := 62) rfl) rfl
theorem q_g11_136 : q_gd 11 (136, 1, 21, 0, 0) := ⟨⟨q_w890, ⟨q_w891, ⟨q_w892, ⟨q_w116, ⟨q_w893, True.intro⟩⟩⟩⟩⟩, True.intro⟩
theorem q_w894 : (Jvm.Cond.methodLink "SoulOffice" (139 : Nat) ({ cls := "SoulOffice$Book", name := "runOn", desc := "(LSoulOffice$Life;)V" } : Jvm.MethodName)) ∈ WS := q_in_tab (q_c4 (j := 66) rfl) rfl
theorem q_w895 : (Jvm.Cond.instanceMethod ({ cls := "SoulOffice$Book", name := "runOn", desc := "(LSoulOffice$Life;)V" } : Jvm.MethodName)) ∈ WS := q_in_tab (q_c4 (j := 67) rfl) rfl
theorem q_w896 : (Jvm.Cond.selects "SoulOffice$Book" ({ cls := "SoulOffice$Book", name := "runOn", desc := "(LSoulOffice$Life;)V" } : Jvm.MethodName) ({ cls := "SoulOffice$Book", name := "runOn", desc := "(LSoulOffice$Life;)V" } : Jvm.MethodName)) ∈ WS := q_in_tab (q_c4 (j := 68) rfl) rfl
theorem q_w897 : (Jvm.Cond.code ({ cls := "SoulOffice$Book", name := "runOn", desc := "(LSoulOffice$Life;)V" } : Jvm.MethodName) prog_3_method_4_code (4 : Nat) (Option.none : Option Jvm.ClassFile.FieldType)) ∈ WS := q_in_tab (q_c4 (j := 69) rfl) rfl
theorem q_g11_139 : q_gd 11 (139, 1, 10, 0, 0) := ⟨⟨q_w894, ⟨q_w895, ⟨q_w896, ⟨q_w121, ⟨q_w897, True.intro⟩⟩⟩⟩⟩, True.intro⟩
theorem q_w498 : (Jvm.Cond.fieldLink "SoulOffice" (142 : Nat) "SoulOffice$Book" "ahead" "I") ∈ WS := q_in_tab (q_c2 (j := 150) rfl) rfl
theorem q_g11_142 : q_gd 11 (142, 0, 1, 8, 0) := ⟨⟨q_w498, True.intro⟩, True.intro⟩
theorem q_w960 : (Jvm.Cond.methodLink "SoulOffice" (145 : Nat) ({ cls := "SoulOffice$History", name := "keep", desc := "(LSoulOffice$Life;)V" } : Jvm.MethodName)) ∈ WS := q_in_tab (q_c4 (j := 132) rfl) rfl
theorem q_w961 : (Jvm.Cond.instanceMethod ({ cls := "SoulOffice$History", name := "keep", desc := "(LSoulOffice$Life;)V" } : Jvm.MethodName)) ∈ WS := q_in_tab (q_c4 (j := 133) rfl) rfl
theorem q_w962 : (Jvm.Cond.selects "SoulOffice$History" ({ cls := "SoulOffice$History", name := "keep", desc := "(LSoulOffice$Life;)V" } : Jvm.MethodName) ({ cls := "SoulOffice$History", name := "keep", desc := "(LSoulOffice$Life;)V" } : Jvm.MethodName)) ∈ WS := q_in_tab (q_c4 (j := 134) rfl) rfl
theorem q_w963 : (Jvm.Cond.code ({ cls := "SoulOffice$History", name := "keep", desc := "(LSoulOffice$Life;)V" } : Jvm.MethodName) prog_4_method_3_code (3 : Nat) (Option.none : Option Jvm.ClassFile.FieldType)) ∈ WS := q_in_tab (q_c4 (j := 135) rfl) rfl
theorem q_g11_145 : q_gd 11 (145, 1, 14, 0, 0) := ⟨⟨q_w960, ⟨q_w961, ⟨q_w962, ⟨q_w119, ⟨q_w963, True.intro⟩⟩⟩⟩⟩, True.intro⟩
theorem q_w496 : (Jvm.Cond.fieldLink "SoulOffice" (148 : Nat) "SoulOffice$Book" "wrong" "I") ∈ WS := q_in_tab (q_c2 (j := 148) rfl) rfl
theorem q_g11_148 : q_gd 11 (148, 0, 1, 7, 0) := ⟨⟨q_w496, True.intro⟩, True.intro⟩
theorem q_w494 : (Jvm.Cond.fieldLink "SoulOffice" (151 : Nat) "SoulOffice$Book" "told" "Z") ∈ WS := q_in_tab (q_c2 (j := 146) rfl) rfl
theorem q_g11_151 : q_gd 11 (151, 0, 1, 6, 0) := ⟨⟨q_w494, True.intro⟩, True.intro⟩
theorem q_w500 : (Jvm.Cond.fieldLink "SoulOffice" (155 : Nat) "SoulOffice$Book" "settledInIt" "I") ∈ WS := q_in_tab (q_c2 (j := 152) rfl) rfl
theorem q_g11_155 : q_gd 11 (155, 0, 1, 9, 0) := ⟨⟨q_w500, True.intro⟩, True.intro⟩
theorem q_w502 : (Jvm.Cond.fieldLink "SoulOffice" (158 : Nat) "SoulOffice$Book" "debtsThen" "I") ∈ WS := q_in_tab (q_c2 (j := 154) rfl) rfl
theorem q_g11_158 : q_gd 11 (158, 0, 1, 10, 0) := ⟨⟨q_w502, True.intro⟩, True.intro⟩
theorem q_w974 : (Jvm.Cond.methodLink "SoulOffice" (161 : Nat) ({ cls := "SoulOffice$Sentence", name := "readText", desc := "()Z" } : Jvm.MethodName)) ∈ WS := q_in_tab (q_c4 (j := 146) rfl) rfl
theorem q_w975 : (Jvm.Cond.instanceMethod ({ cls := "SoulOffice$Sentence", name := "readText", desc := "()Z" } : Jvm.MethodName)) ∈ WS := q_in_tab (q_c4 (j := 147) rfl) rfl
theorem q_w976 : (Jvm.Cond.selects "SoulOffice$Sentence" ({ cls := "SoulOffice$Sentence", name := "readText", desc := "()Z" } : Jvm.MethodName) ({ cls := "SoulOffice$Sentence", name := "readText", desc := "()Z" } : Jvm.MethodName)) ∈ WS := q_in_tab (q_c4 (j := 148) rfl) rfl
theorem q_w977 : (Jvm.Cond.code ({ cls := "SoulOffice$Sentence", name := "readText", desc := "()Z" } : Jvm.MethodName) prog_11_method_4_code (1 : Nat) (Option.some Jvm.ClassFile.FieldType.boolean)) ∈ WS := q_in_tab (q_c4 (j := 149) rfl) rfl
theorem q_g11_161 : q_gd 11 (161, 1, 82, 0, 0) := ⟨⟨q_w974, ⟨q_w975, ⟨q_w976, ⟨q_w118, ⟨q_w977, True.intro⟩⟩⟩⟩⟩, True.intro⟩
theorem q_w1016 : (Jvm.Cond.methodLink "SoulOffice" (164 : Nat) ({ cls := "SoulOffice$Sentence", name := "copyFrom", desc := "(LSoulOffice$Sentence;)V" } : Jvm.MethodName)) ∈ WS := q_in_tab (q_c4 (j := 188) rfl) rfl
theorem q_g11_164 : q_gd 11 (164, 1, 81, 0, 0) := ⟨⟨q_w1016, ⟨q_w1017, ⟨q_w1018, ⟨q_w118, ⟨q_w1019, True.intro⟩⟩⟩⟩⟩, True.intro⟩
theorem q_w429 : (Jvm.Cond.fieldLink "SoulOffice" (167 : Nat) "SoulOffice$Sentence" "ones" "I") ∈ WS := q_in_tab (q_c2 (j := 81) rfl) rfl
theorem q_g11_167 : q_gd 11 (167, 0, 9, 8, 0) := ⟨⟨q_w429, True.intro⟩, True.intro⟩
theorem q_w427 : (Jvm.Cond.fieldLink "SoulOffice" (170 : Nat) "SoulOffice$Sentence" "told" "Z") ∈ WS := q_in_tab (q_c2 (j := 79) rfl) rfl
theorem q_g11_170 : q_gd 11 (170, 0, 9, 7, 0) := ⟨⟨q_w427, True.intro⟩, True.intro⟩
theorem q_w1025 : (Jvm.Cond.methodLink "SoulOffice" (171 : Nat) ({ cls := "SoulOffice$Sentence", name := "soulsSaid", desc := "(LSoulOffice$Life;)I" } : Jvm.MethodName)) ∈ WS := q_in_tab (q_c4 (j := 197) rfl) rfl
theorem q_w1026 : (Jvm.Cond.instanceMethod ({ cls := "SoulOffice$Sentence", name := "soulsSaid", desc := "(LSoulOffice$Life;)I" } : Jvm.MethodName)) ∈ WS := q_in_tab (q_c4 (j := 198) rfl) rfl
theorem q_w1027 : (Jvm.Cond.selects "SoulOffice$Sentence" ({ cls := "SoulOffice$Sentence", name := "soulsSaid", desc := "(LSoulOffice$Life;)I" } : Jvm.MethodName) ({ cls := "SoulOffice$Sentence", name := "soulsSaid", desc := "(LSoulOffice$Life;)I" } : Jvm.MethodName)) ∈ WS := q_in_tab (q_c4 (j := 199) rfl) rfl
theorem q_w1028 : (Jvm.Cond.code ({ cls := "SoulOffice$Sentence", name := "soulsSaid", desc := "(LSoulOffice$Life;)I" } : Jvm.MethodName) prog_11_method_12_code (5 : Nat) (Option.some Jvm.ClassFile.FieldType.int)) ∈ WS := q_in_tab (q_c4 (j := 200) rfl) rfl
theorem q_g11_171 : q_gd 11 (171, 1, 89, 0, 0) := ⟨⟨q_w1025, ⟨q_w1026, ⟨q_w1027, ⟨q_w118, ⟨q_w1028, True.intro⟩⟩⟩⟩⟩, True.intro⟩
theorem q_w1050 : (Jvm.Cond.methodLink "SoulOffice" (175 : Nat) ({ cls := "java/lang/Integer", name := "bitCount", desc := "(I)I" } : Jvm.MethodName)) ∈ WS := q_in_tab (q_c4 (j := 222) rfl) rfl
theorem q_w1051 : (Jvm.Cond.static ({ cls := "java/lang/Integer", name := "bitCount", desc := "(I)I" } : Jvm.MethodName)) ∈ WS := q_in_tab (q_c4 (j := 223) rfl) rfl
theorem q_w132 : (Jvm.Cond.initialized "java/lang/Integer") ∈ WS := q_in_tab (q_c1 (j := 24) rfl) rfl
theorem q_w1052 : (Jvm.Cond.code ({ cls := "java/lang/Integer", name := "bitCount", desc := "(I)I" } : Jvm.MethodName) prog_19_method_49_code (1 : Nat) (Option.some Jvm.ClassFile.FieldType.int)) ∈ WS := q_in_tab (q_c4 (j := 224) rfl) rfl
theorem q_g11_175 : q_gd 11 (175, 2, 267, 0, 0) := ⟨⟨q_w1050, ⟨q_w1051, ⟨q_w132, ⟨q_w1052, True.intro⟩⟩⟩⟩, True.intro⟩
theorem q_w284 : (Jvm.Cond.fieldLink "SoulOffice" (181 : Nat) "SoulOffice$Rules" "souls" "I") ∈ WS := q_in_tab (q_c1 (j := 176) rfl) rfl
theorem q_g11_181 : q_gd 11 (181, 0, 8, 1, 0) := ⟨⟨q_w284, True.intro⟩, True.intro⟩
theorem q_w274 : (Jvm.Cond.fieldLink "SoulOffice" (184 : Nat) "SoulOffice$Rules" "kinds" "I") ∈ WS := q_in_tab (q_c1 (j := 166) rfl) rfl
theorem q_g11_184 : q_gd 11 (184, 0, 8, 0, 0) := ⟨⟨q_w274, True.intro⟩, True.intro⟩
theorem q_w287 : (Jvm.Cond.fieldLink "SoulOffice" (187 : Nat) "SoulOffice$Rules" "grows" "I") ∈ WS := q_in_tab (q_c1 (j := 179) rfl) rfl
theorem q_g11_187 : q_gd 11 (187, 0, 8, 2, 0) := ⟨⟨q_w287, True.intro⟩, True.intro⟩
theorem q_w1064 : (Jvm.Cond.methodLink "SoulOffice" (190 : Nat) ({ cls := "SoulOffice$Rules", name := "isKind", desc := "(I)Z" } : Jvm.MethodName)) ∈ WS := q_in_tab (q_c4 (j := 236) rfl) rfl
theorem q_w1065 : (Jvm.Cond.instanceMethod ({ cls := "SoulOffice$Rules", name := "isKind", desc := "(I)Z" } : Jvm.MethodName)) ∈ WS := q_in_tab (q_c4 (j := 237) rfl) rfl
theorem q_w1066 : (Jvm.Cond.selects "SoulOffice$Rules" ({ cls := "SoulOffice$Rules", name := "isKind", desc := "(I)Z" } : Jvm.MethodName) ({ cls := "SoulOffice$Rules", name := "isKind", desc := "(I)Z" } : Jvm.MethodName)) ∈ WS := q_in_tab (q_c4 (j := 238) rfl) rfl
theorem q_w1067 : (Jvm.Cond.code ({ cls := "SoulOffice$Rules", name := "isKind", desc := "(I)Z" } : Jvm.MethodName) prog_10_method_2_code (2 : Nat) (Option.some Jvm.ClassFile.FieldType.boolean)) ∈ WS := q_in_tab (q_c4 (j := 239) rfl) rfl
theorem q_g11_190 : q_gd 11 (190, 1, 70, 0, 0) := ⟨⟨q_w1064, ⟨q_w1065, ⟨q_w1066, ⟨q_w115, ⟨q_w1067, True.intro⟩⟩⟩⟩⟩, True.intro⟩
theorem q_w300 : (Jvm.Cond.fieldLink "SoulOffice" (194 : Nat) "SoulOffice$Rules" "lifeDays" "[I") ∈ WS := q_in_tab (q_c1 (j := 192) rfl) rfl
theorem q_g11_194 : q_gd 11 (194, 0, 8, 5, 0) := ⟨⟨q_w300, True.intro⟩, True.intro⟩
theorem q_w305 : (Jvm.Cond.fieldLink "SoulOffice" (197 : Nat) "SoulOffice$Rules" "places" "[I") ∈ WS := q_in_tab (q_c1 (j := 197) rfl) rfl
theorem q_g11_197 : q_gd 11 (197, 0, 8, 6, 0) := ⟨⟨q_w305, True.intro⟩, True.intro⟩
theorem q_w376 : (Jvm.Cond.fieldLink "SoulOffice" (200 : Nat) "SoulOffice$Life" "free" "[I") ∈ WS := q_in_tab (q_c2 (j := 28) rfl) rfl
theorem q_g11_200 : q_gd 11 (200, 0, 4, 8, 0) := ⟨⟨q_w376, True.intro⟩, True.intro⟩
theorem q_w1068 : (Jvm.Cond.methodLink "SoulOffice" (203 : Nat) ({ cls := "SoulOffice$Life", name := "livingAs", desc := "(I)I" } : Jvm.MethodName)) ∈ WS := q_in_tab (q_c5 (j := 0) rfl) rfl
theorem q_w1069 : (Jvm.Cond.instanceMethod ({ cls := "SoulOffice$Life", name := "livingAs", desc := "(I)I" } : Jvm.MethodName)) ∈ WS := q_in_tab (q_c5 (j := 1) rfl) rfl
theorem q_w1070 : (Jvm.Cond.selects "SoulOffice$Life" ({ cls := "SoulOffice$Life", name := "livingAs", desc := "(I)I" } : Jvm.MethodName) ({ cls := "SoulOffice$Life", name := "livingAs", desc := "(I)I" } : Jvm.MethodName)) ∈ WS := q_in_tab (q_c5 (j := 2) rfl) rfl
theorem q_w1071 : (Jvm.Cond.code ({ cls := "SoulOffice$Life", name := "livingAs", desc := "(I)I" } : Jvm.MethodName) prog_6_method_10_code (4 : Nat) (Option.some Jvm.ClassFile.FieldType.int)) ∈ WS := q_in_tab (q_c5 (j := 3) rfl) rfl
theorem q_g11_203 : q_gd 11 (203, 1, 28, 0, 0) := ⟨⟨q_w1068, ⟨q_w1069, ⟨q_w1070, ⟨q_w116, ⟨q_w1071, True.intro⟩⟩⟩⟩⟩, True.intro⟩
theorem q_w309 : (Jvm.Cond.fieldLink "SoulOffice" (206 : Nat) "SoulOffice$Rules" "meeting" "[I") ∈ WS := q_in_tab (q_c1 (j := 201) rfl) rfl
theorem q_g11_206 : q_gd 11 (206, 0, 8, 7, 0) := ⟨⟨q_w309, True.intro⟩, True.intro⟩
theorem q_w1076 : (Jvm.Cond.methodLink "SoulOffice" (209 : Nat) ({ cls := "SoulOffice", name := "kindPair", desc := "(II)I" } : Jvm.MethodName)) ∈ WS := q_in_tab (q_c5 (j := 8) rfl) rfl
theorem q_g11_209 : q_gd 11 (209, 2, 152, 0, 0) := ⟨⟨q_w1076, ⟨q_w802, ⟨q_w109, ⟨q_w803, True.intro⟩⟩⟩⟩, True.intro⟩
theorem q_w1081 : (Jvm.Cond.methodLink "SoulOffice" (213 : Nat) ({ cls := "SoulOffice$Rules", name := "isSoul", desc := "(I)Z" } : Jvm.MethodName)) ∈ WS := q_in_tab (q_c5 (j := 13) rfl) rfl
theorem q_w1082 : (Jvm.Cond.instanceMethod ({ cls := "SoulOffice$Rules", name := "isSoul", desc := "(I)Z" } : Jvm.MethodName)) ∈ WS := q_in_tab (q_c5 (j := 14) rfl) rfl
theorem q_w1083 : (Jvm.Cond.selects "SoulOffice$Rules" ({ cls := "SoulOffice$Rules", name := "isSoul", desc := "(I)Z" } : Jvm.MethodName) ({ cls := "SoulOffice$Rules", name := "isSoul", desc := "(I)Z" } : Jvm.MethodName)) ∈ WS := q_in_tab (q_c5 (j := 15) rfl) rfl
theorem q_w1084 : (Jvm.Cond.code ({ cls := "SoulOffice$Rules", name := "isSoul", desc := "(I)Z" } : Jvm.MethodName) prog_10_method_3_code (2 : Nat) (Option.some Jvm.ClassFile.FieldType.boolean)) ∈ WS := q_in_tab (q_c5 (j := 16) rfl) rfl
theorem q_g11_213 : q_gd 11 (213, 1, 71, 0, 0) := ⟨⟨q_w1081, ⟨q_w1082, ⟨q_w1083, ⟨q_w115, ⟨q_w1084, True.intro⟩⟩⟩⟩⟩, True.intro⟩
theorem q_w1353 : (Jvm.Cond.classLink "SoulOffice" (216 : Nat) "java/util/NoSuchElementException") ∈ WS := q_in_tab (q_c6 (j := 45) rfl) rfl
theorem q_g11_216 : q_gd 11 (216, 17, 0, 0, 0) := ⟨⟨q_w1353, True.intro⟩, True.intro⟩
theorem q_w361 : (Jvm.Cond.fieldLink "SoulOffice" (219 : Nat) "SoulOffice$Life" "as" "[I") ∈ WS := q_in_tab (q_c2 (j := 13) rfl) rfl
theorem q_g11_219 : q_gd 11 (219, 0, 4, 4, 0) := ⟨⟨q_w361, True.intro⟩, True.intro⟩
theorem q_w365 : (Jvm.Cond.fieldLink "SoulOffice" (222 : Nat) "SoulOffice$Life" "left" "[I") ∈ WS := q_in_tab (q_c2 (j := 17) rfl) rfl
theorem q_g11_222 : q_gd 11 (222, 0, 4, 5, 0) := ⟨⟨q_w365, True.intro⟩, True.intro⟩
theorem q_w368 : (Jvm.Cond.fieldLink "SoulOffice" (225 : Nat) "SoulOffice$Life" "births" "[I") ∈ WS := q_in_tab (q_c2 (j := 20) rfl) rfl
theorem q_g11_225 : q_gd 11 (225, 0, 4, 6, 0) := ⟨⟨q_w368, True.intro⟩, True.intro⟩
theorem q_w313 : (Jvm.Cond.fieldLink "SoulOffice" (228 : Nat) "SoulOffice$Rules" "may" "[I") ∈ WS := q_in_tab (q_c1 (j := 205) rfl) rfl
theorem q_g11_228 : q_gd 11 (228, 0, 8, 8, 0) := ⟨⟨q_w313, True.intro⟩, True.intro⟩
theorem q_w316 : (Jvm.Cond.fieldLink "SoulOffice" (231 : Nat) "SoulOffice$Rules" "wish" "[I") ∈ WS := q_in_tab (q_c1 (j := 208) rfl) rfl
theorem q_g11_231 : q_gd 11 (231, 0, 8, 9, 0) := ⟨⟨q_w316, True.intro⟩, True.intro⟩
theorem q_w1113 : (Jvm.Cond.methodLink "SoulOffice" (234 : Nat) ({ cls := "SoulOffice$Life", name := "owesInAll", desc := "(I)I" } : Jvm.MethodName)) ∈ WS := q_in_tab (q_c5 (j := 45) rfl) rfl
theorem q_g11_234 : q_gd 11 (234, 1, 22, 0, 0) := ⟨⟨q_w1113, ⟨q_w1039, ⟨q_w1040, ⟨q_w116, ⟨q_w1041, True.intro⟩⟩⟩⟩⟩, True.intro⟩
theorem q_w1114 : (Jvm.Cond.methodLink "SoulOffice" (237 : Nat) ({ cls := "SoulOffice$Life", name := "owedInAll", desc := "(I)I" } : Jvm.MethodName)) ∈ WS := q_in_tab (q_c5 (j := 46) rfl) rfl
theorem q_g11_237 : q_gd 11 (237, 1, 23, 0, 0) := ⟨⟨q_w1114, ⟨q_w1047, ⟨q_w1048, ⟨q_w116, ⟨q_w1049, True.intro⟩⟩⟩⟩⟩, True.intro⟩
theorem q_w372 : (Jvm.Cond.fieldLink "SoulOffice" (240 : Nat) "SoulOffice$Life" "today" "[I") ∈ WS := q_in_tab (q_c2 (j := 24) rfl) rfl
theorem q_g11_240 : q_gd 11 (240, 0, 4, 7, 0) := ⟨⟨q_w372, True.intro⟩, True.intro⟩
theorem q_w379 : (Jvm.Cond.fieldLink "SoulOffice" (243 : Nat) "SoulOffice$Life" "owed" "[I") ∈ WS := q_in_tab (q_c2 (j := 31) rfl) rfl
theorem q_g11_243 : q_gd 11 (243, 0, 4, 9, 0) := ⟨⟨q_w379, True.intro⟩, True.intro⟩
theorem q_w1085 : (Jvm.Cond.methodLink "SoulOffice" (246 : Nat) ({ cls := "SoulOffice", name := "soulPair", desc := "(II)I" } : Jvm.MethodName)) ∈ WS := q_in_tab (q_c5 (j := 17) rfl) rfl
theorem q_g11_246 : q_gd 11 (246, 2, 151, 0, 0) := ⟨⟨q_w1085, ⟨q_w833, ⟨q_w109, ⟨q_w834, True.intro⟩⟩⟩⟩, True.intro⟩
theorem q_w352 : (Jvm.Cond.fieldLink "SoulOffice" (249 : Nat) "SoulOffice$Life" "day" "I") ∈ WS := q_in_tab (q_c2 (j := 4) rfl) rfl
theorem q_g11_249 : q_gd 11 (249, 0, 4, 1, 0) := ⟨⟨q_w352, True.intro⟩, True.intro⟩
theorem q_w1090 : (Jvm.Cond.methodLink "SoulOffice" (252 : Nat) ({ cls := "SoulOffice$Life", name := "allDebts", desc := "()I" } : Jvm.MethodName)) ∈ WS := q_in_tab (q_c5 (j := 22) rfl) rfl
theorem q_g11_252 : q_gd 11 (252, 1, 24, 0, 0) := ⟨⟨q_w1090, ⟨q_w957, ⟨q_w958, ⟨q_w116, ⟨q_w959, True.intro⟩⟩⟩⟩⟩, True.intro⟩
theorem q_w355 : (Jvm.Cond.fieldLink "SoulOffice" (255 : Nat) "SoulOffice$Life" "settledSum" "I") ∈ WS := q_in_tab (q_c2 (j := 7) rfl) rfl
theorem q_g11_255 : q_gd 11 (255, 0, 4, 2, 0) := ⟨⟨q_w355, True.intro⟩, True.intro⟩
theorem q_w357 : (Jvm.Cond.fieldLink "SoulOffice" (258 : Nat) "SoulOffice$Life" "grownSum" "I") ∈ WS := q_in_tab (q_c2 (j := 9) rfl) rfl
theorem q_g11_258 : q_gd 11 (258, 0, 4, 3, 0) := ⟨⟨q_w357, True.intro⟩, True.intro⟩
theorem q_w1091 : (Jvm.Cond.methodLink "SoulOffice" (261 : Nat) ({ cls := "SoulOffice$Life", name := "countWaiting", desc := "()I" } : Jvm.MethodName)) ∈ WS := q_in_tab (q_c5 (j := 23) rfl) rfl
theorem q_w1092 : (Jvm.Cond.instanceMethod ({ cls := "SoulOffice$Life", name := "countWaiting", desc := "()I" } : Jvm.MethodName)) ∈ WS := q_in_tab (q_c5 (j := 24) rfl) rfl
theorem q_w1093 : (Jvm.Cond.selects "SoulOffice$Life" ({ cls := "SoulOffice$Life", name := "countWaiting", desc := "()I" } : Jvm.MethodName) ({ cls := "SoulOffice$Life", name := "countWaiting", desc := "()I" } : Jvm.MethodName)) ∈ WS := q_in_tab (q_c5 (j := 25) rfl) rfl
theorem q_w1094 : (Jvm.Cond.code ({ cls := "SoulOffice$Life", name := "countWaiting", desc := "()I" } : Jvm.MethodName) prog_6_method_8_code (3 : Nat) (Option.some Jvm.ClassFile.FieldType.int)) ∈ WS := q_in_tab (q_c5 (j := 26) rfl) rfl
theorem q_g11_261 : q_gd 11 (261, 1, 26, 0, 0) := ⟨⟨q_w1091, ⟨q_w1092, ⟨q_w1093, ⟨q_w116, ⟨q_w1094, True.intro⟩⟩⟩⟩⟩, True.intro⟩
theorem q_w1095 : (Jvm.Cond.methodLink "SoulOffice" (264 : Nat) ({ cls := "SoulOffice$Life", name := "allBirths", desc := "()I" } : Jvm.MethodName)) ∈ WS := q_in_tab (q_c5 (j := 27) rfl) rfl
theorem q_w1096 : (Jvm.Cond.instanceMethod ({ cls := "SoulOffice$Life", name := "allBirths", desc := "()I" } : Jvm.MethodName)) ∈ WS := q_in_tab (q_c5 (j := 28) rfl) rfl
theorem q_w1097 : (Jvm.Cond.selects "SoulOffice$Life" ({ cls := "SoulOffice$Life", name := "allBirths", desc := "()I" } : Jvm.MethodName) ({ cls := "SoulOffice$Life", name := "allBirths", desc := "()I" } : Jvm.MethodName)) ∈ WS := q_in_tab (q_c5 (j := 29) rfl) rfl
theorem q_w1098 : (Jvm.Cond.code ({ cls := "SoulOffice$Life", name := "allBirths", desc := "()I" } : Jvm.MethodName) prog_6_method_9_code (3 : Nat) (Option.some Jvm.ClassFile.FieldType.int)) ∈ WS := q_in_tab (q_c5 (j := 30) rfl) rfl
theorem q_g11_264 : q_gd 11 (264, 1, 27, 0, 0) := ⟨⟨q_w1095, ⟨q_w1096, ⟨q_w1097, ⟨q_w116, ⟨q_w1098, True.intro⟩⟩⟩⟩⟩, True.intro⟩
theorem q_w1099 : (Jvm.Cond.methodLink "SoulOffice" (267 : Nat) ({ cls := "SoulOffice$Life", name := "countDebts", desc := "()I" } : Jvm.MethodName)) ∈ WS := q_in_tab (q_c5 (j := 31) rfl) rfl
theorem q_w1100 : (Jvm.Cond.instanceMethod ({ cls := "SoulOffice$Life", name := "countDebts", desc := "()I" } : Jvm.MethodName)) ∈ WS := q_in_tab (q_c5 (j := 32) rfl) rfl
theorem q_w1101 : (Jvm.Cond.selects "SoulOffice$Life" ({ cls := "SoulOffice$Life", name := "countDebts", desc := "()I" } : Jvm.MethodName) ({ cls := "SoulOffice$Life", name := "countDebts", desc := "()I" } : Jvm.MethodName)) ∈ WS := q_in_tab (q_c5 (j := 33) rfl) rfl
theorem q_w1102 : (Jvm.Cond.code ({ cls := "SoulOffice$Life", name := "countDebts", desc := "()I" } : Jvm.MethodName) prog_6_method_7_code (3 : Nat) (Option.some Jvm.ClassFile.FieldType.int)) ∈ WS := q_in_tab (q_c5 (j := 34) rfl) rfl
theorem q_g11_267 : q_gd 11 (267, 1, 25, 0, 0) := ⟨⟨q_w1099, ⟨q_w1100, ⟨q_w1101, ⟨q_w116, ⟨q_w1102, True.intro⟩⟩⟩⟩⟩, True.intro⟩
theorem q_w382 : (Jvm.Cond.fieldLink "SoulOffice" (270 : Nat) "SoulOffice$Life" "settledLast" "[I") ∈ WS := q_in_tab (q_c2 (j := 34) rfl) rfl
theorem q_g11_270 : q_gd 11 (270, 0, 4, 10, 0) := ⟨⟨q_w382, True.intro⟩, True.intro⟩
theorem q_w1107 : (Jvm.Cond.methodLink "SoulOffice" (273 : Nat) ({ cls := "java/lang/Math", name := "min", desc := "(II)I" } : Jvm.MethodName)) ∈ WS := q_in_tab (q_c5 (j := 39) rfl) rfl
theorem q_g11_273 : q_gd 11 (273, 16, 0, 0, 0) := ⟨⟨q_w1107, ⟨q_w934, ⟨q_w127, ⟨q_w935, True.intro⟩⟩⟩⟩, True.intro⟩
theorem q_w1108 : (Jvm.Cond.methodLink "SoulOffice" (278 : Nat) ({ cls := "java/lang/Math", name := "max", desc := "(II)I" } : Jvm.MethodName)) ∈ WS := q_in_tab (q_c5 (j := 40) rfl) rfl
theorem q_g11_278 : q_gd 11 (278, 15, 0, 0, 0) := ⟨⟨q_w1108, ⟨q_w763, ⟨q_w127, ⟨q_w764, True.intro⟩⟩⟩⟩, True.intro⟩
theorem q_w1119 : (Jvm.Cond.methodLink "SoulOffice" (281 : Nat) ({ cls := "SoulOffice$Life", name := "whyNot", desc := "(II)I" } : Jvm.MethodName)) ∈ WS := q_in_tab (q_c5 (j := 51) rfl) rfl
theorem q_g11_281 : q_gd 11 (281, 1, 29, 0, 0) := ⟨⟨q_w1119, ⟨q_w903, ⟨q_w904, ⟨q_w116, ⟨q_w905, True.intro⟩⟩⟩⟩⟩, True.intro⟩
theorem q_w1124 : (Jvm.Cond.methodLink "SoulOffice" (284 : Nat) ({ cls := "SoulOffice$Life", name := "giveOut", desc := "(II)V" } : Jvm.MethodName)) ∈ WS := q_in_tab (q_c5 (j := 56) rfl) rfl
theorem q_g11_284 : q_gd 11 (284, 1, 30, 0, 0) := ⟨⟨q_w1124, ⟨q_w908, ⟨q_w909, ⟨q_w116, ⟨q_w910, True.intro⟩⟩⟩⟩⟩, True.intro⟩
theorem q_w1129 : (Jvm.Cond.methodLink "SoulOffice" (288 : Nat) ({ cls := "SoulOffice$Life", name := "canPass", desc := "(I)Z" } : Jvm.MethodName)) ∈ WS := q_in_tab (q_c5 (j := 61) rfl) rfl
theorem q_g11_288 : q_gd 11 (288, 1, 32, 0, 0) := ⟨⟨q_w1129, ⟨q_w916, ⟨q_w917, ⟨q_w116, ⟨q_w918, True.intro⟩⟩⟩⟩⟩, True.intro⟩
theorem q_w1130 : (Jvm.Cond.methodLink "SoulOffice" (291 : Nat) ({ cls := "SoulOffice$Life", name := "passDays", desc := "(I)V" } : Jvm.MethodName)) ∈ WS := q_in_tab (q_c5 (j := 62) rfl) rfl
theorem q_g11_291 : q_gd 11 (291, 1, 33, 0, 0) := ⟨⟨q_w1130, ⟨q_w920, ⟨q_w921, ⟨q_w116, ⟨q_w922, True.intro⟩⟩⟩⟩⟩, True.intro⟩
theorem q_w1135 : (Jvm.Cond.methodLink "SoulOffice" (294 : Nat) ({ cls := "SoulOffice$Life", name := "passClerkDays", desc := "(I)V" } : Jvm.MethodName)) ∈ WS := q_in_tab (q_c5 (j := 67) rfl) rfl
theorem q_g11_294 : q_gd 11 (294, 1, 34, 0, 0) := ⟨⟨q_w1135, ⟨q_w943, ⟨q_w944, ⟨q_w116, ⟨q_w945, True.intro⟩⟩⟩⟩⟩, True.intro⟩
theorem q_w1140 : (Jvm.Cond.methodLink "SoulOffice" (297 : Nat) ({ cls := "SoulOffice$Life", name := "passDrawnDays", desc := "(II)V" } : Jvm.MethodName)) ∈ WS := q_in_tab (q_c5 (j := 72) rfl) rfl
theorem q_w1141 : (Jvm.Cond.instanceMethod ({ cls := "SoulOffice$Life", name := "passDrawnDays", desc := "(II)V" } : Jvm.MethodName)) ∈ WS := q_in_tab (q_c5 (j := 73) rfl) rfl
theorem q_w1142 : (Jvm.Cond.selects "SoulOffice$Life" ({ cls := "SoulOffice$Life", name := "passDrawnDays", desc := "(II)V" } : Jvm.MethodName) ({ cls := "SoulOffice$Life", name := "passDrawnDays", desc := "(II)V" } : Jvm.MethodName)) ∈ WS := q_in_tab (q_c5 (j := 74) rfl) rfl
theorem q_w1143 : (Jvm.Cond.code ({ cls := "SoulOffice$Life", name := "passDrawnDays", desc := "(II)V" } : Jvm.MethodName) prog_6_method_17_code (7 : Nat) (Option.none : Option Jvm.ClassFile.FieldType)) ∈ WS := q_in_tab (q_c5 (j := 75) rfl) rfl
theorem q_g11_297 : q_gd 11 (297, 1, 35, 0, 0) := ⟨⟨q_w1140, ⟨q_w1141, ⟨q_w1142, ⟨q_w116, ⟨q_w1143, True.intro⟩⟩⟩⟩⟩, True.intro⟩
theorem q_w1149 : (Jvm.Cond.methodLink "SoulOffice" (300 : Nat) ({ cls := "SoulOffice$AppealSearch", name := "fewestChanges", desc := "(II)I" } : Jvm.MethodName)) ∈ WS := q_in_tab (q_c5 (j := 81) rfl) rfl
theorem q_w1150 : (Jvm.Cond.instanceMethod ({ cls := "SoulOffice$AppealSearch", name := "fewestChanges", desc := "(II)I" } : Jvm.MethodName)) ∈ WS := q_in_tab (q_c5 (j := 82) rfl) rfl
theorem q_w1151 : (Jvm.Cond.selects "SoulOffice$AppealSearch" ({ cls := "SoulOffice$AppealSearch", name := "fewestChanges", desc := "(II)I" } : Jvm.MethodName) ({ cls := "SoulOffice$AppealSearch", name := "fewestChanges", desc := "(II)I" } : Jvm.MethodName)) ∈ WS := q_in_tab (q_c5 (j := 83) rfl) rfl
theorem q_w1152 : (Jvm.Cond.code ({ cls := "SoulOffice$AppealSearch", name := "fewestChanges", desc := "(II)I" } : Jvm.MethodName) prog_2_method_2_code (6 : Nat) (Option.some Jvm.ClassFile.FieldType.int)) ∈ WS := q_in_tab (q_c5 (j := 84) rfl) rfl
theorem q_g11_300 : q_gd 11 (300, 1, 1, 0, 0) := ⟨⟨q_w1149, ⟨q_w1150, ⟨q_w1151, ⟨q_w123, ⟨q_w1152, True.intro⟩⟩⟩⟩⟩, True.intro⟩
theorem q_w1162 : (Jvm.Cond.methodLink "SoulOffice" (303 : Nat) ({ cls := "SoulOffice", name := "appeal", desc := "(II)I" } : Jvm.MethodName)) ∈ WS := q_in_tab (q_c5 (j := 94) rfl) rfl
theorem q_w1146 : (Jvm.Cond.instanceMethod ({ cls := "SoulOffice", name := "appeal", desc := "(II)I" } : Jvm.MethodName)) ∈ WS := q_in_tab (q_c5 (j := 78) rfl) rfl
theorem q_w1147 : (Jvm.Cond.selects "SoulOffice" ({ cls := "SoulOffice", name := "appeal", desc := "(II)I" } : Jvm.MethodName) ({ cls := "SoulOffice", name := "appeal", desc := "(II)I" } : Jvm.MethodName)) ∈ WS := q_in_tab (q_c5 (j := 79) rfl) rfl
theorem q_w1148 : (Jvm.Cond.code ({ cls := "SoulOffice", name := "appeal", desc := "(II)I" } : Jvm.MethodName) prog_1_method_23_code (3 : Nat) (Option.some Jvm.ClassFile.FieldType.int)) ∈ WS := q_in_tab (q_c5 (j := 80) rfl) rfl
theorem q_g11_303 : q_gd 11 (303, 1, 131, 0, 0) := ⟨⟨q_w1162, ⟨q_w1146, ⟨q_w1147, ⟨q_w109, ⟨q_w1148, True.intro⟩⟩⟩⟩⟩, True.intro⟩
theorem q_w1163 : (Jvm.Cond.methodLink "SoulOffice" (306 : Nat) ({ cls := "SoulOffice$AppealSearch", name := "findChanges", desc := "(III)Z" } : Jvm.MethodName)) ∈ WS := q_in_tab (q_c5 (j := 95) rfl) rfl
theorem q_w1164 : (Jvm.Cond.instanceMethod ({ cls := "SoulOffice$AppealSearch", name := "findChanges", desc := "(III)Z" } : Jvm.MethodName)) ∈ WS := q_in_tab (q_c5 (j := 96) rfl) rfl
theorem q_w1165 : (Jvm.Cond.selects "SoulOffice$AppealSearch" ({ cls := "SoulOffice$AppealSearch", name := "findChanges", desc := "(III)Z" } : Jvm.MethodName) ({ cls := "SoulOffice$AppealSearch", name := "findChanges", desc := "(III)Z" } : Jvm.MethodName)) ∈ WS := q_in_tab (q_c5 (j := 97) rfl) rfl
theorem q_w1166 : (Jvm.Cond.code ({ cls := "SoulOffice$AppealSearch", name := "findChanges", desc := "(III)Z" } : Jvm.MethodName) prog_2_method_4_code (4 : Nat) (Option.some Jvm.ClassFile.FieldType.boolean)) ∈ WS := q_in_tab (q_c5 (j := 98) rfl) rfl
theorem q_g11_306 : q_gd 11 (306, 1, 3, 0, 0) := ⟨⟨q_w1163, ⟨q_w1164, ⟨q_w1165, ⟨q_w123, ⟨q_w1166, True.intro⟩⟩⟩⟩⟩, True.intro⟩
theorem q_w1180 : (Jvm.Cond.methodLink "SoulOffice" (310 : Nat) ({ cls := "SoulOffice$AppealSearch", name := "changeKinds", desc := "()V" } : Jvm.MethodName)) ∈ WS := q_in_tab (q_c5 (j := 112) rfl) rfl
theorem q_w1181 : (Jvm.Cond.instanceMethod ({ cls := "SoulOffice$AppealSearch", name := "changeKinds", desc := "()V" } : Jvm.MethodName)) ∈ WS := q_in_tab (q_c5 (j := 113) rfl) rfl
theorem q_w1182 : (Jvm.Cond.selects "SoulOffice$AppealSearch" ({ cls := "SoulOffice$AppealSearch", name := "changeKinds", desc := "()V" } : Jvm.MethodName) ({ cls := "SoulOffice$AppealSearch", name := "changeKinds", desc := "()V" } : Jvm.MethodName)) ∈ WS := q_in_tab (q_c5 (j := 114) rfl) rfl
theorem q_w1183 : (Jvm.Cond.code ({ cls := "SoulOffice$AppealSearch", name := "changeKinds", desc := "()V" } : Jvm.MethodName) prog_2_method_8_code (2 : Nat) (Option.none : Option Jvm.ClassFile.FieldType)) ∈ WS := q_in_tab (q_c5 (j := 115) rfl) rfl
theorem q_g11_310 : q_gd 11 (310, 1, 6, 0, 0) := ⟨⟨q_w1180, ⟨q_w1181, ⟨q_w1182, ⟨q_w123, ⟨q_w1183, True.intro⟩⟩⟩⟩⟩, True.intro⟩
theorem q_w1189 : (Jvm.Cond.methodLink "SoulOffice" (313 : Nat) ({ cls := "SoulOffice$History", name := "takeBack", desc := "(LSoulOffice$Life;)I" } : Jvm.MethodName)) ∈ WS := q_in_tab (q_c5 (j := 121) rfl) rfl
theorem q_w1190 : (Jvm.Cond.instanceMethod ({ cls := "SoulOffice$History", name := "takeBack", desc := "(LSoulOffice$Life;)I" } : Jvm.MethodName)) ∈ WS := q_in_tab (q_c5 (j := 122) rfl) rfl
theorem q_w1191 : (Jvm.Cond.selects "SoulOffice$History" ({ cls := "SoulOffice$History", name := "takeBack", desc := "(LSoulOffice$Life;)I" } : Jvm.MethodName) ({ cls := "SoulOffice$History", name := "takeBack", desc := "(LSoulOffice$Life;)I" } : Jvm.MethodName)) ∈ WS := q_in_tab (q_c5 (j := 123) rfl) rfl
theorem q_w1192 : (Jvm.Cond.code ({ cls := "SoulOffice$History", name := "takeBack", desc := "(LSoulOffice$Life;)I" } : Jvm.MethodName) prog_4_method_4_code (3 : Nat) (Option.some Jvm.ClassFile.FieldType.int)) ∈ WS := q_in_tab (q_c5 (j := 124) rfl) rfl
theorem q_g11_313 : q_gd 11 (313, 1, 15, 0, 0) := ⟨⟨q_w1189, ⟨q_w1190, ⟨q_w1191, ⟨q_w119, ⟨q_w1192, True.intro⟩⟩⟩⟩⟩, True.intro⟩
theorem q_w1197 : (Jvm.Cond.methodLink "SoulOffice" (316 : Nat) ({ cls := "SoulOffice$Image", name := "keep", desc := "(LSoulOffice$Rules;LSoulOffice$Life;LSoulOffice$Sentence;)V" } : Jvm.MethodName)) ∈ WS := q_in_tab (q_c5 (j := 129) rfl) rfl
theorem q_w1198 : (Jvm.Cond.instanceMethod ({ cls := "SoulOffice$Image", name := "keep", desc := "(LSoulOffice$Rules;LSoulOffice$Life;LSoulOffice$Sentence;)V" } : Jvm.MethodName)) ∈ WS := q_in_tab (q_c5 (j := 130) rfl) rfl
theorem q_w1199 : (Jvm.Cond.selects "SoulOffice$Image" ({ cls := "SoulOffice$Image", name := "keep", desc := "(LSoulOffice$Rules;LSoulOffice$Life;LSoulOffice$Sentence;)V" } : Jvm.MethodName) ({ cls := "SoulOffice$Image", name := "keep", desc := "(LSoulOffice$Rules;LSoulOffice$Life;LSoulOffice$Sentence;)V" } : Jvm.MethodName)) ∈ WS := q_in_tab (q_c5 (j := 131) rfl) rfl
theorem q_w1200 : (Jvm.Cond.code ({ cls := "SoulOffice$Image", name := "keep", desc := "(LSoulOffice$Rules;LSoulOffice$Life;LSoulOffice$Sentence;)V" } : Jvm.MethodName) prog_5_method_2_code (4 : Nat) (Option.none : Option Jvm.ClassFile.FieldType)) ∈ WS := q_in_tab (q_c5 (j := 132) rfl) rfl
theorem q_g11_316 : q_gd 11 (316, 1, 17, 0, 0) := ⟨⟨q_w1197, ⟨q_w1198, ⟨q_w1199, ⟨q_w125, ⟨q_w1200, True.intro⟩⟩⟩⟩⟩, True.intro⟩
theorem q_w641 : (Jvm.Cond.fieldLink "SoulOffice" (319 : Nat) "SoulOffice$Image" "kept" "Z") ∈ WS := q_in_tab (q_c3 (j := 53) rfl) rfl
theorem q_g11_319 : q_gd 11 (319, 0, 3, 3, 0) := ⟨⟨q_w641, True.intro⟩, True.intro⟩
theorem q_w1208 : (Jvm.Cond.methodLink "SoulOffice" (322 : Nat) ({ cls := "SoulOffice$Image", name := "putBack", desc := "(LSoulOffice$Rules;LSoulOffice$Life;LSoulOffice$Sentence;)V" } : Jvm.MethodName)) ∈ WS := q_in_tab (q_c5 (j := 140) rfl) rfl
theorem q_w1209 : (Jvm.Cond.instanceMethod ({ cls := "SoulOffice$Image", name := "putBack", desc := "(LSoulOffice$Rules;LSoulOffice$Life;LSoulOffice$Sentence;)V" } : Jvm.MethodName)) ∈ WS := q_in_tab (q_c5 (j := 141) rfl) rfl
theorem q_w1210 : (Jvm.Cond.selects "SoulOffice$Image" ({ cls := "SoulOffice$Image", name := "putBack", desc := "(LSoulOffice$Rules;LSoulOffice$Life;LSoulOffice$Sentence;)V" } : Jvm.MethodName) ({ cls := "SoulOffice$Image", name := "putBack", desc := "(LSoulOffice$Rules;LSoulOffice$Life;LSoulOffice$Sentence;)V" } : Jvm.MethodName)) ∈ WS := q_in_tab (q_c5 (j := 142) rfl) rfl
theorem q_w1211 : (Jvm.Cond.code ({ cls := "SoulOffice$Image", name := "putBack", desc := "(LSoulOffice$Rules;LSoulOffice$Life;LSoulOffice$Sentence;)V" } : Jvm.MethodName) prog_5_method_3_code (4 : Nat) (Option.none : Option Jvm.ClassFile.FieldType)) ∈ WS := q_in_tab (q_c5 (j := 143) rfl) rfl
theorem q_g11_322 : q_gd 11 (322, 1, 18, 0, 0) := ⟨⟨q_w1208, ⟨q_w1209, ⟨q_w1210, ⟨q_w125, ⟨q_w1211, True.intro⟩⟩⟩⟩⟩, True.intro⟩
theorem q_w1216 : (Jvm.Cond.methodLink "SoulOffice" (325 : Nat) ({ cls := "SoulOffice$MostSearch", name := "mostSettled", desc := "(I)I" } : Jvm.MethodName)) ∈ WS := q_in_tab (q_c5 (j := 148) rfl) rfl
theorem q_w1217 : (Jvm.Cond.instanceMethod ({ cls := "SoulOffice$MostSearch", name := "mostSettled", desc := "(I)I" } : Jvm.MethodName)) ∈ WS := q_in_tab (q_c5 (j := 149) rfl) rfl
theorem q_w1218 : (Jvm.Cond.selects "SoulOffice$MostSearch" ({ cls := "SoulOffice$MostSearch", name := "mostSettled", desc := "(I)I" } : Jvm.MethodName) ({ cls := "SoulOffice$MostSearch", name := "mostSettled", desc := "(I)I" } : Jvm.MethodName)) ∈ WS := q_in_tab (q_c5 (j := 150) rfl) rfl
theorem q_w1219 : (Jvm.Cond.code ({ cls := "SoulOffice$MostSearch", name := "mostSettled", desc := "(I)I" } : Jvm.MethodName) prog_7_method_4_code (3 : Nat) (Option.some Jvm.ClassFile.FieldType.int)) ∈ WS := q_in_tab (q_c5 (j := 151) rfl) rfl
theorem q_g11_325 : q_gd 11 (325, 1, 44, 0, 0) := ⟨⟨q_w1216, ⟨q_w1217, ⟨q_w1218, ⟨q_w122, ⟨q_w1219, True.intro⟩⟩⟩⟩⟩, True.intro⟩
theorem q_w1274 : (Jvm.Cond.methodLink "SoulOffice" (328 : Nat) ({ cls := "SoulOffice$MostSearch", name := "toldOf", desc := "(I)I" } : Jvm.MethodName)) ∈ WS := q_in_tab (q_c5 (j := 206) rfl) rfl
theorem q_w1275 : (Jvm.Cond.instanceMethod ({ cls := "SoulOffice$MostSearch", name := "toldOf", desc := "(I)I" } : Jvm.MethodName)) ∈ WS := q_in_tab (q_c5 (j := 207) rfl) rfl
theorem q_w1276 : (Jvm.Cond.selects "SoulOffice$MostSearch" ({ cls := "SoulOffice$MostSearch", name := "toldOf", desc := "(I)I" } : Jvm.MethodName) ({ cls := "SoulOffice$MostSearch", name := "toldOf", desc := "(I)I" } : Jvm.MethodName)) ∈ WS := q_in_tab (q_c5 (j := 208) rfl) rfl
theorem q_w1277 : (Jvm.Cond.code ({ cls := "SoulOffice$MostSearch", name := "toldOf", desc := "(I)I" } : Jvm.MethodName) prog_7_method_3_code (2 : Nat) (Option.some Jvm.ClassFile.FieldType.int)) ∈ WS := q_in_tab (q_c5 (j := 209) rfl) rfl
theorem q_g11_328 : q_gd 11 (328, 1, 43, 0, 0) := ⟨⟨q_w1274, ⟨q_w1275, ⟨q_w1276, ⟨q_w122, ⟨q_w1277, True.intro⟩⟩⟩⟩⟩, True.intro⟩
theorem q_w1282 : (Jvm.Cond.methodLink "SoulOffice" (331 : Nat) ({ cls := "SoulOffice$Rules", name := "canSettle", desc := "(II)Z" } : Jvm.MethodName)) ∈ WS := q_in_tab (q_c5 (j := 214) rfl) rfl
theorem q_w1283 : (Jvm.Cond.instanceMethod ({ cls := "SoulOffice$Rules", name := "canSettle", desc := "(II)Z" } : Jvm.MethodName)) ∈ WS := q_in_tab (q_c5 (j := 215) rfl) rfl
theorem q_w1284 : (Jvm.Cond.selects "SoulOffice$Rules" ({ cls := "SoulOffice$Rules", name := "canSettle", desc := "(II)Z" } : Jvm.MethodName) ({ cls := "SoulOffice$Rules", name := "canSettle", desc := "(II)Z" } : Jvm.MethodName)) ∈ WS := q_in_tab (q_c5 (j := 216) rfl) rfl
theorem q_w1285 : (Jvm.Cond.code ({ cls := "SoulOffice$Rules", name := "canSettle", desc := "(II)Z" } : Jvm.MethodName) prog_10_method_5_code (5 : Nat) (Option.some Jvm.ClassFile.FieldType.boolean)) ∈ WS := q_in_tab (q_c5 (j := 217) rfl) rfl
theorem q_g11_331 : q_gd 11 (331, 1, 73, 0, 0) := ⟨⟨q_w1282, ⟨q_w1283, ⟨q_w1284, ⟨q_w115, ⟨q_w1285, True.intro⟩⟩⟩⟩⟩, True.intro⟩
theorem q_w1292 : (Jvm.Cond.methodLink "SoulOffice" (335 : Nat) ({ cls := "SoulOffice$Nets", name := "mostGroups", desc := "()I" } : Jvm.MethodName)) ∈ WS := q_in_tab (q_c5 (j := 224) rfl) rfl
theorem q_w1293 : (Jvm.Cond.instanceMethod ({ cls := "SoulOffice$Nets", name := "mostGroups", desc := "()I" } : Jvm.MethodName)) ∈ WS := q_in_tab (q_c5 (j := 225) rfl) rfl
theorem q_w1294 : (Jvm.Cond.selects "SoulOffice$Nets" ({ cls := "SoulOffice$Nets", name := "mostGroups", desc := "()I" } : Jvm.MethodName) ({ cls := "SoulOffice$Nets", name := "mostGroups", desc := "()I" } : Jvm.MethodName)) ∈ WS := q_in_tab (q_c5 (j := 226) rfl) rfl
theorem q_w1295 : (Jvm.Cond.code ({ cls := "SoulOffice$Nets", name := "mostGroups", desc := "()I" } : Jvm.MethodName) prog_8_method_2_code (5 : Nat) (Option.some Jvm.ClassFile.FieldType.int)) ∈ WS := q_in_tab (q_c5 (j := 227) rfl) rfl
theorem q_g11_335 : q_gd 11 (335, 1, 56, 0, 0) := ⟨⟨q_w1292, ⟨q_w1293, ⟨q_w1294, ⟨q_w124, ⟨q_w1295, True.intro⟩⟩⟩⟩⟩, True.intro⟩
theorem q_w610 : (Jvm.Cond.fieldLink "SoulOffice" (338 : Nat) "SoulOffice$Nets" "size" "I") ∈ WS := q_in_tab (q_c3 (j := 22) rfl) rfl
theorem q_g11_338 : q_gd 11 (338, 0, 6, 5, 0) := ⟨⟨q_w610, True.intro⟩, True.intro⟩
theorem q_w1311 : (Jvm.Cond.methodLink "SoulOffice" (341 : Nat) ({ cls := "SoulOffice", name := "countWays", desc := "(II)I" } : Jvm.MethodName)) ∈ WS := q_in_tab (q_c6 (j := 3) rfl) rfl
theorem q_w1313 : (Jvm.Cond.instanceMethod ({ cls := "SoulOffice", name := "countWays", desc := "(II)I" } : Jvm.MethodName)) ∈ WS := q_in_tab (q_c6 (j := 5) rfl) rfl
theorem q_w43 : Cond.selects "SoulOffice" (⟨"SoulOffice", "countWays", "(II)I"⟩ : MethodName) (⟨"SoulOffice", "countWays", "(II)I"⟩ : MethodName) ∈ WS := q_in_prv (q := ((⟨"SoulOffice", "countWays", "(II)I"⟩ : MethodName), 15)) (q_v3 (j := 11) rfl) rfl
theorem q_w1314 : (Jvm.Cond.code ({ cls := "SoulOffice", name := "countWays", desc := "(II)I" } : Jvm.MethodName) prog_1_method_40_code (7 : Nat) (Option.some Jvm.ClassFile.FieldType.int)) ∈ WS := q_in_tab (q_c6 (j := 6) rfl) rfl
theorem q_g11_341 : q_gd 11 (341, 1, 148, 0, 0) := ⟨⟨q_w1311, ⟨q_w1313, ⟨q_w43, ⟨q_w109, ⟨q_w1314, True.intro⟩⟩⟩⟩⟩, True.intro⟩
theorem q_w1340 : (Jvm.Cond.methodLink "SoulOffice" (344 : Nat) ({ cls := "SoulOffice$Life", name := "giveByClerk", desc := "()V" } : Jvm.MethodName)) ∈ WS := q_in_tab (q_c6 (j := 32) rfl) rfl
theorem q_g11_344 : q_gd 11 (344, 1, 36, 0, 0) := ⟨⟨q_w1340, ⟨q_w947, ⟨q_w948, ⟨q_w116, ⟨q_w949, True.intro⟩⟩⟩⟩⟩, True.intro⟩
theorem q_w1315 : (Jvm.Cond.methodLink "SoulOffice" (347 : Nat) ({ cls := "SoulOffice$Rules", name := "mayBe", desc := "(II)Z" } : Jvm.MethodName)) ∈ WS := q_in_tab (q_c6 (j := 7) rfl) rfl
theorem q_g11_347 : q_gd 11 (347, 1, 72, 0, 0) := ⟨⟨q_w1315, ⟨q_w817, ⟨q_w818, ⟨q_w115, ⟨q_w819, True.intro⟩⟩⟩⟩⟩, True.intro⟩
theorem q_w1316 : (Jvm.Cond.methodLink "SoulOffice" (350 : Nat) ({ cls := "SoulOffice", name := "looksLike", desc := "(III)Z" } : Jvm.MethodName)) ∈ WS := q_in_tab (q_c6 (j := 8) rfl) rfl
theorem q_w1318 : (Jvm.Cond.instanceMethod ({ cls := "SoulOffice", name := "looksLike", desc := "(III)Z" } : Jvm.MethodName)) ∈ WS := q_in_tab (q_c6 (j := 10) rfl) rfl
theorem q_w44 : Cond.selects "SoulOffice" (⟨"SoulOffice", "looksLike", "(III)Z"⟩ : MethodName) (⟨"SoulOffice", "looksLike", "(III)Z"⟩ : MethodName) ∈ WS := q_in_prv (q := ((⟨"SoulOffice", "looksLike", "(III)Z"⟩ : MethodName), 15)) (q_v3 (j := 12) rfl) rfl
theorem q_w1319 : (Jvm.Cond.code ({ cls := "SoulOffice", name := "looksLike", desc := "(III)Z" } : Jvm.MethodName) prog_1_method_41_code (7 : Nat) (Option.some Jvm.ClassFile.FieldType.boolean)) ∈ WS := q_in_tab (q_c6 (j := 11) rfl) rfl
theorem q_g11_350 : q_gd 11 (350, 1, 149, 0, 0) := ⟨⟨q_w1316, ⟨q_w1318, ⟨q_w44, ⟨q_w109, ⟨q_w1319, True.intro⟩⟩⟩⟩⟩, True.intro⟩
theorem q_w1320 : (Jvm.Cond.methodLink "SoulOffice" (353 : Nat) ({ cls := "SoulOffice", name := "keepFirstWay", desc := "(III)V" } : Jvm.MethodName)) ∈ WS := q_in_tab (q_c6 (j := 12) rfl) rfl
theorem q_w1322 : (Jvm.Cond.instanceMethod ({ cls := "SoulOffice", name := "keepFirstWay", desc := "(III)V" } : Jvm.MethodName)) ∈ WS := q_in_tab (q_c6 (j := 14) rfl) rfl
theorem q_w45 : Cond.selects "SoulOffice" (⟨"SoulOffice", "keepFirstWay", "(III)V"⟩ : MethodName) (⟨"SoulOffice", "keepFirstWay", "(III)V"⟩ : MethodName) ∈ WS := q_in_prv (q := ((⟨"SoulOffice", "keepFirstWay", "(III)V"⟩ : MethodName), 15)) (q_v3 (j := 13) rfl) rfl
theorem q_w1323 : (Jvm.Cond.code ({ cls := "SoulOffice", name := "keepFirstWay", desc := "(III)V" } : Jvm.MethodName) prog_1_method_42_code (4 : Nat) (Option.none : Option Jvm.ClassFile.FieldType)) ∈ WS := q_in_tab (q_c6 (j := 15) rfl) rfl
theorem q_g11_353 : q_gd 11 (353, 1, 150, 0, 0) := ⟨⟨q_w1320, ⟨q_w1322, ⟨q_w45, ⟨q_w109, ⟨q_w1323, True.intro⟩⟩⟩⟩⟩, True.intro⟩
theorem q_w204 : (Jvm.Cond.fieldLink "SoulOffice" (357 : Nat) "SoulOffice$Tape" "bytes" "[I") ∈ WS := q_in_tab (q_c1 (j := 96) rfl) rfl
theorem q_g11_357 : q_gd 11 (357, 0, 10, 0, 0) := ⟨⟨q_w204, True.intro⟩, True.intro⟩
theorem q_w202 : (Jvm.Cond.constantLong "SoulOffice" (360 : Nat) (32 : Int64)) ∈ WS := q_in_tab (q_c1 (j := 94) rfl) rfl
theorem q_g11_360 : q_gd 11 (360, 9, 0, 0, 32) := ⟨⟨q_w202, True.intro⟩, True.intro⟩
theorem q_w199 : (Jvm.Cond.methodLink "SoulOffice" (372 : Nat) ({ cls := "SoulOffice", name := "withLetter", desc := "(JI)J" } : Jvm.MethodName)) ∈ WS := q_in_tab (q_c1 (j := 91) rfl) rfl
theorem q_g11_372 : q_gd 11 (372, 2, 156, 0, 0) := ⟨⟨q_w199, ⟨q_w200, ⟨q_w109, ⟨q_w201, True.intro⟩⟩⟩⟩, True.intro⟩
theorem q_w1463 : (Jvm.Cond.fieldLink "SoulOfficeModel" (1 : Nat) "SoulOfficeModel" "thrown" "I") ∈ WS := q_in_tab (q_c6 (j := 155) rfl) rfl
theorem q_g12_1 : q_gd 12 (1, 0, 12, 0, 0) := ⟨⟨q_w1463, True.intro⟩, True.intro⟩
theorem q_w1465 : (Jvm.Cond.fieldLink "SoulOfficeModel" (7 : Nat) "SoulOfficeModel" "length" "I") ∈ WS := q_in_tab (q_c6 (j := 157) rfl) rfl
theorem q_g12_7 : q_gd 12 (7, 0, 12, 2, 0) := ⟨⟨q_w1465, True.intro⟩, True.intro⟩
theorem q_w1429 : (Jvm.Cond.methodLink "SoulOfficeModel" (10 : Nat) ({ cls := "SoulOfficeModel", name := "four", desc := "(I)V" } : Jvm.MethodName)) ∈ WS := q_in_tab (q_c6 (j := 121) rfl) rfl
theorem q_w1431 : (Jvm.Cond.instanceMethod ({ cls := "SoulOfficeModel", name := "four", desc := "(I)V" } : Jvm.MethodName)) ∈ WS := q_in_tab (q_c6 (j := 123) rfl) rfl
theorem q_w47 : Cond.selects "SoulOfficeModel" (⟨"SoulOfficeModel", "four", "(I)V"⟩ : MethodName) (⟨"SoulOfficeModel", "four", "(I)V"⟩ : MethodName) ∈ WS := q_in_prv (q := ((⟨"SoulOfficeModel", "four", "(I)V"⟩ : MethodName), 49)) (q_v3 (j := 15) rfl) rfl
theorem q_w126 : (Jvm.Cond.initialized "SoulOfficeModel") ∈ WS := q_in_tab (q_c1 (j := 18) rfl) rfl
theorem q_w1433 : (Jvm.Cond.code ({ cls := "SoulOfficeModel", name := "four", desc := "(I)V" } : Jvm.MethodName) prog_14_method_4_code (3 : Nat) (Option.none : Option Jvm.ClassFile.FieldType)) ∈ WS := q_in_tab (q_c6 (j := 125) rfl) rfl
theorem q_g12_10 : q_gd 12 (10, 1, 161, 0, 0) := ⟨⟨q_w1429, ⟨q_w1431, ⟨q_w47, ⟨q_w126, ⟨q_w1433, True.intro⟩⟩⟩⟩⟩, True.intro⟩
theorem q_w1464 : (Jvm.Cond.fieldLink "SoulOfficeModel" (14 : Nat) "SoulOfficeModel" "tape" "[B") ∈ WS := q_in_tab (q_c6 (j := 156) rfl) rfl
theorem q_g12_14 : q_gd 12 (14, 0, 12, 1, 0) := ⟨⟨q_w1464, True.intro⟩, True.intro⟩
theorem q_w1466 : (Jvm.Cond.fieldLink "SoulOfficeModel" (18 : Nat) "SoulOfficeModel" "size" "I") ∈ WS := q_in_tab (q_c6 (j := 158) rfl) rfl
theorem q_g12_18 : q_gd 12 (18, 0, 12, 3, 0) := ⟨⟨q_w1466, True.intro⟩, True.intro⟩
theorem q_w1467 : (Jvm.Cond.fieldLink "SoulOfficeModel" (21 : Nat) "SoulOfficeModel" "p" "I") ∈ WS := q_in_tab (q_c6 (j := 159) rfl) rfl
theorem q_g12_21 : q_gd 12 (21, 0, 12, 4, 0) := ⟨⟨q_w1467, True.intro⟩, True.intro⟩
theorem q_w1468 : (Jvm.Cond.fieldLink "SoulOfficeModel" (24 : Nat) "SoulOfficeModel" "limit" "I") ∈ WS := q_in_tab (q_c6 (j := 160) rfl) rfl
theorem q_g12_24 : q_gd 12 (24, 0, 12, 5, 0) := ⟨⟨q_w1468, True.intro⟩, True.intro⟩
theorem q_w1442 : (Jvm.Cond.methodLink "SoulOfficeModel" (27 : Nat) ({ cls := "java/lang/Object", name := "<init>", desc := "()V" } : Jvm.MethodName)) ∈ WS := q_in_tab (q_c6 (j := 134) rfl) rfl
theorem q_g12_27 : q_gd 12 (27, 11, 0, 0, 0) := ⟨⟨q_w1442, ⟨q_w139, ⟨q_w140, True.intro⟩⟩⟩, True.intro⟩
theorem q_w1469 : (Jvm.Cond.fieldLink "SoulOfficeModel" (33 : Nat) "SoulOfficeModel" "s" "[I") ∈ WS := q_in_tab (q_c6 (j := 161) rfl) rfl
theorem q_g12_33 : q_gd 12 (33, 0, 12, 6, 0) := ⟨⟨q_w1469, True.intro⟩, True.intro⟩
theorem q_w1470 : (Jvm.Cond.fieldLink "SoulOfficeModel" (37 : Nat) "SoulOfficeModel" "h" "[I") ∈ WS := q_in_tab (q_c6 (j := 162) rfl) rfl
theorem q_g12_37 : q_gd 12 (37, 0, 12, 7, 0) := ⟨⟨q_w1470, True.intro⟩, True.intro⟩
theorem q_w1471 : (Jvm.Cond.fieldLink "SoulOfficeModel" (40 : Nat) "SoulOfficeModel" "read" "[I") ∈ WS := q_in_tab (q_c6 (j := 163) rfl) rfl
theorem q_g12_40 : q_gd 12 (40, 0, 12, 8, 0) := ⟨⟨q_w1471, True.intro⟩, True.intro⟩
theorem q_w1472 : (Jvm.Cond.fieldLink "SoulOfficeModel" (43 : Nat) "SoulOfficeModel" "names" "[J") ∈ WS := q_in_tab (q_c6 (j := 164) rfl) rfl
theorem q_g12_43 : q_gd 12 (43, 0, 12, 9, 0) := ⟨⟨q_w1472, True.intro⟩, True.intro⟩
theorem q_w1473 : (Jvm.Cond.fieldLink "SoulOfficeModel" (47 : Nat) "SoulOfficeModel" "reserved" "[J") ∈ WS := q_in_tab (q_c6 (j := 165) rfl) rfl
theorem q_g12_47 : q_gd 12 (47, 0, 12, 10, 0) := ⟨⟨q_w1473, True.intro⟩, True.intro⟩
theorem q_w1484 : (Jvm.Cond.fieldLink "SoulOfficeModel" (50 : Nat) "SoulOfficeModel" "undone" "[I") ∈ WS := q_in_tab (q_c6 (j := 176) rfl) rfl
theorem q_g12_50 : q_gd 12 (50, 0, 12, 21, 0) := ⟨⟨q_w1484, True.intro⟩, True.intro⟩
theorem q_w1485 : (Jvm.Cond.fieldLink "SoulOfficeModel" (53 : Nat) "SoulOfficeModel" "before" "[I") ∈ WS := q_in_tab (q_c6 (j := 177) rfl) rfl
theorem q_g12_53 : q_gd 12 (53, 0, 12, 22, 0) := ⟨⟨q_w1485, True.intro⟩, True.intro⟩
theorem q_w1487 : (Jvm.Cond.fieldLink "SoulOfficeModel" (56 : Nat) "SoulOfficeModel" "who" "[I") ∈ WS := q_in_tab (q_c6 (j := 179) rfl) rfl
theorem q_g12_56 : q_gd 12 (56, 0, 12, 24, 0) := ⟨⟨q_w1487, True.intro⟩, True.intro⟩
theorem q_w1488 : (Jvm.Cond.fieldLink "SoulOfficeModel" (59 : Nat) "SoulOfficeModel" "way" "[I") ∈ WS := q_in_tab (q_c6 (j := 180) rfl) rfl
theorem q_g12_59 : q_gd 12 (59, 0, 12, 25, 0) := ⟨⟨q_w1488, True.intro⟩, True.intro⟩
theorem q_w1489 : (Jvm.Cond.fieldLink "SoulOfficeModel" (62 : Nat) "SoulOfficeModel" "mostWay" "[I") ∈ WS := q_in_tab (q_c6 (j := 181) rfl) rfl
theorem q_g12_62 : q_gd 12 (62, 0, 12, 26, 0) := ⟨⟨q_w1489, True.intro⟩, True.intro⟩
theorem q_w1490 : (Jvm.Cond.fieldLink "SoulOfficeModel" (65 : Nat) "SoulOfficeModel" "mostSouls" "I") ∈ WS := q_in_tab (q_c6 (j := 182) rfl) rfl
theorem q_g12_65 : q_gd 12 (65, 0, 12, 27, 0) := ⟨⟨q_w1490, True.intro⟩, True.intro⟩
theorem q_w1491 : (Jvm.Cond.fieldLink "SoulOfficeModel" (68 : Nat) "SoulOfficeModel" "groupsOf" "[I") ∈ WS := q_in_tab (q_c6 (j := 183) rfl) rfl
theorem q_g12_68 : q_gd 12 (68, 0, 12, 28, 0) := ⟨⟨q_w1491, True.intro⟩, True.intro⟩
theorem q_w1492 : (Jvm.Cond.fieldLink "SoulOfficeModel" (71 : Nat) "SoulOfficeModel" "sums" "[I") ∈ WS := q_in_tab (q_c6 (j := 184) rfl) rfl
theorem q_g12_71 : q_gd 12 (71, 0, 12, 29, 0) := ⟨⟨q_w1492, True.intro⟩, True.intro⟩
theorem q_w1493 : (Jvm.Cond.fieldLink "SoulOfficeModel" (74 : Nat) "SoulOfficeModel" "wereRow" "[I") ∈ WS := q_in_tab (q_c6 (j := 185) rfl) rfl
theorem q_g12_74 : q_gd 12 (74, 0, 12, 30, 0) := ⟨⟨q_w1493, True.intro⟩, True.intro⟩
theorem q_w1495 : (Jvm.Cond.fieldLink "SoulOfficeModel" (77 : Nat) "SoulOfficeModel" "appealWay" "[I") ∈ WS := q_in_tab (q_c6 (j := 187) rfl) rfl
theorem q_g12_77 : q_gd 12 (77, 0, 12, 32, 0) := ⟨⟨q_w1495, True.intro⟩, True.intro⟩
theorem q_w1496 : (Jvm.Cond.fieldLink "SoulOfficeModel" (80 : Nat) "SoulOfficeModel" "room" "[I") ∈ WS := q_in_tab (q_c6 (j := 188) rfl) rfl
theorem q_g12_80 : q_gd 12 (80, 0, 12, 33, 0) := ⟨⟨q_w1496, True.intro⟩, True.intro⟩
theorem q_w1500 : (Jvm.Cond.fieldLink "SoulOfficeModel" (83 : Nat) "SoulOfficeModel" "bookedAt" "[I") ∈ WS := q_in_tab (q_c6 (j := 192) rfl) rfl
theorem q_g12_83 : q_gd 12 (83, 0, 12, 37, 0) := ⟨⟨q_w1500, True.intro⟩, True.intro⟩
theorem q_w1502 : (Jvm.Cond.fieldLink "SoulOfficeModel" (86 : Nat) "SoulOfficeModel" "stack" "[I") ∈ WS := q_in_tab (q_c6 (j := 194) rfl) rfl
theorem q_g12_86 : q_gd 12 (86, 0, 12, 39, 0) := ⟨⟨q_w1502, True.intro⟩, True.intro⟩
theorem q_w1508 : (Jvm.Cond.fieldLink "SoulOfficeModel" (89 : Nat) "SoulOfficeModel" "truths" "[Z") ∈ WS := q_in_tab (q_c6 (j := 200) rfl) rfl
theorem q_g12_89 : q_gd 12 (89, 0, 12, 45, 0) := ⟨⟨q_w1508, True.intro⟩, True.intro⟩
theorem q_w1509 : (Jvm.Cond.fieldLink "SoulOfficeModel" (93 : Nat) "SoulOfficeModel" "kept" "[I") ∈ WS := q_in_tab (q_c6 (j := 201) rfl) rfl
theorem q_g12_93 : q_gd 12 (93, 0, 12, 46, 0) := ⟨⟨q_w1509, True.intro⟩, True.intro⟩
theorem q_w1510 : (Jvm.Cond.fieldLink "SoulOfficeModel" (96 : Nat) "SoulOfficeModel" "namesKept" "[J") ∈ WS := q_in_tab (q_c6 (j := 202) rfl) rfl
theorem q_g12_96 : q_gd 12 (96, 0, 12, 47, 0) := ⟨⟨q_w1510, True.intro⟩, True.intro⟩
theorem q_w1511 : (Jvm.Cond.fieldLink "SoulOfficeModel" (99 : Nat) "SoulOfficeModel" "isKept" "[Z") ∈ WS := q_in_tab (q_c6 (j := 203) rfl) rfl
theorem q_g12_99 : q_gd 12 (99, 0, 12, 48, 0) := ⟨⟨q_w1511, True.intro⟩, True.intro⟩
theorem q_w1443 : (Jvm.Cond.constantLong "SoulOfficeModel" (102 : Nat) (1802071652 : Int64)) ∈ WS := q_in_tab (q_c6 (j := 135) rfl) rfl
theorem q_g12_102 : q_gd 12 (102, 9, 0, 0, 1802071652) := ⟨⟨q_w1443, True.intro⟩, True.intro⟩
theorem q_w1444 : (Jvm.Cond.constantLong "SoulOfficeModel" (104 : Nat) (469852583027 : Int64)) ∈ WS := q_in_tab (q_c6 (j := 136) rfl) rfl
theorem q_g12_104 : q_gd 12 (104, 9, 0, 0, 469852583027) := ⟨⟨q_w1444, True.intro⟩, True.intro⟩
theorem q_w1445 : (Jvm.Cond.constantLong "SoulOfficeModel" (106 : Nat) (1936684396 : Int64)) ∈ WS := q_in_tab (q_c6 (j := 137) rfl) rfl
theorem q_g12_106 : q_gd 12 (106, 9, 0, 0, 1936684396) := ⟨⟨q_w1445, True.intro⟩, True.intro⟩
theorem q_w1446 : (Jvm.Cond.constantLong "SoulOfficeModel" (108 : Nat) (1869507705 : Int64)) ∈ WS := q_in_tab (q_c6 (j := 138) rfl) rfl
theorem q_g12_108 : q_gd 12 (108, 9, 0, 0, 1869507705) := ⟨⟨q_w1446, True.intro⟩, True.intro⟩
theorem q_w1447 : (Jvm.Cond.constantLong "SoulOfficeModel" (110 : Nat) (2003399528 : Int64)) ∈ WS := q_in_tab (q_c6 (j := 139) rfl) rfl
theorem q_g12_110 : q_gd 12 (110, 9, 0, 0, 2003399528) := ⟨⟨q_w1447, True.intro⟩, True.intro⟩
theorem q_w1448 : (Jvm.Cond.constantLong "SoulOfficeModel" (112 : Nat) (1684365940 : Int64)) ∈ WS := q_in_tab (q_c6 (j := 140) rfl) rfl
theorem q_g12_112 : q_gd 12 (112, 9, 0, 0, 1684365940) := ⟨⟨q_w1448, True.intro⟩, True.intro⟩
theorem q_w1449 : (Jvm.Cond.constantLong "SoulOfficeModel" (114 : Nat) (444301539187 : Int64)) ∈ WS := q_in_tab (q_c6 (j := 141) rfl) rfl
theorem q_g12_114 : q_gd 12 (114, 9, 0, 0, 444301539187) := ⟨⟨q_w1449, True.intro⟩, True.intro⟩
theorem q_w1450 : (Jvm.Cond.constantLong "SoulOfficeModel" (116 : Nat) (24947 : Int64)) ∈ WS := q_in_tab (q_c6 (j := 142) rfl) rfl
theorem q_g12_116 : q_gd 12 (116, 9, 0, 0, 24947) := ⟨⟨q_w1450, True.intro⟩, True.intro⟩
theorem q_w1451 : (Jvm.Cond.constantLong "SoulOfficeModel" (118 : Nat) (6578553 : Int64)) ∈ WS := q_in_tab (q_c6 (j := 143) rfl) rfl
theorem q_g12_118 : q_gd 12 (118, 9, 0, 0, 6578553) := ⟨⟨q_w1451, True.intro⟩, True.intro⟩
theorem q_w1452 : (Jvm.Cond.constantLong "SoulOfficeModel" (120 : Nat) (427020350059 : Int64)) ∈ WS := q_in_tab (q_c6 (j := 144) rfl) rfl
theorem q_g12_120 : q_gd 12 (120, 9, 0, 0, 427020350059) := ⟨⟨q_w1452, True.intro⟩, True.intro⟩
theorem q_w1453 : (Jvm.Cond.constantLong "SoulOfficeModel" (122 : Nat) (28530 : Int64)) ∈ WS := q_in_tab (q_c6 (j := 145) rfl) rfl
theorem q_g12_122 : q_gd 12 (122, 9, 0, 0, 28530) := ⟨⟨q_w1453, True.intro⟩, True.intro⟩
theorem q_w1454 : (Jvm.Cond.constantLong "SoulOfficeModel" (124 : Nat) (6385252 : Int64)) ∈ WS := q_in_tab (q_c6 (j := 146) rfl) rfl
theorem q_g12_124 : q_gd 12 (124, 9, 0, 0, 6385252) := ⟨⟨q_w1454, True.intro⟩, True.intro⟩
theorem q_w1455 : (Jvm.Cond.constantLong "SoulOfficeModel" (126 : Nat) (7237492 : Int64)) ∈ WS := q_in_tab (q_c6 (j := 147) rfl) rfl
theorem q_g12_126 : q_gd 12 (126, 9, 0, 0, 7237492) := ⟨⟨q_w1455, True.intro⟩, True.intro⟩
theorem q_w1456 : (Jvm.Cond.constantLong "SoulOfficeModel" (128 : Nat) (512735409267 : Int64)) ∈ WS := q_in_tab (q_c6 (j := 148) rfl) rfl
theorem q_g12_128 : q_gd 12 (128, 9, 0, 0, 512735409267) := ⟨⟨q_w1456, True.intro⟩, True.intro⟩
theorem q_w1457 : (Jvm.Cond.constantLong "SoulOfficeModel" (130 : Nat) (1870095731 : Int64)) ∈ WS := q_in_tab (q_c6 (j := 149) rfl) rfl
theorem q_g12_130 : q_gd 12 (130, 9, 0, 0, 1870095731) := ⟨⟨q_w1457, True.intro⟩, True.intro⟩
theorem q_w1458 : (Jvm.Cond.constantLong "SoulOfficeModel" (132 : Nat) (431197680755 : Int64)) ∈ WS := q_in_tab (q_c6 (j := 150) rfl) rfl
theorem q_g12_132 : q_gd 12 (132, 9, 0, 0, 431197680755) := ⟨⟨q_w1458, True.intro⟩, True.intro⟩
theorem q_w1459 : (Jvm.Cond.constantLong "SoulOfficeModel" (134 : Nat) (1685415283 : Int64)) ∈ WS := q_in_tab (q_c6 (j := 151) rfl) rfl
theorem q_g12_134 : q_gd 12 (134, 9, 0, 0, 1685415283) := ⟨⟨q_w1459, True.intro⟩, True.intro⟩
theorem q_w1460 : (Jvm.Cond.constantLong "SoulOfficeModel" (136 : Nat) (108205031319667 : Int64)) ∈ WS := q_in_tab (q_c6 (j := 152) rfl) rfl
theorem q_g12_136 : q_gd 12 (136, 9, 0, 0, 108205031319667) := ⟨⟨q_w1460, True.intro⟩, True.intro⟩
theorem q_w1461 : (Jvm.Cond.constantLong "SoulOfficeModel" (138 : Nat) (1818584692 : Int64)) ∈ WS := q_in_tab (q_c6 (j := 153) rfl) rfl
theorem q_g12_138 : q_gd 12 (138, 9, 0, 0, 1818584692) := ⟨⟨q_w1461, True.intro⟩, True.intro⟩
theorem q_w1462 : (Jvm.Cond.constantLong "SoulOfficeModel" (140 : Nat) (482854658917 : Int64)) ∈ WS := q_in_tab (q_c6 (j := 154) rfl) rfl
theorem q_g12_140 : q_gd 12 (140, 9, 0, 0, 482854658917) := ⟨⟨q_w1462, True.intro⟩, True.intro⟩
theorem q_w1624 : (Jvm.Cond.methodLink "SoulOfficeModel" (142 : Nat) ({ cls := "SoulOfficeModel", name := "peek", desc := "()I" } : Jvm.MethodName)) ∈ WS := q_in_tab (q_c7 (j := 76) rfl) rfl
theorem q_w1626 : (Jvm.Cond.instanceMethod ({ cls := "SoulOfficeModel", name := "peek", desc := "()I" } : Jvm.MethodName)) ∈ WS := q_in_tab (q_c7 (j := 78) rfl) rfl
theorem q_w50 : Cond.selects "SoulOfficeModel" (⟨"SoulOfficeModel", "peek", "()I"⟩ : MethodName) (⟨"SoulOfficeModel", "peek", "()I"⟩ : MethodName) ∈ WS := q_in_prv (q := ((⟨"SoulOfficeModel", "peek", "()I"⟩ : MethodName), 49)) (q_v4 (j := 2) rfl) rfl
theorem q_w1627 : (Jvm.Cond.code ({ cls := "SoulOfficeModel", name := "peek", desc := "()I" } : Jvm.MethodName) prog_14_method_12_code (1 : Nat) (Option.some Jvm.ClassFile.FieldType.int)) ∈ WS := q_in_tab (q_c7 (j := 79) rfl) rfl
theorem q_g12_142 : q_gd 12 (142, 1, 169, 0, 0) := ⟨⟨q_w1624, ⟨q_w1626, ⟨q_w50, ⟨q_w126, ⟨q_w1627, True.intro⟩⟩⟩⟩⟩, True.intro⟩
theorem q_w1475 : (Jvm.Cond.fieldLink "SoulOfficeModel" (146 : Nat) "SoulOfficeModel" "at" "I") ∈ WS := q_in_tab (q_c6 (j := 167) rfl) rfl
theorem q_g12_146 : q_gd 12 (146, 0, 12, 12, 0) := ⟨⟨q_w1475, True.intro⟩, True.intro⟩
theorem q_w1476 : (Jvm.Cond.fieldLink "SoulOfficeModel" (149 : Nat) "SoulOfficeModel" "span" "I") ∈ WS := q_in_tab (q_c6 (j := 168) rfl) rfl
theorem q_g12_149 : q_gd 12 (149, 0, 12, 13, 0) := ⟨⟨q_w1476, True.intro⟩, True.intro⟩
theorem q_w1474 : (Jvm.Cond.fieldLink "SoulOfficeModel" (152 : Nat) "SoulOfficeModel" "token" "I") ∈ WS := q_in_tab (q_c6 (j := 166) rfl) rfl
theorem q_g12_152 : q_gd 12 (152, 0, 12, 11, 0) := ⟨⟨q_w1474, True.intro⟩, True.intro⟩
theorem q_w1628 : (Jvm.Cond.methodLink "SoulOfficeModel" (155 : Nat) ({ cls := "SoulOfficeModel", name := "isSmall", desc := "(I)Z" } : Jvm.MethodName)) ∈ WS := q_in_tab (q_c7 (j := 80) rfl) rfl
theorem q_w1629 : (Jvm.Cond.static ({ cls := "SoulOfficeModel", name := "isSmall", desc := "(I)Z" } : Jvm.MethodName)) ∈ WS := q_in_tab (q_c7 (j := 81) rfl) rfl
theorem q_w1630 : (Jvm.Cond.code ({ cls := "SoulOfficeModel", name := "isSmall", desc := "(I)Z" } : Jvm.MethodName) prog_14_method_13_code (1 : Nat) (Option.some Jvm.ClassFile.FieldType.boolean)) ∈ WS := q_in_tab (q_c7 (j := 82) rfl) rfl
theorem q_g12_155 : q_gd 12 (155, 2, 170, 0, 0) := ⟨⟨q_w1628, ⟨q_w1629, ⟨q_w126, ⟨q_w1630, True.intro⟩⟩⟩⟩, True.intro⟩
theorem q_w1631 : (Jvm.Cond.methodLink "SoulOfficeModel" (159 : Nat) ({ cls := "SoulOfficeModel", name := "isDigit", desc := "(I)Z" } : Jvm.MethodName)) ∈ WS := q_in_tab (q_c7 (j := 83) rfl) rfl
theorem q_w1632 : (Jvm.Cond.static ({ cls := "SoulOfficeModel", name := "isDigit", desc := "(I)Z" } : Jvm.MethodName)) ∈ WS := q_in_tab (q_c7 (j := 84) rfl) rfl
theorem q_w1633 : (Jvm.Cond.code ({ cls := "SoulOfficeModel", name := "isDigit", desc := "(I)Z" } : Jvm.MethodName) prog_14_method_14_code (1 : Nat) (Option.some Jvm.ClassFile.FieldType.boolean)) ∈ WS := q_in_tab (q_c7 (j := 85) rfl) rfl
theorem q_g12_159 : q_gd 12 (159, 2, 171, 0, 0) := ⟨⟨q_w1631, ⟨q_w1632, ⟨q_w126, ⟨q_w1633, True.intro⟩⟩⟩⟩, True.intro⟩
theorem q_w1477 : (Jvm.Cond.fieldLink "SoulOfficeModel" (162 : Nat) "SoulOfficeModel" "number" "I") ∈ WS := q_in_tab (q_c6 (j := 169) rfl) rfl
theorem q_g12_162 : q_gd 12 (162, 0, 12, 14, 0) := ⟨⟨q_w1477, True.intro⟩, True.intro⟩
theorem q_w1480 : (Jvm.Cond.fieldLink "SoulOfficeModel" (165 : Nat) "SoulOfficeModel" "word" "J") ∈ WS := q_in_tab (q_c6 (j := 172) rfl) rfl
theorem q_g12_165 : q_gd 12 (165, 0, 12, 17, 0) := ⟨⟨q_w1480, True.intro⟩, True.intro⟩
theorem q_w1478 : (Jvm.Cond.fieldLink "SoulOfficeModel" (169 : Nat) "SoulOfficeModel" "fault" "I") ∈ WS := q_in_tab (q_c6 (j := 170) rfl) rfl
theorem q_g12_169 : q_gd 12 (169, 0, 12, 15, 0) := ⟨⟨q_w1478, True.intro⟩, True.intro⟩
theorem q_w1479 : (Jvm.Cond.fieldLink "SoulOfficeModel" (172 : Nat) "SoulOfficeModel" "faultAt" "I") ∈ WS := q_in_tab (q_c6 (j := 171) rfl) rfl
theorem q_g12_172 : q_gd 12 (172, 0, 12, 16, 0) := ⟨⟨q_w1479, True.intro⟩, True.intro⟩
theorem q_w1680 : (Jvm.Cond.methodLink "SoulOfficeModel" (175 : Nat) ({ cls := "SoulOfficeModel", name := "isSign", desc := "(I)Z" } : Jvm.MethodName)) ∈ WS := q_in_tab (q_c7 (j := 132) rfl) rfl
theorem q_w1682 : (Jvm.Cond.instanceMethod ({ cls := "SoulOfficeModel", name := "isSign", desc := "(I)Z" } : Jvm.MethodName)) ∈ WS := q_in_tab (q_c7 (j := 134) rfl) rfl
theorem q_w61 : Cond.selects "SoulOfficeModel" (⟨"SoulOfficeModel", "isSign", "(I)Z"⟩ : MethodName) (⟨"SoulOfficeModel", "isSign", "(I)Z"⟩ : MethodName) ∈ WS := q_in_prv (q := ((⟨"SoulOfficeModel", "isSign", "(I)Z"⟩ : MethodName), 49)) (q_v4 (j := 13) rfl) rfl
theorem q_w1683 : (Jvm.Cond.code ({ cls := "SoulOfficeModel", name := "isSign", desc := "(I)Z" } : Jvm.MethodName) prog_14_method_18_code (2 : Nat) (Option.some Jvm.ClassFile.FieldType.boolean)) ∈ WS := q_in_tab (q_c7 (j := 135) rfl) rfl
theorem q_g12_175 : q_gd 12 (175, 1, 175, 0, 0) := ⟨⟨q_w1680, ⟨q_w1682, ⟨q_w61, ⟨q_w126, ⟨q_w1683, True.intro⟩⟩⟩⟩⟩, True.intro⟩
theorem q_w1642 : (Jvm.Cond.methodLink "SoulOfficeModel" (178 : Nat) ({ cls := "SoulOfficeModel", name := "bad", desc := "(I)Z" } : Jvm.MethodName)) ∈ WS := q_in_tab (q_c7 (j := 94) rfl) rfl
theorem q_w1644 : (Jvm.Cond.instanceMethod ({ cls := "SoulOfficeModel", name := "bad", desc := "(I)Z" } : Jvm.MethodName)) ∈ WS := q_in_tab (q_c7 (j := 96) rfl) rfl
theorem q_w53 : Cond.selects "SoulOfficeModel" (⟨"SoulOfficeModel", "bad", "(I)Z"⟩ : MethodName) (⟨"SoulOfficeModel", "bad", "(I)Z"⟩ : MethodName) ∈ WS := q_in_prv (q := ((⟨"SoulOfficeModel", "bad", "(I)Z"⟩ : MethodName), 49)) (q_v4 (j := 5) rfl) rfl
theorem q_w1645 : (Jvm.Cond.code ({ cls := "SoulOfficeModel", name := "bad", desc := "(I)Z" } : Jvm.MethodName) prog_14_method_16_code (2 : Nat) (Option.some Jvm.ClassFile.FieldType.boolean)) ∈ WS := q_in_tab (q_c7 (j := 97) rfl) rfl
theorem q_g12_178 : q_gd 12 (178, 1, 173, 0, 0) := ⟨⟨q_w1642, ⟨q_w1644, ⟨q_w53, ⟨q_w126, ⟨q_w1645, True.intro⟩⟩⟩⟩⟩, True.intro⟩
theorem q_w1620 : (Jvm.Cond.methodLink "SoulOfficeModel" (181 : Nat) ({ cls := "SoulOfficeModel", name := "next", desc := "()V" } : Jvm.MethodName)) ∈ WS := q_in_tab (q_c7 (j := 72) rfl) rfl
theorem q_w1622 : (Jvm.Cond.instanceMethod ({ cls := "SoulOfficeModel", name := "next", desc := "()V" } : Jvm.MethodName)) ∈ WS := q_in_tab (q_c7 (j := 74) rfl) rfl
theorem q_w49 : Cond.selects "SoulOfficeModel" (⟨"SoulOfficeModel", "next", "()V"⟩ : MethodName) (⟨"SoulOfficeModel", "next", "()V"⟩ : MethodName) ∈ WS := q_in_prv (q := ((⟨"SoulOfficeModel", "next", "()V"⟩ : MethodName), 49)) (q_v4 (j := 1) rfl) rfl
theorem q_w1623 : (Jvm.Cond.code ({ cls := "SoulOfficeModel", name := "next", desc := "()V" } : Jvm.MethodName) prog_14_method_15_code (4 : Nat) (Option.none : Option Jvm.ClassFile.FieldType)) ∈ WS := q_in_tab (q_c7 (j := 75) rfl) rfl
theorem q_g12_181 : q_gd 12 (181, 1, 172, 0, 0) := ⟨⟨q_w1620, ⟨q_w1622, ⟨q_w49, ⟨q_w126, ⟨q_w1623, True.intro⟩⟩⟩⟩⟩, True.intro⟩
theorem q_w1662 : (Jvm.Cond.methodLink "SoulOfficeModel" (184 : Nat) ({ cls := "SoulOfficeModel", name := "isIn", desc := "(III)Z" } : Jvm.MethodName)) ∈ WS := q_in_tab (q_c7 (j := 114) rfl) rfl
theorem q_w1663 : (Jvm.Cond.static ({ cls := "SoulOfficeModel", name := "isIn", desc := "(III)Z" } : Jvm.MethodName)) ∈ WS := q_in_tab (q_c7 (j := 115) rfl) rfl
theorem q_w1664 : (Jvm.Cond.code ({ cls := "SoulOfficeModel", name := "isIn", desc := "(III)Z" } : Jvm.MethodName) prog_14_method_7_code (3 : Nat) (Option.some Jvm.ClassFile.FieldType.boolean)) ∈ WS := q_in_tab (q_c7 (j := 116) rfl) rfl
theorem q_g12_184 : q_gd 12 (184, 2, 164, 0, 0) := ⟨⟨q_w1662, ⟨q_w1663, ⟨q_w126, ⟨q_w1664, True.intro⟩⟩⟩⟩, True.intro⟩
theorem q_w1481 : (Jvm.Cond.fieldLink "SoulOfficeModel" (188 : Nat) "SoulOfficeModel" "got" "I") ∈ WS := q_in_tab (q_c6 (j := 173) rfl) rfl
theorem q_g12_188 : q_gd 12 (188, 0, 12, 18, 0) := ⟨⟨q_w1481, True.intro⟩, True.intro⟩
theorem q_w1650 : (Jvm.Cond.methodLink "SoulOfficeModel" (191 : Nat) ({ cls := "SoulOfficeModel", name := "isName", desc := "()Z" } : Jvm.MethodName)) ∈ WS := q_in_tab (q_c7 (j := 102) rfl) rfl
theorem q_w1652 : (Jvm.Cond.instanceMethod ({ cls := "SoulOfficeModel", name := "isName", desc := "()Z" } : Jvm.MethodName)) ∈ WS := q_in_tab (q_c7 (j := 104) rfl) rfl
theorem q_w55 : Cond.selects "SoulOfficeModel" (⟨"SoulOfficeModel", "isName", "()Z"⟩ : MethodName) (⟨"SoulOfficeModel", "isName", "()Z"⟩ : MethodName) ∈ WS := q_in_prv (q := ((⟨"SoulOfficeModel", "isName", "()Z"⟩ : MethodName), 49)) (q_v4 (j := 7) rfl) rfl
theorem q_w1653 : (Jvm.Cond.code ({ cls := "SoulOfficeModel", name := "isName", desc := "()Z" } : Jvm.MethodName) prog_14_method_20_code (3 : Nat) (Option.some Jvm.ClassFile.FieldType.boolean)) ∈ WS := q_in_tab (q_c7 (j := 105) rfl) rfl
theorem q_g12_191 : q_gd 12 (191, 1, 177, 0, 0) := ⟨⟨q_w1650, ⟨q_w1652, ⟨q_w55, ⟨q_w126, ⟨q_w1653, True.intro⟩⟩⟩⟩⟩, True.intro⟩
theorem q_w1654 : (Jvm.Cond.methodLink "SoulOfficeModel" (195 : Nat) ({ cls := "SoulOfficeModel", name := "find", desc := "(II)I" } : Jvm.MethodName)) ∈ WS := q_in_tab (q_c7 (j := 106) rfl) rfl
theorem q_w1656 : (Jvm.Cond.instanceMethod ({ cls := "SoulOfficeModel", name := "find", desc := "(II)I" } : Jvm.MethodName)) ∈ WS := q_in_tab (q_c7 (j := 108) rfl) rfl
theorem q_w56 : Cond.selects "SoulOfficeModel" (⟨"SoulOfficeModel", "find", "(II)I"⟩ : MethodName) (⟨"SoulOfficeModel", "find", "(II)I"⟩ : MethodName) ∈ WS := q_in_prv (q := ((⟨"SoulOfficeModel", "find", "(II)I"⟩ : MethodName), 49)) (q_v4 (j := 8) rfl) rfl
theorem q_w1657 : (Jvm.Cond.code ({ cls := "SoulOfficeModel", name := "find", desc := "(II)I" } : Jvm.MethodName) prog_14_method_22_code (4 : Nat) (Option.some Jvm.ClassFile.FieldType.int)) ∈ WS := q_in_tab (q_c7 (j := 109) rfl) rfl
theorem q_g12_195 : q_gd 12 (195, 1, 179, 0, 0) := ⟨⟨q_w1654, ⟨q_w1656, ⟨q_w56, ⟨q_w126, ⟨q_w1657, True.intro⟩⟩⟩⟩⟩, True.intro⟩
theorem q_w1669 : (Jvm.Cond.methodLink "SoulOfficeModel" (199 : Nat) ({ cls := "SoulOfficeModel", name := "looksAt", desc := "(II)Z" } : Jvm.MethodName)) ∈ WS := q_in_tab (q_c7 (j := 121) rfl) rfl
theorem q_w1671 : (Jvm.Cond.instanceMethod ({ cls := "SoulOfficeModel", name := "looksAt", desc := "(II)Z" } : Jvm.MethodName)) ∈ WS := q_in_tab (q_c7 (j := 123) rfl) rfl
theorem q_w59 : Cond.selects "SoulOfficeModel" (⟨"SoulOfficeModel", "looksAt", "(II)Z"⟩ : MethodName) (⟨"SoulOfficeModel", "looksAt", "(II)Z"⟩ : MethodName) ∈ WS := q_in_prv (q := ((⟨"SoulOfficeModel", "looksAt", "(II)Z"⟩ : MethodName), 49)) (q_v4 (j := 11) rfl) rfl
theorem q_w1672 : (Jvm.Cond.code ({ cls := "SoulOfficeModel", name := "looksAt", desc := "(II)Z" } : Jvm.MethodName) prog_14_method_24_code (3 : Nat) (Option.some Jvm.ClassFile.FieldType.boolean)) ∈ WS := q_in_tab (q_c7 (j := 124) rfl) rfl
theorem q_g12_199 : q_gd 12 (199, 1, 181, 0, 0) := ⟨⟨q_w1669, ⟨q_w1671, ⟨q_w59, ⟨q_w126, ⟨q_w1672, True.intro⟩⟩⟩⟩⟩, True.intro⟩
theorem q_w1638 : (Jvm.Cond.methodLink "SoulOfficeModel" (203 : Nat) ({ cls := "SoulOfficeModel", name := "isWord", desc := "(J)Z" } : Jvm.MethodName)) ∈ WS := q_in_tab (q_c7 (j := 90) rfl) rfl
theorem q_w1640 : (Jvm.Cond.instanceMethod ({ cls := "SoulOfficeModel", name := "isWord", desc := "(J)Z" } : Jvm.MethodName)) ∈ WS := q_in_tab (q_c7 (j := 92) rfl) rfl
theorem q_w52 : Cond.selects "SoulOfficeModel" (⟨"SoulOfficeModel", "isWord", "(J)Z"⟩ : MethodName) (⟨"SoulOfficeModel", "isWord", "(J)Z"⟩ : MethodName) ∈ WS := q_in_prv (q := ((⟨"SoulOfficeModel", "isWord", "(J)Z"⟩ : MethodName), 49)) (q_v4 (j := 4) rfl) rfl
theorem q_w1641 : (Jvm.Cond.code ({ cls := "SoulOfficeModel", name := "isWord", desc := "(J)Z" } : Jvm.MethodName) prog_14_method_17_code (3 : Nat) (Option.some Jvm.ClassFile.FieldType.boolean)) ∈ WS := q_in_tab (q_c7 (j := 93) rfl) rfl
theorem q_g12_203 : q_gd 12 (203, 1, 174, 0, 0) := ⟨⟨q_w1638, ⟨q_w1640, ⟨q_w52, ⟨q_w126, ⟨q_w1641, True.intro⟩⟩⟩⟩⟩, True.intro⟩
theorem q_w1646 : (Jvm.Cond.methodLink "SoulOfficeModel" (207 : Nat) ({ cls := "SoulOfficeModel", name := "fresh", desc := "(I)Z" } : Jvm.MethodName)) ∈ WS := q_in_tab (q_c7 (j := 98) rfl) rfl
theorem q_w1648 : (Jvm.Cond.instanceMethod ({ cls := "SoulOfficeModel", name := "fresh", desc := "(I)Z" } : Jvm.MethodName)) ∈ WS := q_in_tab (q_c7 (j := 100) rfl) rfl
theorem q_w54 : Cond.selects "SoulOfficeModel" (⟨"SoulOfficeModel", "fresh", "(I)Z"⟩ : MethodName) (⟨"SoulOfficeModel", "fresh", "(I)Z"⟩ : MethodName) ∈ WS := q_in_prv (q := ((⟨"SoulOfficeModel", "fresh", "(I)Z"⟩ : MethodName), 49)) (q_v4 (j := 6) rfl) rfl
theorem q_w1649 : (Jvm.Cond.code ({ cls := "SoulOfficeModel", name := "fresh", desc := "(I)Z" } : Jvm.MethodName) prog_14_method_23_code (2 : Nat) (Option.some Jvm.ClassFile.FieldType.boolean)) ∈ WS := q_in_tab (q_c7 (j := 101) rfl) rfl
theorem q_g12_207 : q_gd 12 (207, 1, 180, 0, 0) := ⟨⟨q_w1646, ⟨q_w1648, ⟨q_w54, ⟨q_w126, ⟨q_w1649, True.intro⟩⟩⟩⟩⟩, True.intro⟩
theorem q_w1658 : (Jvm.Cond.methodLink "SoulOfficeModel" (210 : Nat) ({ cls := "SoulOfficeModel", name := "takes", desc := "(II)Z" } : Jvm.MethodName)) ∈ WS := q_in_tab (q_c7 (j := 110) rfl) rfl
theorem q_w1660 : (Jvm.Cond.instanceMethod ({ cls := "SoulOfficeModel", name := "takes", desc := "(II)Z" } : Jvm.MethodName)) ∈ WS := q_in_tab (q_c7 (j := 112) rfl) rfl
theorem q_w57 : Cond.selects "SoulOfficeModel" (⟨"SoulOfficeModel", "takes", "(II)Z"⟩ : MethodName) (⟨"SoulOfficeModel", "takes", "(II)Z"⟩ : MethodName) ∈ WS := q_in_prv (q := ((⟨"SoulOfficeModel", "takes", "(II)Z"⟩ : MethodName), 49)) (q_v4 (j := 9) rfl) rfl
theorem q_w1661 : (Jvm.Cond.code ({ cls := "SoulOfficeModel", name := "takes", desc := "(II)Z" } : Jvm.MethodName) prog_14_method_21_code (3 : Nat) (Option.some Jvm.ClassFile.FieldType.boolean)) ∈ WS := q_in_tab (q_c7 (j := 113) rfl) rfl
theorem q_g12_210 : q_gd 12 (210, 1, 178, 0, 0) := ⟨⟨q_w1658, ⟨q_w1660, ⟨q_w57, ⟨q_w126, ⟨q_w1661, True.intro⟩⟩⟩⟩⟩, True.intro⟩
theorem q_w1665 : (Jvm.Cond.methodLink "SoulOfficeModel" (213 : Nat) ({ cls := "SoulOfficeModel", name := "looksAtKind", desc := "()Z" } : Jvm.MethodName)) ∈ WS := q_in_tab (q_c7 (j := 117) rfl) rfl
theorem q_w1667 : (Jvm.Cond.instanceMethod ({ cls := "SoulOfficeModel", name := "looksAtKind", desc := "()Z" } : Jvm.MethodName)) ∈ WS := q_in_tab (q_c7 (j := 119) rfl) rfl
theorem q_w58 : Cond.selects "SoulOfficeModel" (⟨"SoulOfficeModel", "looksAtKind", "()Z"⟩ : MethodName) (⟨"SoulOfficeModel", "looksAtKind", "()Z"⟩ : MethodName) ∈ WS := q_in_prv (q := ((⟨"SoulOfficeModel", "looksAtKind", "()Z"⟩ : MethodName), 49)) (q_v4 (j := 10) rfl) rfl
theorem q_w1668 : (Jvm.Cond.code ({ cls := "SoulOfficeModel", name := "looksAtKind", desc := "()Z" } : Jvm.MethodName) prog_14_method_25_code (1 : Nat) (Option.some Jvm.ClassFile.FieldType.boolean)) ∈ WS := q_in_tab (q_c7 (j := 120) rfl) rfl
theorem q_g12_213 : q_gd 12 (213, 1, 182, 0, 0) := ⟨⟨q_w1665, ⟨q_w1667, ⟨q_w58, ⟨q_w126, ⟨q_w1668, True.intro⟩⟩⟩⟩⟩, True.intro⟩
theorem q_w1673 : (Jvm.Cond.methodLink "SoulOfficeModel" (216 : Nat) ({ cls := "SoulOfficeModel", name := "looksAtSoul", desc := "()Z" } : Jvm.MethodName)) ∈ WS := q_in_tab (q_c7 (j := 125) rfl) rfl
theorem q_w1675 : (Jvm.Cond.instanceMethod ({ cls := "SoulOfficeModel", name := "looksAtSoul", desc := "()Z" } : Jvm.MethodName)) ∈ WS := q_in_tab (q_c7 (j := 127) rfl) rfl
theorem q_w60 : Cond.selects "SoulOfficeModel" (⟨"SoulOfficeModel", "looksAtSoul", "()Z"⟩ : MethodName) (⟨"SoulOfficeModel", "looksAtSoul", "()Z"⟩ : MethodName) ∈ WS := q_in_prv (q := ((⟨"SoulOfficeModel", "looksAtSoul", "()Z"⟩ : MethodName), 49)) (q_v4 (j := 12) rfl) rfl
theorem q_w1676 : (Jvm.Cond.code ({ cls := "SoulOfficeModel", name := "looksAtSoul", desc := "()Z" } : Jvm.MethodName) prog_14_method_26_code (1 : Nat) (Option.some Jvm.ClassFile.FieldType.boolean)) ∈ WS := q_in_tab (q_c7 (j := 128) rfl) rfl
theorem q_g12_216 : q_gd 12 (216, 1, 183, 0, 0) := ⟨⟨q_w1673, ⟨q_w1675, ⟨q_w60, ⟨q_w126, ⟨q_w1676, True.intro⟩⟩⟩⟩⟩, True.intro⟩
theorem q_w1677 : (Jvm.Cond.methodLink "SoulOfficeModel" (219 : Nat) ({ cls := "SoulOfficeModel", name := "bitOf", desc := "(II)Z" } : Jvm.MethodName)) ∈ WS := q_in_tab (q_c7 (j := 129) rfl) rfl
theorem q_w1678 : (Jvm.Cond.static ({ cls := "SoulOfficeModel", name := "bitOf", desc := "(II)Z" } : Jvm.MethodName)) ∈ WS := q_in_tab (q_c7 (j := 130) rfl) rfl
theorem q_w1679 : (Jvm.Cond.code ({ cls := "SoulOfficeModel", name := "bitOf", desc := "(II)Z" } : Jvm.MethodName) prog_14_method_8_code (2 : Nat) (Option.some Jvm.ClassFile.FieldType.boolean)) ∈ WS := q_in_tab (q_c7 (j := 131) rfl) rfl
theorem q_g12_219 : q_gd 12 (219, 2, 165, 0, 0) := ⟨⟨q_w1677, ⟨q_w1678, ⟨q_w126, ⟨q_w1679, True.intro⟩⟩⟩⟩, True.intro⟩
theorem q_w1483 : (Jvm.Cond.fieldLink "SoulOfficeModel" (222 : Nat) "SoulOfficeModel" "hasGrows" "Z") ∈ WS := q_in_tab (q_c6 (j := 175) rfl) rfl
theorem q_g12_222 : q_gd 12 (222, 0, 12, 20, 0) := ⟨⟨q_w1483, True.intro⟩, True.intro⟩
theorem q_w1616 : (Jvm.Cond.methodLink "SoulOfficeModel" (226 : Nat) ({ cls := "SoulOfficeModel", name := "taken", desc := "(I)V" } : Jvm.MethodName)) ∈ WS := q_in_tab (q_c7 (j := 68) rfl) rfl
theorem q_w1618 : (Jvm.Cond.instanceMethod ({ cls := "SoulOfficeModel", name := "taken", desc := "(I)V" } : Jvm.MethodName)) ∈ WS := q_in_tab (q_c7 (j := 70) rfl) rfl
theorem q_w48 : Cond.selects "SoulOfficeModel" (⟨"SoulOfficeModel", "taken", "(I)V"⟩ : MethodName) (⟨"SoulOfficeModel", "taken", "(I)V"⟩ : MethodName) ∈ WS := q_in_prv (q := ((⟨"SoulOfficeModel", "taken", "(I)V"⟩ : MethodName), 49)) (q_v4 (j := 0) rfl) rfl
theorem q_w1619 : (Jvm.Cond.code ({ cls := "SoulOfficeModel", name := "taken", desc := "(I)V" } : Jvm.MethodName) prog_14_method_6_code (2 : Nat) (Option.none : Option Jvm.ClassFile.FieldType)) ∈ WS := q_in_tab (q_c7 (j := 71) rfl) rfl
theorem q_g12_226 : q_gd 12 (226, 1, 163, 0, 0) := ⟨⟨q_w1616, ⟨q_w1618, ⟨q_w48, ⟨q_w126, ⟨q_w1619, True.intro⟩⟩⟩⟩⟩, True.intro⟩
theorem q_w1482 : (Jvm.Cond.fieldLink "SoulOfficeModel" (229 : Nat) "SoulOfficeModel" "lines" "I") ∈ WS := q_in_tab (q_c6 (j := 174) rfl) rfl
theorem q_g12_229 : q_gd 12 (229, 0, 12, 19, 0) := ⟨⟨q_w1482, True.intro⟩, True.intro⟩
theorem q_w1634 : (Jvm.Cond.methodLink "SoulOfficeModel" (232 : Nat) ({ cls := "SoulOfficeModel", name := "line", desc := "()Z" } : Jvm.MethodName)) ∈ WS := q_in_tab (q_c7 (j := 86) rfl) rfl
theorem q_w1636 : (Jvm.Cond.instanceMethod ({ cls := "SoulOfficeModel", name := "line", desc := "()Z" } : Jvm.MethodName)) ∈ WS := q_in_tab (q_c7 (j := 88) rfl) rfl
theorem q_w51 : Cond.selects "SoulOfficeModel" (⟨"SoulOfficeModel", "line", "()Z"⟩ : MethodName) (⟨"SoulOfficeModel", "line", "()Z"⟩ : MethodName) ∈ WS := q_in_prv (q := ((⟨"SoulOfficeModel", "line", "()Z"⟩ : MethodName), 49)) (q_v4 (j := 3) rfl) rfl
theorem q_w1637 : (Jvm.Cond.code ({ cls := "SoulOfficeModel", name := "line", desc := "()Z" } : Jvm.MethodName) prog_14_method_27_code (3 : Nat) (Option.some Jvm.ClassFile.FieldType.boolean)) ∈ WS := q_in_tab (q_c7 (j := 89) rfl) rfl
theorem q_g12_232 : q_gd 12 (232, 1, 184, 0, 0) := ⟨⟨q_w1634, ⟨q_w1636, ⟨q_w51, ⟨q_w126, ⟨q_w1637, True.intro⟩⟩⟩⟩⟩, True.intro⟩
theorem q_w1684 : (Jvm.Cond.methodLink "SoulOfficeModel" (235 : Nat) ({ cls := "SoulOfficeModel", name := "sign", desc := "(I)Z" } : Jvm.MethodName)) ∈ WS := q_in_tab (q_c7 (j := 136) rfl) rfl
theorem q_w1686 : (Jvm.Cond.instanceMethod ({ cls := "SoulOfficeModel", name := "sign", desc := "(I)Z" } : Jvm.MethodName)) ∈ WS := q_in_tab (q_c7 (j := 138) rfl) rfl
theorem q_w62 : Cond.selects "SoulOfficeModel" (⟨"SoulOfficeModel", "sign", "(I)Z"⟩ : MethodName) (⟨"SoulOfficeModel", "sign", "(I)Z"⟩ : MethodName) ∈ WS := q_in_prv (q := ((⟨"SoulOfficeModel", "sign", "(I)Z"⟩ : MethodName), 49)) (q_v4 (j := 14) rfl) rfl
theorem q_w1687 : (Jvm.Cond.code ({ cls := "SoulOfficeModel", name := "sign", desc := "(I)Z" } : Jvm.MethodName) prog_14_method_19_code (2 : Nat) (Option.some Jvm.ClassFile.FieldType.boolean)) ∈ WS := q_in_tab (q_c7 (j := 139) rfl) rfl
theorem q_g12_235 : q_gd 12 (235, 1, 176, 0, 0) := ⟨⟨q_w1684, ⟨q_w1686, ⟨q_w62, ⟨q_w126, ⟨q_w1687, True.intro⟩⟩⟩⟩⟩, True.intro⟩
theorem q_w1486 : (Jvm.Cond.fieldLink "SoulOfficeModel" (238 : Nat) "SoulOfficeModel" "undoMany" "I") ∈ WS := q_in_tab (q_c6 (j := 178) rfl) rfl
theorem q_g12_238 : q_gd 12 (238, 0, 12, 23, 0) := ⟨⟨q_w1486, True.intro⟩, True.intro⟩
theorem q_w1696 : (Jvm.Cond.methodLink "SoulOfficeModel" (241 : Nat) ({ cls := "SoulOfficeModel", name := "isKind", desc := "(I)Z" } : Jvm.MethodName)) ∈ WS := q_in_tab (q_c7 (j := 148) rfl) rfl
theorem q_w1698 : (Jvm.Cond.instanceMethod ({ cls := "SoulOfficeModel", name := "isKind", desc := "(I)Z" } : Jvm.MethodName)) ∈ WS := q_in_tab (q_c7 (j := 150) rfl) rfl
theorem q_w63 : Cond.selects "SoulOfficeModel" (⟨"SoulOfficeModel", "isKind", "(I)Z"⟩ : MethodName) (⟨"SoulOfficeModel", "isKind", "(I)Z"⟩ : MethodName) ∈ WS := q_in_prv (q := ((⟨"SoulOfficeModel", "isKind", "(I)Z"⟩ : MethodName), 49)) (q_v4 (j := 15) rfl) rfl
theorem q_w1699 : (Jvm.Cond.code ({ cls := "SoulOfficeModel", name := "isKind", desc := "(I)Z" } : Jvm.MethodName) prog_14_method_30_code (2 : Nat) (Option.some Jvm.ClassFile.FieldType.boolean)) ∈ WS := q_in_tab (q_c7 (j := 151) rfl) rfl
theorem q_g12_241 : q_gd 12 (241, 1, 187, 0, 0) := ⟨⟨q_w1696, ⟨q_w1698, ⟨q_w63, ⟨q_w126, ⟨q_w1699, True.intro⟩⟩⟩⟩⟩, True.intro⟩
theorem q_w1700 : (Jvm.Cond.methodLink "SoulOfficeModel" (244 : Nat) ({ cls := "SoulOfficeModel", name := "roomOf", desc := "(I)I" } : Jvm.MethodName)) ∈ WS := q_in_tab (q_c7 (j := 152) rfl) rfl
theorem q_w1702 : (Jvm.Cond.instanceMethod ({ cls := "SoulOfficeModel", name := "roomOf", desc := "(I)I" } : Jvm.MethodName)) ∈ WS := q_in_tab (q_c7 (j := 154) rfl) rfl
theorem q_w64 : Cond.selects "SoulOfficeModel" (⟨"SoulOfficeModel", "roomOf", "(I)I"⟩ : MethodName) (⟨"SoulOfficeModel", "roomOf", "(I)I"⟩ : MethodName) ∈ WS := q_in_prv (q := ((⟨"SoulOfficeModel", "roomOf", "(I)I"⟩ : MethodName), 49)) (q_v5 (j := 0) rfl) rfl
theorem q_w1703 : (Jvm.Cond.code ({ cls := "SoulOfficeModel", name := "roomOf", desc := "(I)I" } : Jvm.MethodName) prog_14_method_32_code (4 : Nat) (Option.some Jvm.ClassFile.FieldType.int)) ∈ WS := q_in_tab (q_c7 (j := 155) rfl) rfl
theorem q_g12_244 : q_gd 12 (244, 1, 189, 0, 0) := ⟨⟨q_w1700, ⟨q_w1702, ⟨q_w64, ⟨q_w126, ⟨q_w1703, True.intro⟩⟩⟩⟩⟩, True.intro⟩
theorem q_w1712 : (Jvm.Cond.methodLink "SoulOfficeModel" (248 : Nat) ({ cls := "SoulOfficeModel", name := "isSoul", desc := "(I)Z" } : Jvm.MethodName)) ∈ WS := q_in_tab (q_c7 (j := 164) rfl) rfl
theorem q_w1714 : (Jvm.Cond.instanceMethod ({ cls := "SoulOfficeModel", name := "isSoul", desc := "(I)Z" } : Jvm.MethodName)) ∈ WS := q_in_tab (q_c7 (j := 166) rfl) rfl
theorem q_w65 : Cond.selects "SoulOfficeModel" (⟨"SoulOfficeModel", "isSoul", "(I)Z"⟩ : MethodName) (⟨"SoulOfficeModel", "isSoul", "(I)Z"⟩ : MethodName) ∈ WS := q_in_prv (q := ((⟨"SoulOfficeModel", "isSoul", "(I)Z"⟩ : MethodName), 49)) (q_v5 (j := 1) rfl) rfl
theorem q_w1715 : (Jvm.Cond.code ({ cls := "SoulOfficeModel", name := "isSoul", desc := "(I)Z" } : Jvm.MethodName) prog_14_method_31_code (2 : Nat) (Option.some Jvm.ClassFile.FieldType.boolean)) ∈ WS := q_in_tab (q_c7 (j := 167) rfl) rfl
theorem q_g12_248 : q_gd 12 (248, 1, 188, 0, 0) := ⟨⟨q_w1712, ⟨q_w1714, ⟨q_w65, ⟨q_w126, ⟨q_w1715, True.intro⟩⟩⟩⟩⟩, True.intro⟩
theorem q_w1716 : (Jvm.Cond.methodLink "SoulOfficeModel" (251 : Nat) ({ cls := "SoulOfficeModel", name := "throwsIf", desc := "(Z)Z" } : Jvm.MethodName)) ∈ WS := q_in_tab (q_c7 (j := 168) rfl) rfl
theorem q_w1718 : (Jvm.Cond.instanceMethod ({ cls := "SoulOfficeModel", name := "throwsIf", desc := "(Z)Z" } : Jvm.MethodName)) ∈ WS := q_in_tab (q_c7 (j := 170) rfl) rfl
theorem q_w66 : Cond.selects "SoulOfficeModel" (⟨"SoulOfficeModel", "throwsIf", "(Z)Z"⟩ : MethodName) (⟨"SoulOfficeModel", "throwsIf", "(Z)Z"⟩ : MethodName) ∈ WS := q_in_prv (q := ((⟨"SoulOfficeModel", "throwsIf", "(Z)Z"⟩ : MethodName), 49)) (q_v5 (j := 2) rfl) rfl
theorem q_w1719 : (Jvm.Cond.code ({ cls := "SoulOfficeModel", name := "throwsIf", desc := "(Z)Z" } : Jvm.MethodName) prog_14_method_2_code (2 : Nat) (Option.some Jvm.ClassFile.FieldType.boolean)) ∈ WS := q_in_tab (q_c7 (j := 171) rfl) rfl
theorem q_g12_251 : q_gd 12 (251, 1, 159, 0, 0) := ⟨⟨q_w1716, ⟨q_w1718, ⟨q_w66, ⟨q_w126, ⟨q_w1719, True.intro⟩⟩⟩⟩⟩, True.intro⟩
theorem q_w1720 : (Jvm.Cond.methodLink "SoulOfficeModel" (255 : Nat) ({ cls := "SoulOfficeModel", name := "debtsOf", desc := "(I)I" } : Jvm.MethodName)) ∈ WS := q_in_tab (q_c7 (j := 172) rfl) rfl
theorem q_w1722 : (Jvm.Cond.instanceMethod ({ cls := "SoulOfficeModel", name := "debtsOf", desc := "(I)I" } : Jvm.MethodName)) ∈ WS := q_in_tab (q_c7 (j := 174) rfl) rfl
theorem q_w67 : Cond.selects "SoulOfficeModel" (⟨"SoulOfficeModel", "debtsOf", "(I)I"⟩ : MethodName) (⟨"SoulOfficeModel", "debtsOf", "(I)I"⟩ : MethodName) ∈ WS := q_in_prv (q := ((⟨"SoulOfficeModel", "debtsOf", "(I)I"⟩ : MethodName), 49)) (q_v5 (j := 3) rfl) rfl
theorem q_w1723 : (Jvm.Cond.code ({ cls := "SoulOfficeModel", name := "debtsOf", desc := "(I)I" } : Jvm.MethodName) prog_14_method_35_code (4 : Nat) (Option.some Jvm.ClassFile.FieldType.int)) ∈ WS := q_in_tab (q_c7 (j := 175) rfl) rfl
theorem q_g12_255 : q_gd 12 (255, 1, 192, 0, 0) := ⟨⟨q_w1720, ⟨q_w1722, ⟨q_w67, ⟨q_w126, ⟨q_w1723, True.intro⟩⟩⟩⟩⟩, True.intro⟩
theorem q_w1724 : (Jvm.Cond.methodLink "SoulOfficeModel" (258 : Nat) ({ cls := "SoulOfficeModel", name := "duesOf", desc := "(I)I" } : Jvm.MethodName)) ∈ WS := q_in_tab (q_c7 (j := 176) rfl) rfl
theorem q_w1726 : (Jvm.Cond.instanceMethod ({ cls := "SoulOfficeModel", name := "duesOf", desc := "(I)I" } : Jvm.MethodName)) ∈ WS := q_in_tab (q_c7 (j := 178) rfl) rfl
theorem q_w68 : Cond.selects "SoulOfficeModel" (⟨"SoulOfficeModel", "duesOf", "(I)I"⟩ : MethodName) (⟨"SoulOfficeModel", "duesOf", "(I)I"⟩ : MethodName) ∈ WS := q_in_prv (q := ((⟨"SoulOfficeModel", "duesOf", "(I)I"⟩ : MethodName), 49)) (q_v5 (j := 4) rfl) rfl
theorem q_w1727 : (Jvm.Cond.code ({ cls := "SoulOfficeModel", name := "duesOf", desc := "(I)I" } : Jvm.MethodName) prog_14_method_36_code (4 : Nat) (Option.some Jvm.ClassFile.FieldType.int)) ∈ WS := q_in_tab (q_c7 (j := 179) rfl) rfl
theorem q_g12_258 : q_gd 12 (258, 1, 193, 0, 0) := ⟨⟨q_w1724, ⟨q_w1726, ⟨q_w68, ⟨q_w126, ⟨q_w1727, True.intro⟩⟩⟩⟩⟩, True.intro⟩
theorem q_w1736 : (Jvm.Cond.methodLink "SoulOfficeModel" (261 : Nat) ({ cls := "SoulOfficeModel", name := "all", desc := "()I" } : Jvm.MethodName)) ∈ WS := q_in_tab (q_c7 (j := 188) rfl) rfl
theorem q_w1738 : (Jvm.Cond.instanceMethod ({ cls := "SoulOfficeModel", name := "all", desc := "()I" } : Jvm.MethodName)) ∈ WS := q_in_tab (q_c7 (j := 190) rfl) rfl
theorem q_w69 : Cond.selects "SoulOfficeModel" (⟨"SoulOfficeModel", "all", "()I"⟩ : MethodName) (⟨"SoulOfficeModel", "all", "()I"⟩ : MethodName) ∈ WS := q_in_prv (q := ((⟨"SoulOfficeModel", "all", "()I"⟩ : MethodName), 49)) (q_v5 (j := 5) rfl) rfl
theorem q_w1739 : (Jvm.Cond.code ({ cls := "SoulOfficeModel", name := "all", desc := "()I" } : Jvm.MethodName) prog_14_method_39_code (3 : Nat) (Option.some Jvm.ClassFile.FieldType.int)) ∈ WS := q_in_tab (q_c7 (j := 191) rfl) rfl
theorem q_g12_261 : q_gd 12 (261, 1, 196, 0, 0) := ⟨⟨q_w1736, ⟨q_w1738, ⟨q_w69, ⟨q_w126, ⟨q_w1739, True.intro⟩⟩⟩⟩⟩, True.intro⟩
theorem q_w1760 : (Jvm.Cond.methodLink "SoulOfficeModel" (264 : Nat) ({ cls := "SoulOfficeModel", name := "lives", desc := "(II)V" } : Jvm.MethodName)) ∈ WS := q_in_tab (q_c7 (j := 212) rfl) rfl
theorem q_w1762 : (Jvm.Cond.instanceMethod ({ cls := "SoulOfficeModel", name := "lives", desc := "(II)V" } : Jvm.MethodName)) ∈ WS := q_in_tab (q_c7 (j := 214) rfl) rfl
theorem q_w73 : Cond.selects "SoulOfficeModel" (⟨"SoulOfficeModel", "lives", "(II)V"⟩ : MethodName) (⟨"SoulOfficeModel", "lives", "(II)V"⟩ : MethodName) ∈ WS := q_in_prv (q := ((⟨"SoulOfficeModel", "lives", "(II)V"⟩ : MethodName), 49)) (q_v5 (j := 9) rfl) rfl
theorem q_w1763 : (Jvm.Cond.code ({ cls := "SoulOfficeModel", name := "lives", desc := "(II)V" } : Jvm.MethodName) prog_14_method_42_code (3 : Nat) (Option.none : Option Jvm.ClassFile.FieldType)) ∈ WS := q_in_tab (q_c7 (j := 215) rfl) rfl
theorem q_g12_264 : q_gd 12 (264, 1, 199, 0, 0) := ⟨⟨q_w1760, ⟨q_w1762, ⟨q_w73, ⟨q_w126, ⟨q_w1763, True.intro⟩⟩⟩⟩⟩, True.intro⟩
theorem q_w1780 : (Jvm.Cond.methodLink "SoulOfficeModel" (268 : Nat) ({ cls := "SoulOfficeModel", name := "lesser", desc := "(II)I" } : Jvm.MethodName)) ∈ WS := q_in_tab (q_c7 (j := 232) rfl) rfl
theorem q_w1781 : (Jvm.Cond.static ({ cls := "SoulOfficeModel", name := "lesser", desc := "(II)I" } : Jvm.MethodName)) ∈ WS := q_in_tab (q_c7 (j := 233) rfl) rfl
theorem q_w1782 : (Jvm.Cond.code ({ cls := "SoulOfficeModel", name := "lesser", desc := "(II)I" } : Jvm.MethodName) prog_14_method_9_code (2 : Nat) (Option.some Jvm.ClassFile.FieldType.int)) ∈ WS := q_in_tab (q_c7 (j := 234) rfl) rfl
theorem q_g12_268 : q_gd 12 (268, 2, 166, 0, 0) := ⟨⟨q_w1780, ⟨q_w1781, ⟨q_w126, ⟨q_w1782, True.intro⟩⟩⟩⟩, True.intro⟩
theorem q_w1776 : (Jvm.Cond.methodLink "SoulOfficeModel" (271 : Nat) ({ cls := "SoulOfficeModel", name := "settles", desc := "(II)V" } : Jvm.MethodName)) ∈ WS := q_in_tab (q_c7 (j := 228) rfl) rfl
theorem q_w1778 : (Jvm.Cond.instanceMethod ({ cls := "SoulOfficeModel", name := "settles", desc := "(II)V" } : Jvm.MethodName)) ∈ WS := q_in_tab (q_c7 (j := 230) rfl) rfl
theorem q_w76 : Cond.selects "SoulOfficeModel" (⟨"SoulOfficeModel", "settles", "(II)V"⟩ : MethodName) (⟨"SoulOfficeModel", "settles", "(II)V"⟩ : MethodName) ∈ WS := q_in_prv (q := ((⟨"SoulOfficeModel", "settles", "(II)V"⟩ : MethodName), 49)) (q_v5 (j := 12) rfl) rfl
theorem q_w1779 : (Jvm.Cond.code ({ cls := "SoulOfficeModel", name := "settles", desc := "(II)V" } : Jvm.MethodName) prog_14_method_44_code (6 : Nat) (Option.none : Option Jvm.ClassFile.FieldType)) ∈ WS := q_in_tab (q_c7 (j := 231) rfl) rfl
theorem q_g12_271 : q_gd 12 (271, 1, 201, 0, 0) := ⟨⟨q_w1776, ⟨q_w1778, ⟨q_w76, ⟨q_w126, ⟨q_w1779, True.intro⟩⟩⟩⟩⟩, True.intro⟩
theorem q_w1783 : (Jvm.Cond.constant "SoulOfficeModel" (274 : Nat) (99999 : Int32)) ∈ WS := q_in_tab (q_c7 (j := 235) rfl) rfl
theorem q_g12_274 : q_gd 12 (274, 8, 0, 0, 99999) := ⟨⟨q_w1783, True.intro⟩, True.intro⟩
theorem q_w1744 : (Jvm.Cond.methodLink "SoulOfficeModel" (275 : Nat) ({ cls := "SoulOfficeModel", name := "whyOf", desc := "(II)I" } : Jvm.MethodName)) ∈ WS := q_in_tab (q_c7 (j := 196) rfl) rfl
theorem q_w1746 : (Jvm.Cond.instanceMethod ({ cls := "SoulOfficeModel", name := "whyOf", desc := "(II)I" } : Jvm.MethodName)) ∈ WS := q_in_tab (q_c7 (j := 198) rfl) rfl
theorem q_w70 : Cond.selects "SoulOfficeModel" (⟨"SoulOfficeModel", "whyOf", "(II)I"⟩ : MethodName) (⟨"SoulOfficeModel", "whyOf", "(II)I"⟩ : MethodName) ∈ WS := q_in_prv (q := ((⟨"SoulOfficeModel", "whyOf", "(II)I"⟩ : MethodName), 49)) (q_v5 (j := 6) rfl) rfl
theorem q_w1747 : (Jvm.Cond.code ({ cls := "SoulOfficeModel", name := "whyOf", desc := "(II)I" } : Jvm.MethodName) prog_14_method_41_code (3 : Nat) (Option.some Jvm.ClassFile.FieldType.int)) ∈ WS := q_in_tab (q_c7 (j := 199) rfl) rfl
theorem q_g12_275 : q_gd 12 (275, 1, 198, 0, 0) := ⟨⟨q_w1744, ⟨q_w1746, ⟨q_w70, ⟨q_w126, ⟨q_w1747, True.intro⟩⟩⟩⟩⟩, True.intro⟩
theorem q_w1796 : (Jvm.Cond.methodLink "SoulOfficeModel" (278 : Nat) ({ cls := "SoulOfficeModel", name := "clerkOf", desc := "(I)I" } : Jvm.MethodName)) ∈ WS := q_in_tab (q_c8 (j := 8) rfl) rfl
theorem q_w1798 : (Jvm.Cond.instanceMethod ({ cls := "SoulOfficeModel", name := "clerkOf", desc := "(I)I" } : Jvm.MethodName)) ∈ WS := q_in_tab (q_c8 (j := 10) rfl) rfl
theorem q_w79 : Cond.selects "SoulOfficeModel" (⟨"SoulOfficeModel", "clerkOf", "(I)I"⟩ : MethodName) (⟨"SoulOfficeModel", "clerkOf", "(I)I"⟩ : MethodName) ∈ WS := q_in_prv (q := ((⟨"SoulOfficeModel", "clerkOf", "(I)I"⟩ : MethodName), 49)) (q_v5 (j := 15) rfl) rfl
theorem q_w1799 : (Jvm.Cond.code ({ cls := "SoulOfficeModel", name := "clerkOf", desc := "(I)I" } : Jvm.MethodName) prog_14_method_46_code (4 : Nat) (Option.some Jvm.ClassFile.FieldType.int)) ∈ WS := q_in_tab (q_c8 (j := 11) rfl) rfl
theorem q_g12_278 : q_gd 12 (278, 1, 203, 0, 0) := ⟨⟨q_w1796, ⟨q_w1798, ⟨q_w79, ⟨q_w126, ⟨q_w1799, True.intro⟩⟩⟩⟩⟩, True.intro⟩
theorem q_w1756 : (Jvm.Cond.methodLink "SoulOfficeModel" (281 : Nat) ({ cls := "SoulOfficeModel", name := "born", desc := "(II)V" } : Jvm.MethodName)) ∈ WS := q_in_tab (q_c7 (j := 208) rfl) rfl
theorem q_w1758 : (Jvm.Cond.instanceMethod ({ cls := "SoulOfficeModel", name := "born", desc := "(II)V" } : Jvm.MethodName)) ∈ WS := q_in_tab (q_c7 (j := 210) rfl) rfl
theorem q_w72 : Cond.selects "SoulOfficeModel" (⟨"SoulOfficeModel", "born", "(II)V"⟩ : MethodName) (⟨"SoulOfficeModel", "born", "(II)V"⟩ : MethodName) ∈ WS := q_in_prv (q := ((⟨"SoulOfficeModel", "born", "(II)V"⟩ : MethodName), 49)) (q_v5 (j := 8) rfl) rfl
theorem q_w1759 : (Jvm.Cond.code ({ cls := "SoulOfficeModel", name := "born", desc := "(II)V" } : Jvm.MethodName) prog_14_method_43_code (3 : Nat) (Option.none : Option Jvm.ClassFile.FieldType)) ∈ WS := q_in_tab (q_c7 (j := 211) rfl) rfl
theorem q_g12_281 : q_gd 12 (281, 1, 200, 0, 0) := ⟨⟨q_w1756, ⟨q_w1758, ⟨q_w72, ⟨q_w126, ⟨q_w1759, True.intro⟩⟩⟩⟩⟩, True.intro⟩
theorem q_w1792 : (Jvm.Cond.methodLink "SoulOfficeModel" (284 : Nat) ({ cls := "SoulOfficeModel", name := "clerks", desc := "()V" } : Jvm.MethodName)) ∈ WS := q_in_tab (q_c8 (j := 4) rfl) rfl
theorem q_w1794 : (Jvm.Cond.instanceMethod ({ cls := "SoulOfficeModel", name := "clerks", desc := "()V" } : Jvm.MethodName)) ∈ WS := q_in_tab (q_c8 (j := 6) rfl) rfl
theorem q_w78 : Cond.selects "SoulOfficeModel" (⟨"SoulOfficeModel", "clerks", "()V"⟩ : MethodName) (⟨"SoulOfficeModel", "clerks", "()V"⟩ : MethodName) ∈ WS := q_in_prv (q := ((⟨"SoulOfficeModel", "clerks", "()V"⟩ : MethodName), 49)) (q_v5 (j := 14) rfl) rfl
theorem q_w1795 : (Jvm.Cond.code ({ cls := "SoulOfficeModel", name := "clerks", desc := "()V" } : Jvm.MethodName) prog_14_method_47_code (3 : Nat) (Option.none : Option Jvm.ClassFile.FieldType)) ∈ WS := q_in_tab (q_c8 (j := 7) rfl) rfl
theorem q_g12_284 : q_gd 12 (284, 1, 204, 0, 0) := ⟨⟨q_w1792, ⟨q_w1794, ⟨q_w78, ⟨q_w126, ⟨q_w1795, True.intro⟩⟩⟩⟩⟩, True.intro⟩
theorem q_w1772 : (Jvm.Cond.methodLink "SoulOfficeModel" (287 : Nat) ({ cls := "SoulOfficeModel", name := "day", desc := "()V" } : Jvm.MethodName)) ∈ WS := q_in_tab (q_c7 (j := 224) rfl) rfl
theorem q_w1774 : (Jvm.Cond.instanceMethod ({ cls := "SoulOfficeModel", name := "day", desc := "()V" } : Jvm.MethodName)) ∈ WS := q_in_tab (q_c7 (j := 226) rfl) rfl
theorem q_w75 : Cond.selects "SoulOfficeModel" (⟨"SoulOfficeModel", "day", "()V"⟩ : MethodName) (⟨"SoulOfficeModel", "day", "()V"⟩ : MethodName) ∈ WS := q_in_prv (q := ((⟨"SoulOfficeModel", "day", "()V"⟩ : MethodName), 49)) (q_v5 (j := 11) rfl) rfl
theorem q_w1775 : (Jvm.Cond.code ({ cls := "SoulOfficeModel", name := "day", desc := "()V" } : Jvm.MethodName) prog_14_method_45_code (3 : Nat) (Option.none : Option Jvm.ClassFile.FieldType)) ∈ WS := q_in_tab (q_c7 (j := 227) rfl) rfl
theorem q_g12_287 : q_gd 12 (287, 1, 202, 0, 0) := ⟨⟨q_w1772, ⟨q_w1774, ⟨q_w75, ⟨q_w126, ⟨q_w1775, True.intro⟩⟩⟩⟩⟩, True.intro⟩
theorem q_w1752 : (Jvm.Cond.methodLink "SoulOfficeModel" (290 : Nat) ({ cls := "SoulOfficeModel", name := "keep", desc := "()V" } : Jvm.MethodName)) ∈ WS := q_in_tab (q_c7 (j := 204) rfl) rfl
theorem q_w1754 : (Jvm.Cond.instanceMethod ({ cls := "SoulOfficeModel", name := "keep", desc := "()V" } : Jvm.MethodName)) ∈ WS := q_in_tab (q_c7 (j := 206) rfl) rfl
theorem q_w71 : Cond.selects "SoulOfficeModel" (⟨"SoulOfficeModel", "keep", "()V"⟩ : MethodName) (⟨"SoulOfficeModel", "keep", "()V"⟩ : MethodName) ∈ WS := q_in_prv (q := ((⟨"SoulOfficeModel", "keep", "()V"⟩ : MethodName), 49)) (q_v5 (j := 7) rfl) rfl
theorem q_w1755 : (Jvm.Cond.code ({ cls := "SoulOfficeModel", name := "keep", desc := "()V" } : Jvm.MethodName) prog_14_method_55_code (2 : Nat) (Option.none : Option Jvm.ClassFile.FieldType)) ∈ WS := q_in_tab (q_c7 (j := 207) rfl) rfl
theorem q_g12_290 : q_gd 12 (290, 1, 212, 0, 0) := ⟨⟨q_w1752, ⟨q_w1754, ⟨q_w71, ⟨q_w126, ⟨q_w1755, True.intro⟩⟩⟩⟩⟩, True.intro⟩
theorem q_w1768 : (Jvm.Cond.methodLink "SoulOfficeModel" (293 : Nat) ({ cls := "SoulOfficeModel", name := "areDays", desc := "(I)Z" } : Jvm.MethodName)) ∈ WS := q_in_tab (q_c7 (j := 220) rfl) rfl
theorem q_w1770 : (Jvm.Cond.instanceMethod ({ cls := "SoulOfficeModel", name := "areDays", desc := "(I)Z" } : Jvm.MethodName)) ∈ WS := q_in_tab (q_c7 (j := 222) rfl) rfl
theorem q_w74 : Cond.selects "SoulOfficeModel" (⟨"SoulOfficeModel", "areDays", "(I)Z"⟩ : MethodName) (⟨"SoulOfficeModel", "areDays", "(I)Z"⟩ : MethodName) ∈ WS := q_in_prv (q := ((⟨"SoulOfficeModel", "areDays", "(I)Z"⟩ : MethodName), 49)) (q_v5 (j := 10) rfl) rfl
theorem q_w1771 : (Jvm.Cond.code ({ cls := "SoulOfficeModel", name := "areDays", desc := "(I)Z" } : Jvm.MethodName) prog_14_method_51_code (2 : Nat) (Option.some Jvm.ClassFile.FieldType.boolean)) ∈ WS := q_in_tab (q_c7 (j := 223) rfl) rfl
theorem q_g12_293 : q_gd 12 (293, 1, 208, 0, 0) := ⟨⟨q_w1768, ⟨q_w1770, ⟨q_w74, ⟨q_w126, ⟨q_w1771, True.intro⟩⟩⟩⟩⟩, True.intro⟩
theorem q_w1788 : (Jvm.Cond.methodLink "SoulOfficeModel" (296 : Nat) ({ cls := "SoulOfficeModel", name := "clerkDay", desc := "()V" } : Jvm.MethodName)) ∈ WS := q_in_tab (q_c8 (j := 0) rfl) rfl
theorem q_w1790 : (Jvm.Cond.instanceMethod ({ cls := "SoulOfficeModel", name := "clerkDay", desc := "()V" } : Jvm.MethodName)) ∈ WS := q_in_tab (q_c8 (j := 2) rfl) rfl
theorem q_w77 : Cond.selects "SoulOfficeModel" (⟨"SoulOfficeModel", "clerkDay", "()V"⟩ : MethodName) (⟨"SoulOfficeModel", "clerkDay", "()V"⟩ : MethodName) ∈ WS := q_in_prv (q := ((⟨"SoulOfficeModel", "clerkDay", "()V"⟩ : MethodName), 49)) (q_v5 (j := 13) rfl) rfl
theorem q_w1791 : (Jvm.Cond.code ({ cls := "SoulOfficeModel", name := "clerkDay", desc := "()V" } : Jvm.MethodName) prog_14_method_48_code (1 : Nat) (Option.none : Option Jvm.ClassFile.FieldType)) ∈ WS := q_in_tab (q_c8 (j := 3) rfl) rfl
theorem q_g12_296 : q_gd 12 (296, 1, 205, 0, 0) := ⟨⟨q_w1788, ⟨q_w1790, ⟨q_w77, ⟨q_w126, ⟨q_w1791, True.intro⟩⟩⟩⟩⟩, True.intro⟩
theorem q_w1812 : (Jvm.Cond.methodLink "SoulOfficeModel" (299 : Nat) ({ cls := "SoulOfficeModel", name := "tries", desc := "()V" } : Jvm.MethodName)) ∈ WS := q_in_tab (q_c8 (j := 24) rfl) rfl
theorem q_w1814 : (Jvm.Cond.instanceMethod ({ cls := "SoulOfficeModel", name := "tries", desc := "()V" } : Jvm.MethodName)) ∈ WS := q_in_tab (q_c8 (j := 26) rfl) rfl
theorem q_w80 : Cond.selects "SoulOfficeModel" (⟨"SoulOfficeModel", "tries", "()V"⟩ : MethodName) (⟨"SoulOfficeModel", "tries", "()V"⟩ : MethodName) ∈ WS := q_in_prv (q := ((⟨"SoulOfficeModel", "tries", "()V"⟩ : MethodName), 49)) (q_v6 (j := 0) rfl) rfl
theorem q_w1815 : (Jvm.Cond.code ({ cls := "SoulOfficeModel", name := "tries", desc := "()V" } : Jvm.MethodName) prog_14_method_57_code (2 : Nat) (Option.none : Option Jvm.ClassFile.FieldType)) ∈ WS := q_in_tab (q_c8 (j := 27) rfl) rfl
theorem q_g12_299 : q_gd 12 (299, 1, 214, 0, 0) := ⟨⟨q_w1812, ⟨q_w1814, ⟨q_w80, ⟨q_w126, ⟨q_w1815, True.intro⟩⟩⟩⟩⟩, True.intro⟩
theorem q_w1816 : (Jvm.Cond.methodLink "SoulOfficeModel" (302 : Nat) ({ cls := "SoulOfficeModel", name := "goes", desc := "(I)Z" } : Jvm.MethodName)) ∈ WS := q_in_tab (q_c8 (j := 28) rfl) rfl
theorem q_w1818 : (Jvm.Cond.instanceMethod ({ cls := "SoulOfficeModel", name := "goes", desc := "(I)Z" } : Jvm.MethodName)) ∈ WS := q_in_tab (q_c8 (j := 30) rfl) rfl
theorem q_w81 : Cond.selects "SoulOfficeModel" (⟨"SoulOfficeModel", "goes", "(I)Z"⟩ : MethodName) (⟨"SoulOfficeModel", "goes", "(I)Z"⟩ : MethodName) ∈ WS := q_in_prv (q := ((⟨"SoulOfficeModel", "goes", "(I)Z"⟩ : MethodName), 49)) (q_v6 (j := 1) rfl) rfl
theorem q_w1819 : (Jvm.Cond.code ({ cls := "SoulOfficeModel", name := "goes", desc := "(I)Z" } : Jvm.MethodName) prog_14_method_60_code (3 : Nat) (Option.some Jvm.ClassFile.FieldType.boolean)) ∈ WS := q_in_tab (q_c8 (j := 31) rfl) rfl
theorem q_g12_302 : q_gd 12 (302, 1, 217, 0, 0) := ⟨⟨q_w1816, ⟨q_w1818, ⟨q_w81, ⟨q_w126, ⟨q_w1819, True.intro⟩⟩⟩⟩⟩, True.intro⟩
theorem q_w1820 : (Jvm.Cond.methodLink "SoulOfficeModel" (305 : Nat) ({ cls := "SoulOfficeModel", name := "back", desc := "()V" } : Jvm.MethodName)) ∈ WS := q_in_tab (q_c8 (j := 32) rfl) rfl
theorem q_w1822 : (Jvm.Cond.instanceMethod ({ cls := "SoulOfficeModel", name := "back", desc := "()V" } : Jvm.MethodName)) ∈ WS := q_in_tab (q_c8 (j := 34) rfl) rfl
theorem q_w82 : Cond.selects "SoulOfficeModel" (⟨"SoulOfficeModel", "back", "()V"⟩ : MethodName) (⟨"SoulOfficeModel", "back", "()V"⟩ : MethodName) ∈ WS := q_in_prv (q := ((⟨"SoulOfficeModel", "back", "()V"⟩ : MethodName), 49)) (q_v6 (j := 2) rfl) rfl
theorem q_w1823 : (Jvm.Cond.code ({ cls := "SoulOfficeModel", name := "back", desc := "()V" } : Jvm.MethodName) prog_14_method_58_code (2 : Nat) (Option.none : Option Jvm.ClassFile.FieldType)) ∈ WS := q_in_tab (q_c8 (j := 35) rfl) rfl
theorem q_g12_305 : q_gd 12 (305, 1, 215, 0, 0) := ⟨⟨q_w1820, ⟨q_w1822, ⟨q_w82, ⟨q_w126, ⟨q_w1823, True.intro⟩⟩⟩⟩⟩, True.intro⟩
theorem q_w1824 : (Jvm.Cond.methodLink "SoulOfficeModel" (308 : Nat) ({ cls := "SoulOfficeModel", name := "nextWay", desc := "(I)Z" } : Jvm.MethodName)) ∈ WS := q_in_tab (q_c8 (j := 36) rfl) rfl
theorem q_w1826 : (Jvm.Cond.instanceMethod ({ cls := "SoulOfficeModel", name := "nextWay", desc := "(I)Z" } : Jvm.MethodName)) ∈ WS := q_in_tab (q_c8 (j := 38) rfl) rfl
theorem q_w83 : Cond.selects "SoulOfficeModel" (⟨"SoulOfficeModel", "nextWay", "(I)Z"⟩ : MethodName) (⟨"SoulOfficeModel", "nextWay", "(I)Z"⟩ : MethodName) ∈ WS := q_in_prv (q := ((⟨"SoulOfficeModel", "nextWay", "(I)Z"⟩ : MethodName), 49)) (q_v6 (j := 3) rfl) rfl
theorem q_w1827 : (Jvm.Cond.code ({ cls := "SoulOfficeModel", name := "nextWay", desc := "(I)Z" } : Jvm.MethodName) prog_14_method_59_code (3 : Nat) (Option.some Jvm.ClassFile.FieldType.boolean)) ∈ WS := q_in_tab (q_c8 (j := 39) rfl) rfl
theorem q_g12_308 : q_gd 12 (308, 1, 216, 0, 0) := ⟨⟨q_w1824, ⟨q_w1826, ⟨q_w83, ⟨q_w126, ⟨q_w1827, True.intro⟩⟩⟩⟩⟩, True.intro⟩
theorem q_w1836 : (Jvm.Cond.methodLink "SoulOfficeModel" (311 : Nat) ({ cls := "SoulOfficeModel", name := "isHopeless", desc := "(II)Z" } : Jvm.MethodName)) ∈ WS := q_in_tab (q_c8 (j := 48) rfl) rfl
theorem q_w1838 : (Jvm.Cond.instanceMethod ({ cls := "SoulOfficeModel", name := "isHopeless", desc := "(II)Z" } : Jvm.MethodName)) ∈ WS := q_in_tab (q_c8 (j := 50) rfl) rfl
theorem q_w84 : Cond.selects "SoulOfficeModel" (⟨"SoulOfficeModel", "isHopeless", "(II)Z"⟩ : MethodName) (⟨"SoulOfficeModel", "isHopeless", "(II)Z"⟩ : MethodName) ∈ WS := q_in_prv (q := ((⟨"SoulOfficeModel", "isHopeless", "(II)Z"⟩ : MethodName), 49)) (q_v6 (j := 4) rfl) rfl
theorem q_w1839 : (Jvm.Cond.code ({ cls := "SoulOfficeModel", name := "isHopeless", desc := "(II)Z" } : Jvm.MethodName) prog_14_method_63_code (5 : Nat) (Option.some Jvm.ClassFile.FieldType.boolean)) ∈ WS := q_in_tab (q_c8 (j := 51) rfl) rfl
theorem q_g12_311 : q_gd 12 (311, 1, 220, 0, 0) := ⟨⟨q_w1836, ⟨q_w1838, ⟨q_w84, ⟨q_w126, ⟨q_w1839, True.intro⟩⟩⟩⟩⟩, True.intro⟩
theorem q_w1844 : (Jvm.Cond.methodLink "SoulOfficeModel" (314 : Nat) ({ cls := "SoulOfficeModel", name := "netOf", desc := "(I)I" } : Jvm.MethodName)) ∈ WS := q_in_tab (q_c8 (j := 56) rfl) rfl
theorem q_w1846 : (Jvm.Cond.instanceMethod ({ cls := "SoulOfficeModel", name := "netOf", desc := "(I)I" } : Jvm.MethodName)) ∈ WS := q_in_tab (q_c8 (j := 58) rfl) rfl
theorem q_w85 : Cond.selects "SoulOfficeModel" (⟨"SoulOfficeModel", "netOf", "(I)I"⟩ : MethodName) (⟨"SoulOfficeModel", "netOf", "(I)I"⟩ : MethodName) ∈ WS := q_in_prv (q := ((⟨"SoulOfficeModel", "netOf", "(I)I"⟩ : MethodName), 49)) (q_v6 (j := 5) rfl) rfl
theorem q_w1847 : (Jvm.Cond.code ({ cls := "SoulOfficeModel", name := "netOf", desc := "(I)I" } : Jvm.MethodName) prog_14_method_65_code (2 : Nat) (Option.some Jvm.ClassFile.FieldType.int)) ∈ WS := q_in_tab (q_c8 (j := 59) rfl) rfl
theorem q_g12_314 : q_gd 12 (314, 1, 222, 0, 0) := ⟨⟨q_w1844, ⟨q_w1846, ⟨q_w85, ⟨q_w126, ⟨q_w1847, True.intro⟩⟩⟩⟩⟩, True.intro⟩
theorem q_w1852 : (Jvm.Cond.methodLink "SoulOfficeModel" (317 : Nat) ({ cls := "SoulOfficeModel", name := "withNet", desc := "()I" } : Jvm.MethodName)) ∈ WS := q_in_tab (q_c8 (j := 64) rfl) rfl
theorem q_w1854 : (Jvm.Cond.instanceMethod ({ cls := "SoulOfficeModel", name := "withNet", desc := "()I" } : Jvm.MethodName)) ∈ WS := q_in_tab (q_c8 (j := 66) rfl) rfl
theorem q_w86 : Cond.selects "SoulOfficeModel" (⟨"SoulOfficeModel", "withNet", "()I"⟩ : MethodName) (⟨"SoulOfficeModel", "withNet", "()I"⟩ : MethodName) ∈ WS := q_in_prv (q := ((⟨"SoulOfficeModel", "withNet", "()I"⟩ : MethodName), 49)) (q_v6 (j := 6) rfl) rfl
theorem q_w1855 : (Jvm.Cond.code ({ cls := "SoulOfficeModel", name := "withNet", desc := "()I" } : Jvm.MethodName) prog_14_method_68_code (3 : Nat) (Option.some Jvm.ClassFile.FieldType.int)) ∈ WS := q_in_tab (q_c8 (j := 67) rfl) rfl
theorem q_g12_317 : q_gd 12 (317, 1, 225, 0, 0) := ⟨⟨q_w1852, ⟨q_w1854, ⟨q_w86, ⟨q_w126, ⟨q_w1855, True.intro⟩⟩⟩⟩⟩, True.intro⟩
theorem q_w1856 : (Jvm.Cond.methodLink "SoulOfficeModel" (320 : Nat) ({ cls := "SoulOfficeModel", name := "bits", desc := "(I)I" } : Jvm.MethodName)) ∈ WS := q_in_tab (q_c8 (j := 68) rfl) rfl
theorem q_w1857 : (Jvm.Cond.static ({ cls := "SoulOfficeModel", name := "bits", desc := "(I)I" } : Jvm.MethodName)) ∈ WS := q_in_tab (q_c8 (j := 69) rfl) rfl
theorem q_w1858 : (Jvm.Cond.code ({ cls := "SoulOfficeModel", name := "bits", desc := "(I)I" } : Jvm.MethodName) prog_14_method_69_code (3 : Nat) (Option.some Jvm.ClassFile.FieldType.int)) ∈ WS := q_in_tab (q_c8 (j := 70) rfl) rfl
theorem q_g12_320 : q_gd 12 (320, 2, 226, 0, 0) := ⟨⟨q_w1856, ⟨q_w1857, ⟨q_w126, ⟨q_w1858, True.intro⟩⟩⟩⟩, True.intro⟩
theorem q_w1859 : (Jvm.Cond.methodLink "SoulOfficeModel" (323 : Nat) ({ cls := "SoulOfficeModel", name := "groupsAll", desc := "(I)I" } : Jvm.MethodName)) ∈ WS := q_in_tab (q_c8 (j := 71) rfl) rfl
theorem q_w1861 : (Jvm.Cond.instanceMethod ({ cls := "SoulOfficeModel", name := "groupsAll", desc := "(I)I" } : Jvm.MethodName)) ∈ WS := q_in_tab (q_c8 (j := 73) rfl) rfl
theorem q_w87 : Cond.selects "SoulOfficeModel" (⟨"SoulOfficeModel", "groupsAll", "(I)I"⟩ : MethodName) (⟨"SoulOfficeModel", "groupsAll", "(I)I"⟩ : MethodName) ∈ WS := q_in_prv (q := ((⟨"SoulOfficeModel", "groupsAll", "(I)I"⟩ : MethodName), 49)) (q_v6 (j := 7) rfl) rfl
theorem q_w1862 : (Jvm.Cond.code ({ cls := "SoulOfficeModel", name := "groupsAll", desc := "(I)I" } : Jvm.MethodName) prog_14_method_67_code (4 : Nat) (Option.some Jvm.ClassFile.FieldType.int)) ∈ WS := q_in_tab (q_c8 (j := 74) rfl) rfl
theorem q_g12_323 : q_gd 12 (323, 1, 224, 0, 0) := ⟨⟨q_w1859, ⟨q_w1861, ⟨q_w87, ⟨q_w126, ⟨q_w1862, True.intro⟩⟩⟩⟩⟩, True.intro⟩
theorem q_w1875 : (Jvm.Cond.methodLink "SoulOfficeModel" (326 : Nat) ({ cls := "SoulOfficeModel", name := "octet", desc := "(I)I" } : Jvm.MethodName)) ∈ WS := q_in_tab (q_c8 (j := 87) rfl) rfl
theorem q_w1877 : (Jvm.Cond.instanceMethod ({ cls := "SoulOfficeModel", name := "octet", desc := "(I)I" } : Jvm.MethodName)) ∈ WS := q_in_tab (q_c8 (j := 89) rfl) rfl
theorem q_w89 : Cond.selects "SoulOfficeModel" (⟨"SoulOfficeModel", "octet", "(I)I"⟩ : MethodName) (⟨"SoulOfficeModel", "octet", "(I)I"⟩ : MethodName) ∈ WS := q_in_prv (q := ((⟨"SoulOfficeModel", "octet", "(I)I"⟩ : MethodName), 49)) (q_v6 (j := 9) rfl) rfl
theorem q_w1878 : (Jvm.Cond.code ({ cls := "SoulOfficeModel", name := "octet", desc := "(I)I" } : Jvm.MethodName) prog_14_method_10_code (2 : Nat) (Option.some Jvm.ClassFile.FieldType.int)) ∈ WS := q_in_tab (q_c8 (j := 90) rfl) rfl
theorem q_g12_326 : q_gd 12 (326, 1, 167, 0, 0) := ⟨⟨q_w1875, ⟨q_w1877, ⟨q_w89, ⟨q_w126, ⟨q_w1878, True.intro⟩⟩⟩⟩⟩, True.intro⟩
theorem q_w1871 : (Jvm.Cond.methodLink "SoulOfficeModel" (329 : Nat) ({ cls := "SoulOfficeModel", name := "areSo", desc := "(III)Z" } : Jvm.MethodName)) ∈ WS := q_in_tab (q_c8 (j := 83) rfl) rfl
theorem q_w1873 : (Jvm.Cond.instanceMethod ({ cls := "SoulOfficeModel", name := "areSo", desc := "(III)Z" } : Jvm.MethodName)) ∈ WS := q_in_tab (q_c8 (j := 85) rfl) rfl
theorem q_w88 : Cond.selects "SoulOfficeModel" (⟨"SoulOfficeModel", "areSo", "(III)Z"⟩ : MethodName) (⟨"SoulOfficeModel", "areSo", "(III)Z"⟩ : MethodName) ∈ WS := q_in_prv (q := ((⟨"SoulOfficeModel", "areSo", "(III)Z"⟩ : MethodName), 49)) (q_v6 (j := 8) rfl) rfl
theorem q_w1874 : (Jvm.Cond.code ({ cls := "SoulOfficeModel", name := "areSo", desc := "(III)Z" } : Jvm.MethodName) prog_14_method_72_code (6 : Nat) (Option.some Jvm.ClassFile.FieldType.boolean)) ∈ WS := q_in_tab (q_c8 (j := 86) rfl) rfl
theorem q_g12_329 : q_gd 12 (329, 1, 229, 0, 0) := ⟨⟨q_w1871, ⟨q_w1873, ⟨q_w88, ⟨q_w126, ⟨q_w1874, True.intro⟩⟩⟩⟩⟩, True.intro⟩
theorem q_w1494 : (Jvm.Cond.fieldLink "SoulOfficeModel" (332 : Nat) "SoulOfficeModel" "hasWere" "Z") ∈ WS := q_in_tab (q_c6 (j := 186) rfl) rfl
theorem q_g12_332 : q_gd 12 (332, 0, 12, 31, 0) := ⟨⟨q_w1494, True.intro⟩, True.intro⟩
theorem q_w1497 : (Jvm.Cond.fieldLink "SoulOfficeModel" (335 : Nat) "SoulOfficeModel" "changed" "I") ∈ WS := q_in_tab (q_c6 (j := 189) rfl) rfl
theorem q_g12_335 : q_gd 12 (335, 0, 12, 34, 0) := ⟨⟨q_w1497, True.intro⟩, True.intro⟩
theorem q_w1895 : (Jvm.Cond.methodLink "SoulOfficeModel" (338 : Nat) ({ cls := "SoulOfficeModel", name := "kindBy", desc := "(II)I" } : Jvm.MethodName)) ∈ WS := q_in_tab (q_c8 (j := 107) rfl) rfl
theorem q_w1897 : (Jvm.Cond.instanceMethod ({ cls := "SoulOfficeModel", name := "kindBy", desc := "(II)I" } : Jvm.MethodName)) ∈ WS := q_in_tab (q_c8 (j := 109) rfl) rfl
theorem q_w92 : Cond.selects "SoulOfficeModel" (⟨"SoulOfficeModel", "kindBy", "(II)I"⟩ : MethodName) (⟨"SoulOfficeModel", "kindBy", "(II)I"⟩ : MethodName) ∈ WS := q_in_prv (q := ((⟨"SoulOfficeModel", "kindBy", "(II)I"⟩ : MethodName), 49)) (q_v6 (j := 12) rfl) rfl
theorem q_w1898 : (Jvm.Cond.code ({ cls := "SoulOfficeModel", name := "kindBy", desc := "(II)I" } : Jvm.MethodName) prog_14_method_75_code (4 : Nat) (Option.some Jvm.ClassFile.FieldType.int)) ∈ WS := q_in_tab (q_c8 (j := 110) rfl) rfl
theorem q_g12_338 : q_gd 12 (338, 1, 232, 0, 0) := ⟨⟨q_w1895, ⟨q_w1897, ⟨q_w92, ⟨q_w126, ⟨q_w1898, True.intro⟩⟩⟩⟩⟩, True.intro⟩
theorem q_w1891 : (Jvm.Cond.methodLink "SoulOfficeModel" (341 : Nat) ({ cls := "SoulOfficeModel", name := "canBe", desc := "(III)Z" } : Jvm.MethodName)) ∈ WS := q_in_tab (q_c8 (j := 103) rfl) rfl
theorem q_w1893 : (Jvm.Cond.instanceMethod ({ cls := "SoulOfficeModel", name := "canBe", desc := "(III)Z" } : Jvm.MethodName)) ∈ WS := q_in_tab (q_c8 (j := 105) rfl) rfl
theorem q_w91 : Cond.selects "SoulOfficeModel" (⟨"SoulOfficeModel", "canBe", "(III)Z"⟩ : MethodName) (⟨"SoulOfficeModel", "canBe", "(III)Z"⟩ : MethodName) ∈ WS := q_in_prv (q := ((⟨"SoulOfficeModel", "canBe", "(III)Z"⟩ : MethodName), 49)) (q_v6 (j := 11) rfl) rfl
theorem q_w1894 : (Jvm.Cond.code ({ cls := "SoulOfficeModel", name := "canBe", desc := "(III)Z" } : Jvm.MethodName) prog_14_method_76_code (6 : Nat) (Option.some Jvm.ClassFile.FieldType.boolean)) ∈ WS := q_in_tab (q_c8 (j := 106) rfl) rfl
theorem q_g12_341 : q_gd 12 (341, 1, 233, 0, 0) := ⟨⟨q_w1891, ⟨q_w1893, ⟨q_w91, ⟨q_w126, ⟨q_w1894, True.intro⟩⟩⟩⟩⟩, True.intro⟩
theorem q_w1899 : (Jvm.Cond.methodLink "SoulOfficeModel" (344 : Nat) ({ cls := "SoulOfficeModel", name := "nextAppeal", desc := "(I)Z" } : Jvm.MethodName)) ∈ WS := q_in_tab (q_c8 (j := 111) rfl) rfl
theorem q_w1901 : (Jvm.Cond.instanceMethod ({ cls := "SoulOfficeModel", name := "nextAppeal", desc := "(I)Z" } : Jvm.MethodName)) ∈ WS := q_in_tab (q_c8 (j := 113) rfl) rfl
theorem q_w93 : Cond.selects "SoulOfficeModel" (⟨"SoulOfficeModel", "nextAppeal", "(I)Z"⟩ : MethodName) (⟨"SoulOfficeModel", "nextAppeal", "(I)Z"⟩ : MethodName) ∈ WS := q_in_prv (q := ((⟨"SoulOfficeModel", "nextAppeal", "(I)Z"⟩ : MethodName), 49)) (q_v6 (j := 13) rfl) rfl
theorem q_w1902 : (Jvm.Cond.code ({ cls := "SoulOfficeModel", name := "nextAppeal", desc := "(I)Z" } : Jvm.MethodName) prog_14_method_77_code (3 : Nat) (Option.some Jvm.ClassFile.FieldType.boolean)) ∈ WS := q_in_tab (q_c8 (j := 114) rfl) rfl
theorem q_g12_344 : q_gd 12 (344, 1, 234, 0, 0) := ⟨⟨q_w1899, ⟨q_w1901, ⟨q_w93, ⟨q_w126, ⟨q_w1902, True.intro⟩⟩⟩⟩⟩, True.intro⟩
theorem q_w1887 : (Jvm.Cond.methodLink "SoulOfficeModel" (347 : Nat) ({ cls := "SoulOfficeModel", name := "appealOf", desc := "(II)I" } : Jvm.MethodName)) ∈ WS := q_in_tab (q_c8 (j := 99) rfl) rfl
theorem q_w1889 : (Jvm.Cond.instanceMethod ({ cls := "SoulOfficeModel", name := "appealOf", desc := "(II)I" } : Jvm.MethodName)) ∈ WS := q_in_tab (q_c8 (j := 101) rfl) rfl
theorem q_w90 : Cond.selects "SoulOfficeModel" (⟨"SoulOfficeModel", "appealOf", "(II)I"⟩ : MethodName) (⟨"SoulOfficeModel", "appealOf", "(II)I"⟩ : MethodName) ∈ WS := q_in_prv (q := ((⟨"SoulOfficeModel", "appealOf", "(II)I"⟩ : MethodName), 49)) (q_v6 (j := 10) rfl) rfl
theorem q_w1890 : (Jvm.Cond.code ({ cls := "SoulOfficeModel", name := "appealOf", desc := "(II)I" } : Jvm.MethodName) prog_14_method_78_code (7 : Nat) (Option.some Jvm.ClassFile.FieldType.int)) ∈ WS := q_in_tab (q_c8 (j := 102) rfl) rfl
theorem q_g12_347 : q_gd 12 (347, 1, 235, 0, 0) := ⟨⟨q_w1887, ⟨q_w1889, ⟨q_w90, ⟨q_w126, ⟨q_w1890, True.intro⟩⟩⟩⟩⟩, True.intro⟩
theorem q_w1915 : (Jvm.Cond.methodLink "SoulOfficeModel" (350 : Nat) ({ cls := "SoulOfficeModel", name := "laterOf", desc := "(I)I" } : Jvm.MethodName)) ∈ WS := q_in_tab (q_c8 (j := 127) rfl) rfl
theorem q_w1917 : (Jvm.Cond.instanceMethod ({ cls := "SoulOfficeModel", name := "laterOf", desc := "(I)I" } : Jvm.MethodName)) ∈ WS := q_in_tab (q_c8 (j := 129) rfl) rfl
theorem q_w94 : Cond.selects "SoulOfficeModel" (⟨"SoulOfficeModel", "laterOf", "(I)I"⟩ : MethodName) (⟨"SoulOfficeModel", "laterOf", "(I)I"⟩ : MethodName) ∈ WS := q_in_prv (q := ((⟨"SoulOfficeModel", "laterOf", "(I)I"⟩ : MethodName), 49)) (q_v6 (j := 14) rfl) rfl
theorem q_w1918 : (Jvm.Cond.code ({ cls := "SoulOfficeModel", name := "laterOf", desc := "(I)I" } : Jvm.MethodName) prog_14_method_82_code (3 : Nat) (Option.some Jvm.ClassFile.FieldType.int)) ∈ WS := q_in_tab (q_c8 (j := 130) rfl) rfl
theorem q_g12_350 : q_gd 12 (350, 1, 239, 0, 0) := ⟨⟨q_w1915, ⟨q_w1917, ⟨q_w94, ⟨q_w126, ⟨q_w1918, True.intro⟩⟩⟩⟩⟩, True.intro⟩
theorem q_w1498 : (Jvm.Cond.fieldLink "SoulOfficeModel" (353 : Nat) "SoulOfficeModel" "seed" "I") ∈ WS := q_in_tab (q_c6 (j := 190) rfl) rfl
theorem q_g12_353 : q_gd 12 (353, 0, 12, 35, 0) := ⟨⟨q_w1498, True.intro⟩, True.intro⟩
theorem q_w1935 : (Jvm.Cond.constant "SoulOfficeModel" (356 : Nat) (1103515245 : Int32)) ∈ WS := q_in_tab (q_c8 (j := 147) rfl) rfl
theorem q_g12_356 : q_gd 12 (356, 8, 0, 0, 1103515245) := ⟨⟨q_w1935, True.intro⟩, True.intro⟩
theorem q_w1931 : (Jvm.Cond.methodLink "SoulOfficeModel" (357 : Nat) ({ cls := "SoulOfficeModel", name := "draw", desc := "(I)I" } : Jvm.MethodName)) ∈ WS := q_in_tab (q_c8 (j := 143) rfl) rfl
theorem q_w1933 : (Jvm.Cond.instanceMethod ({ cls := "SoulOfficeModel", name := "draw", desc := "(I)I" } : Jvm.MethodName)) ∈ WS := q_in_tab (q_c8 (j := 145) rfl) rfl
theorem q_w96 : Cond.selects "SoulOfficeModel" (⟨"SoulOfficeModel", "draw", "(I)I"⟩ : MethodName) (⟨"SoulOfficeModel", "draw", "(I)I"⟩ : MethodName) ∈ WS := q_in_prv (q := ((⟨"SoulOfficeModel", "draw", "(I)I"⟩ : MethodName), 49)) (q_v7 (j := 0) rfl) rfl
theorem q_w1934 : (Jvm.Cond.code ({ cls := "SoulOfficeModel", name := "draw", desc := "(I)I" } : Jvm.MethodName) prog_14_method_85_code (2 : Nat) (Option.some Jvm.ClassFile.FieldType.int)) ∈ WS := q_in_tab (q_c8 (j := 146) rfl) rfl
theorem q_g12_357 : q_gd 12 (357, 1, 242, 0, 0) := ⟨⟨q_w1931, ⟨q_w1933, ⟨q_w96, ⟨q_w126, ⟨q_w1934, True.intro⟩⟩⟩⟩⟩, True.intro⟩
theorem q_w1927 : (Jvm.Cond.methodLink "SoulOfficeModel" (360 : Nat) ({ cls := "SoulOfficeModel", name := "years", desc := "(II)I" } : Jvm.MethodName)) ∈ WS := q_in_tab (q_c8 (j := 139) rfl) rfl
theorem q_w1929 : (Jvm.Cond.instanceMethod ({ cls := "SoulOfficeModel", name := "years", desc := "(II)I" } : Jvm.MethodName)) ∈ WS := q_in_tab (q_c8 (j := 141) rfl) rfl
theorem q_w95 : Cond.selects "SoulOfficeModel" (⟨"SoulOfficeModel", "years", "(II)I"⟩ : MethodName) (⟨"SoulOfficeModel", "years", "(II)I"⟩ : MethodName) ∈ WS := q_in_prv (q := ((⟨"SoulOfficeModel", "years", "(II)I"⟩ : MethodName), 49)) (q_v6 (j := 15) rfl) rfl
theorem q_w1930 : (Jvm.Cond.code ({ cls := "SoulOfficeModel", name := "years", desc := "(II)I" } : Jvm.MethodName) prog_14_method_86_code (7 : Nat) (Option.some Jvm.ClassFile.FieldType.int)) ∈ WS := q_in_tab (q_c8 (j := 142) rfl) rfl
theorem q_g12_360 : q_gd 12 (360, 1, 243, 0, 0) := ⟨⟨q_w1927, ⟨q_w1929, ⟨q_w95, ⟨q_w126, ⟨q_w1930, True.intro⟩⟩⟩⟩⟩, True.intro⟩
theorem q_w1944 : (Jvm.Cond.methodLink "SoulOfficeModel" (363 : Nat) ({ cls := "SoulOfficeModel", name := "greatestOf", desc := "(II)I" } : Jvm.MethodName)) ∈ WS := q_in_tab (q_c8 (j := 156) rfl) rfl
theorem q_w1946 : (Jvm.Cond.instanceMethod ({ cls := "SoulOfficeModel", name := "greatestOf", desc := "(II)I" } : Jvm.MethodName)) ∈ WS := q_in_tab (q_c8 (j := 158) rfl) rfl
theorem q_w97 : Cond.selects "SoulOfficeModel" (⟨"SoulOfficeModel", "greatestOf", "(II)I"⟩ : MethodName) (⟨"SoulOfficeModel", "greatestOf", "(II)I"⟩ : MethodName) ∈ WS := q_in_prv (q := ((⟨"SoulOfficeModel", "greatestOf", "(II)I"⟩ : MethodName), 49)) (q_v7 (j := 1) rfl) rfl
theorem q_w1947 : (Jvm.Cond.code ({ cls := "SoulOfficeModel", name := "greatestOf", desc := "(II)I" } : Jvm.MethodName) prog_14_method_89_code (3 : Nat) (Option.some Jvm.ClassFile.FieldType.int)) ∈ WS := q_in_tab (q_c8 (j := 159) rfl) rfl
theorem q_g12_363 : q_gd 12 (363, 1, 246, 0, 0) := ⟨⟨q_w1944, ⟨q_w1946, ⟨q_w97, ⟨q_w126, ⟨q_w1947, True.intro⟩⟩⟩⟩⟩, True.intro⟩
theorem q_w1499 : (Jvm.Cond.fieldLink "SoulOfficeModel" (366 : Nat) "SoulOfficeModel" "told" "I") ∈ WS := q_in_tab (q_c6 (j := 191) rfl) rfl
theorem q_g12_366 : q_gd 12 (366, 0, 12, 36, 0) := ⟨⟨q_w1499, True.intro⟩, True.intro⟩
theorem q_w1952 : (Jvm.Cond.methodLink "SoulOfficeModel" (369 : Nat) ({ cls := "SoulOfficeModel", name := "bookLine", desc := "()Z" } : Jvm.MethodName)) ∈ WS := q_in_tab (q_c8 (j := 164) rfl) rfl
theorem q_w1954 : (Jvm.Cond.instanceMethod ({ cls := "SoulOfficeModel", name := "bookLine", desc := "()Z" } : Jvm.MethodName)) ∈ WS := q_in_tab (q_c8 (j := 166) rfl) rfl
theorem q_w98 : Cond.selects "SoulOfficeModel" (⟨"SoulOfficeModel", "bookLine", "()Z"⟩ : MethodName) (⟨"SoulOfficeModel", "bookLine", "()Z"⟩ : MethodName) ∈ WS := q_in_prv (q := ((⟨"SoulOfficeModel", "bookLine", "()Z"⟩ : MethodName), 49)) (q_v7 (j := 2) rfl) rfl
theorem q_w1955 : (Jvm.Cond.code ({ cls := "SoulOfficeModel", name := "bookLine", desc := "()Z" } : Jvm.MethodName) prog_14_method_91_code (2 : Nat) (Option.some Jvm.ClassFile.FieldType.boolean)) ∈ WS := q_in_tab (q_c8 (j := 167) rfl) rfl
theorem q_g12_369 : q_gd 12 (369, 1, 248, 0, 0) := ⟨⟨q_w1952, ⟨q_w1954, ⟨q_w98, ⟨q_w126, ⟨q_w1955, True.intro⟩⟩⟩⟩⟩, True.intro⟩
theorem q_w1956 : (Jvm.Cond.methodLink "SoulOfficeModel" (372 : Nat) ({ cls := "SoulOfficeModel", name := "does", desc := "(I)I" } : Jvm.MethodName)) ∈ WS := q_in_tab (q_c8 (j := 168) rfl) rfl
theorem q_w1958 : (Jvm.Cond.instanceMethod ({ cls := "SoulOfficeModel", name := "does", desc := "(I)I" } : Jvm.MethodName)) ∈ WS := q_in_tab (q_c8 (j := 170) rfl) rfl
theorem q_w99 : Cond.selects "SoulOfficeModel" (⟨"SoulOfficeModel", "does", "(I)I"⟩ : MethodName) (⟨"SoulOfficeModel", "does", "(I)I"⟩ : MethodName) ∈ WS := q_in_prv (q := ((⟨"SoulOfficeModel", "does", "(I)I"⟩ : MethodName), 49)) (q_v7 (j := 3) rfl) rfl
theorem q_w1959 : (Jvm.Cond.code ({ cls := "SoulOfficeModel", name := "does", desc := "(I)I" } : Jvm.MethodName) prog_14_method_92_code (4 : Nat) (Option.some Jvm.ClassFile.FieldType.int)) ∈ WS := q_in_tab (q_c8 (j := 171) rfl) rfl
theorem q_g12_372 : q_gd 12 (372, 1, 249, 0, 0) := ⟨⟨q_w1956, ⟨q_w1958, ⟨q_w99, ⟨q_w126, ⟨q_w1959, True.intro⟩⟩⟩⟩⟩, True.intro⟩
theorem q_w1501 : (Jvm.Cond.fieldLink "SoulOfficeModel" (375 : Nat) "SoulOfficeModel" "hasBooked" "Z") ∈ WS := q_in_tab (q_c6 (j := 193) rfl) rfl
theorem q_g12_375 : q_gd 12 (375, 0, 12, 38, 0) := ⟨⟨q_w1501, True.intro⟩, True.intro⟩
theorem q_w1503 : (Jvm.Cond.fieldLink "SoulOfficeModel" (378 : Nat) "SoulOfficeModel" "codes" "I") ∈ WS := q_in_tab (q_c6 (j := 195) rfl) rfl
theorem q_g12_378 : q_gd 12 (378, 0, 12, 40, 0) := ⟨⟨q_w1503, True.intro⟩, True.intro⟩
theorem q_w1505 : (Jvm.Cond.fieldLink "SoulOfficeModel" (381 : Nat) "SoulOfficeModel" "top" "I") ∈ WS := q_in_tab (q_c6 (j := 197) rfl) rfl
theorem q_g12_381 : q_gd 12 (381, 0, 12, 42, 0) := ⟨⟨q_w1505, True.intro⟩, True.intro⟩
theorem q_w1972 : (Jvm.Cond.methodLink "SoulOfficeModel" (384 : Nat) ({ cls := "SoulOfficeModel", name := "code", desc := "(III)V" } : Jvm.MethodName)) ∈ WS := q_in_tab (q_c8 (j := 184) rfl) rfl
theorem q_w1974 : (Jvm.Cond.instanceMethod ({ cls := "SoulOfficeModel", name := "code", desc := "(III)V" } : Jvm.MethodName)) ∈ WS := q_in_tab (q_c8 (j := 186) rfl) rfl
theorem q_w101 : Cond.selects "SoulOfficeModel" (⟨"SoulOfficeModel", "code", "(III)V"⟩ : MethodName) (⟨"SoulOfficeModel", "code", "(III)V"⟩ : MethodName) ∈ WS := q_in_prv (q := ((⟨"SoulOfficeModel", "code", "(III)V"⟩ : MethodName), 49)) (q_v7 (j := 5) rfl) rfl
theorem q_w1975 : (Jvm.Cond.code ({ cls := "SoulOfficeModel", name := "code", desc := "(III)V" } : Jvm.MethodName) prog_14_method_95_code (4 : Nat) (Option.none : Option Jvm.ClassFile.FieldType)) ∈ WS := q_in_tab (q_c8 (j := 187) rfl) rfl
theorem q_g12_384 : q_gd 12 (384, 1, 252, 0, 0) := ⟨⟨q_w1972, ⟨q_w1974, ⟨q_w101, ⟨q_w126, ⟨q_w1975, True.intro⟩⟩⟩⟩⟩, True.intro⟩
theorem q_w1506 : (Jvm.Cond.fieldLink "SoulOfficeModel" (388 : Nat) "SoulOfficeModel" "deep" "I") ∈ WS := q_in_tab (q_c6 (j := 198) rfl) rfl
theorem q_g12_388 : q_gd 12 (388, 0, 12, 43, 0) := ⟨⟨q_w1506, True.intro⟩, True.intro⟩
theorem q_w1988 : (Jvm.Cond.methodLink "SoulOfficeModel" (391 : Nat) ({ cls := "SoulOfficeModel", name := "leafOf", desc := "()I" } : Jvm.MethodName)) ∈ WS := q_in_tab (q_c8 (j := 200) rfl) rfl
theorem q_w1990 : (Jvm.Cond.instanceMethod ({ cls := "SoulOfficeModel", name := "leafOf", desc := "()I" } : Jvm.MethodName)) ∈ WS := q_in_tab (q_c8 (j := 202) rfl) rfl
theorem q_w105 : Cond.selects "SoulOfficeModel" (⟨"SoulOfficeModel", "leafOf", "()I"⟩ : MethodName) (⟨"SoulOfficeModel", "leafOf", "()I"⟩ : MethodName) ∈ WS := q_in_prv (q := ((⟨"SoulOfficeModel", "leafOf", "()I"⟩ : MethodName), 49)) (q_v7 (j := 9) rfl) rfl
theorem q_w1991 : (Jvm.Cond.code ({ cls := "SoulOfficeModel", name := "leafOf", desc := "()I" } : Jvm.MethodName) prog_14_method_98_code (1 : Nat) (Option.some Jvm.ClassFile.FieldType.int)) ∈ WS := q_in_tab (q_c8 (j := 203) rfl) rfl
theorem q_g12_391 : q_gd 12 (391, 1, 255, 0, 0) := ⟨⟨q_w1988, ⟨q_w1990, ⟨q_w105, ⟨q_w126, ⟨q_w1991, True.intro⟩⟩⟩⟩⟩, True.intro⟩
theorem q_w1504 : (Jvm.Cond.fieldLink "SoulOfficeModel" (394 : Nat) "SoulOfficeModel" "ones" "I") ∈ WS := q_in_tab (q_c6 (j := 196) rfl) rfl
theorem q_g12_394 : q_gd 12 (394, 0, 12, 41, 0) := ⟨⟨q_w1504, True.intro⟩, True.intro⟩
theorem q_w1507 : (Jvm.Cond.fieldLink "SoulOfficeModel" (397 : Nat) "SoulOfficeModel" "isWhole" "Z") ∈ WS := q_in_tab (q_c6 (j := 199) rfl) rfl
theorem q_g12_397 : q_gd 12 (397, 0, 12, 44, 0) := ⟨⟨q_w1507, True.intro⟩, True.intro⟩
theorem q_w1968 : (Jvm.Cond.methodLink "SoulOfficeModel" (400 : Nat) ({ cls := "SoulOfficeModel", name := "nots", desc := "()V" } : Jvm.MethodName)) ∈ WS := q_in_tab (q_c8 (j := 180) rfl) rfl
theorem q_w1970 : (Jvm.Cond.instanceMethod ({ cls := "SoulOfficeModel", name := "nots", desc := "()V" } : Jvm.MethodName)) ∈ WS := q_in_tab (q_c8 (j := 182) rfl) rfl
theorem q_w100 : Cond.selects "SoulOfficeModel" (⟨"SoulOfficeModel", "nots", "()V"⟩ : MethodName) (⟨"SoulOfficeModel", "nots", "()V"⟩ : MethodName) ∈ WS := q_in_prv (q := ((⟨"SoulOfficeModel", "nots", "()V"⟩ : MethodName), 49)) (q_v7 (j := 4) rfl) rfl
theorem q_w1971 : (Jvm.Cond.code ({ cls := "SoulOfficeModel", name := "nots", desc := "()V" } : Jvm.MethodName) prog_14_method_97_code (1 : Nat) (Option.none : Option Jvm.ClassFile.FieldType)) ∈ WS := q_in_tab (q_c8 (j := 183) rfl) rfl
theorem q_g12_400 : q_gd 12 (400, 1, 254, 0, 0) := ⟨⟨q_w1968, ⟨q_w1970, ⟨q_w100, ⟨q_w126, ⟨q_w1971, True.intro⟩⟩⟩⟩⟩, True.intro⟩
theorem q_w1976 : (Jvm.Cond.methodLink "SoulOfficeModel" (403 : Nat) ({ cls := "SoulOfficeModel", name := "joins", desc := "(I)V" } : Jvm.MethodName)) ∈ WS := q_in_tab (q_c8 (j := 188) rfl) rfl
theorem q_w1978 : (Jvm.Cond.instanceMethod ({ cls := "SoulOfficeModel", name := "joins", desc := "(I)V" } : Jvm.MethodName)) ∈ WS := q_in_tab (q_c8 (j := 190) rfl) rfl
theorem q_w102 : Cond.selects "SoulOfficeModel" (⟨"SoulOfficeModel", "joins", "(I)V"⟩ : MethodName) (⟨"SoulOfficeModel", "joins", "(I)V"⟩ : MethodName) ∈ WS := q_in_prv (q := ((⟨"SoulOfficeModel", "joins", "(I)V"⟩ : MethodName), 49)) (q_v7 (j := 6) rfl) rfl
theorem q_w1979 : (Jvm.Cond.code ({ cls := "SoulOfficeModel", name := "joins", desc := "(I)V" } : Jvm.MethodName) prog_14_method_96_code (2 : Nat) (Option.none : Option Jvm.ClassFile.FieldType)) ∈ WS := q_in_tab (q_c8 (j := 191) rfl) rfl
theorem q_g12_403 : q_gd 12 (403, 1, 253, 0, 0) := ⟨⟨q_w1976, ⟨q_w1978, ⟨q_w102, ⟨q_w126, ⟨q_w1979, True.intro⟩⟩⟩⟩⟩, True.intro⟩
theorem q_w1980 : (Jvm.Cond.methodLink "SoulOfficeModel" (406 : Nat) ({ cls := "SoulOfficeModel", name := "behind", desc := "()Z" } : Jvm.MethodName)) ∈ WS := q_in_tab (q_c8 (j := 192) rfl) rfl
theorem q_w1982 : (Jvm.Cond.instanceMethod ({ cls := "SoulOfficeModel", name := "behind", desc := "()Z" } : Jvm.MethodName)) ∈ WS := q_in_tab (q_c8 (j := 194) rfl) rfl
theorem q_w103 : Cond.selects "SoulOfficeModel" (⟨"SoulOfficeModel", "behind", "()Z"⟩ : MethodName) (⟨"SoulOfficeModel", "behind", "()Z"⟩ : MethodName) ∈ WS := q_in_prv (q := ((⟨"SoulOfficeModel", "behind", "()Z"⟩ : MethodName), 49)) (q_v7 (j := 7) rfl) rfl
theorem q_w1983 : (Jvm.Cond.code ({ cls := "SoulOfficeModel", name := "behind", desc := "()Z" } : Jvm.MethodName) prog_14_method_100_code (1 : Nat) (Option.some Jvm.ClassFile.FieldType.boolean)) ∈ WS := q_in_tab (q_c8 (j := 195) rfl) rfl
theorem q_g12_406 : q_gd 12 (406, 1, 257, 0, 0) := ⟨⟨q_w1980, ⟨q_w1982, ⟨q_w103, ⟨q_w126, ⟨q_w1983, True.intro⟩⟩⟩⟩⟩, True.intro⟩
theorem q_w1984 : (Jvm.Cond.methodLink "SoulOfficeModel" (409 : Nat) ({ cls := "SoulOfficeModel", name := "operand", desc := "()Z" } : Jvm.MethodName)) ∈ WS := q_in_tab (q_c8 (j := 196) rfl) rfl
theorem q_w1986 : (Jvm.Cond.instanceMethod ({ cls := "SoulOfficeModel", name := "operand", desc := "()Z" } : Jvm.MethodName)) ∈ WS := q_in_tab (q_c8 (j := 198) rfl) rfl
theorem q_w104 : Cond.selects "SoulOfficeModel" (⟨"SoulOfficeModel", "operand", "()Z"⟩ : MethodName) (⟨"SoulOfficeModel", "operand", "()Z"⟩ : MethodName) ∈ WS := q_in_prv (q := ((⟨"SoulOfficeModel", "operand", "()Z"⟩ : MethodName), 49)) (q_v7 (j := 8) rfl) rfl
theorem q_w1987 : (Jvm.Cond.code ({ cls := "SoulOfficeModel", name := "operand", desc := "()Z" } : Jvm.MethodName) prog_14_method_99_code (5 : Nat) (Option.some Jvm.ClassFile.FieldType.boolean)) ∈ WS := q_in_tab (q_c8 (j := 199) rfl) rfl
theorem q_g12_409 : q_gd 12 (409, 1, 256, 0, 0) := ⟨⟨q_w1984, ⟨q_w1986, ⟨q_w104, ⟨q_w126, ⟨q_w1987, True.intro⟩⟩⟩⟩⟩, True.intro⟩
theorem q_w2000 : (Jvm.Cond.methodLink "SoulOfficeModel" (412 : Nat) ({ cls := "SoulOfficeModel", name := "isLeaf", desc := "(IIII)Z" } : Jvm.MethodName)) ∈ WS := q_in_tab (q_c8 (j := 212) rfl) rfl
theorem q_w2002 : (Jvm.Cond.instanceMethod ({ cls := "SoulOfficeModel", name := "isLeaf", desc := "(IIII)Z" } : Jvm.MethodName)) ∈ WS := q_in_tab (q_c8 (j := 214) rfl) rfl
theorem q_w107 : Cond.selects "SoulOfficeModel" (⟨"SoulOfficeModel", "isLeaf", "(IIII)Z"⟩ : MethodName) (⟨"SoulOfficeModel", "isLeaf", "(IIII)Z"⟩ : MethodName) ∈ WS := q_in_prv (q := ((⟨"SoulOfficeModel", "isLeaf", "(IIII)Z"⟩ : MethodName), 49)) (q_v7 (j := 11) rfl) rfl
theorem q_w2003 : (Jvm.Cond.code ({ cls := "SoulOfficeModel", name := "isLeaf", desc := "(IIII)Z" } : Jvm.MethodName) prog_14_method_102_code (6 : Nat) (Option.some Jvm.ClassFile.FieldType.boolean)) ∈ WS := q_in_tab (q_c8 (j := 215) rfl) rfl
theorem q_g12_412 : q_gd 12 (412, 1, 259, 0, 0) := ⟨⟨q_w2000, ⟨q_w2002, ⟨q_w107, ⟨q_w126, ⟨q_w2003, True.intro⟩⟩⟩⟩⟩, True.intro⟩
theorem q_w1996 : (Jvm.Cond.methodLink "SoulOfficeModel" (416 : Nat) ({ cls := "SoulOfficeModel", name := "isSaid", desc := "(I)Z" } : Jvm.MethodName)) ∈ WS := q_in_tab (q_c8 (j := 208) rfl) rfl
theorem q_w1998 : (Jvm.Cond.instanceMethod ({ cls := "SoulOfficeModel", name := "isSaid", desc := "(I)Z" } : Jvm.MethodName)) ∈ WS := q_in_tab (q_c8 (j := 210) rfl) rfl
theorem q_w106 : Cond.selects "SoulOfficeModel" (⟨"SoulOfficeModel", "isSaid", "(I)Z"⟩ : MethodName) (⟨"SoulOfficeModel", "isSaid", "(I)Z"⟩ : MethodName) ∈ WS := q_in_prv (q := ((⟨"SoulOfficeModel", "isSaid", "(I)Z"⟩ : MethodName), 49)) (q_v7 (j := 10) rfl) rfl
theorem q_w1999 : (Jvm.Cond.code ({ cls := "SoulOfficeModel", name := "isSaid", desc := "(I)Z" } : Jvm.MethodName) prog_14_method_103_code (5 : Nat) (Option.some Jvm.ClassFile.FieldType.boolean)) ∈ WS := q_in_tab (q_c8 (j := 211) rfl) rfl
theorem q_g12_416 : q_gd 12 (416, 1, 260, 0, 0) := ⟨⟨q_w1996, ⟨q_w1998, ⟨q_w106, ⟨q_w126, ⟨q_w1999, True.intro⟩⟩⟩⟩⟩, True.intro⟩
theorem q_w1349 : (Jvm.Cond.methodLink "SoulOfficeLaw" (7 : Nat) ({ cls := "SoulOffice", name := "soul", desc := "(II)I" } : Jvm.MethodName)) ∈ WS := q_in_tab (q_c6 (j := 41) rfl) rfl
theorem q_w1350 : (Jvm.Cond.instanceMethod ({ cls := "SoulOffice", name := "soul", desc := "(II)I" } : Jvm.MethodName)) ∈ WS := q_in_tab (q_c6 (j := 42) rfl) rfl
theorem q_w1351 : (Jvm.Cond.selects "SoulOffice" ({ cls := "SoulOffice", name := "soul", desc := "(II)I" } : Jvm.MethodName) ({ cls := "SoulOffice", name := "soul", desc := "(II)I" } : Jvm.MethodName)) ∈ WS := q_in_tab (q_c6 (j := 43) rfl) rfl
theorem q_w1352 : (Jvm.Cond.code ({ cls := "SoulOffice", name := "soul", desc := "(II)I" } : Jvm.MethodName) prog_1_method_13_code (3 : Nat) (Option.some Jvm.ClassFile.FieldType.int)) ∈ WS := q_in_tab (q_c6 (j := 44) rfl) rfl
theorem q_g13_7 : q_gd 13 (7, 1, 121, 0, 0) := ⟨⟨q_w1349, ⟨q_w1350, ⟨q_w1351, ⟨q_w109, ⟨q_w1352, True.intro⟩⟩⟩⟩⟩, True.intro⟩
theorem q_w133 : (Jvm.Cond.classLink "SoulOfficeLaw" (8 : Nat) "SoulOffice") ∈ WS := q_in_tab (q_c1 (j := 25) rfl) rfl
theorem q_w134 : (Jvm.Cond.instantiable "SoulOffice" (15 : Nat)) ∈ WS := q_in_tab (q_c1 (j := 26) rfl) rfl
theorem q_g13_8 : q_gd 13 (8, 6, 11, 0, 0) := ⟨⟨q_w133, ⟨q_w134, ⟨q_w109, True.intro⟩⟩⟩, True.intro⟩
theorem q_w1348 : (Jvm.Cond.classLink "SoulOfficeLaw" (13 : Nat) "java/util/NoSuchElementException") ∈ WS := q_in_tab (q_c6 (j := 40) rfl) rfl
theorem q_g13_13 : q_gd 13 (13, 17, 0, 0, 0) := ⟨⟨q_w1348, True.intro⟩, True.intro⟩
theorem q_w1417 : (Jvm.Cond.methodLink "SoulOfficeLaw" (15 : Nat) ({ cls := "SoulOffice", name := "net", desc := "(I)I" } : Jvm.MethodName)) ∈ WS := q_in_tab (q_c6 (j := 109) rfl) rfl
theorem q_w1418 : (Jvm.Cond.instanceMethod ({ cls := "SoulOffice", name := "net", desc := "(I)I" } : Jvm.MethodName)) ∈ WS := q_in_tab (q_c6 (j := 110) rfl) rfl
theorem q_w1419 : (Jvm.Cond.selects "SoulOffice" ({ cls := "SoulOffice", name := "net", desc := "(I)I" } : Jvm.MethodName) ({ cls := "SoulOffice", name := "net", desc := "(I)I" } : Jvm.MethodName)) ∈ WS := q_in_tab (q_c6 (j := 111) rfl) rfl
theorem q_w1420 : (Jvm.Cond.code ({ cls := "SoulOffice", name := "net", desc := "(I)I" } : Jvm.MethodName) prog_1_method_31_code (2 : Nat) (Option.some Jvm.ClassFile.FieldType.int)) ∈ WS := q_in_tab (q_c6 (j := 112) rfl) rfl
theorem q_g13_15 : q_gd 13 (15, 1, 139, 0, 0) := ⟨⟨q_w1417, ⟨q_w1418, ⟨q_w1419, ⟨q_w109, ⟨q_w1420, True.intro⟩⟩⟩⟩⟩, True.intro⟩
theorem q_w135 : (Jvm.Cond.methodLink "SoulOfficeLaw" (19 : Nat) ({ cls := "SoulOffice", name := "<init>", desc := "()V" } : Jvm.MethodName)) ∈ WS := q_in_tab (q_c1 (j := 27) rfl) rfl
theorem q_w136 : (Jvm.Cond.instanceMethod ({ cls := "SoulOffice", name := "<init>", desc := "()V" } : Jvm.MethodName)) ∈ WS := q_in_tab (q_c1 (j := 28) rfl) rfl
theorem q_w137 : (Jvm.Cond.code ({ cls := "SoulOffice", name := "<init>", desc := "()V" } : Jvm.MethodName) prog_1_method_1_code (5 : Nat) (Option.none : Option Jvm.ClassFile.FieldType)) ∈ WS := q_in_tab (q_c1 (j := 29) rfl) rfl
theorem q_g13_19 : q_gd 13 (19, 4, 109, 0, 0) := ⟨⟨q_w135, ⟨q_w136, ⟨q_w109, ⟨q_w137, True.intro⟩⟩⟩⟩, True.intro⟩
theorem q_w1438 : (Jvm.Cond.classLink "SoulOfficeLaw" (20 : Nat) "SoulOfficeModel") ∈ WS := q_in_tab (q_c6 (j := 130) rfl) rfl
theorem q_w1432 : (Jvm.Cond.instantiable "SoulOfficeModel" (49 : Nat)) ∈ WS := q_in_tab (q_c6 (j := 124) rfl) rfl
theorem q_g13_20 : q_gd 13 (20, 6, 12, 0, 0) := ⟨⟨q_w1438, ⟨q_w1432, ⟨q_w126, True.intro⟩⟩⟩, True.intro⟩
theorem q_w1439 : (Jvm.Cond.methodLink "SoulOfficeLaw" (22 : Nat) ({ cls := "SoulOfficeModel", name := "<init>", desc := "()V" } : Jvm.MethodName)) ∈ WS := q_in_tab (q_c6 (j := 131) rfl) rfl
theorem q_w1440 : (Jvm.Cond.instanceMethod ({ cls := "SoulOfficeModel", name := "<init>", desc := "()V" } : Jvm.MethodName)) ∈ WS := q_in_tab (q_c6 (j := 132) rfl) rfl
theorem q_w1441 : (Jvm.Cond.code ({ cls := "SoulOfficeModel", name := "<init>", desc := "()V" } : Jvm.MethodName) prog_14_method_11_code (1 : Nat) (Option.none : Option Jvm.ClassFile.FieldType)) ∈ WS := q_in_tab (q_c6 (j := 133) rfl) rfl
theorem q_g13_22 : q_gd 13 (22, 4, 168, 0, 0) := ⟨⟨q_w1439, ⟨q_w1440, ⟨q_w126, ⟨q_w1441, True.intro⟩⟩⟩⟩, True.intro⟩
theorem q_w697 : (Jvm.Cond.methodLink "SoulOfficeLaw" (23 : Nat) ({ cls := "SoulOffice", name := "feed", desc := "(IIIII)I" } : Jvm.MethodName)) ∈ WS := q_in_tab (q_c3 (j := 109) rfl) rfl
theorem q_w698 : (Jvm.Cond.instanceMethod ({ cls := "SoulOffice", name := "feed", desc := "(IIIII)I" } : Jvm.MethodName)) ∈ WS := q_in_tab (q_c3 (j := 110) rfl) rfl
theorem q_w699 : (Jvm.Cond.selects "SoulOffice" ({ cls := "SoulOffice", name := "feed", desc := "(IIIII)I" } : Jvm.MethodName) ({ cls := "SoulOffice", name := "feed", desc := "(IIIII)I" } : Jvm.MethodName)) ∈ WS := q_in_tab (q_c3 (j := 111) rfl) rfl
theorem q_w700 : (Jvm.Cond.code ({ cls := "SoulOffice", name := "feed", desc := "(IIIII)I" } : Jvm.MethodName) prog_1_method_2_code (6 : Nat) (Option.some Jvm.ClassFile.FieldType.int)) ∈ WS := q_in_tab (q_c3 (j := 112) rfl) rfl
theorem q_g13_23 : q_gd 13 (23, 1, 110, 0, 0) := ⟨⟨q_w697, ⟨q_w698, ⟨q_w699, ⟨q_w109, ⟨q_w700, True.intro⟩⟩⟩⟩⟩, True.intro⟩
theorem q_w1425 : (Jvm.Cond.methodLink "SoulOfficeLaw" (27 : Nat) ({ cls := "SoulOfficeModel", name := "feed", desc := "(IIIII)I" } : Jvm.MethodName)) ∈ WS := q_in_tab (q_c6 (j := 117) rfl) rfl
theorem q_w1426 : (Jvm.Cond.instanceMethod ({ cls := "SoulOfficeModel", name := "feed", desc := "(IIIII)I" } : Jvm.MethodName)) ∈ WS := q_in_tab (q_c6 (j := 118) rfl) rfl
theorem q_w1427 : (Jvm.Cond.selects "SoulOfficeModel" ({ cls := "SoulOfficeModel", name := "feed", desc := "(IIIII)I" } : Jvm.MethodName) ({ cls := "SoulOfficeModel", name := "feed", desc := "(IIIII)I" } : Jvm.MethodName)) ∈ WS := q_in_tab (q_c6 (j := 119) rfl) rfl
theorem q_w1428 : (Jvm.Cond.code ({ cls := "SoulOfficeModel", name := "feed", desc := "(IIIII)I" } : Jvm.MethodName) prog_14_method_3_code (6 : Nat) (Option.some Jvm.ClassFile.FieldType.int)) ∈ WS := q_in_tab (q_c6 (j := 120) rfl) rfl
theorem q_g13_27 : q_gd 13 (27, 1, 160, 0, 0) := ⟨⟨q_w1425, ⟨q_w1426, ⟨q_w1427, ⟨q_w126, ⟨q_w1428, True.intro⟩⟩⟩⟩⟩, True.intro⟩
theorem q_w705 : (Jvm.Cond.methodLink "SoulOfficeLaw" (28 : Nat) ({ cls := "SoulOffice", name := "end", desc := "(I)Z" } : Jvm.MethodName)) ∈ WS := q_in_tab (q_c3 (j := 117) rfl) rfl
theorem q_w706 : (Jvm.Cond.instanceMethod ({ cls := "SoulOffice", name := "end", desc := "(I)Z" } : Jvm.MethodName)) ∈ WS := q_in_tab (q_c3 (j := 118) rfl) rfl
theorem q_w707 : (Jvm.Cond.selects "SoulOffice" ({ cls := "SoulOffice", name := "end", desc := "(I)Z" } : Jvm.MethodName) ({ cls := "SoulOffice", name := "end", desc := "(I)Z" } : Jvm.MethodName)) ∈ WS := q_in_tab (q_c3 (j := 119) rfl) rfl
theorem q_w708 : (Jvm.Cond.code ({ cls := "SoulOffice", name := "end", desc := "(I)Z" } : Jvm.MethodName) prog_1_method_3_code (2 : Nat) (Option.some Jvm.ClassFile.FieldType.boolean)) ∈ WS := q_in_tab (q_c3 (j := 120) rfl) rfl
theorem q_g13_28 : q_gd 13 (28, 1, 111, 0, 0) := ⟨⟨q_w705, ⟨q_w706, ⟨q_w707, ⟨q_w109, ⟨q_w708, True.intro⟩⟩⟩⟩⟩, True.intro⟩
theorem q_w1434 : (Jvm.Cond.methodLink "SoulOfficeLaw" (32 : Nat) ({ cls := "SoulOfficeModel", name := "end", desc := "(I)Z" } : Jvm.MethodName)) ∈ WS := q_in_tab (q_c6 (j := 126) rfl) rfl
theorem q_w1435 : (Jvm.Cond.instanceMethod ({ cls := "SoulOfficeModel", name := "end", desc := "(I)Z" } : Jvm.MethodName)) ∈ WS := q_in_tab (q_c6 (j := 127) rfl) rfl
theorem q_w1436 : (Jvm.Cond.selects "SoulOfficeModel" ({ cls := "SoulOfficeModel", name := "end", desc := "(I)Z" } : Jvm.MethodName) ({ cls := "SoulOfficeModel", name := "end", desc := "(I)Z" } : Jvm.MethodName)) ∈ WS := q_in_tab (q_c6 (j := 128) rfl) rfl
theorem q_w1437 : (Jvm.Cond.code ({ cls := "SoulOfficeModel", name := "end", desc := "(I)Z" } : Jvm.MethodName) prog_14_method_5_code (2 : Nat) (Option.some Jvm.ClassFile.FieldType.boolean)) ∈ WS := q_in_tab (q_c6 (j := 129) rfl) rfl
theorem q_g13_32 : q_gd 13 (32, 1, 162, 0, 0) := ⟨⟨q_w1434, ⟨q_w1435, ⟨q_w1436, ⟨q_w126, ⟨q_w1437, True.intro⟩⟩⟩⟩⟩, True.intro⟩
theorem q_w709 : (Jvm.Cond.methodLink "SoulOfficeLaw" (33 : Nat) ({ cls := "SoulOffice", name := "office", desc := "()I" } : Jvm.MethodName)) ∈ WS := q_in_tab (q_c3 (j := 121) rfl) rfl
theorem q_w710 : (Jvm.Cond.instanceMethod ({ cls := "SoulOffice", name := "office", desc := "()I" } : Jvm.MethodName)) ∈ WS := q_in_tab (q_c3 (j := 122) rfl) rfl
theorem q_w711 : (Jvm.Cond.selects "SoulOffice" ({ cls := "SoulOffice", name := "office", desc := "()I" } : Jvm.MethodName) ({ cls := "SoulOffice", name := "office", desc := "()I" } : Jvm.MethodName)) ∈ WS := q_in_tab (q_c3 (j := 123) rfl) rfl
theorem q_w712 : (Jvm.Cond.code ({ cls := "SoulOffice", name := "office", desc := "()I" } : Jvm.MethodName) prog_1_method_4_code (2 : Nat) (Option.some Jvm.ClassFile.FieldType.int)) ∈ WS := q_in_tab (q_c3 (j := 124) rfl) rfl
theorem q_g13_33 : q_gd 13 (33, 1, 112, 0, 0) := ⟨⟨q_w709, ⟨q_w710, ⟨q_w711, ⟨q_w109, ⟨q_w712, True.intro⟩⟩⟩⟩⟩, True.intro⟩
theorem q_w1612 : (Jvm.Cond.methodLink "SoulOfficeLaw" (37 : Nat) ({ cls := "SoulOfficeModel", name := "office", desc := "()I" } : Jvm.MethodName)) ∈ WS := q_in_tab (q_c7 (j := 64) rfl) rfl
theorem q_w1613 : (Jvm.Cond.instanceMethod ({ cls := "SoulOfficeModel", name := "office", desc := "()I" } : Jvm.MethodName)) ∈ WS := q_in_tab (q_c7 (j := 65) rfl) rfl
theorem q_w1614 : (Jvm.Cond.selects "SoulOfficeModel" ({ cls := "SoulOfficeModel", name := "office", desc := "()I" } : Jvm.MethodName) ({ cls := "SoulOfficeModel", name := "office", desc := "()I" } : Jvm.MethodName)) ∈ WS := q_in_tab (q_c7 (j := 66) rfl) rfl
theorem q_w1615 : (Jvm.Cond.code ({ cls := "SoulOfficeModel", name := "office", desc := "()I" } : Jvm.MethodName) prog_14_method_28_code (2 : Nat) (Option.some Jvm.ClassFile.FieldType.int)) ∈ WS := q_in_tab (q_c7 (j := 67) rfl) rfl
theorem q_g13_37 : q_gd 13 (37, 1, 185, 0, 0) := ⟨⟨q_w1612, ⟨q_w1613, ⟨q_w1614, ⟨q_w126, ⟨q_w1615, True.intro⟩⟩⟩⟩⟩, True.intro⟩
theorem q_w857 : (Jvm.Cond.methodLink "SoulOfficeLaw" (38 : Nat) ({ cls := "SoulOffice", name := "fault", desc := "()I" } : Jvm.MethodName)) ∈ WS := q_in_tab (q_c4 (j := 29) rfl) rfl
theorem q_w858 : (Jvm.Cond.instanceMethod ({ cls := "SoulOffice", name := "fault", desc := "()I" } : Jvm.MethodName)) ∈ WS := q_in_tab (q_c4 (j := 30) rfl) rfl
theorem q_w859 : (Jvm.Cond.selects "SoulOffice" ({ cls := "SoulOffice", name := "fault", desc := "()I" } : Jvm.MethodName) ({ cls := "SoulOffice", name := "fault", desc := "()I" } : Jvm.MethodName)) ∈ WS := q_in_tab (q_c4 (j := 31) rfl) rfl
theorem q_w860 : (Jvm.Cond.code ({ cls := "SoulOffice", name := "fault", desc := "()I" } : Jvm.MethodName) prog_1_method_5_code (1 : Nat) (Option.some Jvm.ClassFile.FieldType.int)) ∈ WS := q_in_tab (q_c4 (j := 32) rfl) rfl
theorem q_g13_38 : q_gd 13 (38, 1, 113, 0, 0) := ⟨⟨q_w857, ⟨q_w858, ⟨q_w859, ⟨q_w109, ⟨q_w860, True.intro⟩⟩⟩⟩⟩, True.intro⟩
theorem q_w1688 : (Jvm.Cond.methodLink "SoulOfficeLaw" (41 : Nat) ({ cls := "SoulOfficeModel", name := "fault", desc := "()I" } : Jvm.MethodName)) ∈ WS := q_in_tab (q_c7 (j := 140) rfl) rfl
theorem q_w1689 : (Jvm.Cond.instanceMethod ({ cls := "SoulOfficeModel", name := "fault", desc := "()I" } : Jvm.MethodName)) ∈ WS := q_in_tab (q_c7 (j := 141) rfl) rfl
theorem q_w1690 : (Jvm.Cond.selects "SoulOfficeModel" ({ cls := "SoulOfficeModel", name := "fault", desc := "()I" } : Jvm.MethodName) ({ cls := "SoulOfficeModel", name := "fault", desc := "()I" } : Jvm.MethodName)) ∈ WS := q_in_tab (q_c7 (j := 142) rfl) rfl
theorem q_w1691 : (Jvm.Cond.code ({ cls := "SoulOfficeModel", name := "fault", desc := "()I" } : Jvm.MethodName) prog_14_method_29_code (1 : Nat) (Option.some Jvm.ClassFile.FieldType.int)) ∈ WS := q_in_tab (q_c7 (j := 143) rfl) rfl
theorem q_g13_41 : q_gd 13 (41, 1, 186, 0, 0) := ⟨⟨q_w1688, ⟨q_w1689, ⟨q_w1690, ⟨q_w126, ⟨q_w1691, True.intro⟩⟩⟩⟩⟩, True.intro⟩
theorem q_w1060 : (Jvm.Cond.methodLink "SoulOfficeLaw" (42 : Nat) ({ cls := "SoulOffice", name := "kind", desc := "(II)I" } : Jvm.MethodName)) ∈ WS := q_in_tab (q_c4 (j := 232) rfl) rfl
theorem q_w1061 : (Jvm.Cond.instanceMethod ({ cls := "SoulOffice", name := "kind", desc := "(II)I" } : Jvm.MethodName)) ∈ WS := q_in_tab (q_c4 (j := 233) rfl) rfl
theorem q_w1062 : (Jvm.Cond.selects "SoulOffice" ({ cls := "SoulOffice", name := "kind", desc := "(II)I" } : Jvm.MethodName) ({ cls := "SoulOffice", name := "kind", desc := "(II)I" } : Jvm.MethodName)) ∈ WS := q_in_tab (q_c4 (j := 234) rfl) rfl
theorem q_w1063 : (Jvm.Cond.code ({ cls := "SoulOffice", name := "kind", desc := "(II)I" } : Jvm.MethodName) prog_1_method_11_code (3 : Nat) (Option.some Jvm.ClassFile.FieldType.int)) ∈ WS := q_in_tab (q_c4 (j := 235) rfl) rfl
theorem q_g13_42 : q_gd 13 (42, 1, 119, 0, 0) := ⟨⟨q_w1060, ⟨q_w1061, ⟨q_w1062, ⟨q_w109, ⟨q_w1063, True.intro⟩⟩⟩⟩⟩, True.intro⟩
theorem q_w1692 : (Jvm.Cond.methodLink "SoulOfficeLaw" (45 : Nat) ({ cls := "SoulOfficeModel", name := "kind", desc := "(II)I" } : Jvm.MethodName)) ∈ WS := q_in_tab (q_c7 (j := 144) rfl) rfl
theorem q_w1693 : (Jvm.Cond.instanceMethod ({ cls := "SoulOfficeModel", name := "kind", desc := "(II)I" } : Jvm.MethodName)) ∈ WS := q_in_tab (q_c7 (j := 145) rfl) rfl
theorem q_w1694 : (Jvm.Cond.selects "SoulOfficeModel" ({ cls := "SoulOfficeModel", name := "kind", desc := "(II)I" } : Jvm.MethodName) ({ cls := "SoulOfficeModel", name := "kind", desc := "(II)I" } : Jvm.MethodName)) ∈ WS := q_in_tab (q_c7 (j := 146) rfl) rfl
theorem q_w1695 : (Jvm.Cond.code ({ cls := "SoulOfficeModel", name := "kind", desc := "(II)I" } : Jvm.MethodName) prog_14_method_33_code (5 : Nat) (Option.some Jvm.ClassFile.FieldType.int)) ∈ WS := q_in_tab (q_c7 (j := 147) rfl) rfl
theorem q_g13_45 : q_gd 13 (45, 1, 190, 0, 0) := ⟨⟨q_w1692, ⟨q_w1693, ⟨q_w1694, ⟨q_w126, ⟨q_w1695, True.intro⟩⟩⟩⟩⟩, True.intro⟩
theorem q_w1072 : (Jvm.Cond.methodLink "SoulOfficeLaw" (46 : Nat) ({ cls := "SoulOffice", name := "meets", desc := "(II)I" } : Jvm.MethodName)) ∈ WS := q_in_tab (q_c5 (j := 4) rfl) rfl
theorem q_w1073 : (Jvm.Cond.instanceMethod ({ cls := "SoulOffice", name := "meets", desc := "(II)I" } : Jvm.MethodName)) ∈ WS := q_in_tab (q_c5 (j := 5) rfl) rfl
theorem q_w1074 : (Jvm.Cond.selects "SoulOffice" ({ cls := "SoulOffice", name := "meets", desc := "(II)I" } : Jvm.MethodName) ({ cls := "SoulOffice", name := "meets", desc := "(II)I" } : Jvm.MethodName)) ∈ WS := q_in_tab (q_c5 (j := 6) rfl) rfl
theorem q_w1075 : (Jvm.Cond.code ({ cls := "SoulOffice", name := "meets", desc := "(II)I" } : Jvm.MethodName) prog_1_method_12_code (3 : Nat) (Option.some Jvm.ClassFile.FieldType.int)) ∈ WS := q_in_tab (q_c5 (j := 7) rfl) rfl
theorem q_g13_46 : q_gd 13 (46, 1, 120, 0, 0) := ⟨⟨q_w1072, ⟨q_w1073, ⟨q_w1074, ⟨q_w109, ⟨q_w1075, True.intro⟩⟩⟩⟩⟩, True.intro⟩
theorem q_w1704 : (Jvm.Cond.methodLink "SoulOfficeLaw" (49 : Nat) ({ cls := "SoulOfficeModel", name := "meets", desc := "(II)I" } : Jvm.MethodName)) ∈ WS := q_in_tab (q_c7 (j := 156) rfl) rfl
theorem q_w1705 : (Jvm.Cond.instanceMethod ({ cls := "SoulOfficeModel", name := "meets", desc := "(II)I" } : Jvm.MethodName)) ∈ WS := q_in_tab (q_c7 (j := 157) rfl) rfl
theorem q_w1706 : (Jvm.Cond.selects "SoulOfficeModel" ({ cls := "SoulOfficeModel", name := "meets", desc := "(II)I" } : Jvm.MethodName) ({ cls := "SoulOfficeModel", name := "meets", desc := "(II)I" } : Jvm.MethodName)) ∈ WS := q_in_tab (q_c7 (j := 158) rfl) rfl
theorem q_w1707 : (Jvm.Cond.code ({ cls := "SoulOfficeModel", name := "meets", desc := "(II)I" } : Jvm.MethodName) prog_14_method_34_code (3 : Nat) (Option.some Jvm.ClassFile.FieldType.int)) ∈ WS := q_in_tab (q_c7 (j := 159) rfl) rfl
theorem q_g13_49 : q_gd 13 (49, 1, 191, 0, 0) := ⟨⟨q_w1704, ⟨q_w1705, ⟨q_w1706, ⟨q_w126, ⟨q_w1707, True.intro⟩⟩⟩⟩⟩, True.intro⟩
theorem q_w1345 : (Jvm.Cond.methodLink "SoulOfficeLaw" (50 : Nat) ({ cls := "SoulOfficeLaw", name := "soul", desc := "(LSoulOffice;II[J)I" } : Jvm.MethodName)) ∈ WS := q_in_tab (q_c6 (j := 37) rfl) rfl
theorem q_w1346 : (Jvm.Cond.static ({ cls := "SoulOfficeLaw", name := "soul", desc := "(LSoulOffice;II[J)I" } : Jvm.MethodName)) ∈ WS := q_in_tab (q_c6 (j := 38) rfl) rfl
theorem q_w108 : (Jvm.Cond.initialized "SoulOfficeLaw") ∈ WS := q_in_tab (q_c1 (j := 0) rfl) rfl
theorem q_w1347 : (Jvm.Cond.codeWith ({ cls := "SoulOfficeLaw", name := "soul", desc := "(LSoulOffice;II[J)I" } : Jvm.MethodName) method_3_code (5 : Nat) (Option.some Jvm.ClassFile.FieldType.int) [((0 : Nat), (10 : Nat), (13 : Nat), (13 : Nat))]) ∈ WS := q_in_tab (q_c6 (j := 39) rfl) rfl
theorem q_g13_50 : q_gd 13 (50, 13, 121, 0, 0) := ⟨⟨q_w1345, ⟨q_w1346, ⟨q_w108, ⟨q_w1347, True.intro⟩⟩⟩⟩, True.intro⟩
theorem q_w1708 : (Jvm.Cond.methodLink "SoulOfficeLaw" (55 : Nat) ({ cls := "SoulOfficeModel", name := "soul", desc := "(II)I" } : Jvm.MethodName)) ∈ WS := q_in_tab (q_c7 (j := 160) rfl) rfl
theorem q_w1709 : (Jvm.Cond.instanceMethod ({ cls := "SoulOfficeModel", name := "soul", desc := "(II)I" } : Jvm.MethodName)) ∈ WS := q_in_tab (q_c7 (j := 161) rfl) rfl
theorem q_w1710 : (Jvm.Cond.selects "SoulOfficeModel" ({ cls := "SoulOfficeModel", name := "soul", desc := "(II)I" } : Jvm.MethodName) ({ cls := "SoulOfficeModel", name := "soul", desc := "(II)I" } : Jvm.MethodName)) ∈ WS := q_in_tab (q_c7 (j := 162) rfl) rfl
theorem q_w1711 : (Jvm.Cond.code ({ cls := "SoulOfficeModel", name := "soul", desc := "(II)I" } : Jvm.MethodName) prog_14_method_37_code (3 : Nat) (Option.some Jvm.ClassFile.FieldType.int)) ∈ WS := q_in_tab (q_c7 (j := 163) rfl) rfl
theorem q_g13_55 : q_gd 13 (55, 1, 194, 0, 0) := ⟨⟨q_w1708, ⟨q_w1709, ⟨q_w1710, ⟨q_w126, ⟨q_w1711, True.intro⟩⟩⟩⟩⟩, True.intro⟩
theorem q_w1421 : (Jvm.Cond.methodLink "SoulOfficeLaw" (56 : Nat) ({ cls := "SoulOfficeModel", name := "thrown", desc := "()I" } : Jvm.MethodName)) ∈ WS := q_in_tab (q_c6 (j := 113) rfl) rfl
theorem q_w1422 : (Jvm.Cond.instanceMethod ({ cls := "SoulOfficeModel", name := "thrown", desc := "()I" } : Jvm.MethodName)) ∈ WS := q_in_tab (q_c6 (j := 114) rfl) rfl
theorem q_w1423 : (Jvm.Cond.selects "SoulOfficeModel" ({ cls := "SoulOfficeModel", name := "thrown", desc := "()I" } : Jvm.MethodName) ({ cls := "SoulOfficeModel", name := "thrown", desc := "()I" } : Jvm.MethodName)) ∈ WS := q_in_tab (q_c6 (j := 115) rfl) rfl
theorem q_w1424 : (Jvm.Cond.code ({ cls := "SoulOfficeModel", name := "thrown", desc := "()I" } : Jvm.MethodName) prog_14_method_1_code (1 : Nat) (Option.some Jvm.ClassFile.FieldType.int)) ∈ WS := q_in_tab (q_c6 (j := 116) rfl) rfl
theorem q_g13_56 : q_gd 13 (56, 1, 158, 0, 0) := ⟨⟨q_w1421, ⟨q_w1422, ⟨q_w1423, ⟨q_w126, ⟨q_w1424, True.intro⟩⟩⟩⟩⟩, True.intro⟩
theorem q_w1077 : (Jvm.Cond.methodLink "SoulOfficeLaw" (59 : Nat) ({ cls := "SoulOffice", name := "debt", desc := "(II)I" } : Jvm.MethodName)) ∈ WS := q_in_tab (q_c5 (j := 9) rfl) rfl
theorem q_w1078 : (Jvm.Cond.instanceMethod ({ cls := "SoulOffice", name := "debt", desc := "(II)I" } : Jvm.MethodName)) ∈ WS := q_in_tab (q_c5 (j := 10) rfl) rfl
theorem q_w1079 : (Jvm.Cond.selects "SoulOffice" ({ cls := "SoulOffice", name := "debt", desc := "(II)I" } : Jvm.MethodName) ({ cls := "SoulOffice", name := "debt", desc := "(II)I" } : Jvm.MethodName)) ∈ WS := q_in_tab (q_c5 (j := 11) rfl) rfl
theorem q_w1080 : (Jvm.Cond.code ({ cls := "SoulOffice", name := "debt", desc := "(II)I" } : Jvm.MethodName) prog_1_method_14_code (3 : Nat) (Option.some Jvm.ClassFile.FieldType.int)) ∈ WS := q_in_tab (q_c5 (j := 12) rfl) rfl
theorem q_g13_59 : q_gd 13 (59, 1, 122, 0, 0) := ⟨⟨q_w1077, ⟨q_w1078, ⟨q_w1079, ⟨q_w109, ⟨q_w1080, True.intro⟩⟩⟩⟩⟩, True.intro⟩
theorem q_w1728 : (Jvm.Cond.methodLink "SoulOfficeLaw" (62 : Nat) ({ cls := "SoulOfficeModel", name := "debt", desc := "(II)I" } : Jvm.MethodName)) ∈ WS := q_in_tab (q_c7 (j := 180) rfl) rfl
theorem q_w1729 : (Jvm.Cond.instanceMethod ({ cls := "SoulOfficeModel", name := "debt", desc := "(II)I" } : Jvm.MethodName)) ∈ WS := q_in_tab (q_c7 (j := 181) rfl) rfl
theorem q_w1730 : (Jvm.Cond.selects "SoulOfficeModel" ({ cls := "SoulOfficeModel", name := "debt", desc := "(II)I" } : Jvm.MethodName) ({ cls := "SoulOfficeModel", name := "debt", desc := "(II)I" } : Jvm.MethodName)) ∈ WS := q_in_tab (q_c7 (j := 182) rfl) rfl
theorem q_w1731 : (Jvm.Cond.code ({ cls := "SoulOfficeModel", name := "debt", desc := "(II)I" } : Jvm.MethodName) prog_14_method_38_code (3 : Nat) (Option.some Jvm.ClassFile.FieldType.int)) ∈ WS := q_in_tab (q_c7 (j := 183) rfl) rfl
theorem q_g13_62 : q_gd 13 (62, 1, 195, 0, 0) := ⟨⟨q_w1728, ⟨q_w1729, ⟨q_w1730, ⟨q_w126, ⟨q_w1731, True.intro⟩⟩⟩⟩⟩, True.intro⟩
theorem q_w1086 : (Jvm.Cond.methodLink "SoulOfficeLaw" (63 : Nat) ({ cls := "SoulOffice", name := "now", desc := "(I)I" } : Jvm.MethodName)) ∈ WS := q_in_tab (q_c5 (j := 18) rfl) rfl
theorem q_w1087 : (Jvm.Cond.instanceMethod ({ cls := "SoulOffice", name := "now", desc := "(I)I" } : Jvm.MethodName)) ∈ WS := q_in_tab (q_c5 (j := 19) rfl) rfl
theorem q_w1088 : (Jvm.Cond.selects "SoulOffice" ({ cls := "SoulOffice", name := "now", desc := "(I)I" } : Jvm.MethodName) ({ cls := "SoulOffice", name := "now", desc := "(I)I" } : Jvm.MethodName)) ∈ WS := q_in_tab (q_c5 (j := 20) rfl) rfl
theorem q_w1089 : (Jvm.Cond.code ({ cls := "SoulOffice", name := "now", desc := "(I)I" } : Jvm.MethodName) prog_1_method_15_code (2 : Nat) (Option.some Jvm.ClassFile.FieldType.int)) ∈ WS := q_in_tab (q_c5 (j := 21) rfl) rfl
theorem q_g13_63 : q_gd 13 (63, 1, 123, 0, 0) := ⟨⟨q_w1086, ⟨q_w1087, ⟨q_w1088, ⟨q_w109, ⟨q_w1089, True.intro⟩⟩⟩⟩⟩, True.intro⟩
theorem q_w1732 : (Jvm.Cond.methodLink "SoulOfficeLaw" (66 : Nat) ({ cls := "SoulOfficeModel", name := "now", desc := "(I)I" } : Jvm.MethodName)) ∈ WS := q_in_tab (q_c7 (j := 184) rfl) rfl
theorem q_w1733 : (Jvm.Cond.instanceMethod ({ cls := "SoulOfficeModel", name := "now", desc := "(I)I" } : Jvm.MethodName)) ∈ WS := q_in_tab (q_c7 (j := 185) rfl) rfl
theorem q_w1734 : (Jvm.Cond.selects "SoulOfficeModel" ({ cls := "SoulOfficeModel", name := "now", desc := "(I)I" } : Jvm.MethodName) ({ cls := "SoulOfficeModel", name := "now", desc := "(I)I" } : Jvm.MethodName)) ∈ WS := q_in_tab (q_c7 (j := 186) rfl) rfl
theorem q_w1735 : (Jvm.Cond.code ({ cls := "SoulOfficeModel", name := "now", desc := "(I)I" } : Jvm.MethodName) prog_14_method_40_code (5 : Nat) (Option.some Jvm.ClassFile.FieldType.int)) ∈ WS := q_in_tab (q_c7 (j := 187) rfl) rfl
theorem q_g13_66 : q_gd 13 (66, 1, 197, 0, 0) := ⟨⟨q_w1732, ⟨q_w1733, ⟨q_w1734, ⟨q_w126, ⟨q_w1735, True.intro⟩⟩⟩⟩⟩, True.intro⟩
theorem q_w1115 : (Jvm.Cond.methodLink "SoulOfficeLaw" (67 : Nat) ({ cls := "SoulOffice", name := "why", desc := "(II)I" } : Jvm.MethodName)) ∈ WS := q_in_tab (q_c5 (j := 47) rfl) rfl
theorem q_w1116 : (Jvm.Cond.instanceMethod ({ cls := "SoulOffice", name := "why", desc := "(II)I" } : Jvm.MethodName)) ∈ WS := q_in_tab (q_c5 (j := 48) rfl) rfl
theorem q_w1117 : (Jvm.Cond.selects "SoulOffice" ({ cls := "SoulOffice", name := "why", desc := "(II)I" } : Jvm.MethodName) ({ cls := "SoulOffice", name := "why", desc := "(II)I" } : Jvm.MethodName)) ∈ WS := q_in_tab (q_c5 (j := 49) rfl) rfl
theorem q_w1118 : (Jvm.Cond.code ({ cls := "SoulOffice", name := "why", desc := "(II)I" } : Jvm.MethodName) prog_1_method_18_code (3 : Nat) (Option.some Jvm.ClassFile.FieldType.int)) ∈ WS := q_in_tab (q_c5 (j := 50) rfl) rfl
theorem q_g13_67 : q_gd 13 (67, 1, 126, 0, 0) := ⟨⟨q_w1115, ⟨q_w1116, ⟨q_w1117, ⟨q_w109, ⟨q_w1118, True.intro⟩⟩⟩⟩⟩, True.intro⟩
theorem q_w1740 : (Jvm.Cond.methodLink "SoulOfficeLaw" (70 : Nat) ({ cls := "SoulOfficeModel", name := "why", desc := "(II)I" } : Jvm.MethodName)) ∈ WS := q_in_tab (q_c7 (j := 192) rfl) rfl
theorem q_w1741 : (Jvm.Cond.instanceMethod ({ cls := "SoulOfficeModel", name := "why", desc := "(II)I" } : Jvm.MethodName)) ∈ WS := q_in_tab (q_c7 (j := 193) rfl) rfl
theorem q_w1742 : (Jvm.Cond.selects "SoulOfficeModel" ({ cls := "SoulOfficeModel", name := "why", desc := "(II)I" } : Jvm.MethodName) ({ cls := "SoulOfficeModel", name := "why", desc := "(II)I" } : Jvm.MethodName)) ∈ WS := q_in_tab (q_c7 (j := 194) rfl) rfl
theorem q_w1743 : (Jvm.Cond.code ({ cls := "SoulOfficeModel", name := "why", desc := "(II)I" } : Jvm.MethodName) prog_14_method_49_code (3 : Nat) (Option.some Jvm.ClassFile.FieldType.int)) ∈ WS := q_in_tab (q_c7 (j := 195) rfl) rfl
theorem q_g13_70 : q_gd 13 (70, 1, 206, 0, 0) := ⟨⟨q_w1740, ⟨q_w1741, ⟨q_w1742, ⟨q_w126, ⟨q_w1743, True.intro⟩⟩⟩⟩⟩, True.intro⟩
theorem q_w1120 : (Jvm.Cond.methodLink "SoulOfficeLaw" (71 : Nat) ({ cls := "SoulOffice", name := "give", desc := "(II)I" } : Jvm.MethodName)) ∈ WS := q_in_tab (q_c5 (j := 52) rfl) rfl
theorem q_w1121 : (Jvm.Cond.instanceMethod ({ cls := "SoulOffice", name := "give", desc := "(II)I" } : Jvm.MethodName)) ∈ WS := q_in_tab (q_c5 (j := 53) rfl) rfl
theorem q_w1122 : (Jvm.Cond.selects "SoulOffice" ({ cls := "SoulOffice", name := "give", desc := "(II)I" } : Jvm.MethodName) ({ cls := "SoulOffice", name := "give", desc := "(II)I" } : Jvm.MethodName)) ∈ WS := q_in_tab (q_c5 (j := 54) rfl) rfl
theorem q_w1123 : (Jvm.Cond.code ({ cls := "SoulOffice", name := "give", desc := "(II)I" } : Jvm.MethodName) prog_1_method_19_code (4 : Nat) (Option.some Jvm.ClassFile.FieldType.int)) ∈ WS := q_in_tab (q_c5 (j := 55) rfl) rfl
theorem q_g13_71 : q_gd 13 (71, 1, 127, 0, 0) := ⟨⟨q_w1120, ⟨q_w1121, ⟨q_w1122, ⟨q_w109, ⟨q_w1123, True.intro⟩⟩⟩⟩⟩, True.intro⟩
theorem q_w1748 : (Jvm.Cond.methodLink "SoulOfficeLaw" (74 : Nat) ({ cls := "SoulOfficeModel", name := "give", desc := "(II)I" } : Jvm.MethodName)) ∈ WS := q_in_tab (q_c7 (j := 200) rfl) rfl
theorem q_w1749 : (Jvm.Cond.instanceMethod ({ cls := "SoulOfficeModel", name := "give", desc := "(II)I" } : Jvm.MethodName)) ∈ WS := q_in_tab (q_c7 (j := 201) rfl) rfl
theorem q_w1750 : (Jvm.Cond.selects "SoulOfficeModel" ({ cls := "SoulOfficeModel", name := "give", desc := "(II)I" } : Jvm.MethodName) ({ cls := "SoulOfficeModel", name := "give", desc := "(II)I" } : Jvm.MethodName)) ∈ WS := q_in_tab (q_c7 (j := 202) rfl) rfl
theorem q_w1751 : (Jvm.Cond.code ({ cls := "SoulOfficeModel", name := "give", desc := "(II)I" } : Jvm.MethodName) prog_14_method_50_code (4 : Nat) (Option.some Jvm.ClassFile.FieldType.int)) ∈ WS := q_in_tab (q_c7 (j := 203) rfl) rfl
theorem q_g13_74 : q_gd 13 (74, 1, 207, 0, 0) := ⟨⟨q_w1748, ⟨q_w1749, ⟨q_w1750, ⟨q_w126, ⟨q_w1751, True.intro⟩⟩⟩⟩⟩, True.intro⟩
theorem q_w1125 : (Jvm.Cond.methodLink "SoulOfficeLaw" (75 : Nat) ({ cls := "SoulOffice", name := "days", desc := "(I)I" } : Jvm.MethodName)) ∈ WS := q_in_tab (q_c5 (j := 57) rfl) rfl
theorem q_w1126 : (Jvm.Cond.instanceMethod ({ cls := "SoulOffice", name := "days", desc := "(I)I" } : Jvm.MethodName)) ∈ WS := q_in_tab (q_c5 (j := 58) rfl) rfl
theorem q_w1127 : (Jvm.Cond.selects "SoulOffice" ({ cls := "SoulOffice", name := "days", desc := "(I)I" } : Jvm.MethodName) ({ cls := "SoulOffice", name := "days", desc := "(I)I" } : Jvm.MethodName)) ∈ WS := q_in_tab (q_c5 (j := 59) rfl) rfl
theorem q_w1128 : (Jvm.Cond.code ({ cls := "SoulOffice", name := "days", desc := "(I)I" } : Jvm.MethodName) prog_1_method_20_code (2 : Nat) (Option.some Jvm.ClassFile.FieldType.int)) ∈ WS := q_in_tab (q_c5 (j := 60) rfl) rfl
theorem q_g13_75 : q_gd 13 (75, 1, 128, 0, 0) := ⟨⟨q_w1125, ⟨q_w1126, ⟨q_w1127, ⟨q_w109, ⟨q_w1128, True.intro⟩⟩⟩⟩⟩, True.intro⟩
theorem q_w1764 : (Jvm.Cond.methodLink "SoulOfficeLaw" (78 : Nat) ({ cls := "SoulOfficeModel", name := "days", desc := "(I)I" } : Jvm.MethodName)) ∈ WS := q_in_tab (q_c7 (j := 216) rfl) rfl
theorem q_w1765 : (Jvm.Cond.instanceMethod ({ cls := "SoulOfficeModel", name := "days", desc := "(I)I" } : Jvm.MethodName)) ∈ WS := q_in_tab (q_c7 (j := 217) rfl) rfl
theorem q_w1766 : (Jvm.Cond.selects "SoulOfficeModel" ({ cls := "SoulOfficeModel", name := "days", desc := "(I)I" } : Jvm.MethodName) ({ cls := "SoulOfficeModel", name := "days", desc := "(I)I" } : Jvm.MethodName)) ∈ WS := q_in_tab (q_c7 (j := 218) rfl) rfl
theorem q_w1767 : (Jvm.Cond.code ({ cls := "SoulOfficeModel", name := "days", desc := "(I)I" } : Jvm.MethodName) prog_14_method_52_code (3 : Nat) (Option.some Jvm.ClassFile.FieldType.int)) ∈ WS := q_in_tab (q_c7 (j := 219) rfl) rfl
theorem q_g13_78 : q_gd 13 (78, 1, 209, 0, 0) := ⟨⟨q_w1764, ⟨q_w1765, ⟨q_w1766, ⟨q_w126, ⟨q_w1767, True.intro⟩⟩⟩⟩⟩, True.intro⟩
theorem q_w1131 : (Jvm.Cond.methodLink "SoulOfficeLaw" (79 : Nat) ({ cls := "SoulOffice", name := "clerk", desc := "(I)I" } : Jvm.MethodName)) ∈ WS := q_in_tab (q_c5 (j := 63) rfl) rfl
theorem q_w1132 : (Jvm.Cond.instanceMethod ({ cls := "SoulOffice", name := "clerk", desc := "(I)I" } : Jvm.MethodName)) ∈ WS := q_in_tab (q_c5 (j := 64) rfl) rfl
theorem q_w1133 : (Jvm.Cond.selects "SoulOffice" ({ cls := "SoulOffice", name := "clerk", desc := "(I)I" } : Jvm.MethodName) ({ cls := "SoulOffice", name := "clerk", desc := "(I)I" } : Jvm.MethodName)) ∈ WS := q_in_tab (q_c5 (j := 65) rfl) rfl
theorem q_w1134 : (Jvm.Cond.code ({ cls := "SoulOffice", name := "clerk", desc := "(I)I" } : Jvm.MethodName) prog_1_method_21_code (2 : Nat) (Option.some Jvm.ClassFile.FieldType.int)) ∈ WS := q_in_tab (q_c5 (j := 66) rfl) rfl
theorem q_g13_79 : q_gd 13 (79, 1, 129, 0, 0) := ⟨⟨q_w1131, ⟨q_w1132, ⟨q_w1133, ⟨q_w109, ⟨q_w1134, True.intro⟩⟩⟩⟩⟩, True.intro⟩
theorem q_w1784 : (Jvm.Cond.methodLink "SoulOfficeLaw" (82 : Nat) ({ cls := "SoulOfficeModel", name := "clerk", desc := "(I)I" } : Jvm.MethodName)) ∈ WS := q_in_tab (q_c7 (j := 236) rfl) rfl
theorem q_w1785 : (Jvm.Cond.instanceMethod ({ cls := "SoulOfficeModel", name := "clerk", desc := "(I)I" } : Jvm.MethodName)) ∈ WS := q_in_tab (q_c7 (j := 237) rfl) rfl
theorem q_w1786 : (Jvm.Cond.selects "SoulOfficeModel" ({ cls := "SoulOfficeModel", name := "clerk", desc := "(I)I" } : Jvm.MethodName) ({ cls := "SoulOfficeModel", name := "clerk", desc := "(I)I" } : Jvm.MethodName)) ∈ WS := q_in_tab (q_c7 (j := 238) rfl) rfl
theorem q_w1787 : (Jvm.Cond.code ({ cls := "SoulOfficeModel", name := "clerk", desc := "(I)I" } : Jvm.MethodName) prog_14_method_53_code (3 : Nat) (Option.some Jvm.ClassFile.FieldType.int)) ∈ WS := q_in_tab (q_c7 (j := 239) rfl) rfl
theorem q_g13_82 : q_gd 13 (82, 1, 210, 0, 0) := ⟨⟨q_w1784, ⟨q_w1785, ⟨q_w1786, ⟨q_w126, ⟨q_w1787, True.intro⟩⟩⟩⟩⟩, True.intro⟩
theorem q_w1103 : (Jvm.Cond.methodLink "SoulOfficeLaw" (83 : Nat) ({ cls := "SoulOffice", name := "settled", desc := "(II)I" } : Jvm.MethodName)) ∈ WS := q_in_tab (q_c5 (j := 35) rfl) rfl
theorem q_w1104 : (Jvm.Cond.instanceMethod ({ cls := "SoulOffice", name := "settled", desc := "(II)I" } : Jvm.MethodName)) ∈ WS := q_in_tab (q_c5 (j := 36) rfl) rfl
theorem q_w1105 : (Jvm.Cond.selects "SoulOffice" ({ cls := "SoulOffice", name := "settled", desc := "(II)I" } : Jvm.MethodName) ({ cls := "SoulOffice", name := "settled", desc := "(II)I" } : Jvm.MethodName)) ∈ WS := q_in_tab (q_c5 (j := 37) rfl) rfl
theorem q_w1106 : (Jvm.Cond.code ({ cls := "SoulOffice", name := "settled", desc := "(II)I" } : Jvm.MethodName) prog_1_method_16_code (3 : Nat) (Option.some Jvm.ClassFile.FieldType.int)) ∈ WS := q_in_tab (q_c5 (j := 38) rfl) rfl
theorem q_g13_83 : q_gd 13 (83, 1, 124, 0, 0) := ⟨⟨q_w1103, ⟨q_w1104, ⟨q_w1105, ⟨q_w109, ⟨q_w1106, True.intro⟩⟩⟩⟩⟩, True.intro⟩
theorem q_w1800 : (Jvm.Cond.methodLink "SoulOfficeLaw" (86 : Nat) ({ cls := "SoulOfficeModel", name := "settled", desc := "(II)I" } : Jvm.MethodName)) ∈ WS := q_in_tab (q_c8 (j := 12) rfl) rfl
theorem q_w1801 : (Jvm.Cond.instanceMethod ({ cls := "SoulOfficeModel", name := "settled", desc := "(II)I" } : Jvm.MethodName)) ∈ WS := q_in_tab (q_c8 (j := 13) rfl) rfl
theorem q_w1802 : (Jvm.Cond.selects "SoulOfficeModel" ({ cls := "SoulOfficeModel", name := "settled", desc := "(II)I" } : Jvm.MethodName) ({ cls := "SoulOfficeModel", name := "settled", desc := "(II)I" } : Jvm.MethodName)) ∈ WS := q_in_tab (q_c8 (j := 14) rfl) rfl
theorem q_w1803 : (Jvm.Cond.code ({ cls := "SoulOfficeModel", name := "settled", desc := "(II)I" } : Jvm.MethodName) prog_14_method_54_code (3 : Nat) (Option.some Jvm.ClassFile.FieldType.int)) ∈ WS := q_in_tab (q_c8 (j := 15) rfl) rfl
theorem q_g13_86 : q_gd 13 (86, 1, 211, 0, 0) := ⟨⟨q_w1800, ⟨q_w1801, ⟨q_w1802, ⟨q_w126, ⟨q_w1803, True.intro⟩⟩⟩⟩⟩, True.intro⟩
theorem q_w1185 : (Jvm.Cond.methodLink "SoulOfficeLaw" (87 : Nat) ({ cls := "SoulOffice", name := "undo", desc := "()I" } : Jvm.MethodName)) ∈ WS := q_in_tab (q_c5 (j := 117) rfl) rfl
theorem q_w1186 : (Jvm.Cond.instanceMethod ({ cls := "SoulOffice", name := "undo", desc := "()I" } : Jvm.MethodName)) ∈ WS := q_in_tab (q_c5 (j := 118) rfl) rfl
theorem q_w1187 : (Jvm.Cond.selects "SoulOffice" ({ cls := "SoulOffice", name := "undo", desc := "()I" } : Jvm.MethodName) ({ cls := "SoulOffice", name := "undo", desc := "()I" } : Jvm.MethodName)) ∈ WS := q_in_tab (q_c5 (j := 119) rfl) rfl
theorem q_w1188 : (Jvm.Cond.code ({ cls := "SoulOffice", name := "undo", desc := "()I" } : Jvm.MethodName) prog_1_method_25_code (1 : Nat) (Option.some Jvm.ClassFile.FieldType.int)) ∈ WS := q_in_tab (q_c5 (j := 120) rfl) rfl
theorem q_g13_87 : q_gd 13 (87, 1, 133, 0, 0) := ⟨⟨q_w1185, ⟨q_w1186, ⟨q_w1187, ⟨q_w109, ⟨q_w1188, True.intro⟩⟩⟩⟩⟩, True.intro⟩
theorem q_w1804 : (Jvm.Cond.methodLink "SoulOfficeLaw" (90 : Nat) ({ cls := "SoulOfficeModel", name := "undo", desc := "()I" } : Jvm.MethodName)) ∈ WS := q_in_tab (q_c8 (j := 16) rfl) rfl
theorem q_w1805 : (Jvm.Cond.instanceMethod ({ cls := "SoulOfficeModel", name := "undo", desc := "()I" } : Jvm.MethodName)) ∈ WS := q_in_tab (q_c8 (j := 17) rfl) rfl
theorem q_w1806 : (Jvm.Cond.selects "SoulOfficeModel" ({ cls := "SoulOfficeModel", name := "undo", desc := "()I" } : Jvm.MethodName) ({ cls := "SoulOfficeModel", name := "undo", desc := "()I" } : Jvm.MethodName)) ∈ WS := q_in_tab (q_c8 (j := 18) rfl) rfl
theorem q_w1807 : (Jvm.Cond.code ({ cls := "SoulOfficeModel", name := "undo", desc := "()I" } : Jvm.MethodName) prog_14_method_56_code (2 : Nat) (Option.some Jvm.ClassFile.FieldType.int)) ∈ WS := q_in_tab (q_c8 (j := 19) rfl) rfl
theorem q_g13_90 : q_gd 13 (90, 1, 213, 0, 0) := ⟨⟨q_w1804, ⟨q_w1805, ⟨q_w1806, ⟨q_w126, ⟨q_w1807, True.intro⟩⟩⟩⟩⟩, True.intro⟩
theorem q_w1212 : (Jvm.Cond.methodLink "SoulOfficeLaw" (91 : Nat) ({ cls := "SoulOffice", name := "most", desc := "(I)I" } : Jvm.MethodName)) ∈ WS := q_in_tab (q_c5 (j := 144) rfl) rfl
theorem q_w1213 : (Jvm.Cond.instanceMethod ({ cls := "SoulOffice", name := "most", desc := "(I)I" } : Jvm.MethodName)) ∈ WS := q_in_tab (q_c5 (j := 145) rfl) rfl
theorem q_w1214 : (Jvm.Cond.selects "SoulOffice" ({ cls := "SoulOffice", name := "most", desc := "(I)I" } : Jvm.MethodName) ({ cls := "SoulOffice", name := "most", desc := "(I)I" } : Jvm.MethodName)) ∈ WS := q_in_tab (q_c5 (j := 146) rfl) rfl
theorem q_w1215 : (Jvm.Cond.code ({ cls := "SoulOffice", name := "most", desc := "(I)I" } : Jvm.MethodName) prog_1_method_28_code (2 : Nat) (Option.some Jvm.ClassFile.FieldType.int)) ∈ WS := q_in_tab (q_c5 (j := 147) rfl) rfl
theorem q_g13_91 : q_gd 13 (91, 1, 136, 0, 0) := ⟨⟨q_w1212, ⟨q_w1213, ⟨q_w1214, ⟨q_w109, ⟨q_w1215, True.intro⟩⟩⟩⟩⟩, True.intro⟩
theorem q_w1808 : (Jvm.Cond.methodLink "SoulOfficeLaw" (94 : Nat) ({ cls := "SoulOfficeModel", name := "most", desc := "(I)I" } : Jvm.MethodName)) ∈ WS := q_in_tab (q_c8 (j := 20) rfl) rfl
theorem q_w1809 : (Jvm.Cond.instanceMethod ({ cls := "SoulOfficeModel", name := "most", desc := "(I)I" } : Jvm.MethodName)) ∈ WS := q_in_tab (q_c8 (j := 21) rfl) rfl
theorem q_w1810 : (Jvm.Cond.selects "SoulOfficeModel" ({ cls := "SoulOfficeModel", name := "most", desc := "(I)I" } : Jvm.MethodName) ({ cls := "SoulOfficeModel", name := "most", desc := "(I)I" } : Jvm.MethodName)) ∈ WS := q_in_tab (q_c8 (j := 22) rfl) rfl
theorem q_w1811 : (Jvm.Cond.code ({ cls := "SoulOfficeModel", name := "most", desc := "(I)I" } : Jvm.MethodName) prog_14_method_61_code (7 : Nat) (Option.some Jvm.ClassFile.FieldType.int)) ∈ WS := q_in_tab (q_c8 (j := 23) rfl) rfl
theorem q_g13_94 : q_gd 13 (94, 1, 218, 0, 0) := ⟨⟨q_w1808, ⟨q_w1809, ⟨q_w1810, ⟨q_w126, ⟨q_w1811, True.intro⟩⟩⟩⟩⟩, True.intro⟩
theorem q_w1270 : (Jvm.Cond.methodLink "SoulOfficeLaw" (95 : Nat) ({ cls := "SoulOffice", name := "gives", desc := "(I)I" } : Jvm.MethodName)) ∈ WS := q_in_tab (q_c5 (j := 202) rfl) rfl
theorem q_w1271 : (Jvm.Cond.instanceMethod ({ cls := "SoulOffice", name := "gives", desc := "(I)I" } : Jvm.MethodName)) ∈ WS := q_in_tab (q_c5 (j := 203) rfl) rfl
theorem q_w1272 : (Jvm.Cond.selects "SoulOffice" ({ cls := "SoulOffice", name := "gives", desc := "(I)I" } : Jvm.MethodName) ({ cls := "SoulOffice", name := "gives", desc := "(I)I" } : Jvm.MethodName)) ∈ WS := q_in_tab (q_c5 (j := 204) rfl) rfl
theorem q_w1273 : (Jvm.Cond.code ({ cls := "SoulOffice", name := "gives", desc := "(I)I" } : Jvm.MethodName) prog_1_method_29_code (2 : Nat) (Option.some Jvm.ClassFile.FieldType.int)) ∈ WS := q_in_tab (q_c5 (j := 205) rfl) rfl
theorem q_g13_95 : q_gd 13 (95, 1, 137, 0, 0) := ⟨⟨q_w1270, ⟨q_w1271, ⟨q_w1272, ⟨q_w109, ⟨q_w1273, True.intro⟩⟩⟩⟩⟩, True.intro⟩
theorem q_w1828 : (Jvm.Cond.methodLink "SoulOfficeLaw" (98 : Nat) ({ cls := "SoulOfficeModel", name := "gives", desc := "(I)I" } : Jvm.MethodName)) ∈ WS := q_in_tab (q_c8 (j := 40) rfl) rfl
theorem q_w1829 : (Jvm.Cond.instanceMethod ({ cls := "SoulOfficeModel", name := "gives", desc := "(I)I" } : Jvm.MethodName)) ∈ WS := q_in_tab (q_c8 (j := 41) rfl) rfl
theorem q_w1830 : (Jvm.Cond.selects "SoulOfficeModel" ({ cls := "SoulOfficeModel", name := "gives", desc := "(I)I" } : Jvm.MethodName) ({ cls := "SoulOfficeModel", name := "gives", desc := "(I)I" } : Jvm.MethodName)) ∈ WS := q_in_tab (q_c8 (j := 42) rfl) rfl
theorem q_w1831 : (Jvm.Cond.code ({ cls := "SoulOfficeModel", name := "gives", desc := "(I)I" } : Jvm.MethodName) prog_14_method_62_code (2 : Nat) (Option.some Jvm.ClassFile.FieldType.int)) ∈ WS := q_in_tab (q_c8 (j := 43) rfl) rfl
theorem q_g13_98 : q_gd 13 (98, 1, 219, 0, 0) := ⟨⟨q_w1828, ⟨q_w1829, ⟨q_w1830, ⟨q_w126, ⟨q_w1831, True.intro⟩⟩⟩⟩⟩, True.intro⟩
theorem q_w1278 : (Jvm.Cond.methodLink "SoulOfficeLaw" (99 : Nat) ({ cls := "SoulOffice", name := "hopeless", desc := "(I)I" } : Jvm.MethodName)) ∈ WS := q_in_tab (q_c5 (j := 210) rfl) rfl
theorem q_w1279 : (Jvm.Cond.instanceMethod ({ cls := "SoulOffice", name := "hopeless", desc := "(I)I" } : Jvm.MethodName)) ∈ WS := q_in_tab (q_c5 (j := 211) rfl) rfl
theorem q_w1280 : (Jvm.Cond.selects "SoulOffice" ({ cls := "SoulOffice", name := "hopeless", desc := "(I)I" } : Jvm.MethodName) ({ cls := "SoulOffice", name := "hopeless", desc := "(I)I" } : Jvm.MethodName)) ∈ WS := q_in_tab (q_c5 (j := 212) rfl) rfl
theorem q_w1281 : (Jvm.Cond.code ({ cls := "SoulOffice", name := "hopeless", desc := "(I)I" } : Jvm.MethodName) prog_1_method_30_code (5 : Nat) (Option.some Jvm.ClassFile.FieldType.int)) ∈ WS := q_in_tab (q_c5 (j := 213) rfl) rfl
theorem q_g13_99 : q_gd 13 (99, 1, 138, 0, 0) := ⟨⟨q_w1278, ⟨q_w1279, ⟨q_w1280, ⟨q_w109, ⟨q_w1281, True.intro⟩⟩⟩⟩⟩, True.intro⟩
theorem q_w1832 : (Jvm.Cond.methodLink "SoulOfficeLaw" (102 : Nat) ({ cls := "SoulOfficeModel", name := "hopeless", desc := "(I)I" } : Jvm.MethodName)) ∈ WS := q_in_tab (q_c8 (j := 44) rfl) rfl
theorem q_w1833 : (Jvm.Cond.instanceMethod ({ cls := "SoulOfficeModel", name := "hopeless", desc := "(I)I" } : Jvm.MethodName)) ∈ WS := q_in_tab (q_c8 (j := 45) rfl) rfl
theorem q_w1834 : (Jvm.Cond.selects "SoulOfficeModel" ({ cls := "SoulOfficeModel", name := "hopeless", desc := "(I)I" } : Jvm.MethodName) ({ cls := "SoulOfficeModel", name := "hopeless", desc := "(I)I" } : Jvm.MethodName)) ∈ WS := q_in_tab (q_c8 (j := 46) rfl) rfl
theorem q_w1835 : (Jvm.Cond.code ({ cls := "SoulOfficeModel", name := "hopeless", desc := "(I)I" } : Jvm.MethodName) prog_14_method_64_code (5 : Nat) (Option.some Jvm.ClassFile.FieldType.int)) ∈ WS := q_in_tab (q_c8 (j := 47) rfl) rfl
theorem q_g13_102 : q_gd 13 (102, 1, 221, 0, 0) := ⟨⟨q_w1832, ⟨q_w1833, ⟨q_w1834, ⟨q_w126, ⟨q_w1835, True.intro⟩⟩⟩⟩⟩, True.intro⟩
theorem q_w1414 : (Jvm.Cond.methodLink "SoulOfficeLaw" (103 : Nat) ({ cls := "SoulOfficeLaw", name := "net", desc := "(LSoulOffice;I[J)I" } : Jvm.MethodName)) ∈ WS := q_in_tab (q_c6 (j := 106) rfl) rfl
theorem q_w1415 : (Jvm.Cond.static ({ cls := "SoulOfficeLaw", name := "net", desc := "(LSoulOffice;I[J)I" } : Jvm.MethodName)) ∈ WS := q_in_tab (q_c6 (j := 107) rfl) rfl
theorem q_w1416 : (Jvm.Cond.codeWith ({ cls := "SoulOfficeLaw", name := "net", desc := "(LSoulOffice;I[J)I" } : Jvm.MethodName) method_4_code (4 : Nat) (Option.some Jvm.ClassFile.FieldType.int) [((0 : Nat), (9 : Nat), (12 : Nat), (13 : Nat))]) ∈ WS := q_in_tab (q_c6 (j := 108) rfl) rfl
theorem q_g13_103 : q_gd 13 (103, 14, 139, 0, 0) := ⟨⟨q_w1414, ⟨q_w1415, ⟨q_w108, ⟨q_w1416, True.intro⟩⟩⟩⟩, True.intro⟩
theorem q_w1840 : (Jvm.Cond.methodLink "SoulOfficeLaw" (106 : Nat) ({ cls := "SoulOfficeModel", name := "net", desc := "(I)I" } : Jvm.MethodName)) ∈ WS := q_in_tab (q_c8 (j := 52) rfl) rfl
theorem q_w1841 : (Jvm.Cond.instanceMethod ({ cls := "SoulOfficeModel", name := "net", desc := "(I)I" } : Jvm.MethodName)) ∈ WS := q_in_tab (q_c8 (j := 53) rfl) rfl
theorem q_w1842 : (Jvm.Cond.selects "SoulOfficeModel" ({ cls := "SoulOfficeModel", name := "net", desc := "(I)I" } : Jvm.MethodName) ({ cls := "SoulOfficeModel", name := "net", desc := "(I)I" } : Jvm.MethodName)) ∈ WS := q_in_tab (q_c8 (j := 54) rfl) rfl
theorem q_w1843 : (Jvm.Cond.code ({ cls := "SoulOfficeModel", name := "net", desc := "(I)I" } : Jvm.MethodName) prog_14_method_66_code (2 : Nat) (Option.some Jvm.ClassFile.FieldType.int)) ∈ WS := q_in_tab (q_c8 (j := 55) rfl) rfl
theorem q_g13_106 : q_gd 13 (106, 1, 223, 0, 0) := ⟨⟨q_w1840, ⟨q_w1841, ⟨q_w1842, ⟨q_w126, ⟨q_w1843, True.intro⟩⟩⟩⟩⟩, True.intro⟩
theorem q_w1288 : (Jvm.Cond.methodLink "SoulOfficeLaw" (107 : Nat) ({ cls := "SoulOffice", name := "fewest", desc := "()I" } : Jvm.MethodName)) ∈ WS := q_in_tab (q_c5 (j := 220) rfl) rfl
theorem q_w1289 : (Jvm.Cond.instanceMethod ({ cls := "SoulOffice", name := "fewest", desc := "()I" } : Jvm.MethodName)) ∈ WS := q_in_tab (q_c5 (j := 221) rfl) rfl
theorem q_w1290 : (Jvm.Cond.selects "SoulOffice" ({ cls := "SoulOffice", name := "fewest", desc := "()I" } : Jvm.MethodName) ({ cls := "SoulOffice", name := "fewest", desc := "()I" } : Jvm.MethodName)) ∈ WS := q_in_tab (q_c5 (j := 222) rfl) rfl
theorem q_w1291 : (Jvm.Cond.code ({ cls := "SoulOffice", name := "fewest", desc := "()I" } : Jvm.MethodName) prog_1_method_32_code (2 : Nat) (Option.some Jvm.ClassFile.FieldType.int)) ∈ WS := q_in_tab (q_c5 (j := 223) rfl) rfl
theorem q_g13_107 : q_gd 13 (107, 1, 140, 0, 0) := ⟨⟨q_w1288, ⟨q_w1289, ⟨q_w1290, ⟨q_w109, ⟨q_w1291, True.intro⟩⟩⟩⟩⟩, True.intro⟩
theorem q_w1848 : (Jvm.Cond.methodLink "SoulOfficeLaw" (110 : Nat) ({ cls := "SoulOfficeModel", name := "fewest", desc := "()I" } : Jvm.MethodName)) ∈ WS := q_in_tab (q_c8 (j := 60) rfl) rfl
theorem q_w1849 : (Jvm.Cond.instanceMethod ({ cls := "SoulOfficeModel", name := "fewest", desc := "()I" } : Jvm.MethodName)) ∈ WS := q_in_tab (q_c8 (j := 61) rfl) rfl
theorem q_w1850 : (Jvm.Cond.selects "SoulOfficeModel" ({ cls := "SoulOfficeModel", name := "fewest", desc := "()I" } : Jvm.MethodName) ({ cls := "SoulOfficeModel", name := "fewest", desc := "()I" } : Jvm.MethodName)) ∈ WS := q_in_tab (q_c8 (j := 62) rfl) rfl
theorem q_w1851 : (Jvm.Cond.code ({ cls := "SoulOfficeModel", name := "fewest", desc := "()I" } : Jvm.MethodName) prog_14_method_70_code (2 : Nat) (Option.some Jvm.ClassFile.FieldType.int)) ∈ WS := q_in_tab (q_c8 (j := 63) rfl) rfl
theorem q_g13_110 : q_gd 13 (110, 1, 227, 0, 0) := ⟨⟨q_w1848, ⟨q_w1849, ⟨q_w1850, ⟨q_w126, ⟨q_w1851, True.intro⟩⟩⟩⟩⟩, True.intro⟩
theorem q_w1303 : (Jvm.Cond.methodLink "SoulOfficeLaw" (111 : Nat) ({ cls := "SoulOffice", name := "groups", desc := "()I" } : Jvm.MethodName)) ∈ WS := q_in_tab (q_c5 (j := 235) rfl) rfl
theorem q_w1304 : (Jvm.Cond.instanceMethod ({ cls := "SoulOffice", name := "groups", desc := "()I" } : Jvm.MethodName)) ∈ WS := q_in_tab (q_c5 (j := 236) rfl) rfl
theorem q_w1305 : (Jvm.Cond.selects "SoulOffice" ({ cls := "SoulOffice", name := "groups", desc := "()I" } : Jvm.MethodName) ({ cls := "SoulOffice", name := "groups", desc := "()I" } : Jvm.MethodName)) ∈ WS := q_in_tab (q_c5 (j := 237) rfl) rfl
theorem q_w1306 : (Jvm.Cond.code ({ cls := "SoulOffice", name := "groups", desc := "()I" } : Jvm.MethodName) prog_1_method_33_code (1 : Nat) (Option.some Jvm.ClassFile.FieldType.int)) ∈ WS := q_in_tab (q_c5 (j := 238) rfl) rfl
theorem q_g13_111 : q_gd 13 (111, 1, 141, 0, 0) := ⟨⟨q_w1303, ⟨q_w1304, ⟨q_w1305, ⟨q_w109, ⟨q_w1306, True.intro⟩⟩⟩⟩⟩, True.intro⟩
theorem q_w1863 : (Jvm.Cond.methodLink "SoulOfficeLaw" (114 : Nat) ({ cls := "SoulOfficeModel", name := "groups", desc := "()I" } : Jvm.MethodName)) ∈ WS := q_in_tab (q_c8 (j := 75) rfl) rfl
theorem q_w1864 : (Jvm.Cond.instanceMethod ({ cls := "SoulOfficeModel", name := "groups", desc := "()I" } : Jvm.MethodName)) ∈ WS := q_in_tab (q_c8 (j := 76) rfl) rfl
theorem q_w1865 : (Jvm.Cond.selects "SoulOfficeModel" ({ cls := "SoulOfficeModel", name := "groups", desc := "()I" } : Jvm.MethodName) ({ cls := "SoulOfficeModel", name := "groups", desc := "()I" } : Jvm.MethodName)) ∈ WS := q_in_tab (q_c8 (j := 77) rfl) rfl
theorem q_w1866 : (Jvm.Cond.code ({ cls := "SoulOfficeModel", name := "groups", desc := "()I" } : Jvm.MethodName) prog_14_method_71_code (1 : Nat) (Option.some Jvm.ClassFile.FieldType.int)) ∈ WS := q_in_tab (q_c8 (j := 78) rfl) rfl
theorem q_g13_114 : q_gd 13 (114, 1, 228, 0, 0) := ⟨⟨q_w1863, ⟨q_w1864, ⟨q_w1865, ⟨q_w126, ⟨q_w1866, True.intro⟩⟩⟩⟩⟩, True.intro⟩
theorem q_w1307 : (Jvm.Cond.methodLink "SoulOfficeLaw" (115 : Nat) ({ cls := "SoulOffice", name := "were", desc := "(II)I" } : Jvm.MethodName)) ∈ WS := q_in_tab (q_c5 (j := 239) rfl) rfl
theorem q_w1308 : (Jvm.Cond.instanceMethod ({ cls := "SoulOffice", name := "were", desc := "(II)I" } : Jvm.MethodName)) ∈ WS := q_in_tab (q_c6 (j := 0) rfl) rfl
theorem q_w1309 : (Jvm.Cond.selects "SoulOffice" ({ cls := "SoulOffice", name := "were", desc := "(II)I" } : Jvm.MethodName) ({ cls := "SoulOffice", name := "were", desc := "(II)I" } : Jvm.MethodName)) ∈ WS := q_in_tab (q_c6 (j := 1) rfl) rfl
theorem q_w1310 : (Jvm.Cond.code ({ cls := "SoulOffice", name := "were", desc := "(II)I" } : Jvm.MethodName) prog_1_method_34_code (5 : Nat) (Option.some Jvm.ClassFile.FieldType.int)) ∈ WS := q_in_tab (q_c6 (j := 2) rfl) rfl
theorem q_g13_115 : q_gd 13 (115, 1, 142, 0, 0) := ⟨⟨q_w1307, ⟨q_w1308, ⟨q_w1309, ⟨q_w109, ⟨q_w1310, True.intro⟩⟩⟩⟩⟩, True.intro⟩
theorem q_w1867 : (Jvm.Cond.methodLink "SoulOfficeLaw" (118 : Nat) ({ cls := "SoulOfficeModel", name := "were", desc := "(II)I" } : Jvm.MethodName)) ∈ WS := q_in_tab (q_c8 (j := 79) rfl) rfl
theorem q_w1868 : (Jvm.Cond.instanceMethod ({ cls := "SoulOfficeModel", name := "were", desc := "(II)I" } : Jvm.MethodName)) ∈ WS := q_in_tab (q_c8 (j := 80) rfl) rfl
theorem q_w1869 : (Jvm.Cond.selects "SoulOfficeModel" ({ cls := "SoulOfficeModel", name := "were", desc := "(II)I" } : Jvm.MethodName) ({ cls := "SoulOfficeModel", name := "were", desc := "(II)I" } : Jvm.MethodName)) ∈ WS := q_in_tab (q_c8 (j := 81) rfl) rfl
theorem q_w1870 : (Jvm.Cond.code ({ cls := "SoulOfficeModel", name := "were", desc := "(II)I" } : Jvm.MethodName) prog_14_method_73_code (7 : Nat) (Option.some Jvm.ClassFile.FieldType.int)) ∈ WS := q_in_tab (q_c8 (j := 82) rfl) rfl
theorem q_g13_118 : q_gd 13 (118, 1, 230, 0, 0) := ⟨⟨q_w1867, ⟨q_w1868, ⟨q_w1869, ⟨q_w126, ⟨q_w1870, True.intro⟩⟩⟩⟩⟩, True.intro⟩
theorem q_w1324 : (Jvm.Cond.methodLink "SoulOfficeLaw" (119 : Nat) ({ cls := "SoulOffice", name := "first", desc := "(I)I" } : Jvm.MethodName)) ∈ WS := q_in_tab (q_c6 (j := 16) rfl) rfl
theorem q_w1325 : (Jvm.Cond.instanceMethod ({ cls := "SoulOffice", name := "first", desc := "(I)I" } : Jvm.MethodName)) ∈ WS := q_in_tab (q_c6 (j := 17) rfl) rfl
theorem q_w1326 : (Jvm.Cond.selects "SoulOffice" ({ cls := "SoulOffice", name := "first", desc := "(I)I" } : Jvm.MethodName) ({ cls := "SoulOffice", name := "first", desc := "(I)I" } : Jvm.MethodName)) ∈ WS := q_in_tab (q_c6 (j := 18) rfl) rfl
theorem q_w1327 : (Jvm.Cond.code ({ cls := "SoulOffice", name := "first", desc := "(I)I" } : Jvm.MethodName) prog_1_method_35_code (2 : Nat) (Option.some Jvm.ClassFile.FieldType.int)) ∈ WS := q_in_tab (q_c6 (j := 19) rfl) rfl
theorem q_g13_119 : q_gd 13 (119, 1, 143, 0, 0) := ⟨⟨q_w1324, ⟨q_w1325, ⟨q_w1326, ⟨q_w109, ⟨q_w1327, True.intro⟩⟩⟩⟩⟩, True.intro⟩
theorem q_w1879 : (Jvm.Cond.methodLink "SoulOfficeLaw" (122 : Nat) ({ cls := "SoulOfficeModel", name := "first", desc := "(I)I" } : Jvm.MethodName)) ∈ WS := q_in_tab (q_c8 (j := 91) rfl) rfl
theorem q_w1880 : (Jvm.Cond.instanceMethod ({ cls := "SoulOfficeModel", name := "first", desc := "(I)I" } : Jvm.MethodName)) ∈ WS := q_in_tab (q_c8 (j := 92) rfl) rfl
theorem q_w1881 : (Jvm.Cond.selects "SoulOfficeModel" ({ cls := "SoulOfficeModel", name := "first", desc := "(I)I" } : Jvm.MethodName) ({ cls := "SoulOfficeModel", name := "first", desc := "(I)I" } : Jvm.MethodName)) ∈ WS := q_in_tab (q_c8 (j := 93) rfl) rfl
theorem q_w1882 : (Jvm.Cond.code ({ cls := "SoulOfficeModel", name := "first", desc := "(I)I" } : Jvm.MethodName) prog_14_method_74_code (2 : Nat) (Option.some Jvm.ClassFile.FieldType.int)) ∈ WS := q_in_tab (q_c8 (j := 94) rfl) rfl
theorem q_g13_122 : q_gd 13 (122, 1, 231, 0, 0) := ⟨⟨q_w1879, ⟨q_w1880, ⟨q_w1881, ⟨q_w126, ⟨q_w1882, True.intro⟩⟩⟩⟩⟩, True.intro⟩
theorem q_w1145 : (Jvm.Cond.methodLink "SoulOfficeLaw" (123 : Nat) ({ cls := "SoulOffice", name := "appeal", desc := "(II)I" } : Jvm.MethodName)) ∈ WS := q_in_tab (q_c5 (j := 77) rfl) rfl
theorem q_g13_123 : q_gd 13 (123, 1, 131, 0, 0) := ⟨⟨q_w1145, ⟨q_w1146, ⟨q_w1147, ⟨q_w109, ⟨q_w1148, True.intro⟩⟩⟩⟩⟩, True.intro⟩
theorem q_w1883 : (Jvm.Cond.methodLink "SoulOfficeLaw" (126 : Nat) ({ cls := "SoulOfficeModel", name := "appeal", desc := "(II)I" } : Jvm.MethodName)) ∈ WS := q_in_tab (q_c8 (j := 95) rfl) rfl
theorem q_w1884 : (Jvm.Cond.instanceMethod ({ cls := "SoulOfficeModel", name := "appeal", desc := "(II)I" } : Jvm.MethodName)) ∈ WS := q_in_tab (q_c8 (j := 96) rfl) rfl
theorem q_w1885 : (Jvm.Cond.selects "SoulOfficeModel" ({ cls := "SoulOfficeModel", name := "appeal", desc := "(II)I" } : Jvm.MethodName) ({ cls := "SoulOfficeModel", name := "appeal", desc := "(II)I" } : Jvm.MethodName)) ∈ WS := q_in_tab (q_c8 (j := 97) rfl) rfl
theorem q_w1886 : (Jvm.Cond.code ({ cls := "SoulOfficeModel", name := "appeal", desc := "(II)I" } : Jvm.MethodName) prog_14_method_79_code (3 : Nat) (Option.some Jvm.ClassFile.FieldType.int)) ∈ WS := q_in_tab (q_c8 (j := 98) rfl) rfl
theorem q_g13_126 : q_gd 13 (126, 1, 236, 0, 0) := ⟨⟨q_w1883, ⟨q_w1884, ⟨q_w1885, ⟨q_w126, ⟨q_w1886, True.intro⟩⟩⟩⟩⟩, True.intro⟩
theorem q_w1158 : (Jvm.Cond.methodLink "SoulOfficeLaw" (127 : Nat) ({ cls := "SoulOffice", name := "grant", desc := "(II)Z" } : Jvm.MethodName)) ∈ WS := q_in_tab (q_c5 (j := 90) rfl) rfl
theorem q_w1159 : (Jvm.Cond.instanceMethod ({ cls := "SoulOffice", name := "grant", desc := "(II)Z" } : Jvm.MethodName)) ∈ WS := q_in_tab (q_c5 (j := 91) rfl) rfl
theorem q_w1160 : (Jvm.Cond.selects "SoulOffice" ({ cls := "SoulOffice", name := "grant", desc := "(II)Z" } : Jvm.MethodName) ({ cls := "SoulOffice", name := "grant", desc := "(II)Z" } : Jvm.MethodName)) ∈ WS := q_in_tab (q_c5 (j := 92) rfl) rfl
theorem q_w1161 : (Jvm.Cond.code ({ cls := "SoulOffice", name := "grant", desc := "(II)Z" } : Jvm.MethodName) prog_1_method_24_code (4 : Nat) (Option.some Jvm.ClassFile.FieldType.boolean)) ∈ WS := q_in_tab (q_c5 (j := 93) rfl) rfl
theorem q_g13_127 : q_gd 13 (127, 1, 132, 0, 0) := ⟨⟨q_w1158, ⟨q_w1159, ⟨q_w1160, ⟨q_w109, ⟨q_w1161, True.intro⟩⟩⟩⟩⟩, True.intro⟩
theorem q_w1903 : (Jvm.Cond.methodLink "SoulOfficeLaw" (131 : Nat) ({ cls := "SoulOfficeModel", name := "grant", desc := "(II)Z" } : Jvm.MethodName)) ∈ WS := q_in_tab (q_c8 (j := 115) rfl) rfl
theorem q_w1904 : (Jvm.Cond.instanceMethod ({ cls := "SoulOfficeModel", name := "grant", desc := "(II)Z" } : Jvm.MethodName)) ∈ WS := q_in_tab (q_c8 (j := 116) rfl) rfl
theorem q_w1905 : (Jvm.Cond.selects "SoulOfficeModel" ({ cls := "SoulOfficeModel", name := "grant", desc := "(II)Z" } : Jvm.MethodName) ({ cls := "SoulOfficeModel", name := "grant", desc := "(II)Z" } : Jvm.MethodName)) ∈ WS := q_in_tab (q_c8 (j := 117) rfl) rfl
theorem q_w1906 : (Jvm.Cond.code ({ cls := "SoulOfficeModel", name := "grant", desc := "(II)Z" } : Jvm.MethodName) prog_14_method_80_code (4 : Nat) (Option.some Jvm.ClassFile.FieldType.boolean)) ∈ WS := q_in_tab (q_c8 (j := 118) rfl) rfl
theorem q_g13_131 : q_gd 13 (131, 1, 237, 0, 0) := ⟨⟨q_w1903, ⟨q_w1904, ⟨q_w1905, ⟨q_w126, ⟨q_w1906, True.intro⟩⟩⟩⟩⟩, True.intro⟩
theorem q_w1328 : (Jvm.Cond.methodLink "SoulOfficeLaw" (132 : Nat) ({ cls := "SoulOffice", name := "ends", desc := "()I" } : Jvm.MethodName)) ∈ WS := q_in_tab (q_c6 (j := 20) rfl) rfl
theorem q_w1329 : (Jvm.Cond.instanceMethod ({ cls := "SoulOffice", name := "ends", desc := "()I" } : Jvm.MethodName)) ∈ WS := q_in_tab (q_c6 (j := 21) rfl) rfl
theorem q_w1330 : (Jvm.Cond.selects "SoulOffice" ({ cls := "SoulOffice", name := "ends", desc := "()I" } : Jvm.MethodName) ({ cls := "SoulOffice", name := "ends", desc := "()I" } : Jvm.MethodName)) ∈ WS := q_in_tab (q_c6 (j := 22) rfl) rfl
theorem q_w1331 : (Jvm.Cond.code ({ cls := "SoulOffice", name := "ends", desc := "()I" } : Jvm.MethodName) prog_1_method_36_code (2 : Nat) (Option.some Jvm.ClassFile.FieldType.int)) ∈ WS := q_in_tab (q_c6 (j := 23) rfl) rfl
theorem q_g13_132 : q_gd 13 (132, 1, 144, 0, 0) := ⟨⟨q_w1328, ⟨q_w1329, ⟨q_w1330, ⟨q_w109, ⟨q_w1331, True.intro⟩⟩⟩⟩⟩, True.intro⟩
theorem q_w1907 : (Jvm.Cond.methodLink "SoulOfficeLaw" (135 : Nat) ({ cls := "SoulOfficeModel", name := "ends", desc := "()I" } : Jvm.MethodName)) ∈ WS := q_in_tab (q_c8 (j := 119) rfl) rfl
theorem q_w1908 : (Jvm.Cond.instanceMethod ({ cls := "SoulOfficeModel", name := "ends", desc := "()I" } : Jvm.MethodName)) ∈ WS := q_in_tab (q_c8 (j := 120) rfl) rfl
theorem q_w1909 : (Jvm.Cond.selects "SoulOfficeModel" ({ cls := "SoulOfficeModel", name := "ends", desc := "()I" } : Jvm.MethodName) ({ cls := "SoulOfficeModel", name := "ends", desc := "()I" } : Jvm.MethodName)) ∈ WS := q_in_tab (q_c8 (j := 121) rfl) rfl
theorem q_w1910 : (Jvm.Cond.code ({ cls := "SoulOfficeModel", name := "ends", desc := "()I" } : Jvm.MethodName) prog_14_method_81_code (3 : Nat) (Option.some Jvm.ClassFile.FieldType.int)) ∈ WS := q_in_tab (q_c8 (j := 122) rfl) rfl
theorem q_g13_135 : q_gd 13 (135, 1, 238, 0, 0) := ⟨⟨q_w1907, ⟨q_w1908, ⟨q_w1909, ⟨q_w126, ⟨q_w1910, True.intro⟩⟩⟩⟩⟩, True.intro⟩
theorem q_w1332 : (Jvm.Cond.methodLink "SoulOfficeLaw" (136 : Nat) ({ cls := "SoulOffice", name := "later", desc := "(I)I" } : Jvm.MethodName)) ∈ WS := q_in_tab (q_c6 (j := 24) rfl) rfl
theorem q_w1333 : (Jvm.Cond.instanceMethod ({ cls := "SoulOffice", name := "later", desc := "(I)I" } : Jvm.MethodName)) ∈ WS := q_in_tab (q_c6 (j := 25) rfl) rfl
theorem q_w1334 : (Jvm.Cond.selects "SoulOffice" ({ cls := "SoulOffice", name := "later", desc := "(I)I" } : Jvm.MethodName) ({ cls := "SoulOffice", name := "later", desc := "(I)I" } : Jvm.MethodName)) ∈ WS := q_in_tab (q_c6 (j := 26) rfl) rfl
theorem q_w1335 : (Jvm.Cond.code ({ cls := "SoulOffice", name := "later", desc := "(I)I" } : Jvm.MethodName) prog_1_method_37_code (2 : Nat) (Option.some Jvm.ClassFile.FieldType.int)) ∈ WS := q_in_tab (q_c6 (j := 27) rfl) rfl
theorem q_g13_136 : q_gd 13 (136, 1, 145, 0, 0) := ⟨⟨q_w1332, ⟨q_w1333, ⟨q_w1334, ⟨q_w109, ⟨q_w1335, True.intro⟩⟩⟩⟩⟩, True.intro⟩
theorem q_w1911 : (Jvm.Cond.methodLink "SoulOfficeLaw" (139 : Nat) ({ cls := "SoulOfficeModel", name := "later", desc := "(I)I" } : Jvm.MethodName)) ∈ WS := q_in_tab (q_c8 (j := 123) rfl) rfl
theorem q_w1912 : (Jvm.Cond.instanceMethod ({ cls := "SoulOfficeModel", name := "later", desc := "(I)I" } : Jvm.MethodName)) ∈ WS := q_in_tab (q_c8 (j := 124) rfl) rfl
theorem q_w1913 : (Jvm.Cond.selects "SoulOfficeModel" ({ cls := "SoulOfficeModel", name := "later", desc := "(I)I" } : Jvm.MethodName) ({ cls := "SoulOfficeModel", name := "later", desc := "(I)I" } : Jvm.MethodName)) ∈ WS := q_in_tab (q_c8 (j := 125) rfl) rfl
theorem q_w1914 : (Jvm.Cond.code ({ cls := "SoulOfficeModel", name := "later", desc := "(I)I" } : Jvm.MethodName) prog_14_method_83_code (2 : Nat) (Option.some Jvm.ClassFile.FieldType.int)) ∈ WS := q_in_tab (q_c8 (j := 126) rfl) rfl
theorem q_g13_139 : q_gd 13 (139, 1, 240, 0, 0) := ⟨⟨q_w1911, ⟨q_w1912, ⟨q_w1913, ⟨q_w126, ⟨q_w1914, True.intro⟩⟩⟩⟩⟩, True.intro⟩
theorem q_w1336 : (Jvm.Cond.methodLink "SoulOfficeLaw" (140 : Nat) ({ cls := "SoulOffice", name := "queue", desc := "(I)I" } : Jvm.MethodName)) ∈ WS := q_in_tab (q_c6 (j := 28) rfl) rfl
theorem q_w1337 : (Jvm.Cond.instanceMethod ({ cls := "SoulOffice", name := "queue", desc := "(I)I" } : Jvm.MethodName)) ∈ WS := q_in_tab (q_c6 (j := 29) rfl) rfl
theorem q_w1338 : (Jvm.Cond.selects "SoulOffice" ({ cls := "SoulOffice", name := "queue", desc := "(I)I" } : Jvm.MethodName) ({ cls := "SoulOffice", name := "queue", desc := "(I)I" } : Jvm.MethodName)) ∈ WS := q_in_tab (q_c6 (j := 30) rfl) rfl
theorem q_w1339 : (Jvm.Cond.code ({ cls := "SoulOffice", name := "queue", desc := "(I)I" } : Jvm.MethodName) prog_1_method_38_code (4 : Nat) (Option.some Jvm.ClassFile.FieldType.int)) ∈ WS := q_in_tab (q_c6 (j := 31) rfl) rfl
theorem q_g13_140 : q_gd 13 (140, 1, 146, 0, 0) := ⟨⟨q_w1336, ⟨q_w1337, ⟨q_w1338, ⟨q_w109, ⟨q_w1339, True.intro⟩⟩⟩⟩⟩, True.intro⟩
theorem q_w1919 : (Jvm.Cond.methodLink "SoulOfficeLaw" (143 : Nat) ({ cls := "SoulOfficeModel", name := "queue", desc := "(I)I" } : Jvm.MethodName)) ∈ WS := q_in_tab (q_c8 (j := 131) rfl) rfl
theorem q_w1920 : (Jvm.Cond.instanceMethod ({ cls := "SoulOfficeModel", name := "queue", desc := "(I)I" } : Jvm.MethodName)) ∈ WS := q_in_tab (q_c8 (j := 132) rfl) rfl
theorem q_w1921 : (Jvm.Cond.selects "SoulOfficeModel" ({ cls := "SoulOfficeModel", name := "queue", desc := "(I)I" } : Jvm.MethodName) ({ cls := "SoulOfficeModel", name := "queue", desc := "(I)I" } : Jvm.MethodName)) ∈ WS := q_in_tab (q_c8 (j := 133) rfl) rfl
theorem q_w1922 : (Jvm.Cond.code ({ cls := "SoulOfficeModel", name := "queue", desc := "(I)I" } : Jvm.MethodName) prog_14_method_84_code (4 : Nat) (Option.some Jvm.ClassFile.FieldType.int)) ∈ WS := q_in_tab (q_c8 (j := 134) rfl) rfl
theorem q_g13_143 : q_gd 13 (143, 1, 241, 0, 0) := ⟨⟨q_w1919, ⟨q_w1920, ⟨q_w1921, ⟨q_w126, ⟨q_w1922, True.intro⟩⟩⟩⟩⟩, True.intro⟩
theorem q_w1136 : (Jvm.Cond.methodLink "SoulOfficeLaw" (144 : Nat) ({ cls := "SoulOffice", name := "drawn", desc := "(II)I" } : Jvm.MethodName)) ∈ WS := q_in_tab (q_c5 (j := 68) rfl) rfl
theorem q_w1137 : (Jvm.Cond.instanceMethod ({ cls := "SoulOffice", name := "drawn", desc := "(II)I" } : Jvm.MethodName)) ∈ WS := q_in_tab (q_c5 (j := 69) rfl) rfl
theorem q_w1138 : (Jvm.Cond.selects "SoulOffice" ({ cls := "SoulOffice", name := "drawn", desc := "(II)I" } : Jvm.MethodName) ({ cls := "SoulOffice", name := "drawn", desc := "(II)I" } : Jvm.MethodName)) ∈ WS := q_in_tab (q_c5 (j := 70) rfl) rfl
theorem q_w1139 : (Jvm.Cond.code ({ cls := "SoulOffice", name := "drawn", desc := "(II)I" } : Jvm.MethodName) prog_1_method_22_code (4 : Nat) (Option.some Jvm.ClassFile.FieldType.int)) ∈ WS := q_in_tab (q_c5 (j := 71) rfl) rfl
theorem q_g13_144 : q_gd 13 (144, 1, 130, 0, 0) := ⟨⟨q_w1136, ⟨q_w1137, ⟨q_w1138, ⟨q_w109, ⟨q_w1139, True.intro⟩⟩⟩⟩⟩, True.intro⟩
theorem q_w1923 : (Jvm.Cond.methodLink "SoulOfficeLaw" (147 : Nat) ({ cls := "SoulOfficeModel", name := "drawn", desc := "(II)I" } : Jvm.MethodName)) ∈ WS := q_in_tab (q_c8 (j := 135) rfl) rfl
theorem q_w1924 : (Jvm.Cond.instanceMethod ({ cls := "SoulOfficeModel", name := "drawn", desc := "(II)I" } : Jvm.MethodName)) ∈ WS := q_in_tab (q_c8 (j := 136) rfl) rfl
theorem q_w1925 : (Jvm.Cond.selects "SoulOfficeModel" ({ cls := "SoulOfficeModel", name := "drawn", desc := "(II)I" } : Jvm.MethodName) ({ cls := "SoulOfficeModel", name := "drawn", desc := "(II)I" } : Jvm.MethodName)) ∈ WS := q_in_tab (q_c8 (j := 137) rfl) rfl
theorem q_w1926 : (Jvm.Cond.code ({ cls := "SoulOfficeModel", name := "drawn", desc := "(II)I" } : Jvm.MethodName) prog_14_method_87_code (3 : Nat) (Option.some Jvm.ClassFile.FieldType.int)) ∈ WS := q_in_tab (q_c8 (j := 138) rfl) rfl
theorem q_g13_147 : q_gd 13 (147, 1, 244, 0, 0) := ⟨⟨q_w1923, ⟨q_w1924, ⟨q_w1925, ⟨q_w126, ⟨q_w1926, True.intro⟩⟩⟩⟩⟩, True.intro⟩
theorem q_w1341 : (Jvm.Cond.methodLink "SoulOfficeLaw" (148 : Nat) ({ cls := "SoulOffice", name := "odds", desc := "(II)I" } : Jvm.MethodName)) ∈ WS := q_in_tab (q_c6 (j := 33) rfl) rfl
theorem q_w1342 : (Jvm.Cond.instanceMethod ({ cls := "SoulOffice", name := "odds", desc := "(II)I" } : Jvm.MethodName)) ∈ WS := q_in_tab (q_c6 (j := 34) rfl) rfl
theorem q_w1343 : (Jvm.Cond.selects "SoulOffice" ({ cls := "SoulOffice", name := "odds", desc := "(II)I" } : Jvm.MethodName) ({ cls := "SoulOffice", name := "odds", desc := "(II)I" } : Jvm.MethodName)) ∈ WS := q_in_tab (q_c6 (j := 35) rfl) rfl
theorem q_w1344 : (Jvm.Cond.code ({ cls := "SoulOffice", name := "odds", desc := "(II)I" } : Jvm.MethodName) prog_1_method_39_code (6 : Nat) (Option.some Jvm.ClassFile.FieldType.int)) ∈ WS := q_in_tab (q_c6 (j := 36) rfl) rfl
theorem q_g13_148 : q_gd 13 (148, 1, 147, 0, 0) := ⟨⟨q_w1341, ⟨q_w1342, ⟨q_w1343, ⟨q_w109, ⟨q_w1344, True.intro⟩⟩⟩⟩⟩, True.intro⟩
theorem q_w1936 : (Jvm.Cond.methodLink "SoulOfficeLaw" (151 : Nat) ({ cls := "SoulOfficeModel", name := "odds", desc := "(II)I" } : Jvm.MethodName)) ∈ WS := q_in_tab (q_c8 (j := 148) rfl) rfl
theorem q_w1937 : (Jvm.Cond.instanceMethod ({ cls := "SoulOfficeModel", name := "odds", desc := "(II)I" } : Jvm.MethodName)) ∈ WS := q_in_tab (q_c8 (j := 149) rfl) rfl
theorem q_w1938 : (Jvm.Cond.selects "SoulOfficeModel" ({ cls := "SoulOfficeModel", name := "odds", desc := "(II)I" } : Jvm.MethodName) ({ cls := "SoulOfficeModel", name := "odds", desc := "(II)I" } : Jvm.MethodName)) ∈ WS := q_in_tab (q_c8 (j := 150) rfl) rfl
theorem q_w1939 : (Jvm.Cond.code ({ cls := "SoulOfficeModel", name := "odds", desc := "(II)I" } : Jvm.MethodName) prog_14_method_88_code (6 : Nat) (Option.some Jvm.ClassFile.FieldType.int)) ∈ WS := q_in_tab (q_c8 (j := 151) rfl) rfl
theorem q_g13_151 : q_gd 13 (151, 1, 245, 0, 0) := ⟨⟨q_w1936, ⟨q_w1937, ⟨q_w1938, ⟨q_w126, ⟨q_w1939, True.intro⟩⟩⟩⟩⟩, True.intro⟩
theorem q_w1109 : (Jvm.Cond.methodLink "SoulOfficeLaw" (152 : Nat) ({ cls := "SoulOffice", name := "greatest", desc := "(I)I" } : Jvm.MethodName)) ∈ WS := q_in_tab (q_c5 (j := 41) rfl) rfl
theorem q_w1110 : (Jvm.Cond.instanceMethod ({ cls := "SoulOffice", name := "greatest", desc := "(I)I" } : Jvm.MethodName)) ∈ WS := q_in_tab (q_c5 (j := 42) rfl) rfl
theorem q_w1111 : (Jvm.Cond.selects "SoulOffice" ({ cls := "SoulOffice", name := "greatest", desc := "(I)I" } : Jvm.MethodName) ({ cls := "SoulOffice", name := "greatest", desc := "(I)I" } : Jvm.MethodName)) ∈ WS := q_in_tab (q_c5 (j := 43) rfl) rfl
theorem q_w1112 : (Jvm.Cond.code ({ cls := "SoulOffice", name := "greatest", desc := "(I)I" } : Jvm.MethodName) prog_1_method_17_code (6 : Nat) (Option.some Jvm.ClassFile.FieldType.int)) ∈ WS := q_in_tab (q_c5 (j := 44) rfl) rfl
theorem q_g13_152 : q_gd 13 (152, 1, 125, 0, 0) := ⟨⟨q_w1109, ⟨q_w1110, ⟨q_w1111, ⟨q_w109, ⟨q_w1112, True.intro⟩⟩⟩⟩⟩, True.intro⟩
theorem q_w1940 : (Jvm.Cond.methodLink "SoulOfficeLaw" (155 : Nat) ({ cls := "SoulOfficeModel", name := "greatest", desc := "(I)I" } : Jvm.MethodName)) ∈ WS := q_in_tab (q_c8 (j := 152) rfl) rfl
theorem q_w1941 : (Jvm.Cond.instanceMethod ({ cls := "SoulOfficeModel", name := "greatest", desc := "(I)I" } : Jvm.MethodName)) ∈ WS := q_in_tab (q_c8 (j := 153) rfl) rfl
theorem q_w1942 : (Jvm.Cond.selects "SoulOfficeModel" ({ cls := "SoulOfficeModel", name := "greatest", desc := "(I)I" } : Jvm.MethodName) ({ cls := "SoulOfficeModel", name := "greatest", desc := "(I)I" } : Jvm.MethodName)) ∈ WS := q_in_tab (q_c8 (j := 154) rfl) rfl
theorem q_w1943 : (Jvm.Cond.code ({ cls := "SoulOfficeModel", name := "greatest", desc := "(I)I" } : Jvm.MethodName) prog_14_method_90_code (4 : Nat) (Option.some Jvm.ClassFile.FieldType.int)) ∈ WS := q_in_tab (q_c8 (j := 155) rfl) rfl
theorem q_g13_155 : q_gd 13 (155, 1, 247, 0, 0) := ⟨⟨q_w1940, ⟨q_w1941, ⟨q_w1942, ⟨q_w126, ⟨q_w1943, True.intro⟩⟩⟩⟩⟩, True.intro⟩
theorem q_w861 : (Jvm.Cond.methodLink "SoulOfficeLaw" (156 : Nat) ({ cls := "SoulOffice", name := "daybook", desc := "(I)I" } : Jvm.MethodName)) ∈ WS := q_in_tab (q_c4 (j := 33) rfl) rfl
theorem q_w862 : (Jvm.Cond.instanceMethod ({ cls := "SoulOffice", name := "daybook", desc := "(I)I" } : Jvm.MethodName)) ∈ WS := q_in_tab (q_c4 (j := 34) rfl) rfl
theorem q_w863 : (Jvm.Cond.selects "SoulOffice" ({ cls := "SoulOffice", name := "daybook", desc := "(I)I" } : Jvm.MethodName) ({ cls := "SoulOffice", name := "daybook", desc := "(I)I" } : Jvm.MethodName)) ∈ WS := q_in_tab (q_c4 (j := 35) rfl) rfl
theorem q_w864 : (Jvm.Cond.code ({ cls := "SoulOffice", name := "daybook", desc := "(I)I" } : Jvm.MethodName) prog_1_method_6_code (3 : Nat) (Option.some Jvm.ClassFile.FieldType.int)) ∈ WS := q_in_tab (q_c4 (j := 36) rfl) rfl
theorem q_g13_156 : q_gd 13 (156, 1, 114, 0, 0) := ⟨⟨q_w861, ⟨q_w862, ⟨q_w863, ⟨q_w109, ⟨q_w864, True.intro⟩⟩⟩⟩⟩, True.intro⟩
theorem q_w1948 : (Jvm.Cond.methodLink "SoulOfficeLaw" (159 : Nat) ({ cls := "SoulOfficeModel", name := "daybook", desc := "(I)I" } : Jvm.MethodName)) ∈ WS := q_in_tab (q_c8 (j := 160) rfl) rfl
theorem q_w1949 : (Jvm.Cond.instanceMethod ({ cls := "SoulOfficeModel", name := "daybook", desc := "(I)I" } : Jvm.MethodName)) ∈ WS := q_in_tab (q_c8 (j := 161) rfl) rfl
theorem q_w1950 : (Jvm.Cond.selects "SoulOfficeModel" ({ cls := "SoulOfficeModel", name := "daybook", desc := "(I)I" } : Jvm.MethodName) ({ cls := "SoulOfficeModel", name := "daybook", desc := "(I)I" } : Jvm.MethodName)) ∈ WS := q_in_tab (q_c8 (j := 162) rfl) rfl
theorem q_w1951 : (Jvm.Cond.code ({ cls := "SoulOfficeModel", name := "daybook", desc := "(I)I" } : Jvm.MethodName) prog_14_method_93_code (5 : Nat) (Option.some Jvm.ClassFile.FieldType.int)) ∈ WS := q_in_tab (q_c8 (j := 163) rfl) rfl
theorem q_g13_159 : q_gd 13 (159, 1, 250, 0, 0) := ⟨⟨q_w1948, ⟨q_w1949, ⟨q_w1950, ⟨q_w126, ⟨q_w1951, True.intro⟩⟩⟩⟩⟩, True.intro⟩
theorem q_w966 : (Jvm.Cond.methodLink "SoulOfficeLaw" (160 : Nat) ({ cls := "SoulOffice", name := "booked", desc := "(I)I" } : Jvm.MethodName)) ∈ WS := q_in_tab (q_c4 (j := 138) rfl) rfl
theorem q_w967 : (Jvm.Cond.instanceMethod ({ cls := "SoulOffice", name := "booked", desc := "(I)I" } : Jvm.MethodName)) ∈ WS := q_in_tab (q_c4 (j := 139) rfl) rfl
theorem q_w968 : (Jvm.Cond.selects "SoulOffice" ({ cls := "SoulOffice", name := "booked", desc := "(I)I" } : Jvm.MethodName) ({ cls := "SoulOffice", name := "booked", desc := "(I)I" } : Jvm.MethodName)) ∈ WS := q_in_tab (q_c4 (j := 140) rfl) rfl
theorem q_w969 : (Jvm.Cond.code ({ cls := "SoulOffice", name := "booked", desc := "(I)I" } : Jvm.MethodName) prog_1_method_7_code (2 : Nat) (Option.some Jvm.ClassFile.FieldType.int)) ∈ WS := q_in_tab (q_c4 (j := 141) rfl) rfl
theorem q_g13_160 : q_gd 13 (160, 1, 115, 0, 0) := ⟨⟨q_w966, ⟨q_w967, ⟨q_w968, ⟨q_w109, ⟨q_w969, True.intro⟩⟩⟩⟩⟩, True.intro⟩
theorem q_w1960 : (Jvm.Cond.methodLink "SoulOfficeLaw" (163 : Nat) ({ cls := "SoulOfficeModel", name := "booked", desc := "(I)I" } : Jvm.MethodName)) ∈ WS := q_in_tab (q_c8 (j := 172) rfl) rfl
theorem q_w1961 : (Jvm.Cond.instanceMethod ({ cls := "SoulOfficeModel", name := "booked", desc := "(I)I" } : Jvm.MethodName)) ∈ WS := q_in_tab (q_c8 (j := 173) rfl) rfl
theorem q_w1962 : (Jvm.Cond.selects "SoulOfficeModel" ({ cls := "SoulOfficeModel", name := "booked", desc := "(I)I" } : Jvm.MethodName) ({ cls := "SoulOfficeModel", name := "booked", desc := "(I)I" } : Jvm.MethodName)) ∈ WS := q_in_tab (q_c8 (j := 174) rfl) rfl
theorem q_w1963 : (Jvm.Cond.code ({ cls := "SoulOfficeModel", name := "booked", desc := "(I)I" } : Jvm.MethodName) prog_14_method_94_code (2 : Nat) (Option.some Jvm.ClassFile.FieldType.int)) ∈ WS := q_in_tab (q_c8 (j := 175) rfl) rfl
theorem q_g13_163 : q_gd 13 (163, 1, 251, 0, 0) := ⟨⟨q_w1960, ⟨q_w1961, ⟨q_w1962, ⟨q_w126, ⟨q_w1963, True.intro⟩⟩⟩⟩⟩, True.intro⟩
theorem q_w970 : (Jvm.Cond.methodLink "SoulOfficeLaw" (164 : Nat) ({ cls := "SoulOffice", name := "sentence", desc := "()I" } : Jvm.MethodName)) ∈ WS := q_in_tab (q_c4 (j := 142) rfl) rfl
theorem q_w971 : (Jvm.Cond.instanceMethod ({ cls := "SoulOffice", name := "sentence", desc := "()I" } : Jvm.MethodName)) ∈ WS := q_in_tab (q_c4 (j := 143) rfl) rfl
theorem q_w972 : (Jvm.Cond.selects "SoulOffice" ({ cls := "SoulOffice", name := "sentence", desc := "()I" } : Jvm.MethodName) ({ cls := "SoulOffice", name := "sentence", desc := "()I" } : Jvm.MethodName)) ∈ WS := q_in_tab (q_c4 (j := 144) rfl) rfl
theorem q_w973 : (Jvm.Cond.code ({ cls := "SoulOffice", name := "sentence", desc := "()I" } : Jvm.MethodName) prog_1_method_8_code (2 : Nat) (Option.some Jvm.ClassFile.FieldType.int)) ∈ WS := q_in_tab (q_c4 (j := 145) rfl) rfl
theorem q_g13_164 : q_gd 13 (164, 1, 116, 0, 0) := ⟨⟨q_w970, ⟨q_w971, ⟨q_w972, ⟨q_w109, ⟨q_w973, True.intro⟩⟩⟩⟩⟩, True.intro⟩
theorem q_w1964 : (Jvm.Cond.methodLink "SoulOfficeLaw" (167 : Nat) ({ cls := "SoulOfficeModel", name := "sentence", desc := "()I" } : Jvm.MethodName)) ∈ WS := q_in_tab (q_c8 (j := 176) rfl) rfl
theorem q_w1965 : (Jvm.Cond.instanceMethod ({ cls := "SoulOfficeModel", name := "sentence", desc := "()I" } : Jvm.MethodName)) ∈ WS := q_in_tab (q_c8 (j := 177) rfl) rfl
theorem q_w1966 : (Jvm.Cond.selects "SoulOfficeModel" ({ cls := "SoulOfficeModel", name := "sentence", desc := "()I" } : Jvm.MethodName) ({ cls := "SoulOfficeModel", name := "sentence", desc := "()I" } : Jvm.MethodName)) ∈ WS := q_in_tab (q_c8 (j := 178) rfl) rfl
theorem q_w1967 : (Jvm.Cond.code ({ cls := "SoulOfficeModel", name := "sentence", desc := "()I" } : Jvm.MethodName) prog_14_method_101_code (3 : Nat) (Option.some Jvm.ClassFile.FieldType.int)) ∈ WS := q_in_tab (q_c8 (j := 179) rfl) rfl
theorem q_g13_167 : q_gd 13 (167, 1, 258, 0, 0) := ⟨⟨q_w1964, ⟨q_w1965, ⟨q_w1966, ⟨q_w126, ⟨q_w1967, True.intro⟩⟩⟩⟩⟩, True.intro⟩
theorem q_w1021 : (Jvm.Cond.methodLink "SoulOfficeLaw" (168 : Nat) ({ cls := "SoulOffice", name := "said", desc := "(I)I" } : Jvm.MethodName)) ∈ WS := q_in_tab (q_c4 (j := 193) rfl) rfl
theorem q_w1022 : (Jvm.Cond.instanceMethod ({ cls := "SoulOffice", name := "said", desc := "(I)I" } : Jvm.MethodName)) ∈ WS := q_in_tab (q_c4 (j := 194) rfl) rfl
theorem q_w1023 : (Jvm.Cond.selects "SoulOffice" ({ cls := "SoulOffice", name := "said", desc := "(I)I" } : Jvm.MethodName) ({ cls := "SoulOffice", name := "said", desc := "(I)I" } : Jvm.MethodName)) ∈ WS := q_in_tab (q_c4 (j := 195) rfl) rfl
theorem q_w1024 : (Jvm.Cond.code ({ cls := "SoulOffice", name := "said", desc := "(I)I" } : Jvm.MethodName) prog_1_method_9_code (5 : Nat) (Option.some Jvm.ClassFile.FieldType.int)) ∈ WS := q_in_tab (q_c4 (j := 196) rfl) rfl
theorem q_g13_168 : q_gd 13 (168, 1, 117, 0, 0) := ⟨⟨q_w1021, ⟨q_w1022, ⟨q_w1023, ⟨q_w109, ⟨q_w1024, True.intro⟩⟩⟩⟩⟩, True.intro⟩
theorem q_w1992 : (Jvm.Cond.methodLink "SoulOfficeLaw" (171 : Nat) ({ cls := "SoulOfficeModel", name := "said", desc := "(I)I" } : Jvm.MethodName)) ∈ WS := q_in_tab (q_c8 (j := 204) rfl) rfl
theorem q_w1993 : (Jvm.Cond.instanceMethod ({ cls := "SoulOfficeModel", name := "said", desc := "(I)I" } : Jvm.MethodName)) ∈ WS := q_in_tab (q_c8 (j := 205) rfl) rfl
theorem q_w1994 : (Jvm.Cond.selects "SoulOfficeModel" ({ cls := "SoulOfficeModel", name := "said", desc := "(I)I" } : Jvm.MethodName) ({ cls := "SoulOfficeModel", name := "said", desc := "(I)I" } : Jvm.MethodName)) ∈ WS := q_in_tab (q_c8 (j := 206) rfl) rfl
theorem q_w1995 : (Jvm.Cond.code ({ cls := "SoulOfficeModel", name := "said", desc := "(I)I" } : Jvm.MethodName) prog_14_method_104_code (4 : Nat) (Option.some Jvm.ClassFile.FieldType.int)) ∈ WS := q_in_tab (q_c8 (j := 207) rfl) rfl
theorem q_g13_171 : q_gd 13 (171, 1, 261, 0, 0) := ⟨⟨q_w1992, ⟨q_w1993, ⟨q_w1994, ⟨q_w126, ⟨q_w1995, True.intro⟩⟩⟩⟩⟩, True.intro⟩
theorem q_w1193 : (Jvm.Cond.methodLink "SoulOfficeLaw" (172 : Nat) ({ cls := "SoulOffice", name := "image", desc := "(I)Z" } : Jvm.MethodName)) ∈ WS := q_in_tab (q_c5 (j := 125) rfl) rfl
theorem q_w1194 : (Jvm.Cond.instanceMethod ({ cls := "SoulOffice", name := "image", desc := "(I)Z" } : Jvm.MethodName)) ∈ WS := q_in_tab (q_c5 (j := 126) rfl) rfl
theorem q_w1195 : (Jvm.Cond.selects "SoulOffice" ({ cls := "SoulOffice", name := "image", desc := "(I)Z" } : Jvm.MethodName) ({ cls := "SoulOffice", name := "image", desc := "(I)Z" } : Jvm.MethodName)) ∈ WS := q_in_tab (q_c5 (j := 127) rfl) rfl
theorem q_w1196 : (Jvm.Cond.code ({ cls := "SoulOffice", name := "image", desc := "(I)Z" } : Jvm.MethodName) prog_1_method_26_code (3 : Nat) (Option.some Jvm.ClassFile.FieldType.boolean)) ∈ WS := q_in_tab (q_c5 (j := 128) rfl) rfl
theorem q_g13_172 : q_gd 13 (172, 1, 134, 0, 0) := ⟨⟨q_w1193, ⟨q_w1194, ⟨q_w1195, ⟨q_w109, ⟨q_w1196, True.intro⟩⟩⟩⟩⟩, True.intro⟩
theorem q_w2004 : (Jvm.Cond.methodLink "SoulOfficeLaw" (175 : Nat) ({ cls := "SoulOfficeModel", name := "image", desc := "(I)Z" } : Jvm.MethodName)) ∈ WS := q_in_tab (q_c8 (j := 216) rfl) rfl
theorem q_w2005 : (Jvm.Cond.instanceMethod ({ cls := "SoulOfficeModel", name := "image", desc := "(I)Z" } : Jvm.MethodName)) ∈ WS := q_in_tab (q_c8 (j := 217) rfl) rfl
theorem q_w2006 : (Jvm.Cond.selects "SoulOfficeModel" ({ cls := "SoulOfficeModel", name := "image", desc := "(I)Z" } : Jvm.MethodName) ({ cls := "SoulOfficeModel", name := "image", desc := "(I)Z" } : Jvm.MethodName)) ∈ WS := q_in_tab (q_c8 (j := 218) rfl) rfl
theorem q_w2007 : (Jvm.Cond.code ({ cls := "SoulOfficeModel", name := "image", desc := "(I)Z" } : Jvm.MethodName) prog_14_method_105_code (3 : Nat) (Option.some Jvm.ClassFile.FieldType.boolean)) ∈ WS := q_in_tab (q_c8 (j := 219) rfl) rfl
theorem q_g13_175 : q_gd 13 (175, 1, 262, 0, 0) := ⟨⟨q_w2004, ⟨q_w2005, ⟨q_w2006, ⟨q_w126, ⟨q_w2007, True.intro⟩⟩⟩⟩⟩, True.intro⟩
theorem q_w1204 : (Jvm.Cond.methodLink "SoulOfficeLaw" (176 : Nat) ({ cls := "SoulOffice", name := "restore", desc := "(I)Z" } : Jvm.MethodName)) ∈ WS := q_in_tab (q_c5 (j := 136) rfl) rfl
theorem q_w1205 : (Jvm.Cond.instanceMethod ({ cls := "SoulOffice", name := "restore", desc := "(I)Z" } : Jvm.MethodName)) ∈ WS := q_in_tab (q_c5 (j := 137) rfl) rfl
theorem q_w1206 : (Jvm.Cond.selects "SoulOffice" ({ cls := "SoulOffice", name := "restore", desc := "(I)Z" } : Jvm.MethodName) ({ cls := "SoulOffice", name := "restore", desc := "(I)Z" } : Jvm.MethodName)) ∈ WS := q_in_tab (q_c5 (j := 138) rfl) rfl
theorem q_w1207 : (Jvm.Cond.code ({ cls := "SoulOffice", name := "restore", desc := "(I)Z" } : Jvm.MethodName) prog_1_method_27_code (3 : Nat) (Option.some Jvm.ClassFile.FieldType.boolean)) ∈ WS := q_in_tab (q_c5 (j := 139) rfl) rfl
theorem q_g13_176 : q_gd 13 (176, 1, 135, 0, 0) := ⟨⟨q_w1204, ⟨q_w1205, ⟨q_w1206, ⟨q_w109, ⟨q_w1207, True.intro⟩⟩⟩⟩⟩, True.intro⟩
theorem q_w2008 : (Jvm.Cond.methodLink "SoulOfficeLaw" (179 : Nat) ({ cls := "SoulOfficeModel", name := "restore", desc := "(I)Z" } : Jvm.MethodName)) ∈ WS := q_in_tab (q_c8 (j := 220) rfl) rfl
theorem q_w2009 : (Jvm.Cond.instanceMethod ({ cls := "SoulOfficeModel", name := "restore", desc := "(I)Z" } : Jvm.MethodName)) ∈ WS := q_in_tab (q_c8 (j := 221) rfl) rfl
theorem q_w2010 : (Jvm.Cond.selects "SoulOfficeModel" ({ cls := "SoulOfficeModel", name := "restore", desc := "(I)Z" } : Jvm.MethodName) ({ cls := "SoulOfficeModel", name := "restore", desc := "(I)Z" } : Jvm.MethodName)) ∈ WS := q_in_tab (q_c8 (j := 222) rfl) rfl
theorem q_w2011 : (Jvm.Cond.code ({ cls := "SoulOfficeModel", name := "restore", desc := "(I)Z" } : Jvm.MethodName) prog_14_method_106_code (3 : Nat) (Option.some Jvm.ClassFile.FieldType.boolean)) ∈ WS := q_in_tab (q_c8 (j := 223) rfl) rfl
theorem q_g13_179 : q_gd 13 (179, 1, 263, 0, 0) := ⟨⟨q_w2008, ⟨q_w2009, ⟨q_w2010, ⟨q_w126, ⟨q_w2011, True.intro⟩⟩⟩⟩⟩, True.intro⟩
theorem q_w1056 : (Jvm.Cond.methodLink "SoulOfficeLaw" (180 : Nat) ({ cls := "SoulOffice", name := "count", desc := "(I)I" } : Jvm.MethodName)) ∈ WS := q_in_tab (q_c4 (j := 228) rfl) rfl
theorem q_w1057 : (Jvm.Cond.instanceMethod ({ cls := "SoulOffice", name := "count", desc := "(I)I" } : Jvm.MethodName)) ∈ WS := q_in_tab (q_c4 (j := 229) rfl) rfl
theorem q_w1058 : (Jvm.Cond.selects "SoulOffice" ({ cls := "SoulOffice", name := "count", desc := "(I)I" } : Jvm.MethodName) ({ cls := "SoulOffice", name := "count", desc := "(I)I" } : Jvm.MethodName)) ∈ WS := q_in_tab (q_c4 (j := 230) rfl) rfl
theorem q_w1059 : (Jvm.Cond.code ({ cls := "SoulOffice", name := "count", desc := "(I)I" } : Jvm.MethodName) prog_1_method_10_code (2 : Nat) (Option.some Jvm.ClassFile.FieldType.int)) ∈ WS := q_in_tab (q_c4 (j := 231) rfl) rfl
theorem q_g13_180 : q_gd 13 (180, 1, 118, 0, 0) := ⟨⟨q_w1056, ⟨q_w1057, ⟨q_w1058, ⟨q_w109, ⟨q_w1059, True.intro⟩⟩⟩⟩⟩, True.intro⟩
theorem q_w2012 : (Jvm.Cond.methodLink "SoulOfficeLaw" (183 : Nat) ({ cls := "SoulOfficeModel", name := "count", desc := "(I)I" } : Jvm.MethodName)) ∈ WS := q_in_tab (q_c8 (j := 224) rfl) rfl
theorem q_w2013 : (Jvm.Cond.instanceMethod ({ cls := "SoulOfficeModel", name := "count", desc := "(I)I" } : Jvm.MethodName)) ∈ WS := q_in_tab (q_c8 (j := 225) rfl) rfl
theorem q_w2014 : (Jvm.Cond.selects "SoulOfficeModel" ({ cls := "SoulOfficeModel", name := "count", desc := "(I)I" } : Jvm.MethodName) ({ cls := "SoulOfficeModel", name := "count", desc := "(I)I" } : Jvm.MethodName)) ∈ WS := q_in_tab (q_c8 (j := 226) rfl) rfl
theorem q_w2015 : (Jvm.Cond.code ({ cls := "SoulOfficeModel", name := "count", desc := "(I)I" } : Jvm.MethodName) prog_14_method_107_code (2 : Nat) (Option.some Jvm.ClassFile.FieldType.int)) ∈ WS := q_in_tab (q_c8 (j := 227) rfl) rfl
theorem q_g13_183 : q_gd 13 (183, 1, 264, 0, 0) := ⟨⟨q_w2012, ⟨q_w2013, ⟨q_w2014, ⟨q_w126, ⟨q_w2015, True.intro⟩⟩⟩⟩⟩, True.intro⟩
theorem q_w1053 : (Jvm.Cond.constant "java/lang/Integer" (265 : Nat) (1431655765 : Int32)) ∈ WS := q_in_tab (q_c4 (j := 225) rfl) rfl
theorem q_g14_265 : q_gd 14 (265, 8, 0, 0, 1431655765) := ⟨⟨q_w1053, True.intro⟩, True.intro⟩
theorem q_w1054 : (Jvm.Cond.constant "java/lang/Integer" (266 : Nat) (858993459 : Int32)) ∈ WS := q_in_tab (q_c4 (j := 226) rfl) rfl
theorem q_g14_266 : q_gd 14 (266, 8, 0, 0, 858993459) := ⟨⟨q_w1054, True.intro⟩, True.intro⟩
theorem q_w1055 : (Jvm.Cond.constant "java/lang/Integer" (267 : Nat) (252645135 : Int32)) ∈ WS := q_in_tab (q_c4 (j := 227) rfl) rfl
theorem q_g14_267 : q_gd 14 (267, 8, 0, 0, 252645135) := ⟨⟨q_w1055, True.intro⟩, True.intro⟩
set_option maxRecDepth 100000 in
theorem q_go0 : q_all (q_gd 0) q_pl0 := ⟨q_g0_3, ⟨q_g0_9, ⟨q_g0_15, ⟨q_g0_18, ⟨q_g0_21, ⟨q_g0_25, ⟨q_g0_29, ⟨q_g0_34, ⟨q_g0_40, ⟨q_g0_43, ⟨q_g0_47, ⟨q_g0_50, ⟨q_g0_54, ⟨q_g0_57, ⟨q_g0_60, ⟨q_g0_63, ⟨q_g0_66, ⟨q_g0_72, ⟨q_g0_75, ⟨q_g0_79, ⟨q_g0_82, True.intro⟩⟩⟩⟩⟩⟩⟩⟩⟩⟩⟩⟩⟩⟩⟩⟩⟩⟩⟩⟩⟩
set_option maxRecDepth 100000 in
theorem q_go1 : q_all (q_gd 1) q_pl1 := ⟨q_g1_3, ⟨q_g1_9, ⟨q_g1_15, ⟨q_g1_18, ⟨q_g1_21, ⟨q_g1_25, ⟨q_g1_29, ⟨q_g1_33, ⟨q_g1_39, ⟨q_g1_42, ⟨q_g1_46, ⟨q_g1_49, ⟨q_g1_53, ⟨q_g1_57, ⟨q_g1_63, ⟨q_g1_66, ⟨q_g1_70, ⟨q_g1_73, ⟨q_g1_76, ⟨q_g1_79, ⟨q_g1_82, ⟨q_g1_85, ⟨q_g1_88, ⟨q_g1_92, ⟨q_g1_97, ⟨q_g1_101, ⟨q_g1_104, ⟨q_g1_107, ⟨q_g1_111, ⟨q_g1_114, ⟨q_g1_118, ⟨q_g1_121, ⟨q_g1_124, ⟨q_g1_128, ⟨q_g1_131, ⟨q_g1_134, True.intro⟩⟩⟩⟩⟩⟩⟩⟩⟩⟩⟩⟩⟩⟩⟩⟩⟩⟩⟩⟩⟩⟩⟩⟩⟩⟩⟩⟩⟩⟩⟩⟩⟩⟩⟩⟩
set_option maxRecDepth 100000 in
theorem q_go2 : q_all (q_gd 2) q_pl2 := ⟨q_g2_3, ⟨q_g2_9, ⟨q_g2_11, ⟨q_g2_17, ⟨q_g2_20, ⟨q_g2_24, ⟨q_g2_27, ⟨q_g2_31, True.intro⟩⟩⟩⟩⟩⟩⟩⟩
set_option maxRecDepth 100000 in
theorem q_go3 : q_all (q_gd 3) q_pl3 := ⟨q_g3_1, ⟨q_g3_7, ⟨q_g3_9, ⟨q_g3_10, ⟨q_g3_16, ⟨q_g3_18, ⟨q_g3_21, ⟨q_g3_25, ⟨q_g3_27, ⟨q_g3_30, ⟨q_g3_34, ⟨q_g3_37, ⟨q_g3_40, ⟨q_g3_43, True.intro⟩⟩⟩⟩⟩⟩⟩⟩⟩⟩⟩⟩⟩⟩
set_option maxRecDepth 100000 in
theorem q_go4 : q_all (q_gd 4) q_pl4 := ⟨q_g4_3, ⟨q_g4_9, ⟨q_g4_15, ⟨q_g4_18, ⟨q_g4_21, ⟨q_g4_24, ⟨q_g4_27, ⟨q_g4_30, ⟨q_g4_33, ⟨q_g4_37, ⟨q_g4_41, ⟨q_g4_44, ⟨q_g4_47, ⟨q_g4_52, ⟨q_g4_58, ⟨q_g4_61, ⟨q_g4_64, ⟨q_g4_68, ⟨q_g4_72, ⟨q_g4_76, ⟨q_g4_79, ⟨q_g4_82, ⟨q_g4_85, ⟨q_g4_88, ⟨q_g4_89, ⟨q_g4_92, ⟨q_g4_95, ⟨q_g4_99, ⟨q_g4_102, ⟨q_g4_105, ⟨q_g4_108, ⟨q_g4_113, ⟨q_g4_116, ⟨q_g4_119, ⟨q_g4_122, ⟨q_g4_125, True.intro⟩⟩⟩⟩⟩⟩⟩⟩⟩⟩⟩⟩⟩⟩⟩⟩⟩⟩⟩⟩⟩⟩⟩⟩⟩⟩⟩⟩⟩⟩⟩⟩⟩⟩⟩⟩
set_option maxRecDepth 100000 in
theorem q_go5 : q_all (q_gd 5) q_pl5 := ⟨q_g5_3, ⟨q_g5_9, ⟨q_g5_15, ⟨q_g5_18, ⟨q_g5_21, ⟨q_g5_24, ⟨q_g5_27, ⟨q_g5_30, ⟨q_g5_33, ⟨q_g5_37, ⟨q_g5_41, ⟨q_g5_44, ⟨q_g5_48, ⟨q_g5_53, ⟨q_g5_58, ⟨q_g5_59, ⟨q_g5_65, ⟨q_g5_69, ⟨q_g5_72, ⟨q_g5_76, ⟨q_g5_80, ⟨q_g5_83, ⟨q_g5_89, ⟨q_g5_92, ⟨q_g5_95, ⟨q_g5_99, ⟨q_g5_102, ⟨q_g5_106, ⟨q_g5_109, ⟨q_g5_112, ⟨q_g5_115, ⟨q_g5_118, ⟨q_g5_121, ⟨q_g5_124, ⟨q_g5_127, ⟨q_g5_130, ⟨q_g5_131, ⟨q_g5_134, ⟨q_g5_138, ⟨q_g5_142, True.intro⟩⟩⟩⟩⟩⟩⟩⟩⟩⟩⟩⟩⟩⟩⟩⟩⟩⟩⟩⟩⟩⟩⟩⟩⟩⟩⟩⟩⟩⟩⟩⟩⟩⟩⟩⟩⟩⟩⟩⟩
set_option maxRecDepth 100000 in
theorem q_go6 : q_all (q_gd 6) q_pl6 := ⟨q_g6_3, ⟨q_g6_9, ⟨q_g6_15, ⟨q_g6_18, ⟨q_g6_21, ⟨q_g6_25, ⟨q_g6_29, ⟨q_g6_32, ⟨q_g6_36, ⟨q_g6_42, ⟨q_g6_47, ⟨q_g6_53, True.intro⟩⟩⟩⟩⟩⟩⟩⟩⟩⟩⟩⟩
set_option maxRecDepth 100000 in
theorem q_go7 : q_all (q_gd 7) q_pl7 := ⟨q_g7_3, ⟨q_g7_9, ⟨q_g7_15, ⟨q_g7_19, ⟨q_g7_24, ⟨q_g7_30, ⟨q_g7_34, ⟨q_g7_38, ⟨q_g7_41, ⟨q_g7_44, ⟨q_g7_48, ⟨q_g7_52, ⟨q_g7_55, ⟨q_g7_58, ⟨q_g7_61, ⟨q_g7_64, ⟨q_g7_67, ⟨q_g7_70, ⟨q_g7_73, ⟨q_g7_76, ⟨q_g7_79, ⟨q_g7_82, ⟨q_g7_86, ⟨q_g7_89, ⟨q_g7_93, ⟨q_g7_97, ⟨q_g7_101, ⟨q_g7_105, ⟨q_g7_108, ⟨q_g7_112, ⟨q_g7_115, ⟨q_g7_118, ⟨q_g7_122, ⟨q_g7_125, ⟨q_g7_128, ⟨q_g7_132, ⟨q_g7_135, ⟨q_g7_138, ⟨q_g7_141, ⟨q_g7_144, ⟨q_g7_147, True.intro⟩⟩⟩⟩⟩⟩⟩⟩⟩⟩⟩⟩⟩⟩⟩⟩⟩⟩⟩⟩⟩⟩⟩⟩⟩⟩⟩⟩⟩⟩⟩⟩⟩⟩⟩⟩⟩⟩⟩⟩⟩
set_option maxRecDepth 100000 in
theorem q_go8 : q_all (q_gd 8) q_pl8 := ⟨q_g8_3, ⟨q_g8_9, ⟨q_g8_15, ⟨q_g8_18, ⟨q_g8_22, ⟨q_g8_25, ⟨q_g8_28, ⟨q_g8_31, ⟨q_g8_34, ⟨q_g8_37, ⟨q_g8_41, ⟨q_g8_44, ⟨q_g8_48, ⟨q_g8_52, ⟨q_g8_55, ⟨q_g8_60, True.intro⟩⟩⟩⟩⟩⟩⟩⟩⟩⟩⟩⟩⟩⟩⟩⟩
set_option maxRecDepth 100000 in
theorem q_go9 : q_all (q_gd 9) q_pl9 := ⟨q_g9_3, ⟨q_g9_11, ⟨q_g9_15, ⟨q_g9_18, ⟨q_g9_21, ⟨q_g9_24, ⟨q_g9_28, ⟨q_g9_32, ⟨q_g9_36, ⟨q_g9_40, ⟨q_g9_43, ⟨q_g9_49, ⟨q_g9_52, ⟨q_g9_58, ⟨q_g9_62, ⟨q_g9_66, ⟨q_g9_69, ⟨q_g9_72, ⟨q_g9_75, ⟨q_g9_79, ⟨q_g9_82, ⟨q_g9_86, ⟨q_g9_89, ⟨q_g9_91, ⟨q_g9_94, ⟨q_g9_97, ⟨q_g9_100, ⟨q_g9_106, ⟨q_g9_109, ⟨q_g9_113, ⟨q_g9_116, ⟨q_g9_119, ⟨q_g9_122, ⟨q_g9_126, ⟨q_g9_130, ⟨q_g9_134, ⟨q_g9_138, ⟨q_g9_143, ⟨q_g9_146, ⟨q_g9_149, ⟨q_g9_153, ⟨q_g9_157, ⟨q_g9_160, ⟨q_g9_163, True.intro⟩⟩⟩⟩⟩⟩⟩⟩⟩⟩⟩⟩⟩⟩⟩⟩⟩⟩⟩⟩⟩⟩⟩⟩⟩⟩⟩⟩⟩⟩⟩⟩⟩⟩⟩⟩⟩⟩⟩⟩⟩⟩⟩⟩
set_option maxRecDepth 100000 in
theorem q_go10 : q_all (q_gd 10) q_pl10 := ⟨q_g10_3, ⟨q_g10_9, ⟨q_g10_15, ⟨q_g10_19, ⟨q_g10_23, ⟨q_g10_26, ⟨q_g10_29, ⟨q_g10_32, ⟨q_g10_35, ⟨q_g10_39, ⟨q_g10_42, ⟨q_g10_46, ⟨q_g10_49, ⟨q_g10_53, ⟨q_g10_56, ⟨q_g10_60, ⟨q_g10_63, ⟨q_g10_67, ⟨q_g10_70, ⟨q_g10_73, ⟨q_g10_77, ⟨q_g10_81, ⟨q_g10_84, ⟨q_g10_87, ⟨q_g10_90, ⟨q_g10_94, ⟨q_g10_97, ⟨q_g10_101, ⟨q_g10_104, True.intro⟩⟩⟩⟩⟩⟩⟩⟩⟩⟩⟩⟩⟩⟩⟩⟩⟩⟩⟩⟩⟩⟩⟩⟩⟩⟩⟩⟩⟩
set_option maxRecDepth 100000 in
theorem q_go11 : q_all (q_gd 11) q_pl11 := ⟨q_g11_1, ⟨q_g11_7, ⟨q_g11_9, ⟨q_g11_10, ⟨q_g11_12, ⟨q_g11_13, ⟨q_g11_15, ⟨q_g11_18, ⟨q_g11_21, ⟨q_g11_27, ⟨q_g11_31, ⟨q_g11_34, ⟨q_g11_38, ⟨q_g11_41, ⟨q_g11_43, ⟨q_g11_46, ⟨q_g11_50, ⟨q_g11_53, ⟨q_g11_55, ⟨q_g11_56, ⟨q_g11_60, ⟨q_g11_62, ⟨q_g11_63, ⟨q_g11_67, ⟨q_g11_69, ⟨q_g11_70, ⟨q_g11_74, ⟨q_g11_76, ⟨q_g11_79, ⟨q_g11_83, ⟨q_g11_85, ⟨q_g11_86, ⟨q_g11_90, ⟨q_g11_92, ⟨q_g11_93, ⟨q_g11_97, ⟨q_g11_99, ⟨q_g11_100, ⟨q_g11_104, ⟨q_g11_108, ⟨q_g11_112, ⟨q_g11_116, ⟨q_g11_120, ⟨q_g11_123, ⟨q_g11_126, ⟨q_g11_129, ⟨q_g11_130, ⟨q_g11_133, ⟨q_g11_136, ⟨q_g11_139, ⟨q_g11_142, ⟨q_g11_145, ⟨q_g11_148, ⟨q_g11_151, ⟨q_g11_155, ⟨q_g11_158, ⟨q_g11_161, ⟨q_g11_164, ⟨q_g11_167, ⟨q_g11_170, ⟨q_g11_171, ⟨q_g11_175, ⟨q_g11_181, ⟨q_g11_184, ⟨q_g11_187, ⟨q_g11_190, ⟨q_g11_194, ⟨q_g11_197, ⟨q_g11_200, ⟨q_g11_203, ⟨q_g11_206, ⟨q_g11_209, ⟨q_g11_213, ⟨q_g11_216, ⟨q_g11_219, ⟨q_g11_222, ⟨q_g11_225, ⟨q_g11_228, ⟨q_g11_231, ⟨q_g11_234, ⟨q_g11_237, ⟨q_g11_240, ⟨q_g11_243, ⟨q_g11_246, ⟨q_g11_249, ⟨q_g11_252, ⟨q_g11_255, ⟨q_g11_258, ⟨q_g11_261, ⟨q_g11_264, ⟨q_g11_267, ⟨q_g11_270, ⟨q_g11_273, ⟨q_g11_278, ⟨q_g11_281, ⟨q_g11_284, ⟨q_g11_288, ⟨q_g11_291, ⟨q_g11_294, ⟨q_g11_297, ⟨q_g11_300, ⟨q_g11_303, ⟨q_g11_306, ⟨q_g11_310, ⟨q_g11_313, ⟨q_g11_316, ⟨q_g11_319, ⟨q_g11_322, ⟨q_g11_325, ⟨q_g11_328, ⟨q_g11_331, ⟨q_g11_335, ⟨q_g11_338, ⟨q_g11_341, ⟨q_g11_344, ⟨q_g11_347, ⟨q_g11_350, ⟨q_g11_353, ⟨q_g11_357, ⟨q_g11_360, ⟨q_g11_372, True.intro⟩⟩⟩⟩⟩⟩⟩⟩⟩⟩⟩⟩⟩⟩⟩⟩⟩⟩⟩⟩⟩⟩⟩⟩⟩⟩⟩⟩⟩⟩⟩⟩⟩⟩⟩⟩⟩⟩⟩⟩⟩⟩⟩⟩⟩⟩⟩⟩⟩⟩⟩⟩⟩⟩⟩⟩⟩⟩⟩⟩⟩⟩⟩⟩⟩⟩⟩⟩⟩⟩⟩⟩⟩⟩⟩⟩⟩⟩⟩⟩⟩⟩⟩⟩⟩⟩⟩⟩⟩⟩⟩⟩⟩⟩⟩⟩⟩⟩⟩⟩⟩⟩⟩⟩⟩⟩⟩⟩⟩⟩⟩⟩⟩⟩⟩⟩⟩⟩⟩⟩⟩
set_option maxRecDepth 100000 in
theorem q_go12 : q_all (q_gd 12) q_pl12 := ⟨q_g12_1, ⟨q_g12_7, ⟨q_g12_10, ⟨q_g12_14, ⟨q_g12_18, ⟨q_g12_21, ⟨q_g12_24, ⟨q_g12_27, ⟨q_g12_33, ⟨q_g12_37, ⟨q_g12_40, ⟨q_g12_43, ⟨q_g12_47, ⟨q_g12_50, ⟨q_g12_53, ⟨q_g12_56, ⟨q_g12_59, ⟨q_g12_62, ⟨q_g12_65, ⟨q_g12_68, ⟨q_g12_71, ⟨q_g12_74, ⟨q_g12_77, ⟨q_g12_80, ⟨q_g12_83, ⟨q_g12_86, ⟨q_g12_89, ⟨q_g12_93, ⟨q_g12_96, ⟨q_g12_99, ⟨q_g12_102, ⟨q_g12_104, ⟨q_g12_106, ⟨q_g12_108, ⟨q_g12_110, ⟨q_g12_112, ⟨q_g12_114, ⟨q_g12_116, ⟨q_g12_118, ⟨q_g12_120, ⟨q_g12_122, ⟨q_g12_124, ⟨q_g12_126, ⟨q_g12_128, ⟨q_g12_130, ⟨q_g12_132, ⟨q_g12_134, ⟨q_g12_136, ⟨q_g12_138, ⟨q_g12_140, ⟨q_g12_142, ⟨q_g12_146, ⟨q_g12_149, ⟨q_g12_152, ⟨q_g12_155, ⟨q_g12_159, ⟨q_g12_162, ⟨q_g12_165, ⟨q_g12_169, ⟨q_g12_172, ⟨q_g12_175, ⟨q_g12_178, ⟨q_g12_181, ⟨q_g12_184, ⟨q_g12_188, ⟨q_g12_191, ⟨q_g12_195, ⟨q_g12_199, ⟨q_g12_203, ⟨q_g12_207, ⟨q_g12_210, ⟨q_g12_213, ⟨q_g12_216, ⟨q_g12_219, ⟨q_g12_222, ⟨q_g12_226, ⟨q_g12_229, ⟨q_g12_232, ⟨q_g12_235, ⟨q_g12_238, ⟨q_g12_241, ⟨q_g12_244, ⟨q_g12_248, ⟨q_g12_251, ⟨q_g12_255, ⟨q_g12_258, ⟨q_g12_261, ⟨q_g12_264, ⟨q_g12_268, ⟨q_g12_271, ⟨q_g12_274, ⟨q_g12_275, ⟨q_g12_278, ⟨q_g12_281, ⟨q_g12_284, ⟨q_g12_287, ⟨q_g12_290, ⟨q_g12_293, ⟨q_g12_296, ⟨q_g12_299, ⟨q_g12_302, ⟨q_g12_305, ⟨q_g12_308, ⟨q_g12_311, ⟨q_g12_314, ⟨q_g12_317, ⟨q_g12_320, ⟨q_g12_323, ⟨q_g12_326, ⟨q_g12_329, ⟨q_g12_332, ⟨q_g12_335, ⟨q_g12_338, ⟨q_g12_341, ⟨q_g12_344, ⟨q_g12_347, ⟨q_g12_350, ⟨q_g12_353, ⟨q_g12_356, ⟨q_g12_357, ⟨q_g12_360, ⟨q_g12_363, ⟨q_g12_366, ⟨q_g12_369, ⟨q_g12_372, ⟨q_g12_375, ⟨q_g12_378, ⟨q_g12_381, ⟨q_g12_384, ⟨q_g12_388, ⟨q_g12_391, ⟨q_g12_394, ⟨q_g12_397, ⟨q_g12_400, ⟨q_g12_403, ⟨q_g12_406, ⟨q_g12_409, ⟨q_g12_412, ⟨q_g12_416, True.intro⟩⟩⟩⟩⟩⟩⟩⟩⟩⟩⟩⟩⟩⟩⟩⟩⟩⟩⟩⟩⟩⟩⟩⟩⟩⟩⟩⟩⟩⟩⟩⟩⟩⟩⟩⟩⟩⟩⟩⟩⟩⟩⟩⟩⟩⟩⟩⟩⟩⟩⟩⟩⟩⟩⟩⟩⟩⟩⟩⟩⟩⟩⟩⟩⟩⟩⟩⟩⟩⟩⟩⟩⟩⟩⟩⟩⟩⟩⟩⟩⟩⟩⟩⟩⟩⟩⟩⟩⟩⟩⟩⟩⟩⟩⟩⟩⟩⟩⟩⟩⟩⟩⟩⟩⟩⟩⟩⟩⟩⟩⟩⟩⟩⟩⟩⟩⟩⟩⟩⟩⟩⟩⟩⟩⟩⟩⟩⟩⟩⟩⟩⟩⟩⟩⟩⟩⟩⟩⟩
set_option maxRecDepth 100000 in
theorem q_go13 : q_all (q_gd 13) q_pl13 := ⟨q_g13_7, ⟨q_g13_8, ⟨q_g13_13, ⟨q_g13_15, ⟨q_g13_19, ⟨q_g13_20, ⟨q_g13_22, ⟨q_g13_23, ⟨q_g13_27, ⟨q_g13_28, ⟨q_g13_32, ⟨q_g13_33, ⟨q_g13_37, ⟨q_g13_38, ⟨q_g13_41, ⟨q_g13_42, ⟨q_g13_45, ⟨q_g13_46, ⟨q_g13_49, ⟨q_g13_50, ⟨q_g13_55, ⟨q_g13_56, ⟨q_g13_59, ⟨q_g13_62, ⟨q_g13_63, ⟨q_g13_66, ⟨q_g13_67, ⟨q_g13_70, ⟨q_g13_71, ⟨q_g13_74, ⟨q_g13_75, ⟨q_g13_78, ⟨q_g13_79, ⟨q_g13_82, ⟨q_g13_83, ⟨q_g13_86, ⟨q_g13_87, ⟨q_g13_90, ⟨q_g13_91, ⟨q_g13_94, ⟨q_g13_95, ⟨q_g13_98, ⟨q_g13_99, ⟨q_g13_102, ⟨q_g13_103, ⟨q_g13_106, ⟨q_g13_107, ⟨q_g13_110, ⟨q_g13_111, ⟨q_g13_114, ⟨q_g13_115, ⟨q_g13_118, ⟨q_g13_119, ⟨q_g13_122, ⟨q_g13_123, ⟨q_g13_126, ⟨q_g13_127, ⟨q_g13_131, ⟨q_g13_132, ⟨q_g13_135, ⟨q_g13_136, ⟨q_g13_139, ⟨q_g13_140, ⟨q_g13_143, ⟨q_g13_144, ⟨q_g13_147, ⟨q_g13_148, ⟨q_g13_151, ⟨q_g13_152, ⟨q_g13_155, ⟨q_g13_156, ⟨q_g13_159, ⟨q_g13_160, ⟨q_g13_163, ⟨q_g13_164, ⟨q_g13_167, ⟨q_g13_168, ⟨q_g13_171, ⟨q_g13_172, ⟨q_g13_175, ⟨q_g13_176, ⟨q_g13_179, ⟨q_g13_180, ⟨q_g13_183, True.intro⟩⟩⟩⟩⟩⟩⟩⟩⟩⟩⟩⟩⟩⟩⟩⟩⟩⟩⟩⟩⟩⟩⟩⟩⟩⟩⟩⟩⟩⟩⟩⟩⟩⟩⟩⟩⟩⟩⟩⟩⟩⟩⟩⟩⟩⟩⟩⟩⟩⟩⟩⟩⟩⟩⟩⟩⟩⟩⟩⟩⟩⟩⟩⟩⟩⟩⟩⟩⟩⟩⟩⟩⟩⟩⟩⟩⟩⟩⟩⟩⟩⟩⟩⟩
set_option maxRecDepth 100000 in
theorem q_go14 : q_all (q_gd 14) q_pl14 := ⟨q_g14_265, ⟨q_g14_266, ⟨q_g14_267, True.intro⟩⟩⟩
theorem q_lk_mem {i : Nat} {l : List (Nat × Nat × Nat × Nat × Int)} {q : Nat × Nat × Nat × Int} (h : q_lk i l = some q) : (i, q) ∈ l := by
  induction l with
  | nil => cases h
  | cons a l ih =>
    unfold q_lk at h
    split at h
    · rename_i e
      cases h
      rw [← e]
      exact List.mem_cons_self
    · exact List.mem_cons_of_mem _ (ih h)
theorem q_words {o i : Nat} {q : Nat × Nat × Nat × Int} (h : pl o i = some q) : (∀ w ∈ q_pw o i q, w ∈ WS) ∧ ∀ w ∈ q_pn o i q, w ∈ q_NW := by
  unfold pl at h
  have h1 := q_lk_mem h
  have key : q_gd o (i, q) := by
    match o, h1 with
    | 0, h1 => exact q_all_of q_go0 _ h1
    | 1, h1 => exact q_all_of q_go1 _ h1
    | 2, h1 => exact q_all_of q_go2 _ h1
    | 3, h1 => exact q_all_of q_go3 _ h1
    | 4, h1 => exact q_all_of q_go4 _ h1
    | 5, h1 => exact q_all_of q_go5 _ h1
    | 6, h1 => exact q_all_of q_go6 _ h1
    | 7, h1 => exact q_all_of q_go7 _ h1
    | 8, h1 => exact q_all_of q_go8 _ h1
    | 9, h1 => exact q_all_of q_go9 _ h1
    | 10, h1 => exact q_all_of q_go10 _ h1
    | 11, h1 => exact q_all_of q_go11 _ h1
    | 12, h1 => exact q_all_of q_go12 _ h1
    | 13, h1 => exact q_all_of q_go13 _ h1
    | 14, h1 => exact q_all_of q_go14 _ h1
    | n + 15, h1 => simp [q_pll] at h1
  exact ⟨q_all_of key.1, q_all_of key.2⟩
/-- what is known of a class: its words, its fields' types and names -/
def q_Cl (ci : Nat) (r : vw_C) (ty : Nat → FieldType) : Prop :=
  (∀ w ∈ u_ws r.1 r.2.1 r.2.2, w ∈ WS) ∧ (∀ k, k < r.2.2 → parseFieldDescriptor (r.2.1 k).2.2.1 = some (ty k)) ∧ (∀ a, a < r.2.2 → ∀ b, b < r.2.2 → a ≠ b → (r.2.1 a).2.1 ≠ (r.2.1 b).2.1) ∧ q_N ci = r.2.2 ∧ oN ci = r.1 ∧
  (∀ k, k < r.2.2 → (r.2.1 k).1 = r.1 ∧ (r.2.1 k).2.2.2 = q_fin ci k ∧ ((q_ft ci k = 0 ∧ ty k = .int) ∨ (q_ft ci k = 1 ∧ ty k = .boolean) ∨ (q_ft ci k = 2 ∧ ty k = .long) ∨ (q_ft ci k = 3 ∧ ((∃ n, ty k = .object n) ∨ ∃ t, ty k = .array t))))
theorem q_ex_o {t : FieldType} (h : (match t with | .object _ => true | .array _ => true | _ => false) = true) : (∃ n, t = .object n) ∨ ∃ u, t = .array u := by
  cases t <;> first | exact Or.inl ⟨_, rfl⟩ | exact Or.inr ⟨_, rfl⟩ | cases h
def q_tyb (ci k : Nat) (t : FieldType) : Bool := match t with
  | .int => q_ft ci k == 0 | .boolean => q_ft ci k == 1 | .long => q_ft ci k == 2 | .object _ => q_ft ci k == 3 | .array _ => q_ft ci k == 3 | _ => false
theorem q_tyb_of {ci k : Nat} {t : FieldType} (h : q_tyb ci k t = true) : (q_ft ci k = 0 ∧ t = .int) ∨ (q_ft ci k = 1 ∧ t = .boolean) ∨ (q_ft ci k = 2 ∧ t = .long) ∨ (q_ft ci k = 3 ∧ ((∃ n, t = .object n) ∨ ∃ u, t = .array u)) := by
  cases t <;> simp_all [q_tyb]
theorem q_w583 : (Jvm.Cond.laysFinal "SoulOffice$AppealSearch" "SoulOffice$AppealSearch" "rules" "LSoulOffice$Rules;") ∈ WS := q_in_tab (q_c2 (j := 235) rfl) rfl
theorem q_w585 : (Jvm.Cond.laysFinal "SoulOffice$AppealSearch" "SoulOffice$AppealSearch" "life" "LSoulOffice$Life;") ∈ WS := q_in_tab (q_c2 (j := 237) rfl) rfl
theorem q_w587 : (Jvm.Cond.laysFinal "SoulOffice$AppealSearch" "SoulOffice$AppealSearch" "room" "[I") ∈ WS := q_in_tab (q_c2 (j := 239) rfl) rfl
theorem q_w589 : (Jvm.Cond.laysFinal "SoulOffice$AppealSearch" "SoulOffice$AppealSearch" "steps" "[I") ∈ WS := q_in_tab (q_c3 (j := 1) rfl) rfl
theorem q_w591 : (Jvm.Cond.laysFinal "SoulOffice$AppealSearch" "SoulOffice$AppealSearch" "chosen" "[I") ∈ WS := q_in_tab (q_c3 (j := 3) rfl) rfl
theorem q_w593 : (Jvm.Cond.lays "SoulOffice$AppealSearch" "SoulOffice$AppealSearch" "asker" "I") ∈ WS := q_in_tab (q_c3 (j := 5) rfl) rfl
theorem q_w595 : (Jvm.Cond.lays "SoulOffice$AppealSearch" "SoulOffice$AppealSearch" "asked" "I") ∈ WS := q_in_tab (q_c3 (j := 7) rfl) rfl
theorem q_cl0 : q_Cl 0 (RX0, TX0, 7) tyX0 := by
  refine ⟨q_all_of (show q_all (fun w => w ∈ WS) (u_ws RX0 TX0 7) from ⟨q_w583, ⟨q_w585, ⟨q_w587, ⟨q_w589, ⟨q_w591, ⟨q_w593, ⟨q_w595, True.intro⟩⟩⟩⟩⟩⟩⟩), tyX0_ok, nmX0, rfl, rfl, fun k hk => ?_⟩
  have h : ∀ k, k < 7 → (TX0 k).1 = RX0 ∧ (TX0 k).2.2.2 = q_fin 0 k ∧ q_tyb 0 k (tyX0 k) = true := by decide +kernel
  exact ⟨(h k hk).1, (h k hk).2.1, q_tyb_of (h k hk).2.2⟩
theorem q_w503 : (Jvm.Cond.laysFinal "SoulOffice$Book" "SoulOffice$Book" "tape" "LSoulOffice$Tape;") ∈ WS := q_in_tab (q_c2 (j := 155) rfl) rfl
theorem q_w505 : (Jvm.Cond.laysFinal "SoulOffice$Book" "SoulOffice$Book" "rules" "LSoulOffice$Rules;") ∈ WS := q_in_tab (q_c2 (j := 157) rfl) rfl
theorem q_w507 : (Jvm.Cond.lays "SoulOffice$Book" "SoulOffice$Book" "lines" "I") ∈ WS := q_in_tab (q_c2 (j := 159) rfl) rfl
theorem q_w509 : (Jvm.Cond.laysFinal "SoulOffice$Book" "SoulOffice$Book" "act" "[I") ∈ WS := q_in_tab (q_c2 (j := 161) rfl) rfl
theorem q_w511 : (Jvm.Cond.laysFinal "SoulOffice$Book" "SoulOffice$Book" "who" "[I") ∈ WS := q_in_tab (q_c2 (j := 163) rfl) rfl
theorem q_w513 : (Jvm.Cond.laysFinal "SoulOffice$Book" "SoulOffice$Book" "what" "[I") ∈ WS := q_in_tab (q_c2 (j := 165) rfl) rfl
theorem q_w515 : (Jvm.Cond.lays "SoulOffice$Book" "SoulOffice$Book" "told" "Z") ∈ WS := q_in_tab (q_c2 (j := 167) rfl) rfl
theorem q_w517 : (Jvm.Cond.lays "SoulOffice$Book" "SoulOffice$Book" "wrong" "I") ∈ WS := q_in_tab (q_c2 (j := 169) rfl) rfl
theorem q_w519 : (Jvm.Cond.lays "SoulOffice$Book" "SoulOffice$Book" "ahead" "I") ∈ WS := q_in_tab (q_c2 (j := 171) rfl) rfl
theorem q_w521 : (Jvm.Cond.lays "SoulOffice$Book" "SoulOffice$Book" "settledInIt" "I") ∈ WS := q_in_tab (q_c2 (j := 173) rfl) rfl
theorem q_w523 : (Jvm.Cond.lays "SoulOffice$Book" "SoulOffice$Book" "debtsThen" "I") ∈ WS := q_in_tab (q_c2 (j := 175) rfl) rfl
theorem q_cl1 : q_Cl 1 (RX1, TX1, 11) tyX1 := by
  refine ⟨q_all_of (show q_all (fun w => w ∈ WS) (u_ws RX1 TX1 11) from ⟨q_w503, ⟨q_w505, ⟨q_w507, ⟨q_w509, ⟨q_w511, ⟨q_w513, ⟨q_w515, ⟨q_w517, ⟨q_w519, ⟨q_w521, ⟨q_w523, True.intro⟩⟩⟩⟩⟩⟩⟩⟩⟩⟩⟩), tyX1_ok, nmX1, rfl, rfl, fun k hk => ?_⟩
  have h : ∀ k, k < 11 → (TX1 k).1 = RX1 ∧ (TX1 k).2.2.2 = q_fin 1 k ∧ q_tyb 1 k (tyX1 k) = true := by decide +kernel
  exact ⟨(h k hk).1, (h k hk).2.1, q_tyb_of (h k hk).2.2⟩
theorem q_w461 : (Jvm.Cond.laysFinal "SoulOffice$History" "SoulOffice$History" "kept" "[LSoulOffice$Life;") ∈ WS := q_in_tab (q_c2 (j := 113) rfl) rfl
theorem q_w463 : (Jvm.Cond.lays "SoulOffice$History" "SoulOffice$History" "size" "I") ∈ WS := q_in_tab (q_c2 (j := 115) rfl) rfl
theorem q_w465 : (Jvm.Cond.lays "SoulOffice$History" "SoulOffice$History" "next" "I") ∈ WS := q_in_tab (q_c2 (j := 117) rfl) rfl
theorem q_cl2 : q_Cl 2 (RX2, TX2, 3) tyX2 := by
  refine ⟨q_all_of (show q_all (fun w => w ∈ WS) (u_ws RX2 TX2 3) from ⟨q_w461, ⟨q_w463, ⟨q_w465, True.intro⟩⟩⟩), tyX2_ok, nmX2, rfl, rfl, fun k hk => ?_⟩
  have h : ∀ k, k < 3 → (TX2 k).1 = RX2 ∧ (TX2 k).2.2.2 = q_fin 2 k ∧ q_tyb 2 k (tyX2 k) = true := by decide +kernel
  exact ⟨(h k hk).1, (h k hk).2.1, q_tyb_of (h k hk).2.2⟩
theorem q_w642 : (Jvm.Cond.laysFinal "SoulOffice$Image" "SoulOffice$Image" "rules" "LSoulOffice$Rules;") ∈ WS := q_in_tab (q_c3 (j := 54) rfl) rfl
theorem q_w644 : (Jvm.Cond.laysFinal "SoulOffice$Image" "SoulOffice$Image" "life" "LSoulOffice$Life;") ∈ WS := q_in_tab (q_c3 (j := 56) rfl) rfl
theorem q_w646 : (Jvm.Cond.laysFinal "SoulOffice$Image" "SoulOffice$Image" "saying" "LSoulOffice$Sentence;") ∈ WS := q_in_tab (q_c3 (j := 58) rfl) rfl
theorem q_w648 : (Jvm.Cond.lays "SoulOffice$Image" "SoulOffice$Image" "kept" "Z") ∈ WS := q_in_tab (q_c3 (j := 60) rfl) rfl
theorem q_cl3 : q_Cl 3 (RX3, TX3, 4) tyX3 := by
  refine ⟨q_all_of (show q_all (fun w => w ∈ WS) (u_ws RX3 TX3 4) from ⟨q_w642, ⟨q_w644, ⟨q_w646, ⟨q_w648, True.intro⟩⟩⟩⟩), tyX3_ok, nmX3, rfl, rfl, fun k hk => ?_⟩
  have h : ∀ k, k < 4 → (TX3 k).1 = RX3 ∧ (TX3 k).2.2.2 = q_fin 3 k ∧ q_tyb 3 k (tyX3 k) = true := by decide +kernel
  exact ⟨(h k hk).1, (h k hk).2.1, q_tyb_of (h k hk).2.2⟩
theorem q_w383 : (Jvm.Cond.laysFinal "SoulOffice$Life" "SoulOffice$Life" "rules" "LSoulOffice$Rules;") ∈ WS := q_in_tab (q_c2 (j := 35) rfl) rfl
theorem q_w385 : (Jvm.Cond.lays "SoulOffice$Life" "SoulOffice$Life" "day" "I") ∈ WS := q_in_tab (q_c2 (j := 37) rfl) rfl
theorem q_w387 : (Jvm.Cond.lays "SoulOffice$Life" "SoulOffice$Life" "settledSum" "I") ∈ WS := q_in_tab (q_c2 (j := 39) rfl) rfl
theorem q_w389 : (Jvm.Cond.lays "SoulOffice$Life" "SoulOffice$Life" "grownSum" "I") ∈ WS := q_in_tab (q_c2 (j := 41) rfl) rfl
theorem q_w391 : (Jvm.Cond.laysFinal "SoulOffice$Life" "SoulOffice$Life" "as" "[I") ∈ WS := q_in_tab (q_c2 (j := 43) rfl) rfl
theorem q_w393 : (Jvm.Cond.laysFinal "SoulOffice$Life" "SoulOffice$Life" "left" "[I") ∈ WS := q_in_tab (q_c2 (j := 45) rfl) rfl
theorem q_w395 : (Jvm.Cond.laysFinal "SoulOffice$Life" "SoulOffice$Life" "births" "[I") ∈ WS := q_in_tab (q_c2 (j := 47) rfl) rfl
theorem q_w397 : (Jvm.Cond.laysFinal "SoulOffice$Life" "SoulOffice$Life" "today" "[I") ∈ WS := q_in_tab (q_c2 (j := 49) rfl) rfl
theorem q_w399 : (Jvm.Cond.laysFinal "SoulOffice$Life" "SoulOffice$Life" "free" "[I") ∈ WS := q_in_tab (q_c2 (j := 51) rfl) rfl
theorem q_w401 : (Jvm.Cond.laysFinal "SoulOffice$Life" "SoulOffice$Life" "owed" "[I") ∈ WS := q_in_tab (q_c2 (j := 53) rfl) rfl
theorem q_w403 : (Jvm.Cond.laysFinal "SoulOffice$Life" "SoulOffice$Life" "settledLast" "[I") ∈ WS := q_in_tab (q_c2 (j := 55) rfl) rfl
theorem q_cl4 : q_Cl 4 (RX4, TX4, 11) tyX4 := by
  refine ⟨q_all_of (show q_all (fun w => w ∈ WS) (u_ws RX4 TX4 11) from ⟨q_w383, ⟨q_w385, ⟨q_w387, ⟨q_w389, ⟨q_w391, ⟨q_w393, ⟨q_w395, ⟨q_w397, ⟨q_w399, ⟨q_w401, ⟨q_w403, True.intro⟩⟩⟩⟩⟩⟩⟩⟩⟩⟩⟩), tyX4_ok, nmX4, rfl, rfl, fun k hk => ?_⟩
  have h : ∀ k, k < 11 → (TX4 k).1 = RX4 ∧ (TX4 k).2.2.2 = q_fin 4 k ∧ q_tyb 4 k (tyX4 k) = true := by decide +kernel
  exact ⟨(h k hk).1, (h k hk).2.1, q_tyb_of (h k hk).2.2⟩
theorem q_w547 : (Jvm.Cond.laysFinal "SoulOffice$MostSearch" "SoulOffice$MostSearch" "rules" "LSoulOffice$Rules;") ∈ WS := q_in_tab (q_c2 (j := 199) rfl) rfl
theorem q_w549 : (Jvm.Cond.laysFinal "SoulOffice$MostSearch" "SoulOffice$MostSearch" "life" "LSoulOffice$Life;") ∈ WS := q_in_tab (q_c2 (j := 201) rfl) rfl
theorem q_w551 : (Jvm.Cond.laysFinal "SoulOffice$MostSearch" "SoulOffice$MostSearch" "who" "[I") ∈ WS := q_in_tab (q_c2 (j := 203) rfl) rfl
theorem q_w553 : (Jvm.Cond.lays "SoulOffice$MostSearch" "SoulOffice$MostSearch" "waiting" "I") ∈ WS := q_in_tab (q_c2 (j := 205) rfl) rfl
theorem q_w555 : (Jvm.Cond.laysFinal "SoulOffice$MostSearch" "SoulOffice$MostSearch" "alone" "[I") ∈ WS := q_in_tab (q_c2 (j := 207) rfl) rfl
theorem q_w557 : (Jvm.Cond.laysFinal "SoulOffice$MostSearch" "SoulOffice$MostSearch" "together" "[I") ∈ WS := q_in_tab (q_c2 (j := 209) rfl) rfl
theorem q_w559 : (Jvm.Cond.laysFinal "SoulOffice$MostSearch" "SoulOffice$MostSearch" "bound" "[I") ∈ WS := q_in_tab (q_c2 (j := 211) rfl) rfl
theorem q_w561 : (Jvm.Cond.laysFinal "SoulOffice$MostSearch" "SoulOffice$MostSearch" "free" "[I") ∈ WS := q_in_tab (q_c2 (j := 213) rfl) rfl
theorem q_w563 : (Jvm.Cond.laysFinal "SoulOffice$MostSearch" "SoulOffice$MostSearch" "chosen" "[I") ∈ WS := q_in_tab (q_c2 (j := 215) rfl) rfl
theorem q_w565 : (Jvm.Cond.lays "SoulOffice$MostSearch" "SoulOffice$MostSearch" "best" "I") ∈ WS := q_in_tab (q_c2 (j := 217) rfl) rfl
theorem q_w567 : (Jvm.Cond.laysFinal "SoulOffice$MostSearch" "SoulOffice$MostSearch" "given" "[I") ∈ WS := q_in_tab (q_c2 (j := 219) rfl) rfl
theorem q_cl5 : q_Cl 5 (RX5, TX5, 11) tyX5 := by
  refine ⟨q_all_of (show q_all (fun w => w ∈ WS) (u_ws RX5 TX5 11) from ⟨q_w547, ⟨q_w549, ⟨q_w551, ⟨q_w553, ⟨q_w555, ⟨q_w557, ⟨q_w559, ⟨q_w561, ⟨q_w563, ⟨q_w565, ⟨q_w567, True.intro⟩⟩⟩⟩⟩⟩⟩⟩⟩⟩⟩), tyX5_ok, nmX5, rfl, rfl, fun k hk => ?_⟩
  have h : ∀ k, k < 11 → (TX5 k).1 = RX5 ∧ (TX5 k).2.2.2 = q_fin 5 k ∧ q_tyb 5 k (tyX5 k) = true := by decide +kernel
  exact ⟨(h k hk).1, (h k hk).2.1, q_tyb_of (h k hk).2.2⟩
theorem q_w611 : (Jvm.Cond.laysFinal "SoulOffice$Nets" "SoulOffice$Nets" "rules" "LSoulOffice$Rules;") ∈ WS := q_in_tab (q_c3 (j := 23) rfl) rfl
theorem q_w613 : (Jvm.Cond.laysFinal "SoulOffice$Nets" "SoulOffice$Nets" "life" "LSoulOffice$Life;") ∈ WS := q_in_tab (q_c3 (j := 25) rfl) rfl
theorem q_w615 : (Jvm.Cond.laysFinal "SoulOffice$Nets" "SoulOffice$Nets" "nonzero" "[I") ∈ WS := q_in_tab (q_c3 (j := 27) rfl) rfl
theorem q_w617 : (Jvm.Cond.laysFinal "SoulOffice$Nets" "SoulOffice$Nets" "sum" "[I") ∈ WS := q_in_tab (q_c3 (j := 29) rfl) rfl
theorem q_w619 : (Jvm.Cond.laysFinal "SoulOffice$Nets" "SoulOffice$Nets" "parts" "[I") ∈ WS := q_in_tab (q_c3 (j := 31) rfl) rfl
theorem q_w621 : (Jvm.Cond.lays "SoulOffice$Nets" "SoulOffice$Nets" "size" "I") ∈ WS := q_in_tab (q_c3 (j := 33) rfl) rfl
theorem q_cl6 : q_Cl 6 (RX6, TX6, 6) tyX6 := by
  refine ⟨q_all_of (show q_all (fun w => w ∈ WS) (u_ws RX6 TX6 6) from ⟨q_w611, ⟨q_w613, ⟨q_w615, ⟨q_w617, ⟨q_w619, ⟨q_w621, True.intro⟩⟩⟩⟩⟩⟩), tyX6_ok, nmX6, rfl, rfl, fun k hk => ?_⟩
  have h : ∀ k, k < 6 → (TX6 k).1 = RX6 ∧ (TX6 k).2.2.2 = q_fin 6 k ∧ q_tyb 6 k (tyX6 k) = true := by decide +kernel
  exact ⟨(h k hk).1, (h k hk).2.1, q_tyb_of (h k hk).2.2⟩
theorem q_w476 : (Jvm.Cond.laysFinal "SoulOffice$OfficeText" "SoulOffice$OfficeText" "tape" "LSoulOffice$Tape;") ∈ WS := q_in_tab (q_c2 (j := 128) rfl) rfl
theorem q_w478 : (Jvm.Cond.laysFinal "SoulOffice$OfficeText" "SoulOffice$OfficeText" "draft" "LSoulOffice$Rules;") ∈ WS := q_in_tab (q_c2 (j := 130) rfl) rfl
theorem q_cl7 : q_Cl 7 (RX7, TX7, 2) tyX7 := by
  refine ⟨q_all_of (show q_all (fun w => w ∈ WS) (u_ws RX7 TX7 2) from ⟨q_w476, ⟨q_w478, True.intro⟩⟩), tyX7_ok, nmX7, rfl, rfl, fun k hk => ?_⟩
  have h : ∀ k, k < 2 → (TX7 k).1 = RX7 ∧ (TX7 k).2.2.2 = q_fin 7 k ∧ q_tyb 7 k (tyX7 k) = true := by decide +kernel
  exact ⟨(h k hk).1, (h k hk).2.1, q_tyb_of (h k hk).2.2⟩
theorem q_w321 : (Jvm.Cond.lays "SoulOffice$Rules" "SoulOffice$Rules" "kinds" "I") ∈ WS := q_in_tab (q_c1 (j := 213) rfl) rfl
theorem q_w323 : (Jvm.Cond.lays "SoulOffice$Rules" "SoulOffice$Rules" "souls" "I") ∈ WS := q_in_tab (q_c1 (j := 215) rfl) rfl
theorem q_w325 : (Jvm.Cond.lays "SoulOffice$Rules" "SoulOffice$Rules" "grows" "I") ∈ WS := q_in_tab (q_c1 (j := 217) rfl) rfl
theorem q_w327 : (Jvm.Cond.laysFinal "SoulOffice$Rules" "SoulOffice$Rules" "kindNames" "[J") ∈ WS := q_in_tab (q_c1 (j := 219) rfl) rfl
theorem q_w329 : (Jvm.Cond.laysFinal "SoulOffice$Rules" "SoulOffice$Rules" "soulNames" "[J") ∈ WS := q_in_tab (q_c1 (j := 221) rfl) rfl
theorem q_w331 : (Jvm.Cond.laysFinal "SoulOffice$Rules" "SoulOffice$Rules" "lifeDays" "[I") ∈ WS := q_in_tab (q_c1 (j := 223) rfl) rfl
theorem q_w333 : (Jvm.Cond.laysFinal "SoulOffice$Rules" "SoulOffice$Rules" "places" "[I") ∈ WS := q_in_tab (q_c1 (j := 225) rfl) rfl
theorem q_w335 : (Jvm.Cond.laysFinal "SoulOffice$Rules" "SoulOffice$Rules" "meeting" "[I") ∈ WS := q_in_tab (q_c1 (j := 227) rfl) rfl
theorem q_w337 : (Jvm.Cond.laysFinal "SoulOffice$Rules" "SoulOffice$Rules" "may" "[I") ∈ WS := q_in_tab (q_c1 (j := 229) rfl) rfl
theorem q_w339 : (Jvm.Cond.laysFinal "SoulOffice$Rules" "SoulOffice$Rules" "wish" "[I") ∈ WS := q_in_tab (q_c1 (j := 231) rfl) rfl
theorem q_w341 : (Jvm.Cond.laysFinal "SoulOffice$Rules" "SoulOffice$Rules" "owedFirst" "[I") ∈ WS := q_in_tab (q_c1 (j := 233) rfl) rfl
theorem q_cl8 : q_Cl 8 (RX8, TX8, 11) tyX8 := by
  refine ⟨q_all_of (show q_all (fun w => w ∈ WS) (u_ws RX8 TX8 11) from ⟨q_w321, ⟨q_w323, ⟨q_w325, ⟨q_w327, ⟨q_w329, ⟨q_w331, ⟨q_w333, ⟨q_w335, ⟨q_w337, ⟨q_w339, ⟨q_w341, True.intro⟩⟩⟩⟩⟩⟩⟩⟩⟩⟩⟩), tyX8_ok, nmX8, rfl, rfl, fun k hk => ?_⟩
  have h : ∀ k, k < 11 → (TX8 k).1 = RX8 ∧ (TX8 k).2.2.2 = q_fin 8 k ∧ q_tyb 8 k (tyX8 k) = true := by decide +kernel
  exact ⟨(h k hk).1, (h k hk).2.1, q_tyb_of (h k hk).2.2⟩
theorem q_w430 : (Jvm.Cond.laysFinal "SoulOffice$Sentence" "SoulOffice$Sentence" "tape" "LSoulOffice$Tape;") ∈ WS := q_in_tab (q_c2 (j := 82) rfl) rfl
theorem q_w432 : (Jvm.Cond.laysFinal "SoulOffice$Sentence" "SoulOffice$Sentence" "rules" "LSoulOffice$Rules;") ∈ WS := q_in_tab (q_c2 (j := 84) rfl) rfl
theorem q_w434 : (Jvm.Cond.laysFinal "SoulOffice$Sentence" "SoulOffice$Sentence" "step" "[I") ∈ WS := q_in_tab (q_c2 (j := 86) rfl) rfl
theorem q_w436 : (Jvm.Cond.laysFinal "SoulOffice$Sentence" "SoulOffice$Sentence" "sign" "[I") ∈ WS := q_in_tab (q_c2 (j := 88) rfl) rfl
theorem q_w438 : (Jvm.Cond.laysFinal "SoulOffice$Sentence" "SoulOffice$Sentence" "number" "[I") ∈ WS := q_in_tab (q_c2 (j := 90) rfl) rfl
theorem q_w440 : (Jvm.Cond.laysFinal "SoulOffice$Sentence" "SoulOffice$Sentence" "stack" "[I") ∈ WS := q_in_tab (q_c2 (j := 92) rfl) rfl
theorem q_w442 : (Jvm.Cond.lays "SoulOffice$Sentence" "SoulOffice$Sentence" "steps" "I") ∈ WS := q_in_tab (q_c2 (j := 94) rfl) rfl
theorem q_w444 : (Jvm.Cond.lays "SoulOffice$Sentence" "SoulOffice$Sentence" "told" "Z") ∈ WS := q_in_tab (q_c2 (j := 96) rfl) rfl
theorem q_w446 : (Jvm.Cond.lays "SoulOffice$Sentence" "SoulOffice$Sentence" "ones" "I") ∈ WS := q_in_tab (q_c2 (j := 98) rfl) rfl
theorem q_cl9 : q_Cl 9 (RX9, TX9, 9) tyX9 := by
  refine ⟨q_all_of (show q_all (fun w => w ∈ WS) (u_ws RX9 TX9 9) from ⟨q_w430, ⟨q_w432, ⟨q_w434, ⟨q_w436, ⟨q_w438, ⟨q_w440, ⟨q_w442, ⟨q_w444, ⟨q_w446, True.intro⟩⟩⟩⟩⟩⟩⟩⟩⟩), tyX9_ok, nmX9, rfl, rfl, fun k hk => ?_⟩
  have h : ∀ k, k < 9 → (TX9 k).1 = RX9 ∧ (TX9 k).2.2.2 = q_fin 9 k ∧ q_tyb 9 k (tyX9 k) = true := by decide +kernel
  exact ⟨(h k hk).1, (h k hk).2.1, q_tyb_of (h k hk).2.2⟩
theorem q_w228 : (Jvm.Cond.laysFinal "SoulOffice$Tape" "SoulOffice$Tape" "bytes" "[I") ∈ WS := q_in_tab (q_c1 (j := 120) rfl) rfl
theorem q_w230 : (Jvm.Cond.lays "SoulOffice$Tape" "SoulOffice$Tape" "length" "I") ∈ WS := q_in_tab (q_c1 (j := 122) rfl) rfl
theorem q_w232 : (Jvm.Cond.laysFinal "SoulOffice$Tape" "SoulOffice$Tape" "keys" "[J") ∈ WS := q_in_tab (q_c1 (j := 124) rfl) rfl
theorem q_w234 : (Jvm.Cond.laysFinal "SoulOffice$Tape" "SoulOffice$Tape" "sorts" "[I") ∈ WS := q_in_tab (q_c1 (j := 126) rfl) rfl
theorem q_w236 : (Jvm.Cond.laysFinal "SoulOffice$Tape" "SoulOffice$Tape" "places" "[I") ∈ WS := q_in_tab (q_c1 (j := 128) rfl) rfl
theorem q_w238 : (Jvm.Cond.laysFinal "SoulOffice$Tape" "SoulOffice$Tape" "numbers" "[I") ∈ WS := q_in_tab (q_c1 (j := 130) rfl) rfl
theorem q_w240 : (Jvm.Cond.laysFinal "SoulOffice$Tape" "SoulOffice$Tape" "words" "[J") ∈ WS := q_in_tab (q_c1 (j := 132) rfl) rfl
theorem q_w242 : (Jvm.Cond.lays "SoulOffice$Tape" "SoulOffice$Tape" "tokens" "I") ∈ WS := q_in_tab (q_c1 (j := 134) rfl) rfl
theorem q_w244 : (Jvm.Cond.lays "SoulOffice$Tape" "SoulOffice$Tape" "next" "I") ∈ WS := q_in_tab (q_c1 (j := 136) rfl) rfl
theorem q_w246 : (Jvm.Cond.lays "SoulOffice$Tape" "SoulOffice$Tape" "tooLong" "Z") ∈ WS := q_in_tab (q_c1 (j := 138) rfl) rfl
theorem q_w248 : (Jvm.Cond.lays "SoulOffice$Tape" "SoulOffice$Tape" "sort" "I") ∈ WS := q_in_tab (q_c1 (j := 140) rfl) rfl
theorem q_w250 : (Jvm.Cond.lays "SoulOffice$Tape" "SoulOffice$Tape" "place" "I") ∈ WS := q_in_tab (q_c1 (j := 142) rfl) rfl
theorem q_w252 : (Jvm.Cond.lays "SoulOffice$Tape" "SoulOffice$Tape" "number" "I") ∈ WS := q_in_tab (q_c1 (j := 144) rfl) rfl
theorem q_w254 : (Jvm.Cond.lays "SoulOffice$Tape" "SoulOffice$Tape" "word" "J") ∈ WS := q_in_tab (q_c1 (j := 146) rfl) rfl
theorem q_w256 : (Jvm.Cond.lays "SoulOffice$Tape" "SoulOffice$Tape" "faultKind" "I") ∈ WS := q_in_tab (q_c1 (j := 148) rfl) rfl
theorem q_cl10 : q_Cl 10 (RX10, TX10, 15) tyX10 := by
  refine ⟨q_all_of (show q_all (fun w => w ∈ WS) (u_ws RX10 TX10 15) from ⟨q_w228, ⟨q_w230, ⟨q_w232, ⟨q_w234, ⟨q_w236, ⟨q_w238, ⟨q_w240, ⟨q_w242, ⟨q_w244, ⟨q_w246, ⟨q_w248, ⟨q_w250, ⟨q_w252, ⟨q_w254, ⟨q_w256, True.intro⟩⟩⟩⟩⟩⟩⟩⟩⟩⟩⟩⟩⟩⟩⟩), tyX10_ok, nmX10, rfl, rfl, fun k hk => ?_⟩
  have h : ∀ k, k < 15 → (TX10 k).1 = RX10 ∧ (TX10 k).2.2.2 = q_fin 10 k ∧ q_tyb 10 k (tyX10 k) = true := by decide +kernel
  exact ⟨(h k hk).1, (h k hk).2.1, q_tyb_of (h k hk).2.2⟩
theorem q_w666 : (Jvm.Cond.laysFinal "SoulOffice" "SoulOffice" "tape" "LSoulOffice$Tape;") ∈ WS := q_in_tab (q_c3 (j := 78) rfl) rfl
theorem q_w668 : (Jvm.Cond.laysFinal "SoulOffice" "SoulOffice" "rules" "LSoulOffice$Rules;") ∈ WS := q_in_tab (q_c3 (j := 80) rfl) rfl
theorem q_w670 : (Jvm.Cond.laysFinal "SoulOffice" "SoulOffice" "draft" "LSoulOffice$Rules;") ∈ WS := q_in_tab (q_c3 (j := 82) rfl) rfl
theorem q_w672 : (Jvm.Cond.laysFinal "SoulOffice" "SoulOffice" "life" "LSoulOffice$Life;") ∈ WS := q_in_tab (q_c3 (j := 84) rfl) rfl
theorem q_w674 : (Jvm.Cond.laysFinal "SoulOffice" "SoulOffice" "trial" "LSoulOffice$Life;") ∈ WS := q_in_tab (q_c3 (j := 86) rfl) rfl
theorem q_w676 : (Jvm.Cond.laysFinal "SoulOffice" "SoulOffice" "saying" "LSoulOffice$Sentence;") ∈ WS := q_in_tab (q_c3 (j := 88) rfl) rfl
theorem q_w678 : (Jvm.Cond.laysFinal "SoulOffice" "SoulOffice" "sayingDraft" "LSoulOffice$Sentence;") ∈ WS := q_in_tab (q_c3 (j := 90) rfl) rfl
theorem q_w680 : (Jvm.Cond.laysFinal "SoulOffice" "SoulOffice" "history" "LSoulOffice$History;") ∈ WS := q_in_tab (q_c3 (j := 92) rfl) rfl
theorem q_w682 : (Jvm.Cond.laysFinal "SoulOffice" "SoulOffice" "images" "[LSoulOffice$Image;") ∈ WS := q_in_tab (q_c3 (j := 94) rfl) rfl
theorem q_w684 : (Jvm.Cond.laysFinal "SoulOffice" "SoulOffice" "officeText" "LSoulOffice$OfficeText;") ∈ WS := q_in_tab (q_c3 (j := 96) rfl) rfl
theorem q_w686 : (Jvm.Cond.laysFinal "SoulOffice" "SoulOffice" "book" "LSoulOffice$Book;") ∈ WS := q_in_tab (q_c3 (j := 98) rfl) rfl
theorem q_w688 : (Jvm.Cond.laysFinal "SoulOffice" "SoulOffice" "mostSearch" "LSoulOffice$MostSearch;") ∈ WS := q_in_tab (q_c3 (j := 100) rfl) rfl
theorem q_w690 : (Jvm.Cond.laysFinal "SoulOffice" "SoulOffice" "appealSearch" "LSoulOffice$AppealSearch;") ∈ WS := q_in_tab (q_c3 (j := 102) rfl) rfl
theorem q_w692 : (Jvm.Cond.laysFinal "SoulOffice" "SoulOffice" "nets" "LSoulOffice$Nets;") ∈ WS := q_in_tab (q_c3 (j := 104) rfl) rfl
theorem q_w694 : (Jvm.Cond.laysFinal "SoulOffice" "SoulOffice" "firstWay" "[I") ∈ WS := q_in_tab (q_c3 (j := 106) rfl) rfl
theorem q_cl11 : q_Cl 11 (RX11, TX11, 15) tyX11 := by
  refine ⟨q_all_of (show q_all (fun w => w ∈ WS) (u_ws RX11 TX11 15) from ⟨q_w666, ⟨q_w668, ⟨q_w670, ⟨q_w672, ⟨q_w674, ⟨q_w676, ⟨q_w678, ⟨q_w680, ⟨q_w682, ⟨q_w684, ⟨q_w686, ⟨q_w688, ⟨q_w690, ⟨q_w692, ⟨q_w694, True.intro⟩⟩⟩⟩⟩⟩⟩⟩⟩⟩⟩⟩⟩⟩⟩), tyX11_ok, nmX11, rfl, rfl, fun k hk => ?_⟩
  have h : ∀ k, k < 15 → (TX11 k).1 = RX11 ∧ (TX11 k).2.2.2 = q_fin 11 k ∧ q_tyb 11 k (tyX11 k) = true := by decide +kernel
  exact ⟨(h k hk).1, (h k hk).2.1, q_tyb_of (h k hk).2.2⟩
theorem q_w1512 : (Jvm.Cond.lays "SoulOfficeModel" "SoulOfficeModel" "thrown" "I") ∈ WS := q_in_tab (q_c6 (j := 204) rfl) rfl
theorem q_w1514 : (Jvm.Cond.laysFinal "SoulOfficeModel" "SoulOfficeModel" "tape" "[B") ∈ WS := q_in_tab (q_c6 (j := 206) rfl) rfl
theorem q_w1516 : (Jvm.Cond.lays "SoulOfficeModel" "SoulOfficeModel" "length" "I") ∈ WS := q_in_tab (q_c6 (j := 208) rfl) rfl
theorem q_w1518 : (Jvm.Cond.lays "SoulOfficeModel" "SoulOfficeModel" "size" "I") ∈ WS := q_in_tab (q_c6 (j := 210) rfl) rfl
theorem q_w1520 : (Jvm.Cond.lays "SoulOfficeModel" "SoulOfficeModel" "p" "I") ∈ WS := q_in_tab (q_c6 (j := 212) rfl) rfl
theorem q_w1522 : (Jvm.Cond.lays "SoulOfficeModel" "SoulOfficeModel" "limit" "I") ∈ WS := q_in_tab (q_c6 (j := 214) rfl) rfl
theorem q_w1524 : (Jvm.Cond.laysFinal "SoulOfficeModel" "SoulOfficeModel" "s" "[I") ∈ WS := q_in_tab (q_c6 (j := 216) rfl) rfl
theorem q_w1526 : (Jvm.Cond.laysFinal "SoulOfficeModel" "SoulOfficeModel" "h" "[I") ∈ WS := q_in_tab (q_c6 (j := 218) rfl) rfl
theorem q_w1528 : (Jvm.Cond.laysFinal "SoulOfficeModel" "SoulOfficeModel" "read" "[I") ∈ WS := q_in_tab (q_c6 (j := 220) rfl) rfl
theorem q_w1530 : (Jvm.Cond.laysFinal "SoulOfficeModel" "SoulOfficeModel" "names" "[J") ∈ WS := q_in_tab (q_c6 (j := 222) rfl) rfl
theorem q_w1532 : (Jvm.Cond.laysFinal "SoulOfficeModel" "SoulOfficeModel" "reserved" "[J") ∈ WS := q_in_tab (q_c6 (j := 224) rfl) rfl
theorem q_w1534 : (Jvm.Cond.lays "SoulOfficeModel" "SoulOfficeModel" "token" "I") ∈ WS := q_in_tab (q_c6 (j := 226) rfl) rfl
theorem q_w1536 : (Jvm.Cond.lays "SoulOfficeModel" "SoulOfficeModel" "at" "I") ∈ WS := q_in_tab (q_c6 (j := 228) rfl) rfl
theorem q_w1538 : (Jvm.Cond.lays "SoulOfficeModel" "SoulOfficeModel" "span" "I") ∈ WS := q_in_tab (q_c6 (j := 230) rfl) rfl
theorem q_w1540 : (Jvm.Cond.lays "SoulOfficeModel" "SoulOfficeModel" "number" "I") ∈ WS := q_in_tab (q_c6 (j := 232) rfl) rfl
theorem q_w1542 : (Jvm.Cond.lays "SoulOfficeModel" "SoulOfficeModel" "fault" "I") ∈ WS := q_in_tab (q_c6 (j := 234) rfl) rfl
theorem q_w1544 : (Jvm.Cond.lays "SoulOfficeModel" "SoulOfficeModel" "faultAt" "I") ∈ WS := q_in_tab (q_c6 (j := 236) rfl) rfl
theorem q_w1546 : (Jvm.Cond.lays "SoulOfficeModel" "SoulOfficeModel" "word" "J") ∈ WS := q_in_tab (q_c6 (j := 238) rfl) rfl
theorem q_w1548 : (Jvm.Cond.lays "SoulOfficeModel" "SoulOfficeModel" "got" "I") ∈ WS := q_in_tab (q_c7 (j := 0) rfl) rfl
theorem q_w1550 : (Jvm.Cond.lays "SoulOfficeModel" "SoulOfficeModel" "lines" "I") ∈ WS := q_in_tab (q_c7 (j := 2) rfl) rfl
theorem q_w1552 : (Jvm.Cond.lays "SoulOfficeModel" "SoulOfficeModel" "hasGrows" "Z") ∈ WS := q_in_tab (q_c7 (j := 4) rfl) rfl
theorem q_w1554 : (Jvm.Cond.laysFinal "SoulOfficeModel" "SoulOfficeModel" "undone" "[I") ∈ WS := q_in_tab (q_c7 (j := 6) rfl) rfl
theorem q_w1556 : (Jvm.Cond.laysFinal "SoulOfficeModel" "SoulOfficeModel" "before" "[I") ∈ WS := q_in_tab (q_c7 (j := 8) rfl) rfl
theorem q_w1558 : (Jvm.Cond.lays "SoulOfficeModel" "SoulOfficeModel" "undoMany" "I") ∈ WS := q_in_tab (q_c7 (j := 10) rfl) rfl
theorem q_w1560 : (Jvm.Cond.laysFinal "SoulOfficeModel" "SoulOfficeModel" "who" "[I") ∈ WS := q_in_tab (q_c7 (j := 12) rfl) rfl
theorem q_w1562 : (Jvm.Cond.laysFinal "SoulOfficeModel" "SoulOfficeModel" "way" "[I") ∈ WS := q_in_tab (q_c7 (j := 14) rfl) rfl
theorem q_w1564 : (Jvm.Cond.laysFinal "SoulOfficeModel" "SoulOfficeModel" "mostWay" "[I") ∈ WS := q_in_tab (q_c7 (j := 16) rfl) rfl
theorem q_w1566 : (Jvm.Cond.lays "SoulOfficeModel" "SoulOfficeModel" "mostSouls" "I") ∈ WS := q_in_tab (q_c7 (j := 18) rfl) rfl
theorem q_w1568 : (Jvm.Cond.laysFinal "SoulOfficeModel" "SoulOfficeModel" "groupsOf" "[I") ∈ WS := q_in_tab (q_c7 (j := 20) rfl) rfl
theorem q_w1570 : (Jvm.Cond.laysFinal "SoulOfficeModel" "SoulOfficeModel" "sums" "[I") ∈ WS := q_in_tab (q_c7 (j := 22) rfl) rfl
theorem q_w1572 : (Jvm.Cond.laysFinal "SoulOfficeModel" "SoulOfficeModel" "wereRow" "[I") ∈ WS := q_in_tab (q_c7 (j := 24) rfl) rfl
theorem q_w1574 : (Jvm.Cond.lays "SoulOfficeModel" "SoulOfficeModel" "hasWere" "Z") ∈ WS := q_in_tab (q_c7 (j := 26) rfl) rfl
theorem q_w1576 : (Jvm.Cond.laysFinal "SoulOfficeModel" "SoulOfficeModel" "appealWay" "[I") ∈ WS := q_in_tab (q_c7 (j := 28) rfl) rfl
theorem q_w1578 : (Jvm.Cond.laysFinal "SoulOfficeModel" "SoulOfficeModel" "room" "[I") ∈ WS := q_in_tab (q_c7 (j := 30) rfl) rfl
theorem q_w1580 : (Jvm.Cond.lays "SoulOfficeModel" "SoulOfficeModel" "changed" "I") ∈ WS := q_in_tab (q_c7 (j := 32) rfl) rfl
theorem q_w1582 : (Jvm.Cond.lays "SoulOfficeModel" "SoulOfficeModel" "seed" "I") ∈ WS := q_in_tab (q_c7 (j := 34) rfl) rfl
theorem q_w1584 : (Jvm.Cond.lays "SoulOfficeModel" "SoulOfficeModel" "told" "I") ∈ WS := q_in_tab (q_c7 (j := 36) rfl) rfl
theorem q_w1586 : (Jvm.Cond.laysFinal "SoulOfficeModel" "SoulOfficeModel" "bookedAt" "[I") ∈ WS := q_in_tab (q_c7 (j := 38) rfl) rfl
theorem q_w1588 : (Jvm.Cond.lays "SoulOfficeModel" "SoulOfficeModel" "hasBooked" "Z") ∈ WS := q_in_tab (q_c7 (j := 40) rfl) rfl
theorem q_w1590 : (Jvm.Cond.laysFinal "SoulOfficeModel" "SoulOfficeModel" "stack" "[I") ∈ WS := q_in_tab (q_c7 (j := 42) rfl) rfl
theorem q_w1592 : (Jvm.Cond.lays "SoulOfficeModel" "SoulOfficeModel" "codes" "I") ∈ WS := q_in_tab (q_c7 (j := 44) rfl) rfl
theorem q_w1594 : (Jvm.Cond.lays "SoulOfficeModel" "SoulOfficeModel" "ones" "I") ∈ WS := q_in_tab (q_c7 (j := 46) rfl) rfl
theorem q_w1596 : (Jvm.Cond.lays "SoulOfficeModel" "SoulOfficeModel" "top" "I") ∈ WS := q_in_tab (q_c7 (j := 48) rfl) rfl
theorem q_w1598 : (Jvm.Cond.lays "SoulOfficeModel" "SoulOfficeModel" "deep" "I") ∈ WS := q_in_tab (q_c7 (j := 50) rfl) rfl
theorem q_w1600 : (Jvm.Cond.lays "SoulOfficeModel" "SoulOfficeModel" "isWhole" "Z") ∈ WS := q_in_tab (q_c7 (j := 52) rfl) rfl
theorem q_w1602 : (Jvm.Cond.laysFinal "SoulOfficeModel" "SoulOfficeModel" "truths" "[Z") ∈ WS := q_in_tab (q_c7 (j := 54) rfl) rfl
theorem q_w1604 : (Jvm.Cond.laysFinal "SoulOfficeModel" "SoulOfficeModel" "kept" "[I") ∈ WS := q_in_tab (q_c7 (j := 56) rfl) rfl
theorem q_w1606 : (Jvm.Cond.laysFinal "SoulOfficeModel" "SoulOfficeModel" "namesKept" "[J") ∈ WS := q_in_tab (q_c7 (j := 58) rfl) rfl
theorem q_w1608 : (Jvm.Cond.laysFinal "SoulOfficeModel" "SoulOfficeModel" "isKept" "[Z") ∈ WS := q_in_tab (q_c7 (j := 60) rfl) rfl
theorem q_cl12 : q_Cl 12 (RX12, TX12, 49) tyX12 := by
  refine ⟨q_all_of (show q_all (fun w => w ∈ WS) (u_ws RX12 TX12 49) from ⟨q_w1512, ⟨q_w1514, ⟨q_w1516, ⟨q_w1518, ⟨q_w1520, ⟨q_w1522, ⟨q_w1524, ⟨q_w1526, ⟨q_w1528, ⟨q_w1530, ⟨q_w1532, ⟨q_w1534, ⟨q_w1536, ⟨q_w1538, ⟨q_w1540, ⟨q_w1542, ⟨q_w1544, ⟨q_w1546, ⟨q_w1548, ⟨q_w1550, ⟨q_w1552, ⟨q_w1554, ⟨q_w1556, ⟨q_w1558, ⟨q_w1560, ⟨q_w1562, ⟨q_w1564, ⟨q_w1566, ⟨q_w1568, ⟨q_w1570, ⟨q_w1572, ⟨q_w1574, ⟨q_w1576, ⟨q_w1578, ⟨q_w1580, ⟨q_w1582, ⟨q_w1584, ⟨q_w1586, ⟨q_w1588, ⟨q_w1590, ⟨q_w1592, ⟨q_w1594, ⟨q_w1596, ⟨q_w1598, ⟨q_w1600, ⟨q_w1602, ⟨q_w1604, ⟨q_w1606, ⟨q_w1608, True.intro⟩⟩⟩⟩⟩⟩⟩⟩⟩⟩⟩⟩⟩⟩⟩⟩⟩⟩⟩⟩⟩⟩⟩⟩⟩⟩⟩⟩⟩⟩⟩⟩⟩⟩⟩⟩⟩⟩⟩⟩⟩⟩⟩⟩⟩⟩⟩⟩⟩), tyX12_ok, nmX12, rfl, rfl, fun k hk => ?_⟩
  have h : ∀ k, k < 49 → (TX12 k).1 = RX12 ∧ (TX12 k).2.2.2 = q_fin 12 k ∧ q_tyb 12 k (tyX12 k) = true := by decide +kernel
  exact ⟨(h k hk).1, (h k hk).2.1, q_tyb_of (h k hk).2.2⟩
theorem q_cls {ci : Nat} {r : vw_C} (h : vwCl[ci]? = some r) : ∃ ty, q_Cl ci r ty := by
  match ci, h with
  | 0, h => cases h; exact ⟨_, q_cl0⟩
  | 1, h => cases h; exact ⟨_, q_cl1⟩
  | 2, h => cases h; exact ⟨_, q_cl2⟩
  | 3, h => cases h; exact ⟨_, q_cl3⟩
  | 4, h => cases h; exact ⟨_, q_cl4⟩
  | 5, h => cases h; exact ⟨_, q_cl5⟩
  | 6, h => cases h; exact ⟨_, q_cl6⟩
  | 7, h => cases h; exact ⟨_, q_cl7⟩
  | 8, h => cases h; exact ⟨_, q_cl8⟩
  | 9, h => cases h; exact ⟨_, q_cl9⟩
  | 10, h => cases h; exact ⟨_, q_cl10⟩
  | 11, h => cases h; exact ⟨_, q_cl11⟩
  | 12, h => cases h; exact ⟨_, q_cl12⟩
  | n + 13, h => simp [vwCl] at h
def q_sts : List Nat := [49, 108, 151, 152, 153, 154, 155, 156, 157, 164, 165, 166, 170, 171, 226, 265, 266, 267]
def q_sp : List Nat := [265, 266]
/-- what is known of a method that is called -/
def q_mk (k : Nat) : Prop := Cond.code (mY k) (mC k) (mL k) (mR k) ∈ WS ∧ plainName (mY k).cls = true ∧ (mY k).cls = oN (mO k) ∧ ((mY k).cls ≠ "java/lang/invoke/MethodHandle" ∧ (mY k).cls ≠ "java/lang/invoke/VarHandle") ∧ (parseMethodDescriptor (mY k).desc).map (fun d => d.parameters.length + (if k ∈ q_sts then 0 else 1)) = some (mA k) ∧ mL k ≤ 60
theorem q_pn0 : plainName (oN 0) = true := by decide +kernel
theorem q_mh0 : oN 0 ≠ "java/lang/invoke/MethodHandle" ∧ oN 0 ≠ "java/lang/invoke/VarHandle" := by decide +kernel
theorem q_pn1 : plainName (oN 1) = true := by decide +kernel
theorem q_mh1 : oN 1 ≠ "java/lang/invoke/MethodHandle" ∧ oN 1 ≠ "java/lang/invoke/VarHandle" := by decide +kernel
theorem q_pn2 : plainName (oN 2) = true := by decide +kernel
theorem q_mh2 : oN 2 ≠ "java/lang/invoke/MethodHandle" ∧ oN 2 ≠ "java/lang/invoke/VarHandle" := by decide +kernel
theorem q_pn3 : plainName (oN 3) = true := by decide +kernel
theorem q_mh3 : oN 3 ≠ "java/lang/invoke/MethodHandle" ∧ oN 3 ≠ "java/lang/invoke/VarHandle" := by decide +kernel
theorem q_pn4 : plainName (oN 4) = true := by decide +kernel
theorem q_mh4 : oN 4 ≠ "java/lang/invoke/MethodHandle" ∧ oN 4 ≠ "java/lang/invoke/VarHandle" := by decide +kernel
theorem q_pn5 : plainName (oN 5) = true := by decide +kernel
theorem q_mh5 : oN 5 ≠ "java/lang/invoke/MethodHandle" ∧ oN 5 ≠ "java/lang/invoke/VarHandle" := by decide +kernel
theorem q_pn6 : plainName (oN 6) = true := by decide +kernel
theorem q_mh6 : oN 6 ≠ "java/lang/invoke/MethodHandle" ∧ oN 6 ≠ "java/lang/invoke/VarHandle" := by decide +kernel
theorem q_pn7 : plainName (oN 7) = true := by decide +kernel
theorem q_mh7 : oN 7 ≠ "java/lang/invoke/MethodHandle" ∧ oN 7 ≠ "java/lang/invoke/VarHandle" := by decide +kernel
theorem q_pn8 : plainName (oN 8) = true := by decide +kernel
theorem q_mh8 : oN 8 ≠ "java/lang/invoke/MethodHandle" ∧ oN 8 ≠ "java/lang/invoke/VarHandle" := by decide +kernel
theorem q_pn9 : plainName (oN 9) = true := by decide +kernel
theorem q_mh9 : oN 9 ≠ "java/lang/invoke/MethodHandle" ∧ oN 9 ≠ "java/lang/invoke/VarHandle" := by decide +kernel
theorem q_pn10 : plainName (oN 10) = true := by decide +kernel
theorem q_mh10 : oN 10 ≠ "java/lang/invoke/MethodHandle" ∧ oN 10 ≠ "java/lang/invoke/VarHandle" := by decide +kernel
theorem q_pn11 : plainName (oN 11) = true := by decide +kernel
theorem q_mh11 : oN 11 ≠ "java/lang/invoke/MethodHandle" ∧ oN 11 ≠ "java/lang/invoke/VarHandle" := by decide +kernel
theorem q_pn12 : plainName (oN 12) = true := by decide +kernel
theorem q_mh12 : oN 12 ≠ "java/lang/invoke/MethodHandle" ∧ oN 12 ≠ "java/lang/invoke/VarHandle" := by decide +kernel
theorem q_pn14 : plainName (oN 14) = true := by decide +kernel
theorem q_mh14 : oN 14 ≠ "java/lang/invoke/MethodHandle" ∧ oN 14 ≠ "java/lang/invoke/VarHandle" := by decide +kernel
theorem q_mk0 : q_mk 0 := ⟨q_w574, q_pn0, rfl, q_mh0, by decide +kernel, by decide +kernel⟩
theorem q_mk1 : q_mk 1 := ⟨q_w1152, q_pn0, rfl, q_mh0, by decide +kernel, by decide +kernel⟩
theorem q_mk2 : q_mk 2 := ⟨q_w1157, q_pn0, rfl, q_mh0, by decide +kernel, by decide +kernel⟩
theorem q_mk3 : q_mk 3 := ⟨q_w1166, q_pn0, rfl, q_mh0, by decide +kernel, by decide +kernel⟩
theorem q_mk4 : q_mk 4 := ⟨q_w1171, q_pn0, rfl, q_mh0, by decide +kernel, by decide +kernel⟩
theorem q_mk5 : q_mk 5 := ⟨q_w1179, q_pn0, rfl, q_mh0, by decide +kernel, by decide +kernel⟩
theorem q_mk6 : q_mk 6 := ⟨q_w1183, q_pn0, rfl, q_mh0, by decide +kernel, by decide +kernel⟩
theorem q_mk7 : q_mk 7 := ⟨q_w485, q_pn1, rfl, q_mh1, by decide +kernel, by decide +kernel⟩
theorem q_mk8 : q_mk 8 := ⟨q_w868, q_pn1, rfl, q_mh1, by decide +kernel, by decide +kernel⟩
theorem q_mk9 : q_mk 9 := ⟨q_w874, q_pn1, rfl, q_mh1, by decide +kernel, by decide +kernel⟩
theorem q_mk10 : q_mk 10 := ⟨q_w897, q_pn1, rfl, q_mh1, by decide +kernel, by decide +kernel⟩
theorem q_mk11 : q_mk 11 := ⟨q_w901, q_pn1, rfl, q_mh1, by decide +kernel, by decide +kernel⟩
theorem q_mk12 : q_mk 12 := ⟨q_w453, q_pn2, rfl, q_mh2, by decide +kernel, by decide +kernel⟩
theorem q_mk13 : q_mk 13 := ⟨q_w856, q_pn2, rfl, q_mh2, by decide +kernel, by decide +kernel⟩
theorem q_mk14 : q_mk 14 := ⟨q_w963, q_pn2, rfl, q_mh2, by decide +kernel, by decide +kernel⟩
theorem q_mk15 : q_mk 15 := ⟨q_w1192, q_pn2, rfl, q_mh2, by decide +kernel, by decide +kernel⟩
theorem q_mk16 : q_mk 16 := ⟨q_w629, q_pn3, rfl, q_mh3, by decide +kernel, by decide +kernel⟩
theorem q_mk17 : q_mk 17 := ⟨q_w1200, q_pn3, rfl, q_mh3, by decide +kernel, by decide +kernel⟩
theorem q_mk18 : q_mk 18 := ⟨q_w1211, q_pn3, rfl, q_mh3, by decide +kernel, by decide +kernel⟩
theorem q_mk19 : q_mk 19 := ⟨q_w348, q_pn4, rfl, q_mh4, by decide +kernel, by decide +kernel⟩
theorem q_mk20 : q_mk 20 := ⟨q_w409, q_pn4, rfl, q_mh4, by decide +kernel, by decide +kernel⟩
theorem q_mk21 : q_mk 21 := ⟨q_w893, q_pn4, rfl, q_mh4, by decide +kernel, by decide +kernel⟩
theorem q_mk22 : q_mk 22 := ⟨q_w1041, q_pn4, rfl, q_mh4, by decide +kernel, by decide +kernel⟩
theorem q_mk23 : q_mk 23 := ⟨q_w1049, q_pn4, rfl, q_mh4, by decide +kernel, by decide +kernel⟩
theorem q_mk24 : q_mk 24 := ⟨q_w959, q_pn4, rfl, q_mh4, by decide +kernel, by decide +kernel⟩
theorem q_mk25 : q_mk 25 := ⟨q_w1102, q_pn4, rfl, q_mh4, by decide +kernel, by decide +kernel⟩
theorem q_mk26 : q_mk 26 := ⟨q_w1094, q_pn4, rfl, q_mh4, by decide +kernel, by decide +kernel⟩
theorem q_mk27 : q_mk 27 := ⟨q_w1098, q_pn4, rfl, q_mh4, by decide +kernel, by decide +kernel⟩
theorem q_mk28 : q_mk 28 := ⟨q_w1071, q_pn4, rfl, q_mh4, by decide +kernel, by decide +kernel⟩
theorem q_mk29 : q_mk 29 := ⟨q_w905, q_pn4, rfl, q_mh4, by decide +kernel, by decide +kernel⟩
theorem q_mk30 : q_mk 30 := ⟨q_w910, q_pn4, rfl, q_mh4, by decide +kernel, by decide +kernel⟩
theorem q_mk31 : q_mk 31 := ⟨q_w914, q_pn4, rfl, q_mh4, by decide +kernel, by decide +kernel⟩
theorem q_mk32 : q_mk 32 := ⟨q_w918, q_pn4, rfl, q_mh4, by decide +kernel, by decide +kernel⟩
theorem q_mk33 : q_mk 33 := ⟨q_w922, q_pn4, rfl, q_mh4, by decide +kernel, by decide +kernel⟩
theorem q_mk34 : q_mk 34 := ⟨q_w945, q_pn4, rfl, q_mh4, by decide +kernel, by decide +kernel⟩
theorem q_mk35 : q_mk 35 := ⟨q_w1143, q_pn4, rfl, q_mh4, by decide +kernel, by decide +kernel⟩
theorem q_mk36 : q_mk 36 := ⟨q_w949, q_pn4, rfl, q_mh4, by decide +kernel, by decide +kernel⟩
theorem q_mk37 : q_mk 37 := ⟨q_w953, q_pn4, rfl, q_mh4, by decide +kernel, by decide +kernel⟩
theorem q_mk38 : q_mk 38 := ⟨q_w926, q_pn4, rfl, q_mh4, by decide +kernel, by decide +kernel⟩
theorem q_mk39 : q_mk 39 := ⟨q_w931, q_pn4, rfl, q_mh4, by decide +kernel, by decide +kernel⟩
theorem q_mk40 : q_mk 40 := ⟨q_w939, q_pn4, rfl, q_mh4, by decide +kernel, by decide +kernel⟩
theorem q_mk41 : q_mk 41 := ⟨q_w530, q_pn5, rfl, q_mh5, by decide +kernel, by decide +kernel⟩
theorem q_mk42 : q_mk 42 := ⟨q_w535, q_pn5, rfl, q_mh5, by decide +kernel, by decide +kernel⟩
theorem q_mk43 : q_mk 43 := ⟨q_w1277, q_pn5, rfl, q_mh5, by decide +kernel, by decide +kernel⟩
theorem q_mk44 : q_mk 44 := ⟨q_w1219, q_pn5, rfl, q_mh5, by decide +kernel, by decide +kernel⟩
theorem q_mk45 : q_mk 45 := ⟨q_w1252, q_pn5, rfl, q_mh5, by decide +kernel, by decide +kernel⟩
theorem q_mk46 : q_mk 46 := ⟨q_w1224, q_pn5, rfl, q_mh5, by decide +kernel, by decide +kernel⟩
theorem q_mk47 : q_mk 47 := ⟨q_w1228, q_pn5, rfl, q_mh5, by decide +kernel, by decide +kernel⟩
theorem q_mk48 : q_mk 48 := ⟨q_w1245, q_pn5, rfl, q_mh5, by decide +kernel, by decide +kernel⟩
theorem q_mk49 : q_mk 49 := ⟨q_w1248, q_pn5, rfl, q_mh5, by decide +kernel, by decide +kernel⟩
theorem q_mk50 : q_mk 50 := ⟨q_w1235, q_pn5, rfl, q_mh5, by decide +kernel, by decide +kernel⟩
theorem q_mk51 : q_mk 51 := ⟨q_w1240, q_pn5, rfl, q_mh5, by decide +kernel, by decide +kernel⟩
theorem q_mk52 : q_mk 52 := ⟨q_w1256, q_pn5, rfl, q_mh5, by decide +kernel, by decide +kernel⟩
theorem q_mk53 : q_mk 53 := ⟨q_w1269, q_pn5, rfl, q_mh5, by decide +kernel, by decide +kernel⟩
theorem q_mk54 : q_mk 54 := ⟨q_w1260, q_pn5, rfl, q_mh5, by decide +kernel, by decide +kernel⟩
theorem q_mk55 : q_mk 55 := ⟨q_w602, q_pn6, rfl, q_mh6, by decide +kernel, by decide +kernel⟩
theorem q_mk56 : q_mk 56 := ⟨q_w1295, q_pn6, rfl, q_mh6, by decide +kernel, by decide +kernel⟩
theorem q_mk57 : q_mk 57 := ⟨q_w1299, q_pn6, rfl, q_mh6, by decide +kernel, by decide +kernel⟩
theorem q_mk58 : q_mk 58 := ⟨q_w472, q_pn7, rfl, q_mh7, by decide +kernel, by decide +kernel⟩
theorem q_mk59 : q_mk 59 := ⟨q_w716, q_pn7, rfl, q_mh7, by decide +kernel, by decide +kernel⟩
theorem q_mk60 : q_mk 60 := ⟨q_w768, q_pn7, rfl, q_mh7, by decide +kernel, by decide +kernel⟩
theorem q_mk61 : q_mk 61 := ⟨q_w773, q_pn7, rfl, q_mh7, by decide +kernel, by decide +kernel⟩
theorem q_mk62 : q_mk 62 := ⟨q_w791, q_pn7, rfl, q_mh7, by decide +kernel, by decide +kernel⟩
theorem q_mk63 : q_mk 63 := ⟨q_w807, q_pn7, rfl, q_mh7, by decide +kernel, by decide +kernel⟩
theorem q_mk64 : q_mk 64 := ⟨q_w815, q_pn7, rfl, q_mh7, by decide +kernel, by decide +kernel⟩
theorem q_mk65 : q_mk 65 := ⟨q_w827, q_pn7, rfl, q_mh7, by decide +kernel, by decide +kernel⟩
theorem q_mk66 : q_mk 66 := ⟨q_w831, q_pn7, rfl, q_mh7, by decide +kernel, by decide +kernel⟩
theorem q_mk67 : q_mk 67 := ⟨q_w838, q_pn7, rfl, q_mh7, by decide +kernel, by decide +kernel⟩
theorem q_mk68 : q_mk 68 := ⟨q_w778, q_pn7, rfl, q_mh7, by decide +kernel, by decide +kernel⟩
theorem q_mk69 : q_mk 69 := ⟨q_w266, q_pn8, rfl, q_mh8, by decide +kernel, by decide +kernel⟩
theorem q_mk70 : q_mk 70 := ⟨q_w1067, q_pn8, rfl, q_mh8, by decide +kernel, by decide +kernel⟩
theorem q_mk71 : q_mk 71 := ⟨q_w1084, q_pn8, rfl, q_mh8, by decide +kernel, by decide +kernel⟩
theorem q_mk72 : q_mk 72 := ⟨q_w819, q_pn8, rfl, q_mh8, by decide +kernel, by decide +kernel⟩
theorem q_mk73 : q_mk 73 := ⟨q_w1285, q_pn8, rfl, q_mh8, by decide +kernel, by decide +kernel⟩
theorem q_mk74 : q_mk 74 := ⟨q_w720, q_pn8, rfl, q_mh8, by decide +kernel, by decide +kernel⟩
theorem q_mk75 : q_mk 75 := ⟨q_w761, q_pn8, rfl, q_mh8, by decide +kernel, by decide +kernel⟩
theorem q_mk76 : q_mk 76 := ⟨q_w787, q_pn8, rfl, q_mh8, by decide +kernel, by decide +kernel⟩
theorem q_mk77 : q_mk 77 := ⟨q_w811, q_pn8, rfl, q_mh8, by decide +kernel, by decide +kernel⟩
theorem q_mk78 : q_mk 78 := ⟨q_w847, q_pn8, rfl, q_mh8, by decide +kernel, by decide +kernel⟩
theorem q_mk79 : q_mk 79 := ⟨q_w417, q_pn9, rfl, q_mh9, by decide +kernel, by decide +kernel⟩
theorem q_mk80 : q_mk 80 := ⟨q_w852, q_pn9, rfl, q_mh9, by decide +kernel, by decide +kernel⟩
theorem q_mk81 : q_mk 81 := ⟨q_w1019, q_pn9, rfl, q_mh9, by decide +kernel, by decide +kernel⟩
theorem q_mk82 : q_mk 82 := ⟨q_w977, q_pn9, rfl, q_mh9, by decide +kernel, by decide +kernel⟩
theorem q_mk83 : q_mk 83 := ⟨q_w983, q_pn9, rfl, q_mh9, by decide +kernel, by decide +kernel⟩
theorem q_mk84 : q_mk 84 := ⟨q_w987, q_pn9, rfl, q_mh9, by decide +kernel, by decide +kernel⟩
theorem q_mk85 : q_mk 85 := ⟨q_w991, q_pn9, rfl, q_mh9, by decide +kernel, by decide +kernel⟩
theorem q_mk86 : q_mk 86 := ⟨q_w1007, q_pn9, rfl, q_mh9, by decide +kernel, by decide +kernel⟩
theorem q_mk87 : q_mk 87 := ⟨q_w1012, q_pn9, rfl, q_mh9, by decide +kernel, by decide +kernel⟩
theorem q_mk88 : q_mk 88 := ⟨q_w1003, q_pn9, rfl, q_mh9, by decide +kernel, by decide +kernel⟩
theorem q_mk89 : q_mk 89 := ⟨q_w1028, q_pn9, rfl, q_mh9, by decide +kernel, by decide +kernel⟩
theorem q_mk90 : q_mk 90 := ⟨q_w1032, q_pn9, rfl, q_mh9, by decide +kernel, by decide +kernel⟩
theorem q_mk91 : q_mk 91 := ⟨q_w1036, q_pn9, rfl, q_mh9, by decide +kernel, by decide +kernel⟩
theorem q_mk92 : q_mk 92 := ⟨q_w1045, q_pn9, rfl, q_mh9, by decide +kernel, by decide +kernel⟩
theorem q_mk93 : q_mk 93 := ⟨q_w145, q_pn10, rfl, q_mh10, by decide +kernel, by decide +kernel⟩
theorem q_mk94 : q_mk 94 := ⟨q_w704, q_pn10, rfl, q_mh10, by decide +kernel, by decide +kernel⟩
theorem q_mk95 : q_mk 95 := ⟨q_w724, q_pn10, rfl, q_mh10, by decide +kernel, by decide +kernel⟩
theorem q_mk96 : q_mk 96 := ⟨q_w734, q_pn10, rfl, q_mh10, by decide +kernel, by decide +kernel⟩
theorem q_mk97 : q_mk 97 := ⟨q_w739, q_pn10, rfl, q_mh10, by decide +kernel, by decide +kernel⟩
theorem q_mk98 : q_mk 98 := ⟨q_w749, q_pn10, rfl, q_mh10, by decide +kernel, by decide +kernel⟩
theorem q_mk99 : q_mk 99 := ⟨q_w757, q_pn10, rfl, q_mh10, by decide +kernel, by decide +kernel⟩
theorem q_mk100 : q_mk 100 := ⟨q_w753, q_pn10, rfl, q_mh10, by decide +kernel, by decide +kernel⟩
theorem q_mk101 : q_mk 101 := ⟨q_w878, q_pn10, rfl, q_mh10, by decide +kernel, by decide +kernel⟩
theorem q_mk102 : q_mk 102 := ⟨q_w823, q_pn10, rfl, q_mh10, by decide +kernel, by decide +kernel⟩
theorem q_mk103 : q_mk 103 := ⟨q_w842, q_pn10, rfl, q_mh10, by decide +kernel, by decide +kernel⟩
theorem q_mk104 : q_mk 104 := ⟨q_w885, q_pn10, rfl, q_mh10, by decide +kernel, by decide +kernel⟩
theorem q_mk105 : q_mk 105 := ⟨q_w783, q_pn10, rfl, q_mh10, by decide +kernel, by decide +kernel⟩
theorem q_mk106 : q_mk 106 := ⟨q_w799, q_pn10, rfl, q_mh10, by decide +kernel, by decide +kernel⟩
theorem q_mk107 : q_mk 107 := ⟨q_w795, q_pn10, rfl, q_mh10, by decide +kernel, by decide +kernel⟩
theorem q_mk108 : q_mk 108 := ⟨q_w742, q_pn10, rfl, q_mh10, by decide +kernel, by decide +kernel⟩
theorem q_mk109 : q_mk 109 := ⟨q_w137, q_pn11, rfl, q_mh11, by decide +kernel, by decide +kernel⟩
theorem q_mk110 : q_mk 110 := ⟨q_w700, q_pn11, rfl, q_mh11, by decide +kernel, by decide +kernel⟩
theorem q_mk111 : q_mk 111 := ⟨q_w708, q_pn11, rfl, q_mh11, by decide +kernel, by decide +kernel⟩
theorem q_mk112 : q_mk 112 := ⟨q_w712, q_pn11, rfl, q_mh11, by decide +kernel, by decide +kernel⟩
theorem q_mk113 : q_mk 113 := ⟨q_w860, q_pn11, rfl, q_mh11, by decide +kernel, by decide +kernel⟩
theorem q_mk114 : q_mk 114 := ⟨q_w864, q_pn11, rfl, q_mh11, by decide +kernel, by decide +kernel⟩
theorem q_mk115 : q_mk 115 := ⟨q_w969, q_pn11, rfl, q_mh11, by decide +kernel, by decide +kernel⟩
theorem q_mk116 : q_mk 116 := ⟨q_w973, q_pn11, rfl, q_mh11, by decide +kernel, by decide +kernel⟩
theorem q_mk117 : q_mk 117 := ⟨q_w1024, q_pn11, rfl, q_mh11, by decide +kernel, by decide +kernel⟩
theorem q_mk118 : q_mk 118 := ⟨q_w1059, q_pn11, rfl, q_mh11, by decide +kernel, by decide +kernel⟩
theorem q_mk119 : q_mk 119 := ⟨q_w1063, q_pn11, rfl, q_mh11, by decide +kernel, by decide +kernel⟩
theorem q_mk120 : q_mk 120 := ⟨q_w1075, q_pn11, rfl, q_mh11, by decide +kernel, by decide +kernel⟩
theorem q_mk121 : q_mk 121 := ⟨q_w1352, q_pn11, rfl, q_mh11, by decide +kernel, by decide +kernel⟩
theorem q_mk122 : q_mk 122 := ⟨q_w1080, q_pn11, rfl, q_mh11, by decide +kernel, by decide +kernel⟩
theorem q_mk123 : q_mk 123 := ⟨q_w1089, q_pn11, rfl, q_mh11, by decide +kernel, by decide +kernel⟩
theorem q_mk124 : q_mk 124 := ⟨q_w1106, q_pn11, rfl, q_mh11, by decide +kernel, by decide +kernel⟩
theorem q_mk125 : q_mk 125 := ⟨q_w1112, q_pn11, rfl, q_mh11, by decide +kernel, by decide +kernel⟩
theorem q_mk126 : q_mk 126 := ⟨q_w1118, q_pn11, rfl, q_mh11, by decide +kernel, by decide +kernel⟩
theorem q_mk127 : q_mk 127 := ⟨q_w1123, q_pn11, rfl, q_mh11, by decide +kernel, by decide +kernel⟩
theorem q_mk128 : q_mk 128 := ⟨q_w1128, q_pn11, rfl, q_mh11, by decide +kernel, by decide +kernel⟩
theorem q_mk129 : q_mk 129 := ⟨q_w1134, q_pn11, rfl, q_mh11, by decide +kernel, by decide +kernel⟩
theorem q_mk130 : q_mk 130 := ⟨q_w1139, q_pn11, rfl, q_mh11, by decide +kernel, by decide +kernel⟩
theorem q_mk131 : q_mk 131 := ⟨q_w1148, q_pn11, rfl, q_mh11, by decide +kernel, by decide +kernel⟩
theorem q_mk132 : q_mk 132 := ⟨q_w1161, q_pn11, rfl, q_mh11, by decide +kernel, by decide +kernel⟩
theorem q_mk133 : q_mk 133 := ⟨q_w1188, q_pn11, rfl, q_mh11, by decide +kernel, by decide +kernel⟩
theorem q_mk134 : q_mk 134 := ⟨q_w1196, q_pn11, rfl, q_mh11, by decide +kernel, by decide +kernel⟩
theorem q_mk135 : q_mk 135 := ⟨q_w1207, q_pn11, rfl, q_mh11, by decide +kernel, by decide +kernel⟩
theorem q_mk136 : q_mk 136 := ⟨q_w1215, q_pn11, rfl, q_mh11, by decide +kernel, by decide +kernel⟩
theorem q_mk137 : q_mk 137 := ⟨q_w1273, q_pn11, rfl, q_mh11, by decide +kernel, by decide +kernel⟩
theorem q_mk138 : q_mk 138 := ⟨q_w1281, q_pn11, rfl, q_mh11, by decide +kernel, by decide +kernel⟩
theorem q_mk139 : q_mk 139 := ⟨q_w1420, q_pn11, rfl, q_mh11, by decide +kernel, by decide +kernel⟩
theorem q_mk140 : q_mk 140 := ⟨q_w1291, q_pn11, rfl, q_mh11, by decide +kernel, by decide +kernel⟩
theorem q_mk141 : q_mk 141 := ⟨q_w1306, q_pn11, rfl, q_mh11, by decide +kernel, by decide +kernel⟩
theorem q_mk142 : q_mk 142 := ⟨q_w1310, q_pn11, rfl, q_mh11, by decide +kernel, by decide +kernel⟩
theorem q_mk143 : q_mk 143 := ⟨q_w1327, q_pn11, rfl, q_mh11, by decide +kernel, by decide +kernel⟩
theorem q_mk144 : q_mk 144 := ⟨q_w1331, q_pn11, rfl, q_mh11, by decide +kernel, by decide +kernel⟩
theorem q_mk145 : q_mk 145 := ⟨q_w1335, q_pn11, rfl, q_mh11, by decide +kernel, by decide +kernel⟩
theorem q_mk146 : q_mk 146 := ⟨q_w1339, q_pn11, rfl, q_mh11, by decide +kernel, by decide +kernel⟩
theorem q_mk147 : q_mk 147 := ⟨q_w1344, q_pn11, rfl, q_mh11, by decide +kernel, by decide +kernel⟩
theorem q_mk148 : q_mk 148 := ⟨q_w1314, q_pn11, rfl, q_mh11, by decide +kernel, by decide +kernel⟩
theorem q_mk149 : q_mk 149 := ⟨q_w1319, q_pn11, rfl, q_mh11, by decide +kernel, by decide +kernel⟩
theorem q_mk150 : q_mk 150 := ⟨q_w1323, q_pn11, rfl, q_mh11, by decide +kernel, by decide +kernel⟩
theorem q_mk151 : q_mk 151 := ⟨q_w834, q_pn11, rfl, q_mh11, by decide +kernel, by decide +kernel⟩
theorem q_mk152 : q_mk 152 := ⟨q_w803, q_pn11, rfl, q_mh11, by decide +kernel, by decide +kernel⟩
theorem q_mk153 : q_mk 153 := ⟨q_w727, q_pn11, rfl, q_mh11, by decide +kernel, by decide +kernel⟩
theorem q_mk154 : q_mk 154 := ⟨q_w730, q_pn11, rfl, q_mh11, by decide +kernel, by decide +kernel⟩
theorem q_mk155 : q_mk 155 := ⟨q_w745, q_pn11, rfl, q_mh11, by decide +kernel, by decide +kernel⟩
theorem q_mk156 : q_mk 156 := ⟨q_w201, q_pn11, rfl, q_mh11, by decide +kernel, by decide +kernel⟩
theorem q_mk157 : q_mk 157 := ⟨q_w149, q_pn11, rfl, q_mh11, by decide +kernel, by decide +kernel⟩
theorem q_mk158 : q_mk 158 := ⟨q_w1424, q_pn12, rfl, q_mh12, by decide +kernel, by decide +kernel⟩
theorem q_mk159 : q_mk 159 := ⟨q_w1719, q_pn12, rfl, q_mh12, by decide +kernel, by decide +kernel⟩
theorem q_mk160 : q_mk 160 := ⟨q_w1428, q_pn12, rfl, q_mh12, by decide +kernel, by decide +kernel⟩
theorem q_mk161 : q_mk 161 := ⟨q_w1433, q_pn12, rfl, q_mh12, by decide +kernel, by decide +kernel⟩
theorem q_mk162 : q_mk 162 := ⟨q_w1437, q_pn12, rfl, q_mh12, by decide +kernel, by decide +kernel⟩
theorem q_mk163 : q_mk 163 := ⟨q_w1619, q_pn12, rfl, q_mh12, by decide +kernel, by decide +kernel⟩
theorem q_mk164 : q_mk 164 := ⟨q_w1664, q_pn12, rfl, q_mh12, by decide +kernel, by decide +kernel⟩
theorem q_mk165 : q_mk 165 := ⟨q_w1679, q_pn12, rfl, q_mh12, by decide +kernel, by decide +kernel⟩
theorem q_mk166 : q_mk 166 := ⟨q_w1782, q_pn12, rfl, q_mh12, by decide +kernel, by decide +kernel⟩
theorem q_mk167 : q_mk 167 := ⟨q_w1878, q_pn12, rfl, q_mh12, by decide +kernel, by decide +kernel⟩
theorem q_mk168 : q_mk 168 := ⟨q_w1441, q_pn12, rfl, q_mh12, by decide +kernel, by decide +kernel⟩
theorem q_mk169 : q_mk 169 := ⟨q_w1627, q_pn12, rfl, q_mh12, by decide +kernel, by decide +kernel⟩
theorem q_mk170 : q_mk 170 := ⟨q_w1630, q_pn12, rfl, q_mh12, by decide +kernel, by decide +kernel⟩
theorem q_mk171 : q_mk 171 := ⟨q_w1633, q_pn12, rfl, q_mh12, by decide +kernel, by decide +kernel⟩
theorem q_mk172 : q_mk 172 := ⟨q_w1623, q_pn12, rfl, q_mh12, by decide +kernel, by decide +kernel⟩
theorem q_mk173 : q_mk 173 := ⟨q_w1645, q_pn12, rfl, q_mh12, by decide +kernel, by decide +kernel⟩
theorem q_mk174 : q_mk 174 := ⟨q_w1641, q_pn12, rfl, q_mh12, by decide +kernel, by decide +kernel⟩
theorem q_mk175 : q_mk 175 := ⟨q_w1683, q_pn12, rfl, q_mh12, by decide +kernel, by decide +kernel⟩
theorem q_mk176 : q_mk 176 := ⟨q_w1687, q_pn12, rfl, q_mh12, by decide +kernel, by decide +kernel⟩
theorem q_mk177 : q_mk 177 := ⟨q_w1653, q_pn12, rfl, q_mh12, by decide +kernel, by decide +kernel⟩
theorem q_mk178 : q_mk 178 := ⟨q_w1661, q_pn12, rfl, q_mh12, by decide +kernel, by decide +kernel⟩
theorem q_mk179 : q_mk 179 := ⟨q_w1657, q_pn12, rfl, q_mh12, by decide +kernel, by decide +kernel⟩
theorem q_mk180 : q_mk 180 := ⟨q_w1649, q_pn12, rfl, q_mh12, by decide +kernel, by decide +kernel⟩
theorem q_mk181 : q_mk 181 := ⟨q_w1672, q_pn12, rfl, q_mh12, by decide +kernel, by decide +kernel⟩
theorem q_mk182 : q_mk 182 := ⟨q_w1668, q_pn12, rfl, q_mh12, by decide +kernel, by decide +kernel⟩
theorem q_mk183 : q_mk 183 := ⟨q_w1676, q_pn12, rfl, q_mh12, by decide +kernel, by decide +kernel⟩
theorem q_mk184 : q_mk 184 := ⟨q_w1637, q_pn12, rfl, q_mh12, by decide +kernel, by decide +kernel⟩
theorem q_mk185 : q_mk 185 := ⟨q_w1615, q_pn12, rfl, q_mh12, by decide +kernel, by decide +kernel⟩
theorem q_mk186 : q_mk 186 := ⟨q_w1691, q_pn12, rfl, q_mh12, by decide +kernel, by decide +kernel⟩
theorem q_mk187 : q_mk 187 := ⟨q_w1699, q_pn12, rfl, q_mh12, by decide +kernel, by decide +kernel⟩
theorem q_mk188 : q_mk 188 := ⟨q_w1715, q_pn12, rfl, q_mh12, by decide +kernel, by decide +kernel⟩
theorem q_mk189 : q_mk 189 := ⟨q_w1703, q_pn12, rfl, q_mh12, by decide +kernel, by decide +kernel⟩
theorem q_mk190 : q_mk 190 := ⟨q_w1695, q_pn12, rfl, q_mh12, by decide +kernel, by decide +kernel⟩
theorem q_mk191 : q_mk 191 := ⟨q_w1707, q_pn12, rfl, q_mh12, by decide +kernel, by decide +kernel⟩
theorem q_mk192 : q_mk 192 := ⟨q_w1723, q_pn12, rfl, q_mh12, by decide +kernel, by decide +kernel⟩
theorem q_mk193 : q_mk 193 := ⟨q_w1727, q_pn12, rfl, q_mh12, by decide +kernel, by decide +kernel⟩
theorem q_mk194 : q_mk 194 := ⟨q_w1711, q_pn12, rfl, q_mh12, by decide +kernel, by decide +kernel⟩
theorem q_mk195 : q_mk 195 := ⟨q_w1731, q_pn12, rfl, q_mh12, by decide +kernel, by decide +kernel⟩
theorem q_mk196 : q_mk 196 := ⟨q_w1739, q_pn12, rfl, q_mh12, by decide +kernel, by decide +kernel⟩
theorem q_mk197 : q_mk 197 := ⟨q_w1735, q_pn12, rfl, q_mh12, by decide +kernel, by decide +kernel⟩
theorem q_mk198 : q_mk 198 := ⟨q_w1747, q_pn12, rfl, q_mh12, by decide +kernel, by decide +kernel⟩
theorem q_mk199 : q_mk 199 := ⟨q_w1763, q_pn12, rfl, q_mh12, by decide +kernel, by decide +kernel⟩
theorem q_mk200 : q_mk 200 := ⟨q_w1759, q_pn12, rfl, q_mh12, by decide +kernel, by decide +kernel⟩
theorem q_mk201 : q_mk 201 := ⟨q_w1779, q_pn12, rfl, q_mh12, by decide +kernel, by decide +kernel⟩
theorem q_mk202 : q_mk 202 := ⟨q_w1775, q_pn12, rfl, q_mh12, by decide +kernel, by decide +kernel⟩
theorem q_mk203 : q_mk 203 := ⟨q_w1799, q_pn12, rfl, q_mh12, by decide +kernel, by decide +kernel⟩
theorem q_mk204 : q_mk 204 := ⟨q_w1795, q_pn12, rfl, q_mh12, by decide +kernel, by decide +kernel⟩
theorem q_mk205 : q_mk 205 := ⟨q_w1791, q_pn12, rfl, q_mh12, by decide +kernel, by decide +kernel⟩
theorem q_mk206 : q_mk 206 := ⟨q_w1743, q_pn12, rfl, q_mh12, by decide +kernel, by decide +kernel⟩
theorem q_mk207 : q_mk 207 := ⟨q_w1751, q_pn12, rfl, q_mh12, by decide +kernel, by decide +kernel⟩
theorem q_mk208 : q_mk 208 := ⟨q_w1771, q_pn12, rfl, q_mh12, by decide +kernel, by decide +kernel⟩
theorem q_mk209 : q_mk 209 := ⟨q_w1767, q_pn12, rfl, q_mh12, by decide +kernel, by decide +kernel⟩
theorem q_mk210 : q_mk 210 := ⟨q_w1787, q_pn12, rfl, q_mh12, by decide +kernel, by decide +kernel⟩
theorem q_mk211 : q_mk 211 := ⟨q_w1803, q_pn12, rfl, q_mh12, by decide +kernel, by decide +kernel⟩
theorem q_mk212 : q_mk 212 := ⟨q_w1755, q_pn12, rfl, q_mh12, by decide +kernel, by decide +kernel⟩
theorem q_mk213 : q_mk 213 := ⟨q_w1807, q_pn12, rfl, q_mh12, by decide +kernel, by decide +kernel⟩
theorem q_mk214 : q_mk 214 := ⟨q_w1815, q_pn12, rfl, q_mh12, by decide +kernel, by decide +kernel⟩
theorem q_mk215 : q_mk 215 := ⟨q_w1823, q_pn12, rfl, q_mh12, by decide +kernel, by decide +kernel⟩
theorem q_mk216 : q_mk 216 := ⟨q_w1827, q_pn12, rfl, q_mh12, by decide +kernel, by decide +kernel⟩
theorem q_mk217 : q_mk 217 := ⟨q_w1819, q_pn12, rfl, q_mh12, by decide +kernel, by decide +kernel⟩
theorem q_mk218 : q_mk 218 := ⟨q_w1811, q_pn12, rfl, q_mh12, by decide +kernel, by decide +kernel⟩
theorem q_mk219 : q_mk 219 := ⟨q_w1831, q_pn12, rfl, q_mh12, by decide +kernel, by decide +kernel⟩
theorem q_mk220 : q_mk 220 := ⟨q_w1839, q_pn12, rfl, q_mh12, by decide +kernel, by decide +kernel⟩
theorem q_mk221 : q_mk 221 := ⟨q_w1835, q_pn12, rfl, q_mh12, by decide +kernel, by decide +kernel⟩
theorem q_mk222 : q_mk 222 := ⟨q_w1847, q_pn12, rfl, q_mh12, by decide +kernel, by decide +kernel⟩
theorem q_mk223 : q_mk 223 := ⟨q_w1843, q_pn12, rfl, q_mh12, by decide +kernel, by decide +kernel⟩
theorem q_mk224 : q_mk 224 := ⟨q_w1862, q_pn12, rfl, q_mh12, by decide +kernel, by decide +kernel⟩
theorem q_mk225 : q_mk 225 := ⟨q_w1855, q_pn12, rfl, q_mh12, by decide +kernel, by decide +kernel⟩
theorem q_mk226 : q_mk 226 := ⟨q_w1858, q_pn12, rfl, q_mh12, by decide +kernel, by decide +kernel⟩
theorem q_mk227 : q_mk 227 := ⟨q_w1851, q_pn12, rfl, q_mh12, by decide +kernel, by decide +kernel⟩
theorem q_mk228 : q_mk 228 := ⟨q_w1866, q_pn12, rfl, q_mh12, by decide +kernel, by decide +kernel⟩
theorem q_mk229 : q_mk 229 := ⟨q_w1874, q_pn12, rfl, q_mh12, by decide +kernel, by decide +kernel⟩
theorem q_mk230 : q_mk 230 := ⟨q_w1870, q_pn12, rfl, q_mh12, by decide +kernel, by decide +kernel⟩
theorem q_mk231 : q_mk 231 := ⟨q_w1882, q_pn12, rfl, q_mh12, by decide +kernel, by decide +kernel⟩
theorem q_mk232 : q_mk 232 := ⟨q_w1898, q_pn12, rfl, q_mh12, by decide +kernel, by decide +kernel⟩
theorem q_mk233 : q_mk 233 := ⟨q_w1894, q_pn12, rfl, q_mh12, by decide +kernel, by decide +kernel⟩
theorem q_mk234 : q_mk 234 := ⟨q_w1902, q_pn12, rfl, q_mh12, by decide +kernel, by decide +kernel⟩
theorem q_mk235 : q_mk 235 := ⟨q_w1890, q_pn12, rfl, q_mh12, by decide +kernel, by decide +kernel⟩
theorem q_mk236 : q_mk 236 := ⟨q_w1886, q_pn12, rfl, q_mh12, by decide +kernel, by decide +kernel⟩
theorem q_mk237 : q_mk 237 := ⟨q_w1906, q_pn12, rfl, q_mh12, by decide +kernel, by decide +kernel⟩
theorem q_mk238 : q_mk 238 := ⟨q_w1910, q_pn12, rfl, q_mh12, by decide +kernel, by decide +kernel⟩
theorem q_mk239 : q_mk 239 := ⟨q_w1918, q_pn12, rfl, q_mh12, by decide +kernel, by decide +kernel⟩
theorem q_mk240 : q_mk 240 := ⟨q_w1914, q_pn12, rfl, q_mh12, by decide +kernel, by decide +kernel⟩
theorem q_mk241 : q_mk 241 := ⟨q_w1922, q_pn12, rfl, q_mh12, by decide +kernel, by decide +kernel⟩
theorem q_mk242 : q_mk 242 := ⟨q_w1934, q_pn12, rfl, q_mh12, by decide +kernel, by decide +kernel⟩
theorem q_mk243 : q_mk 243 := ⟨q_w1930, q_pn12, rfl, q_mh12, by decide +kernel, by decide +kernel⟩
theorem q_mk244 : q_mk 244 := ⟨q_w1926, q_pn12, rfl, q_mh12, by decide +kernel, by decide +kernel⟩
theorem q_mk245 : q_mk 245 := ⟨q_w1939, q_pn12, rfl, q_mh12, by decide +kernel, by decide +kernel⟩
theorem q_mk246 : q_mk 246 := ⟨q_w1947, q_pn12, rfl, q_mh12, by decide +kernel, by decide +kernel⟩
theorem q_mk247 : q_mk 247 := ⟨q_w1943, q_pn12, rfl, q_mh12, by decide +kernel, by decide +kernel⟩
theorem q_mk248 : q_mk 248 := ⟨q_w1955, q_pn12, rfl, q_mh12, by decide +kernel, by decide +kernel⟩
theorem q_mk249 : q_mk 249 := ⟨q_w1959, q_pn12, rfl, q_mh12, by decide +kernel, by decide +kernel⟩
theorem q_mk250 : q_mk 250 := ⟨q_w1951, q_pn12, rfl, q_mh12, by decide +kernel, by decide +kernel⟩
theorem q_mk251 : q_mk 251 := ⟨q_w1963, q_pn12, rfl, q_mh12, by decide +kernel, by decide +kernel⟩
theorem q_mk252 : q_mk 252 := ⟨q_w1975, q_pn12, rfl, q_mh12, by decide +kernel, by decide +kernel⟩
theorem q_mk253 : q_mk 253 := ⟨q_w1979, q_pn12, rfl, q_mh12, by decide +kernel, by decide +kernel⟩
theorem q_mk254 : q_mk 254 := ⟨q_w1971, q_pn12, rfl, q_mh12, by decide +kernel, by decide +kernel⟩
theorem q_mk255 : q_mk 255 := ⟨q_w1991, q_pn12, rfl, q_mh12, by decide +kernel, by decide +kernel⟩
theorem q_mk256 : q_mk 256 := ⟨q_w1987, q_pn12, rfl, q_mh12, by decide +kernel, by decide +kernel⟩
theorem q_mk257 : q_mk 257 := ⟨q_w1983, q_pn12, rfl, q_mh12, by decide +kernel, by decide +kernel⟩
theorem q_mk258 : q_mk 258 := ⟨q_w1967, q_pn12, rfl, q_mh12, by decide +kernel, by decide +kernel⟩
theorem q_mk259 : q_mk 259 := ⟨q_w2003, q_pn12, rfl, q_mh12, by decide +kernel, by decide +kernel⟩
theorem q_mk260 : q_mk 260 := ⟨q_w1999, q_pn12, rfl, q_mh12, by decide +kernel, by decide +kernel⟩
theorem q_mk261 : q_mk 261 := ⟨q_w1995, q_pn12, rfl, q_mh12, by decide +kernel, by decide +kernel⟩
theorem q_mk262 : q_mk 262 := ⟨q_w2007, q_pn12, rfl, q_mh12, by decide +kernel, by decide +kernel⟩
theorem q_mk263 : q_mk 263 := ⟨q_w2011, q_pn12, rfl, q_mh12, by decide +kernel, by decide +kernel⟩
theorem q_mk264 : q_mk 264 := ⟨q_w2015, q_pn12, rfl, q_mh12, by decide +kernel, by decide +kernel⟩
theorem q_mk267 : q_mk 267 := ⟨q_w1052, q_pn14, rfl, q_mh14, by decide +kernel, by decide +kernel⟩
theorem q_mk268 : q_mk 268 := ⟨q_w1175, q_pn0, rfl, q_mh0, by decide +kernel, by decide +kernel⟩
theorem q_mk269 : q_mk 269 := ⟨q_w1264, q_pn5, rfl, q_mh5, by decide +kernel, by decide +kernel⟩
theorem q_mk270 : q_mk 270 := ⟨q_w999, q_pn9, rfl, q_mh9, by decide +kernel, by decide +kernel⟩
theorem q_mok_of {k : Nat} (h : k < q_law) (hs : k ∉ q_sp) : q_mk k := by
  match k, h, hs with
  | 0, _, _ => exact q_mk0
  | 1, _, _ => exact q_mk1
  | 2, _, _ => exact q_mk2
  | 3, _, _ => exact q_mk3
  | 4, _, _ => exact q_mk4
  | 5, _, _ => exact q_mk5
  | 6, _, _ => exact q_mk6
  | 7, _, _ => exact q_mk7
  | 8, _, _ => exact q_mk8
  | 9, _, _ => exact q_mk9
  | 10, _, _ => exact q_mk10
  | 11, _, _ => exact q_mk11
  | 12, _, _ => exact q_mk12
  | 13, _, _ => exact q_mk13
  | 14, _, _ => exact q_mk14
  | 15, _, _ => exact q_mk15
  | 16, _, _ => exact q_mk16
  | 17, _, _ => exact q_mk17
  | 18, _, _ => exact q_mk18
  | 19, _, _ => exact q_mk19
  | 20, _, _ => exact q_mk20
  | 21, _, _ => exact q_mk21
  | 22, _, _ => exact q_mk22
  | 23, _, _ => exact q_mk23
  | 24, _, _ => exact q_mk24
  | 25, _, _ => exact q_mk25
  | 26, _, _ => exact q_mk26
  | 27, _, _ => exact q_mk27
  | 28, _, _ => exact q_mk28
  | 29, _, _ => exact q_mk29
  | 30, _, _ => exact q_mk30
  | 31, _, _ => exact q_mk31
  | 32, _, _ => exact q_mk32
  | 33, _, _ => exact q_mk33
  | 34, _, _ => exact q_mk34
  | 35, _, _ => exact q_mk35
  | 36, _, _ => exact q_mk36
  | 37, _, _ => exact q_mk37
  | 38, _, _ => exact q_mk38
  | 39, _, _ => exact q_mk39
  | 40, _, _ => exact q_mk40
  | 41, _, _ => exact q_mk41
  | 42, _, _ => exact q_mk42
  | 43, _, _ => exact q_mk43
  | 44, _, _ => exact q_mk44
  | 45, _, _ => exact q_mk45
  | 46, _, _ => exact q_mk46
  | 47, _, _ => exact q_mk47
  | 48, _, _ => exact q_mk48
  | 49, _, _ => exact q_mk49
  | 50, _, _ => exact q_mk50
  | 51, _, _ => exact q_mk51
  | 52, _, _ => exact q_mk52
  | 53, _, _ => exact q_mk53
  | 54, _, _ => exact q_mk54
  | 55, _, _ => exact q_mk55
  | 56, _, _ => exact q_mk56
  | 57, _, _ => exact q_mk57
  | 58, _, _ => exact q_mk58
  | 59, _, _ => exact q_mk59
  | 60, _, _ => exact q_mk60
  | 61, _, _ => exact q_mk61
  | 62, _, _ => exact q_mk62
  | 63, _, _ => exact q_mk63
  | 64, _, _ => exact q_mk64
  | 65, _, _ => exact q_mk65
  | 66, _, _ => exact q_mk66
  | 67, _, _ => exact q_mk67
  | 68, _, _ => exact q_mk68
  | 69, _, _ => exact q_mk69
  | 70, _, _ => exact q_mk70
  | 71, _, _ => exact q_mk71
  | 72, _, _ => exact q_mk72
  | 73, _, _ => exact q_mk73
  | 74, _, _ => exact q_mk74
  | 75, _, _ => exact q_mk75
  | 76, _, _ => exact q_mk76
  | 77, _, _ => exact q_mk77
  | 78, _, _ => exact q_mk78
  | 79, _, _ => exact q_mk79
  | 80, _, _ => exact q_mk80
  | 81, _, _ => exact q_mk81
  | 82, _, _ => exact q_mk82
  | 83, _, _ => exact q_mk83
  | 84, _, _ => exact q_mk84
  | 85, _, _ => exact q_mk85
  | 86, _, _ => exact q_mk86
  | 87, _, _ => exact q_mk87
  | 88, _, _ => exact q_mk88
  | 89, _, _ => exact q_mk89
  | 90, _, _ => exact q_mk90
  | 91, _, _ => exact q_mk91
  | 92, _, _ => exact q_mk92
  | 93, _, _ => exact q_mk93
  | 94, _, _ => exact q_mk94
  | 95, _, _ => exact q_mk95
  | 96, _, _ => exact q_mk96
  | 97, _, _ => exact q_mk97
  | 98, _, _ => exact q_mk98
  | 99, _, _ => exact q_mk99
  | 100, _, _ => exact q_mk100
  | 101, _, _ => exact q_mk101
  | 102, _, _ => exact q_mk102
  | 103, _, _ => exact q_mk103
  | 104, _, _ => exact q_mk104
  | 105, _, _ => exact q_mk105
  | 106, _, _ => exact q_mk106
  | 107, _, _ => exact q_mk107
  | 108, _, _ => exact q_mk108
  | 109, _, _ => exact q_mk109
  | 110, _, _ => exact q_mk110
  | 111, _, _ => exact q_mk111
  | 112, _, _ => exact q_mk112
  | 113, _, _ => exact q_mk113
  | 114, _, _ => exact q_mk114
  | 115, _, _ => exact q_mk115
  | 116, _, _ => exact q_mk116
  | 117, _, _ => exact q_mk117
  | 118, _, _ => exact q_mk118
  | 119, _, _ => exact q_mk119
  | 120, _, _ => exact q_mk120
  | 121, _, _ => exact q_mk121
  | 122, _, _ => exact q_mk122
  | 123, _, _ => exact q_mk123
  | 124, _, _ => exact q_mk124
  | 125, _, _ => exact q_mk125
  | 126, _, _ => exact q_mk126
  | 127, _, _ => exact q_mk127
  | 128, _, _ => exact q_mk128
  | 129, _, _ => exact q_mk129
  | 130, _, _ => exact q_mk130
  | 131, _, _ => exact q_mk131
  | 132, _, _ => exact q_mk132
  | 133, _, _ => exact q_mk133
  | 134, _, _ => exact q_mk134
  | 135, _, _ => exact q_mk135
  | 136, _, _ => exact q_mk136
  | 137, _, _ => exact q_mk137
  | 138, _, _ => exact q_mk138
  | 139, _, _ => exact q_mk139
  | 140, _, _ => exact q_mk140
  | 141, _, _ => exact q_mk141
  | 142, _, _ => exact q_mk142
  | 143, _, _ => exact q_mk143
  | 144, _, _ => exact q_mk144
  | 145, _, _ => exact q_mk145
  | 146, _, _ => exact q_mk146
  | 147, _, _ => exact q_mk147
  | 148, _, _ => exact q_mk148
  | 149, _, _ => exact q_mk149
  | 150, _, _ => exact q_mk150
  | 151, _, _ => exact q_mk151
  | 152, _, _ => exact q_mk152
  | 153, _, _ => exact q_mk153
  | 154, _, _ => exact q_mk154
  | 155, _, _ => exact q_mk155
  | 156, _, _ => exact q_mk156
  | 157, _, _ => exact q_mk157
  | 158, _, _ => exact q_mk158
  | 159, _, _ => exact q_mk159
  | 160, _, _ => exact q_mk160
  | 161, _, _ => exact q_mk161
  | 162, _, _ => exact q_mk162
  | 163, _, _ => exact q_mk163
  | 164, _, _ => exact q_mk164
  | 165, _, _ => exact q_mk165
  | 166, _, _ => exact q_mk166
  | 167, _, _ => exact q_mk167
  | 168, _, _ => exact q_mk168
  | 169, _, _ => exact q_mk169
  | 170, _, _ => exact q_mk170
  | 171, _, _ => exact q_mk171
  | 172, _, _ => exact q_mk172
  | 173, _, _ => exact q_mk173
  | 174, _, _ => exact q_mk174
  | 175, _, _ => exact q_mk175
  | 176, _, _ => exact q_mk176
  | 177, _, _ => exact q_mk177
  | 178, _, _ => exact q_mk178
  | 179, _, _ => exact q_mk179
  | 180, _, _ => exact q_mk180
  | 181, _, _ => exact q_mk181
  | 182, _, _ => exact q_mk182
  | 183, _, _ => exact q_mk183
  | 184, _, _ => exact q_mk184
  | 185, _, _ => exact q_mk185
  | 186, _, _ => exact q_mk186
  | 187, _, _ => exact q_mk187
  | 188, _, _ => exact q_mk188
  | 189, _, _ => exact q_mk189
  | 190, _, _ => exact q_mk190
  | 191, _, _ => exact q_mk191
  | 192, _, _ => exact q_mk192
  | 193, _, _ => exact q_mk193
  | 194, _, _ => exact q_mk194
  | 195, _, _ => exact q_mk195
  | 196, _, _ => exact q_mk196
  | 197, _, _ => exact q_mk197
  | 198, _, _ => exact q_mk198
  | 199, _, _ => exact q_mk199
  | 200, _, _ => exact q_mk200
  | 201, _, _ => exact q_mk201
  | 202, _, _ => exact q_mk202
  | 203, _, _ => exact q_mk203
  | 204, _, _ => exact q_mk204
  | 205, _, _ => exact q_mk205
  | 206, _, _ => exact q_mk206
  | 207, _, _ => exact q_mk207
  | 208, _, _ => exact q_mk208
  | 209, _, _ => exact q_mk209
  | 210, _, _ => exact q_mk210
  | 211, _, _ => exact q_mk211
  | 212, _, _ => exact q_mk212
  | 213, _, _ => exact q_mk213
  | 214, _, _ => exact q_mk214
  | 215, _, _ => exact q_mk215
  | 216, _, _ => exact q_mk216
  | 217, _, _ => exact q_mk217
  | 218, _, _ => exact q_mk218
  | 219, _, _ => exact q_mk219
  | 220, _, _ => exact q_mk220
  | 221, _, _ => exact q_mk221
  | 222, _, _ => exact q_mk222
  | 223, _, _ => exact q_mk223
  | 224, _, _ => exact q_mk224
  | 225, _, _ => exact q_mk225
  | 226, _, _ => exact q_mk226
  | 227, _, _ => exact q_mk227
  | 228, _, _ => exact q_mk228
  | 229, _, _ => exact q_mk229
  | 230, _, _ => exact q_mk230
  | 231, _, _ => exact q_mk231
  | 232, _, _ => exact q_mk232
  | 233, _, _ => exact q_mk233
  | 234, _, _ => exact q_mk234
  | 235, _, _ => exact q_mk235
  | 236, _, _ => exact q_mk236
  | 237, _, _ => exact q_mk237
  | 238, _, _ => exact q_mk238
  | 239, _, _ => exact q_mk239
  | 240, _, _ => exact q_mk240
  | 241, _, _ => exact q_mk241
  | 242, _, _ => exact q_mk242
  | 243, _, _ => exact q_mk243
  | 244, _, _ => exact q_mk244
  | 245, _, _ => exact q_mk245
  | 246, _, _ => exact q_mk246
  | 247, _, _ => exact q_mk247
  | 248, _, _ => exact q_mk248
  | 249, _, _ => exact q_mk249
  | 250, _, _ => exact q_mk250
  | 251, _, _ => exact q_mk251
  | 252, _, _ => exact q_mk252
  | 253, _, _ => exact q_mk253
  | 254, _, _ => exact q_mk254
  | 255, _, _ => exact q_mk255
  | 256, _, _ => exact q_mk256
  | 257, _, _ => exact q_mk257
  | 258, _, _ => exact q_mk258
  | 259, _, _ => exact q_mk259
  | 260, _, _ => exact q_mk260
  | 261, _, _ => exact q_mk261
  | 262, _, _ => exact q_mk262
  | 263, _, _ => exact q_mk263
  | 264, _, _ => exact q_mk264
  | 265, _, hs => exact absurd (by decide) hs
  | 266, _, hs => exact absurd (by decide) hs
  | 267, _, _ => exact q_mk267
  | 268, _, _ => exact q_mk268
  | 269, _, _ => exact q_mk269
  | 270, _, _ => exact q_mk270
  | n + 271, h, _ => exact absurd h (by show ¬ n + 271 < 271; omega)
theorem q_w259 : (Jvm.Cond.arrayClass Jvm.ClassFile.FieldType.int) ∈ WS := q_in_tab (q_c1 (j := 151) rfl) rfl
theorem q_w260 : (Jvm.Cond.arrayClass Jvm.ClassFile.FieldType.long) ∈ WS := q_in_tab (q_c1 (j := 152) rfl) rfl
theorem q_w261 : (Jvm.Cond.arrayClass Jvm.ClassFile.FieldType.byte) ∈ WS := q_in_tab (q_c1 (j := 153) rfl) rfl
theorem q_w1611 : (Jvm.Cond.arrayClass Jvm.ClassFile.FieldType.boolean) ∈ WS := q_in_tab (q_c7 (j := 63) rfl) rfl
theorem q_arr : ∀ w ∈ [Cond.arrayClass .int, Cond.arrayClass .long, Cond.arrayClass .byte, Cond.arrayClass .boolean], w ∈ WS := q_all_of (show q_all (fun w => w ∈ WS) _ from ⟨q_w259, ⟨q_w260, ⟨q_w261, ⟨q_w1611, True.intro⟩⟩⟩⟩)
/-- what a pool's entry says of the method that it names -/
def q_tgb (x : Nat × Nat × Nat × Nat × Int) : Bool :=
  if x.2.1 = 1 ∨ x.2.1 = 4 ∨ x.2.1 = 5 then decide (x.2.2.1 < q_law) && decide (x.2.2.1 ∉ q_sp) && decide (x.2.2.1 ∉ q_sts) && decide (mO x.2.2.1 < 13) && (if x.2.1 = 1 then true else decide (mR x.2.2.1 = none) && decide ((mY x.2.2.1).name = "<init>"))
  else if x.2.1 = 2 ∨ x.2.1 = 3 then decide (x.2.2.1 < q_law) && decide (x.2.2.1 ∉ q_sp) && decide (x.2.2.1 ∈ q_sts) else if x.2.1 = 13 then decide (x.2.2.1 = iX11_soul) else if x.2.1 = 14 then decide (x.2.2.1 = iX11_net) else true
set_option maxRecDepth 100000 in
theorem q_tg0 : q_pl0.all q_tgb = true := by decide +kernel
set_option maxRecDepth 100000 in
theorem q_tg1 : q_pl1.all q_tgb = true := by decide +kernel
set_option maxRecDepth 100000 in
theorem q_tg2 : q_pl2.all q_tgb = true := by decide +kernel
set_option maxRecDepth 100000 in
theorem q_tg3 : q_pl3.all q_tgb = true := by decide +kernel
set_option maxRecDepth 100000 in
theorem q_tg4 : q_pl4.all q_tgb = true := by decide +kernel
set_option maxRecDepth 100000 in
theorem q_tg5 : q_pl5.all q_tgb = true := by decide +kernel
set_option maxRecDepth 100000 in
theorem q_tg6 : q_pl6.all q_tgb = true := by decide +kernel
set_option maxRecDepth 100000 in
theorem q_tg7 : q_pl7.all q_tgb = true := by decide +kernel
set_option maxRecDepth 100000 in
theorem q_tg8 : q_pl8.all q_tgb = true := by decide +kernel
set_option maxRecDepth 100000 in
theorem q_tg9 : q_pl9.all q_tgb = true := by decide +kernel
set_option maxRecDepth 100000 in
theorem q_tg10 : q_pl10.all q_tgb = true := by decide +kernel
set_option maxRecDepth 100000 in
theorem q_tg11 : q_pl11.all q_tgb = true := by decide +kernel
set_option maxRecDepth 100000 in
theorem q_tg12 : q_pl12.all q_tgb = true := by decide +kernel
set_option maxRecDepth 100000 in
theorem q_tg13 : q_pl13.all q_tgb = true := by decide +kernel
set_option maxRecDepth 100000 in
theorem q_tg14 : q_pl14.all q_tgb = true := by decide +kernel
theorem q_tag {o i : Nat} {q : Nat × Nat × Nat × Int} (h : pl o i = some q) : q_tgb (i, q) = true := by
  unfold pl at h
  have h1 := q_lk_mem h
  match o, h1 with
  | 0, h1 => exact List.all_eq_true.mp q_tg0 _ h1
  | 1, h1 => exact List.all_eq_true.mp q_tg1 _ h1
  | 2, h1 => exact List.all_eq_true.mp q_tg2 _ h1
  | 3, h1 => exact List.all_eq_true.mp q_tg3 _ h1
  | 4, h1 => exact List.all_eq_true.mp q_tg4 _ h1
  | 5, h1 => exact List.all_eq_true.mp q_tg5 _ h1
  | 6, h1 => exact List.all_eq_true.mp q_tg6 _ h1
  | 7, h1 => exact List.all_eq_true.mp q_tg7 _ h1
  | 8, h1 => exact List.all_eq_true.mp q_tg8 _ h1
  | 9, h1 => exact List.all_eq_true.mp q_tg9 _ h1
  | 10, h1 => exact List.all_eq_true.mp q_tg10 _ h1
  | 11, h1 => exact List.all_eq_true.mp q_tg11 _ h1
  | 12, h1 => exact List.all_eq_true.mp q_tg12 _ h1
  | 13, h1 => exact List.all_eq_true.mp q_tg13 _ h1
  | 14, h1 => exact List.all_eq_true.mp q_tg14 _ h1
  | n + 15, h1 => simp [q_pll] at h1
