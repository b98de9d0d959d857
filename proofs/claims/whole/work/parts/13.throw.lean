theorem q_t20 : (Jvm.Cond.initialized "java/lang/Throwable") ∈ WS := q_in_tab (q_c1 (j := 20) rfl) rfl
theorem q_t1267 : (Jvm.Cond.superclass "java/lang/Throwable" "java/lang/Object") ∈ WS := q_in_tab (q_c6 (j := 67) rfl) rfl
theorem q_t1276 : (Jvm.Cond.instanceMethod ({ cls := "java/lang/Throwable", name := "fillInStackTrace", desc := "()Ljava/lang/Throwable;" } : Jvm.MethodName)) ∈ WS := q_in_tab (q_c6 (j := 76) rfl) rfl
theorem q_t1278 : (Jvm.Cond.codeSync ({ cls := "java/lang/Throwable", name := "fillInStackTrace", desc := "()Ljava/lang/Throwable;" } : Jvm.MethodName) prog_26_method_18_code (1 : Nat) (Option.some (Jvm.ClassFile.FieldType.object "java/lang/Throwable"))) ∈ WS := q_in_tab (q_c6 (j := 78) rfl) rfl
theorem q_t1281 : (Jvm.Cond.instanceMethod ({ cls := "java/lang/Throwable", name := "fillInStackTrace", desc := "(I)Ljava/lang/Throwable;" } : Jvm.MethodName)) ∈ WS := q_in_tab (q_c6 (j := 81) rfl) rfl
theorem q_t1283 : (Jvm.Cond.native ({ cls := "java/lang/Throwable", name := "fillInStackTrace", desc := "(I)Ljava/lang/Throwable;" } : Jvm.MethodName)) ∈ WS := q_in_tab (q_c6 (j := 83) rfl) rfl
theorem q_t1268 : (Jvm.Cond.instanceMethod ({ cls := "java/lang/Throwable", name := "<init>", desc := "()V" } : Jvm.MethodName)) ∈ WS := q_in_tab (q_c6 (j := 68) rfl) rfl
theorem q_t1269 : (Jvm.Cond.code ({ cls := "java/lang/Throwable", name := "<init>", desc := "()V" } : Jvm.MethodName) prog_26_method_1_code (1 : Nat) (Option.none : Option Jvm.ClassFile.FieldType)) ∈ WS := q_in_tab (q_c6 (j := 69) rfl) rfl
theorem q_t31 : (Jvm.Cond.instanceMethod ({ cls := "java/lang/Object", name := "<init>", desc := "()V" } : Jvm.MethodName)) ∈ WS := q_in_tab (q_c1 (j := 31) rfl) rfl
theorem q_t32 : (Jvm.Cond.code ({ cls := "java/lang/Object", name := "<init>", desc := "()V" } : Jvm.MethodName) object_method_1_code (1 : Nat) (Option.none : Option Jvm.ClassFile.FieldType)) ∈ WS := q_in_tab (q_c1 (j := 32) rfl) rfl
theorem q_t1270 : (Jvm.Cond.methodLink "java/lang/Throwable" (1 : Nat) ({ cls := "java/lang/Object", name := "<init>", desc := "()V" } : Jvm.MethodName)) ∈ WS := q_in_tab (q_c6 (j := 70) rfl) rfl
theorem q_t1275 : (Jvm.Cond.methodLink "java/lang/Throwable" (27 : Nat) ({ cls := "java/lang/Throwable", name := "fillInStackTrace", desc := "()Ljava/lang/Throwable;" } : Jvm.MethodName)) ∈ WS := q_in_tab (q_c6 (j := 75) rfl) rfl
theorem q_t1279 : (Jvm.Cond.methodLink "java/lang/Throwable" (202 : Nat) ({ cls := "java/lang/Throwable", name := "fillInStackTrace", desc := "(I)Ljava/lang/Throwable;" } : Jvm.MethodName)) ∈ WS := q_in_tab (q_c6 (j := 79) rfl) rfl
theorem q_t1295 : (Jvm.Cond.fieldLink "java/lang/Throwable" (7 : Nat) "java/lang/Throwable" "cause" "Ljava/lang/Throwable;") ∈ WS := q_in_tab (q_c6 (j := 95) rfl) rfl
theorem q_t1257 : (Jvm.Cond.lays "java/lang/Throwable" "java/lang/Throwable" "cause" "Ljava/lang/Throwable;") ∈ WS := q_in_tab (q_c6 (j := 57) rfl) rfl
theorem q_t1296 : (Jvm.Cond.fieldLink "java/lang/Throwable" (17 : Nat) "java/lang/Throwable" "stackTrace" "[Ljava/lang/StackTraceElement;") ∈ WS := q_in_tab (q_c6 (j := 96) rfl) rfl
theorem q_t1259 : (Jvm.Cond.lays "java/lang/Throwable" "java/lang/Throwable" "stackTrace" "[Ljava/lang/StackTraceElement;") ∈ WS := q_in_tab (q_c6 (j := 59) rfl) rfl
theorem q_t1297 : (Jvm.Cond.fieldLink "java/lang/Throwable" (24 : Nat) "java/lang/Throwable" "suppressedExceptions" "Ljava/util/List;") ∈ WS := q_in_tab (q_c6 (j := 97) rfl) rfl
theorem q_t1261 : (Jvm.Cond.lays "java/lang/Throwable" "java/lang/Throwable" "suppressedExceptions" "Ljava/util/List;") ∈ WS := q_in_tab (q_c6 (j := 61) rfl) rfl
theorem q_t1271 : (Jvm.Cond.fieldLink "java/lang/Throwable" (13 : Nat) "java/lang/Throwable" "UNASSIGNED_STACK" "[Ljava/lang/StackTraceElement;") ∈ WS := q_in_tab (q_c6 (j := 71) rfl) rfl
theorem q_t1273 : (Jvm.Cond.fieldLink "java/lang/Throwable" (20 : Nat) "java/lang/Throwable" "SUPPRESSED_SENTINEL" "Ljava/util/List;") ∈ WS := q_in_tab (q_c6 (j := 73) rfl) rfl
theorem q_t1263 : (Jvm.Cond.lays "java/lang/Throwable" "java/lang/Throwable" "detailMessage" "Ljava/lang/String;") ∈ WS := q_in_tab (q_c6 (j := 63) rfl) rfl
theorem q_t1285 : (Jvm.Cond.instanceMethod ({ cls := "java/util/NoSuchElementException", name := "<init>", desc := "()V" } : Jvm.MethodName)) ∈ WS := q_in_tab (q_c6 (j := 85) rfl) rfl
theorem q_t1286 : (Jvm.Cond.code ({ cls := "java/util/NoSuchElementException", name := "<init>", desc := "()V" } : Jvm.MethodName) prog_29_method_1_code (1 : Nat) (Option.none : Option Jvm.ClassFile.FieldType)) ∈ WS := q_in_tab (q_c6 (j := 86) rfl) rfl
theorem q_t1287 : (Jvm.Cond.methodLink "java/util/NoSuchElementException" (1 : Nat) ({ cls := "java/lang/RuntimeException", name := "<init>", desc := "()V" } : Jvm.MethodName)) ∈ WS := q_in_tab (q_c6 (j := 87) rfl) rfl
theorem q_t1288 : (Jvm.Cond.instanceMethod ({ cls := "java/lang/RuntimeException", name := "<init>", desc := "()V" } : Jvm.MethodName)) ∈ WS := q_in_tab (q_c6 (j := 88) rfl) rfl
theorem q_t1248 : (Jvm.Cond.declares ({ cls := "java/lang/RuntimeException", name := "<init>", desc := "()V" } : Jvm.MethodName)) ∈ q_NW := q_in_nest (q_c6 (j := 48) rfl) rfl
theorem q_t1289 : (Jvm.Cond.code ({ cls := "java/lang/RuntimeException", name := "<init>", desc := "()V" } : Jvm.MethodName) prog_21_method_1_code (1 : Nat) (Option.none : Option Jvm.ClassFile.FieldType)) ∈ WS := q_in_tab (q_c6 (j := 89) rfl) rfl
theorem q_t1290 : (Jvm.Cond.methodLink "java/lang/RuntimeException" (1 : Nat) ({ cls := "java/lang/Exception", name := "<init>", desc := "()V" } : Jvm.MethodName)) ∈ WS := q_in_tab (q_c6 (j := 90) rfl) rfl
theorem q_t1291 : (Jvm.Cond.instanceMethod ({ cls := "java/lang/Exception", name := "<init>", desc := "()V" } : Jvm.MethodName)) ∈ WS := q_in_tab (q_c6 (j := 91) rfl) rfl
theorem q_t1250 : (Jvm.Cond.declares ({ cls := "java/lang/Exception", name := "<init>", desc := "()V" } : Jvm.MethodName)) ∈ q_NW := q_in_nest (q_c6 (j := 50) rfl) rfl
theorem q_t1292 : (Jvm.Cond.code ({ cls := "java/lang/Exception", name := "<init>", desc := "()V" } : Jvm.MethodName) prog_18_method_1_code (1 : Nat) (Option.none : Option Jvm.ClassFile.FieldType)) ∈ WS := q_in_tab (q_c6 (j := 92) rfl) rfl
theorem q_t1293 : (Jvm.Cond.methodLink "java/lang/Exception" (1 : Nat) ({ cls := "java/lang/Throwable", name := "<init>", desc := "()V" } : Jvm.MethodName)) ∈ WS := q_in_tab (q_c6 (j := 93) rfl) rfl
theorem q_t1252 : (Jvm.Cond.declares ({ cls := "java/lang/Throwable", name := "<init>", desc := "()V" } : Jvm.MethodName)) ∈ q_NW := q_in_nest (q_c6 (j := 52) rfl) rfl
theorem q_t1284 : (Jvm.Cond.methodLink "SoulOffice" (218 : Nat) ({ cls := "java/util/NoSuchElementException", name := "<init>", desc := "()V" } : Jvm.MethodName)) ∈ WS := q_in_tab (q_c6 (j := 84) rfl) rfl
theorem q_t1246 : (Jvm.Cond.instantiable "java/util/NoSuchElementException" (6 : Nat)) ∈ WS := q_in_tab (q_c6 (j := 46) rfl) rfl
theorem q_t1247 : (Jvm.Cond.castable "java/util/NoSuchElementException" "java/util/NoSuchElementException") ∈ q_NW := q_in_nest (q_c6 (j := 47) rfl) rfl
theorem q_t1254 : (Jvm.Cond.selects "java/util/NoSuchElementException" ({ cls := "java/lang/Throwable", name := "fillInStackTrace", desc := "(I)Ljava/lang/Throwable;" } : Jvm.MethodName) ({ cls := "java/lang/Throwable", name := "fillInStackTrace", desc := "(I)Ljava/lang/Throwable;" } : Jvm.MethodName)) ∈ WS := q_in_tab (q_c6 (j := 54) rfl) rfl
theorem q_t1255 : (Jvm.Cond.selects "java/util/NoSuchElementException" ({ cls := "java/lang/Throwable", name := "fillInStackTrace", desc := "()Ljava/lang/Throwable;" } : Jvm.MethodName) ({ cls := "java/lang/Throwable", name := "fillInStackTrace", desc := "()Ljava/lang/Throwable;" } : Jvm.MethodName)) ∈ WS := q_in_tab (q_c6 (j := 55) rfl) rfl
theorem q_t1256 : (Jvm.Cond.lays "java/util/NoSuchElementException" "java/lang/Throwable" "cause" "Ljava/lang/Throwable;") ∈ WS := q_in_tab (q_c6 (j := 56) rfl) rfl
theorem q_t1258 : (Jvm.Cond.lays "java/util/NoSuchElementException" "java/lang/Throwable" "stackTrace" "[Ljava/lang/StackTraceElement;") ∈ WS := q_in_tab (q_c6 (j := 58) rfl) rfl
theorem q_t1260 : (Jvm.Cond.lays "java/util/NoSuchElementException" "java/lang/Throwable" "suppressedExceptions" "Ljava/util/List;") ∈ WS := q_in_tab (q_c6 (j := 60) rfl) rfl
theorem q_t1262 : (Jvm.Cond.lays "java/util/NoSuchElementException" "java/lang/Throwable" "detailMessage" "Ljava/lang/String;") ∈ WS := q_in_tab (q_c6 (j := 62) rfl) rfl
theorem q_t1266 : (Jvm.Cond.fieldLink "java/lang/Throwable" (198 : Nat) "java/lang/Throwable" "backtrace" "Ljava/lang/Object;") ∈ WS := q_in_tab (q_c6 (j := 66) rfl) rfl
theorem q_t1265 : (Jvm.Cond.lays "java/lang/Throwable" "java/lang/Throwable" "backtrace" "Ljava/lang/Object;") ∈ WS := q_in_tab (q_c6 (j := 65) rfl) rfl
theorem q_t1264 : (Jvm.Cond.lays "java/util/NoSuchElementException" "java/lang/Throwable" "backtrace" "Ljava/lang/Object;") ∈ WS := q_in_tab (q_c6 (j := 64) rfl) rfl
theorem q_thr0 : q_all (fun w => vx_no w = true → w ∈ WS ∨ w ∈ q_NW) (Bundle.ownAtoms0 RX11 218 "java/util/NoSuchElementException" ["java/lang/RuntimeException", "java/lang/Exception"]) := ⟨fun _ => Or.inl q_t20, ⟨fun _ => Or.inl q_t1267, ⟨fun _ => Or.inl q_t1276, ⟨fun _ => Or.inl q_t1278, ⟨fun _ => Or.inl q_t1281, ⟨fun _ => Or.inl q_t1283, ⟨fun _ => Or.inl q_t1268, ⟨fun _ => Or.inl q_t1269, ⟨fun _ => Or.inl q_t31, ⟨fun _ => Or.inl q_t32, ⟨fun _ => Or.inl q_t1270, ⟨fun _ => Or.inl q_t1275, ⟨fun _ => Or.inl q_t1279, ⟨fun _ => Or.inl q_t1295, ⟨fun _ => Or.inl q_t1257, ⟨fun _ => Or.inl q_t1296, ⟨fun _ => Or.inl q_t1259, ⟨fun _ => Or.inl q_t1297, ⟨fun _ => Or.inl q_t1261, ⟨fun _ => Or.inl q_t1271, ⟨fun z => absurd z (by decide +kernel), ⟨fun _ => Or.inl q_t1273, ⟨fun z => absurd z (by decide +kernel), ⟨fun _ => Or.inl q_t1263, ⟨fun _ => Or.inl q_t1285, ⟨fun _ => Or.inl q_t1286, ⟨fun _ => Or.inl q_t1287, ⟨fun _ => Or.inl q_t1288, ⟨fun _ => Or.inr q_t1248, ⟨fun _ => Or.inl q_t1288, ⟨fun _ => Or.inl q_t1289, ⟨fun _ => Or.inl q_t1290, ⟨fun _ => Or.inl q_t1291, ⟨fun _ => Or.inr q_t1250, ⟨fun _ => Or.inl q_t1291, ⟨fun _ => Or.inl q_t1292, ⟨fun _ => Or.inl q_t1293, ⟨fun _ => Or.inl q_t1268, ⟨fun _ => Or.inr q_t1252, ⟨fun _ => Or.inl q_t1284, ⟨fun _ => Or.inl q_t1246, ⟨fun _ => Or.inr q_t1247, ⟨fun _ => Or.inl q_t1254, ⟨fun _ => Or.inl q_t1255, ⟨fun _ => Or.inl q_t1256, ⟨fun _ => Or.inl q_t1258, ⟨fun _ => Or.inl q_t1260, ⟨fun _ => Or.inl q_t1262, ⟨fun z => absurd z (by decide +kernel), ⟨fun z => absurd z (by decide +kernel), ⟨fun _ => Or.inl q_t1266, ⟨fun _ => Or.inl q_t1265, ⟨fun _ => Or.inl q_t1264, True.intro⟩⟩⟩⟩⟩⟩⟩⟩⟩⟩⟩⟩⟩⟩⟩⟩⟩⟩⟩⟩⟩⟩⟩⟩⟩⟩⟩⟩⟩⟩⟩⟩⟩⟩⟩⟩⟩⟩⟩⟩⟩⟩⟩⟩⟩⟩⟩⟩⟩⟩⟩⟩⟩
theorem q_thr : ∀ w ∈ vx_at0 RX11 218 "java/util/NoSuchElementException" ["java/lang/RuntimeException", "java/lang/Exception"], w ∈ WS ∨ w ∈ q_NW := fun w hw => q_all_of q_thr0 w (List.mem_filter.mp hw).1 (List.mem_filter.mp hw).2
theorem q_t1245 : (Jvm.Cond.classLink "SoulOffice" (216 : Nat) "java/util/NoSuchElementException") ∈ WS := q_in_tab (q_c6 (j := 45) rfl) rfl
theorem q_t23 : (Jvm.Cond.initialized "java/util/NoSuchElementException") ∈ WS := q_in_tab (q_c1 (j := 23) rfl) rfl
theorem q_t1240 : (Jvm.Cond.classLink "SoulOfficeLaw" (13 : Nat) "java/util/NoSuchElementException") ∈ WS := q_in_tab (q_c6 (j := 40) rfl) rfl
theorem q_ot {w : Cond} (h : w ∈ WS) : vx_ot w = true := by
  have h1 := (List.mem_filter.mp h).2
  simp [vx_ot, h1]
theorem q_kix {i z1 z2 : Nat} {z3 : Int} (h : pl 11 i = some (17, z1, z2, z3)) : i = 216 := by
  have h1 := q_lk_mem h
  have h2 : q_pl11.all (fun x => decide (x.2.1 = 17 → x.1 = 216)) = true := by decide +kernel
  have h3 := List.all_eq_true.mp h2 _ h1
  exact of_decide_eq_true h3 rfl
section Q11
variable {p : Program} {l : Launch} {e : Env} {R : Room} {s : State} {m : MethodId} {args : Array Value} {below : List Frame} {meth : Method} {c : Code} {Q : State → Prop} {Z : ZZ} {D : va_G} {sc : Nat × (Nat → Int32)} {mi d pc pc' len : Nat} {ins : Instr} {L L' : LV} {st st' : List AV} {h h' : HH} {cells slots r : Nat} {H H1 : Heap} {locs locs1 : List Loc} {i n : Nat}
theorem q_cW_x1 : cW Z (q_x1 h) = cW Z h := by
  unfold cW
  apply List.map_congr_left
  intro i hi
  rw [cE_congr (h := h) (h' := q_x1 h) (r := i + 1) rfl ?_ (fun _ => rfl)]
  show q_up h.2 0 0 (h.2 0 0 + 1) (i + 1) = h.2 (i + 1)
  rw [q_up, q_uf_ne (by omega)]
/-- what a method has done that throws -/
def q_XC (Z : ZZ) (D : va_G) (sc : Nat × (Nat → Int32)) (h' : HH) : String → State → State → Prop := vx_X (fun _ : Unit => True) (fun E _ t => E = "java/util/NoSuchElementException" ∧ va_P D vwCl (cW Z h') t.heap ∧ va_D (aZ Z) (cW Z h') ∧ h'.1.2.2.2.2 = sc ∧ 0 ≤ h'.2 0 0) (aZ Z)
theorem q_fitX : Bundle.fit "java/util/NoSuchElementException" = true := by decide +kernel
theorem q_fitN : ∀ n ∈ ["java/lang/RuntimeException", "java/lang/Exception"], Bundle.fit n = true := by decide +kernel
theorem q_sid (h : s.vm.findClass (oN 11) = some m.cls) : s.vm.findClass RX11 = some m.cls := h
set_option maxHeartbeats 1000000 in
/-- the contract of a method that throws -/
theorem q_metX (IH : SimP n) (hKey : q_Key l) (hST : l.stackTraces = false) {k d pc0 : Nat} {L0 : LV} {as : List AV} {h1 : HH} (hk : k < q_law) (hks : k ∉ q_sp) (hO : mO k = 11) (hle : (q_al as).length ≤ mL k) (he : ev n d k 0 (q_ent k as) [] h = some (.inr (pc0, L0), h1)) :
    vx_Met l (mY k) (.code (mY k) (mC k) (mL k) (mR k) :: WS) (q_rm d (nC h1 - nC h + 1) (nU h1 - nU h + 6)) (va_Pc (as.map (cv Z)) (q_Pre Z D sc h)) (va_Qi (fun (_ : Int32) (_ : Unit) => False) (fun _ _ => False) (aZ Z)) (q_XC Z D sc h1) (nC h1 - nC h + 1) (nU h1 - nU h + 6) (aZ Z) := by
  obtain ⟨m1, m2, m3, m4, m5, m6⟩ := q_mok_of hk hks
  have hmo := ev_mono _ _ _ _ _ _ _ _ _ he
  refine vx_ofW (cc := mC k) (maxL := mL k) (ret := mR k) m2 rfl ?_
  intro p e s m args below meth c s₁ B hml htab hv
  obtain ⟨rfl, a1, a2, a3, a4, a5, a6, a7, a8⟩ := hv
  have hts := atoms_spec (ws := .code (mY k) (mC k) (mL k) (mR k) :: WS) B.pre
  have hown : s.vm.findClass (oN (mO k)) = some m.cls := by rw [← m3]; exact findClass_of_methodNamed B.named
  have hnm := (name_of_methodNamed B.named B.method).1
  obtain ⟨hRL, hlen⟩ := q_ent_RL (Z := Z) hle
  have F : q_Fx p (q_rm d (nC h1 - nC h + 1) (nU h1 - nU h + 6)) s m (as.map (cv Z)).toArray meth c Z D sc k d := ⟨B.exec, B.bytes, hml, hown, fun w hw => hts w (List.mem_cons_of_mem _ hw), B.notSynchronized, B.returns, fun hi => by rw [hnm]; exact hi, Nat.le_refl _, Nat.le_refl _, a3, a1, fun hq => absurd hq (q_lawNot hk), a4⟩
  have hW0 : q_Wd Z D sc h s s.heap [] := ⟨a5, a6, va_S.rf, a7, a8⟩
  have hx := B.exec
  have hb := B.bytes
  have hlocks := B.notSynchronized
  rw [lg_entry_eq]
  refine IH d k 0 (q_ent k as) [] h (.inr (pc0, L0)) h1 he hlen p l e (q_rm d (nC h1 - nC h + 1) (nU h1 - nU h + 6)) s m (as.map (cv Z)).toArray below meth c _ Z D sc 0 0 hKey hST F (by omega) (by show 0 + nC h1 ≤ (nC h1 - nC h + 1) + nC h; omega) (by show 0 + nU h1 ≤ (nU h1 - nU h + 6) + nU h; omega) ?_ s.heap [] _ hRL hW0
  intro Ls1 H1 locs1 cells1 slots1 hdx hsz1 hWd hc1 hs1
  obtain ⟨i1, z1, z2, z3, hdn, hpn, d3, d4, d7⟩ := hdx
  have hWS : ∀ w ∈ WS, w.before (as.map (cv Z)).toArray s = true := fun w hw => hts w (List.mem_cons_of_mem _ hw)
  have hi1 : i1 = 216 := by
    rw [hO] at hpn
    exact q_kix hpn
  subst hi1
  rw [hO] at hown
  refine vx_throw0 hx hb hST (own := RX11) (cls := "java/util/NoSuchElementException") (names := ["java/lang/RuntimeException", "java/lang/Exception"]) (A := aZ Z) hown q_fitX q_fitN (hWS _ q_t1245) (hWS _ q_t23) (fun w hw => (q_thr w hw).elim (hWS w) (fun z => va_Nw.use (q_nw_tab z) (a3.2.1 w z))) (fun w hw => ?_) a4.1 a4.2.1 hWd.2.2.1 (by rw [hml]; exact hsz1) hdn d3 d4 d7 (fun z hz => (htab z hz).elim) (by show 2 + 3 < d + 12; omega) (by show 0 + (13 * (2 + 1) + 42) ≤ (q_rm d (nC h1 - nC h + 1) (nU h1 - nU h + 6)).locals; have e9 : (q_rm d (nC h1 - nC h + 1) (nU h1 - nU h + 6)).locals = 100 * d + 1500 := rfl; omega) (by show cells1 + 1 ≤ nC h1 - nC h + 1; omega) (by show slots1 + 6 ≤ nU h1 - nU h + 6; omega) hlocks (fun t hal hsz hq => ⟨(), trivial, ⟨rfl, hWd.1.kept (fun j x hx9 => hq x.1 (hWd.1 j x hx9).lt), hWd.2.1, hWd.2.2.2.1, hWd.2.2.2.2⟩, ?_⟩) hWd.2.2.1.2.2 (by omega) (by omega)
  · rcases List.mem_cons.mp hw with rfl | hw
    · exact q_ot q_t1245
    rcases List.mem_cons.mp hw with rfl | hw
    · exact q_ot q_t23
    · rcases q_thr w hw with z | z
      · exact q_ot z
      · unfold vx_ot; rw [q_nw_tab z]; rfl
  · refine ⟨Nat.le_trans hWd.2.2.1.1 hsz, fun q g1 g2 => ?_⟩
    rw [hq q (Nat.lt_of_lt_of_le g1 hWd.2.2.1.1)]
    exact hWd.2.2.1.2.1 q g1 g2
end Q11

