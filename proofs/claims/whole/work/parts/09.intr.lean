section Q7
variable {p : Program} {l : Launch} {e : Env} {R : Room} {s : State} {m : MethodId} {args : Array Value} {below : List Frame} {meth : Method} {c : Code} {Q : State → Prop} {Z : ZZ} {D : va_G} {sc : Nat × (Nat → Int32)} {mi d pc pc' len : Nat} {ins : Instr} {L L' : LV} {st st' : List AV} {h h' : HH} {cells slots r : Nat} {H H1 : Heap} {locs locs1 : List Loc} {i : Nat}
theorem q_mm {α : Type} {a : α} {l : List α} : a ∈ a :: l := List.mem_cons_self
theorem q_m1 {α : Type} {a b : α} {l : List α} : a ∈ b :: a :: l := List.mem_cons_of_mem _ List.mem_cons_self
theorem q_m2 {α : Type} {a b d : α} {l : List α} : a ∈ b :: d :: a :: l := List.mem_cons_of_mem _ q_m1
theorem q_m3 {α : Type} {a b d f : α} {l : List α} : a ∈ b :: d :: f :: a :: l := List.mem_cons_of_mem _ q_m2
theorem q_m4 {α : Type} {a b d f g : α} {l : List α} : a ∈ b :: d :: f :: g :: a :: l := List.mem_cons_of_mem _ q_m3
set_option maxHeartbeats 400000 in
theorem q_simLdc {a b : Nat} {z : Int} (F : q_Fx p R s m args meth c Z D sc mi d) (hd : decode (mC mi) pc = .ok (.ldc i, 2)) (hp : pl (mO mi) i = some (8, a, b, z)) (k : q_At p l e R s m args below meth c Q Z D sc h (pc + 2) L (aI z :: st) cells slots) : q_At p l e R s m args below meth c Q Z D sc h pc L st cells slots := by
  obtain ⟨hx, hb, hml, hown, hts, hlocks, hret, hinit, hfr, hlo, hvm, hZs, hlaw, hex⟩ := F
  have hw := (q_words hp).1
  rw [show q_pw (mO mi) i (8, a, b, z) = [.constant (oN (mO mi)) i (Int32.ofInt z)] from rfl] at hw
  intro H locs Ls hL hW
  exact lv_ldc hx hb hown (hts _ (hw _ q_mm)) hd (k H locs Ls hL hW)
set_option maxHeartbeats 400000 in
theorem q_simLdcw {a b : Nat} {z : Int} (F : q_Fx p R s m args meth c Z D sc mi d) (hd : decode (mC mi) pc = .ok (.ldc_w i, 3)) (hp : pl (mO mi) i = some (8, a, b, z)) (k : q_At p l e R s m args below meth c Q Z D sc h (pc + 3) L (aI z :: st) cells slots) : q_At p l e R s m args below meth c Q Z D sc h pc L st cells slots := by
  obtain ⟨hx, hb, hml, hown, hts, hlocks, hret, hinit, hfr, hlo, hvm, hZs, hlaw, hex⟩ := F
  have hw := (q_words hp).1
  rw [show q_pw (mO mi) i (8, a, b, z) = [.constant (oN (mO mi)) i (Int32.ofInt z)] from rfl] at hw
  intro H locs Ls hL hW
  exact lv_ldcw hx hb hown (hts _ (hw _ q_mm)) hd (k H locs Ls hL hW)
set_option maxHeartbeats 400000 in
theorem q_simLdc2 {a b : Nat} {z : Int} (F : q_Fx p R s m args meth c Z D sc mi d) (hd : decode (mC mi) pc = .ok (.ldc2_w i, 3)) (hp : pl (mO mi) i = some (9, a, b, z)) (k : q_At p l e R s m args below meth c Q Z D sc h (pc + 3) L (aL z :: st) cells slots) : q_At p l e R s m args below meth c Q Z D sc h pc L st cells slots := by
  obtain ⟨hx, hb, hml, hown, hts, hlocks, hret, hinit, hfr, hlo, hvm, hZs, hlaw, hex⟩ := F
  have hw := (q_words hp).1
  rw [show q_pw (mO mi) i (9, a, b, z) = [.constantLong (oN (mO mi)) i (Int64.ofInt z)] from rfl] at hw
  intro H locs Ls hL hW
  exact lv_ldc2 hx hb hown (hts _ (hw _ q_mm)) hd (k H locs Ls hL hW)
set_option maxHeartbeats 400000 in
/-- Object's own constructor -/
theorem q_simObj {a b : Nat} {z : Int} (F : q_Fx p R s m args meth c Z D sc mi d) (hLl : L.length = mL mi) (hd : decode (mC mi) pc = .ok (.invokespecial i, 3)) (hp : pl (mO mi) i = some (11, a, b, z)) (hr : ¬ r = 0) (hcs : q_csum st ≤ 20) (k : q_At p l e R s m args below meth c Q Z D sc h (pc + 3) L st cells slots) : q_At p l e R s m args below meth c Q Z D sc h pc L (aR r :: st) cells slots := by
  obtain ⟨hx, hb, hml, hown, hts, hlocks, hret, hinit, hfr, hlo, hvm, hZs, hlaw, hex⟩ := F
  have hw := (q_words hp).1
  rw [show q_pw (mO mi) i (11, a, b, z) = [.methodLink (oN (mO mi)) i objectInit, .instanceMethod objectInit, .code objectInit ⟨#[0xb1]⟩ 1 none] from rfl] at hw
  intro H locs Ls hL hW
  obtain ⟨ad, ha⟩ := cR_pos (Z := Z) hr
  rw [List.map_cons, show cv Z (aR r) = Value.ref ad from ha]
  refine W.objInit hx hb hown (hts _ (hw _ q_mm)) (hts _ (hw _ q_m1)) (hts _ (hw _ q_m2)) (g := F0 m pc Ls (.ref ad :: st.map (cv Z))) rfl (by rw [hml, ← hLl]; exact hL.1) rfl hd (by omega) ?_ (k H locs Ls hL hW)
  have h1 := cv_sum Z st
  show 2 * 0 + _ + 12 ≤ R.locals
  rw [h1]
  omega
set_option maxHeartbeats 400000 in
theorem q_simMax {a b : Nat} {z x y : Int} (F : q_Fx p R s m args meth c Z D sc mi d) (hLl : L.length = mL mi) (hd : decode (mC mi) pc = .ok (.invokestatic i, 3)) (hp : pl (mO mi) i = some (15, a, b, z)) (ix : q_in x = true) (iy : q_in y = true) (hcs : q_csum st ≤ 20) (hc : cells ≤ R.cells) (hu : slots ≤ R.slots) (k : q_At p l e R s m args below meth c Q Z D sc h (pc + 3) L (aI (if x < y then y else x) :: st) cells slots) : q_At p l e R s m args below meth c Q Z D sc h pc L (aI y :: aI x :: st) cells slots := by
  obtain ⟨hx, hb, hml, hown, hts, hlocks, hret, hinit, hfr, hlo, hvm, hZs, hlaw, hex⟩ := F
  have hw := (q_words hp).1
  rw [show q_pw (mO mi) i (15, a, b, z) = [.methodLink (oN (mO mi)) i Lib.Math.max.name, .static Lib.Math.max.name, .initialized "java/lang/Math", .code Lib.Math.max.name Lib.Math.max.code 2 (some .int)] from rfl] at hw
  intro H locs Ls hL hW
  have k1 := k H locs Ls hL hW
  refine va_mmax hx hb (by rw [hml, ← hLl]; exact hL.1.symm) hown (hts _ (hw _ q_mm)) (hts _ (hw _ q_m1)) (hts _ (hw _ q_m2)) (hts _ (hw _ q_m3)) (by omega) (by rw [cv_sum]; omega) hc hu hd ?_
  have e1 : (if Int32.ofInt x < Int32.ofInt y then Int32.ofInt y else Int32.ofInt x) = Int32.ofInt (if x < y then y else x) := by
    by_cases hlt : x < y
    · rw [if_pos hlt, if_pos ((q_ltI ix iy).mpr hlt)]
    · rw [if_neg hlt, if_neg (fun q => hlt ((q_ltI ix iy).mp q))]
  rw [e1]
  exact k1
set_option maxHeartbeats 400000 in
theorem q_simMin {a b : Nat} {z x y : Int} (F : q_Fx p R s m args meth c Z D sc mi d) (hLl : L.length = mL mi) (hd : decode (mC mi) pc = .ok (.invokestatic i, 3)) (hp : pl (mO mi) i = some (16, a, b, z)) (ix : q_in x = true) (iy : q_in y = true) (hcs : q_csum st ≤ 20) (hc : cells ≤ R.cells) (hu : slots ≤ R.slots) (k : q_At p l e R s m args below meth c Q Z D sc h (pc + 3) L (aI (if y < x then y else x) :: st) cells slots) : q_At p l e R s m args below meth c Q Z D sc h pc L (aI y :: aI x :: st) cells slots := by
  obtain ⟨hx, hb, hml, hown, hts, hlocks, hret, hinit, hfr, hlo, hvm, hZs, hlaw, hex⟩ := F
  have hw := (q_words hp).1
  rw [show q_pw (mO mi) i (16, a, b, z) = [.methodLink (oN (mO mi)) i Lib.Math.min.name, .static Lib.Math.min.name, .initialized "java/lang/Math", .code Lib.Math.min.name Lib.Math.min.code 2 (some .int)] from rfl] at hw
  intro H locs Ls hL hW
  have k1 := k H locs Ls hL hW
  refine va_mmin hx hb (by rw [hml, ← hLl]; exact hL.1.symm) hown (hts _ (hw _ q_mm)) (hts _ (hw _ q_m1)) (hts _ (hw _ q_m2)) (hts _ (hw _ q_m3)) (by omega) (by rw [cv_sum]; omega) hc hu hd ?_
  have e1 : (if Int32.ofInt y < Int32.ofInt x then Int32.ofInt y else Int32.ofInt x) = Int32.ofInt (if y < x then y else x) := by
    by_cases hlt : y < x
    · rw [if_pos hlt, if_pos ((q_ltI iy ix).mpr hlt)]
    · rw [if_neg hlt, if_neg (fun q => hlt ((q_ltI iy ix).mp q))]
  rw [e1]
  exact k1
theorem q_cpI {f g : Int → Int} {sp dp n : Int} (h1 : 0 ≤ sp) (h2 : 0 ≤ dp) (h3 : 0 ≤ n) : va_cpy (fun j : Nat => Int32.ofInt (f (j : Int))) (fun j : Nat => Int32.ofInt (g (j : Int))) sp.toNat dp.toNat n.toNat = fun j : Nat => Int32.ofInt (q_cp f g sp dp n (j : Int)) := by
  funext j
  unfold va_cpy q_cp
  by_cases hj : dp.toNat ≤ j ∧ j < dp.toNat + n.toNat
  · rw [if_pos hj, if_pos (by omega)]
    have e : ((sp.toNat + (j - dp.toNat) : Nat) : Int) = sp + ((j : Int) - dp) := by omega
    dsimp only
    rw [e]
  · rw [if_neg hj, if_neg (by omega)]
theorem q_cpL {f g : Int → Int} {sp dp n : Int} (h1 : 0 ≤ sp) (h2 : 0 ≤ dp) (h3 : 0 ≤ n) : va_cpy (fun j : Nat => Int64.ofInt (f (j : Int))) (fun j : Nat => Int64.ofInt (g (j : Int))) sp.toNat dp.toNat n.toNat = fun j : Nat => Int64.ofInt (q_cp f g sp dp n (j : Int)) := by
  funext j
  unfold va_cpy q_cp
  by_cases hj : dp.toNat ≤ j ∧ j < dp.toNat + n.toNat
  · rw [if_pos hj, if_pos (by omega)]
    have e : ((sp.toNat + (j - dp.toNat) : Nat) : Int) = sp + ((j : Int) - dp) := by omega
    dsimp only
    rw [e]
  · rw [if_neg hj, if_neg (by omega)]
theorem q_nfw : nativeFrameWords "java/lang/System" "arraycopy" 5 = 7 := by decide +kernel
set_option maxHeartbeats 400000 in
theorem q_simAc {a b : Nat} {z : Int} (F : q_Fx p R s m args meth c Z D sc mi d) (hLl : L.length = mL mi) (hd : decode (mC mi) pc = .ok (.invokestatic i, 3)) (hp : pl (mO mi) i = some (10, a, b, z)) (hs : q_ac st h = some (st', h')) (k : q_At p l e R s m args below meth c Q Z D sc h' (pc + 3) L st' cells slots) : q_At p l e R s m args below meth c Q Z D sc h pc L st cells slots ∧ nC h' = nC h ∧ nU h' = nU h := by
  obtain ⟨hx, hb, hml, hown, hts, hlocks, hret, hinit, hfr, hlo, hvm, hZs, hlaw, hex⟩ := F
  have hw := (q_words hp).1
  rw [show q_pw (mO mi) i (10, a, b, z) = [.methodLink (oN (mO mi)) i arraycopyName, .native arraycopyName, .static arraycopyName, .initialized "java/lang/System"] from rfl] at hw
  unfold q_ac at hs
  split at hs
  · rename_i n dp dd sp aa st0
    split at hs
    · rename_i hg
      obtain ⟨hk, g1, g2, g3, g4, g5, g6, g7, g8, g9⟩ := hg
      cases hs
      have hne : dd ≠ 0 := by
        rcases hk with ⟨-, hk⟩ | ⟨-, hk⟩ <;> (have := (q_ok_iff hk).1; omega)
      have e0 : (q_sc h (q_uf h.2 dd (q_cp (h.2 aa) (h.2 dd) sp dp n))).2 0 0 = h.2 0 0 := by
        show q_uf h.2 dd _ 0 0 = _
        rw [q_uf_ne (by omega)]
      refine ⟨?_, ?_, ?_⟩
      · obtain ⟨i1, i2⟩ := q_i0 g1 g6
        obtain ⟨j1, j2⟩ := q_i0 g2 g8
        obtain ⟨k1, k2⟩ := q_i0 g3 g7
        intro H locs Ls hL hW
        rcases hk with ⟨hka, hkd⟩ | ⟨hka, hkd⟩
        · obtain ⟨o1, o2, o3, o4⟩ := q_ok_iff hka
          obtain ⟨p1, p2, p3, p4⟩ := q_ok_iff hkd
          simp only [List.map_cons]
          rw [show cv Z (aR aa) = .ref (Z.1 + aa) from cR_ok hka, show cv Z (aR dd) = .ref (Z.1 + dd) from cR_ok hkd]
          refine va_copyi hx hb (by rw [hml, ← hLl]; exact hL.1.symm) hown (hts _ (hw _ q_mm)) (hts _ (hw _ q_m1)) (hts _ (hw _ q_m2)) (hts _ (hw _ q_m3)) hvm.1 hW.1 hW.2.1 hW.2.2.1 (aa - 1) (dd - 1) 0 0 (by rw [cW_at o1 o2, cE_20 o4]) (by rw [cW_at p1 p2, cE_20 p4]) rfl rfl rfl k1 j1 i1 (by rw [k2, i2]; omega) (by rw [j2, i2]; omega) (fun _ _ => rfl) (by omega) (by rw [cv_sum, q_nfw]; omega) hd (fun H1 locs1 hP1 hD1 hS1 => k H1 locs1 Ls hL (q_wd_c hW p1 ?_ hP1 hD1 hS1))
          rw [cE_20 (by exact p4), k2, j2, i2, q_cpI g3 g2 g1]
          simp only [q_sc, q_uf_same]
        · obtain ⟨o1, o2, o3, o4⟩ := q_ok_iff hka
          obtain ⟨p1, p2, p3, p4⟩ := q_ok_iff hkd
          simp only [List.map_cons]
          rw [show cv Z (aR aa) = .ref (Z.1 + aa) from cR_ok hka, show cv Z (aR dd) = .ref (Z.1 + dd) from cR_ok hkd]
          refine va_copyl hx hb (by rw [hml, ← hLl]; exact hL.1.symm) hown (hts _ (hw _ q_mm)) (hts _ (hw _ q_m1)) (hts _ (hw _ q_m2)) (hts _ (hw _ q_m3)) hvm.1 hW.1 hW.2.1 hW.2.2.1 (aa - 1) (dd - 1) 1 1 (by rw [cW_at o1 o2, cE_21 o4]) (by rw [cW_at p1 p2, cE_21 p4]) rfl rfl rfl k1 j1 i1 (by rw [k2, i2]; omega) (by rw [j2, i2]; omega) (fun _ _ => rfl) (by omega) (by rw [cv_sum, q_nfw]; omega) hd (fun H1 locs1 hP1 hD1 hS1 => k H1 locs1 Ls hL (q_wd_c hW p1 ?_ hP1 hD1 hS1))
          rw [cE_21 (by exact p4), k2, j2, i2, q_cpL g3 g2 g1]
          simp only [q_sc, q_uf_same]
      · show gN h + ((q_sc h _).2 0 0).toNat = gN h + (h.2 0 0).toNat
        rw [e0]
      · show gU h + 6 * ((q_sc h _).2 0 0).toNat = gU h + 6 * (h.2 0 0).toNat
        rw [e0]
    · cases hs
  · cases hs
/-- a call, whatever it answers -/
theorem q_run {mc ms : Nat} {ls : Array Slot} {st0 rest : List Value} {Qa : State → Outcome → State → Prop} {free : Addr → Prop} (hr : va_Run p l e R s m args below meth c H locs cells slots mc ms (F0 m pc ls st0) rest Qa free)
    (kk : ∀ (v : Option Value) (st₀ t : State) (locs1 : List Loc), st₀.heap = H → s.vm.Alike t.vm → Qa st₀ (.returned v) t → (∀ q ∈ locs1, q ∈ locs ∨ free q.base) → W p l e R s m args below meth c t.heap locs1 (cells + mc) (slots + ms) Q (F0 m (pc + 3) ls (v.toList ++ rest))) : W p l e R s m args below meth c H locs cells slots Q (F0 m pc ls st0) := by
  intro T hT X
  obtain ⟨v, st₀, t, T', L9, h0, X', hL9, e1, e2, hq, st9⟩ := hr T hT X
  obtain ⟨t2, a1, b1⟩ := kk v st₀ t (locs ++ L9) h0 (by rw [← e2]; exact X'.warmed.alike) hq (fun q hq => by
      rcases List.mem_append.mp hq with h1 | h1
      · exact Or.inl h1
      · exact Or.inr (hL9 q h1)) T' e1 X'
  exact ⟨t2, st9 t2 a1, b1⟩
/-- the table of the keys, made once: its contract -/
def q_Key (l : Launch) : Prop := ∀ (Z : ZZ) (D : va_G) (sz : Nat), Met l yX11_keysByNumber (.code yX11_keysByNumber cX11_keysByNumber 6 (some (.array .long)) :: WS) { frames := 10, cells := 1, slots := 20, locals := 1200 }
  (va_Pc [] (fun U => U.heap.size = sz ∧ Z.1 < sz ∧ q_Vm Z D U ∧ q_Ex Z U U.heap)) (fun _ st o t => o = .returned (some (.ref sz)) ∧ t.heap = st.heap.push (arrV (Z.2.2 21) 20 (fun j => .long (Int64.ofInt (q_keys (j : Int)))))) 1 20 (fun q => sz ≤ q)
theorem q_blindV {Z : ZZ} {D : va_G} {sz : Nat} {av : List Value} {P : State → Prop} (hP : ∀ (U : State) (g : JFrame) (mk : MethodId) (a : Array Value), P U → P (U.calling g mk a)) : FrameBlind (va_Pc av P) := fun a U g mk q => ⟨q.1, hP U g mk a q.2⟩
set_option maxHeartbeats 400000 in
theorem q_simKey {a b : Nat} {z : Int} (hKey : q_Key l) (F : q_Fx p R s m args meth c Z D sc mi d) (hLl : L.length = mL mi) (hd : decode (mC mi) pc = .ok (.invokestatic i, 3)) (hp : pl (mO mi) i = some (12, a, b, z)) (hcs : q_csum st ≤ 8) {q : Nat × HH} (hn : q_new h 21 20 q_keys = some q) (hz : s.heap.size + cells ≤ Z.1 + 1 + nC h) (hc : cells + nC q.2 ≤ R.cells + nC h) (hu : slots + nU q.2 ≤ R.slots + nU h)
    (k : q_At p l e R s m args below meth c Q Z D sc q.2 (pc + 3) L (aR q.1 :: st) (cells + 1) (slots + 20)) : q_At p l e R s m args below meth c Q Z D sc h pc L st cells slots := by
  obtain ⟨hx, hb, hml, hown, hts, hlocks, hret, hinit, hfr, hlo, hvm, hZs, hlaw, hex⟩ := F
  obtain ⟨n1, n2, n3, rfl⟩ := q_new_some hn
  obtain ⟨c1, c2⟩ := nC_nw (k := 21) (n := 20) (f := q_keys) n3
  rw [c1] at hc
  rw [c2] at hu
  have hw := (q_words hp)
  rw [show q_pw (mO mi) i (12, a, b, z) = [.static yX11_keysByNumber, .initialized RX11, .code yX11_keysByNumber cX11_keysByNumber 6 (some (.array .long))] from rfl, show q_pn (mO mi) i (12, a, b, z) = [.methodLinkNest (oN (mO mi)) i yX11_keysByNumber RX11] from rfl] at hw
  have hnw := hvm.2.1 _ (hw.2 _ q_mm)
  have hG : GoodIn WS (.code yX11_keysByNumber cX11_keysByNumber 6 (some (.array .long)) :: WS) := q_goodIn (fun w h1 => by
    rcases List.mem_cons.mp h1 with e1 | h1
    · rw [e1]; exact hw.1 _ q_m2
    · exact h1)
  intro H locs Ls hL hW T hT X
  have hsz := q_size X hT hW hz n3 hZs
  suffices hW1 : W p l e R s m args below meth c H locs cells slots Q (F0 m pc Ls (st.map (cv Z))) from hW1 T hT X
  have hexH : q_Ex Z s H := q_Ex_kept hW.2.2.1.2.1 hex
  refine q_run (va_runSN (As := []) (rest := st.map (cv Z)) ⟨hx, hb, hml, hown, hts⟩ (hKey Z D (Z.1 + (gN h + 1))) ⟨va_cnB 0 hts hG rfl rfl rfl hnw (hts _ (hw.1 _ q_m1)) (by decide +kernel) ⟨by show 10 + 1 ≤ _; omega, by show 8 + (6 + 11) + 1200 ≤ _; omega⟩, hts _ (hw.1 _ q_mm), trivial⟩ ⟨q_blindV (Z := Z) (D := D) (sz := 0) (fun U g mk a hU => ⟨hU.1, hU.2.1, q_Vm_warm (State.WarmedH.refl U) hU.2.2.1, q_Ex_warm (State.WarmedH.refl U) hU.2.2.2⟩), fun U hU hWU => ⟨rfl, by rw [hU]; exact hsz, by omega, q_Vm_warm hWU hvm, by rw [hU]; exact q_Ex_warm hWU hexH⟩⟩ rfl rfl (by rw [← hLl]; exact hL.1) rfl (lv_room (by rw [cv_sum]; exact hcs)) hd ⟨by omega, by omega⟩) (fun v st₀ t locs1 h0 hal hq hlo1 => ?_)
  obtain ⟨q1, q2⟩ := hq
  cases q1
  rw [h0] at q2
  have z1 : t.heap.size = Z.1 + (gN h + 1) + 1 := by rw [q2, Array.size_push, hsz]
  have e1 : t.heap[Z.1 + (gN h + 1)]? = some (arrV (Z.2.2 21) 20 (fun j => .long (Int64.ofInt (q_keys (j : Int))))) := by rw [q2, ← hsz, Array.getElem?_push_size]
  have o1 : ∀ q : Nat, q < Z.1 + (gN h + 1) → t.heap[q]? = H[q]? := fun q hq => by rw [q2, Array.getElem?_push, if_neg (by omega)]
  have hW2 : q_Wd Z D sc (q_nw h 21 20 q_keys) s t.heap locs := q_wd_n hW hsz (by
    rw [cE_21 (by rw [q_nwS])]
    simp only [q_nwS, q_nwC]
    exact e1) o1 z1
  have k1 := k t.heap locs1 Ls hL ⟨hW2.1, hW2.2.1, ⟨hW2.2.2.1.1, hW2.2.2.1.2.1, fun q hq => by
    rcases hlo1 q hq with h1 | h1
    · exact hW2.2.2.1.2.2 q h1
    · show Z.1 < q.base
      omega⟩, hW2.2.2.2⟩
  rw [List.map_cons, q_cRn n1] at k1
  exact k1
end Q7
