section Q13
variable {p : Program} {l : Launch} {e : Env} {R : Room} {s : State} {m : MethodId} {args : Array Value} {below : List Frame} {meth : Method} {c : Code} {Q : State → Prop} {Z : ZZ} {D : va_G} {sc : Nat × (Nat → Int32)} {mi d pc pc' len : Nat} {ins : Instr} {L L' : LV} {st st' : List AV} {h h' : HH} {cells slots r : Nat} {H H1 : Heap} {locs locs1 : List Loc} {i n : Nat}
theorem q_int1 {a : AV} {as : List AV} (h : q_ints (a :: as) = true) : (∃ x, a = aI x) ∧ q_ints as = true := by
  unfold q_ints at h
  rw [List.all_cons] at h
  obtain ⟨h1, h2⟩ := q_bool2 h
  rcases a with x | x | x
  · exact ⟨⟨x, rfl⟩, h2⟩
  · cases h1
  · cases h1
set_option maxHeartbeats 1000000 in
/-- a call of a method with a table, by its contract -/
theorem q_simSW {d2 mc ms maxL na : Nat} {y : MethodName} {cc : ByteArray} {hh : List (Nat × Nat × Nat × Nat)} {as rest : List AV} {w : Int} {h2 : HH} (F : q_Fx p R s m args meth c Z D sc mi (d2 + 2)) (hLl : L.length = mL mi) (hd : decode (mC mi) pc = .ok (.invokestatic i, 3))
    (hM : Met l y (.codeWith y cc maxL (some .int) hh :: WS) (q_rm (d2 + 1) mc ms) (va_Pc (as.map (cv Z)) (q_Pre Z D sc h)) (q_Post Z D sc (some (aI w)) h2) mc ms (aZ Z))
    (w1 : Cond.methodLink (oN (mO mi)) i y ∈ WS) (w2 : Cond.static y ∈ WS) (w3 : Cond.initialized y.cls ∈ WS) (w4 : Cond.codeWith y cc maxL (some .int) hh ∈ WS) (hy : y.cls ≠ "java/lang/invoke/MethodHandle" ∧ y.cls ≠ "java/lang/invoke/VarHandle" ∧ (parseMethodDescriptor y.desc).map (fun d => d.parameters.length) = some na) (hna : as.length = na) (hml6 : maxL ≤ 60)
    (hst : st = as.reverse ++ rest) (hcs : q_csum rest ≤ 8) (hz : s.heap.size + cells ≤ Z.1 + 1 + nC h) (hc : cells + mc ≤ R.cells) (hu : slots + ms ≤ R.slots)
    (kk : q_At p l e R s m args below meth c Q Z D sc h2 (pc + 3) L (aI w :: rest) (cells + mc) (slots + ms)) : q_At p l e R s m args below meth c Q Z D sc h pc L st cells slots := by
  obtain ⟨hx, hb, hml, hown, hts, hlocks, hret, hinit, hfr, hlo, hvm, hZs, hlaw, hex⟩ := F
  intro H locs Ls hL hW T hT X
  have hsz := q_sizeLe X hT hz
  have hszg : Z.1 < H.size := Nat.lt_of_lt_of_le hZs hW.2.2.1.1
  suffices hW1 : W p l e R s m args below meth c H locs cells slots Q (F0 m pc Ls (st.map (cv Z))) from hW1 T hT X
  have hexH : q_Ex Z s H := q_Ex_kept hW.2.2.1.2.1 hex
  have hpre : ∀ U : State, U.heap = H → s.WarmedH U.vm → q_Pre Z D sc h U := fun U hU hWU => ⟨by rw [hU]; exact hszg, by rw [hU]; exact hsz, q_Vm_warm hWU hvm, by rw [hU]; exact q_Ex_warm hWU hexH, by rw [hU]; exact hW.1, hW.2.1, hW.2.2.2.1, hW.2.2.2.2⟩
  have hG : GoodIn WS (va_wsS (oN (mO mi)) i y (.codeWith y cc maxL (some .int) hh :: WS)) := q_goodIn (fun w hw9 => by
    rcases List.mem_append.mp hw9 with h9 | h9
    · rcases List.mem_cons.mp h9 with rfl | h9
      · exact w1
      rcases List.mem_cons.mp h9 with rfl | h9
      · exact w2
      rcases List.mem_cons.mp h9 with rfl | h9
      · exact w3
      · cases h9
    · rcases List.mem_cons.mp h9 with rfl | h9
      · exact w4
      · exact h9)
  have hLs : Ls.size = mL mi := by rw [← hLl]; exact hL.1
  have hstk : st.map (cv Z) = (as.map (cv Z)).reverse ++ rest.map (cv Z) := by rw [hst, q_revmap]
  refine q_run (vx_runSW (As := as.map (cv Z)) (rest := rest.map (cv Z)) ⟨hx, hb, hml, hown, hts⟩ hM (vx_cwSW na hts hG rfl rfl rfl hy ⟨q_rl1 (by omega), q_rl2 hml6 (by omega)⟩) ⟨q_pre_blind, fun U hU hWU => ⟨rfl, hpre U hU hWU⟩⟩ rfl (by rw [List.length_map]; exact hna) hLs hstk (lv_room (by rw [cv_sum]; exact hcs)) hd ⟨hc, hu⟩) (fun v st₀ t locs1 h0 hal hq hlo1 => ?_)
  obtain ⟨rfl, hWd⟩ := q_afterH hW hq h0 hlo1
  exact kk t.heap locs1 Ls hL hWd

theorem q_zero_H (hs : stH mi ins st h = some (st', h')) : h'.2 0 = h.2 0 := by
  have nn : ∀ {k n : Nat} {f : Int → Int} {q : Nat × HH}, q_new h k n f = some q → q.2.2 0 = h.2 0 := by
    intro k n f q hq
    obtain ⟨-, -, n3, n4⟩ := q_new_some hq
    rw [n4]
    show q_uf h.2 (h.1.1 + 1) f 0 = h.2 0
    exact q_uf_ne (by omega)
  have nm : ∀ {k n : Nat} {f : Int → Int} {g : Nat × HH → List AV × HH}, (q_new h k n f).map g = some (st', h') → (∀ q, (g q).2 = q.2) → h'.2 0 = h.2 0 := by
    intro k n f g hm hg
    obtain ⟨q, hq, he⟩ := q_map_some hm
    have h2 := hg q
    rw [he] at h2
    rw [show h' = q.2 from h2]
    exact nn hq
  unfold stH at hs
  split at hs
  case h_1 => rw [q_get_h hs]
  case h_2 =>
    unfold q_put at hs
    split at hs
    · split at hs
      · rename_i hg
        have ho := (q_ok_iff hg.2.2.1).1
        split at hs
        · split at hs
          · cases hs; exact q_uf_ne (by omega)
          · cases hs
        · split at hs
          · cases hs; exact q_uf_ne (by omega)
          · cases hs
        · split at hs
          · cases hs; rfl
          · cases hs
      · cases hs
    · cases hs
  case h_3 =>
    split at hs
    · split at hs
      · cases hs; rfl
      · cases hs
    · split at hs
      · cases hs; rfl
      · cases hs
  case h_4 =>
    split at hs
    · cases hs; rfl
    · cases hs
  case h_5 =>
    split at hs
    · cases hs; rfl
    · cases hs
  case h_6 =>
    split at hs
    · cases hs; rfl
    · cases hs
  case h_7 =>
    split at hs
    · rename_i hg; cases hs
      have ho := (q_ok_iff (q_bool2 hg).1).1
      exact q_uf_ne (by omega)
    · cases hs
  case h_8 =>
    split at hs
    · rename_i hg; cases hs
      have ho := (q_ok_iff (q_bool2 hg).1).1
      exact q_uf_ne (by omega)
    · cases hs
  case h_9 =>
    split at hs
    · rename_i hg; cases hs
      have ho : 1 ≤ _ := (q_or2 (q_bool2 hg).1).elim (fun z => (q_ok_iff z).1) (fun z => (q_ok_iff z).1)
      exact q_uf_ne (by omega)
    · cases hs
  case h_10 =>
    split at hs
    · cases hs; rfl
    · cases hs
  case h_11 =>
    split at hs
    · split at hs
      · cases hs; rfl
      · cases hs
    · split at hs
      · cases hs; rfl
      · cases hs
  case h_12 =>
    split at hs
    · split at hs
      · exact nm hs (fun _ => rfl)
      · cases hs
    · cases hs
  case h_13 =>
    split at hs
    · split at hs
      · exact nm hs (fun _ => rfl)
      · exact nm hs (fun _ => rfl)
      · exact nm hs (fun _ => rfl)
      · exact nm hs (fun _ => rfl)
      · cases hs
    · cases hs
  case h_14 =>
    split at hs
    · split at hs
      · exact nm hs (fun _ => rfl)
      · cases hs
    · cases hs
  case h_15 =>
    split at hs
    · split at hs
      · cases hs; rfl
      · cases hs
    · cases hs
  case h_16 =>
    split at hs
    · split at hs
      · cases hs; rfl
      · cases hs
    · cases hs
  case h_17 =>
    split at hs
    · split at hs
      · cases hs; rfl
      · cases hs
    · cases hs
  case h_18 =>
    split at hs
    · split at hs
      · cases hs; rfl
      · cases hs
    · cases hs
  case h_19 =>
    split at hs
    · split at hs
      · unfold q_ac at hs
        split at hs
        · split at hs
          · rename_i hg
            cases hs
            have hne : 1 ≤ _ := hg.1.elim (fun z => (q_ok_iff z.2).1) (fun z => (q_ok_iff z.2).1)
            exact q_uf_ne (by omega)
          · cases hs
        · cases hs
      · split at hs
        · split at hs
          · exact nm hs (fun _ => rfl)
          · cases hs
        · split at hs
          · split at hs
            · split at hs
              · cases hs; rfl
              · cases hs
            · cases hs
          · cases hs
    · cases hs
  case h_20 => cases hs
theorem q_x1_zero (h : HH) : (q_x1 h).2 0 0 = h.2 0 0 + 1 := by
  show q_up h.2 0 0 (h.2 0 0 + 1) 0 0 = _
  rw [q_up, q_uf_same, q_u1_same]
set_option maxHeartbeats 1000000 in
theorem q_x0 : ∀ {n d mi pc : Nat} {L : LV} {st : List AV} {h : HH} {o : OO} {h' : HH}, ev n d mi pc L st h = some (o, h') → 0 ≤ h.2 0 0 → 0 ≤ h'.2 0 0 := by
  intro n
  induction n with
  | zero => intro d mi pc L st h o h' he; cases he
  | succ n ih =>
    intro d mi pc L st h o h' he h0
    unfold ev at he
    split at he
    · cases he
    · rename_i ins len hd
      split at he
      · cases he
      split at he
      · exact ih he h0
      split at he
      · exact ih he h0
      split at he
      · exact ih he h0
      split at he
      · rename_i hs
        exact ih he (by rw [q_zero_H hs]; exact h0)
      split at he
      · cases he; exact h0
      split at he
      · split at he
        · cases he
        · split at he
          · split at he
            · cases he
            · split at he
              · split at he
                · split at he
                  · rename_i v h1 hv
                    split at he
                    · have e1 := ih hv h0
                      rename_i hg2
                      have ho : 1 ≤ _ := (q_ok_iff (q_bool2 (q_bool2 hg2).1).2).1
                      refine ih he ?_
                      show 0 ≤ q_up h1.2 _ 0 v 0 0
                      rw [q_up, q_uf_ne (by omega)]
                      exact e1
                    · cases he
                  · rename_i h1 hv
                    have e1 := ih hv h0
                    refine ih he ?_
                    rw [q_x1_zero]
                    omega
                  · cases he
                · cases he
              · cases he
          · split at he
            · split at he
              · rename_i hv
                exact ih he (ih hv h0)
              · cases he
            · cases he
      · split at he
        · cases he; exact h0
        · cases he
theorem q_End_mv {o : OO} {h1 : HH} {cells' slots' : Nat} (e1 : cells' + nC h = cells + nC h1) (e2 : slots' + nU h = slots + nU h1) (hE : q_End p l e R s m args below meth c Q Z D sc mi h cells slots o h') : q_End p l e R s m args below meth c Q Z D sc mi h1 cells' slots' o h' := by
  rcases o with r | ⟨pc1, L1⟩
  · exact fun pc2 Ls1 H1 locs1 c1 s1 a1 a2 a3 a4 => hE pc2 Ls1 H1 locs1 c1 s1 a1 a2 (by omega) (by omega)
  · exact fun Ls1 H1 locs1 c1 s1 a1 a2 a3 a4 a5 => hE Ls1 H1 locs1 c1 s1 a1 a2 a3 (by omega) (by omega)
set_option maxHeartbeats 1000000 in
theorem q_simR {r : Option AV} (F : q_Fx p R s m args meth c Z D sc mi d) (hLl : L.length = mL mi) (hd : decode (mC mi) pc = .ok (ins, len)) (hl : q_ln ins len = true) (hs : stR mi ins st = some r) (hE : q_End p l e R s m args below meth c Q Z D sc mi h cells slots (.inl r) h) : q_At p l e R s m args below meth c Q Z D sc h pc L st cells slots := by
  intro H locs Ls hL hW
  unfold stR at hs
  split at hs
  · split at hs
    · rename_i hr
      cases hs
      have e3 : len = 1 := by simpa [q_ln] using hl
      subst e3
      exact hE pc Ls H locs cells slots ⟨hd, hr⟩ hW rfl rfl
    · cases hs
  · split at hs
    · rename_i hr
      cases hs
      have e3 : len = 1 := by simpa [q_ln] using hl
      subst e3
      exact hE pc Ls H locs cells slots ⟨hd, hr⟩ hW rfl rfl
    · cases hs
  · split at hs
    · rename_i hr
      cases hs
      have e3 : len = 1 := by simpa [q_ln] using hl
      subst e3
      exact hE pc Ls H locs cells slots ⟨hd, hr⟩ hW rfl rfl
    · cases hs
  · cases hs
theorem q_simT (F : q_Fx p R s m args meth c Z D sc mi d) (hLl : L.length = mL mi) (hd : decode (mC mi) pc = .ok (ins, len)) (hl : q_ln ins len = true) (hs : stX mi pc ins st = true) (hE : q_End p l e R s m args below meth c Q Z D sc mi h cells slots (.inr (pc, L)) h) : q_At p l e R s m args below meth c Q Z D sc h pc L st cells slots := by
  intro H locs Ls hL hW
  unfold stX at hs
  split at hs
  · rename_i i
    split at hs
    · rename_i t z1 z2 z3 hp
      obtain ⟨h1, h2⟩ := q_bool2 hs
      have ht : t = 17 := of_decide_eq_true h1
      subst ht
      unfold q_dup at h2
      obtain ⟨h2, h4⟩ := q_bool2 h2
      obtain ⟨h2, h3⟩ := q_bool2 h2
      have e3 : len = 3 := by simpa [q_ln] using hl
      subst e3
      exact hE Ls H locs cells slots ⟨i, z1, z2, z3, hd, hp, of_decide_eq_true h2, of_decide_eq_true h3, of_decide_eq_true h4⟩ (by rw [hL.1]; exact hLl) hW rfl rfl
    · cases hs
  · cases hs

def q_specOut (n d2 k x o : Nat) (as' : List AV) (h : HH) (w : Int) (h2 : HH) : Prop :=
  (∃ (v : Int) (h1 : HH), ev n d2 k 0 (q_ent k (aR x :: as')) [] h = some (.inl (some (.inl v)), h1) ∧ q_in v = true ∧ q_ok h1 o 21 = true ∧ q_ix h1 o 0 = true ∧ w = 0 ∧ h2 = q_sc h1 (q_up h1.2 o 0 v)) ∨
  (∃ (z : Nat × LV) (h1 : HH), ev n d2 k 0 (q_ent k (aR x :: as')) [] h = some (.inr z, h1) ∧ w = 1 ∧ h2 = q_x1 h1)
theorem q_spec_mono {d2 k x o : Nat} {as' : List AV} {w : Int} {h2 : HH} (hso : q_specOut n d2 k x o as' h w h2) : nC h ≤ nC h2 ∧ nU h ≤ nU h2 := by
  rcases hso with ⟨v, h1, he, hv, ho1, hix, rfl, rfl⟩ | ⟨z, h1, he, rfl, rfl⟩
  · have hmo := ev_mono _ _ _ _ _ _ _ _ _ he
    obtain ⟨n1, n2⟩ := nC_up (h := h1) (i := 0) (v := v) (q_ok_iff ho1).1
    omega
  · have hmo := ev_mono _ _ _ _ _ _ _ _ _ he
    have h3 := nC_x1' (h := h1)
    omega
set_option maxHeartbeats 1000000 in
theorem q_simX_soul {d2 x o : Nat} {as as' rest : List AV} {w : Int} {h2 : HH} (IH : SimP n) (hKey : q_Key l) (hST : l.stackTraces = false) (F : q_Fx p R s m args meth c Z D sc mi (d2 + 2)) (hLl : L.length = mL mi) (hd : decode (mC mi) pc = .ok (.invokestatic i, 3)) {k z1 : Nat} {z2 : Int} (hp : pl (mO mi) i = some (13, k, z1, z2)) (hal : as.length = mA k + 1) (hst : st = as.reverse ++ rest) (hcs : q_csum rest ≤ 8)
    (hdl : as.dropLast = aR x :: as') (hgl : as.getLast? = some (aR o)) (hx0 : q_ok h x 11 = true) (ho : q_ok h o 21 = true) (hin : q_ints as' = true) (hle : (q_al (aR x :: as')).length ≤ mL k) (hso : q_specOut n d2 k x o as' h w h2)
    (hz : s.heap.size + cells ≤ Z.1 + 1 + nC h) (hc : cells + nC h2 ≤ R.cells + nC h) (hu : slots + nU h2 ≤ R.slots + nU h) (h00 : 0 ≤ h.2 0 0)
    (kk : ∀ cells' slots' : Nat, cells' + nC h = cells + nC h2 → slots' + nU h = slots + nU h2 → q_At p l e R s m args below meth c Q Z D sc h2 (pc + 3) L (aI w :: rest) cells' slots') : q_At p l e R s m args below meth c Q Z D sc h pc L st cells slots := by
  have hk : k = iX11_soul := by
    have h1 := q_tag hp
    unfold q_tgb at h1
    rw [if_neg (show ¬ (13 = 1 ∨ 13 = 4 ∨ 13 = 5) by omega), if_neg (show ¬ (13 = 2 ∨ 13 = 3) by omega)] at h1
    exact of_decide_eq_true h1
  subst hk
  have hw := (q_words hp).1
  rw [show q_pw (mO mi) i (13, iX11_soul, z1, z2) = [.methodLink (oN (mO mi)) i yL_soul, .static yL_soul, .initialized RL, .codeWith yL_soul cL_soul 5 (some .int) [(0, 10, 13, 13)]] from rfl] at hw
  have hal4 : as.length = 4 := hal
  match as, hal4 with
  | [a0, a1, a2, a3], _ =>
    have e1 : [a0, a1, a2] = aR x :: as' := hdl
    have e2 : some a3 = some (aR o) := hgl
    cases e1
    cases e2
    obtain ⟨⟨p0, rfl⟩, hin1⟩ := q_int1 hin
    obtain ⟨⟨p1, rfl⟩, hin2⟩ := q_int1 hin1
    rcases hso with ⟨v, h1, he, hv, ho1, hix, rfl, rfl⟩ | ⟨z, h1, he, rfl, rfl⟩
    · have hmo := ev_mono _ _ _ _ _ _ _ _ _ he
      obtain ⟨n1, n2⟩ := nC_up (h := h1) (i := 0) (v := v) (q_ok_iff ho1).1
      refine q_simSW (as := [aR x, aI p0, aI p1, aR o]) (na := 4) F hLl hd (q_lsA_soul IH hKey hST he hx0 ho hle hv ho1 hix rfl rfl) (hw _ q_mm) (hw _ q_m1) (hw _ q_m2) (hw _ q_m3) ⟨by decide +kernel, by decide +kernel, by decide +kernel⟩ rfl (by decide) hst hcs hz (by omega) (by omega) (kk _ _ (by omega) (by omega))
    · obtain ⟨pc0, L0⟩ := z
      have hmo := ev_mono _ _ _ _ _ _ _ _ _ he
      have hh0 : 0 ≤ h1.2 0 0 := q_x0 he h00
      obtain ⟨n1, n2⟩ := nC_x1 (h := h1) hh0
      refine q_simSW (as := [aR x, aI p0, aI p1, aR o]) (na := 4) F hLl hd (q_lsB_soul IH hKey hST he hx0 ho hle rfl rfl) (hw _ q_mm) (hw _ q_m1) (hw _ q_m2) (hw _ q_m3) ⟨by decide +kernel, by decide +kernel, by decide +kernel⟩ rfl (by decide) hst hcs hz (by omega) (by omega) (kk _ _ (by omega) (by omega))
set_option maxHeartbeats 1000000 in
theorem q_simX_net {d2 x o : Nat} {as as' rest : List AV} {w : Int} {h2 : HH} (IH : SimP n) (hKey : q_Key l) (hST : l.stackTraces = false) (F : q_Fx p R s m args meth c Z D sc mi (d2 + 2)) (hLl : L.length = mL mi) (hd : decode (mC mi) pc = .ok (.invokestatic i, 3)) {k z1 : Nat} {z2 : Int} (hp : pl (mO mi) i = some (14, k, z1, z2)) (hal : as.length = mA k + 1) (hst : st = as.reverse ++ rest) (hcs : q_csum rest ≤ 8)
    (hdl : as.dropLast = aR x :: as') (hgl : as.getLast? = some (aR o)) (hx0 : q_ok h x 11 = true) (ho : q_ok h o 21 = true) (hin : q_ints as' = true) (hle : (q_al (aR x :: as')).length ≤ mL k) (hso : q_specOut n d2 k x o as' h w h2)
    (hz : s.heap.size + cells ≤ Z.1 + 1 + nC h) (hc : cells + nC h2 ≤ R.cells + nC h) (hu : slots + nU h2 ≤ R.slots + nU h) (h00 : 0 ≤ h.2 0 0)
    (kk : ∀ cells' slots' : Nat, cells' + nC h = cells + nC h2 → slots' + nU h = slots + nU h2 → q_At p l e R s m args below meth c Q Z D sc h2 (pc + 3) L (aI w :: rest) cells' slots') : q_At p l e R s m args below meth c Q Z D sc h pc L st cells slots := by
  have hk : k = iX11_net := by
    have h1 := q_tag hp
    unfold q_tgb at h1
    rw [if_neg (show ¬ (14 = 1 ∨ 14 = 4 ∨ 14 = 5) by omega), if_neg (show ¬ (14 = 2 ∨ 14 = 3) by omega)] at h1
    exact of_decide_eq_true h1
  subst hk
  have hw := (q_words hp).1
  rw [show q_pw (mO mi) i (14, iX11_net, z1, z2) = [.methodLink (oN (mO mi)) i yL_net, .static yL_net, .initialized RL, .codeWith yL_net cL_net 4 (some .int) [(0, 9, 12, 13)]] from rfl] at hw
  have hal4 : as.length = 3 := hal
  match as, hal4 with
  | [a0, a1, a2], _ =>
    have e1 : [a0, a1] = aR x :: as' := hdl
    have e2 : some a2 = some (aR o) := hgl
    cases e1
    cases e2
    obtain ⟨⟨p0, rfl⟩, hin1⟩ := q_int1 hin
    rcases hso with ⟨v, h1, he, hv, ho1, hix, rfl, rfl⟩ | ⟨z, h1, he, rfl, rfl⟩
    · have hmo := ev_mono _ _ _ _ _ _ _ _ _ he
      obtain ⟨n1, n2⟩ := nC_up (h := h1) (i := 0) (v := v) (q_ok_iff ho1).1
      refine q_simSW (as := [aR x, aI p0, aR o]) (na := 3) F hLl hd (q_lsA_net IH hKey hST he hx0 ho hle hv ho1 hix rfl rfl) (hw _ q_mm) (hw _ q_m1) (hw _ q_m2) (hw _ q_m3) ⟨by decide +kernel, by decide +kernel, by decide +kernel⟩ rfl (by decide) hst hcs hz (by omega) (by omega) (kk _ _ (by omega) (by omega))
    · obtain ⟨pc0, L0⟩ := z
      have hmo := ev_mono _ _ _ _ _ _ _ _ _ he
      have hh0 : 0 ≤ h1.2 0 0 := q_x0 he h00
      obtain ⟨n1, n2⟩ := nC_x1 (h := h1) hh0
      refine q_simSW (as := [aR x, aI p0, aR o]) (na := 3) F hLl hd (q_lsB_net IH hKey hST he hx0 ho hle rfl rfl) (hw _ q_mm) (hw _ q_m1) (hw _ q_m2) (hw _ q_m3) ⟨by decide +kernel, by decide +kernel, by decide +kernel⟩ rfl (by decide) hst hcs hz (by omega) (by omega) (kk _ _ (by omega) (by omega))
theorem lput_len {L L' : LV} {i : Nat} {v : AV} (hp : lput L i v = some L') : L'.length = L.length := by
  unfold lput at hp
  split at hp
  · split at hp
    · cases hp; rw [List.length_set, q_clob_len]
    · cases hp
  · split at hp
    · cases hp; rw [List.length_set, List.length_set, q_clob_len]
    · cases hp
theorem q_stL_len (hs : stL ins L st = some (L', st')) : L'.length = L.length := by
  have pm : ∀ {i : Nat} {v : AV} {st0 : List AV}, (lput L i v).map (fun L => (L, st0)) = some (L', st') → L'.length = L.length := by
    intro i v st0 hm
    obtain ⟨a, ha, hb⟩ := q_map_some hm
    cases hb
    exact lput_len ha
  unfold stL at hs
  split at hs
  case h_1 => unfold q_lint at hs; split at hs <;> first | (cases hs; rfl) | cases hs
  case h_2 => unfold q_lint at hs; split at hs <;> first | (cases hs; rfl) | cases hs
  case h_3 => unfold q_llong at hs; split at hs <;> first | (cases hs; rfl) | cases hs
  case h_4 => unfold q_llong at hs; split at hs <;> first | (cases hs; rfl) | cases hs
  case h_5 =>
    unfold q_lref at hs
    split at hs
    · split at hs
      · cases hs
      · cases hs; rfl
    · cases hs
  case h_6 =>
    unfold q_lref at hs
    split at hs
    · split at hs
      · cases hs
      · cases hs; rfl
    · cases hs
  case h_7 => unfold q_sint at hs; split at hs <;> first | exact pm hs | cases hs
  case h_8 => unfold q_sint at hs; split at hs <;> first | exact pm hs | cases hs
  case h_9 => unfold q_slong at hs; split at hs <;> first | exact pm hs | cases hs
  case h_10 => unfold q_slong at hs; split at hs <;> first | exact pm hs | cases hs
  case h_11 =>
    unfold q_sref at hs
    split at hs
    · split at hs
      · cases hs
      · exact pm hs
    · cases hs
  case h_12 =>
    unfold q_sref at hs
    split at hs
    · split at hs
      · cases hs
      · exact pm hs
    · cases hs
  case h_13 => split at hs <;> first | exact pm hs | cases hs
  case h_14 => cases hs
set_option maxHeartbeats 1000000 in
theorem sim_all (n : Nat) : SimP n := by
  induction n with
  | zero => intro d mi pc L st h o h' he; cases he
  | succ n ih =>
    intro d mi pc L st h o h' he hLl p l e R s m args below meth c Q Z D sc cells slots hKey hST F hz hc hu hE
    unfold ev at he
    split at he
    · cases he
    · rename_i ins len hd
      split at he
      · cases he
      rename_i hlen
      have hl : q_ln ins len = true := by simpa using hlen
      split at he
      · rename_i hs
        exact q_simL F hd hl hs (ih _ _ _ _ _ _ _ _ he (by rw [q_stL_len hs]; exact hLl) p l e R s m args below meth c Q Z D sc cells slots hKey hST F hz hc hu hE)
      split at he
      · rename_i hs
        exact q_simP F hd hl hs (ih _ _ _ _ _ _ _ _ he hLl p l e R s m args below meth c Q Z D sc cells slots hKey hST F hz hc hu hE)
      split at he
      · rename_i hs
        exact q_simJ F hd hl hs (ih _ _ _ _ _ _ _ _ he hLl p l e R s m args below meth c Q Z D sc cells slots hKey hST F hz hc hu hE)
      split at he
      · rename_i st1 h1 hs
        have n1 := q_mono_H hs
        have n2 := ev_mono _ _ _ _ _ _ _ _ _ he
        exact q_simH hKey F hLl hd hl hs hz (by omega) (by omega) (fun cells' slots' e1 e2 => ih _ _ _ _ _ _ _ _ he hLl p l e R s m args below meth c Q Z D sc cells' slots' hKey hST F (by omega) (by omega) (by omega) (q_End_mv e1 e2 hE))
      split at he
      · rename_i r hs
        cases he
        exact q_simR F hLl hd hl hs hE
      split at he
      · rename_i t k as rest hs
        split at he
        · cases he
        · rename_i d'
          split at he
          · rename_i ht
            split at he
            · cases he
            · rename_i d2
              obtain ⟨i, z1, z2, hp, hi, hal, hst, hcs, hkl⟩ := q_stC hs
              rw [if_pos ht] at hal
              have hi2 : ins = .invokestatic i := by
                rcases hi with ⟨-, h1⟩ | ⟨h1, -⟩ | ⟨-, h1⟩
                · omega
                · exact h1
                · omega
              subst hi2
              have e3 : len = 3 := by simpa [q_ln] using hl
              subst e3
              split at he
              · rename_i x as' o0 hdl hgl
                split at he
                · rename_i hg
                  obtain ⟨hg1, hg4⟩ := q_bool2 hg
                  obtain ⟨hg1, hg3⟩ := q_bool2 hg1
                  obtain ⟨hg1, hg2⟩ := q_bool2 hg1
                  have hle := of_decide_eq_true hg4
                  have key : ∀ (w : Int) (h2 : HH), q_specOut n d2 k x o0 as' h w h2 → ev n (d2 + 1 + 1) mi (pc + 3) L (aI w :: rest) h2 = some (o, h') → q_At p l e R s m args below meth c Q Z D sc h pc L st cells slots := by
                    intro w h2 hso he2
                    have n1 := q_spec_mono hso
                    have n2 := ev_mono _ _ _ _ _ _ _ _ _ he2
                    have kk : ∀ cells' slots' : Nat, cells' + nC h = cells + nC h2 → slots' + nU h = slots + nU h2 → q_At p l e R s m args below meth c Q Z D sc h2 (pc + 3) L (aI w :: rest) cells' slots' := fun cells' slots' e1 e2 => ih _ _ _ _ _ _ _ _ he2 hLl p l e R s m args below meth c Q Z D sc cells' slots' hKey hST F (by omega) (by omega) (by omega) (q_End_mv e1 e2 hE)
                    intro H locs Ls hL hW
                    rcases ht with rfl | rfl
                    · exact q_simX_soul ih hKey hST F hLl hd hp hal hst hcs hdl hgl hg1 hg2 hg3 hle hso hz (by omega) (by omega) hW.2.2.2.2 kk H locs Ls hL hW
                    · exact q_simX_net ih hKey hST F hLl hd hp hal hst hcs hdl hgl hg1 hg2 hg3 hle hso hz (by omega) (by omega) hW.2.2.2.2 kk H locs Ls hL hW
                  split at he
                  · rename_i v h1 hv
                    split at he
                    · rename_i hg9
                      obtain ⟨hk1, hk3⟩ := q_bool2 hg9
                      obtain ⟨hk1, hk2⟩ := q_bool2 hk1
                      exact key 0 _ (Or.inl ⟨v, h1, hv, hk1, hk2, hk3, rfl, rfl⟩) he
                    · cases he
                  · rename_i z h1 hv
                    exact key 1 _ (Or.inr ⟨z, h1, hv, rfl, rfl⟩) he
                  · cases he
                · cases he
              · cases he
          · rename_i ht
            split at he
            · rename_i hg
              obtain ⟨hrv, hg2⟩ := q_bool2 hg
              have hle := of_decide_eq_true hg2
              split at he
              · rename_i r h1 hv
                have n1 := ev_mono _ _ _ _ _ _ _ _ _ hv
                have n2 := ev_mono _ _ _ _ _ _ _ _ _ he
                have e3 : len = 3 := by
                  obtain ⟨i, z1, z2, hp, hi, -⟩ := q_stC hs
                  rcases hi with ⟨rfl, -⟩ | ⟨rfl, -⟩ | ⟨rfl, -⟩ <;> simpa [q_ln] using hl
                subst e3
                exact q_simCall ih hKey hST F hLl hd hs ht hrv hle hv hz (by omega) (by omega) (fun cells' slots' e1 e2 => ih _ _ _ _ _ _ _ _ he hLl p l e R s m args below meth c Q Z D sc cells' slots' hKey hST F (by omega) (by omega) (by omega) (q_End_mv e1 e2 hE))
              · cases he
            · cases he
      · split at he
        · rename_i hs
          cases he
          exact q_simT F hLl hd hl hs hE
        · cases he

end Q13
