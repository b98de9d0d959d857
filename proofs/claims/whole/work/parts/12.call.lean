section Q10
variable {p : Program} {l : Launch} {e : Env} {R : Room} {s : State} {m : MethodId} {args : Array Value} {below : List Frame} {meth : Method} {c : Code} {Q : State → Prop} {Z : ZZ} {D : va_G} {sc : Nat × (Nat → Int32)} {mi d pc pc' len : Nat} {ins : Instr} {L L' : LV} {st st' : List AV} {h h' : HH} {cells slots r : Nat} {H H1 : Heap} {locs locs1 : List Loc} {i n : Nat}
theorem q_stC {t k : Nat} {as rest : List AV} (hs : stC mi ins st = some (t, k, as, rest)) : ∃ (i z1 : Nat) (z2 : Int), pl (mO mi) i = some (t, k, z1, z2) ∧ ((ins = .invokevirtual i ∧ t = 1) ∨ (ins = .invokestatic i ∧ (t = 2 ∨ t = 3 ∨ t = 13 ∨ t = 14)) ∨ (ins = .invokespecial i ∧ (t = 4 ∨ t = 5))) ∧ as.length = (if t = 13 ∨ t = 14 then mA k + 1 else mA k) ∧ st = as.reverse ++ rest ∧ q_csum rest ≤ 8 ∧ k < q_law := by
  unfold stC at hs
  have fin : ∀ (t0 k0 : Nat), (let na := if t0 = 13 ∨ t0 = 14 then mA k0 + 1 else mA k0
      if na ≤ st.length ∧ q_csum (st.drop na) ≤ 8 ∧ k0 < q_law then some (t0, k0, (st.take na).reverse, st.drop na) else none) = some (t, k, as, rest) → t0 = t ∧ k0 = k ∧ as.length = (if t = 13 ∨ t = 14 then mA k + 1 else mA k) ∧ st = as.reverse ++ rest ∧ q_csum rest ≤ 8 ∧ k < q_law := by
    intro t0 k0 hh
    dsimp only at hh
    generalize hna : (if t0 = 13 ∨ t0 = 14 then mA k0 + 1 else mA k0) = na at hh
    by_cases hg : na ≤ st.length ∧ q_csum (st.drop na) ≤ 8 ∧ k0 < q_law
    · rw [if_pos hg] at hh
      cases hh
      refine ⟨rfl, rfl, ?_, ?_, hg.2.1, hg.2.2⟩
      · rw [List.length_reverse, List.length_take, hna]
        omega
      · rw [List.reverse_reverse, List.take_append_drop]
    · rw [if_neg hg] at hh
      cases hh
  split at hs
  · rename_i t0 k0 hm
    obtain ⟨rfl, rfl, f1, f2, f3, f4⟩ := fin _ _ hs
    split at hm
    · rename_i i0
      cases hp : pl (mO mi) i0 with
      | none => rw [hp] at hm; cases hm
      | some q =>
        obtain ⟨t1, k1, z1, z2⟩ := q
        rw [hp] at hm
        simp only [Option.bind_some] at hm
        split at hm
        · rename_i hg
          cases hm
          exact ⟨i0, z1, z2, hp, Or.inl ⟨rfl, hg⟩, f1, f2, f3, f4⟩
        · cases hm
    · rename_i i0
      cases hp : pl (mO mi) i0 with
      | none => rw [hp] at hm; cases hm
      | some q =>
        obtain ⟨t1, k1, z1, z2⟩ := q
        rw [hp] at hm
        simp only [Option.bind_some] at hm
        split at hm
        · rename_i hg
          cases hm
          exact ⟨i0, z1, z2, hp, Or.inr (Or.inl ⟨rfl, hg⟩), f1, f2, f3, f4⟩
        · cases hm
    · rename_i i0
      cases hp : pl (mO mi) i0 with
      | none => rw [hp] at hm; cases hm
      | some q =>
        obtain ⟨t1, k1, z1, z2⟩ := q
        rw [hp] at hm
        simp only [Option.bind_some] at hm
        split at hm
        · rename_i hg
          cases hm
          exact ⟨i0, z1, z2, hp, Or.inr (Or.inr ⟨rfl, hg⟩), f1, f2, f3, f4⟩
        · cases hm
    · cases hm
  · cases hs
theorem q_revmap {as rest : List AV} : (as.reverse ++ rest).map (cv Z) = (as.map (cv Z)).reverse ++ rest.map (cv Z) := by
  rw [List.map_append, List.map_reverse]
theorem q_retmap {r : Option AV} {rest : List AV} : (r.toList ++ rest).map (cv Z) = (r.map (cv Z)).toList ++ rest.map (cv Z) := by
  cases r <;> rfl
theorem q_rl1 {d' mc ms x : Nat} (h : d' + 1 + 12 ≤ x) : (q_rm d' mc ms).frames + 1 ≤ x := by
  have e : (q_rm d' mc ms).frames = d' + 12 := rfl
  omega
theorem q_rl2 {d' mc ms ml x : Nat} (hm : ml ≤ 60) (h : 100 * (d' + 1) + 1500 ≤ x) : 8 + (ml + 11) + (q_rm d' mc ms).locals ≤ x := by
  have e : (q_rm d' mc ms).locals = 100 * d' + 1500 := rfl
  omega
set_option maxHeartbeats 1000000 in
theorem q_simCall {t k d' : Nat} {as rest : List AV} {r : Option AV} {h1 : HH} (IH : SimP n) (hKey : q_Key l) (hST : l.stackTraces = false) (F : q_Fx p R s m args meth c Z D sc mi (d' + 1)) (hLl : L.length = mL mi) (hd : decode (mC mi) pc = .ok (ins, 3)) (hs : stC mi ins st = some (t, k, as, rest)) (ht : ¬ (t = 13 ∨ t = 14)) (hrv : q_recv h t k as = true) (hle : (q_al as).length ≤ mL k) (he : ev n d' k 0 (q_ent k as) [] h = some (.inl r, h1))
    (hz : s.heap.size + cells ≤ Z.1 + 1 + nC h) (hc : cells + nC h1 ≤ R.cells + nC h) (hu : slots + nU h1 ≤ R.slots + nU h)
    (kk : ∀ cells' slots' : Nat, cells' + nC h = cells + nC h1 → slots' + nU h = slots + nU h1 → q_At p l e R s m args below meth c Q Z D sc h1 (pc + 3) L (r.toList ++ rest) cells' slots') : q_At p l e R s m args below meth c Q Z D sc h pc L st cells slots := by
  obtain ⟨i, z1, z2, hp, hi, hal, hst, hcs, hkl⟩ := q_stC hs
  rw [if_neg ht] at hal
  have hmo := ev_mono _ _ _ _ _ _ _ _ _ he
  obtain ⟨hx, hb, hml, hown, hts, hlocks, hret, hinit, hfr, hlo, hvm, hZs, hlaw, hex⟩ := F
  have hw := q_words hp
  intro H locs Ls hL hW T hT X
  have hsz := q_sizeLe X hT hz
  have hszg : Z.1 < H.size := Nat.lt_of_lt_of_le hZs hW.2.2.1.1
  suffices hW1 : W p l e R s m args below meth c H locs cells slots Q (F0 m pc Ls (st.map (cv Z))) from hW1 T hT X
  have hexH : q_Ex Z s H := q_Ex_kept hW.2.2.1.2.1 hex
  have hpre : ∀ U : State, U.heap = H → s.WarmedH U.vm → q_Pre Z D sc h U := fun U hU hWU => ⟨by rw [hU]; exact hszg, by rw [hU]; exact hsz, q_Vm_warm hWU hvm, by rw [hU]; exact q_Ex_warm hWU hexH, by rw [hU]; exact hW.1, hW.2.1, hW.2.2.2.1, hW.2.2.2.2⟩
  have hroom : ∀ ml : Nat, ml ≤ 60 → (q_rm d' (nC h1 - nC h) (nU h1 - nU h)).frames + 1 ≤ R.frames ∧ 8 + (ml + 11) + (q_rm d' (nC h1 - nC h) (nU h1 - nU h)).locals ≤ R.locals := fun ml hm => ⟨q_rl1 hfr, q_rl2 hm hlo⟩
  have hcc : cells + (nC h1 - nC h) ≤ R.cells ∧ slots + (nU h1 - nU h) ≤ R.slots := ⟨by omega, by omega⟩
  have hcsm : ((rest.map (cv Z)).map fun v => v.category).sum ≤ 8 := by rw [cv_sum]; exact hcs
  have hfin : ∀ (v : Option Value) (st₀ t : State) (locs1 : List Loc) (a : Array Value), st₀.heap = H → q_Post Z D sc r h1 a st₀ (.returned v) t → (∀ q ∈ locs1, q ∈ locs ∨ aZ Z q.base) → W p l e R s m args below meth c t.heap locs1 (cells + (nC h1 - nC h)) (slots + (nU h1 - nU h)) Q (F0 m (pc + 3) Ls (v.toList ++ rest.map (cv Z))) := by
    intro v st₀ t locs1 a h0 hq hlo1
    obtain ⟨rfl, hWd⟩ := q_afterH hW hq h0 hlo1
    have k1 := kk (cells + (nC h1 - nC h)) (slots + (nU h1 - nU h)) (by omega) (by omega) t.heap locs1 Ls hL hWd
    rw [q_retmap] at k1
    exact k1
  have hLs : Ls.size = mL mi := by rw [← hLl]; exact hL.1
  rcases hi with ⟨rfl, rfl⟩ | ⟨rfl, ht2⟩ | ⟨rfl, ht4⟩
  · -- a virtual call
    obtain ⟨g1, g2, g3, g4, -⟩ := q_tagV hp (Or.inl rfl)
    obtain ⟨m1, m2, m3, m4, m5, m6⟩ := q_mok_of g1 g2
    have hM := q_met (Z := Z) (D := D) (sc := sc) IH hKey hST g1 g2 hle he
    unfold q_recv at hrv
    rw [if_pos (Or.inl rfl)] at hrv
    rcases as with _ | ⟨x | x | x, as'⟩
    · cases hrv
    · cases hrv
    · cases hrv
    · dsimp only at hrv
      obtain ⟨o1, o2, o3, o4⟩ := q_ok_iff hrv
      have hcr : cv Z (aR x) = .ref (Z.1 + x) := cR_ok hrv
      rw [List.map_cons, hcr] at hM
      obtain ⟨r0, hr0, -⟩ := q_cl_some g4
      obtain ⟨ty, hCl⟩ := q_cls hr0
      have hrc := va_recv hvm.1 hW.1 hr0 (q0 := x - 1) (by rw [cW_at o1 o2, cE_ob o4 g4])
      rw [← hCl.2.2.2.2.1, ← m3] at hrc
      have hpw : q_pw (mO mi) i (1, k, z1, z2) = [.methodLink (oN (mO mi)) i (mY k), .instanceMethod (mY k), .selects (mY k).cls (mY k) (mY k), .initialized (mY k).cls, .code (mY k) (mC k) (mL k) (mR k)] := rfl
      rw [hpw] at hw
      have hG : GoodIn WS (wsV (oN (mO mi)) i (mY k).cls (mY k) (.code (mY k) (mC k) (mL k) (mR k) :: WS)) := q_goodIn (fun w hw9 => by
        rcases List.mem_append.mp hw9 with h9 | h9
        · exact hw.1 w (by
            rcases List.mem_cons.mp h9 with rfl | h9
            · exact q_mm
            rcases List.mem_cons.mp h9 with rfl | h9
            · exact q_m1
            rcases List.mem_cons.mp h9 with rfl | h9
            · exact q_m2
            rcases List.mem_cons.mp h9 with rfl | h9
            · exact q_m3
            · cases h9)
        · rcases List.mem_cons.mp h9 with rfl | h9
          · exact m1
          · exact h9)
      have hpn := q_params (x := as'.length) g1 g2 (by rw [if_neg g3]; exact hal)
      refine q_run (va_runV (As := as'.map (cv Z)) (rest := rest.map (cv Z)) ⟨hx, hb, hml, hown, hts⟩ hM (cwV as'.length hts hG rfl rfl rfl ⟨rfl, m4.1, m4.2, hpn⟩ (hroom _ m6)) ⟨q_pre_blind, hrc, fun U hU hWU => ⟨rfl, hpre U hU hWU⟩⟩ rfl (by rw [List.length_map]) hLs ?_ (lv_room hcsm) hd hcc) (fun v st₀ t locs1 h0 hal hq hlo1 => hfin v st₀ t locs1 _ h0 hq hlo1)
      show st.map (cv Z) = _
      rw [hst, q_revmap, List.map_cons, hcr, List.reverse_cons, List.append_assoc]
      rfl
  · -- a static call
    have ht3 : t = 2 ∨ t = 3 := by omega
    obtain ⟨g1, g2, g3⟩ := q_tagS hp ht3
    obtain ⟨m1, m2, m3, m4, m5, m6⟩ := q_mok_of g1 g2
    have hM := q_met (Z := Z) (D := D) (sc := sc) IH hKey hST g1 g2 hle he
    have hpn := q_params (x := as.length) g1 g2 (by rw [if_pos g3]; omega)
    have hstk : st.map (cv Z) = (as.map (cv Z)).reverse ++ rest.map (cv Z) := by rw [hst, q_revmap]
    rcases ht3 with rfl | rfl
    · have hpw : q_pw (mO mi) i (2, k, z1, z2) = [.methodLink (oN (mO mi)) i (mY k), .static (mY k), .initialized (mY k).cls, .code (mY k) (mC k) (mL k) (mR k)] := rfl
      rw [hpw] at hw
      have hG : GoodIn WS (va_wsS (oN (mO mi)) i (mY k) (.code (mY k) (mC k) (mL k) (mR k) :: WS)) := q_goodIn (fun w hw9 => by
        rcases List.mem_append.mp hw9 with h9 | h9
        · exact hw.1 w (by
            rcases List.mem_cons.mp h9 with rfl | h9
            · exact q_mm
            rcases List.mem_cons.mp h9 with rfl | h9
            · exact q_m1
            rcases List.mem_cons.mp h9 with rfl | h9
            · exact q_m2
            · cases h9)
        · rcases List.mem_cons.mp h9 with rfl | h9
          · exact m1
          · exact h9)
      exact q_run (va_runS (As := as.map (cv Z)) (rest := rest.map (cv Z)) ⟨hx, hb, hml, hown, hts⟩ hM (va_cwS as.length hts hG rfl rfl rfl ⟨m4.1, m4.2, hpn⟩ (hroom _ m6)) ⟨q_pre_blind, fun U hU hWU => ⟨rfl, hpre U hU hWU⟩⟩ rfl (by rw [List.length_map]) hLs hstk (lv_room hcsm) hd hcc) (fun v st₀ t locs1 h0 hal hq hlo1 => hfin v st₀ t locs1 _ h0 hq hlo1)
    · have hpw : q_pw (mO mi) i (3, k, z1, z2) = [.static (mY k), .initialized (mY k).cls, .code (mY k) (mC k) (mL k) (mR k)] := rfl
      have hpn2 : q_pn (mO mi) i (3, k, z1, z2) = [.methodLinkNest (oN (mO mi)) i (mY k) RX11] := rfl
      rw [hpw, hpn2] at hw
      have hnw := hvm.2.1 _ (hw.2 _ q_mm)
      have hG : GoodIn WS (.code (mY k) (mC k) (mL k) (mR k) :: WS) := q_goodIn (fun w h9 => by
        rcases List.mem_cons.mp h9 with rfl | h9
        · exact m1
        · exact h9)
      exact q_run (va_runSN (As := as.map (cv Z)) (rest := rest.map (cv Z)) ⟨hx, hb, hml, hown, hts⟩ hM ⟨va_cnB as.length hts hG rfl rfl rfl hnw (hts _ (hw.1 _ q_m1)) ⟨m4.1, m4.2, hpn⟩ (hroom _ m6), hts _ (hw.1 _ q_mm), trivial⟩ ⟨q_pre_blind, fun U hU hWU => ⟨rfl, hpre U hU hWU⟩⟩ rfl (by rw [List.length_map]) hLs hstk (lv_room hcsm) hd hcc) (fun v st₀ t locs1 h0 hal hq hlo1 => hfin v st₀ t locs1 _ h0 hq hlo1)
  · -- a constructor
    obtain ⟨g1, g2, g3, g4, g5⟩ := q_tagV hp (by omega)
    have g6 : mR k = none ∧ (mY k).name = "<init>" := g5.resolve_left (by omega)
    obtain ⟨m1, m2, m3, m4, m5, m6⟩ := q_mok_of g1 g2
    have hM := q_met (Z := Z) (D := D) (sc := sc) IH hKey hST g1 g2 hle he
    unfold q_recv at hrv
    rw [if_pos (by omega)] at hrv
    rcases as with _ | ⟨x | x | x, as'⟩
    · cases hrv
    · cases hrv
    · cases hrv
    · dsimp only at hrv
      obtain ⟨o1, o2, o3, o4⟩ := q_ok_iff hrv
      have hcr : cv Z (aR x) = .ref (Z.1 + x) := cR_ok hrv
      rw [List.map_cons, hcr, g6.1] at hM
      rw [g6.1] at m1
      have hpn := q_params (x := as'.length) g1 g2 (by rw [if_neg g3]; exact hal)
      have hG : GoodIn WS (.code (mY k) (mC k) (mL k) none :: WS) := q_goodIn (fun w h9 => by
        rcases List.mem_cons.mp h9 with rfl | h9
        · exact m1
        · exact h9)
      have hstk : st.map (cv Z) = (as'.map (cv Z)).reverse ++ .ref (Z.1 + x) :: rest.map (cv Z) := by
        rw [hst, q_revmap, List.map_cons, hcr, List.reverse_cons, List.append_assoc]
        rfl
      rcases ht4 with rfl | rfl
      · have hpw : q_pw (mO mi) i (4, k, z1, z2) = [.methodLink (oN (mO mi)) i (mY k), .instanceMethod (mY k), .initialized (mY k).cls, .code (mY k) (mC k) (mL k) none] := rfl
        rw [hpw] at hw
        exact q_run (va_runI (As := as'.map (cv Z)) (rest := rest.map (cv Z)) ⟨hx, hb, hml, hown, hts⟩ hM (cwI as'.length hts hG rfl rfl rfl (hts _ (hw.1 _ q_m2)) (hts _ (hw.1 _ q_mm)) (hts _ (hw.1 _ q_m1)) g6.2 ⟨m4.1, m4.2, hpn⟩ (hroom _ m6)) ⟨q_pre_blind, fun U hU hWU => ⟨rfl, hpre U hU hWU⟩⟩ rfl (by rw [List.length_map]) hLs hstk (lv_room hcsm) hd hcc) (fun v st₀ t locs1 h0 hal hq hlo1 => hfin v st₀ t locs1 _ h0 hq hlo1)
      · have hpw : q_pw (mO mi) i (5, k, z1, z2) = [.instanceMethod (mY k), .initialized (mY k).cls, .code (mY k) (mC k) (mL k) none] := rfl
        have hpn2 : q_pn (mO mi) i (5, k, z1, z2) = [.methodLinkNest (oN (mO mi)) i (mY k) RX11] := rfl
        rw [hpw, hpn2] at hw
        have hnw := hvm.2.1 _ (hw.2 _ q_mm)
        exact q_run (va_runIN (As := as'.map (cv Z)) (rest := rest.map (cv Z)) ⟨hx, hb, hml, hown, hts⟩ hM ⟨va_cnB as'.length hts hG rfl rfl rfl hnw (hts _ (hw.1 _ q_m1)) ⟨m4.1, m4.2, hpn⟩ (hroom _ m6), g6.2, hts _ (hw.1 _ q_mm)⟩ ⟨q_pre_blind, fun U hU hWU => ⟨rfl, hpre U hU hWU⟩⟩ rfl (by rw [List.length_map]) hLs hstk (lv_room hcsm) hd hcc) (fun v st₀ t locs1 h0 hal hq hlo1 => hfin v st₀ t locs1 _ h0 hq hlo1)
end Q10
