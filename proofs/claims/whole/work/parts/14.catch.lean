section Q12
variable {p : Program} {l : Launch} {e : Env} {R : Room} {s : State} {m : MethodId} {args : Array Value} {below : List Frame} {meth : Method} {c : Code} {Q : State → Prop} {Z : ZZ} {D : va_G} {sc : Nat × (Nat → Int32)} {mi d pc pc' len : Nat} {ins : Instr} {L L' : LV} {st st' : List AV} {h h' : HH} {cells slots r : Nat} {H H1 : Heap} {locs locs1 : List Loc} {i n : Nat}
theorem q_mt_soul : q_mt iL_soul = (13, yL_soul, cL_soul, 5, some .int, 4) := rfl
theorem q_dsoul_0 : decode (mC iL_soul) 0 = .ok (.aload_n 3, 1) := by decide +kernel
theorem q_dsoul_1 : decode (mC iL_soul) 1 = .ok (.iconst 0, 1) := by decide +kernel
theorem q_dsoul_2 : decode (mC iL_soul) 2 = .ok (.aload_n 0, 1) := by decide +kernel
theorem q_dsoul_3 : decode (mC iL_soul) 3 = .ok (.iload_n 1, 1) := by decide +kernel
theorem q_dsoul_4 : decode (mC iL_soul) 4 = .ok (.iload_n 2, 1) := by decide +kernel
theorem q_dsoul_5 : decode (mC iL_soul) 5 = .ok (.invokevirtual 7, 3) := by decide +kernel
theorem q_dsoul_8 : decode (mC iL_soul) 8 = .ok (.i2l, 1) := by decide +kernel
theorem q_dsoul_9 : decode (mC iL_soul) 9 = .ok (.lastore, 1) := by decide +kernel
theorem q_dsoul_10 : decode (mC iL_soul) 10 = .ok (.goto 7, 3) := by decide +kernel
theorem q_dsoul_17 : decode (mC iL_soul) 17 = .ok (.iconst 0, 1) := by decide +kernel
theorem q_dsoul_18 : decode (mC iL_soul) 18 = .ok (.ireturn, 1) := by decide +kernel
theorem q_dsoul_13 : decode (mC iL_soul) 13 = .ok (.astore 4, 2) := by decide +kernel
theorem q_dsoul_15 : decode (mC iL_soul) 15 = .ok (.iconst 1, 1) := by decide +kernel
theorem q_dsoul_16 : decode (mC iL_soul) 16 = .ok (.ireturn, 1) := by decide +kernel
set_option maxHeartbeats 1000000 in
theorem q_pre_soul {x o d2 mc ms : Nat} {p0 p1 : Int} (F : q_Fx p (q_rm (d2 + 1) mc ms) s m ([aR x, aI p0, aI p1, aR o].map (cv Z)).toArray meth c Z D sc iL_soul (d2 + 1)) (hx0 : ¬ x = 0) (ho0 : ¬ o = 0)
    (kk : q_At p l e (q_rm (d2 + 1) mc ms) s m ([aR x, aI p0, aI p1, aR o].map (cv Z)).toArray below meth c Q Z D sc h 5 [some (aR x), some (aI p0), some (aI p1), some (aR o), none] [aI p1, aI p0, aR x, aI 0, aR o] 0 0) : q_At p l e (q_rm (d2 + 1) mc ms) s m ([aR x, aI p0, aI p1, aR o].map (cv Z)).toArray below meth c Q Z D sc h 0 [some (aR x), some (aI p0), some (aI p1), some (aR o), none] [] 0 0 := by
  refine q_simL F q_dsoul_0 rfl (st' := [aR o]) (L' := [some (aR x), some (aI p0), some (aI p1), some (aR o), none]) (by show (if o = 0 then none else some (_, _)) = some (_, _); rw [if_neg ho0]) ?_
  refine q_simP F q_dsoul_1 rfl (st' := [aI 0, aR o]) rfl ?_
  refine q_simL F q_dsoul_2 rfl (st' := [aR x, aI 0, aR o]) (L' := [some (aR x), some (aI p0), some (aI p1), some (aR o), none]) (by show (if x = 0 then none else some (_, _)) = some (_, _); rw [if_neg hx0]) ?_
  refine q_simL F q_dsoul_3 rfl (st' := [aI p0, aR x, aI 0, aR o]) (L' := [some (aR x), some (aI p0), some (aI p1), some (aR o), none]) rfl ?_
  refine q_simL F q_dsoul_4 rfl (st' := [aI p1, aI p0, aR x, aI 0, aR o]) (L' := [some (aR x), some (aI p0), some (aI p1), some (aR o), none]) rfl ?_
  exact kk
set_option maxHeartbeats 1000000 in
theorem q_lsA_soul {x o d2 mc ms : Nat} {p0 p1 v : Int} {h1 : HH} (IH : SimP n) (hKey : q_Key l) (hST : l.stackTraces = false) (he : ev n d2 iX11_soul 0 (q_ent iX11_soul [aR x, aI p0, aI p1]) [] h = some (.inl (some (.inl v)), h1)) (hx0 : q_ok h x 11 = true) (ho : q_ok h o 21 = true) (hle : (q_al [aR x, aI p0, aI p1]).length ≤ mL iX11_soul) (hv : q_in v = true) (ho1 : q_ok h1 o 21 = true) (hix : q_ix h1 o 0 = true) (hmc : mc = nC h1 - nC h) (hms : ms = nU h1 - nU h) :
    Met l yL_soul (.codeWith yL_soul cL_soul 5 (some .int) [(0, 10, 13, 13)] :: WS) (q_rm (d2 + 1) mc ms) (va_Pc ([aR x, aI p0, aI p1, aR o].map (cv Z)) (q_Pre Z D sc h)) (q_Post Z D sc (some (aI 0)) (q_sc h1 (q_up h1.2 o 0 v))) mc ms (aZ Z) := by
  have hmo := ev_mono _ _ _ _ _ _ _ _ _ he
  have hx1 := (q_ok_iff hx0).1
  have ho2 := (q_ok_iff ho).1
  refine va_MetW (cc := cL_soul) (maxL := 5) (ret := some .int) (hh := [(0, 10, 13, 13)]) (by decide +kernel) rfl ?_
  intro p e s m args below meth c s₁ B hml hv9
  obtain ⟨rfl, a1, a2, a3, a4, a5, a6, a7, a8⟩ := hv9
  have hbytes : c.code = mC iL_soul := B.bytes
  have hts := atoms_spec (ws := .codeWith yL_soul cL_soul 5 (some .int) [(0, 10, 13, 13)] :: WS) B.pre
  have hown : s.vm.findClass (oN (mO iL_soul)) = some m.cls := findClass_of_methodNamed B.named
  have hnm := (name_of_methodNamed B.named B.method).1
  have hwsx : ∀ w ∈ WS, w.before ([aR x, aI p0, aI p1, aR o].map (cv Z)).toArray s = true := fun w hw => hts w (List.mem_cons_of_mem _ hw)
  have F : q_Fx p (q_rm (d2 + 1) mc ms) s m ([aR x, aI p0, aI p1, aR o].map (cv Z)).toArray meth c Z D sc iL_soul (d2 + 1) := ⟨B.exec, hbytes, hml, hown, hwsx, B.notSynchronized, B.returns, fun hi => absurd hi (by decide +kernel), Nat.le_refl _, Nat.le_refl _, a3, a1, fun hq => absurd hq (by decide), a4⟩
  have hW0 : q_Wd Z D sc h s s.heap [] := ⟨a5, a6, va_S.rf, a7, a8⟩
  obtain ⟨hRL, hlen⟩ := q_ent_RL (Z := Z) (k := iL_soul) (as := [aR x, aI p0, aI p1, aR o]) (by show 4 ≤ 5; decide)
  rw [lg_entry_eq]
  refine q_pre_soul F (by omega) (by omega) ?_ s.heap [] _ hRL hW0
  refine q_simCall (d' := d2) (t := 1) (k := iX11_soul) (as := [aR x, aI p0, aI p1]) (rest := [aI 0, aR o]) IH hKey hST F rfl q_dsoul_5 rfl (by decide) (by unfold q_recv; rw [if_pos (Or.inl rfl)]; exact hx0) hle he (by omega) (by show 0 + nC h1 ≤ mc + nC h; omega) (by show 0 + nU h1 ≤ ms + nU h; omega) (fun cells1 slots1 hc1 hs1 => ?_)
  show q_At p l e (q_rm (d2 + 1) mc ms) s m _ below meth c _ Z D sc h1 8 _ [aI v, aI 0, aR o] cells1 slots1
  refine q_simP F q_dsoul_8 rfl (st' := [aL v, aI 0, aR o]) (by simp [stP, hv]) ?_
  refine q_simLast (x := v) (i := 0) F q_dsoul_9 ho1 hix ?_
  refine q_simJ F q_dsoul_10 rfl (pc' := 17) (st' := []) rfl ?_
  refine q_simP F q_dsoul_17 rfl (st' := [aI 0]) rfl ?_
  intro H1 locs1 Ls1 hL1 hWd
  have e1 : cells1 = mc := by omega
  have e2 : slots1 = ms := by omega
  subst e1
  subst e2
  exact W.iret B.exec hbytes B.returns (fun t ht _ => ⟨rfl, by rw [ht]; exact hWd.2.2.1.1, fun q g1 g2 => by rw [ht]; exact hWd.2.2.1.2.1 q g1 g2, by rw [ht]; exact hWd.1, hWd.2.1, hWd.2.2.2.1, hWd.2.2.2.2⟩) hWd.2.2.1.2.2 q_dsoul_18 B.notSynchronized
set_option maxHeartbeats 1000000 in
theorem q_lsB_soul {x o d2 mc ms pc0 : Nat} {p0 p1 : Int} {h1 : HH} {L0 : LV} (IH : SimP n) (hKey : q_Key l) (hST : l.stackTraces = false) (he : ev n d2 iX11_soul 0 (q_ent iX11_soul [aR x, aI p0, aI p1]) [] h = some (.inr (pc0, L0), h1)) (hx0 : q_ok h x 11 = true) (ho : q_ok h o 21 = true) (hle : (q_al [aR x, aI p0, aI p1]).length ≤ mL iX11_soul) (hmc : mc = nC h1 - nC h + 1) (hms : ms = nU h1 - nU h + 6) :
    Met l yL_soul (.codeWith yL_soul cL_soul 5 (some .int) [(0, 10, 13, 13)] :: WS) (q_rm (d2 + 1) mc ms) (va_Pc ([aR x, aI p0, aI p1, aR o].map (cv Z)) (q_Pre Z D sc h)) (q_Post Z D sc (some (aI 1)) (q_x1 h1)) mc ms (aZ Z) := by
  have hmo := ev_mono _ _ _ _ _ _ _ _ _ he
  have hx1 := (q_ok_iff hx0).1
  have ho2 := (q_ok_iff ho).1
  obtain ⟨m1, m2, m3, m4, m5, m6⟩ := q_mok_of (k := iX11_soul) (by decide) (by decide)
  have hM := q_metX (Z := Z) (D := D) (sc := sc) (d := d2) (k := iX11_soul) (as := [aR x, aI p0, aI p1]) IH hKey hST (by decide) (by decide) rfl hle he
  refine va_MetW (cc := cL_soul) (maxL := 5) (ret := some .int) (hh := [(0, 10, 13, 13)]) (by decide +kernel) rfl ?_
  intro p e s m args below meth c s₁ B hml hv9
  obtain ⟨rfl, a1, a2, a3, a4, a5, a6, a7, a8⟩ := hv9
  have htab := vx_table (x := yL_soul) B (atoms_spec (ws := .codeWith yL_soul cL_soul 5 (some .int) [(0, 10, 13, 13)] :: WS) B.pre _ List.mem_cons_self)
  have hbytes : c.code = mC iL_soul := B.bytes
  have hts := atoms_spec (ws := .codeWith yL_soul cL_soul 5 (some .int) [(0, 10, 13, 13)] :: WS) B.pre
  have hown : s.vm.findClass (oN (mO iL_soul)) = some m.cls := findClass_of_methodNamed B.named
  have hnm := (name_of_methodNamed B.named B.method).1
  have hwsx : ∀ w ∈ WS, w.before ([aR x, aI p0, aI p1, aR o].map (cv Z)).toArray s = true := fun w hw => hts w (List.mem_cons_of_mem _ hw)
  have F : q_Fx p (q_rm (d2 + 1) mc ms) s m ([aR x, aI p0, aI p1, aR o].map (cv Z)).toArray meth c Z D sc iL_soul (d2 + 1) := ⟨B.exec, hbytes, hml, hown, hwsx, B.notSynchronized, B.returns, fun hi => absurd hi (by decide +kernel), Nat.le_refl _, Nat.le_refl _, a3, a1, fun hq => absurd hq (by decide), a4⟩
  have hW0 : q_Wd Z D sc h s s.heap [] := ⟨a5, a6, va_S.rf, a7, a8⟩
  obtain ⟨hRL, hlen⟩ := q_ent_RL (Z := Z) (k := iL_soul) (as := [aR x, aI p0, aI p1, aR o]) (by show 4 ≤ 5; decide)
  rw [lg_entry_eq]
  refine q_pre_soul F (by omega) (by omega) ?_ s.heap [] _ hRL hW0
  intro H locs Ls hL hW T hT X
  have hsz := q_sizeLe (Z := Z) (h := h) X hT (by omega)
  have hszg : Z.1 < H.size := Nat.lt_of_lt_of_le a1 hW.2.2.1.1
  have hexH : q_Ex Z s H := q_Ex_kept hW.2.2.1.2.1 a4
  have hpre : ∀ U : State, U.heap = H → s.WarmedH U.vm → q_Pre Z D sc h U := fun U hU hWU => ⟨by rw [hU]; exact hszg, by rw [hU]; exact hsz, q_Vm_warm hWU a3, by rw [hU]; exact q_Ex_warm hWU hexH, by rw [hU]; exact hW.1, hW.2.1, hW.2.2.2.1, hW.2.2.2.2⟩
  have hcr : cv Z (aR x) = .ref (Z.1 + x) := cR_ok hx0
  obtain ⟨o1, o2, o3, o4⟩ := q_ok_iff hx0
  have hrc := va_recv (ci := 11) a3.1 hW.1 rfl (q0 := x - 1) (by rw [cW_at o1 o2, cE_ob o4 (by decide)])
  have hG : GoodIn WS (wsV RL 7 RX11 (mY iX11_soul) (.code (mY iX11_soul) (mC iX11_soul) (mL iX11_soul) (mR iX11_soul) :: WS)) := q_goodIn (fun w hw9 => by
    rcases List.mem_append.mp hw9 with h9 | h9
    · exact (q_words (show pl 13 7 = some (1, iX11_soul, 0, 0) from rfl)).1 w (by
        rcases List.mem_cons.mp h9 with rfl | h9
        · exact q_mm
        rcases List.mem_cons.mp h9 with rfl | h9
        · exact q_m1
        rcases List.mem_cons.mp h9 with rfl | h9
        · exact q_m2
        rcases List.mem_cons.mp h9 with rfl | h9
        · exact q_m3
        · cases h9)
    · rcases List.mem_cons.mp h9 with rfl | h9
      · exact m1
      · exact h9)
  have hfrm : (q_rm d2 (nC h1 - nC h + 1) (nU h1 - nU h + 6)).frames + 1 ≤ (q_rm (d2 + 1) mc ms).frames ∧ 8 + (mL iX11_soul + 11) + (q_rm d2 (nC h1 - nC h + 1) (nU h1 - nU h + 6)).locals ≤ (q_rm (d2 + 1) mc ms).locals := ⟨q_rl1 (by show d2 + 1 + 12 ≤ d2 + 1 + 12; omega), q_rl2 m6 (by show 100 * (d2 + 1) + 1500 ≤ 100 * (d2 + 1) + 1500; omega)⟩
  suffices hW1 : W p l e (q_rm (d2 + 1) mc ms) s m ([aR x, aI p0, aI p1, aR o].map (cv Z)).toArray below meth c H locs 0 0 (MQ below (q_Post Z D sc (some (aI 1)) (q_x1 h1)) ([aR x, aI p0, aI p1, aR o].map (cv Z)).toArray s mc ms (aZ Z)) (F0 m 5 Ls ([aI p1, aI p0, aR x, aI 0, aR o].map (cv Z))) from hW1 T hT X
  rw [show [aR x, aI p0, aI p1].map (cv Z) = .ref (Z.1 + x) :: [aI p0, aI p1].map (cv Z) by rw [List.map_cons, hcr]] at hM
  have hLsz : Ls.size = 5 := by rw [hL.1]; rfl
  refine vx_calli (A0 := aZ Z) (H0 := s.heap) (vx_runV (As := [aI p0, aI p1].map (cv Z)) (rest := [aI 0, aR o].map (cv Z)) ⟨B.exec, hbytes, hml, hown, hwsx⟩ hM (cwV 2 hwsx hG rfl rfl rfl ⟨rfl, m4.1, m4.2, q_params (k := iX11_soul) (by decide) (by decide) rfl⟩ hfrm) ⟨q_pre_blind, hrc, fun U hU hWU => ⟨rfl, hpre U hU hWU⟩⟩ rfl rfl hLsz (by simp only [List.map_cons, hcr, List.map_nil]; rfl) (lv_room (by rw [cv_sum]; show 2 ≤ 8; omega)) q_dsoul_5 ⟨by show 0 + (nC h1 - nC h + 1) ≤ mc; omega, by show 0 + (nU h1 - nU h + 6) ≤ ms; omega⟩) hW.2.2.1 (fun _ _ z => z) (fun _ z => z) (fun _ _ z => z) (fun E ce q9 u t H1 locs1 ht hal _ hBX hz9 hk9 hS1 hce hcv hcl => ?_) (fun r u t H1 locs1 _ _ hpost => hpost.elim)
  obtain ⟨rfl, b2, b3, b4, b5⟩ := hBX
  have hcast := va_Nw.use (A := ([aR x, aI p0, aI p1, aR o].map (cv Z)).toArray) (q_nw_tab q_t1247) (a3.2.1 _ q_t1247)
  refine vx_catch (own := RL) (name := "java/util/NoSuchElementException") hown [] ⟨0, 10, 13, 13⟩ [] htab (fun z hz => by cases hz) rfl (by decide) (hwsx _ q_t1240) hcast hce hcv hcl ?_
  refine lv_astore B.exec hbytes q_dsoul_13 (q_asc_has hL) (by simp) rfl (fun ls2 hl2 => ?_)
  refine lv_iconst (v := 1) B.exec hbytes q_dsoul_15 rfl ?_
  have e1 : 0 + (nC h1 - nC h + 1) = mc := by omega
  have e2 : 0 + (nU h1 - nU h + 6) = ms := by omega
  rw [e1, e2]
  exact W.iret B.exec hbytes B.returns (fun t2 ht2 _ => ⟨rfl, by rw [ht2]; exact hS1.1, fun q g1 g2 => by rw [ht2]; exact hS1.2.1 q g1 g2, by rw [ht2, q_cW_x1, ← ht]; exact b2, by rw [q_cW_x1]; exact b3, b4, by
    have e0 : (q_x1 h1).2 0 0 = h1.2 0 0 + 1 := by
      show q_up h1.2 0 0 (h1.2 0 0 + 1) 0 0 = _
      rw [q_up, q_uf_same, q_u1_same]
    rw [e0]; omega⟩) hS1.2.2 q_dsoul_16 B.notSynchronized
theorem q_mt_net : q_mt iL_net = (13, yL_net, cL_net, 4, some .int, 3) := rfl
theorem q_dnet_0 : decode (mC iL_net) 0 = .ok (.aload_n 2, 1) := by decide +kernel
theorem q_dnet_1 : decode (mC iL_net) 1 = .ok (.iconst 0, 1) := by decide +kernel
theorem q_dnet_2 : decode (mC iL_net) 2 = .ok (.aload_n 0, 1) := by decide +kernel
theorem q_dnet_3 : decode (mC iL_net) 3 = .ok (.iload_n 1, 1) := by decide +kernel
theorem q_dnet_4 : decode (mC iL_net) 4 = .ok (.invokevirtual 15, 3) := by decide +kernel
theorem q_dnet_7 : decode (mC iL_net) 7 = .ok (.i2l, 1) := by decide +kernel
theorem q_dnet_8 : decode (mC iL_net) 8 = .ok (.lastore, 1) := by decide +kernel
theorem q_dnet_9 : decode (mC iL_net) 9 = .ok (.goto 6, 3) := by decide +kernel
theorem q_dnet_15 : decode (mC iL_net) 15 = .ok (.iconst 0, 1) := by decide +kernel
theorem q_dnet_16 : decode (mC iL_net) 16 = .ok (.ireturn, 1) := by decide +kernel
theorem q_dnet_12 : decode (mC iL_net) 12 = .ok (.astore_n 3, 1) := by decide +kernel
theorem q_dnet_13 : decode (mC iL_net) 13 = .ok (.iconst 1, 1) := by decide +kernel
theorem q_dnet_14 : decode (mC iL_net) 14 = .ok (.ireturn, 1) := by decide +kernel
set_option maxHeartbeats 1000000 in
theorem q_pre_net {x o d2 mc ms : Nat} {p0 : Int} (F : q_Fx p (q_rm (d2 + 1) mc ms) s m ([aR x, aI p0, aR o].map (cv Z)).toArray meth c Z D sc iL_net (d2 + 1)) (hx0 : ¬ x = 0) (ho0 : ¬ o = 0)
    (kk : q_At p l e (q_rm (d2 + 1) mc ms) s m ([aR x, aI p0, aR o].map (cv Z)).toArray below meth c Q Z D sc h 4 [some (aR x), some (aI p0), some (aR o), none] [aI p0, aR x, aI 0, aR o] 0 0) : q_At p l e (q_rm (d2 + 1) mc ms) s m ([aR x, aI p0, aR o].map (cv Z)).toArray below meth c Q Z D sc h 0 [some (aR x), some (aI p0), some (aR o), none] [] 0 0 := by
  refine q_simL F q_dnet_0 rfl (st' := [aR o]) (L' := [some (aR x), some (aI p0), some (aR o), none]) (by show (if o = 0 then none else some (_, _)) = some (_, _); rw [if_neg ho0]) ?_
  refine q_simP F q_dnet_1 rfl (st' := [aI 0, aR o]) rfl ?_
  refine q_simL F q_dnet_2 rfl (st' := [aR x, aI 0, aR o]) (L' := [some (aR x), some (aI p0), some (aR o), none]) (by show (if x = 0 then none else some (_, _)) = some (_, _); rw [if_neg hx0]) ?_
  refine q_simL F q_dnet_3 rfl (st' := [aI p0, aR x, aI 0, aR o]) (L' := [some (aR x), some (aI p0), some (aR o), none]) rfl ?_
  exact kk
set_option maxHeartbeats 1000000 in
theorem q_lsA_net {x o d2 mc ms : Nat} {p0 v : Int} {h1 : HH} (IH : SimP n) (hKey : q_Key l) (hST : l.stackTraces = false) (he : ev n d2 iX11_net 0 (q_ent iX11_net [aR x, aI p0]) [] h = some (.inl (some (.inl v)), h1)) (hx0 : q_ok h x 11 = true) (ho : q_ok h o 21 = true) (hle : (q_al [aR x, aI p0]).length ≤ mL iX11_net) (hv : q_in v = true) (ho1 : q_ok h1 o 21 = true) (hix : q_ix h1 o 0 = true) (hmc : mc = nC h1 - nC h) (hms : ms = nU h1 - nU h) :
    Met l yL_net (.codeWith yL_net cL_net 4 (some .int) [(0, 9, 12, 13)] :: WS) (q_rm (d2 + 1) mc ms) (va_Pc ([aR x, aI p0, aR o].map (cv Z)) (q_Pre Z D sc h)) (q_Post Z D sc (some (aI 0)) (q_sc h1 (q_up h1.2 o 0 v))) mc ms (aZ Z) := by
  have hmo := ev_mono _ _ _ _ _ _ _ _ _ he
  have hx1 := (q_ok_iff hx0).1
  have ho2 := (q_ok_iff ho).1
  refine va_MetW (cc := cL_net) (maxL := 4) (ret := some .int) (hh := [(0, 9, 12, 13)]) (by decide +kernel) rfl ?_
  intro p e s m args below meth c s₁ B hml hv9
  obtain ⟨rfl, a1, a2, a3, a4, a5, a6, a7, a8⟩ := hv9
  have hbytes : c.code = mC iL_net := B.bytes
  have hts := atoms_spec (ws := .codeWith yL_net cL_net 4 (some .int) [(0, 9, 12, 13)] :: WS) B.pre
  have hown : s.vm.findClass (oN (mO iL_net)) = some m.cls := findClass_of_methodNamed B.named
  have hnm := (name_of_methodNamed B.named B.method).1
  have hwsx : ∀ w ∈ WS, w.before ([aR x, aI p0, aR o].map (cv Z)).toArray s = true := fun w hw => hts w (List.mem_cons_of_mem _ hw)
  have F : q_Fx p (q_rm (d2 + 1) mc ms) s m ([aR x, aI p0, aR o].map (cv Z)).toArray meth c Z D sc iL_net (d2 + 1) := ⟨B.exec, hbytes, hml, hown, hwsx, B.notSynchronized, B.returns, fun hi => absurd hi (by decide +kernel), Nat.le_refl _, Nat.le_refl _, a3, a1, fun hq => absurd hq (by decide), a4⟩
  have hW0 : q_Wd Z D sc h s s.heap [] := ⟨a5, a6, va_S.rf, a7, a8⟩
  obtain ⟨hRL, hlen⟩ := q_ent_RL (Z := Z) (k := iL_net) (as := [aR x, aI p0, aR o]) (by show 3 ≤ 4; decide)
  rw [lg_entry_eq]
  refine q_pre_net F (by omega) (by omega) ?_ s.heap [] _ hRL hW0
  refine q_simCall (d' := d2) (t := 1) (k := iX11_net) (as := [aR x, aI p0]) (rest := [aI 0, aR o]) IH hKey hST F rfl q_dnet_4 rfl (by decide) (by unfold q_recv; rw [if_pos (Or.inl rfl)]; exact hx0) hle he (by omega) (by show 0 + nC h1 ≤ mc + nC h; omega) (by show 0 + nU h1 ≤ ms + nU h; omega) (fun cells1 slots1 hc1 hs1 => ?_)
  show q_At p l e (q_rm (d2 + 1) mc ms) s m _ below meth c _ Z D sc h1 7 _ [aI v, aI 0, aR o] cells1 slots1
  refine q_simP F q_dnet_7 rfl (st' := [aL v, aI 0, aR o]) (by simp [stP, hv]) ?_
  refine q_simLast (x := v) (i := 0) F q_dnet_8 ho1 hix ?_
  refine q_simJ F q_dnet_9 rfl (pc' := 15) (st' := []) rfl ?_
  refine q_simP F q_dnet_15 rfl (st' := [aI 0]) rfl ?_
  intro H1 locs1 Ls1 hL1 hWd
  have e1 : cells1 = mc := by omega
  have e2 : slots1 = ms := by omega
  subst e1
  subst e2
  exact W.iret B.exec hbytes B.returns (fun t ht _ => ⟨rfl, by rw [ht]; exact hWd.2.2.1.1, fun q g1 g2 => by rw [ht]; exact hWd.2.2.1.2.1 q g1 g2, by rw [ht]; exact hWd.1, hWd.2.1, hWd.2.2.2.1, hWd.2.2.2.2⟩) hWd.2.2.1.2.2 q_dnet_16 B.notSynchronized
set_option maxHeartbeats 1000000 in
theorem q_lsB_net {x o d2 mc ms pc0 : Nat} {p0 : Int} {h1 : HH} {L0 : LV} (IH : SimP n) (hKey : q_Key l) (hST : l.stackTraces = false) (he : ev n d2 iX11_net 0 (q_ent iX11_net [aR x, aI p0]) [] h = some (.inr (pc0, L0), h1)) (hx0 : q_ok h x 11 = true) (ho : q_ok h o 21 = true) (hle : (q_al [aR x, aI p0]).length ≤ mL iX11_net) (hmc : mc = nC h1 - nC h + 1) (hms : ms = nU h1 - nU h + 6) :
    Met l yL_net (.codeWith yL_net cL_net 4 (some .int) [(0, 9, 12, 13)] :: WS) (q_rm (d2 + 1) mc ms) (va_Pc ([aR x, aI p0, aR o].map (cv Z)) (q_Pre Z D sc h)) (q_Post Z D sc (some (aI 1)) (q_x1 h1)) mc ms (aZ Z) := by
  have hmo := ev_mono _ _ _ _ _ _ _ _ _ he
  have hx1 := (q_ok_iff hx0).1
  have ho2 := (q_ok_iff ho).1
  obtain ⟨m1, m2, m3, m4, m5, m6⟩ := q_mok_of (k := iX11_net) (by decide) (by decide)
  have hM := q_metX (Z := Z) (D := D) (sc := sc) (d := d2) (k := iX11_net) (as := [aR x, aI p0]) IH hKey hST (by decide) (by decide) rfl hle he
  refine va_MetW (cc := cL_net) (maxL := 4) (ret := some .int) (hh := [(0, 9, 12, 13)]) (by decide +kernel) rfl ?_
  intro p e s m args below meth c s₁ B hml hv9
  obtain ⟨rfl, a1, a2, a3, a4, a5, a6, a7, a8⟩ := hv9
  have htab := vx_table (x := yL_net) B (atoms_spec (ws := .codeWith yL_net cL_net 4 (some .int) [(0, 9, 12, 13)] :: WS) B.pre _ List.mem_cons_self)
  have hbytes : c.code = mC iL_net := B.bytes
  have hts := atoms_spec (ws := .codeWith yL_net cL_net 4 (some .int) [(0, 9, 12, 13)] :: WS) B.pre
  have hown : s.vm.findClass (oN (mO iL_net)) = some m.cls := findClass_of_methodNamed B.named
  have hnm := (name_of_methodNamed B.named B.method).1
  have hwsx : ∀ w ∈ WS, w.before ([aR x, aI p0, aR o].map (cv Z)).toArray s = true := fun w hw => hts w (List.mem_cons_of_mem _ hw)
  have F : q_Fx p (q_rm (d2 + 1) mc ms) s m ([aR x, aI p0, aR o].map (cv Z)).toArray meth c Z D sc iL_net (d2 + 1) := ⟨B.exec, hbytes, hml, hown, hwsx, B.notSynchronized, B.returns, fun hi => absurd hi (by decide +kernel), Nat.le_refl _, Nat.le_refl _, a3, a1, fun hq => absurd hq (by decide), a4⟩
  have hW0 : q_Wd Z D sc h s s.heap [] := ⟨a5, a6, va_S.rf, a7, a8⟩
  obtain ⟨hRL, hlen⟩ := q_ent_RL (Z := Z) (k := iL_net) (as := [aR x, aI p0, aR o]) (by show 3 ≤ 4; decide)
  rw [lg_entry_eq]
  refine q_pre_net F (by omega) (by omega) ?_ s.heap [] _ hRL hW0
  intro H locs Ls hL hW T hT X
  have hsz := q_sizeLe (Z := Z) (h := h) X hT (by omega)
  have hszg : Z.1 < H.size := Nat.lt_of_lt_of_le a1 hW.2.2.1.1
  have hexH : q_Ex Z s H := q_Ex_kept hW.2.2.1.2.1 a4
  have hpre : ∀ U : State, U.heap = H → s.WarmedH U.vm → q_Pre Z D sc h U := fun U hU hWU => ⟨by rw [hU]; exact hszg, by rw [hU]; exact hsz, q_Vm_warm hWU a3, by rw [hU]; exact q_Ex_warm hWU hexH, by rw [hU]; exact hW.1, hW.2.1, hW.2.2.2.1, hW.2.2.2.2⟩
  have hcr : cv Z (aR x) = .ref (Z.1 + x) := cR_ok hx0
  obtain ⟨o1, o2, o3, o4⟩ := q_ok_iff hx0
  have hrc := va_recv (ci := 11) a3.1 hW.1 rfl (q0 := x - 1) (by rw [cW_at o1 o2, cE_ob o4 (by decide)])
  have hG : GoodIn WS (wsV RL 15 RX11 (mY iX11_net) (.code (mY iX11_net) (mC iX11_net) (mL iX11_net) (mR iX11_net) :: WS)) := q_goodIn (fun w hw9 => by
    rcases List.mem_append.mp hw9 with h9 | h9
    · exact (q_words (show pl 13 15 = some (1, iX11_net, 0, 0) from rfl)).1 w (by
        rcases List.mem_cons.mp h9 with rfl | h9
        · exact q_mm
        rcases List.mem_cons.mp h9 with rfl | h9
        · exact q_m1
        rcases List.mem_cons.mp h9 with rfl | h9
        · exact q_m2
        rcases List.mem_cons.mp h9 with rfl | h9
        · exact q_m3
        · cases h9)
    · rcases List.mem_cons.mp h9 with rfl | h9
      · exact m1
      · exact h9)
  have hfrm : (q_rm d2 (nC h1 - nC h + 1) (nU h1 - nU h + 6)).frames + 1 ≤ (q_rm (d2 + 1) mc ms).frames ∧ 8 + (mL iX11_net + 11) + (q_rm d2 (nC h1 - nC h + 1) (nU h1 - nU h + 6)).locals ≤ (q_rm (d2 + 1) mc ms).locals := ⟨q_rl1 (by show d2 + 1 + 12 ≤ d2 + 1 + 12; omega), q_rl2 m6 (by show 100 * (d2 + 1) + 1500 ≤ 100 * (d2 + 1) + 1500; omega)⟩
  suffices hW1 : W p l e (q_rm (d2 + 1) mc ms) s m ([aR x, aI p0, aR o].map (cv Z)).toArray below meth c H locs 0 0 (MQ below (q_Post Z D sc (some (aI 1)) (q_x1 h1)) ([aR x, aI p0, aR o].map (cv Z)).toArray s mc ms (aZ Z)) (F0 m 4 Ls ([aI p0, aR x, aI 0, aR o].map (cv Z))) from hW1 T hT X
  rw [show [aR x, aI p0].map (cv Z) = .ref (Z.1 + x) :: [aI p0].map (cv Z) by rw [List.map_cons, hcr]] at hM
  have hLsz : Ls.size = 4 := by rw [hL.1]; rfl
  refine vx_calli (A0 := aZ Z) (H0 := s.heap) (vx_runV (As := [aI p0].map (cv Z)) (rest := [aI 0, aR o].map (cv Z)) ⟨B.exec, hbytes, hml, hown, hwsx⟩ hM (cwV 1 hwsx hG rfl rfl rfl ⟨rfl, m4.1, m4.2, q_params (k := iX11_net) (by decide) (by decide) rfl⟩ hfrm) ⟨q_pre_blind, hrc, fun U hU hWU => ⟨rfl, hpre U hU hWU⟩⟩ rfl rfl hLsz (by simp only [List.map_cons, hcr, List.map_nil]; rfl) (lv_room (by rw [cv_sum]; show 2 ≤ 8; omega)) q_dnet_4 ⟨by show 0 + (nC h1 - nC h + 1) ≤ mc; omega, by show 0 + (nU h1 - nU h + 6) ≤ ms; omega⟩) hW.2.2.1 (fun _ _ z => z) (fun _ z => z) (fun _ _ z => z) (fun E ce q9 u t H1 locs1 ht hal _ hBX hz9 hk9 hS1 hce hcv hcl => ?_) (fun r u t H1 locs1 _ _ hpost => hpost.elim)
  obtain ⟨rfl, b2, b3, b4, b5⟩ := hBX
  have hcast := va_Nw.use (A := ([aR x, aI p0, aR o].map (cv Z)).toArray) (q_nw_tab q_t1247) (a3.2.1 _ q_t1247)
  refine vx_catch (own := RL) (name := "java/util/NoSuchElementException") hown [] ⟨0, 9, 12, 13⟩ [] htab (fun z hz => by cases hz) rfl (by decide) (hwsx _ q_t1240) hcast hce hcv hcl ?_
  refine lv_astore_n B.exec hbytes q_dnet_12 rfl (q_asc_has hL) (by simp) rfl (fun ls2 hl2 => ?_)
  refine lv_iconst (v := 1) B.exec hbytes q_dnet_13 rfl ?_
  have e1 : 0 + (nC h1 - nC h + 1) = mc := by omega
  have e2 : 0 + (nU h1 - nU h + 6) = ms := by omega
  rw [e1, e2]
  exact W.iret B.exec hbytes B.returns (fun t2 ht2 _ => ⟨rfl, by rw [ht2]; exact hS1.1, fun q g1 g2 => by rw [ht2]; exact hS1.2.1 q g1 g2, by rw [ht2, q_cW_x1, ← ht]; exact b2, by rw [q_cW_x1]; exact b3, b4, by
    have e0 : (q_x1 h1).2 0 0 = h1.2 0 0 + 1 := by
      show q_up h1.2 0 0 (h1.2 0 0 + 1) 0 0 = _
      rw [q_up, q_uf_same, q_u1_same]
    rw [e0]; omega⟩) hS1.2.2 q_dnet_14 B.notSynchronized
end Q12
