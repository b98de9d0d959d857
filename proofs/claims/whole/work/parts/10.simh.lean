section Q8
variable {p : Program} {l : Launch} {e : Env} {R : Room} {s : State} {m : MethodId} {args : Array Value} {below : List Frame} {meth : Method} {c : Code} {Q : State → Prop} {Z : ZZ} {D : va_G} {sc : Nat × (Nat → Int32)} {mi d pc pc' len : Nat} {ins : Instr} {L L' : LV} {st st' : List AV} {h h' : HH} {cells slots r : Nat} {H H1 : Heap} {locs locs1 : List Loc} {i : Nat}
theorem q_get_h (hs : q_get mi i r st h = some (st', h')) : h' = h := by
  unfold q_get at hs
  split at hs
  · split at hs
    · cases hs; rfl
    · cases hs
  · cases hs
theorem nC_sc {c : CC} (e0 : c 0 0 = h.2 0 0) : nC (q_sc h c) = nC h ∧ nU (q_sc h c) = nU h := by
  refine ⟨?_, ?_⟩
  · show gN h + (c 0 0).toNat = gN h + (h.2 0 0).toNat
    rw [e0]
  · show gU h + 6 * (c 0 0).toNat = gU h + 6 * (h.2 0 0).toNat
    rw [e0]
theorem q_up0 {c : CC} {i v : Int} (hr : 1 ≤ r) : q_up c r i v 0 0 = c 0 0 := by
  unfold q_up
  rw [q_uf_ne (by omega)]
theorem nC_up {i v : Int} (hr : 1 ≤ r) : nC (q_sc h (q_up h.2 r i v)) = nC h ∧ nU (q_sc h (q_up h.2 r i v)) = nU h := nC_sc (q_up0 hr)
theorem q_put_n {v : AV} (hs : q_put mi i v r st h = some (st', h')) : nC h' = nC h ∧ nU h' = nU h := by
  unfold q_put at hs
  split at hs
  · split at hs
    · rename_i hg
      have o1 := (q_ok_iff hg.2.2.1).1
      split at hs
      · split at hs
        · cases hs; exact nC_up o1
        · cases hs
      · split at hs
        · cases hs; exact nC_up o1
        · cases hs
      · split at hs
        · cases hs; exact ⟨rfl, rfl⟩
        · cases hs
    · cases hs
  · cases hs
theorem q_bool2 {a b : Bool} (h : (a && b) = true) : a = true ∧ b = true := by simpa using h
theorem q_or2 {a b : Bool} (h : (a || b) = true) : a = true ∨ b = true := by simpa using h
set_option maxHeartbeats 1000000 in
theorem q_simH (hKey : q_Key l) (F : q_Fx p R s m args meth c Z D sc mi d) (hLl : L.length = mL mi) (hd : decode (mC mi) pc = .ok (ins, len)) (hl : q_ln ins len = true) (hs : stH mi ins st h = some (st', h')) (hz : s.heap.size + cells ≤ Z.1 + 1 + nC h) (hc : cells + nC h' ≤ R.cells + nC h) (hu : slots + nU h' ≤ R.slots + nU h)
    (k : ∀ cells' slots' : Nat, cells' + nC h = cells + nC h' → slots' + nU h = slots + nU h' → q_At p l e R s m args below meth c Q Z D sc h' (pc + len) L st' cells' slots') : q_At p l e R s m args below meth c Q Z D sc h pc L st cells slots := by
  unfold stH at hs
  split at hs
  case h_1 =>
    have e : len = 3 := by simpa [q_ln] using hl
    subst e
    have e2 := q_get_h hs
    subst e2
    exact (q_simGet F hd hs (k _ _ rfl rfl)).1
  case h_2 =>
    have e : len = 3 := by simpa [q_ln] using hl
    subst e
    obtain ⟨n1, n2⟩ := q_put_n hs
    exact q_simPut F hd hs (k _ _ (by rw [n1]) (by rw [n2]))
  case h_3 =>
    have e : len = 1 := by simpa [q_ln] using hl
    subst e
    split at hs
    · rename_i hr
      subst hr
      split at hs
      · rename_i hg
        cases hs
        exact q_simSld F hd hg.1 hg.2.1 hg.2.2 (k _ _ rfl rfl)
      · cases hs
    · split at hs
      · rename_i hg
        cases hs
        obtain ⟨h1, h2⟩ := q_bool2 hg
        exact q_simIald F hd h1 h2 (k _ _ rfl rfl)
      · cases hs
  case h_4 =>
    have e : len = 1 := by simpa [q_ln] using hl
    subst e
    split at hs
    · rename_i hg
      cases hs
      obtain ⟨h1, h2⟩ := q_bool2 hg
      exact q_simLald F hd h1 h2 (k _ _ rfl rfl)
    · cases hs
  case h_5 =>
    have e : len = 1 := by simpa [q_ln] using hl
    subst e
    split at hs
    · rename_i hg
      cases hs
      obtain ⟨h1, h2⟩ := q_bool2 hg
      exact q_simBald F hd (q_or2 h1) h2 (k _ _ rfl rfl)
    · cases hs
  case h_6 =>
    have e : len = 1 := by simpa [q_ln] using hl
    subst e
    split at hs
    · rename_i hg
      cases hs
      obtain ⟨h1, h2⟩ := q_bool2 hg
      exact q_simAald F hd (q_or2 h1) h2 (k _ _ rfl rfl)
    · cases hs
  case h_7 =>
    have e : len = 1 := by simpa [q_ln] using hl
    subst e
    split at hs
    · rename_i hg
      cases hs
      obtain ⟨h1, h2⟩ := q_bool2 hg
      obtain ⟨n1, n2⟩ := nC_up (h := h) (q_ok_iff h1).1
      exact q_simIast F hd h1 h2 (k _ _ (by rw [n1]) (by rw [n2]))
    · cases hs
  case h_8 =>
    have e : len = 1 := by simpa [q_ln] using hl
    subst e
    split at hs
    · rename_i hg
      cases hs
      obtain ⟨h1, h2⟩ := q_bool2 hg
      obtain ⟨n1, n2⟩ := nC_up (h := h) (q_ok_iff h1).1
      exact q_simLast F hd h1 h2 (k _ _ (by rw [n1]) (by rw [n2]))
    · cases hs
  case h_9 =>
    have e : len = 1 := by simpa [q_ln] using hl
    subst e
    split at hs
    · rename_i hg
      cases hs
      obtain ⟨h1, h2⟩ := q_bool2 hg
      have h3 := q_or2 h1
      have h4 : 1 ≤ _ := h3.elim (fun z => (q_ok_iff z).1) (fun z => (q_ok_iff z).1)
      obtain ⟨n1, n2⟩ := nC_up (h := h) h4
      exact q_simBast F hd h3 h2 (k _ _ (by rw [n1]) (by rw [n2]))
    · cases hs
  case h_10 =>
    have e : len = 1 := by simpa [q_ln] using hl
    subst e
    split at hs
    · rename_i hg
      cases hs
      obtain ⟨h1, h2⟩ := q_bool2 hg
      have h3 := q_or2 h1
      exact q_simAast F hd (h3.elim (fun z => Or.inl (q_bool2 z)) (fun z => Or.inr (q_bool2 z))) h2 (k _ _ rfl rfl)
    · cases hs
  case h_11 =>
    have e : len = 1 := by simpa [q_ln] using hl
    subst e
    split at hs
    · rename_i hr
      subst hr
      split at hs
      · rename_i hg
        cases hs
        exact q_simSlen F hd hg (k _ _ rfl rfl)
      · cases hs
    · split at hs
      · rename_i hg
        cases hs
        simp only [Bool.or_eq_true, or_assoc] at hg
        exact q_simLen F hd hg (k _ _ rfl rfl)
      · cases hs
  case h_12 =>
    have e : len = 3 := by simpa [q_ln] using hl
    subst e
    split at hs
    · rename_i t ci z1 z2 hp
      split at hs
      · rename_i hg
        obtain ⟨rfl, hci⟩ := hg
        obtain ⟨q, hq, he⟩ := q_map_some hs
        cases he
        obtain ⟨-, -, n3, n4⟩ := q_new_some hq
        obtain ⟨c1, c2⟩ := nC_nw (k := ci) (n := q_N ci) (f := fun _ => 0) n3
        exact q_simNew F hd hp hci hq hz hc hu (k _ _ (by rw [n4, c1]; omega) (by rw [n4, c2]; omega))
      · cases hs
    · cases hs
  case h_13 =>
    have e : len = 2 := by simpa [q_ln] using hl
    subst e
    split at hs
    · rename_i hg
      have hw : ∀ w ∈ [Cond.arrayClass .int, Cond.arrayClass .long, Cond.arrayClass .byte, Cond.arrayClass .boolean], w ∈ WS := q_arr
      split at hs
      · obtain ⟨q, hq, he⟩ := q_map_some hs
        cases he
        obtain ⟨-, -, n3, n4⟩ := q_new_some hq
        obtain ⟨c1, c2⟩ := nC_nw (k := 20) (n := _) (f := fun _ => 0) n3
        exact q_simNewa (k := 20) F hd hg.1 hg.2 hq hz hc hu rfl (hw _ q_mm) (by decide) 0 rfl (fun U hU => hU) (by rw [cE_20 (by rw [q_nwS])]; simp only [q_nwS, q_nwC]; rfl) rfl (k _ _ (by rw [n4, c1]; omega) (by rw [n4, c2]; omega))
      · obtain ⟨q, hq, he⟩ := q_map_some hs
        cases he
        obtain ⟨-, -, n3, n4⟩ := q_new_some hq
        obtain ⟨c1, c2⟩ := nC_nw (k := 21) (n := _) (f := fun _ => 0) n3
        exact q_simNewa (k := 21) F hd hg.1 hg.2 hq hz hc hu rfl (hw _ q_m1) (by decide) 1 rfl (fun U hU => hU) (by rw [cE_21 (by rw [q_nwS])]; simp only [q_nwS, q_nwC]; rfl) rfl (k _ _ (by rw [n4, c1]; omega) (by rw [n4, c2]; omega))
      · obtain ⟨q, hq, he⟩ := q_map_some hs
        cases he
        obtain ⟨-, -, n3, n4⟩ := q_new_some hq
        obtain ⟨c1, c2⟩ := nC_nw (k := 22) (n := _) (f := fun _ => 0) n3
        exact q_simNewa (k := 22) F hd hg.1 hg.2 hq hz hc hu rfl (hw _ q_m2) (by decide) 2 rfl (fun U hU => hU) (by rw [cE_22 (by rw [q_nwS])]; simp only [q_nwS, q_nwC]; rfl) rfl (k _ _ (by rw [n4, c1]; omega) (by rw [n4, c2]; omega))
      · obtain ⟨q, hq, he⟩ := q_map_some hs
        cases he
        obtain ⟨-, -, n3, n4⟩ := q_new_some hq
        obtain ⟨c1, c2⟩ := nC_nw (k := 23) (n := _) (f := fun _ => 0) n3
        exact q_simNewa (k := 23) F hd hg.1 hg.2 hq hz hc hu rfl (hw _ q_m3) (by decide) 3 rfl (fun U hU => hU) (by rw [cE_23 (by rw [q_nwS])]; simp only [q_nwS, q_nwC]; rfl) rfl (k _ _ (by rw [n4, c1]; omega) (by rw [n4, c2]; omega))
      · cases hs
    · cases hs
  case h_14 =>
    have e : len = 3 := by simpa [q_ln] using hl
    subst e
    have hao := F.2.2.2.2.2.2.2.2.2.2.1.2.2
    split at hs
    · rename_i t ci z1 z2 hp
      split at hs
      · rename_i hg
        obtain ⟨rfl, hci, g1, g2⟩ := hg
        obtain ⟨q, hq, he⟩ := q_map_some hs
        cases he
        rcases hci with rfl | rfl
        · rw [if_pos rfl] at hq
          obtain ⟨-, -, n3, n4⟩ := q_new_some hq
          obtain ⟨c1, c2⟩ := nC_nw (k := 24) (n := _) (f := fun _ => 0) n3
          exact q_simAnew (k := 24) F hd hp g1 g2 hq hz hc hu rfl hao.1 4 rfl (by rw [cE_24 (by rw [q_nwS])]; simp only [q_nwS, q_nwF]; rfl) (k _ _ (by rw [n4, c1]; omega) (by rw [n4, c2]; omega))
        · rw [if_neg (by decide)] at hq
          obtain ⟨-, -, n3, n4⟩ := q_new_some hq
          obtain ⟨c1, c2⟩ := nC_nw (k := 25) (n := _) (f := fun _ => 0) n3
          exact q_simAnew (k := 25) F hd hp g1 g2 hq hz hc hu rfl hao.2 5 rfl (by rw [cE_25 (by rw [q_nwS])]; simp only [q_nwS, q_nwF]; rfl) (k _ _ (by rw [n4, c1]; omega) (by rw [n4, c2]; omega))
      · cases hs
    · cases hs
  case h_15 =>
    have e : len = 2 := by simpa [q_ln] using hl
    subst e
    split at hs
    · rename_i hp
      split at hs
      · rename_i hg
        subst hg
        cases hs
        exact q_simLdc F hd hp (k _ _ rfl rfl)
      · cases hs
    · cases hs
  case h_16 =>
    have e : len = 3 := by simpa [q_ln] using hl
    subst e
    split at hs
    · rename_i hp
      split at hs
      · rename_i hg
        subst hg
        cases hs
        exact q_simLdcw F hd hp (k _ _ rfl rfl)
      · cases hs
    · cases hs
  case h_17 =>
    have e : len = 3 := by simpa [q_ln] using hl
    subst e
    split at hs
    · rename_i hp
      split at hs
      · rename_i hg
        subst hg
        cases hs
        exact q_simLdc2 F hd hp (k _ _ rfl rfl)
      · cases hs
    · cases hs
  case h_18 =>
    have e : len = 3 := by simpa [q_ln] using hl
    subst e
    split at hs
    · rename_i hp
      split at hs
      · rename_i hg
        obtain ⟨rfl, g1, g2⟩ := hg
        cases hs
        exact q_simObj F hLl hd hp g1 g2 (k _ _ rfl rfl)
      · cases hs
    · cases hs
  case h_19 =>
    have e : len = 3 := by simpa [q_ln] using hl
    subst e
    split at hs
    · rename_i hp
      split at hs
      · rename_i hg
        subst hg
        have k0 := fun (n1 : nC h' = nC h) (n2 : nU h' = nU h) => k cells slots (by rw [n1]) (by rw [n2])
        have hn : nC h' = nC h ∧ nU h' = nU h := by
          unfold q_ac at hs
          split at hs
          · split at hs
            · rename_i hg
              cases hs
              have hne : 1 ≤ _ := hg.1.elim (fun z => (q_ok_iff z.2).1) (fun z => (q_ok_iff z.2).1)
              exact nC_sc (by rw [q_uf_ne (by omega)])
            · cases hs
          · cases hs
        exact (q_simAc F hLl hd hp hs (k0 hn.1 hn.2)).1
      · split at hs
        · rename_i hg
          subst hg
          split at hs
          · rename_i hcs
            obtain ⟨q, hq, he⟩ := q_map_some hs
            cases he
            obtain ⟨-, -, n3, n4⟩ := q_new_some hq
            obtain ⟨c1, c2⟩ := nC_nw (k := 21) (n := 20) (f := q_keys) n3
            exact q_simKey hKey F hLl hd hp hcs hq hz hc hu (k _ _ (by rw [n4, c1]; omega) (by rw [n4, c2]; omega))
          · cases hs
        · split at hs
          · rename_i hg
            split at hs
            · split at hs
              · rename_i hb
                cases hs
                simp only [Bool.and_eq_true, decide_eq_true_eq] at hb
                rcases hg with rfl | rfl
                · exact q_simMax F hLl hd hp hb.1.1 hb.1.2 hb.2 (by omega) (by omega) (k _ _ rfl rfl)
                · exact q_simMin F hLl hd hp hb.1.1 hb.1.2 hb.2 (by omega) (by omega) (k _ _ rfl rfl)
              · cases hs
            · cases hs
          · cases hs
    · cases hs
  case h_20 => cases hs
end Q8
