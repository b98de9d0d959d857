section Q5
variable {p : Program} {l : Launch} {e : Env} {R : Room} {s : State} {m : MethodId} {args : Array Value} {below : List Frame} {meth : Method} {c : Code} {Q : State → Prop} {Z : ZZ} {D : va_G} {sc : Nat × (Nat → Int32)} {mi d pc pc' len : Nat} {ins : Instr} {L L' : LV} {st st' : List AV} {h h' : HH} {cells slots r : Nat} {H H1 : Heap} {locs locs1 : List Loc} {i : Int}
theorem q_ix_iff (hi : q_ix h r i = true) : 0 ≤ i ∧ i < ((gS h r).2 : Int) ∧ i < 3000 := by simpa [q_ix, and_assoc] using hi
theorem q_ixv (hi : q_ix h r i = true) : vp_in (Int32.ofInt i) (gS h r).2 ∧ (Int32.ofInt i).toNatClampNeg = i.toNat := by
  obtain ⟨h1, h2, h3⟩ := q_ix_iff hi
  have hq : q_in i = true := q_in_of (by omega) (by omega)
  refine ⟨vp_in_iff.mpr (by rw [q_tI hq]; exact ⟨h1, h2⟩), ?_⟩
  show (Int32.ofInt i).toInt.toNat = i.toNat
  rw [q_tI hq]
theorem q_tn (h0 : 0 ≤ i) : ((i.toNat : Nat) : Int) = i := Int.toNat_of_nonneg h0
set_option maxHeartbeats 4000000 in
theorem q_simIald (F : q_Fx p R s m args meth c Z D sc mi d) (hd : decode (mC mi) pc = .ok (.iaload, 1)) (hok : q_ok h r 20 = true) (hi : q_ix h r i = true) (k : q_At p l e R s m args below meth c Q Z D sc h (pc + 1) L (aI (h.2 r i) :: st) cells slots) : q_At p l e R s m args below meth c Q Z D sc h pc L (aI i :: aR r :: st) cells slots := by
  obtain ⟨hx, hb, hml, hown, hts, hlocks, hret, hinit, hfr, hlo, hvm, hZs, hlaw, hex⟩ := F
  obtain ⟨o1, o2, o3, o4⟩ := q_ok_iff hok
  obtain ⟨i1, i2⟩ := q_ixv hi
  intro H locs Ls hL hW
  have k1 := k H locs Ls hL hW
  rw [List.map_cons, List.map_cons, show cv Z (aR r) = .ref (Z.1 + r) from cR_ok hok]
  refine va_iald hx hb hvm.1 hW.1 (r - 1) 0 (by rw [cW_at o1 o2, cE_20 o4]) rfl i1 hd ?_
  rw [i2, q_tn (q_ix_iff hi).1]
  exact k1
set_option maxHeartbeats 4000000 in
theorem q_simLald (F : q_Fx p R s m args meth c Z D sc mi d) (hd : decode (mC mi) pc = .ok (.laload, 1)) (hok : q_ok h r 21 = true) (hi : q_ix h r i = true) (k : q_At p l e R s m args below meth c Q Z D sc h (pc + 1) L (aL (h.2 r i) :: st) cells slots) : q_At p l e R s m args below meth c Q Z D sc h pc L (aI i :: aR r :: st) cells slots := by
  obtain ⟨hx, hb, hml, hown, hts, hlocks, hret, hinit, hfr, hlo, hvm, hZs, hlaw, hex⟩ := F
  obtain ⟨o1, o2, o3, o4⟩ := q_ok_iff hok
  obtain ⟨i1, i2⟩ := q_ixv hi
  intro H locs Ls hL hW
  have k1 := k H locs Ls hL hW
  rw [List.map_cons, List.map_cons, show cv Z (aR r) = .ref (Z.1 + r) from cR_ok hok]
  refine va_lald hx hb hvm.1 hW.1 (r - 1) 1 (by rw [cW_at o1 o2, cE_21 o4]) rfl i1 hd ?_
  rw [i2, q_tn (q_ix_iff hi).1]
  exact k1
set_option maxHeartbeats 4000000 in
theorem q_simBald (F : q_Fx p R s m args meth c Z D sc mi d) (hd : decode (mC mi) pc = .ok (.baload, 1)) (hok : q_ok h r 22 = true ∨ q_ok h r 23 = true) (hi : q_ix h r i = true) (k : q_At p l e R s m args below meth c Q Z D sc h (pc + 1) L (aI (h.2 r i) :: st) cells slots) : q_At p l e R s m args below meth c Q Z D sc h pc L (aI i :: aR r :: st) cells slots := by
  obtain ⟨hx, hb, hml, hown, hts, hlocks, hret, hinit, hfr, hlo, hvm, hZs, hlaw, hex⟩ := F
  obtain ⟨i1, i2⟩ := q_ixv hi
  intro H locs Ls hL hW
  have k1 := k H locs Ls hL hW
  rcases hok with hok | hok
  · obtain ⟨o1, o2, o3, o4⟩ := q_ok_iff hok
    rw [List.map_cons, List.map_cons, show cv Z (aR r) = .ref (Z.1 + r) from cR_ok hok]
    refine va_bald hx hb hvm.1 hW.1 (r - 1) 2 (by rw [cW_at o1 o2, cE_22 o4]) rfl i1 hd ?_
    rw [i2, q_tn (q_ix_iff hi).1]
    exact k1
  · obtain ⟨o1, o2, o3, o4⟩ := q_ok_iff hok
    rw [List.map_cons, List.map_cons, show cv Z (aR r) = .ref (Z.1 + r) from cR_ok hok]
    refine va_zald hx hb hvm.1 hW.1 (r - 1) 3 (by rw [cW_at o1 o2, cE_23 o4]) rfl i1 hd ?_
    rw [i2, q_tn (q_ix_iff hi).1]
    exact k1
set_option maxHeartbeats 4000000 in
theorem q_simAald (F : q_Fx p R s m args meth c Z D sc mi d) (hd : decode (mC mi) pc = .ok (.aaload, 1)) (hok : q_ok h r 24 = true ∨ q_ok h r 25 = true) (hi : q_ix h r i = true) (k : q_At p l e R s m args below meth c Q Z D sc h (pc + 1) L (aR (gF h r i.toNat) :: st) cells slots) : q_At p l e R s m args below meth c Q Z D sc h pc L (aI i :: aR r :: st) cells slots := by
  obtain ⟨hx, hb, hml, hown, hts, hlocks, hret, hinit, hfr, hlo, hvm, hZs, hlaw, hex⟩ := F
  obtain ⟨i1, i2⟩ := q_ixv hi
  intro H locs Ls hL hW
  have k1 := k H locs Ls hL hW
  rcases hok with hok | hok
  · obtain ⟨o1, o2, o3, o4⟩ := q_ok_iff hok
    rw [List.map_cons, List.map_cons, show cv Z (aR r) = .ref (Z.1 + r) from cR_ok hok]
    refine va_aldq hx hb hvm.1 hW.1 (r - 1) 4 (by rw [cW_at o1 o2, cE_24 o4]) rfl i1 hd ?_
    rw [i2]
    exact k1
  · obtain ⟨o1, o2, o3, o4⟩ := q_ok_iff hok
    rw [List.map_cons, List.map_cons, show cv Z (aR r) = .ref (Z.1 + r) from cR_ok hok]
    refine va_aldq hx hb hvm.1 hW.1 (r - 1) 5 (by rw [cW_at o1 o2, cE_25 o4]) rfl i1 hd ?_
    rw [i2]
    exact k1
theorem q_updI {f : Int → Int} {x : Int} (h0 : 0 ≤ i) : upd (fun j : Nat => Int32.ofInt (f (j : Int))) i.toNat (Int32.ofInt x) = fun j : Nat => Int32.ofInt (q_u1 f i x (j : Int)) := by
  funext j
  unfold upd q_u1
  by_cases hj : j = i.toNat
  · rw [if_pos hj, if_pos (by omega)]
  · rw [if_neg hj, if_neg (by omega)]
theorem q_updL {f : Int → Int} {x : Int} (h0 : 0 ≤ i) : vp_updL (fun j : Nat => Int64.ofInt (f (j : Int))) i.toNat (Int64.ofInt x) = fun j : Nat => Int64.ofInt (q_u1 f i x (j : Int)) := by
  funext j
  unfold vp_updL q_u1
  by_cases hj : j = i.toNat
  · rw [if_pos hj, if_pos (by omega)]
  · rw [if_neg hj, if_neg (by omega)]
set_option maxHeartbeats 4000000 in
theorem q_simIast {x : Int} (F : q_Fx p R s m args meth c Z D sc mi d) (hd : decode (mC mi) pc = .ok (.iastore, 1)) (hok : q_ok h r 20 = true) (hi : q_ix h r i = true) (k : q_At p l e R s m args below meth c Q Z D sc (q_sc h (q_up h.2 r i x)) (pc + 1) L st cells slots) : q_At p l e R s m args below meth c Q Z D sc h pc L (aI x :: aI i :: aR r :: st) cells slots := by
  obtain ⟨hx, hb, hml, hown, hts, hlocks, hret, hinit, hfr, hlo, hvm, hZs, hlaw, hex⟩ := F
  obtain ⟨o1, o2, o3, o4⟩ := q_ok_iff hok
  obtain ⟨i1, i2⟩ := q_ixv hi
  intro H locs Ls hL hW
  rw [List.map_cons, List.map_cons, List.map_cons, show cv Z (aR r) = .ref (Z.1 + r) from cR_ok hok]
  refine va_iast hx hb hvm.1 hW.1 hW.2.1 hW.2.2.1 (r - 1) 0 (by rw [cW_at o1 o2, cE_20 o4]) rfl i1 hd (fun H1 locs1 hP1 hD1 hS1 => k H1 locs1 Ls hL (q_wd_c hW o1 ?_ hP1 hD1 hS1))
  rw [cE_20 (by exact o4), i2, q_updI (q_ix_iff hi).1]
  show _ = Sum.inl (Z.2.2 20, (gS h r).2, Sum.inl (fun j : Nat => Int32.ofInt (q_u1 (h.2 r) i x (j : Int))))
  simp only [q_sc, q_uf_same]
set_option maxHeartbeats 4000000 in
theorem q_simLast {x : Int} (F : q_Fx p R s m args meth c Z D sc mi d) (hd : decode (mC mi) pc = .ok (.lastore, 1)) (hok : q_ok h r 21 = true) (hi : q_ix h r i = true) (k : q_At p l e R s m args below meth c Q Z D sc (q_sc h (q_up h.2 r i x)) (pc + 1) L st cells slots) : q_At p l e R s m args below meth c Q Z D sc h pc L (aL x :: aI i :: aR r :: st) cells slots := by
  obtain ⟨hx, hb, hml, hown, hts, hlocks, hret, hinit, hfr, hlo, hvm, hZs, hlaw, hex⟩ := F
  obtain ⟨o1, o2, o3, o4⟩ := q_ok_iff hok
  obtain ⟨i1, i2⟩ := q_ixv hi
  intro H locs Ls hL hW
  rw [List.map_cons, List.map_cons, List.map_cons, show cv Z (aR r) = .ref (Z.1 + r) from cR_ok hok]
  refine va_last hx hb hvm.1 hW.1 hW.2.1 hW.2.2.1 (r - 1) 1 (by rw [cW_at o1 o2, cE_21 o4]) rfl i1 hd (fun H1 locs1 hP1 hD1 hS1 => k H1 locs1 Ls hL (q_wd_c hW o1 ?_ hP1 hD1 hS1))
  rw [cE_21 (by exact o4), i2, q_updL (q_ix_iff hi).1]
  show _ = Sum.inl (Z.2.2 21, (gS h r).2, Sum.inr (Sum.inl (fun j : Nat => Int64.ofInt (q_u1 (h.2 r) i x (j : Int)))))
  simp only [q_sc, q_uf_same]
set_option maxHeartbeats 4000000 in
theorem q_simBast {x : Int} (F : q_Fx p R s m args meth c Z D sc mi d) (hd : decode (mC mi) pc = .ok (.bastore, 1)) (hok : q_ok h r 22 = true ∨ q_ok h r 23 = true) (hi : q_ix h r i = true) (k : q_At p l e R s m args below meth c Q Z D sc (q_sc h (q_up h.2 r i (q_nar (gS h r).1 x))) (pc + 1) L st cells slots) : q_At p l e R s m args below meth c Q Z D sc h pc L (aI x :: aI i :: aR r :: st) cells slots := by
  obtain ⟨hx, hb, hml, hown, hts, hlocks, hret, hinit, hfr, hlo, hvm, hZs, hlaw, hex⟩ := F
  obtain ⟨i1, i2⟩ := q_ixv hi
  intro H locs Ls hL hW
  rcases hok with hok | hok
  · obtain ⟨o1, o2, o3, o4⟩ := q_ok_iff hok
    rw [List.map_cons, List.map_cons, List.map_cons, show cv Z (aR r) = .ref (Z.1 + r) from cR_ok hok]
    refine va_bast hx hb hvm.1 hW.1 hW.2.1 hW.2.2.1 (r - 1) 2 (by rw [cW_at o1 o2, cE_22 o4]) rfl i1 hd (fun H1 locs1 hP1 hD1 hS1 => k H1 locs1 Ls hL (q_wd_c hW o1 ?_ hP1 hD1 hS1))
    have e1 : vp_nar .byte (Int32.ofInt x) = Int32.ofInt (q_nar (gS h r).1 x) := by
      rw [o4]; unfold q_nar; rw [if_pos rfl, Int32.ofInt_toInt]
    rw [cE_22 (by exact o4), i2, e1, q_updI (q_ix_iff hi).1]
    show _ = Sum.inl (Z.2.2 22, (gS h r).2, Sum.inl (fun j : Nat => Int32.ofInt (q_u1 (h.2 r) i (q_nar (gS h r).1 x) (j : Int))))
    simp only [q_sc, q_uf_same]
  · obtain ⟨o1, o2, o3, o4⟩ := q_ok_iff hok
    rw [List.map_cons, List.map_cons, List.map_cons, show cv Z (aR r) = .ref (Z.1 + r) from cR_ok hok]
    refine va_zast hx hb hvm.1 hW.1 hW.2.1 hW.2.2.1 (r - 1) 3 (by rw [cW_at o1 o2, cE_23 o4]) rfl i1 hd (fun H1 locs1 hP1 hD1 hS1 => k H1 locs1 Ls hL (q_wd_c hW o1 ?_ hP1 hD1 hS1))
    have e1 : vp_nar .boolean (Int32.ofInt x) = Int32.ofInt (q_nar (gS h r).1 x) := by
      rw [o4]; unfold q_nar; rw [if_neg (by decide), Int32.ofInt_toInt]
    rw [cE_23 (by exact o4), i2, e1, q_updI (q_ix_iff hi).1]
    show _ = Sum.inl (Z.2.2 23, (gS h r).2, Sum.inl (fun j : Nat => Int32.ofInt (q_u1 (h.2 r) i (q_nar (gS h r).1 x) (j : Int))))
    simp only [q_sc, q_uf_same]
theorem q_updR {f : Nat → Nat} {v n : Nat} (h0 : 0 ≤ i) (hv : cO Z v = some n) : va_up (fun j : Nat => cO Z (f j)) i.toNat (some n) = fun j : Nat => cO Z (if j = i.toNat then v else f j) := by
  funext j
  unfold va_up
  by_cases hj : j = i.toNat
  · rw [if_pos hj, if_pos hj, hv]
  · rw [if_neg hj, if_neg hj]
set_option maxHeartbeats 4000000 in
theorem q_simAast {v : Nat} (F : q_Fx p R s m args meth c Z D sc mi d) (hd : decode (mC mi) pc = .ok (.aastore, 1)) (hok : (q_ok h r 24 = true ∧ q_ok h v 4 = true) ∨ (q_ok h r 25 = true ∧ q_ok h v 3 = true)) (hi : q_ix h r i = true) (k : q_At p l e R s m args below meth c Q Z D sc (q_sf h (q_ur h.1.2.2.2.1 r i.toNat v)) (pc + 1) L st cells slots) : q_At p l e R s m args below meth c Q Z D sc h pc L (aR v :: aI i :: aR r :: st) cells slots := by
  obtain ⟨hx, hb, hml, hown, hts, hlocks, hret, hinit, hfr, hlo, hvm, hZs, hlaw, hex⟩ := F
  obtain ⟨i1, i2⟩ := q_ixv hi
  intro H locs Ls hL hW
  have e2 : ∀ j : Nat, gF (q_sf h (q_ur h.1.2.2.2.1 r i.toNat v)) r j = if j = i.toNat then v else gF h r j := by
    intro j
    show q_ur h.1.2.2.2.1 r i.toNat v r j = _
    unfold q_ur
    by_cases hj : j = i.toNat
    · rw [if_pos ⟨rfl, hj⟩, if_pos hj]
    · rw [if_neg (fun q => hj q.2), if_neg hj]
  rcases hok with ⟨hok, hov⟩ | ⟨hok, hov⟩
  · obtain ⟨o1, o2, o3, o4⟩ := q_ok_iff hok
    obtain ⟨v1, v2, v3, v4⟩ := q_ok_iff hov
    rw [List.map_cons, List.map_cons, List.map_cons, show cv Z (aR r) = .ref (Z.1 + r) from cR_ok hok, show cv Z (aR v) = .ref (Z.1 + v) from cR_ok hov]
    refine va_astq hx hb hvm.1 hW.1 hW.2.1 hW.2.2.1 (r - 1) 4 (v - 1) 4 (by rw [cW_at o1 o2, cE_24 o4]) rfl (by rw [cW_at v1 v2, cE_ob v4 (by decide)]) rfl i1 hd (fun H1 locs1 hP1 hD1 hS1 => k H1 locs1 Ls hL (q_wd_f hW o1 ?_ hP1 hD1 hS1))
    rw [cE_24 (by exact o4), i2, q_updR (q_ix_iff hi).1 (cO_ok hov)]
    simp only [e2]
    rfl
  · obtain ⟨o1, o2, o3, o4⟩ := q_ok_iff hok
    obtain ⟨v1, v2, v3, v4⟩ := q_ok_iff hov
    rw [List.map_cons, List.map_cons, List.map_cons, show cv Z (aR r) = .ref (Z.1 + r) from cR_ok hok, show cv Z (aR v) = .ref (Z.1 + v) from cR_ok hov]
    refine va_astq hx hb hvm.1 hW.1 hW.2.1 hW.2.2.1 (r - 1) 5 (v - 1) 3 (by rw [cW_at o1 o2, cE_25 o4]) rfl (by rw [cW_at v1 v2, cE_ob v4 (by decide)]) rfl i1 hd (fun H1 locs1 hP1 hD1 hS1 => k H1 locs1 Ls hL (q_wd_f hW o1 ?_ hP1 hD1 hS1))
    rw [cE_25 (by exact o4), i2, q_updR (q_ix_iff hi).1 (cO_ok hov)]
    simp only [e2]
    rfl
set_option maxHeartbeats 4000000 in
theorem q_simLen (F : q_Fx p R s m args meth c Z D sc mi d) (hd : decode (mC mi) pc = .ok (.arraylength, 1)) (hok : q_ok h r 20 = true ∨ q_ok h r 21 = true ∨ q_ok h r 22 = true ∨ q_ok h r 23 = true ∨ q_ok h r 24 = true ∨ q_ok h r 25 = true) (k : q_At p l e R s m args below meth c Q Z D sc h (pc + 1) L (aI ((gS h r).2 : Int) :: st) cells slots) : q_At p l e R s m args below meth c Q Z D sc h pc L (aR r :: st) cells slots := by
  obtain ⟨hx, hb, hml, hown, hts, hlocks, hret, hinit, hfr, hlo, hvm, hZs, hlaw, hex⟩ := F
  intro H locs Ls hL hW
  have k1 := k H locs Ls hL hW
  have e1 : Int32.ofNat (gS h r).2 = Int32.ofInt ((gS h r).2 : Int) := Int32.ofInt_eq_ofNat.symm
  rcases hok with hok | hok | hok | hok | hok | hok
  · obtain ⟨o1, o2, o3, o4⟩ := q_ok_iff hok
    rw [List.map_cons, show cv Z (aR r) = .ref (Z.1 + r) from cR_ok hok]
    exact va_alen hx hb hvm.1 hW.1 (r - 1) 0 (by rw [cW_at o1 o2, cE_20 o4]) rfl e1 hd k1
  · obtain ⟨o1, o2, o3, o4⟩ := q_ok_iff hok
    rw [List.map_cons, show cv Z (aR r) = .ref (Z.1 + r) from cR_ok hok]
    exact va_alen hx hb hvm.1 hW.1 (r - 1) 1 (by rw [cW_at o1 o2, cE_21 o4]) rfl e1 hd k1
  · obtain ⟨o1, o2, o3, o4⟩ := q_ok_iff hok
    rw [List.map_cons, show cv Z (aR r) = .ref (Z.1 + r) from cR_ok hok]
    exact va_alen hx hb hvm.1 hW.1 (r - 1) 2 (by rw [cW_at o1 o2, cE_22 o4]) rfl e1 hd k1
  · obtain ⟨o1, o2, o3, o4⟩ := q_ok_iff hok
    rw [List.map_cons, show cv Z (aR r) = .ref (Z.1 + r) from cR_ok hok]
    exact va_alen hx hb hvm.1 hW.1 (r - 1) 3 (by rw [cW_at o1 o2, cE_23 o4]) rfl e1 hd k1
  · obtain ⟨o1, o2, o3, o4⟩ := q_ok_iff hok
    rw [List.map_cons, show cv Z (aR r) = .ref (Z.1 + r) from cR_ok hok]
    exact va_alen hx hb hvm.1 hW.1 (r - 1) 4 (by rw [cW_at o1 o2, cE_24 o4]) rfl e1 hd k1
  · obtain ⟨o1, o2, o3, o4⟩ := q_ok_iff hok
    rw [List.map_cons, show cv Z (aR r) = .ref (Z.1 + r) from cR_ok hok]
    exact va_alen hx hb hvm.1 hW.1 (r - 1) 5 (by rw [cW_at o1 o2, cE_25 o4]) rfl e1 hd k1
/-- the script -/
theorem q_cRS : cv Z (aR q_S) = .ref Z.2.1 := by
  show va_rf (cO Z q_S) = _
  unfold cO
  rw [if_neg (by decide), if_pos rfl]
  rfl
set_option maxHeartbeats 4000000 in
theorem q_simSld (F : q_Fx p R s m args meth c Z D sc mi d) (hd : decode (mC mi) pc = .ok (.iaload, 1)) (hm : mi = q_law) (h0 : 0 ≤ i) (h1 : i < (h.1.2.2.2.2.1 : Int)) (k : q_At p l e R s m args below meth c Q Z D sc h (pc + 1) L (aI (h.1.2.2.2.2.2 i.toNat).toInt :: st) cells slots) : q_At p l e R s m args below meth c Q Z D sc h pc L (aI i :: aR q_S :: st) cells slots := by
  obtain ⟨hx, hb, hml, hown, hts, hlocks, hret, hinit, hfr, hlo, hvm, hZs, hlaw, hex⟩ := F
  obtain ⟨hX, hbl, h3⟩ := hlaw hm
  intro H locs Ls hL hW
  have k1 := k H locs Ls hL hW
  have hsc := hW.2.2.2.1
  rw [hsc] at h1 k1
  have hq : q_in i = true := q_in_of (by omega) (by omega)
  rw [List.map_cons, List.map_cons, q_cRS]
  refine va_sld hx hb hX (by omega) (by show ¬ Z.1 < Z.2.1; omega) hW.2.2.1 (vp_in_iff.mpr (by rw [q_tI hq]; exact ⟨h0, h1⟩)) hd ?_
  have e1 : (Int32.ofInt i).toNatClampNeg = i.toNat := by
    show (Int32.ofInt i).toInt.toNat = i.toNat
    rw [q_tI hq]
  rw [e1]
  rw [List.map_cons, show cv Z (aI (sc.2 i.toNat).toInt) = .int (sc.2 i.toNat) from by show Value.int (Int32.ofInt _) = _; rw [Int32.ofInt_toInt]] at k1
  exact k1
set_option maxHeartbeats 4000000 in
theorem q_simSlen (F : q_Fx p R s m args meth c Z D sc mi d) (hd : decode (mC mi) pc = .ok (.arraylength, 1)) (hm : mi = q_law) (k : q_At p l e R s m args below meth c Q Z D sc h (pc + 1) L (aI (h.1.2.2.2.2.1 : Int) :: st) cells slots) : q_At p l e R s m args below meth c Q Z D sc h pc L (aR q_S :: st) cells slots := by
  obtain ⟨hx, hb, hml, hown, hts, hlocks, hret, hinit, hfr, hlo, hvm, hZs, hlaw, hex⟩ := F
  obtain ⟨hX, hbl, h3⟩ := hlaw hm
  intro H locs Ls hL hW
  have k1 := k H locs Ls hL hW
  have hsc := hW.2.2.2.1
  rw [hsc] at k1
  rw [List.map_cons, q_cRS]
  refine va_slen hx hb hX (by omega) (by show ¬ Z.1 < Z.2.1; omega) hW.2.2.1 hd ?_
  rw [List.map_cons, show cv Z (aI (sc.1 : Int)) = .int (Int32.ofNat sc.1) from by show Value.int (Int32.ofInt _) = _; rw [Int32.ofInt_eq_ofNat]] at k1
  exact k1
end Q5
