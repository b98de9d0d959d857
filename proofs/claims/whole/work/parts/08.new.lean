section Q6
variable {p : Program} {l : Launch} {e : Env} {R : Room} {s : State} {m : MethodId} {args : Array Value} {below : List Frame} {meth : Method} {c : Code} {Q : State → Prop} {Z : ZZ} {D : va_G} {sc : Nat × (Nat → Int32)} {mi d pc pc' len : Nat} {ins : Instr} {L L' : LV} {st st' : List AV} {h h' : HH} {cells slots r : Nat} {H H1 : Heap} {locs locs1 : List Loc} {i : Int}
theorem q_good {w : Cond} (h : w ∈ WS) : (w.onTables && w.keeps) = true ∨ ∃ ty, w = .arrayClass ty := good_of_word (List.mem_filter.mp h).2
theorem q_goodIn {ws : List Cond} (h : ∀ w ∈ ws, w ∈ WS) : GoodIn WS ws := fun w hw => ⟨h w hw, q_good (h w hw)⟩
theorem q_nw_tab {w : Cond} (h : w ∈ q_NW) : w.onTables = true := by
  have h2 := (List.mem_filter.mp h).2
  cases w <;> first | rfl | cases h2
/-- what is carried goes on with the machine -/
theorem q_Vm_warm {u U : State} (hW : u.WarmedH U.vm) (h : q_Vm Z D u) : q_Vm Z D U := by
  refine ⟨va_K.moved hW.alike h.1, fun w hw => ?_, va_AO.moved hW.alike h.2.2.1, va_AO.moved hW.alike h.2.2.2⟩
  have h1 := h.2.1 w hw
  have h2 := (List.mem_filter.mp hw).2
  cases w <;> first | exact va_Nw.warmM hW h1 | exact va_Nw.warmD hW h1 | exact va_Nw.warmC hW h1 | cases h2
theorem q_Ex_warm {u U : State} (hW : u.WarmedH U.vm) (h : q_Ex Z u H) : q_Ex Z U H := by
  obtain ⟨a, b, adK, adV, c1, c2, c3, c4⟩ := h
  exact ⟨vx_Zq.moved hW.alike a, vx_Zq.moved hW.alike b, adK, adV, vk_R.warm hW c1, vk_S.moved hW.alike c2, va_Z.moved hW.alike c3, va_Zq.moved hW.alike c4⟩
theorem q_Ex_kept {U : State} (hq : ∀ a : Nat, a < H.size → ¬ aZ Z a → H1[a]? = H[a]?) (h : q_Ex Z U H) : q_Ex Z U H1 := by
  obtain ⟨a, b, adK, adV, c1, c2, c3, c4⟩ := h
  exact ⟨vx_Zq.kept a hq, vx_Zq.kept b hq, adK, adV, c1, vk_S.kept c2 hq, va_Z.kept c3 hq, va_Zq.kept c4 hq⟩
theorem q_size {T : State} (X : Stand p l e R s m args below meth c T locs cells slots) (hT : T.heap = H) (hW : q_Wd Z D sc h s H locs) (hz : s.heap.size + cells ≤ Z.1 + 1 + nC h) (hx : h.2 0 0 = 0) (hZs : Z.1 < s.heap.size) : H.size = Z.1 + (gN h + 1) := by
  have h1 := X.heapSize
  rw [hT] at h1
  have h2 : nC h = gN h := by
    show gN h + (h.2 0 0).toNat = gN h
    rw [hx]; rfl
  have h3 := hW.2.2.1.1
  have h4 : gN h = 0 ∨ Z.1 + gN h < H.size := by
    by_cases h0 : gN h = 0
    · exact Or.inl h0
    · exact Or.inr (hW.1 _ _ (cW_at (Z := Z) (h := h) (r := gN h) (by omega) (Nat.le_refl _))).lt
  omega
theorem q_sizeLe {T : State} (X : Stand p l e R s m args below meth c T locs cells slots) (hT : T.heap = H) (hz : s.heap.size + cells ≤ Z.1 + 1 + nC h) : H.size ≤ Z.1 + 1 + nC h := by
  have h1 := X.heapSize
  rw [hT] at h1
  omega
theorem q_wd_n {k n : Nat} {f : Int → Int} (hW : q_Wd Z D sc h s H locs) (hsz : H.size = Z.1 + (gN h + 1)) (hat : va_at D vwCl (Z.1 + (gN h + 1), cE Z (q_nw h k n f) (gN h + 1)) H1) (o1 : ∀ q : Nat, q < Z.1 + (gN h + 1) → H1[q]? = H[q]?) (z1 : H1.size = Z.1 + (gN h + 1) + 1) : q_Wd Z D sc (q_nw h k n f) s H1 locs := by
  have ho : ∀ r', r' ≤ gN h → cE Z (q_nw h k n f) r' = cE Z h r' := by
    intro r' hr
    have hne : ¬ r' = h.1.1 + 1 := by show ¬ r' = gN h + 1; omega
    refine cE_congr ?_ ?_ (fun j => ?_)
    · show (if r' = h.1.1 + 1 then (k, n) else h.1.2.2.1 r') = _
      rw [if_neg hne]
    · exact q_uf_ne hne
    · show (if r' = h.1.1 + 1 then 0 else h.1.2.2.2.1 r' j) = _
      rw [if_neg hne]
  have e1 := cW_push (Z := Z) (h := h) (h' := q_nw h k n f) rfl ho rfl
  have hk : ∀ (j : Nat) (x : Nat × va_E), (cW Z h)[j]? = some x → H1[x.1]? = H[x.1]? := fun j x hx => o1 x.1 (by have := (hW.1 j x hx).lt; omega)
  obtain ⟨hP, hD, hS, hs1, hs2⟩ := hW
  refine ⟨?_, ?_, ?_, hs1, ?_⟩
  · rw [← e1]
    refine (hP.kept hk).app (fun j x hx => ?_)
    have hz : j < 1 := (List.getElem?_eq_some_iff.mp hx).1
    rw [show j = 0 by omega] at hx
    cases hx
    exact hat
  · rw [← e1]
    exact hD.push hP hsz.symm (by show Z.1 < _; omega)
  · refine ⟨Nat.le_trans hS.1 (by omega), fun x h1 h2 => ?_, hS.2.2⟩
    rw [o1 x (by have := hS.1; omega)]
    exact hS.2.1 x h1 h2
  · show 0 ≤ (q_uf h.2 (h.1.1 + 1) f) 0 0
    rw [q_uf_ne (by omega)]
    exact hs2
theorem q_new_some {k n : Nat} {f : Int → Int} {q : Nat × HH} (hn : q_new h k n f = some q) : gN h < 2000 ∧ n ≤ 2000 ∧ h.2 0 0 = 0 ∧ q = (gN h + 1, q_nw h k n f) := by
  unfold q_new at hn
  split at hn
  · rename_i hg
    cases hn
    exact ⟨hg.1, hg.2.1, hg.2.2, rfl⟩
  · cases hn
theorem nC_nw {k n : Nat} {f : Int → Int} (hx : h.2 0 0 = 0) : nC (q_nw h k n f) = nC h + 1 ∧ nU (q_nw h k n f) = nU h + n := by
  have e1 : (q_nw h k n f).2 0 0 = h.2 0 0 := by
    show q_uf h.2 (h.1.1 + 1) f 0 0 = h.2 0 0
    rw [q_uf_ne (by omega)]
  refine ⟨?_, ?_⟩
  · show (gN h + 1) + ((q_nw h k n f).2 0 0).toNat = gN h + (h.2 0 0).toNat + 1
    rw [e1]; omega
  · show (gU h + n) + 6 * ((q_nw h k n f).2 0 0).toNat = gU h + 6 * (h.2 0 0).toNat + n
    rw [e1]; omega
theorem q_cRn (hn : gN h < 2000) : cv Z (aR (gN h + 1)) = .ref (Z.1 + (gN h + 1)) := by
  show va_rf (cO Z (gN h + 1)) = _
  unfold cO
  rw [if_neg (by omega), if_neg (by show ¬ gN h + 1 = 1000000; omega)]
  rfl
set_option maxHeartbeats 400000 in
/-- new -/
theorem q_simNew {i ci z1 : Nat} {z2 : Int} (F : q_Fx p R s m args meth c Z D sc mi d) (hd : decode (mC mi) pc = .ok (.new i, 3)) (hp : pl (mO mi) i = some (6, ci, z1, z2)) (hci : ci < 13) {q : Nat × HH} (hn : q_new h ci (q_N ci) (fun _ => 0) = some q) (hz : s.heap.size + cells ≤ Z.1 + 1 + nC h) (hc : cells + nC q.2 ≤ R.cells + nC h) (hu : slots + nU q.2 ≤ R.slots + nU h)
    (k : q_At p l e R s m args below meth c Q Z D sc q.2 (pc + 3) L (aR q.1 :: st) (cells + 1) (slots + q_N ci)) : q_At p l e R s m args below meth c Q Z D sc h pc L st cells slots := by
  obtain ⟨hx, hb, hml, hown, hts, hlocks, hret, hinit, hfr, hlo, hvm, hZs, hlaw, hex⟩ := F
  obtain ⟨n1, n2, n3, rfl⟩ := q_new_some hn
  obtain ⟨c1, c2⟩ := nC_nw (k := ci) (n := q_N ci) (f := fun _ => 0) n3
  rw [c1] at hc
  rw [c2] at hu
  obtain ⟨r0, hr0, hgd⟩ := q_cl_some hci
  obtain ⟨ty, hCl⟩ := q_cls hr0
  obtain ⟨w1, w2, w3, w4, w5, w6⟩ := hCl
  have hw := (q_words hp).1
  have hpw : q_pw (mO mi) i (6, ci, z1, z2) = [.classLink (oN (mO mi)) i (oN ci), .instantiable (oN ci) (q_N ci), .initialized (oN ci)] := rfl
  rw [hpw] at hw
  have u1 := hts _ (hw _ List.mem_cons_self)
  have u2 := hts _ (hw _ (List.mem_cons_of_mem _ List.mem_cons_self))
  have u3 := hts _ (hw _ (List.mem_cons_of_mem _ (List.mem_cons_of_mem _ List.mem_cons_self)))
  have hKn := hvm.1.1 ci _ hr0
  intro H locs Ls hL hW T hT X
  have hsz := q_size X hT hW hz n3 hZs
  suffices hW1 : W p l e R s m args below meth c H locs cells slots Q (F0 m pc Ls (st.map (cv Z))) from hW1 T hT X
  refine W.newcK hx hb hown u1 u2 u3 rfl hd (by omega) (by omega) (by rw [w5]; exact hKn.2.1) hsz (fun H1 kC hkC e1 z1 o1 => ?_)
  have k1 := k H1 locs Ls hL (q_wd_n hW hsz ?_ o1 z1)
  · rw [List.map_cons, q_cRn n1] at k1
    exact k1
  · have hk2 : (gS (q_nw h ci (q_N ci) (fun _ => 0)) (gN h + 1)).1 = ci := by
      show (if h.1.1 + 1 = h.1.1 + 1 then (ci, q_N ci) else h.1.2.2.1 (h.1.1 + 1)).1 = ci
      rw [if_pos rfl]
    rw [cE_ob hk2 hci]
    refine ⟨r0, hr0, (u_born ty hts w1 hKn hkC e1 w2).to (fun j hj => ?_)⟩
    have hj' : j < q_N ci := by rw [w4]; exact hj
    show defaultValue (ty j) = vp_V _ j
    unfold vp_V
    rw [List.getD_eq_getElem?_getD, q_fst hj']
    show defaultValue (ty j) = cF Z (q_nw h ci (q_N ci) (fun _ => 0)) (gN h + 1) ci j
    have g1 : (q_nw h ci (q_N ci) (fun _ => 0)).2 (gN h + 1) (j : Int) = 0 := by
      show q_uf h.2 (h.1.1 + 1) (fun _ => 0) (h.1.1 + 1) (j : Int) = 0
      rw [q_uf_same]
    have g2 : gF (q_nw h ci (q_N ci) (fun _ => 0)) (gN h + 1) j = 0 := by
      show (if h.1.1 + 1 = h.1.1 + 1 then 0 else h.1.2.2.2.1 (h.1.1 + 1) j) = 0
      rw [if_pos rfl]
    unfold cF
    rw [g1, g2]
    rcases (w6 j hj).2.2 with ⟨f1, f2⟩ | ⟨f1, f2⟩ | ⟨f1, f2⟩ | ⟨f1, f2⟩
    · rw [f1, f2]; rfl
    · rw [f1, f2]; rfl
    · rw [f1, f2]; rfl
    · rw [f1]
      rcases f2 with ⟨n, f2⟩ | ⟨u, f2⟩ <;> rw [f2] <;> rfl
/-- a new array of numbers -/
theorem q_nwS {k n : Nat} {f : Int → Int} : gS (q_nw h k n f) (gN h + 1) = (k, n) := by
  show (if h.1.1 + 1 = h.1.1 + 1 then (k, n) else h.1.2.2.1 (h.1.1 + 1)) = (k, n)
  rw [if_pos rfl]
theorem q_nwC {k n : Nat} {f : Int → Int} : (q_nw h k n f).2 (gN h + 1) = f := q_uf_same _ _ _
theorem q_nwF {k n j : Nat} {f : Int → Int} : gF (q_nw h k n f) (gN h + 1) j = 0 := by
  show (if h.1.1 + 1 = h.1.1 + 1 then 0 else h.1.2.2.2.1 (h.1.1 + 1) j) = 0
  rw [if_pos rfl]
theorem q_i0 {n : Int} (h0 : 0 ≤ n) (h1 : n < 3000) : ¬ Int32.ofInt n < 0 ∧ (Int32.ofInt n).toNatClampNeg = n.toNat := by
  have hq : q_in n = true := q_in_of (by omega) (by omega)
  refine ⟨fun z => ?_, ?_⟩
  · rw [← q_0, q_ltI hq (by decide)] at z
    omega
  · show (Int32.ofInt n).toInt.toNat = n.toNat
    rw [q_tI hq]
set_option maxHeartbeats 400000 in
theorem q_simNewa {n : Int} {at_ : ArrayType} {k : Nat} {fty : FieldType} (F : q_Fx p R s m args meth c Z D sc mi d) (hd : decode (mC mi) pc = .ok (.newarray at_, 2)) (h0 : 0 ≤ n) (h1 : n ≤ 1500) {q : Nat × HH} (hn : q_new h k n.toNat (fun _ => 0) = some q) (hz : s.heap.size + cells ≤ Z.1 + 1 + nC h) (hc : cells + nC q.2 ≤ R.cells + nC h) (hu : slots + nU q.2 ≤ R.slots + nU h)
    (hty : newarray.typeOf at_ = fty) (hw : Cond.arrayClass fty ∈ WS) (hbt : componentBytes fty ≤ 8) (t0 : Nat) (ht0 : (tyZ Z)[t0]? = some (Z.2.2 k, fty)) (hra : ∀ U : State, va_RA U (Z.2.2 k) fty → U.vm.findClass ("[" ++ fty.toString) = some (Z.2.2 k)) (hcell : cE Z (q_nw h k n.toNat (fun _ => 0)) (gN h + 1) = .inl (Z.2.2 k, n.toNat, if k = 21 then .inr (.inl (fun _ => 0)) else .inl (fun _ => 0))) (hdf : defaultValue fty = if k = 21 then .long 0 else .int 0)
    (kk : q_At p l e R s m args below meth c Q Z D sc q.2 (pc + 2) L (aR q.1 :: st) (cells + 1) (slots + n.toNat)) : q_At p l e R s m args below meth c Q Z D sc h pc L (aI n :: st) cells slots := by
  obtain ⟨hx, hb, hml, hown, hts, hlocks, hret, hinit, hfr, hlo, hvm, hZs, hlaw, hex⟩ := F
  obtain ⟨n1, n2, n3, rfl⟩ := q_new_some hn
  obtain ⟨c1, c2⟩ := nC_nw (k := k) (n := n.toNat) (f := fun _ => 0) n3
  rw [c1] at hc
  rw [c2] at hu
  obtain ⟨i1, i2⟩ := q_i0 (n := n) h0 (by omega)
  subst hty
  intro H locs Ls hL hW T hT X
  have hsz := q_size X hT hW hz n3 hZs
  have hbs : n.toNat * componentBytes (newarray.typeOf at_) ≤ 536870912 := by
    have h2 : n.toNat * componentBytes (newarray.typeOf at_) ≤ 1500 * 8 := Nat.mul_le_mul (by omega) hbt
    omega
  suffices hW1 : W p l e R s m args below meth c H locs cells slots Q (F0 m pc Ls ((aI n :: st).map (cv Z))) from hW1 T hT X
  refine va_newaK hx hb (hts _ hw) rfl hd rfl i1 i2 hbs (by omega) (by omega) hsz (fun H1 cA e1 z1 o1 hAr hNm => ?_)
  have hcA : cA = Z.2.2 k := Option.some.inj (hNm.symm.trans (hra s (hvm.1.2 t0 _ ht0).2))
  have k1 := kk H1 locs Ls hL (q_wd_n hW hsz ?_ o1 z1)
  · rw [List.map_cons, q_cRn n1] at k1
    exact k1
  · rw [hcell]
    show H1[_]? = some (vp_cell (Z.2.2 k) (n.toNat, if k = 21 then .inr (.inl (fun _ => 0)) else .inl (fun _ => 0)))
    rw [e1, hcA, hdf]
    by_cases h21 : k = 21
    · rw [if_pos h21, if_pos h21]; rfl
    · rw [if_neg h21, if_neg h21]; rfl
set_option maxHeartbeats 400000 in
theorem q_simAnew {i ci z1 k : Nat} {z2 n : Int} {nm : String} (F : q_Fx p R s m args meth c Z D sc mi d) (hd : decode (mC mi) pc = .ok (.anewarray i, 3)) (hp : pl (mO mi) i = some (6, ci, z1, z2)) (h0 : 0 ≤ n) (h1 : n ≤ 1500) {q : Nat × HH} (hn : q_new h k n.toNat (fun _ => 0) = some q) (hz : s.heap.size + cells ≤ Z.1 + 1 + nC h) (hc : cells + nC q.2 ≤ R.cells + nC h) (hu : slots + nU q.2 ≤ R.slots + nU h)
    (hnm : oN ci = nm) (hao : va_AO nm s) (t0 : Nat) (ht0 : (tyZ Z)[t0]? = some (Z.2.2 k, .object nm)) (hcell : cE Z (q_nw h k n.toNat (fun _ => 0)) (gN h + 1) = .inl (Z.2.2 k, n.toNat, .inr (.inr (.inr (.inr (fun _ => none))))))
    (kk : q_At p l e R s m args below meth c Q Z D sc q.2 (pc + 3) L (aR q.1 :: st) (cells + 1) (slots + n.toNat)) : q_At p l e R s m args below meth c Q Z D sc h pc L (aI n :: st) cells slots := by
  obtain ⟨hx, hb, hml, hown, hts, hlocks, hret, hinit, hfr, hlo, hvm, hZs, hlaw, hex⟩ := F
  obtain ⟨n1, n2, n3, rfl⟩ := q_new_some hn
  obtain ⟨c1, c2⟩ := nC_nw (k := k) (n := n.toNat) (f := fun _ => 0) n3
  rw [c1] at hc
  rw [c2] at hu
  obtain ⟨i1, i2⟩ := q_i0 (n := n) h0 (by omega)
  have hw := (q_words hp).1
  have hpw : q_pw (mO mi) i (6, ci, z1, z2) = [.classLink (oN (mO mi)) i (oN ci), .instantiable (oN ci) (q_N ci), .initialized (oN ci)] := rfl
  rw [hpw] at hw
  have u1 := hts _ (hw _ List.mem_cons_self)
  rw [hnm] at u1
  intro H locs Ls hL hW T hT X
  have hsz := q_size X hT hW hz n3 hZs
  suffices hW1 : W p l e R s m args below meth c H locs cells slots Q (F0 m pc Ls ((aI n :: st).map (cv Z))) from hW1 T hT X
  refine W.anew hx hb hown u1 (va_AO.use hao) rfl hd rfl i1 (by rw [i2]; omega) (by omega) (by rw [i2]; omega) (fun cA kA comp f1 f2 f3 f4 => ?_)
  have hra := (hvm.1.2 t0 _ ht0).2
  obtain ⟨kA2, comp2, -, -, -, g4⟩ := hra
  have hcA : cA = Z.2.2 k := Option.some.inj (f1.symm.trans g4)
  generalize hH1 : H.push ({ cls := cA, slots := Array.replicate (Int32.ofInt n).toNatClampNeg .null, vm := .none } : Cell) = H1
  have z1 : H1.size = Z.1 + (gN h + 1) + 1 := by rw [← hH1, Array.size_push, hsz]
  have e1 : H1[Z.1 + (gN h + 1)]? = some (arrV (Z.2.2 k) n.toNat (fun _ => .null)) := by rw [← hH1, ← hsz, Array.getElem?_push_size, ← arrV_new, hcA, i2]
  have o1 : ∀ q : Nat, q < Z.1 + (gN h + 1) → H1[q]? = H[q]? := fun q hq => by rw [← hH1, Array.getElem?_push, if_neg (by omega)]
  have k1 := kk H1 locs Ls hL (q_wd_n hW hsz (by rw [hcell]; exact e1) o1 z1)
  rw [List.map_cons, q_cRn n1] at k1
  show W p l e R s m args below meth c H1 locs (cells + 1) (slots + (Int32.ofInt n).toNatClampNeg) Q (F0 m (pc + 3) Ls (.ref H.size :: st.map (cv Z)))
  rw [i2, hsz]
  exact k1
end Q6
