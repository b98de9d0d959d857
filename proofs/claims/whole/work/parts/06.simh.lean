/-! the world as a list of cells -/
section Q3
variable {Z : ZZ} {h h' : HH} {r : Nat}
theorem cW_at (h1 : 1 ≤ r) (h2 : r ≤ gN h) : (cW Z h)[r - 1]? = some (Z.1 + r, cE Z h r) := by
  unfold cW
  rw [List.getElem?_map, List.getElem?_range (by omega)]
  show some (Z.1 + (r - 1 + 1), cE Z h (r - 1 + 1)) = _
  rw [show r - 1 + 1 = r by omega]
theorem cE_congr (e1 : gS h' r = gS h r) (e2 : h'.2 r = h.2 r) (e3 : ∀ k, gF h' r k = gF h r k) : cE Z h' r = cE Z h r := by
  unfold cE cF
  rw [e1]
  simp only [e2, e3]
theorem cW_set {e : va_E} (hn : gN h' = gN h) (h1 : 1 ≤ r) (he : cE Z h' r = e) (ho : ∀ r', r' ≠ r → cE Z h' r' = cE Z h r') : (cW Z h).set (r - 1) (Z.1 + r, e) = cW Z h' := by
  apply List.ext_getElem?
  intro i
  unfold cW
  rw [hn, List.getElem?_set, List.getElem?_map, List.getElem?_map, List.length_map, List.length_range]
  by_cases hi : r - 1 = i
  · subst hi
    rw [if_pos rfl]
    by_cases hl : r - 1 < gN h
    · rw [if_pos hl, List.getElem?_range hl]
      show _ = some (Z.1 + (r - 1 + 1), cE Z h' (r - 1 + 1))
      rw [show r - 1 + 1 = r by omega, he]
    · rw [if_neg hl, List.getElem?_eq_none (by simp; omega)]
      rfl
  · rw [if_neg hi]
    by_cases hl : i < gN h
    · rw [List.getElem?_range hl]
      simp only [Option.map_some, ho (i + 1) (by omega)]
    · rw [List.getElem?_eq_none (by simp; omega)]
      rfl
theorem cW_push {e : va_E} (hn : gN h' = gN h + 1) (ho : ∀ r', r' ≤ gN h → cE Z h' r' = cE Z h r') (he : cE Z h' (gN h + 1) = e) : cW Z h ++ [(Z.1 + (gN h + 1), e)] = cW Z h' := by
  unfold cW
  rw [hn, List.range_succ, List.map_append]
  congr 1
  · apply List.map_congr_left
    intro i hi
    rw [ho (i + 1) (by have := List.mem_range.mp hi; omega)]
  · rw [List.map_cons, List.map_nil, he]
theorem q_ok_iff {k : Nat} (h1 : q_ok h r k = true) : 1 ≤ r ∧ r ≤ gN h ∧ r < 3000 ∧ (gS h r).1 = k := by
  simpa [q_ok, and_assoc] using h1
theorem cR_ok {k : Nat} (h1 : q_ok h r k = true) : cR Z r = .ref (Z.1 + r) := by
  obtain ⟨a, b, c, -⟩ := q_ok_iff h1
  unfold cR cO
  rw [if_neg (by omega), if_neg (by show ¬ r = 1000000; omega)]
  rfl
theorem cO_ok {k : Nat} (h1 : q_ok h r k = true) : cO Z r = some (Z.1 + r) := by
  obtain ⟨a, b, c, -⟩ := q_ok_iff h1
  unfold cO
  rw [if_neg (by omega), if_neg (by show ¬ r = 1000000; omega)]
theorem cE_20 (hk : (gS h r).1 = 20) : cE Z h r = .inl (Z.2.2 20, (gS h r).2, .inl (fun j => Int32.ofInt (h.2 r (j : Int)))) := by simp [cE, hk]
theorem cE_21 (hk : (gS h r).1 = 21) : cE Z h r = .inl (Z.2.2 21, (gS h r).2, .inr (.inl (fun j => Int64.ofInt (h.2 r (j : Int))))) := by simp [cE, hk]
theorem cE_22 (hk : (gS h r).1 = 22) : cE Z h r = .inl (Z.2.2 22, (gS h r).2, .inl (fun j => Int32.ofInt (h.2 r (j : Int)))) := by simp [cE, hk]
theorem cE_23 (hk : (gS h r).1 = 23) : cE Z h r = .inl (Z.2.2 23, (gS h r).2, .inl (fun j => Int32.ofInt (h.2 r (j : Int)))) := by simp [cE, hk]
theorem cE_24 (hk : (gS h r).1 = 24) : cE Z h r = .inl (Z.2.2 24, (gS h r).2, .inr (.inr (.inr (.inr (fun j => cO Z (gF h r j)))))) := by simp [cE, hk]
theorem cE_25 (hk : (gS h r).1 = 25) : cE Z h r = .inl (Z.2.2 25, (gS h r).2, .inr (.inr (.inr (.inr (fun j => cO Z (gF h r j)))))) := by simp [cE, hk]
theorem cE_ob {ci : Nat} (hk : (gS h r).1 = ci) (hc : ci < 13) : cE Z h r = .inr (ci, (List.range (q_N ci)).map (fun j => cF Z h r ci j)) := by
  unfold cE
  rw [hk, if_neg (by omega), if_neg (by omega), if_neg (by omega), if_neg (by omega), if_neg (by omega), if_neg (by omega)]
theorem q_u1_same (f : Int → Int) (i v : Int) : q_u1 f i v i = v := by simp [q_u1]
theorem q_uf_same (c : CC) (r : Nat) (f : Int → Int) : q_uf c r f r = f := by simp [q_uf]
theorem q_uf_ne {c : CC} {r r' : Nat} {f : Int → Int} (hr : r' ≠ r) : q_uf c r f r' = c r' := by simp [q_uf, hr]
end Q3
section Q4
variable {p : Program} {l : Launch} {e : Env} {R : Room} {s : State} {m : MethodId} {args : Array Value} {below : List Frame} {meth : Method} {c : Code} {Q : State → Prop} {Z : ZZ} {D : va_G} {sc : Nat × (Nat → Int32)} {mi d pc pc' len : Nat} {ins : Instr} {L L' : LV} {st st' : List AV} {h h' : HH} {cells slots r : Nat} {H H1 : Heap} {locs locs1 : List Loc}
theorem q_wd_c {f : Int → Int} {e : va_E} (hW : q_Wd Z D sc h s H locs) (h1 : 1 ≤ r) (he : cE Z (q_sc h (q_uf h.2 r f)) r = e) (hP1 : va_P D vwCl ((cW Z h).set (r - 1) (Z.1 + r, e)) H1) (hD1 : va_D (aZ Z) ((cW Z h).set (r - 1) (Z.1 + r, e))) (hS1 : va_S (aZ Z) s.heap H1 locs1) : q_Wd Z D sc (q_sc h (q_uf h.2 r f)) s H1 locs1 := by
  have ho : ∀ r', r' ≠ r → cE Z (q_sc h (q_uf h.2 r f)) r' = cE Z h r' := fun r' hr => cE_congr rfl (q_uf_ne hr) (fun _ => rfl)
  rw [cW_set (h := h) (h' := q_sc h (q_uf h.2 r f)) rfl h1 he ho] at hP1 hD1
  exact ⟨hP1, hD1, hS1, hW.2.2.2.1, by show 0 ≤ (q_uf h.2 r f) 0 0; rw [q_uf_ne (by omega)]; exact hW.2.2.2.2⟩
theorem q_wd_f {v k : Nat} {e : va_E} (hW : q_Wd Z D sc h s H locs) (h1 : 1 ≤ r) (he : cE Z (q_sf h (q_ur h.1.2.2.2.1 r k v)) r = e) (hP1 : va_P D vwCl ((cW Z h).set (r - 1) (Z.1 + r, e)) H1) (hD1 : va_D (aZ Z) ((cW Z h).set (r - 1) (Z.1 + r, e))) (hS1 : va_S (aZ Z) s.heap H1 locs1) : q_Wd Z D sc (q_sf h (q_ur h.1.2.2.2.1 r k v)) s H1 locs1 := by
  have ho : ∀ r', r' ≠ r → cE Z (q_sf h (q_ur h.1.2.2.2.1 r k v)) r' = cE Z h r' := fun r' hr => cE_congr rfl rfl (fun j => by show q_ur h.1.2.2.2.1 r k v r' j = h.1.2.2.2.1 r' j; unfold q_ur; rw [if_neg (fun q => hr q.1)])
  rw [cW_set (h := h) (h' := q_sf h (q_ur h.1.2.2.2.1 r k v)) rfl h1 he ho] at hP1 hD1
  exact ⟨hP1, hD1, hS1, hW.2.2.2.1, hW.2.2.2.2⟩
theorem q_cl_some {ci : Nat} (hc : ci < 13) : ∃ r0 : vw_C, vwCl[ci]? = some r0 ∧ ∀ d, vwCl.getD ci d = r0 := by
  have h1 : ci < vwCl.length := hc
  refine ⟨vwCl[ci], List.getElem?_eq_getElem h1, fun d => ?_⟩
  rw [List.getD_eq_getElem?_getD, List.getElem?_eq_getElem h1]
  rfl
theorem q_N_lt {ci k : Nat} (hk : k < q_N ci) : ci < 13 := by
  by_cases hc : ci < 13
  · exact hc
  · have h1 : q_ftl[ci]? = none := List.getElem?_eq_none (by show 13 ≤ ci; omega)
    unfold q_N at hk
    rw [List.getD_eq_getElem?_getD, h1] at hk
    exact absurd hk (by simp)
theorem q_fst {α : Type} {f : Nat → α} {n k : Nat} (hk : k < n) : ((List.range n).map f)[k]? = some (f k) := by
  rw [List.getElem?_map, List.getElem?_range hk]
  rfl
theorem q_fset {α : Type} {f g : Nat → α} {n k : Nat} {v : α} (hv : g k = v) (ho : ∀ j, j ≠ k → g j = f j) : ((List.range n).map f).set k v = (List.range n).map g := by
  apply List.ext_getElem?
  intro i
  rw [List.getElem?_set, List.getElem?_map, List.getElem?_map, List.length_map, List.length_range]
  by_cases hi : k = i
  · subst hi
    rw [if_pos rfl]
    by_cases hl : k < n
    · rw [if_pos hl, List.getElem?_range hl]
      show some v = some (g k)
      rw [hv]
    · rw [if_neg hl, List.getElem?_eq_none (by simp; omega)]
      rfl
  · rw [if_neg hi]
    by_cases hl : i < n
    · rw [List.getElem?_range hl]
      simp only [Option.map_some, ho i (fun q => hi q.symm)]
    · rw [List.getElem?_eq_none (by simp; omega)]
      rfl
set_option maxHeartbeats 4000000 in
theorem q_simGet {i : Nat} (F : q_Fx p R s m args meth c Z D sc mi d) (hd : decode (mC mi) pc = .ok (.getfield i, 3)) (hs : q_get mi i r st h = some (st', h')) (k : q_At p l e R s m args below meth c Q Z D sc h' (pc + 3) L st' cells slots) : q_At p l e R s m args below meth c Q Z D sc h pc L (aR r :: st) cells slots ∧ h' = h := by
  obtain ⟨hx, hb, hml, hown, hts, hlocks, hret, hinit, hfr, hlo, hvm, hZs, hlaw, hex⟩ := F
  unfold q_get at hs
  cases hp : pl (mO mi) i with
  | none => rw [hp] at hs; cases hs
  | some q =>
    obtain ⟨t, ci, kk, z⟩ := q
    rw [hp] at hs
    dsimp only at hs
    split at hs
    · rename_i hg
      obtain ⟨rfl, hk, hok⟩ := hg
      cases hs
      refine ⟨?_, rfl⟩
      intro H locs Ls hL hW
      have k1 := k H locs Ls hL hW
      have hci := q_N_lt hk
      obtain ⟨r0, hr0, hgd⟩ := q_cl_some hci
      obtain ⟨ty, hCl⟩ := q_cls hr0
      obtain ⟨w1, w2, w3, w4, w5, w6⟩ := hCl
      obtain ⟨o1, o2, o3, o4⟩ := q_ok_iff hok
      have hw := (q_words hp).1
      have hlink := hts _ (hw _ (by unfold q_pw; rw [if_pos rfl]; exact List.mem_cons_self))
      rw [hgd] at hlink
      have hcr : cv Z (aR r) = .ref (Z.1 + r) := cR_ok hok
      rw [List.map_cons, hcr]
      have hv : cv Z (if q_ft ci kk = 3 then aR (gF h r kk) else if q_ft ci kk = 2 then aL (h.2 r kk) else aI (h.2 r kk)) = cF Z h r ci kk := by
        unfold cF
        split
        · rfl
        · split <;> rfl
      rw [List.map_cons, hv] at k1
      exact va_get (C := r0.1) (T := r0.2.1) (N := r0.2.2) (ref := (r0.2.1 kk).1) hx hb hts w1 hown hvm.1 hW.1 (r - 1) (by rw [cW_at o1 o2, cE_ob o4 hci]) hr0 kk (by rw [← w4]; exact hk) hlink (fun _ h9 => h9) (q_fst hk) hd k1
    · cases hs
theorem q_nar_ref {t : FieldType} (ht : (∃ n, t = .object n) ∨ ∃ u, t = .array u) (a : Option Nat) : narrow t (va_rf a) = va_rf a ∧ fits t (va_rf a) = true := by
  rcases ht with ⟨n, rfl⟩ | ⟨u, rfl⟩ <;> cases a <;> exact ⟨rfl, rfl⟩
set_option maxHeartbeats 4000000 in
/-- a field is written -/
theorem q_simPut0 {i ci kk : Nat} {z : Int} {v : Value} {fs' : List Value} (F : q_Fx p R s m args meth c Z D sc mi d) (hd : decode (mC mi) pc = .ok (.putfield i, 3)) (hp : pl (mO mi) i = some (0, ci, kk, z)) (hk : kk < q_N ci) (hok : q_ok h r ci = true) (hfin : q_fin ci kk = false ∨ ((mY mi).name = "<init>" ∧ mO mi = ci))
    (hv : ∀ t : FieldType, ((q_ft ci kk = 0 ∧ t = .int) ∨ (q_ft ci kk = 1 ∧ t = .boolean) ∨ (q_ft ci kk = 2 ∧ t = .long) ∨ (q_ft ci kk = 3 ∧ ((∃ n, t = .object n) ∨ ∃ u, t = .array u))) → narrow t v = v ∧ fits t v = true)
    (hfs : ((List.range (q_N ci)).map (fun j => cF Z h r ci j)).set kk v = fs')
    (hW : q_Wd Z D sc h s H locs) {Ls : Array Slot} {vs : List Value}
    (k : ∀ (H1 : Heap) (locs1 : List Loc), va_P D vwCl ((cW Z h).set (r - 1) (Z.1 + r, .inr (ci, fs'))) H1 → va_D (aZ Z) ((cW Z h).set (r - 1) (Z.1 + r, .inr (ci, fs'))) → va_S (aZ Z) s.heap H1 locs1 → W p l e R s m args below meth c H1 locs1 cells slots Q (F0 m (pc + 3) Ls vs)) : W p l e R s m args below meth c H locs cells slots Q (F0 m pc Ls (v :: .ref (Z.1 + r) :: vs)) := by
  obtain ⟨hx, hb, hml, hown, hts, hlocks, hret, hinit, hfr, hlo, hvm, hZs, hlaw, hex⟩ := F
  have hci := q_N_lt hk
  obtain ⟨r0, hr0, hgd⟩ := q_cl_some hci
  obtain ⟨ty, hCl⟩ := q_cls hr0
  obtain ⟨w1, w2, w3, w4, w5, w6⟩ := hCl
  obtain ⟨o1, o2, o3, o4⟩ := q_ok_iff hok
  have hw := (q_words hp).1
  have hlink := hts _ (hw _ (by unfold q_pw; rw [if_pos rfl]; exact List.mem_cons_self))
  rw [hgd] at hlink
  have hk' : kk < r0.2.2 := by rw [← w4]; exact hk
  obtain ⟨a1, a2, a3⟩ := w6 kk hk'
  obtain ⟨b1, b2⟩ := hv _ a3
  subst hfs
  have hat : (cW Z h)[r - 1]? = some (Z.1 + r, .inr (ci, (List.range (q_N ci)).map (fun j => cF Z h r ci j))) := by rw [cW_at o1 o2, cE_ob o4 hci]
  by_cases hf : q_fin ci kk = true
  · have hi : (mY mi).name = "<init>" ∧ mO mi = ci := by
      rcases hfin with h1 | h1
      · rw [hf] at h1; cases h1
      · exact h1
    exact va_putF (C := r0.1) (T := r0.2.1) (N := r0.2.2) (ref := (r0.2.1 kk).1) (own := oN (mO mi)) hx hb hts w1 ty w2 w3 hown hvm.1 hW.1 hW.2.1 hW.2.2.1 (r - 1) hat hr0 kk hk' hlink (fun _ h9 => h9) (by rw [a2]; exact hf) (hinit hi.1) (by rw [a1, hi.2, w5]) (w2 kk hk') b1 b2 (by simp; exact hk) hd k
  · exact va_put (C := r0.1) (T := r0.2.1) (N := r0.2.2) (ref := (r0.2.1 kk).1) (own := oN (mO mi)) hx hb hts w1 ty w2 w3 hown hvm.1 hW.1 hW.2.1 hW.2.2.1 (r - 1) hat hr0 kk hk' hlink (fun _ h9 => h9) (by rw [a2]; simpa using hf) (w2 kk hk') b1 b2 (by simp; exact hk) hd k
set_option maxHeartbeats 4000000 in
theorem q_simPut {i : Nat} {v : AV} (F : q_Fx p R s m args meth c Z D sc mi d) (hd : decode (mC mi) pc = .ok (.putfield i, 3)) (hs : q_put mi i v r st h = some (st', h')) (k : q_At p l e R s m args below meth c Q Z D sc h' (pc + 3) L st' cells slots) : q_At p l e R s m args below meth c Q Z D sc h pc L (v :: aR r :: st) cells slots := by
  unfold q_put at hs
  cases hp : pl (mO mi) i with
  | none => rw [hp] at hs; cases hs
  | some q =>
    obtain ⟨t, ci, kk, z⟩ := q
    rw [hp] at hs
    dsimp only at hs
    split at hs
    · rename_i hg
      obtain ⟨rfl, hk, hok, hfin⟩ := hg
      obtain ⟨o1, o2, o3, o4⟩ := q_ok_iff hok
      have hci := q_N_lt hk
      intro H locs Ls hL hW
      have hcr : cv Z (aR r) = .ref (Z.1 + r) := cR_ok hok
      rw [List.map_cons, List.map_cons, hcr]
      rcases v with x | x | x
      · dsimp only at hs
        split at hs
        · rename_i hft
          cases hs
          refine q_simPut0 F hd hp hk hok hfin (v := .int (Int32.ofInt x)) (fun t ht => ?_) (q_fset (g := fun j => cF Z (q_sc h (q_up h.2 r kk x)) r ci j) ?_ ?_) hW (fun H1 locs1 hP1 hD1 hS1 => k H1 locs1 Ls hL (q_wd_c hW o1 ?_ hP1 hD1 hS1))
          · rcases hft with h0 | ⟨h0, h01⟩
            · rcases ht with ⟨_, rfl⟩ | ⟨h2, _⟩ | ⟨h2, _⟩ | ⟨h2, _⟩
              · exact ⟨rfl, rfl⟩
              all_goals omega
            · rcases ht with ⟨h2, _⟩ | ⟨_, rfl⟩ | ⟨h2, _⟩ | ⟨h2, _⟩
              · omega
              · rcases h01 with rfl | rfl <;> exact ⟨rfl, rfl⟩
              all_goals omega
          · show cF Z (q_sc h (q_up h.2 r kk x)) r ci kk = _
            unfold cF
            rw [if_neg (by omega), if_neg (by omega)]
            show Value.int (Int32.ofInt (q_up h.2 r kk x r kk)) = _
            rw [q_up, q_uf_same, q_u1_same]
          · intro j hj
            unfold cF
            split
            · rfl
            · have e1 : (q_sc h (q_up h.2 r kk x)).2 r (j : Int) = h.2 r (j : Int) := by
                show q_up h.2 r kk x r j = _
                rw [q_up, q_uf_same, q_u1, if_neg (by omega)]
              rw [e1]
          · exact cE_ob o4 hci
        · cases hs
      · dsimp only at hs
        split at hs
        · rename_i hft
          cases hs
          refine q_simPut0 F hd hp hk hok hfin (v := .long (Int64.ofInt x)) (fun t ht => ?_) (q_fset (g := fun j => cF Z (q_sc h (q_up h.2 r kk x)) r ci j) ?_ ?_) hW (fun H1 locs1 hP1 hD1 hS1 => k H1 locs1 Ls hL (q_wd_c hW o1 ?_ hP1 hD1 hS1))
          · rcases ht with ⟨h2, _⟩ | ⟨h2, _⟩ | ⟨_, rfl⟩ | ⟨h2, _⟩
            · omega
            · omega
            · exact ⟨rfl, rfl⟩
            · omega
          · show cF Z (q_sc h (q_up h.2 r kk x)) r ci kk = _
            unfold cF
            rw [if_neg (by omega), if_pos hft]
            show Value.long (Int64.ofInt (q_up h.2 r kk x r kk)) = _
            rw [q_up, q_uf_same, q_u1_same]
          · intro j hj
            unfold cF
            split
            · rfl
            · have e1 : (q_sc h (q_up h.2 r kk x)).2 r (j : Int) = h.2 r (j : Int) := by
                show q_up h.2 r kk x r j = _
                rw [q_up, q_uf_same, q_u1, if_neg (by omega)]
              rw [e1]
          · exact cE_ob o4 hci
        · cases hs
      · dsimp only at hs
        split at hs
        · rename_i hft
          cases hs
          refine q_simPut0 F hd hp hk hok hfin (v := cR Z x) (fun t ht => ?_) (q_fset (g := fun j => cF Z (q_sf h (q_ur h.1.2.2.2.1 r kk x)) r ci j) ?_ ?_) hW (fun H1 locs1 hP1 hD1 hS1 => k H1 locs1 Ls hL (q_wd_f hW o1 ?_ hP1 hD1 hS1))
          · rcases ht with ⟨h2, _⟩ | ⟨h2, _⟩ | ⟨h2, _⟩ | ⟨_, h3⟩
            · omega
            · omega
            · omega
            · exact q_nar_ref h3 _
          · show cF Z (q_sf h (q_ur h.1.2.2.2.1 r kk x)) r ci kk = _
            unfold cF
            rw [if_pos hft]
            show cR Z (q_ur h.1.2.2.2.1 r kk x r kk) = _
            rw [q_ur, if_pos ⟨rfl, rfl⟩]
          · intro j hj
            have e1 : gF (q_sf h (q_ur h.1.2.2.2.1 r kk x)) r j = gF h r j := by
              show q_ur h.1.2.2.2.1 r kk x r j = _
              rw [q_ur, if_neg (fun q => hj q.2)]
            unfold cF
            rw [e1]
            rfl
          · exact cE_ob o4 hci
        · cases hs
    · cases hs
end Q4
