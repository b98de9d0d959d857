section Q9
variable {p : Program} {l : Launch} {e : Env} {R : Room} {s : State} {m : MethodId} {args : Array Value} {below : List Frame} {meth : Method} {c : Code} {Q : State → Prop} {Z : ZZ} {D : va_G} {sc : Nat × (Nat → Int32)} {mi d pc pc' len : Nat} {ins : Instr} {L L' : LV} {st st' : List AV} {h h' : HH} {cells slots r : Nat} {H H1 : Heap} {locs locs1 : List Loc} {i n : Nat}
/-- how a method ends -/
def q_ro (mi pc : Nat) (r : Option AV) : Prop := match r with
  | none => decode (mC mi) pc = .ok (.return_, 1) ∧ mR mi = none
  | some (.inl x) => decode (mC mi) pc = .ok (.ireturn, 1) ∧ (mR mi = some .int ∨ (mR mi = some .boolean ∧ (x = 0 ∨ x = 1)))
  | some (.inr (.inl _)) => decode (mC mi) pc = .ok (.lreturn, 1) ∧ mR mi = some .long
  | some (.inr (.inr _)) => False
def q_End (p : Program) (l : Launch) (e : Env) (R : Room) (s : State) (m : MethodId) (args : Array Value) (below : List Frame) (meth : Method) (c : Code) (Q : State → Prop) (Z : ZZ) (D : va_G) (sc : Nat × (Nat → Int32)) (mi : Nat) (h : HH) (cells slots : Nat) (o : OO) (h' : HH) : Prop := match o with
  | .inl r => ∀ (pc1 : Nat) (Ls1 : Array Slot) (H1 : Heap) (locs1 : List Loc) (cells1 slots1 : Nat), q_ro mi pc1 r → q_Wd Z D sc h' s H1 locs1 → cells1 + nC h = cells + nC h' → slots1 + nU h = slots + nU h' → W p l e R s m args below meth c H1 locs1 cells1 slots1 Q (F0 m pc1 Ls1 (r.toList.map (cv Z)))
  | .inr (pc1, L1) => ∀ (Ls1 : Array Slot) (H1 : Heap) (locs1 : List Loc) (cells1 slots1 : Nat), (∃ i z1 z2 z3, decode (mC mi) pc1 = .ok (.new i, 3) ∧ pl (mO mi) i = some (17, z1, z2, z3) ∧ decode (mC mi) (pc1 + 3) = .ok (.dup, 1) ∧ decode (mC mi) (pc1 + 4) = .ok (.invokespecial 218, 3) ∧ decode (mC mi) (pc1 + 7) = .ok (.athrow, 1)) → Ls1.size = mL mi → q_Wd Z D sc h' s H1 locs1 → cells1 + nC h = cells + nC h' → slots1 + nU h = slots + nU h' → W p l e R s m args below meth c H1 locs1 cells1 slots1 Q (F0 m pc1 Ls1 [])
def SimP (n : Nat) : Prop := ∀ (d mi pc : Nat) (L : LV) (st : List AV) (h : HH) (o : OO) (h' : HH), ev n d mi pc L st h = some (o, h') → L.length = mL mi →
  ∀ (p : Program) (l : Launch) (e : Env) (R : Room) (s : State) (m : MethodId) (args : Array Value) (below : List Frame) (meth : Method) (c : Code) (Q : State → Prop) (Z : ZZ) (D : va_G) (sc : Nat × (Nat → Int32)) (cells slots : Nat), q_Key l → l.stackTraces = false → q_Fx p R s m args meth c Z D sc mi d →
    s.heap.size + cells ≤ Z.1 + 1 + nC h → cells + nC h' ≤ R.cells + nC h → slots + nU h' ≤ R.slots + nU h → q_End p l e R s m args below meth c Q Z D sc mi h cells slots o h' → q_At p l e R s m args below meth c Q Z D sc h pc L st cells slots
/-! nothing is ever given back -/
theorem nC_uf {f : Int → Int} (hr : 1 ≤ r) : nC (q_sc h (q_uf h.2 r f)) = nC h ∧ nU (q_sc h (q_uf h.2 r f)) = nU h := nC_sc (by rw [q_uf_ne (by omega)])
theorem q_mono_H (hs : stH mi ins st h = some (st', h')) : nC h ≤ nC h' ∧ nU h ≤ nU h' := by
  have nn : ∀ {k n : Nat} {f : Int → Int} {q : Nat × HH}, q_new h k n f = some q → nC h ≤ nC q.2 ∧ nU h ≤ nU q.2 := by
    intro k n f q hq
    obtain ⟨-, -, n3, n4⟩ := q_new_some hq
    obtain ⟨c1, c2⟩ := nC_nw (k := k) (n := n) (f := f) n3
    rw [n4]
    exact ⟨by rw [c1]; omega, by rw [c2]; omega⟩
  have nm : ∀ {k n : Nat} {f : Int → Int} {g : Nat × HH → List AV × HH}, (q_new h k n f).map g = some (st', h') → (∀ q, (g q).2 = q.2) → nC h ≤ nC h' ∧ nU h ≤ nU h' := by
    intro k n f g hm hg
    obtain ⟨q, hq, he⟩ := q_map_some hm
    have h2 := hg q
    rw [he] at h2
    rw [show h' = q.2 from h2]
    exact nn hq
  unfold stH at hs
  split at hs
  case h_1 => rw [q_get_h hs]; exact ⟨Nat.le_refl _, Nat.le_refl _⟩
  case h_2 => obtain ⟨n1, n2⟩ := q_put_n hs; exact ⟨by rw [n1]; omega, by rw [n2]; omega⟩
  case h_3 =>
    split at hs
    · split at hs
      · cases hs; exact ⟨Nat.le_refl _, Nat.le_refl _⟩
      · cases hs
    · split at hs
      · cases hs; exact ⟨Nat.le_refl _, Nat.le_refl _⟩
      · cases hs
  case h_4 =>
    split at hs
    · cases hs; exact ⟨Nat.le_refl _, Nat.le_refl _⟩
    · cases hs
  case h_5 =>
    split at hs
    · cases hs; exact ⟨Nat.le_refl _, Nat.le_refl _⟩
    · cases hs
  case h_6 =>
    split at hs
    · cases hs; exact ⟨Nat.le_refl _, Nat.le_refl _⟩
    · cases hs
  case h_7 =>
    split at hs
    · rename_i hg; cases hs
      obtain ⟨n1, n2⟩ := nC_up (h := h) (q_ok_iff (q_bool2 hg).1).1
      exact ⟨by rw [n1]; omega, by rw [n2]; omega⟩
    · cases hs
  case h_8 =>
    split at hs
    · rename_i hg; cases hs
      obtain ⟨n1, n2⟩ := nC_up (h := h) (q_ok_iff (q_bool2 hg).1).1
      exact ⟨by rw [n1]; omega, by rw [n2]; omega⟩
    · cases hs
  case h_9 =>
    split at hs
    · rename_i hg; cases hs
      obtain ⟨n1, n2⟩ := nC_up (h := h) ((q_or2 (q_bool2 hg).1).elim (fun z => (q_ok_iff z).1) (fun z => (q_ok_iff z).1))
      exact ⟨by rw [n1]; omega, by rw [n2]; omega⟩
    · cases hs
  case h_10 =>
    split at hs
    · cases hs; exact ⟨Nat.le_refl _, Nat.le_refl _⟩
    · cases hs
  case h_11 =>
    split at hs
    · split at hs
      · cases hs; exact ⟨Nat.le_refl _, Nat.le_refl _⟩
      · cases hs
    · split at hs
      · cases hs; exact ⟨Nat.le_refl _, Nat.le_refl _⟩
      · cases hs
  case h_12 =>
    split at hs
    · split at hs
      · exact nm hs (fun _ => rfl)
      · cases hs
    · cases hs
  case h_13 =>
    split at hs
    · split at hs
      · exact nm hs (fun _ => rfl)
      · exact nm hs (fun _ => rfl)
      · exact nm hs (fun _ => rfl)
      · exact nm hs (fun _ => rfl)
      · cases hs
    · cases hs
  case h_14 =>
    split at hs
    · split at hs
      · exact nm hs (fun _ => rfl)
      · cases hs
    · cases hs
  case h_15 =>
    split at hs
    · split at hs
      · cases hs; exact ⟨Nat.le_refl _, Nat.le_refl _⟩
      · cases hs
    · cases hs
  case h_16 =>
    split at hs
    · split at hs
      · cases hs; exact ⟨Nat.le_refl _, Nat.le_refl _⟩
      · cases hs
    · cases hs
  case h_17 =>
    split at hs
    · split at hs
      · cases hs; exact ⟨Nat.le_refl _, Nat.le_refl _⟩
      · cases hs
    · cases hs
  case h_18 =>
    split at hs
    · split at hs
      · cases hs; exact ⟨Nat.le_refl _, Nat.le_refl _⟩
      · cases hs
    · cases hs
  case h_19 =>
    split at hs
    · split at hs
      · unfold q_ac at hs
        split at hs
        · split at hs
          · rename_i hg
            cases hs
            have hne : 1 ≤ _ := hg.1.elim (fun z => (q_ok_iff z.2).1) (fun z => (q_ok_iff z.2).1)
            exact ⟨Nat.le_of_eq (nC_uf hne).1.symm, Nat.le_of_eq (nC_uf hne).2.symm⟩
          · cases hs
        · cases hs
      · split at hs
        · split at hs
          · exact nm hs (fun _ => rfl)
          · cases hs
        · split at hs
          · split at hs
            · split at hs
              · cases hs; exact ⟨Nat.le_refl _, Nat.le_refl _⟩
              · cases hs
            · cases hs
          · cases hs
    · cases hs
  case h_20 => cases hs
theorem nC_x1 (h0 : 0 ≤ h.2 0 0) : nC (q_x1 h) = nC h + 1 ∧ nU (q_x1 h) = nU h + 6 := by
  have e0 : (q_x1 h).2 0 0 = h.2 0 0 + 1 := by
    show q_up h.2 0 0 (h.2 0 0 + 1) 0 0 = _
    rw [q_up, q_uf_same, q_u1_same]
  refine ⟨?_, ?_⟩
  · show gN h + ((q_x1 h).2 0 0).toNat = gN h + (h.2 0 0).toNat + 1
    rw [e0]; omega
  · show gU h + 6 * ((q_x1 h).2 0 0).toNat = gU h + 6 * (h.2 0 0).toNat + 6
    rw [e0]; omega
theorem nC_x1' : nC h ≤ nC (q_x1 h) ∧ nU h ≤ nU (q_x1 h) := by
  have e0 : (q_x1 h).2 0 0 = h.2 0 0 + 1 := by
    show q_up h.2 0 0 (h.2 0 0 + 1) 0 0 = _
    rw [q_up, q_uf_same, q_u1_same]
  refine ⟨?_, ?_⟩
  · show gN h + (h.2 0 0).toNat ≤ gN h + ((q_x1 h).2 0 0).toNat
    rw [e0]; omega
  · show gU h + 6 * (h.2 0 0).toNat ≤ gU h + 6 * ((q_x1 h).2 0 0).toNat
    rw [e0]; omega
set_option maxHeartbeats 1000000 in
theorem ev_mono : ∀ (n d mi pc : Nat) (L : LV) (st : List AV) (h : HH) (o : OO) (h' : HH), ev n d mi pc L st h = some (o, h') → nC h ≤ nC h' ∧ nU h ≤ nU h' := by
  intro n
  induction n with
  | zero => intro d mi pc L st h o h' he; cases he
  | succ n ih =>
    intro d mi pc L st h o h' he
    unfold ev at he
    split at he
    · cases he
    · rename_i ins len hd
      split at he
      · cases he
      split at he
      · exact ih _ _ _ _ _ _ _ _ he
      split at he
      · exact ih _ _ _ _ _ _ _ _ he
      split at he
      · exact ih _ _ _ _ _ _ _ _ he
      split at he
      · rename_i hs
        have h1 := q_mono_H hs
        have h2 := ih _ _ _ _ _ _ _ _ he
        exact ⟨Nat.le_trans h1.1 h2.1, Nat.le_trans h1.2 h2.2⟩
      split at he
      · cases he; exact ⟨Nat.le_refl _, Nat.le_refl _⟩
      split at he
      · split at he
        · cases he
        · split at he
          · split at he
            · cases he
            · split at he
              · split at he
                · rename_i hg
                  split at he
                  · rename_i v h1 hv
                    split at he
                    · have e1 := ih _ _ _ _ _ _ _ _ hv
                      have e2 := ih _ _ _ _ _ _ _ _ he
                      rename_i hg2
                      have ho : 1 ≤ _ := (q_ok_iff (q_bool2 (q_bool2 hg2).1).2).1
                      obtain ⟨n1, n2⟩ := nC_up (h := h1) (i := 0) (v := v) ho
                      rw [n1, n2] at e2
                      exact ⟨Nat.le_trans e1.1 e2.1, Nat.le_trans e1.2 e2.2⟩
                    · cases he
                  · rename_i h1 hv
                    have e1 := ih _ _ _ _ _ _ _ _ hv
                    have e2 := ih _ _ _ _ _ _ _ _ he
                    have e3 := nC_x1' (h := h1)
                    exact ⟨Nat.le_trans e1.1 (Nat.le_trans e3.1 e2.1), Nat.le_trans e1.2 (Nat.le_trans e3.2 e2.2)⟩
                  · cases he
                · cases he
              · cases he
          · split at he
            · split at he
              · rename_i hv
                have e1 := ih _ _ _ _ _ _ _ _ hv
                have e2 := ih _ _ _ _ _ _ _ _ he
                exact ⟨Nat.le_trans e1.1 e2.1, Nat.le_trans e1.2 e2.2⟩
              · cases he
            · cases he
      · split at he
        · cases he; exact ⟨Nat.le_refl _, Nat.le_refl _⟩
        · cases he
/-! the entry of a method -/
theorem q_al_sl (Z : ZZ) (as : List AV) : (lg_sl (as.map (cv Z))).length = (q_al as).length ∧ ∀ (i : Nat) (v : AV), (q_al as)[i]? = some (some v) → (lg_sl (as.map (cv Z)))[i]? = some (.val (cv Z v)) := by
  induction as with
  | nil => exact ⟨rfl, fun i v hv => by simp [q_al] at hv⟩
  | cons a as ih =>
    have e0 : lg_sl ((a :: as).map (cv Z)) = (if q_cat a = 2 then [.val (cv Z a), .second] else [.val (cv Z a)]) ++ lg_sl (as.map (cv Z)) := by
      unfold lg_sl
      rw [List.map_cons, List.flatMap_cons, cv_cat]
    rw [e0]
    unfold q_al
    by_cases hc : q_cat a = 2
    · rw [if_pos hc, if_pos hc]
      refine ⟨by simp [ih.1], fun i v hv => ?_⟩
      match i, hv with
      | 0, hv => cases hv; rfl
      | 1, hv => cases hv
      | i + 2, hv => exact ih.2 i v hv
    · rw [if_neg hc, if_neg hc]
      refine ⟨by simp [ih.1], fun i v hv => ?_⟩
      match i, hv with
      | 0, hv => cases hv; rfl
      | i + 1, hv => exact ih.2 i v hv
theorem q_ent_RL {k : Nat} {as : List AV} (hle : (q_al as).length ≤ mL k) : RL' Z (q_ent k as) ((lg_sl (as.map (cv Z)) ++ List.replicate (mL k - (lg_sl (as.map (cv Z))).length) Slot.unset).toArray) ∧ (q_ent k as).length = mL k := by
  obtain ⟨h1, h2⟩ := q_al_sl Z as
  have hl := lv_entry (as.map (cv Z)) (n := mL k) (by rw [h1]; exact hle)
  have hlen : (q_ent k as).length = mL k := by
    unfold q_ent
    rw [List.length_append, List.length_replicate]
    omega
  refine ⟨⟨by rw [hl.1, hlen], hl.2.1, fun i v hv => ?_⟩, hlen⟩
  unfold lg q_ent at hv
  by_cases hi : i < (q_al as).length
  · rw [List.getElem?_append_left hi] at hv
    split at hv
    · rename_i w hw
      cases hv
      rw [List.getElem?_toArray, List.getElem?_append_left (by rw [h1]; exact hi)]
      exact h2 i v hw
    · cases hv
  · rw [List.getElem?_append_right (by omega), List.getElem?_replicate] at hv
    split at hv
    · rename_i w hw
      split at hw
      · cases hw
      · cases hw
    · cases hv
def q_Pre (Z : ZZ) (D : va_G) (sc : Nat × (Nat → Int32)) (h : HH) (U : State) : Prop :=
  Z.1 < U.heap.size ∧ U.heap.size ≤ Z.1 + 1 + nC h ∧ q_Vm Z D U ∧ q_Ex Z U U.heap ∧ va_P D vwCl (cW Z h) U.heap ∧ va_D (aZ Z) (cW Z h) ∧ h.1.2.2.2.2 = sc ∧ 0 ≤ h.2 0 0
def q_Post (Z : ZZ) (D : va_G) (sc : Nat × (Nat → Int32)) (r : Option AV) (h' : HH) : Array Value → State → Outcome → State → Prop := fun _ st o t =>
  o = .returned (r.map (cv Z)) ∧ st.heap.size ≤ t.heap.size ∧ (∀ q : Nat, q < st.heap.size → ¬ aZ Z q → t.heap[q]? = st.heap[q]?) ∧ va_P D vwCl (cW Z h') t.heap ∧ va_D (aZ Z) (cW Z h') ∧ h'.1.2.2.2.2 = sc ∧ 0 ≤ h'.2 0 0
def q_rm (d mc ms : Nat) : Room := { frames := d + 12, cells := mc, slots := ms, locals := 100 * d + 1500 }
theorem q_pre_blind {av : List Value} : FrameBlind (va_Pc av (q_Pre Z D sc h)) := fun a U g mk q => ⟨q.1, by
  obtain ⟨-, a1, a2, a3, a4, a5⟩ := q
  exact ⟨a1, a2, q_Vm_warm (State.WarmedH.refl U) a3, q_Ex_warm (State.WarmedH.refl U) a4, a5⟩⟩
theorem q_lawNot {k : Nat} (hk : k < q_law) : ¬ k = q_law := by omega
set_option maxHeartbeats 1000000 in
/-- a method's contract, out of the evaluator -/
theorem q_met (IH : SimP n) (hKey : q_Key l) (hST : l.stackTraces = false) {k d : Nat} {as : List AV} {r : Option AV} {h1 : HH} (hk : k < q_law) (hks : k ∉ q_sp) (hle : (q_al as).length ≤ mL k) (he : ev n d k 0 (q_ent k as) [] h = some (.inl r, h1)) :
    Met l (mY k) (.code (mY k) (mC k) (mL k) (mR k) :: WS) (q_rm d (nC h1 - nC h) (nU h1 - nU h)) (va_Pc (as.map (cv Z)) (q_Pre Z D sc h)) (q_Post Z D sc r h1) (nC h1 - nC h) (nU h1 - nU h) (aZ Z) := by
  obtain ⟨m1, m2, m3, m4, m5, m6⟩ := q_mok_of hk hks
  have hmo := ev_mono _ _ _ _ _ _ _ _ _ he
  refine Met.ofW (cc := mC k) (maxL := mL k) (ret := mR k) m2 rfl ?_
  intro p e s m args below meth c s₁ B hml hv
  obtain ⟨rfl, a1, a2, a3, a4, a5, a6, a7, a8⟩ := hv
  have hts := atoms_spec (ws := .code (mY k) (mC k) (mL k) (mR k) :: WS) B.pre
  have hown : s.vm.findClass (oN (mO k)) = some m.cls := by rw [← m3]; exact findClass_of_methodNamed B.named
  have hnm := (name_of_methodNamed B.named B.method).1
  obtain ⟨hRL, hlen⟩ := q_ent_RL (Z := Z) hle
  have F : q_Fx p (q_rm d (nC h1 - nC h) (nU h1 - nU h)) s m (as.map (cv Z)).toArray meth c Z D sc k d := ⟨B.exec, B.bytes, hml, hown, fun w hw => hts w (List.mem_cons_of_mem _ hw), B.notSynchronized, B.returns, fun hi => by rw [hnm]; exact hi, Nat.le_refl _, Nat.le_refl _, a3, a1, fun hq => absurd hq (q_lawNot hk), a4⟩
  have hW0 : q_Wd Z D sc h s s.heap [] := ⟨a5, a6, va_S.rf, a7, a8⟩
  have hx := B.exec
  have hb := B.bytes
  have hrt := B.returns
  have hlocks := B.notSynchronized
  rw [lg_entry_eq]
  refine IH d k 0 (q_ent k as) [] h (.inl r) h1 he hlen p l e (q_rm d (nC h1 - nC h) (nU h1 - nU h)) s m (as.map (cv Z)).toArray below meth c _ Z D sc 0 0 hKey hST F (by omega) (by show 0 + nC h1 ≤ (nC h1 - nC h) + nC h; omega) (by show 0 + nU h1 ≤ (nU h1 - nU h) + nU h; omega) ?_ s.heap [] _ hRL hW0
  intro pc1 Ls1 H1 locs1 cells1 slots1 hro hWd hc1 hs1
  have hpost : ∀ t : State, t.heap = H1 → s.WarmedH t.vm → q_Post Z D sc r h1 (as.map (cv Z)).toArray s (.returned (r.map (cv Z))) t := fun t ht _ => ⟨rfl, by rw [ht]; exact hWd.2.2.1.1, fun q g1 g2 => by rw [ht]; exact hWd.2.2.1.2.1 q g1 g2, by rw [ht]; exact hWd.1, hWd.2.1, hWd.2.2.2.1, hWd.2.2.2.2⟩
  have hfree : ∀ q ∈ locs1, aZ Z q.base := hWd.2.2.1.2.2
  have e1 : cells1 = nC h1 - nC h := by omega
  have e2 : slots1 = nU h1 - nU h := by omega
  subst e1
  subst e2
  rcases r with _ | ⟨x | x | x⟩
  · exact W.vret hx hb (hrt.trans hro.2) hpost hfree hro.1
  · rcases hro.2 with hr1 | ⟨hr1, hr2⟩
    · exact W.iret hx hb (hrt.trans hr1) hpost hfree hro.1
    · exact W.zret hx hb (hrt.trans hr1) (by rcases hr2 with rfl | rfl <;> rfl) hpost hfree hro.1
  · exact W.lret hx hb (hrt.trans hro.2) hpost hfree hro.1
  · exact hro.elim
theorem q_afterH {r : Option AV} {h1 : HH} {st₀ t : State} {a : Array Value} {v : Option Value} (hW : q_Wd Z D sc h s H locs) (hq : q_Post Z D sc r h1 a st₀ (.returned v) t) (h0 : st₀.heap = H) (hlo : ∀ q ∈ locs1, q ∈ locs ∨ aZ Z q.base) : v = r.map (cv Z) ∧ q_Wd Z D sc h1 s t.heap locs1 := by
  obtain ⟨b1, b2, b3, b4, b5, b6, b7⟩ := hq
  cases b1
  rw [h0] at b2 b3
  refine ⟨rfl, b4, b5, ⟨Nat.le_trans hW.2.2.1.1 b2, fun q g1 g2 => ?_, fun q hq => ?_⟩, b6, b7⟩
  · rw [b3 q (Nat.lt_of_lt_of_le g1 hW.2.2.1.1) g2]
    exact hW.2.2.1.2.1 q g1 g2
  · rcases hlo q hq with h2 | h2
    · exact hW.2.2.1.2.2 q h2
    · exact h2
theorem q_tagV {t k z1 : Nat} {z2 : Int} {o i : Nat} (hp : pl o i = some (t, k, z1, z2)) (ht : t = 1 ∨ t = 4 ∨ t = 5) : k < q_law ∧ k ∉ q_sp ∧ k ∉ q_sts ∧ mO k < 13 ∧ (t = 1 ∨ (mR k = none ∧ (mY k).name = "<init>")) := by
  have h1 := q_tag hp
  unfold q_tgb at h1
  rw [if_pos ht] at h1
  simp only [Bool.and_eq_true, decide_eq_true_eq] at h1
  obtain ⟨⟨⟨⟨a, b⟩, c9⟩, d9⟩, e9⟩ := h1
  refine ⟨a, b, c9, d9, ?_⟩
  split at e9
  · exact Or.inl (by assumption)
  · exact Or.inr (by simpa using e9)
theorem q_tagS {t k z1 : Nat} {z2 : Int} {o i : Nat} (hp : pl o i = some (t, k, z1, z2)) (ht : t = 2 ∨ t = 3) : k < q_law ∧ k ∉ q_sp ∧ k ∈ q_sts := by
  have h1 := q_tag hp
  unfold q_tgb at h1
  rw [if_neg (show ¬ (t = 1 ∨ t = 4 ∨ t = 5) by omega), if_pos ht] at h1
  simp only [Bool.and_eq_true, decide_eq_true_eq] at h1
  exact ⟨h1.1.1, h1.1.2, h1.2⟩
theorem q_params {k x : Nat} (hk : k < q_law) (hks : k ∉ q_sp) (hx : x + (if k ∈ q_sts then 0 else 1) = mA k) : (parseMethodDescriptor (mY k).desc).map (fun d => d.parameters.length) = some x := by
  have h1 := (q_mok_of hk hks).2.2.2.2.1
  cases hd : parseMethodDescriptor (mY k).desc with
  | none => rw [hd] at h1; cases h1
  | some y =>
    rw [hd] at h1
    have h2 := Option.some.inj h1
    dsimp only at h2
    simp only [Option.map_some]
    rw [show y.parameters.length = x by omega]
end Q9
