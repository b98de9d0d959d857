/-! from the evaluator to the machine -/
def oN (o : Nat) : String := if o = 13 then RL else if o = 14 then RJ6 else (vwCl.getD o (RL, fun _ => ("", "", "", false), 0)).1
/-- the words that every method is given -/
def WS : List Cond := lw_tbl.filter goodWord
abbrev ZZ : Type := Nat × Nat × (Nat → ClassId)
def cO (Z : ZZ) (r : Nat) : Option Nat := if r = 0 then none else if r = q_S then some Z.2.1 else some (Z.1 + r)
def cR (Z : ZZ) (r : Nat) : Value := va_rf (cO Z r)
def cv (Z : ZZ) : AV → Value
  | .inl x => .int (Int32.ofInt x)
  | .inr (.inl x) => .long (Int64.ofInt x)
  | .inr (.inr r) => cR Z r
def cF (Z : ZZ) (h : HH) (r ci j : Nat) : Value := if q_ft ci j = 3 then cR Z (gF h r j) else if q_ft ci j = 2 then .long (Int64.ofInt (h.2 r (j : Int))) else .int (Int32.ofInt (h.2 r (j : Int)))
def cE (Z : ZZ) (h : HH) (r : Nat) : va_E :=
  if (gS h r).1 = 20 then .inl (Z.2.2 20, (gS h r).2, .inl (fun j => Int32.ofInt (h.2 r (j : Int))))
  else if (gS h r).1 = 21 then .inl (Z.2.2 21, (gS h r).2, .inr (.inl (fun j => Int64.ofInt (h.2 r (j : Int)))))
  else if (gS h r).1 = 22 then .inl (Z.2.2 22, (gS h r).2, .inl (fun j => Int32.ofInt (h.2 r (j : Int))))
  else if (gS h r).1 = 23 then .inl (Z.2.2 23, (gS h r).2, .inl (fun j => Int32.ofInt (h.2 r (j : Int))))
  else if (gS h r).1 = 24 then .inl (Z.2.2 24, (gS h r).2, .inr (.inr (.inr (.inr (fun j => cO Z (gF h r j))))))
  else if (gS h r).1 = 25 then .inl (Z.2.2 25, (gS h r).2, .inr (.inr (.inr (.inr (fun j => cO Z (gF h r j))))))
  else .inr ((gS h r).1, (List.range (q_N (gS h r).1)).map (fun j => cF Z h r (gS h r).1 j))
def cW (Z : ZZ) (h : HH) : va_W := (List.range (gN h)).map (fun i => (Z.1 + (i + 1), cE Z h (i + 1)))
def tyZ (Z : ZZ) : List (ClassId × FieldType) := [(Z.2.2 20, .int), (Z.2.2 21, .long), (Z.2.2 22, .byte), (Z.2.2 23, .boolean), (Z.2.2 24, .object "SoulOffice$Life"), (Z.2.2 25, .object "SoulOffice$Image")]
def aZ (Z : ZZ) : Nat → Prop := fun q => Z.1 < q
def q_isN (w : Cond) : Bool := match w with | .methodLinkNest _ _ _ _ => true | .declares _ => true | .castable _ _ => true | _ => false
def q_NW : List Cond := lw_tbl.filter q_isN
/-- what the tables say, and is carried from state to state -/
def q_Vm (Z : ZZ) (D : va_G) (s : State) : Prop := va_K D vwCl (tyZ Z) s ∧ (∀ w ∈ q_NW, va_Nw w s) ∧ va_AO "SoulOffice$Life" s ∧ va_AO "SoulOffice$Image" s
/-- the text of the keys -/
def q_kb : List Int32 := [107, 105, 110, 100, 32, 109, 101, 101, 116, 115, 32, 115, 111, 117, 108, 32, 111, 110, 108, 121, 32, 119, 105, 115, 104, 32, 100, 101, 98, 116, 32, 103, 114, 111, 119, 115, 32, 97, 115, 32, 100, 97, 121, 32, 99, 108, 101, 114, 107, 32, 111, 114, 32, 97, 110, 100, 32, 110, 111, 116, 32, 119, 97, 105, 116, 115, 32, 111, 119, 101, 115, 32, 100, 101, 98, 116, 115, 32, 100, 117, 101, 115, 32, 98, 105, 114, 116, 104, 115, 32, 108, 101, 102, 116, 32, 112, 108, 97, 99, 101, 32]
/-- what old cells hold: of a throw, of the keys' text -/
def q_Str (Z : ZZ) (s : State) (H : Heap) : Prop := ∃ adK adV : Nat → Nat, vk_R RX11 362 "kind meets soul only wish debt grows as day clerk or and not waits owes debts dues births left place " (adK 0) s ∧ vk_S 1 [101] [q_kb] adK adV (aZ Z) s H ∧ va_Z "java/lang/String" "COMPACT_STRINGS" "Z" (.int 1) (aZ Z) s H ∧ va_Zq "jdk/internal/util/Preconditions" "SIOOBE_FORMATTER" "Ljava/util/function/BiFunction;" (aZ Z) s H
def q_Ex (Z : ZZ) (s : State) (H : Heap) : Prop := vx_Zq Bundle.tN "UNASSIGNED_STACK" Bundle.steD (aZ Z) s H ∧ vx_Zq Bundle.tN "SUPPRESSED_SENTINEL" Bundle.listD (aZ Z) s H ∧ q_Str Z s H
def q_Wd (Z : ZZ) (D : va_G) (sc : Nat × (Nat → Int32)) (h : HH) (s : State) (H : Heap) (locs : List Loc) : Prop :=
  va_P D vwCl (cW Z h) H ∧ va_D (aZ Z) (cW Z h) ∧ va_S (aZ Z) s.heap H locs ∧ h.1.2.2.2.2 = sc ∧ 0 ≤ h.2 0 0
/-- cells and slots made -/
def nC (h : HH) : Nat := gN h + gX h
def nU (h : HH) : Nat := gU h + 6 * gX h
def RL' (Z : ZZ) (L : LV) (Ls : Array Slot) : Prop := Ls.size = L.length ∧ lv_wf Ls ∧ ∀ (i : Nat) (v : AV), lg L i = some v → Ls[i]? = some (.val (cv Z v))
def q_Fx (p : Program) (R : Room) (s : State) (m : MethodId) (args : Array Value) (meth : Method) (c : Code) (Z : ZZ) (D : va_G) (sc : Nat × (Nat → Int32)) (mi d : Nat) : Prop :=
  p.tables.exec = Jvm.exec ∧ c.code = mC mi ∧ c.maxLocals = mL mi ∧ s.vm.findClass (oN (mO mi)) = some m.cls ∧ (∀ w ∈ WS, w.before args s = true) ∧ meth.locks = false ∧ meth.sig.returnType = mR mi ∧ ((mY mi).name = "<init>" → meth.name = "<init>") ∧ d + 12 ≤ R.frames ∧ 100 * d + 1500 ≤ R.locals ∧ q_Vm Z D s ∧ Z.1 < s.heap.size ∧ (mi = q_law → va_X Z.2.1 sc.1 sc.2 s s.heap ∧ Z.2.1 ≤ Z.1 ∧ sc.1 ≤ 3072) ∧ q_Ex Z s s.heap
theorem cv_cat (Z : ZZ) (v : AV) : (cv Z v).category = q_cat v := by
  rcases v with x | x | r
  · rfl
  · rfl
  · show (va_rf (cO Z r)).category = 1
    unfold cO
    split
    · rfl
    · split <;> rfl
theorem cv_sum (Z : ZZ) (st : List AV) : ((st.map (cv Z)).map fun v => v.category).sum = q_csum st := by
  induction st with
  | nil => rfl
  | cons v st ih => simp only [List.map_cons, List.sum_cons, q_csum, ih, cv_cat]
theorem cR_pos {Z : ZZ} {r : Nat} (h : ¬ r = 0) : ∃ a, cR Z r = .ref a := by
  unfold cR cO
  rw [if_neg h]
  split
  · exact ⟨_, rfl⟩
  · exact ⟨_, rfl⟩
theorem lg_len {L : LV} {i : Nat} {v : AV} (h : lg L i = some v) : i < L.length := by
  unfold lg at h
  split at h
  · rename_i w hw
    exact (List.getElem?_eq_some_iff.mp hw).1
  · cases h
theorem lg_set (L : LV) (i : Nat) (w : Option AV) (j : Nat) : lg (L.set i w) j = if j = i ∧ i < L.length then w else lg L j := by
  unfold lg
  rw [List.getElem?_set]
  by_cases h : i = j
  · subst h
    by_cases h2 : i < L.length
    · simp only [if_pos, h2, and_self]
      cases w <;> rfl
    · simp [h2]
  · rw [if_neg h, if_neg (fun q => h q.1.symm)]
def q_asc (Z : ZZ) (L : LV) : List (Nat × Value) := (List.range L.length).filterMap (fun i => (lg L i).map (fun v => (i, cv Z v)))
theorem q_asc_has {Z : ZZ} {L : LV} {Ls : Array Slot} (h : RL' Z L Ls) : lv_has Ls L.length (q_asc Z L) := by
  refine ⟨h.1, h.2.1, fun q hq => ?_⟩
  obtain ⟨i, -, hi⟩ := List.mem_filterMap.mp hq
  cases hv : lg L i with
  | none => rw [hv] at hi; cases hi
  | some v => rw [hv] at hi; cases hi; exact h.2.2 i v hv
theorem q_asc_mem {Z : ZZ} {L : LV} {i : Nat} {v : AV} (h : lg L i = some v) : (i, cv Z v) ∈ q_asc Z L :=
  List.mem_filterMap.mpr ⟨i, List.mem_range.mpr (lg_len h), by rw [h]; rfl⟩
theorem q_clob_len (L : LV) (i : Nat) : (q_clob L i).length = L.length := by
  unfold q_clob
  split
  · rfl
  · split <;> simp
theorem q_clob_lg {L : LV} {i j : Nat} {v : AV} (h : lg (q_clob L i) j = some v) : lg L j = some v ∧ ¬ (j + 1 = i ∧ q_cat v = 2) := by
  unfold q_clob at h
  split at h
  · exact ⟨h, by omega⟩
  · rename_i k
    split at h
    · rename_i x hx
      rw [lg_set] at h
      split at h
      · cases h
      · rename_i hn
        refine ⟨h, fun q => ?_⟩
        have : j = k := by omega
        exact hn ⟨this, lg_len hx⟩
    · rename_i hn
      refine ⟨h, fun q => ?_⟩
      have e : j = k := by omega
      subst e
      rcases v with x | x | r
      · exact absurd q.2 (by simp [q_cat])
      · exact hn x h
      · exact absurd q.2 (by simp [q_cat])
theorem q_put1 {Z : ZZ} {L L' : LV} {Ls Ls' : Array Slot} {i : Nat} {v : AV} (hc : q_cat v = 1) (hp : lput L i v = some L') (h : lv_has Ls' L.length ((i, cv Z v) :: (q_asc Z L).filter (fun q => !(q.1 == i) && !(q.1 + 1 == i && q.2.category == 2)))) : RL' Z L' Ls' := by
  unfold lput at hp
  rw [if_pos hc] at hp
  split at hp
  · cases hp
    rename_i hi
    refine ⟨by simp [q_clob_len, h.1], h.2.1, fun j w hj => ?_⟩
    rw [lg_set] at hj
    split at hj
    · rename_i e
      cases hj
      rw [e.1]
      exact h.2.2 _ (List.mem_cons_self)
    · rename_i hn
      rw [q_clob_len] at hn
      obtain ⟨h1, h2⟩ := q_clob_lg hj
      refine h.2.2 (j, cv Z w) (List.mem_cons_of_mem _ (List.mem_filter.mpr ⟨q_asc_mem h1, ?_⟩))
      have e1 : ¬ j = i := fun e => hn ⟨e, hi⟩
      simp only [cv_cat, Bool.and_eq_true, Bool.not_eq_true', beq_eq_false_iff_ne, ne_eq, Bool.and_eq_false_iff]
      refine ⟨e1, ?_⟩
      by_cases e2 : j + 1 = i
      · exact Or.inr (fun e3 => h2 ⟨e2, e3⟩)
      · exact Or.inl e2
  · cases hp
theorem q_put2 {Z : ZZ} {L L' : LV} {Ls Ls' : Array Slot} {i : Nat} {v : AV} (hc : q_cat v = 2) (hp : lput L i v = some L') (h : lv_has Ls' L.length ((i, cv Z v) :: (q_asc Z L).filter (fun q => !(q.1 == i) && (!(q.1 == i + 1) && !(q.1 + 1 == i && q.2.category == 2))))) : RL' Z L' Ls' := by
  unfold lput at hp
  rw [if_neg (by omega)] at hp
  split at hp
  · cases hp
    rename_i hi
    refine ⟨by simp [q_clob_len, h.1], h.2.1, fun j w hj => ?_⟩
    rw [lg_set] at hj
    split at hj
    · cases hj
    · rename_i hn0
      rw [lg_set] at hj
      split at hj
      · rename_i e
        cases hj
        rw [e.1]
        exact h.2.2 _ (List.mem_cons_self)
      · rename_i hn
        simp only [q_clob_len, List.length_set] at hn hn0
        obtain ⟨h1, h2⟩ := q_clob_lg hj
        refine h.2.2 (j, cv Z w) (List.mem_cons_of_mem _ (List.mem_filter.mpr ⟨q_asc_mem h1, ?_⟩))
        have e1 : ¬ j = i := fun e => hn ⟨e, by omega⟩
        have e0 : ¬ j = i + 1 := fun e => hn0 ⟨e, by omega⟩
        simp only [cv_cat, Bool.and_eq_true, Bool.not_eq_true', beq_eq_false_iff_ne, ne_eq, Bool.and_eq_false_iff]
        refine ⟨e1, e0, ?_⟩
        by_cases e2 : j + 1 = i
        · exact Or.inr (fun e3 => h2 ⟨e2, e3⟩)
        · exact Or.inl e2
  · cases hp
theorem lput_i {L L' : LV} {i : Nat} {v : AV} (hp : lput L i v = some L') : i < L.length := by
  unfold lput at hp
  split at hp
  · split at hp
    · assumption
    · cases hp
  · split at hp
    · omega
    · cases hp
theorem lput_i2 {L L' : LV} {i : Nat} {v : AV} (hc : q_cat v = 2) (hp : lput L i v = some L') : i + 1 < L.length := by
  unfold lput at hp
  rw [if_neg (by omega)] at hp
  split at hp
  · assumption
  · cases hp
section Q1
variable {p : Program} {l : Launch} {e : Env} {R : Room} {s : State} {m : MethodId} {args : Array Value} {below : List Frame} {meth : Method} {c : Code} {Q : State → Prop} {Z : ZZ} {D : va_G} {sc : Nat × (Nat → Int32)} {mi d pc len : Nat} {ins : Instr} {L L' : LV} {st st' : List AV} {h h' : HH} {cells slots : Nat}
def q_At (p : Program) (l : Launch) (e : Env) (R : Room) (s : State) (m : MethodId) (args : Array Value) (below : List Frame) (meth : Method) (c : Code) (Q : State → Prop) (Z : ZZ) (D : va_G) (sc : Nat × (Nat → Int32)) (h : HH) (pc : Nat) (L : LV) (st : List AV) (cells slots : Nat) : Prop :=
  ∀ (H : Heap) (locs : List Loc) (Ls : Array Slot), RL' Z L Ls → q_Wd Z D sc h s H locs → W p l e R s m args below meth c H locs cells slots Q (F0 m pc Ls (st.map (cv Z)))
set_option maxHeartbeats 4000000 in
theorem q_simL (F : q_Fx p R s m args meth c Z D sc mi d) (hd : decode (mC mi) pc = .ok (ins, len)) (hl : q_ln ins len = true) (hs : stL ins L st = some (L', st')) (k : q_At p l e R s m args below meth c Q Z D sc h (pc + len) L' st' cells slots) : q_At p l e R s m args below meth c Q Z D sc h pc L st cells slots := by
  obtain ⟨hx, hb, hml, hown, hts, hlocks, hret, hinit, hfr, hlo, hvm, hZs, hlaw, hex⟩ := F
  intro H locs Ls hL hW
  have ld : ∀ (i : Nat) (v : AV), lg L i = some v → Ls[i]? = some (.val (cv Z v)) := hL.2.2
  have hA := q_asc_has hL
  unfold stL at hs
  split at hs
  case h_1 i =>
    have e : len = 2 := by simpa [q_ln] using hl
    subst e
    unfold q_lint at hs; split at hs
    · rename_i x hx1; cases hs
      exact lv_iload hx hb hd (ld i _ hx1) (k H locs Ls hL hW)
    · cases hs
  case h_2 i =>
    have e : len = 1 := by simpa [q_ln] using hl
    subst e
    unfold q_lint at hs; split at hs
    · rename_i x hx1; cases hs
      exact lv_iload_n hx hb hd rfl (ld i _ hx1) (k H locs Ls hL hW)
    · cases hs
  case h_3 i =>
    have e : len = 2 := by simpa [q_ln] using hl
    subst e
    unfold q_llong at hs; split at hs
    · rename_i x hx1; cases hs
      exact lv_lload hx hb hd (ld i _ hx1) (k H locs Ls hL hW)
    · cases hs
  case h_4 i =>
    have e : len = 1 := by simpa [q_ln] using hl
    subst e
    unfold q_llong at hs; split at hs
    · rename_i x hx1; cases hs
      exact lv_lload_n hx hb hd rfl (ld i _ hx1) (k H locs Ls hL hW)
    · cases hs
  case h_5 i =>
    have e : len = 2 := by simpa [q_ln] using hl
    subst e
    unfold q_lref at hs; split at hs
    · rename_i r hx1
      split at hs
      · cases hs
      · rename_i hr; cases hs
        obtain ⟨a, ha⟩ := cR_pos (Z := Z) hr
        have h1 := ld i _ hx1
        have k1 := k H locs Ls hL hW
        simp only [List.map_cons, cv, ha] at h1 k1
        exact lv_aload hx hb hd h1 k1
    · cases hs
  case h_6 i =>
    have e : len = 1 := by simpa [q_ln] using hl
    subst e
    unfold q_lref at hs; split at hs
    · rename_i r hx1
      split at hs
      · cases hs
      · rename_i hr; cases hs
        obtain ⟨a, ha⟩ := cR_pos (Z := Z) hr
        have h1 := ld i _ hx1
        have k1 := k H locs Ls hL hW
        simp only [List.map_cons, cv, ha] at h1 k1
        exact lv_aload_n hx hb hd rfl h1 k1
    · cases hs
  case h_7 i =>
    have e : len = 2 := by simpa [q_ln] using hl
    subst e
    unfold q_sint at hs; split at hs
    · rename_i x st0
      cases hp : lput L i (aI x) with
      | none => rw [hp] at hs; cases hs
      | some L1 =>
        rw [hp] at hs; cases hs
        exact lv_istore hx hb hd hA (lput_i hp) rfl (fun ls hl2 => k H locs ls (q_put1 (Ls := Ls) rfl hp hl2) hW)
    · cases hs
  case h_8 i =>
    have e : len = 1 := by simpa [q_ln] using hl
    subst e
    unfold q_sint at hs; split at hs
    · rename_i x st0
      cases hp : lput L i (aI x) with
      | none => rw [hp] at hs; cases hs
      | some L1 =>
        rw [hp] at hs; cases hs
        exact lv_istore_n hx hb hd rfl hA (lput_i hp) rfl (fun ls hl2 => k H locs ls (q_put1 (Ls := Ls) rfl hp hl2) hW)
    · cases hs
  case h_9 i =>
    have e : len = 2 := by simpa [q_ln] using hl
    subst e
    unfold q_slong at hs; split at hs
    · rename_i x st0
      cases hp : lput L i (aL x) with
      | none => rw [hp] at hs; cases hs
      | some L1 =>
        rw [hp] at hs; cases hs
        exact lv_lstore hx hb hd hA (lput_i2 rfl hp) rfl (fun ls hl2 => k H locs ls (q_put2 (Ls := Ls) rfl hp hl2) hW)
    · cases hs
  case h_10 i =>
    have e : len = 1 := by simpa [q_ln] using hl
    subst e
    unfold q_slong at hs; split at hs
    · rename_i x st0
      cases hp : lput L i (aL x) with
      | none => rw [hp] at hs; cases hs
      | some L1 =>
        rw [hp] at hs; cases hs
        exact lv_lstore_n hx hb hd rfl hA (lput_i2 rfl hp) rfl (fun ls hl2 => k H locs ls (q_put2 (Ls := Ls) rfl hp hl2) hW)
    · cases hs
  case h_11 i =>
    have e : len = 2 := by simpa [q_ln] using hl
    subst e
    unfold q_sref at hs
    rcases st with _ | ⟨x | x | r, st0⟩
    · cases hs
    · cases hs
    · cases hs
    · dsimp only at hs
      split at hs
      · cases hs
      · rename_i hr
        cases hp : lput L i (aR r) with
        | none => rw [hp] at hs; cases hs
        | some L1 =>
          rw [hp] at hs; cases hs
          obtain ⟨a, ha⟩ := cR_pos (Z := Z) hr
          have h2 : (i, Value.ref a) = (i, cv Z (aR r)) := by rw [← ha]; rfl
          have h3 : cv Z (aR r) = Value.ref a := ha
          rw [List.map_cons, h3]
          refine lv_astore hx hb hd hA (lput_i hp) rfl (fun ls hl2 => k H locs ls (q_put1 (Ls := Ls) (v := aR r) rfl hp ?_) hW)
          rw [h2] at hl2
          exact hl2
  case h_12 i =>
    have e : len = 1 := by simpa [q_ln] using hl
    subst e
    unfold q_sref at hs
    rcases st with _ | ⟨x | x | r, st0⟩
    · cases hs
    · cases hs
    · cases hs
    · dsimp only at hs
      split at hs
      · cases hs
      · rename_i hr
        cases hp : lput L i (aR r) with
        | none => rw [hp] at hs; cases hs
        | some L1 =>
          rw [hp] at hs; cases hs
          obtain ⟨a, ha⟩ := cR_pos (Z := Z) hr
          have h2 : ((i : Nat), Value.ref a) = ((i : Nat), cv Z (aR r)) := by rw [← ha]; rfl
          have h3 : cv Z (aR r) = Value.ref a := ha
          rw [List.map_cons, h3]
          refine lv_astore_n hx hb hd rfl hA (lput_i hp) rfl (fun ls hl2 => k H locs ls (q_put1 (Ls := Ls) (v := aR r) rfl hp ?_) hW)
          rw [h2] at hl2
          exact hl2
  case h_13 i x =>
    have e : len = 3 := by simpa [q_ln] using hl
    subst e
    split at hs
    · rename_i y hy
      cases hp : lput L i (aI (y + x)) with
      | none => rw [hp] at hs; cases hs
      | some L1 =>
        rw [hp] at hs; cases hs
        obtain ⟨kk, hkk⟩ := List.getElem?_of_mem (q_asc_mem (Z := Z) hy)
        exact lv_iinc (v := Int32.ofInt (y + x)) hx hb hd hA hkk (by rw [Int32.ofInt_add]) (lput_i hp) rfl (fun ls hl2 => k H locs ls (q_put1 (Ls := Ls) (v := aI (y + x)) rfl hp hl2) hW)
    · cases hs
  case h_14 => cases hs
end Q1
