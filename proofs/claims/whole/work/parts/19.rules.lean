/-! the rules of the triples, an instruction a rule -/
section Q20
variable {mi d pc t len : Nat} {L L' : LV} {st st' : List AV} {G : GG} {c : CC} {r ci k i : Nat} {x y v : Int} {off : Int} {Q : OO → HH → Prop}
def okR (G : GG) (r ci : Nat) : Prop := 1 ≤ r ∧ r ≤ G.1 ∧ r < 3000 ∧ (G.2.2.1 r).1 = ci
def lnR (G : GG) (r n : Nat) : Prop := (G.2.2.1 r).2 = n
def rfR (G : GG) (r k v : Nat) : Prop := G.2.2.2.1 r k = v
theorem okR_ok (h : okR G r ci) : q_ok (G, c) r ci = true := by
  obtain ⟨h1, h2, h3, h4⟩ := h
  unfold q_ok
  rw [decide_eq_true h1, decide_eq_true (show r ≤ gN (G, c) from h2), decide_eq_true h3, decide_eq_true (show (gS (G, c) r).1 = ci from h4)]
  rfl
theorem lnR_ix {n : Nat} (h : lnR G r n) (h0 : 0 ≤ x) (h1 : x < (n : Int)) (hn : n ≤ 3000) : q_ix (G, c) r x = true := by
  unfold q_ix
  have h2 : x < ((gS (G, c) r).2 : Int) := by
    show x < ((G.2.2.1 r).2 : Int)
    rw [show (G.2.2.1 r).2 = n from h]
    exact h1
  rw [decide_eq_true h0, decide_eq_true h2, decide_eq_true (show x < 3000 by omega)]
  rfl
theorem ok_ne {ci' : Nat} (h : okR G r ci) (hne : ¬ ci = ci') : q_ok (G, c) r ci' = false := by
  unfold q_ok
  have h4 : (gS (G, c) r).1 = ci := h.2.2.2
  rw [decide_eq_false (show ¬ (gS (G, c) r).1 = ci' by rw [h4]; exact hne)]
  simp
theorem okR_S (h : okR G r ci) : ¬ r = q_S := by
  have := h.2.2.1
  show ¬ r = 1000000
  omega
theorem qin_of (h : -2147483648 ≤ x ∧ x < 2147483648) : q_in x = true := q_in_of h.1 h.2
/-! branches -/
theorem e_if2 {cn : ClassFile.Cond} (hd : decode (mC mi) pc = .ok (.if_icmp cn off, 3)) (ht : q_tgt pc off = some t) (ix : -2147483648 ≤ x ∧ x < 2147483648) (iy : -2147483648 ≤ y ∧ y < 2147483648) (k1 : q_cmp cn x y = true → T d mi t L st (G, c) Q) (k2 : ¬ q_cmp cn x y = true → T d mi (pc + 3) L st (G, c) Q) : T d mi pc L (aI y :: aI x :: st) (G, c) Q := by
  by_cases hq : q_cmp cn x y = true
  · refine e_J (pc' := t) (st' := st) hd rfl rfl rfl ?_ (k1 hq)
    show (if (q_in x && q_in y) = true then (q_tgt pc off).map (fun t => (if q_cmp cn x y = true then t else pc + 3, st)) else none) = _
    rw [if_pos (by rw [qin_of ix, qin_of iy]; rfl), ht, Option.map_some, if_pos hq]
  · refine e_J (pc' := pc + 3) (st' := st) hd rfl rfl rfl ?_ (k2 hq)
    show (if (q_in x && q_in y) = true then (q_tgt pc off).map (fun t => (if q_cmp cn x y = true then t else pc + 3, st)) else none) = _
    rw [if_pos (by rw [qin_of ix, qin_of iy]; rfl), ht, Option.map_some, if_neg hq]
theorem e_if1 {cn : ClassFile.Cond} (hd : decode (mC mi) pc = .ok (.ifCond cn off, 3)) (ht : q_tgt pc off = some t) (ix : -2147483648 ≤ x ∧ x < 2147483648) (k1 : q_cmp cn x 0 = true → T d mi t L st (G, c) Q) (k2 : ¬ q_cmp cn x 0 = true → T d mi (pc + 3) L st (G, c) Q) : T d mi pc L (aI x :: st) (G, c) Q := by
  by_cases hq : q_cmp cn x 0 = true
  · refine e_J (pc' := t) (st' := st) hd rfl rfl rfl ?_ (k1 hq)
    show (if q_in x = true then (q_tgt pc off).map (fun t => (if q_cmp cn x 0 = true then t else pc + 3, st)) else none) = _
    rw [if_pos (qin_of ix), ht, Option.map_some, if_pos hq]
  · refine e_J (pc' := pc + 3) (st' := st) hd rfl rfl rfl ?_ (k2 hq)
    show (if q_in x = true then (q_tgt pc off).map (fun t => (if q_cmp cn x 0 = true then t else pc + 3, st)) else none) = _
    rw [if_pos (qin_of ix), ht, Option.map_some, if_neg hq]
theorem e_go (hd : decode (mC mi) pc = .ok (.goto off, 3)) (ht : q_tgt pc off = some t) (k : T d mi t L st (G, c) Q) : T d mi pc L st (G, c) Q := by
  refine e_J (pc' := t) (st' := st) hd rfl rfl rfl ?_ k
  show (q_tgt pc off).map (fun t => (t, st)) = _
  rw [ht]
  rfl
theorem e_eq1 (hd : decode (mC mi) pc = .ok (.ifCond .eq off, 3)) (ht : q_tgt pc off = some t) (ix : -2147483648 ≤ x ∧ x < 2147483648) (k1 : x = 0 → T d mi t L st (G, c) Q) (k2 : ¬ x = 0 → T d mi (pc + 3) L st (G, c) Q) : T d mi pc L (aI x :: st) (G, c) Q :=
  e_if1 hd ht ix (fun h => k1 (of_decide_eq_true h)) (fun h => k2 (by have h2 : ¬ (x = 0) := fun z => h (decide_eq_true z); omega))
theorem e_eq2 (hd : decode (mC mi) pc = .ok (.if_icmp .eq off, 3)) (ht : q_tgt pc off = some t) (ix : -2147483648 ≤ x ∧ x < 2147483648) (iy : -2147483648 ≤ y ∧ y < 2147483648) (k1 : x = y → T d mi t L st (G, c) Q) (k2 : ¬ x = y → T d mi (pc + 3) L st (G, c) Q) : T d mi pc L (aI y :: aI x :: st) (G, c) Q :=
  e_if2 hd ht ix iy (fun h => k1 (of_decide_eq_true h)) (fun h => k2 (by have h2 : ¬ (x = y) := fun z => h (decide_eq_true z); omega))
theorem e_ne1 (hd : decode (mC mi) pc = .ok (.ifCond .ne off, 3)) (ht : q_tgt pc off = some t) (ix : -2147483648 ≤ x ∧ x < 2147483648) (k1 : ¬ x = 0 → T d mi t L st (G, c) Q) (k2 : x = 0 → T d mi (pc + 3) L st (G, c) Q) : T d mi pc L (aI x :: st) (G, c) Q :=
  e_if1 hd ht ix (fun h => k1 (of_decide_eq_true h)) (fun h => k2 (by have h2 : ¬ (¬ x = 0) := fun z => h (decide_eq_true z); omega))
theorem e_ne2 (hd : decode (mC mi) pc = .ok (.if_icmp .ne off, 3)) (ht : q_tgt pc off = some t) (ix : -2147483648 ≤ x ∧ x < 2147483648) (iy : -2147483648 ≤ y ∧ y < 2147483648) (k1 : ¬ x = y → T d mi t L st (G, c) Q) (k2 : x = y → T d mi (pc + 3) L st (G, c) Q) : T d mi pc L (aI y :: aI x :: st) (G, c) Q :=
  e_if2 hd ht ix iy (fun h => k1 (of_decide_eq_true h)) (fun h => k2 (by have h2 : ¬ (¬ x = y) := fun z => h (decide_eq_true z); omega))
theorem e_lt1 (hd : decode (mC mi) pc = .ok (.ifCond .lt off, 3)) (ht : q_tgt pc off = some t) (ix : -2147483648 ≤ x ∧ x < 2147483648) (k1 : x < 0 → T d mi t L st (G, c) Q) (k2 : 0 ≤ x → T d mi (pc + 3) L st (G, c) Q) : T d mi pc L (aI x :: st) (G, c) Q :=
  e_if1 hd ht ix (fun h => k1 (of_decide_eq_true h)) (fun h => k2 (by have h2 : ¬ (x < 0) := fun z => h (decide_eq_true z); omega))
theorem e_lt2 (hd : decode (mC mi) pc = .ok (.if_icmp .lt off, 3)) (ht : q_tgt pc off = some t) (ix : -2147483648 ≤ x ∧ x < 2147483648) (iy : -2147483648 ≤ y ∧ y < 2147483648) (k1 : x < y → T d mi t L st (G, c) Q) (k2 : y ≤ x → T d mi (pc + 3) L st (G, c) Q) : T d mi pc L (aI y :: aI x :: st) (G, c) Q :=
  e_if2 hd ht ix iy (fun h => k1 (of_decide_eq_true h)) (fun h => k2 (by have h2 : ¬ (x < y) := fun z => h (decide_eq_true z); omega))
theorem e_ge1 (hd : decode (mC mi) pc = .ok (.ifCond .ge off, 3)) (ht : q_tgt pc off = some t) (ix : -2147483648 ≤ x ∧ x < 2147483648) (k1 : 0 ≤ x → T d mi t L st (G, c) Q) (k2 : x < 0 → T d mi (pc + 3) L st (G, c) Q) : T d mi pc L (aI x :: st) (G, c) Q :=
  e_if1 hd ht ix (fun h => k1 (of_decide_eq_true h)) (fun h => k2 (by have h2 : ¬ (0 ≤ x) := fun z => h (decide_eq_true z); omega))
theorem e_ge2 (hd : decode (mC mi) pc = .ok (.if_icmp .ge off, 3)) (ht : q_tgt pc off = some t) (ix : -2147483648 ≤ x ∧ x < 2147483648) (iy : -2147483648 ≤ y ∧ y < 2147483648) (k1 : y ≤ x → T d mi t L st (G, c) Q) (k2 : x < y → T d mi (pc + 3) L st (G, c) Q) : T d mi pc L (aI y :: aI x :: st) (G, c) Q :=
  e_if2 hd ht ix iy (fun h => k1 (of_decide_eq_true h)) (fun h => k2 (by have h2 : ¬ (y ≤ x) := fun z => h (decide_eq_true z); omega))
theorem e_gt1 (hd : decode (mC mi) pc = .ok (.ifCond .gt off, 3)) (ht : q_tgt pc off = some t) (ix : -2147483648 ≤ x ∧ x < 2147483648) (k1 : 0 < x → T d mi t L st (G, c) Q) (k2 : x ≤ 0 → T d mi (pc + 3) L st (G, c) Q) : T d mi pc L (aI x :: st) (G, c) Q :=
  e_if1 hd ht ix (fun h => k1 (of_decide_eq_true h)) (fun h => k2 (by have h2 : ¬ (0 < x) := fun z => h (decide_eq_true z); omega))
theorem e_gt2 (hd : decode (mC mi) pc = .ok (.if_icmp .gt off, 3)) (ht : q_tgt pc off = some t) (ix : -2147483648 ≤ x ∧ x < 2147483648) (iy : -2147483648 ≤ y ∧ y < 2147483648) (k1 : y < x → T d mi t L st (G, c) Q) (k2 : x ≤ y → T d mi (pc + 3) L st (G, c) Q) : T d mi pc L (aI y :: aI x :: st) (G, c) Q :=
  e_if2 hd ht ix iy (fun h => k1 (of_decide_eq_true h)) (fun h => k2 (by have h2 : ¬ (y < x) := fun z => h (decide_eq_true z); omega))
theorem e_le1 (hd : decode (mC mi) pc = .ok (.ifCond .le off, 3)) (ht : q_tgt pc off = some t) (ix : -2147483648 ≤ x ∧ x < 2147483648) (k1 : x ≤ 0 → T d mi t L st (G, c) Q) (k2 : 0 < x → T d mi (pc + 3) L st (G, c) Q) : T d mi pc L (aI x :: st) (G, c) Q :=
  e_if1 hd ht ix (fun h => k1 (of_decide_eq_true h)) (fun h => k2 (by have h2 : ¬ (x ≤ 0) := fun z => h (decide_eq_true z); omega))
theorem e_le2 (hd : decode (mC mi) pc = .ok (.if_icmp .le off, 3)) (ht : q_tgt pc off = some t) (ix : -2147483648 ≤ x ∧ x < 2147483648) (iy : -2147483648 ≤ y ∧ y < 2147483648) (k1 : x ≤ y → T d mi t L st (G, c) Q) (k2 : y < x → T d mi (pc + 3) L st (G, c) Q) : T d mi pc L (aI y :: aI x :: st) (G, c) Q :=
  e_if2 hd ht ix iy (fun h => k1 (of_decide_eq_true h)) (fun h => k2 (by have h2 : ¬ (x ≤ y) := fun z => h (decide_eq_true z); omega))
/-! fields -/
theorem e_get {z1 : Int} {w : AV} (hd : decode (mC mi) pc = .ok (.getfield i, 3)) (hp : pl (mO mi) i = some (0, ci, k, z1)) (hk : k < q_N ci) (ho : okR G r ci) (hw : (if q_ft ci k = 3 then aR (gF (G, c) r k) else if q_ft ci k = 2 then aL (c r k) else aI (c r k)) = w) (K : T d mi (pc + 3) L (w :: st) (G, c) Q) : T d mi pc L (aR r :: st) (G, c) Q := by
  refine e_H (st' := w :: st) (h' := (G, c)) hd rfl rfl rfl rfl ?_ K
  show q_get mi i r st (G, c) = _
  unfold q_get
  rw [hp]
  dsimp only
  rw [if_pos ⟨rfl, hk, okR_ok ho⟩, ← hw]
theorem e_getI {z1 : Int} (hd : decode (mC mi) pc = .ok (.getfield i, 3)) (hp : pl (mO mi) i = some (0, ci, k, z1)) (hf : (decide (k < q_N ci) && decide (q_ft ci k ≤ 1)) = true) (ho : okR G r ci) (K : T d mi (pc + 3) L (aI (c r k) :: st) (G, c) Q) : T d mi pc L (aR r :: st) (G, c) Q := by
  obtain ⟨h1, h2⟩ := q_bool2 hf
  have h3 : q_ft ci k ≤ 1 := of_decide_eq_true h2
  exact e_get hd hp (of_decide_eq_true h1) ho (by rw [if_neg (by omega), if_neg (by omega)]) K
theorem e_getL {z1 : Int} (hd : decode (mC mi) pc = .ok (.getfield i, 3)) (hp : pl (mO mi) i = some (0, ci, k, z1)) (hf : (decide (k < q_N ci) && decide (q_ft ci k = 2)) = true) (ho : okR G r ci) (K : T d mi (pc + 3) L (aL (c r k) :: st) (G, c) Q) : T d mi pc L (aR r :: st) (G, c) Q := by
  obtain ⟨h1, h2⟩ := q_bool2 hf
  have h3 : q_ft ci k = 2 := of_decide_eq_true h2
  exact e_get hd hp (of_decide_eq_true h1) ho (by rw [if_neg (by omega), if_pos h3]) K
theorem e_getR {z1 : Int} {w : Nat} (hd : decode (mC mi) pc = .ok (.getfield i, 3)) (hp : pl (mO mi) i = some (0, ci, k, z1)) (hf : (decide (k < q_N ci) && decide (q_ft ci k = 3)) = true) (ho : okR G r ci) (hr : rfR G r k w) (K : T d mi (pc + 3) L (aR w :: st) (G, c) Q) : T d mi pc L (aR r :: st) (G, c) Q := by
  obtain ⟨h1, h2⟩ := q_bool2 hf
  have h3 : q_ft ci k = 3 := of_decide_eq_true h2
  exact e_get hd hp (of_decide_eq_true h1) ho (by rw [if_pos h3]; exact congrArg aR hr) K
theorem e_putI {z1 : Int} (hd : decode (mC mi) pc = .ok (.putfield i, 3)) (hp : pl (mO mi) i = some (0, ci, k, z1)) (hf : (decide (k < q_N ci) && decide (q_ft ci k = 0) && !(q_fin ci k)) = true) (ho : okR G r ci) (K : T d mi (pc + 3) L st (G, q_up c r k x) Q) : T d mi pc L (aI x :: aR r :: st) (G, c) Q := by
  obtain ⟨h1, h2⟩ := q_bool2 hf
  obtain ⟨h1, h3⟩ := q_bool2 h1
  refine e_H (st' := st) (h' := (G, q_up c r k x)) hd rfl rfl rfl rfl ?_ K
  show q_put mi i (aI x) r st (G, c) = _
  unfold q_put
  rw [hp]
  dsimp only
  rw [if_pos ⟨rfl, of_decide_eq_true h1, okR_ok ho, Or.inl (by simpa using h2)⟩]
  rw [if_pos (Or.inl (of_decide_eq_true h3))]
  rfl
theorem e_putZ {z1 : Int} (hd : decode (mC mi) pc = .ok (.putfield i, 3)) (hp : pl (mO mi) i = some (0, ci, k, z1)) (hf : (decide (k < q_N ci) && decide (q_ft ci k = 1) && !(q_fin ci k)) = true) (ho : okR G r ci) (hx : x = 0 ∨ x = 1) (K : T d mi (pc + 3) L st (G, q_up c r k x) Q) : T d mi pc L (aI x :: aR r :: st) (G, c) Q := by
  obtain ⟨h1, h2⟩ := q_bool2 hf
  obtain ⟨h1, h3⟩ := q_bool2 h1
  refine e_H (st' := st) (h' := (G, q_up c r k x)) hd rfl rfl rfl rfl ?_ K
  show q_put mi i (aI x) r st (G, c) = _
  unfold q_put
  rw [hp]
  dsimp only
  rw [if_pos ⟨rfl, of_decide_eq_true h1, okR_ok ho, Or.inl (by simpa using h2)⟩]
  rw [if_pos (Or.inr ⟨of_decide_eq_true h3, hx⟩)]
  rfl
theorem e_putL {z1 : Int} (hd : decode (mC mi) pc = .ok (.putfield i, 3)) (hp : pl (mO mi) i = some (0, ci, k, z1)) (hf : (decide (k < q_N ci) && decide (q_ft ci k = 2) && !(q_fin ci k)) = true) (ho : okR G r ci) (K : T d mi (pc + 3) L st (G, q_up c r k x) Q) : T d mi pc L (aL x :: aR r :: st) (G, c) Q := by
  obtain ⟨h1, h2⟩ := q_bool2 hf
  obtain ⟨h1, h3⟩ := q_bool2 h1
  refine e_H (st' := st) (h' := (G, q_up c r k x)) hd rfl rfl rfl rfl ?_ K
  show q_put mi i (aL x) r st (G, c) = _
  unfold q_put
  rw [hp]
  dsimp only
  rw [if_pos ⟨rfl, of_decide_eq_true h1, okR_ok ho, Or.inl (by simpa using h2)⟩]
  rw [if_pos (of_decide_eq_true h3)]
  rfl
/-! arrays -/
variable {n : Nat}
theorem e_iald (hd : decode (mC mi) pc = .ok (.iaload, 1)) (ho : okR G r 20) (hn : lnR G r n) (hn2 : n ≤ 3000) (h0 : 0 ≤ x) (h1 : x < (n : Int)) (K : T d mi (pc + 1) L (aI (c r x) :: st) (G, c) Q) : T d mi pc L (aI x :: aR r :: st) (G, c) Q := by
  refine e_H (st' := aI (c r x) :: st) (h' := (G, c)) hd rfl rfl rfl rfl ?_ K
  unfold stH
  dsimp only
  rw [if_neg (okR_S ho), if_pos (by rw [okR_ok ho, lnR_ix hn h0 h1 hn2]; rfl)]
theorem e_lald (hd : decode (mC mi) pc = .ok (.laload, 1)) (ho : okR G r 21) (hn : lnR G r n) (hn2 : n ≤ 3000) (h0 : 0 ≤ x) (h1 : x < (n : Int)) (K : T d mi (pc + 1) L (aL (c r x) :: st) (G, c) Q) : T d mi pc L (aI x :: aR r :: st) (G, c) Q := by
  refine e_H (st' := aL (c r x) :: st) (h' := (G, c)) hd rfl rfl rfl rfl ?_ K
  unfold stH
  dsimp only
  rw [if_pos (by rw [okR_ok ho, lnR_ix hn h0 h1 hn2]; rfl)]
theorem e_bald (hd : decode (mC mi) pc = .ok (.baload, 1)) (ho : okR G r 22 ∨ okR G r 23) (hn : lnR G r n) (hn2 : n ≤ 3000) (h0 : 0 ≤ x) (h1 : x < (n : Int)) (K : T d mi (pc + 1) L (aI (c r x) :: st) (G, c) Q) : T d mi pc L (aI x :: aR r :: st) (G, c) Q := by
  refine e_H (st' := aI (c r x) :: st) (h' := (G, c)) hd rfl rfl rfl rfl ?_ K
  unfold stH
  dsimp only
  rw [if_pos (by rw [lnR_ix hn h0 h1 hn2]; rcases ho with ho | ho <;> simp [okR_ok ho])]
theorem e_aald {w : Nat} (hd : decode (mC mi) pc = .ok (.aaload, 1)) (ho : okR G r 24 ∨ okR G r 25) (hn : lnR G r n) (hn2 : n ≤ 3000) (h0 : 0 ≤ x) (h1 : x < (n : Int)) (hw : rfR G r x.toNat w) (K : T d mi (pc + 1) L (aR w :: st) (G, c) Q) : T d mi pc L (aI x :: aR r :: st) (G, c) Q := by
  refine e_H (st' := aR w :: st) (h' := (G, c)) hd rfl rfl rfl rfl ?_ K
  unfold stH
  dsimp only
  rw [if_pos (by rw [lnR_ix hn h0 h1 hn2]; rcases ho with ho | ho <;> simp [okR_ok ho])]
  rw [show gF (G, c) r x.toNat = w from hw]
theorem e_iast (hd : decode (mC mi) pc = .ok (.iastore, 1)) (ho : okR G r 20) (hn : lnR G r n) (hn2 : n ≤ 3000) (h0 : 0 ≤ x) (h1 : x < (n : Int)) (K : T d mi (pc + 1) L st (G, q_up c r x v) Q) : T d mi pc L (aI v :: aI x :: aR r :: st) (G, c) Q := by
  refine e_H (st' := st) (h' := (G, q_up c r x v)) hd rfl rfl rfl rfl ?_ K
  unfold stH
  dsimp only
  rw [if_pos (by rw [okR_ok ho, lnR_ix hn h0 h1 hn2]; rfl)]
  rfl
theorem e_last (hd : decode (mC mi) pc = .ok (.lastore, 1)) (ho : okR G r 21) (hn : lnR G r n) (hn2 : n ≤ 3000) (h0 : 0 ≤ x) (h1 : x < (n : Int)) (K : T d mi (pc + 1) L st (G, q_up c r x v) Q) : T d mi pc L (aL v :: aI x :: aR r :: st) (G, c) Q := by
  refine e_H (st' := st) (h' := (G, q_up c r x v)) hd rfl rfl rfl rfl ?_ K
  unfold stH
  dsimp only
  rw [if_pos (by rw [okR_ok ho, lnR_ix hn h0 h1 hn2]; rfl)]
  rfl
theorem e_bast {ki : Nat} (hd : decode (mC mi) pc = .ok (.bastore, 1)) (ho : okR G r ki) (hki : ki = 22 ∨ ki = 23) (hn : lnR G r n) (hn2 : n ≤ 3000) (h0 : 0 ≤ x) (h1 : x < (n : Int)) (K : T d mi (pc + 1) L st (G, q_up c r x (q_nar ki v)) Q) : T d mi pc L (aI v :: aI x :: aR r :: st) (G, c) Q := by
  refine e_H (st' := st) (h' := (G, q_up c r x (q_nar ki v))) hd rfl rfl rfl rfl ?_ K
  unfold stH
  dsimp only
  rw [if_pos (by rw [lnR_ix hn h0 h1 hn2]; rcases hki with rfl | rfl <;> simp [okR_ok ho])]
  rw [show (gS (G, c) r).1 = ki from ho.2.2.2]
  rfl
theorem e_alen {ki : Nat} (hd : decode (mC mi) pc = .ok (.arraylength, 1)) (ho : okR G r ki) (hki : 20 ≤ ki ∧ ki ≤ 25) (hn : lnR G r n) (K : T d mi (pc + 1) L (aI (n : Int) :: st) (G, c) Q) : T d mi pc L (aR r :: st) (G, c) Q := by
  refine e_H (st' := aI (n : Int) :: st) (h' := (G, c)) hd rfl rfl rfl rfl ?_ K
  unfold stH
  dsimp only
  have hk : ki = 20 ∨ ki = 21 ∨ ki = 22 ∨ ki = 23 ∨ ki = 24 ∨ ki = 25 := by omega
  rw [if_neg (okR_S ho), if_pos (by rcases hk with rfl | rfl | rfl | rfl | rfl | rfl <;> simp [okR_ok ho])]
  rw [show (gS (G, c) r).2 = n from hn]
/-! constants, Math, arraycopy -/
theorem e_ldc {z1 z2 : Nat} (hd : decode (mC mi) pc = .ok (.ldc i, 2)) (hp : pl (mO mi) i = some (8, z1, z2, v)) (K : T d mi (pc + 2) L (aI v :: st) (G, c) Q) : T d mi pc L st (G, c) Q := by
  refine e_H (st' := aI v :: st) (h' := (G, c)) hd rfl rfl rfl rfl ?_ K
  unfold stH
  dsimp only
  rw [hp]
  rfl
theorem e_ldcw {z1 z2 : Nat} (hd : decode (mC mi) pc = .ok (.ldc_w i, 3)) (hp : pl (mO mi) i = some (8, z1, z2, v)) (K : T d mi (pc + 3) L (aI v :: st) (G, c) Q) : T d mi pc L st (G, c) Q := by
  refine e_H (st' := aI v :: st) (h' := (G, c)) hd rfl rfl rfl rfl ?_ K
  unfold stH
  dsimp only
  rw [hp]
  rfl
theorem e_ldc2 {z1 z2 : Nat} (hd : decode (mC mi) pc = .ok (.ldc2_w i, 3)) (hp : pl (mO mi) i = some (9, z1, z2, v)) (K : T d mi (pc + 3) L (aL v :: st) (G, c) Q) : T d mi pc L st (G, c) Q := by
  refine e_H (st' := aL v :: st) (h' := (G, c)) hd rfl rfl rfl rfl ?_ K
  unfold stH
  dsimp only
  rw [hp]
  rfl
theorem e_max {z1 z2 : Nat} {z3 : Int} (hd : decode (mC mi) pc = .ok (.invokestatic i, 3)) (hp : pl (mO mi) i = some (15, z1, z2, z3)) (ix : -2147483648 ≤ x ∧ x < 2147483648) (iy : -2147483648 ≤ y ∧ y < 2147483648) (hs : q_csum st ≤ 20) (K : T d mi (pc + 3) L (aI (if x < y then y else x) :: st) (G, c) Q) : T d mi pc L (aI y :: aI x :: st) (G, c) Q := by
  refine e_H (st' := aI (if x < y then y else x) :: st) (h' := (G, c)) hd rfl rfl rfl rfl ?_ K
  unfold stH
  dsimp only
  rw [hp]
  dsimp only
  rw [if_neg (by decide), if_neg (by decide), if_pos (by decide)]
  rw [if_pos (by rw [qin_of ix, qin_of iy, decide_eq_true hs]; rfl)]
  rfl
theorem e_min {z1 z2 : Nat} {z3 : Int} (hd : decode (mC mi) pc = .ok (.invokestatic i, 3)) (hp : pl (mO mi) i = some (16, z1, z2, z3)) (ix : -2147483648 ≤ x ∧ x < 2147483648) (iy : -2147483648 ≤ y ∧ y < 2147483648) (hs : q_csum st ≤ 20) (K : T d mi (pc + 3) L (aI (if y < x then y else x) :: st) (G, c) Q) : T d mi pc L (aI y :: aI x :: st) (G, c) Q := by
  refine e_H (st' := aI (if y < x then y else x) :: st) (h' := (G, c)) hd rfl rfl rfl rfl ?_ K
  unfold stH
  dsimp only
  rw [hp]
  dsimp only
  rw [if_neg (by decide), if_neg (by decide), if_pos (by decide)]
  rw [if_pos (by rw [qin_of ix, qin_of iy, decide_eq_true hs]; rfl)]
  rfl
theorem e_acp {a b' n2 : Nat} {sp dp m : Int} {z1 z2 : Nat} {z3 : Int} (hd : decode (mC mi) pc = .ok (.invokestatic i, 3)) (hp : pl (mO mi) i = some (10, z1, z2, z3)) (ho : (okR G a 20 ∧ okR G b' 20) ∨ (okR G a 21 ∧ okR G b' 21)) (hn : lnR G a n) (hn2 : lnR G b' n2) (hq : 0 ≤ m ∧ 0 ≤ dp ∧ 0 ≤ sp ∧ sp + m ≤ (n : Int) ∧ dp + m ≤ (n2 : Int) ∧ m < 3000 ∧ sp < 3000 ∧ dp < 3000) (hs : q_csum st ≤ 20) (K : T d mi (pc + 3) L st (G, q_uf c b' (q_cp (c a) (c b') sp dp m)) Q) : T d mi pc L (aI m :: aI dp :: aR b' :: aI sp :: aR a :: st) (G, c) Q := by
  refine e_H (st' := st) (h' := (G, q_uf c b' (q_cp (c a) (c b') sp dp m))) hd rfl rfl rfl rfl ?_ K
  unfold stH
  dsimp only
  rw [hp]
  dsimp only
  rw [if_pos rfl]
  unfold q_ac
  dsimp only
  have h1 : (gS (G, c) a).2 = n := hn
  have h2 : (gS (G, c) b').2 = n2 := hn2
  have h3 : (q_ok (G, c) a 20 = true ∧ q_ok (G, c) b' 20 = true) ∨ (q_ok (G, c) a 21 = true ∧ q_ok (G, c) b' 21 = true) := ho.elim (fun z => Or.inl ⟨okR_ok z.1, okR_ok z.2⟩) (fun z => Or.inr ⟨okR_ok z.1, okR_ok z.2⟩)
  rw [h1, h2, if_pos ⟨h3, hq.1, hq.2.1, hq.2.2.1, hq.2.2.2.1, hq.2.2.2.2.1, hq.2.2.2.2.2.1, hq.2.2.2.2.2.2.1, hq.2.2.2.2.2.2.2, hs⟩]
  rfl
/-! ends -/
theorem e_vret (hd : decode (mC mi) pc = .ok (.return_, 1)) (hr : mR mi = none) (K : Q (.inl none) (G, c)) : T d mi pc L [] (G, c) Q :=
  e_R hd rfl rfl rfl rfl rfl (x := none) (by show (if mR mi = none then some none else none) = _; rw [if_pos hr]) K
theorem e_iret (hd : decode (mC mi) pc = .ok (.ireturn, 1)) (hr : mR mi = some .int) (K : Q (.inl (some (aI x))) (G, c)) : T d mi pc L [aI x] (G, c) Q :=
  e_R hd rfl rfl rfl rfl rfl (x := some (aI x)) (by show (if mR mi = some .int ∨ (mR mi = some .boolean ∧ (x = 0 ∨ x = 1)) then some (some (aI x)) else none) = _; rw [if_pos (Or.inl hr)]) K
theorem e_zret (hd : decode (mC mi) pc = .ok (.ireturn, 1)) (hr : mR mi = some .boolean) (hx : x = 0 ∨ x = 1) (K : Q (.inl (some (aI x))) (G, c)) : T d mi pc L [aI x] (G, c) Q :=
  e_R hd rfl rfl rfl rfl rfl (x := some (aI x)) (by show (if mR mi = some .int ∨ (mR mi = some .boolean ∧ (x = 0 ∨ x = 1)) then some (some (aI x)) else none) = _; rw [if_pos (Or.inr ⟨hr, hx⟩)]) K
theorem e_lret (hd : decode (mC mi) pc = .ok (.lreturn, 1)) (hr : mR mi = some .long) (K : Q (.inl (some (aL x))) (G, c)) : T d mi pc L [aL x] (G, c) Q :=
  e_R hd rfl rfl rfl rfl rfl (x := some (aL x)) (by show (if mR mi = some .long then some (some (aL x)) else none) = _; rw [if_pos hr]) K
end Q20
