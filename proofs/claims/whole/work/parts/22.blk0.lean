/-! what the blocks want -/
section Q23
variable {mi d pc : Nat} {L L' : LV} {st rest : List AV} {G : GG} {c : CC} {r ci a k : Nat} {h : HH} {as : List AV} {Q : OO → HH → Prop}
theorem okR_ne (h : okR G r ci) : ¬ r = 0 := by have := h.1; omega
theorem lf_ne (ha : Life a) (j : Nat) : ¬ a + j = 0 := by
  have h : ∀ a ∈ [27, 35, 55, 63, 71, 79, 87, 95, 103, 111, 151, 174], 1 ≤ a := by decide
  have := h a ha
  omega
theorem ru_ne (ha : Ruls a) (j : Nat) : ¬ a + j = 0 := by
  have h : ∀ a ∈ [9, 18, 142, 165], 1 ≤ a := by decide
  have := h a ha
  omega
theorem se_ne (ha : Sent a) (j : Nat) : ¬ a + j = 0 := by
  have h : ∀ a ∈ [43, 48, 159, 182], 1 ≤ a := by decide
  have := h a ha
  omega
theorem tm_le (hQ : ∀ o o' h', q_eqo o o' → Q o h' → Q o' h') (hle : LeL L L') (k1 : TM d k as h (fun r h' => T (d + 1) mi pc L (r.toList ++ rest) h' Q)) : TM d k as h (fun r h' => T (d + 1) mi pc L' (r.toList ++ rest) h' Q) := by
  refine T_mono (fun o h' ho => ?_) k1
  rcases o with r | z
  · exact T_le hQ hle ho
  · exact ho
theorem TM_mono {Q1 Q2 : Option AV → HH → Prop} (hq : ∀ r h', Q1 r h' → Q2 r h') (k1 : TM d k as h Q1) : TM d k as h Q2 := by
  refine T_mono (fun o h' ho => ?_) k1
  rcases o with r | z
  · exact hq r h' ho
  · exact ho
theorem TM_eqo {Q1 : Option AV → HH → Prop} : ∀ (o o' : OO) (h' : HH), q_eqo o o' → (match o with | .inl r => Q1 r h' | .inr _ => False) → (match o' with | .inl r => Q1 r h' | .inr _ => False) := by
  intro o o' h' he ho
  rcases o with r | z
  · rcases o' with r' | z'
    · cases he; exact ho
    · cases he
  · exact ho.elim
variable {i n t len : Nat} {x v w : Int} {Q : OO → HH → Prop}
theorem e_getIx {z1 : Int} (hd : decode (mC mi) pc = .ok (.getfield i, 3)) (hp : pl (mO mi) i = some (0, ci, k, z1)) (hf : (decide (k < q_N ci) && decide (q_ft ci k ≤ 1)) = true) (ho : okR G r ci) (hx : c r k = w) (K : T d mi (pc + 3) L (aI w :: st) (G, c) Q) : T d mi pc L (aR r :: st) (G, c) Q := e_getI hd hp hf ho (by rw [hx]; exact K)
theorem e_getLx {z1 : Int} (hd : decode (mC mi) pc = .ok (.getfield i, 3)) (hp : pl (mO mi) i = some (0, ci, k, z1)) (hf : (decide (k < q_N ci) && decide (q_ft ci k = 2)) = true) (ho : okR G r ci) (hx : c r k = w) (K : T d mi (pc + 3) L (aL w :: st) (G, c) Q) : T d mi pc L (aR r :: st) (G, c) Q := e_getL hd hp hf ho (by rw [hx]; exact K)
theorem e_ialdx (hd : decode (mC mi) pc = .ok (.iaload, 1)) (ho : okR G r 20) (hn : lnR G r n) (hn2 : n ≤ 3000) (h0 : 0 ≤ x) (h1 : x < (n : Int)) (hx : c r x = w) (K : T d mi (pc + 1) L (aI w :: st) (G, c) Q) : T d mi pc L (aI x :: aR r :: st) (G, c) Q := e_iald hd ho hn hn2 h0 h1 (by rw [hx]; exact K)
theorem e_laldx (hd : decode (mC mi) pc = .ok (.laload, 1)) (ho : okR G r 21) (hn : lnR G r n) (hn2 : n ≤ 3000) (h0 : 0 ≤ x) (h1 : x < (n : Int)) (hx : c r x = w) (K : T d mi (pc + 1) L (aL w :: st) (G, c) Q) : T d mi pc L (aI x :: aR r :: st) (G, c) Q := e_lald hd ho hn hn2 h0 h1 (by rw [hx]; exact K)
theorem e_baldx (hd : decode (mC mi) pc = .ok (.baload, 1)) (ho : okR G r 22 ∨ okR G r 23) (hn : lnR G r n) (hn2 : n ≤ 3000) (h0 : 0 ≤ x) (h1 : x < (n : Int)) (hx : c r x = w) (K : T d mi (pc + 1) L (aI w :: st) (G, c) Q) : T d mi pc L (aI x :: aR r :: st) (G, c) Q := e_bald hd ho hn hn2 h0 h1 (by rw [hx]; exact K)
theorem e_X (hd : decode (mC mi) pc = .ok (.new i, 3)) (hp : (match pl (mO mi) i with | some (t, _, _, _) => decide (t = 17) | none => false) = true) (hx : stX mi pc (.new i) [] = true) (K : Q (.inr (pc, L)) (G, c)) : T d mi pc L [] (G, c) Q := by
  refine ⟨1, .inr (pc, L), (G, c), ?_, K⟩
  have h4 : stH mi (.new i) [] (G, c) = none := by
    unfold stH
    dsimp only
    split at hp
    · rename_i t z1 z2 z3 hq
      rw [hq]
      dsimp only
      have ht : t = 17 := of_decide_eq_true hp
      rw [if_neg (by omega)]
    · cases hp
  unfold ev
  rw [hd]
  dsimp only
  rw [if_neg (show ¬ q_ln (.new i) 3 = false by simp [q_ln]), show stL (.new i) L [] = none from rfl]
  dsimp only
  rw [show stP (.new i) [] = none from rfl]
  dsimp only
  rw [show stJ (.new i) pc [] = none from rfl]
  dsimp only
  rw [h4]
  dsimp only
  rw [show stR mi (.new i) [] = none from rfl]
  dsimp only
  rw [show stC mi (.new i) [] = none from rfl]
  dsimp only
  rw [if_pos hx]
theorem e_nn {off : Int} (hd : decode (mC mi) pc = .ok (.ifnonnull off, 3)) (ht : q_tgt pc off = some t) (hr : ¬ r = 0) (K : T d mi t L st (G, c) Q) : T d mi pc L (aR r :: st) (G, c) Q := by
  refine e_J (pc' := t) (st' := st) hd rfl rfl rfl ?_ K
  show (if r = 0 then none else (q_tgt pc off).map (fun t => (t, st))) = _
  rw [if_neg hr, ht]
  rfl
theorem e_nul {off : Int} (hd : decode (mC mi) pc = .ok (.ifnull off, 3)) (hr : ¬ r = 0) (K : T d mi (pc + 3) L st (G, c) Q) : T d mi pc L (aR r :: st) (G, c) Q := by
  refine e_J (pc' := pc + 3) (st' := st) hd rfl rfl rfl ?_ K
  show (if r = 0 then none else some (pc + 3, st)) = _
  rw [if_neg hr]
end Q23
