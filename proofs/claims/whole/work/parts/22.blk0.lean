/-! what the blocks want -/
section Q23
variable {mi d pc : Nat} {L L' : LV} {st rest : List AV} {G : GG} {c : CC} {r ci a k : Nat} {h : HH} {as : List AV} {Q : OO → HH → Prop}
theorem okR_ne (h : okR G r ci) : ¬ r = 0 := by have := h.1; omega
theorem lf_ne (ha : Life a) (j : Nat) : ¬ a + j = 0 := by
  have h : ∀ a ∈ [27, 35, 55, 63, 71, 79, 87, 95, 103, 111, 151, 174], 1 ≤ a := by decide
  have := h a ha
  omega
theorem ru_ne (ha : Ruls a) (j : Nat) : ¬ a + j = 0 := by
  have h : ∀ a ∈ [9, 18, 142, 165], 1 ≤ a := by decide
  have := h a ha
  omega
theorem se_ne (ha : Sent a) (j : Nat) : ¬ a + j = 0 := by
  have h : ∀ a ∈ [43, 48, 159, 182], 1 ≤ a := by decide
  have := h a ha
  omega
theorem tm_le (hQ : ∀ o o' h', q_eqo o o' → Q o h' → Q o' h') (hle : LeL L L') (k1 : TM d k as h (fun r h' => T (d + 1) mi pc L (r.toList ++ rest) h' Q)) : TM d k as h (fun r h' => T (d + 1) mi pc L' (r.toList ++ rest) h' Q) := by
  refine T_mono (fun o h' ho => ?_) k1
  rcases o with r | z
  · exact T_le hQ hle ho
  · exact ho
theorem TM_mono {Q1 Q2 : Option AV → HH → Prop} (hq : ∀ r h', Q1 r h' → Q2 r h') (k1 : TM d k as h Q1) : TM d k as h Q2 := by
  refine T_mono (fun o h' ho => ?_) k1
  rcases o with r | z
  · exact hq r h' ho
  · exact ho
theorem TM_eqo {Q1 : Option AV → HH → Prop} : ∀ (o o' : OO) (h' : HH), q_eqo o o' → (match o with | .inl r => Q1 r h' | .inr _ => False) → (match o' with | .inl r => Q1 r h' | .inr _ => False) := by
  intro o o' h' he ho
  rcases o with r | z
  · rcases o' with r' | z'
    · cases he; exact ho
    · cases he
  · exact ho.elim
variable {i n t len : Nat} {x v w : Int} {Q : OO → HH → Prop}
theorem e_getIx {z1 : Int} (hd : decode (mC mi) pc = .ok (.getfield i, 3)) (hp : pl (mO mi) i = some (0, ci, k, z1)) (hf : (decide (k < q_N ci) && decide (q_ft ci k ≤ 1)) = true) (ho : okR G r ci) (hx : c r k = w) (K : T d mi (pc + 3) L (aI w :: st) (G, c) Q) : T d mi pc L (aR r :: st) (G, c) Q := e_getI hd hp hf ho (by rw [hx]; exact K)
theorem e_getLx {z1 : Int} (hd : decode (mC mi) pc = .ok (.getfield i, 3)) (hp : pl (mO mi) i = some (0, ci, k, z1)) (hf : (decide (k < q_N ci) && decide (q_ft ci k = 2)) = true) (ho : okR G r ci) (hx : c r k = w) (K : T d mi (pc + 3) L (aL w :: st) (G, c) Q) : T d mi pc L (aR r :: st) (G, c) Q := e_getL hd hp hf ho (by rw [hx]; exact K)
theorem e_ialdx (hd : decode (mC mi) pc = .ok (.iaload, 1)) (ho : okR G r 20) (hn : lnR G r n) (hn2 : n ≤ 3000) (h0 : 0 ≤ x) (h1 : x < (n : Int)) (hx : c r x = w) (K : T d mi (pc + 1) L (aI w :: st) (G, c) Q) : T d mi pc L (aI x :: aR r :: st) (G, c) Q := e_iald hd ho hn hn2 h0 h1 (by rw [hx]; exact K)
theorem e_laldx (hd : decode (mC mi) pc = .ok (.laload, 1)) (ho : okR G r 21) (hn : lnR G r n) (hn2 : n ≤ 3000) (h0 : 0 ≤ x) (h1 : x < (n : Int)) (hx : c r x = w) (K : T d mi (pc + 1) L (aL w :: st) (G, c) Q) : T d mi pc L (aI x :: aR r :: st) (G, c) Q := e_lald hd ho hn hn2 h0 h1 (by rw [hx]; exact K)
theorem e_baldx (hd : decode (mC mi) pc = .ok (.baload, 1)) (ho : okR G r 22 ∨ okR G r 23) (hn : lnR G r n) (hn2 : n ≤ 3000) (h0 : 0 ≤ x) (h1 : x < (n : Int)) (hx : c r x = w) (K : T d mi (pc + 1) L (aI w :: st) (G, c) Q) : T d mi pc L (aI x :: aR r :: st) (G, c) Q := e_bald hd ho hn hn2 h0 h1 (by rw [hx]; exact K)
end Q23
