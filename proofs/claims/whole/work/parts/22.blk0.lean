/-! what the blocks want -/
section Q23
variable {mi d pc : Nat} {L L' : LV} {st rest : List AV} {G : GG} {c : CC} {r ci a k : Nat} {h : HH} {as : List AV} {Q : OO → HH → Prop}
theorem okR_ne (h : okR G r ci) : ¬ r = 0 := by have := h.1; omega
theorem lf_ne (ha : Life a) (j : Nat) : ¬ a + j = 0 := by
  have h : ∀ a ∈ [27, 35, 55, 63, 71, 79, 87, 95, 103, 111, 151, 174], 1 ≤ a := by decide
  have := h a ha
  omega
theorem ru_ne (ha : Ruls a) (j : Nat) : ¬ a + j = 0 := by
  have h : ∀ a ∈ [9, 18, 142, 165], 1 ≤ a := by decide
  have := h a ha
  omega
theorem se_ne (ha : Sent a) (j : Nat) : ¬ a + j = 0 := by
  have h : ∀ a ∈ [43, 48, 159, 182], 1 ≤ a := by decide
  have := h a ha
  omega
theorem tm_le (hQ : ∀ o o' h', q_eqo o o' → Q o h' → Q o' h') (hle : LeL L L') (k1 : TM d k as h (fun r h' => T (d + 1) mi pc L (r.toList ++ rest) h' Q)) : TM d k as h (fun r h' => T (d + 1) mi pc L' (r.toList ++ rest) h' Q) := by
  refine T_mono (fun o h' ho => ?_) k1
  rcases o with r | z
  · exact T_le hQ hle ho
  · exact ho
theorem TM_mono {Q1 Q2 : Option AV → HH → Prop} (hq : ∀ r h', Q1 r h' → Q2 r h') (k1 : TM d k as h Q1) : TM d k as h Q2 := by
  refine T_mono (fun o h' ho => ?_) k1
  rcases o with r | z
  · exact hq r h' ho
  · exact ho
theorem TM_eqo {Q1 : Option AV → HH → Prop} : ∀ (o o' : OO) (h' : HH), q_eqo o o' → (match o with | .inl r => Q1 r h' | .inr _ => False) → (match o' with | .inl r => Q1 r h' | .inr _ => False) := by
  intro o o' h' he ho
  rcases o with r | z
  · rcases o' with r' | z'
    · cases he; exact ho
    · cases he
  · exact ho.elim
end Q23
