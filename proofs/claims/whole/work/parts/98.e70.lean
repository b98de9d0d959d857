section SPja
variable {d kx km : Nat} {G : GG} {c c' cA cB cA' cB' : CC} {ax : List AV} {v : Int}
theorem GR_half (h : GR cA cB) (a : ∀ r, r < 188 → cA' r = cA r) (b : ∀ r, 188 ≤ r → cB' r = cB r) : GR cA' cB' :=
  GR_keep h ⟨fun r p => a r (by omega), by rw [a 2 (by omega)], by rw [a 2 (by omega)], fun i _ _ => by rw [a 120 (by omega)]⟩ (fun r p => a r (by omega)) ⟨fun r p => b r (by omega), fun i p => by rw [b 188 (by omega)], fun j _ _ => by rw [b 193 (by omega)], by rw [b 190 (by omega)]; exact SmR_refl _⟩ (b 190 (by omega)) (by rw [b 188 (by omega)]) (b 195 (by omega))
theorem GR_mrg (h : GR cA cB) : GR (mrg rP cB cA) (mrg rP cB cA) :=
  GR_half h (fun r p => by
    unfold mrg rP
    rw [if_neg (by simp; omega)]) (fun r p => by
    unfold mrg rP
    rw [if_pos (by simp; omega)])
theorem pS_ints (h : ∀ a ∈ ax, ∃ v : Int, a = aI v) : pS rP (aR 188 :: ax) := by
  intro a ha
  rcases List.mem_cons.mp ha with e | e
  · rw [e]; rfl
  · obtain ⟨v, hv⟩ := h a e
    rw [hv]; exact True.intro
theorem OP_join (hG : Shp G) (h : OP G d kx km ax c c) (hk : gd km = true) (ha : ∀ a ∈ ax, ∃ v : Int, a = aI v) : TM d kx (aR 1 :: ax) (G, c) (fun r1 h1 => ∃ c1 v, h1 = (G, c1) ∧ r1 = some (aI v) ∧ I32 v ∧ TM d km (aR 188 :: ax) (G, c1) (fun r2 h2 => ∃ c2, h2 = (G, c2) ∧ r2 = some (aI v) ∧ GR c2 c2)) := by
  refine TM_Qm (fun r1 h1 x => ?_) h
  obtain ⟨cA', e1, f1, x2⟩ := x
  have y := TM_fr hG hk (pS_ints ha) x2 (c0 := cA') (fun r hr => f1 r hr)
  obtain ⟨n, o, h2, e, q⟩ := T_in x2
  cases o with
  | inr z => exact False.elim q
  | inl r2 =>
    obtain ⟨cB', _, _, w, w1, _, w3⟩ := (show ∃ cB', h2 = (G, cB') ∧ GR cA' cB' ∧ ∃ v, r1 = some (aI v) ∧ r2 = some (aI v) ∧ I32 v from q)
    refine ⟨cA', w, e1, w1, w3, TM_Qm (fun r3 h3 z => ?_) y⟩
    obtain ⟨c', ⟨cB2, z1, z2, w', z3, z4, _⟩, z5⟩ := z
    have ec : c' = cB2 := by cases z1; rfl
    refine ⟨_, z5, ?_, ?_⟩
    · rw [z4, ← z3, w1]
    · rw [ec]; exact GR_mrg z2
end SPja
