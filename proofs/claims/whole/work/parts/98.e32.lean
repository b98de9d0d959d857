section SPok
variable {d d1 d2 r n0 kx km : Nat} {ax : List AV} {G : GG} {c c' cA cB cA0 cB0 cA' cB' cA1 cB1 : CC} {Q : Option AV → HH → Prop} {v v1 v2 N K g k p len most stop a b w w' to x y z m M s : Int} {j i' n : Nat} {B f fS : Int → Int} {S H old : SS}
theorem OP_lk (h : TM d kx (aR 1 :: ax) (G, cA) (fun r1 h1 => TM d km (aR 188 :: ax) (G, cB) (fun r2 h2 => ∃ cA' cB', h1 = (G, cA') ∧ h2 = (G, cB') ∧ (∀ r, 188 ≤ r → cA' r = cA r) ∧ GR cA' cB' ∧ ∃ v, r1 = some (aI v) ∧ r2 = some (aI v) ∧ I32 v))) : OP G d kx km ax cA cB := by
  refine TM_Qm (fun r1 h1 x => ?_) h
  obtain ⟨n, o, h2, e, q⟩ := T_in x
  cases o with
  | inr z => exact False.elim q
  | inl r2 =>
    obtain ⟨cA', cB', e1, e2, f1, g, v, e3, e4, e5⟩ := (show ∃ cA' cB', h1 = (G, cA') ∧ h2 = (G, cB') ∧ (∀ r, 188 ≤ r → cA' r = cA r) ∧ GR cA' cB' ∧ ∃ v, r1 = some (aI v) ∧ r2 = some (aI v) ∧ I32 v from q)
    exact ⟨cA', e1, f1, T_mk e (show ∃ cB', h2 = (G, cB') ∧ GR cA' cB' ∧ ∃ v, r1 = some (aI v) ∧ r2 = some (aI v) ∧ I32 v from ⟨cB', e2, g, v, e3, e4, e5⟩)⟩
theorem GR_flt (h : GR cA cB) (a1 : ∀ r, (r = 3 ∨ r = 4 ∨ (9 ≤ r ∧ r ≤ 17) ∨ (27 ≤ r ∧ r ≤ 34) ∨ (43 ≤ r ∧ r ≤ 46) ∨ (53 ≤ r ∧ r ≤ 118) ∨ r = 131 ∨ r = 138 ∨ r = 139 ∨ (141 ≤ r ∧ r ≤ 187)) → cA' r = cA r) (a2 : ∀ i, 6 ≤ i → i ≤ 10 → cA' 120 i = cA 120 i) (a3 : cA' 2 1 = 0) (a4 : cA' 2 14 = cB' 188 15) (a5 : 0 ≤ cB' 188 15 ∧ cB' 188 15 ≤ 4) (b1 : ∀ r, (r = 189 ∨ r = 190 ∨ r = 194 ∨ r = 195 ∨ r = 199 ∨ r = 200 ∨ r = 201 ∨ r = 202 ∨ r = 205 ∨ r = 208 ∨ r = 209 ∨ r = 210) → cB' r = cB r) (b2 : ∀ i, i = 23 ∨ i = 27 ∨ i = 31 ∨ i = 38 → cB' 188 i = cB 188 i) (b3 : cB' 188 2 = 0) (b4 : ∀ i, 0 ≤ i → i < 14 → cB' 193 i = cB 193 i) : GR cA' cB' := by
  obtain ⟨r1, r2, r3, r4, r5, r6, r7, r8, r9⟩ := h
  obtain ⟨⟨t1, t2, t3⟩, t4, t5, t6⟩ := r4
  have e190 := b1 190 (by omega)
  refine ⟨by rw [e190]; exact r1, GN_fr r2 (by rw [e190]; exact SmR_refl _) r1.1 (fun r p => a1 r (by omega)) (fun j p q => b4 j p q), by rw [e190]; exact LR_fr r3 (fun r p q => a1 r (by omega)), ⟨⟨by rw [a3, b3], by omega, by omega⟩, fun i p q => by omega, ⟨a4, a5⟩, fun i p q => ?_⟩, GH_fr r5 (by rw [e190]; exact SmR_refl _) (fun r p q => a1 r (by omega)) (b2 _ (by omega)) (b1 _ (by omega)), GM_fr r6 (a1 _ (by omega)) (b2 _ (by omega)) (b1 _ (by omega)), GW_fr r7 (a1 _ (by omega)) (b2 _ (by omega)) (b1 _ (by omega)), GB_fr r8 a2 (b2 _ (by omega)) (b1 _ (by omega)) (a1 _ (by omega)) (a1 _ (by omega)) (b1 _ (by omega)) (b1 _ (by omega)), GI_fr r9 (fun r p q => a1 r (by omega)) (b1 _ (by omega)) (b1 _ (by omega)) (b1 _ (by omega))⟩
  rw [a1 4 (by omega), b1 194 (by omega)]
  exact t6 i p q
theorem of4_lo (h1 : 0 ≤ k) (h2 : k < 168) (h3 : k < 51 ∨ 59 ≤ k) : of4 H old 64 k = H k := by
  unfold of4 of3 of1
  rw [if_neg (by omega), if_neg (by omega), if_pos (by omega), if_pos (by omega)]
theorem of4_51 (h1 : 0 ≤ s) (h2 : s < 8) : of4 H old 64 (51 + s) = if H (51 + s) = 0 then q_shl 1 (H 0) - 1 else H (51 + s) := by
  unfold of4 of3 of1
  rw [if_neg (by omega)]
  by_cases h : H (51 + s) = 0
  · rw [if_pos (by omega), if_pos h]
  · rw [if_neg (by omega), if_neg h, if_pos (by omega), if_pos (by omega)]
theorem of4_d (h1 : 0 ≤ k) (h2 : k < 64) : of4 H old 64 (205 + k) = H (67 + k) := by
  unfold of4
  rw [if_pos (by omega)]
  congr 1; omega
theorem of4_0 (h1 : 168 ≤ k) (h2 : k < 514) (h3 : k < 205 ∨ 269 ≤ k) : of4 H old 64 k = 0 := by
  unfold of4 of3 of1
  rw [if_neg (by omega), if_neg (by omega), if_pos (by omega), if_neg (by omega)]
theorem shl_6 : ∀ n : Fin 7, 0 ≤ q_shl 1 n.val - 1 ∧ q_shl 1 n.val - 1 < 64 := by decide +kernel
theorem shl6 (h : 0 ≤ K ∧ K ≤ 6) : 0 ≤ q_shl 1 K - 1 ∧ q_shl 1 K - 1 < 64 := by
  have := shl_6 ⟨K.toNat, by omega⟩
  simp only [show ((K.toNat : Nat) : Int) = K by omega] at this
  exact this
theorem of_GS (D : DrR cA cB) (hS : S = of4 (cB 191) old 64) : GS S := by
  obtain ⟨a1, a2, a3, a4, a5, a6, a7, a8, a9, a10⟩ := D
  have e0 : S 0 = cB 191 0 := by rw [hS, of4_lo (by omega) (by omega) (by omega)]
  have e1 : S 1 = cB 191 1 := by rw [hS, of4_lo (by omega) (by omega) (by omega)]
  have e2 : S 2 = cB 191 2 := by rw [hS, of4_lo (by omega) (by omega) (by omega)]
  have lo : ∀ k, 0 ≤ k → k < 168 → (k < 51 ∨ 59 ≤ k) → S k = cB 191 k := fun k h1 h2 h3 => by rw [hS, of4_lo h1 h2 h3]
  have hi : ∀ k, 168 ≤ k → k < 514 → (k < 205 ∨ 269 ≤ k) → S k = 0 := fun k h1 h2 h3 => by rw [hS, of4_0 h1 h2 h3]
  have de : ∀ k, 0 ≤ k → k < 64 → S (205 + k) = cB 191 (67 + k) := fun k h1 h2 => by rw [hS, of4_d h1 h2]
  have hR : InvR S := by
    refine ⟨by rw [e0, e1, e2]; omega, fun k h1 h2 => ?_, fun k h1 h2 => ?_, fun x y h1 h2 h3 h4 => ?_, fun s h1 h2 => ?_, fun i h1 h2 => ?_, fun x y h1 h2 h3 h4 h5 => ?_⟩
    · rw [e0] at h2
      rw [lo (3 + k) (by omega) (by omega) (by omega), lo (9 + k) (by omega) (by omega) (by omega)]
      have := a3 k h1 h2
      omega
    · rw [lo (15 + k) (by omega) (by omega) (by omega)]
      have := a7 k h1 h2
      omega
    · rw [lo (15 + 6 * x + y) (by omega) (by omega) (by omega), lo (15 + 6 * y + x) (by omega) (by omega) (by omega)]
      exact (a8 x y h1 h2 h3 h4).1
    · have := a5 s h1 h2
      have sh := shl6 (K := cB 191 0) (by omega)
      rw [lo (59 + s) (by omega) (by omega) (by omega), e0, hS, of4_51 h1 h2]
      split <;> omega
    · rw [lo (67 + i) (by omega) (by omega) (by omega)]
      exact (a9 i h1 h2).2
    · rw [e1] at h5
      rw [lo (67 + 8 * x + y) (by omega) (by omega) (by omega)]
      exact a10 x y h1 h2 h3 h4 h5
  refine ⟨hR, ⟨fun s h1 h2 => ?_, fun s h1 h2 h3 => ?_, fun i h1 h2 => ?_, fun x y h1 h2 h3 h4 h5 => ?_, fun k h1 h2 => ?_, ?_, ?_, fun x y h1 h2 h3 h4 => ?_⟩, ⟨?_, ?_, fun s h1 h2 => ?_, ?_⟩, ?_⟩
  · rw [hi (173 + s) (by omega) (by omega) (by omega), hi (181 + s) (by omega) (by omega) (by omega), hi (189 + s) (by omega) (by omega) (by omega), hi (197 + s) (by omega) (by omega) (by omega), e0]
    omega
  · rw [hi (173 + s) (by omega) (by omega) (by omega)] at h3; omega
  · rw [de i h1 h2]
    have := (a9 i h1 h2).2
    omega
  · rw [e1] at h5
    have := de (8 * x + y) (by omega) (by omega)
    rw [show 205 + (8 * x + y) = 205 + 8 * x + y by omega, show 67 + (8 * x + y) = 67 + 8 * x + y by omega] at this
    rw [this]
    exact a10 x y h1 h2 h3 h4 h5
  · have e : sumI (isAs S k) (S 1) = 0 := by
      have b1 := sumI_lo (f := isAs S k) (n := S 1) (lo := 0) (by omega) (fun i h3 h4 => by unfold isAs; split <;> omega)
      have b2 := sumI_hi (f := isAs S k) (n := S 1) (hi := 0) (by omega) (fun i h3 h4 => by
        have := hi (197 + i) (by omega) (by omega) (by omega)
        unfold isAs; rw [if_neg (by omega)]; omega)
      omega
    have := hR.2.1 k h1 h2
    unfold room
    omega
  · rw [hi 171 (by omega) (by omega) (by omega)]
    have b1 := sumI_lo (f := fun i => S (189 + i)) (n := 8) (lo := 0) (by omega) (fun i h3 h4 => by
      show 0 ≤ S (189 + i); rw [hi (189 + i) (by omega) (by omega) (by omega)]; omega)
    have b2 := sumI_hi (f := fun i => S (189 + i)) (n := 8) (hi := 0) (by omega) (fun i h3 h4 => by
      show S (189 + i) ≤ 0; rw [hi (189 + i) (by omega) (by omega) (by omega)]; omega)
    omega
  · rw [hi 168 (by omega) (by omega) (by omega), hi 169 (by omega) (by omega) (by omega), hi 170 (by omega) (by omega) (by omega)]; omega
  · rw [hi (269 + 8 * x + y) (by omega) (by omega) (by omega), hi (269 + 8 * y + x) (by omega) (by omega) (by omega)]; omega
  · rw [hi 168 (by omega) (by omega) (by omega), hi 169 (by omega) (by omega) (by omega)]; omega
  · rw [hi 168 (by omega) (by omega) (by omega), hi 170 (by omega) (by omega) (by omega)]; omega
  · rw [hi 168 (by omega) (by omega) (by omega), hi (189 + s) (by omega) (by omega) (by omega), hi (197 + s) (by omega) (by omega) (by omega)]; omega
  · rw [hi 168 (by omega) (by omega) (by omega), hi 172 (by omega) (by omega) (by omega), if_neg (by omega)]
  · rw [hi 168 (by omega) (by omega) (by omega)]; omega
end SPok
