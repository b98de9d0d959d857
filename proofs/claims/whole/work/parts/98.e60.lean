section SPmB
variable {d : Nat} {G : GG} {c c' c0 cA cB cA' cB' : CC} {Q : Option AV → HH → Prop} {S X : SS} {i j k n g x y a b N q w o K m mm dd s lo v1 : Int} {wh bd way : Int → Int} {acc : Int × (Int → Int)}
theorem srch_w : ∀ (t : Nat) (i : Int) (way : Int → Int) (o : Option SS) (acc : Int × (Int → Int)), i + t = m → 0 ≤ i → (∀ j, 0 ≤ j → j < i → 0 ≤ way j ∧ way j ≤ K) → (∀ j, 0 ≤ j → j < m → 0 ≤ acc.2 j ∧ acc.2 j ≤ K) → ∀ j, 0 ≤ j → j < m → 0 ≤ (srch wh K n dd t i way o acc).2 j ∧ (srch wh K n dd t i way o acc).2 j ≤ K := by
  intro t
  induction t with
  | zero =>
    intro i way o acc g1 g2 hw ha
    cases o with
    | none => exact ha
    | some X =>
      have e : i = m := by omega
      show ∀ j, 0 ≤ j → j < m → 0 ≤ (if acc.1 < daysF n X 169 - dd then (daysF n X 169 - dd, way) else acc).2 j ∧ (if acc.1 < daysF n X 169 - dd then (daysF n X 169 - dd, way) else acc).2 j ≤ K
      by_cases h : acc.1 < daysF n X 169 - dd
      · rw [if_pos h, ← e]; exact hw
      · rw [if_neg h]; exact ha
  | succ t ih =>
    intro i way o acc g1 g2 hw ha
    refine loopI_p (f := fun a acc => srch wh K n dd t (i + 1) (q_u1 way i a) (stp (wh i) a o) acc) (n := K + 1) (P := fun a => ∀ j, 0 ≤ j → j < m → 0 ≤ a.2 j ∧ a.2 j ≤ K) (x := acc) ha (fun a y h1 h2 h => ih (i + 1) _ _ y (by omega) (by omega) (fun j p1 p2 => ?_) h)
    by_cases hj : j = i
    · rw [hj, u1_e]; omega
    · rw [u1_n hj]; exact hw j p1 (by omega)
theorem op_most (hG : Shp G) (h : GR cA cB) (h1 : I32 v1) : OP G (d + 50) 136 218 [aI v1] cA cB := by
  have hR := h.1.1
  have hI := h.1.2.1
  have g := hR.1
  have hr := h.2.1.1
  have hL := h.2.2.1
  have wb := wts_b hR
  have no : ¬ (1 ≤ v1 ∧ v1 ≤ 30 ∧ wtsF (cB 190) ≤ 5) → TM (d + 50) 218 [aR 188, aI v1] (G, cB) (fun r2 h2 => ∃ cB', h2 = (G, cB') ∧ GR cA cB' ∧ ∃ v, (some (aI (-1))) = some (aI v) ∧ r2 = some (aI v) ∧ I32 v) := by
    intro hno
    refine r_most hG hR hI rfl h1 (fun c' _ f1 f2 => ?_) (fun c' p => absurd p hno)
    exact ⟨c', rfl, GR_keep h KA_refl (fun _ _ => rfl) ⟨fun r p => f1 r (by omega) (by omega) (by omega), fun i p => f2 i (by omega), fun j _ _ => by rw [f1 193 (by omega) (by omega) (by omega)], by rw [f1 190 (by omega) (by omega) (by omega)]; exact SmR_refl _⟩ (f1 190 (by omega) (by omega) (by omega)) (f2 23 (by omega)) (f1 195 (by omega) (by omega) (by omega)), -1, rfl, rfl, by omega⟩
  show TM (d + 50) 136 [aR 1, aI v1] (G, cA) _
  refine b136_0 hG (by intros; omega) ?_ ?_ ?_
  · intro p
    exact ⟨cA, rfl, fun _ _ => rfl, no (by omega)⟩
  · intro p p2
    exact ⟨cA, rfl, fun _ _ => rfl, no (by omega)⟩
  · intro p p2
    refine c_countWaiting hG lf27 hR hI hr hL ?_
    refine b136_18 hG TM_eqo (by intros; omega) ?_ ?_
    · intro p3
      refine c_most (S := cB 190) hG ⟨hR, hI, hr, hL⟩ p3 ⟨p, p2⟩ ?_
      intro cA1 f1 f2
      refine b136_32 hG ?_
      refine ⟨cA1, rfl, fun r hr' => f1 r (by omega), ?_⟩
      refine r_most hG hR hI rfl h1 (fun c' q => absurd ⟨p, p2, p3⟩ q) (fun c' _ k1 k2 k3 k4 k5 => ?_)
      have hw := Wait_wq hR p3
      have nb := bst_0 hR hI (n := v1) ⟨p, p2⟩ hw
      have sw' := srch_w (m := mF (cB 190)) (wh := whF (cB 190)) (K := cB 190 0) (n := v1) (dd := cB 190 169) (mF (cB 190)).toNat 0 (fun _ => 0) (some (cB 190)) (-1, fun _ => 0) (by have := hw.1; omega) (by omega) (fun j q1 q2 => by omega) (fun j q1 q2 => ⟨Int.le_refl 0, g.1⟩)
      obtain ⟨a1, a2, a3, a4⟩ := f2
      obtain ⟨b1, b2⟩ := k5
      obtain ⟨b3, b4⟩ := b2 nb
      have a5 := a4 nb
      obtain ⟨g1, g2, g3, g4, g5, g6, g7, g8, g9⟩ := h
      refine ⟨c', rfl, ⟨by rw [k4]; exact g1, GN_fr g2 (by rw [k4]; exact SmR_refl _) hR (fun r q => f1 r (by omega)) (fun j _ _ => by rw [k1 193 (by omega) (by omega) (by omega) (by omega) (by omega) (by omega)]), by rw [k4]; exact LR_fr g3 (fun r q1 q2 => f1 r (by omega)), GT_fr g4 (by rw [f1 2 (by omega)]) (by rw [f1 2 (by omega)]) (f1 3 (by omega)) (f1 4 (by omega)) (k2 2 (by omega) (by omega)) (k2 15 (by omega) (by omega)) (k1 189 (by omega) (by omega) (by omega) (by omega) (by omega) (by omega)) (k1 194 (by omega) (by omega) (by omega) (by omega) (by omega) (by omega)), GH_fr g5 (by rw [k4]; exact SmR_refl _) (fun r q1 q2 => f1 r (by omega)) (k2 23 (by omega) (by omega)) (k1 195 (by omega) (by omega) (by omega) (by omega) (by omega) (by omega)), ⟨fun s q1 q2 => ?_, by rw [k3]; omega, by rw [k3]; omega⟩, GW_fr g7 (f1 187 (by omega)) (k2 31 (by omega) (by omega)) (k1 202 (by omega) (by omega) (by omega) (by omega) (by omega) (by omega)), GB_fr g8 (fun i _ _ => by rw [f1 120 (by omega)]) (k2 38 (by omega) (by omega)) (k1 205 (by omega) (by omega) (by omega) (by omega) (by omega) (by omega)) (f1 138 (by omega)) (f1 139 (by omega)) (k1 200 (by omega) (by omega) (by omega) (by omega) (by omega) (by omega)) (k1 201 (by omega) (by omega) (by omega) (by omega) (by omega) (by omega)), GI_fr g9 (fun r q1 q2 => f1 r (by omega)) (k1 208 (by omega) (by omega) (by omega) (by omega) (by omega) (by omega)) (k1 209 (by omega) (by omega) (by omega) (by omega) (by omega) (by omega)) (k1 210 (by omega) (by omega) (by omega) (by omega) (by omega) (by omega))⟩, _, rfl, rfl, by omega⟩
      rw [k3]
      by_cases hin : ∃ j, 0 ≤ j ∧ j < mF (cB 190) ∧ s = whF (cB 190) j
      · obtain ⟨j, j1, j2, j3⟩ := hin
        have wj := hw.2.1 j j1 j2
        have e1 := a5 j j1 j2
        have e2 := b4 j j1 j2
        have sj := sw' j j1 j2
        have eb : (bstF (cB 190) v1).2 j = (srch (whF (cB 190)) (cB 190 0) v1 (cB 190 169) (mF (cB 190)).toNat 0 (fun _ => 0) (some (cB 190)) (-1, fun _ => 0)).2 j := rfl
        rw [← eb] at sj
        rw [j3, if_pos wj.2.1, e1, e2]
        exact ⟨rfl, by omega⟩
      · have e1 := a2 s q1 q2 (fun j j1 j2 z => hin ⟨j, j1, j2, z⟩)
        have e2 := b3 s q1 q2 (fun j j1 j2 z => hin ⟨j, j1, j2, z⟩)
        rw [e1, e2]
        refine ⟨?_, by omega⟩
        split <;> rfl
    · intro p3
      exact ⟨cA, rfl, fun _ _ => rfl, no (by omega)⟩
end SPmB
