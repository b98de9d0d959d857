section SPJ
variable {S S' : Int → Int} {s k i j n x y : Int}
def Ok (S X : SS) : Prop := SmR S X ∧ InvL X
theorem Ok_refl (h : InvL S) : Ok S S := ⟨SmR_refl S, h⟩
theorem Ok_R {X : SS} (h : Ok S X) (hR : InvR S) : InvR X := InvR_sm h.1 hR
theorem Ok_tr {A B C : SS} (h1 : Ok A B) (h2 : Ok B C) : Ok A C := ⟨SmR_tr h1.1 h2.1, h2.2⟩
theorem Ok_1 {X : SS} (h : Ok S X) : X 1 = S 1 := h.1 1 (by omega)
theorem Ok_0 {X : SS} (h : Ok S X) : X 0 = S 0 := h.1 0 (by omega)
theorem Ok_row {X : SS} (hR : InvR S) (h : Ok S X) (h1 : 0 ≤ i) (h2 : i < 8) (h3 : 0 ≤ j) (h4 : j < 8) : Ok S (rowF i j X) :=
  ⟨SmR_tr h.1 (SmR_row h1 h2 h3 h4), InvL_row (Ok_R h hR) h.2 h1 h2 h3 h4⟩
theorem Ok_rows {X : SS} (hR : InvR S) (h : Ok S X) (h1 : 0 ≤ i) (h2 : i < 8) (h3 : n ≤ 8) : Ok S (loopI (rowF i) n X) :=
  loopI_p (P := Ok S) h (fun j y h4 h5 h6 => Ok_row hR h6 h1 h2 h4 (by omega))
theorem Ok_pairsN {X : SS} (hR : InvR S) (h : Ok S X) (hn : n ≤ 8) : Ok S (loopI (fun i S => loopI (rowF i) (S 1) S) n X) := by
  have hr := hR.1
  exact loopI_p (P := Ok S) h (fun i y h1 h2 h3 => Ok_rows hR h3 h1 (by omega) (by rw [Ok_1 h3]; omega))
theorem Ok_pairs (hR : InvR S) (h : InvL S) : Ok S (pairsF S) := Ok_pairsN hR (Ok_refl h) (by have := hR.1; omega)
theorem Ok_growN {X : SS} (hR : InvR S) (h : Ok S X) (hn : n ≤ 64) : Ok S (loopI growF n X) :=
  loopI_p (P := Ok S) h (fun i y h1 h2 h3 => ⟨SmR_tr h3.1 (SmR_grow h1 (by omega)), InvL_grow (Ok_R h3 hR) h3.2 h1 (by omega)⟩)
theorem Ok_ageN {X : SS} (hR : InvR S) (h : Ok S X) (hn : n ≤ 8) : Ok S (loopI ageF n X) :=
  loopI_p (P := Ok S) h (fun i y h1 h2 h3 => ⟨SmR_tr h3.1 (SmR_age h1 (by omega)), InvL_age (Ok_R h3 hR) h3.2 h1 (by omega)⟩)
theorem Ok_tick {X : SS} (hR : InvR S) (h : Ok S X) : Ok S (tickF X) := ⟨SmR_tr h.1 SmR_tick, InvL_tick (Ok_R h hR) h.2⟩
theorem Ok_preday (hR : InvR S) (h : InvL S) : Ok S (growsF (pairsF S)) := Ok_growN hR (Ok_pairs hR h) (by omega)
theorem Ok_ages {X : SS} (hR : InvR S) (h : Ok S X) : Ok S (agesF X) := Ok_ageN hR h (by rw [Ok_1 h]; have := hR.1; omega)
theorem Ok_day (hR : InvR S) (h : InvL S) : Ok S (dayF S) := Ok_tick hR (Ok_ages hR (Ok_preday hR h))
theorem Ok_born {X : SS} (hR : InvR S) (h : Ok S X) (h1 : 0 ≤ s) (h2 : s < S 1) (h3 : 0 ≤ k) (h4 : k < S 0) (hw : whyF X s k = 0) : Ok S (bornF X s k) :=
  ⟨SmR_tr h.1 (SmR_born h1 (by have := hR.1; omega)), InvL_born (Ok_R h hR) h.2 h1 (by rw [Ok_1 h]; exact h2) h3 (by rw [Ok_0 h]; exact h4) hw⟩
theorem clkL_spec : ∀ (n : Nat) (k : Int), 0 ≤ k → k + n = S 0 → clkL n k S s = -1 ∨ (0 ≤ clkL n k S s ∧ clkL n k S s < S 0 ∧ whyF S s (clkL n k S s) = 0) := by
  intro n
  induction n with
  | zero => intro k h1 h2; left; rfl
  | succ n ih =>
    intro k h1 h2
    unfold clkL
    by_cases hw : whyF S s k = 0
    · rw [if_pos hw]
      right
      exact ⟨h1, by omega, hw⟩
    · rw [if_neg hw]
      exact ih (k + 1) (by omega) (by omega)
theorem clkF_spec (hR : InvR S) (h1 : 0 ≤ s) (h2 : s < 8) : clkF S s = -1 ∨ (0 ≤ clkF S s ∧ clkF S s < S 0 ∧ whyF S s (clkF S s) = 0) := by
  have hr := hR.1
  have hs := hR.2.2.2.2.1 s h1 h2
  unfold clkF
  by_cases hw : 0 < S (59 + s) ∧ whyF S s (S (59 + s) - 1) = 0
  · rw [if_pos hw]
    right
    exact ⟨by omega, by omega, hw.2⟩
  · rw [if_neg hw]
    exact clkL_spec _ 0 (by omega) (by omega)
theorem Ok_clk1 {X : SS} (hR : InvR S) (h : Ok S X) (h1 : 0 ≤ s) (h2 : s < S 1) : Ok S (clk1 s X) := by
  have hr := hR.1
  unfold clk1
  rcases clkF_spec (S := X) (s := s) (Ok_R h hR) h1 (by omega) with h3 | ⟨h3, h4, h5⟩
  · rw [if_neg (by omega)]; exact h
  · rw [if_pos h3]
    rw [Ok_0 h] at h4
    exact Ok_born hR h h1 h2 h3 h4 h5
theorem Ok_clksN {X : SS} (hR : InvR S) (h : Ok S X) (hn : n ≤ S 1) : Ok S (loopI clk1 n X) :=
  loopI_p (P := Ok S) h (fun i y h1 h2 h3 => Ok_clk1 hR h3 h1 (by omega))
theorem Ok_clks (hR : InvR S) (h : InvL S) : Ok S (clksF S) := Ok_clksN hR (Ok_refl h) (by omega)
theorem Ok_cday (hR : InvR S) (h : InvL S) : Ok S (cdayF S) := by
  have h1 := Ok_clks hR h
  exact Ok_tr h1 (Ok_day (Ok_R h1 hR) h1.2)
theorem Ok_days (hR : InvR S) (h : InvL S) : Ok S (daysF n S) :=
  loopI_p (P := Ok S) (Ok_refl h) (fun i y h1 h2 h3 => Ok_tr h3 (Ok_day (Ok_R h3 hR) h3.2))
theorem Ok_cdays (hR : InvR S) (h : InvL S) : Ok S (cdaysF n S) :=
  loopI_p (P := Ok S) (Ok_refl h) (fun i y h1 h2 h3 => Ok_tr h3 (Ok_cday (Ok_R h3 hR) h3.2))
theorem Bd_born (hI : InvL S) (hB : Bd S) (h1 : 0 ≤ s) (h2 : s < 8) (hw : S (173 + s) ≤ 0) : Bd (bornF S s k) := by
  obtain ⟨r1, r2, r3, r4, r5, r6⟩ := born_rd (S := S) (s := s) (k := k) h1 h2
  obtain ⟨a1, a2, a3, a4⟩ := hB
  have hs := hI.1 s h1 h2
  have e8 := r1 168 (by omega) (by omega) (by omega) (by omega) (by omega)
  refine ⟨?_, ?_, ?_, ?_⟩
  · rw [e8, r1 169 (by omega) (by omega) (by omega) (by omega) (by omega)]; exact a1
  · rw [e8, r1 170 (by omega) (by omega) (by omega) (by omega) (by omega)]; exact a2
  · intro t h3 h4
    have h5 := a3 t h3 h4
    rw [e8]
    by_cases ht : t = s
    · subst ht
      rw [r4, r5]
      omega
    · rw [r1 (189 + t) (by omega) (by omega) (by omega) (by omega) (by omega), r1 (197 + t) (by omega) (by omega) (by omega) (by omega) (by omega)]
      exact h5
  · rw [e8, r1 172 (by omega) (by omega) (by omega) (by omega) (by omega)]; exact a4
theorem Bd_clks (hR : InvR S) (h : InvL S) (hB : Bd S) : Bd (clksF S) := by
  refine (loopI_p (P := fun X => Ok S X ∧ Bd X) (n := S 1) ⟨Ok_refl h, hB⟩ (fun i y h1 h2 h3 => ⟨Ok_clk1 hR h3.1 h1 h2, ?_⟩)).2
  have hr := hR.1
  unfold clk1
  rcases clkF_spec (S := y) (s := i) (Ok_R h3.1 hR) h1 (by omega) with h4 | ⟨h4, h5, h6⟩
  · rw [if_neg (by omega)]; exact h3.2
  · rw [if_pos h4]
    exact Bd_born h3.1.2 h3.2 h1 (by omega) (why_0 h6).1
def Pr (S X : SS) (m : Int) : Prop := Ok S X ∧ (∀ q, q < 205 → ¬ q = 169 → X q = S q) ∧ X 169 ≤ S 169 + m ∧ S 169 ≤ X 169
theorem Pr_rows {X : SS} {m : Int} (hR : InvR S) (h : Pr S X m) (h1 : 0 ≤ i) (h2 : i < 8) (h3 : 0 ≤ n) (h4 : n ≤ 8) : Pr S (loopI (rowF i) n X) (m + 99 * n) := by
  refine loopI_pi (P := fun n Y => Pr S Y (m + 99 * n)) h3 (by rw [show m + 99 * 0 = m by omega]; exact h) ?_
  intro j Y h5 h6 h7
  obtain ⟨g1, g2, g3, g4⟩ := h7
  refine ⟨Ok_row hR g1 h1 h2 h5 (by omega), ?_⟩
  unfold rowF
  by_cases hij : i < j
  · rw [if_pos hij]
    obtain ⟨r1, r2, r3, r4⟩ := sett_rd (S := Y) (i := i) (j := j) h1 h2 h5 (by omega) (by omega)
    obtain ⟨c1, c2, c3, c4, c5⟩ := sett_b (S := Y) (i := i) (j := j) (Ok_R g1 hR) g1.2 h1 h2 h5 (by omega)
    refine ⟨fun q h8 h9 => by rw [r1 q h8 h9]; exact g2 q h8 h9, ?_, ?_⟩
    · rw [r2]; omega
    · rw [r2]; omega
  · rw [if_neg hij]
    exact ⟨g2, by omega, g4⟩
theorem Pr_pairs (hR : InvR S) (h : InvL S) : Pr S (pairsF S) 6336 := by
  have hr := hR.1
  have h2 : Pr S (pairsF S) (792 * S 1) := by
    refine loopI_pi (f := fun i S => loopI (rowF i) (S 1) S) (P := fun n Y => Pr S Y (792 * n)) (by omega) ⟨Ok_refl h, fun _ _ _ => rfl, by omega, by omega⟩ ?_
    intro i Y h5 h6 h7
    have h8 := Pr_rows (i := i) (n := Y 1) hR h7 h5 (by omega) (by rw [Ok_1 h7.1]; omega) (by rw [Ok_1 h7.1]; omega)
    have h9 := Ok_1 h7.1
    show Pr S (loopI (rowF i) (Y 1) Y) (792 * (i + 1))
    obtain ⟨g1, g2, g3, g4⟩ := h8
    exact ⟨g1, g2, by omega, g4⟩
  obtain ⟨g1, g2, g3, g4⟩ := h2
  exact ⟨g1, g2, by omega, g4⟩
theorem gr_grows (hR : InvR S) (h : InvL S) : (∀ q, q < 205 → ¬ q = 170 → growsF S q = S q) ∧ growsF S 170 ≤ S 170 + 576 ∧ S 170 ≤ growsF S 170 := by
  have h2 : Ok S (growsF S) ∧ (∀ q, q < 205 → ¬ q = 170 → growsF S q = S q) ∧ growsF S 170 ≤ S 170 + 9 * 64 ∧ S 170 ≤ growsF S 170 := by
    refine loopI_pi (f := growF) (P := fun n Y => Ok S Y ∧ (∀ q, q < 205 → ¬ q = 170 → Y q = S q) ∧ Y 170 ≤ S 170 + 9 * n ∧ S 170 ≤ Y 170) (by omega) ⟨Ok_refl h, fun _ _ _ => rfl, by omega, by omega⟩ ?_
    intro i Y h5 h6 h7
    obtain ⟨g1, g2, g3, g4⟩ := h7
    obtain ⟨r1, r2, r3, r4⟩ := grow_rd (S := Y) (k := i) h5 h6
    have hb := then_b (S := Y) (k := i) (Ok_R g1 hR) g1.2 h5 h6
    refine ⟨⟨SmR_tr g1.1 (SmR_grow h5 h6), InvL_grow (Ok_R g1 hR) g1.2 h5 h6⟩, fun q h8 h9 => by rw [r1 q h8 h9]; exact g2 q h8 h9, ?_, ?_⟩
    · rw [r3]; split <;> omega
    · rw [r3]; split <;> omega
  obtain ⟨g1, g2, g3, g4⟩ := h2
  exact ⟨g2, by omega, g4⟩
theorem ages_rd (hI : InvL S) (hR : InvR S) (h3 : 0 ≤ n) (h4 : n ≤ S 1) : Ok S (loopI ageF n S) ∧ (∀ q, (q < 173 ∨ (189 ≤ q ∧ q < 197) ∨ 205 ≤ q) → loopI ageF n S q = S q) ∧ (∀ s, 0 ≤ s → s < 8 → (s < n → loopI ageF n S (197 + s) = 0 ∧ loopI ageF n S (181 + s) = (if S (181 + s) - 1 < 0 then 0 else S (181 + s) - 1) ∧ loopI ageF n S (173 + s) = (if (if S (181 + s) - 1 < 0 then 0 else S (181 + s) - 1) = 0 then 0 else S (173 + s))) ∧ (n ≤ s → loopI ageF n S (197 + s) = S (197 + s) ∧ loopI ageF n S (181 + s) = S (181 + s) ∧ loopI ageF n S (173 + s) = S (173 + s))) := by
  have hr := hR.1
  have h2 := loopI_pi (f := ageF) (n := n) (x := S) (P := fun n Y => n ≤ S 1 → Ok S Y ∧ (∀ q, (q < 173 ∨ (189 ≤ q ∧ q < 197) ∨ 205 ≤ q) → Y q = S q) ∧ (∀ s, 0 ≤ s → s < 8 → (s < n → Y (197 + s) = 0 ∧ Y (181 + s) = (if S (181 + s) - 1 < 0 then 0 else S (181 + s) - 1) ∧ Y (173 + s) = (if (if S (181 + s) - 1 < 0 then 0 else S (181 + s) - 1) = 0 then 0 else S (173 + s))) ∧ (n ≤ s → Y (197 + s) = S (197 + s) ∧ Y (181 + s) = S (181 + s) ∧ Y (173 + s) = S (173 + s)))) h3 (fun _ => ⟨Ok_refl hI, fun _ _ => rfl, fun s h1 h2 => ⟨fun h => by omega, fun _ => ⟨rfl, rfl, rfl⟩⟩⟩) ?_
  · exact h2 h4
  intro i Y h5 h6 h7 h8
  obtain ⟨g1, g2, g3⟩ := h7 (by omega)
  obtain ⟨r1, r2, r3, r4⟩ := age_rd2 (S := Y) (k := i) g1.2 h5 (by omega)
  refine ⟨⟨SmR_tr g1.1 (SmR_age h5 (by omega)), InvL_age (Ok_R g1 hR) g1.2 h5 (by omega)⟩, fun q h9 => by rw [r1 q (by omega) (by omega) (by omega)]; exact g2 q h9, ?_⟩
  intro s h9 h10
  obtain ⟨q1, q2⟩ := g3 s h9 h10
  by_cases hs : s = i
  · subst hs
    obtain ⟨q3, q4, q5⟩ := q2 (by omega)
    refine ⟨fun _ => ⟨r2, ?_, ?_⟩, fun h => by omega⟩
    · rw [r3, q4]
    · rw [r4, q4, q5]
  · rw [r1 (197 + s) (by omega) (by omega) (by omega), r1 (181 + s) (by omega) (by omega) (by omega), r1 (173 + s) (by omega) (by omega) (by omega)]
    exact ⟨fun h => q1 (by omega), fun h => q2 (by omega)⟩
theorem day_rd (hR : InvR S) (h : InvL S) : (∀ q, 189 ≤ q → q < 197 → dayF S q = S q) ∧ (∀ s, 0 ≤ s → s < 8 → dayF S (197 + s) = 0 ∧ dayF S (181 + s) = (if S (181 + s) - 1 < 0 then 0 else S (181 + s) - 1) ∧ dayF S (173 + s) = (if (if S (181 + s) - 1 < 0 then 0 else S (181 + s) - 1) = 0 then 0 else S (173 + s))) ∧ dayF S 168 = S 168 + 1 ∧ dayF S 172 = 1 ∧ dayF S 171 = S 171 ∧ dayF S 169 = pairsF S 169 ∧ dayF S 170 = growsF (pairsF S) 170 ∧ (∀ q, 205 ≤ q → dayF S q = growsF (pairsF S) q) := by
  have hr := hR.1
  obtain ⟨p1, p2, p3, p4⟩ := Pr_pairs hR h
  obtain ⟨g1, g2, g3⟩ := gr_grows (Ok_R p1 hR) p1.2
  have hpre := Ok_preday hR h
  have e1 := Ok_1 hpre
  obtain ⟨a1, a2, a3⟩ := ages_rd (S := growsF (pairsF S)) (n := S 1) hpre.2 (Ok_R hpre hR) (by omega) (by omega)
  obtain ⟨t1, t2, t3⟩ := tick_rd (S := agesF (growsF (pairsF S)))
  have ea : agesF (growsF (pairsF S)) = loopI ageF (S 1) (growsF (pairsF S)) := by unfold agesF; rw [e1]
  unfold dayF
  rw [← ea] at a1 a2 a3
  have lift : ∀ q, q < 205 → ¬ q = 169 → ¬ q = 170 → growsF (pairsF S) q = S q := fun q h1 h2 h3 => by rw [g1 q h1 h3, p2 q h1 h2]
  refine ⟨fun q h1 h2 => by rw [t1 q (by omega) (by omega), a2 q (by omega), lift q (by omega) (by omega) (by omega)], ?_, ?_, t3, ?_, ?_, ?_, ?_⟩
  · intro s h1 h2
    rw [t1 (197 + s) (by omega) (by omega), t1 (181 + s) (by omega) (by omega), t1 (173 + s) (by omega) (by omega)]
    obtain ⟨q1, q2⟩ := a3 s h1 h2
    rw [lift (181 + s) (by omega) (by omega) (by omega), lift (173 + s) (by omega) (by omega) (by omega)] at q1 q2
    rw [lift (197 + s) (by omega) (by omega) (by omega)] at q2
    by_cases hs : s < S 1
    · exact q1 hs
    · obtain ⟨q3, q4, q5⟩ := q2 (by omega)
      have hb := h.1 s h1 h2
      rw [q3, q4, q5]
      omega
  · rw [t2, a2 168 (by omega), lift 168 (by omega) (by omega) (by omega)]
  · rw [t1 171 (by omega) (by omega), a2 171 (by omega), lift 171 (by omega) (by omega) (by omega)]
  · rw [t1 169 (by omega) (by omega), a2 169 (by omega), g1 169 (by omega) (by omega)]
  · rw [t1 170 (by omega) (by omega), a2 170 (by omega)]
  · intro q h1
    rw [t1 q (by omega) (by omega), a2 q (by omega)]
theorem Bd_day (hR : InvR S) (h : InvL S) (hB : Bd S) : Bd (dayF S) := by
  obtain ⟨d1, d2, d3, d4, d5, d6, d7, d8⟩ := day_rd hR h
  obtain ⟨p1, p2, p3, p4⟩ := Pr_pairs hR h
  obtain ⟨g1, g2, g3⟩ := gr_grows (Ok_R p1 hR) p1.2
  obtain ⟨b1, b2, b3, b4⟩ := hB
  have h0 := h.2.2.2.2.2.2.1
  have e := p2 170 (by omega) (by omega)
  refine ⟨?_, ?_, ?_, ?_⟩
  · rw [d3, d6]; omega
  · rw [d3, d7]; omega
  · intro s h1 h2
    rw [d1 (189 + s) (by omega) (by omega), (d2 s h1 h2).1, d3]
    have := b3 s h1 h2
    have := h.1 s h1 h2
    omega
  · rw [d3, d4, if_pos (by omega)]
theorem Bd_cday (hR : InvR S) (h : InvL S) (hB : Bd S) : Bd (cdayF S) := by
  have h1 := Ok_clks hR h
  exact Bd_day (Ok_R h1 hR) h1.2 (Bd_clks hR h hB)
theorem Bd_days (hR : InvR S) (h : InvL S) (hB : Bd S) : Bd (daysF n S) :=
  (loopI_p (P := fun X => Ok S X ∧ Bd X) ⟨Ok_refl h, hB⟩ (fun i y h1 h2 h3 => ⟨Ok_tr h3.1 (Ok_day (Ok_R h3.1 hR) h3.1.2), Bd_day (Ok_R h3.1 hR) h3.1.2 h3.2⟩)).2
theorem Bd_cdays (hR : InvR S) (h : InvL S) (hB : Bd S) : Bd (cdaysF n S) :=
  (loopI_p (P := fun X => Ok S X ∧ Bd X) ⟨Ok_refl h, hB⟩ (fun i y h1 h2 h3 => ⟨Ok_tr h3.1 (Ok_cday (Ok_R h3.1 hR) h3.1.2), Bd_cday (Ok_R h3.1 hR) h3.1.2 h3.2⟩)).2
theorem clk1_168 (hR : InvR S) (h1 : 0 ≤ s) (h2 : s < 8) : clk1 s S 168 = S 168 := by
  unfold clk1
  split
  · exact (born_rd h1 h2).1 168 (by omega) (by omega) (by omega) (by omega) (by omega)
  · rfl
theorem clks_168 (hR : InvR S) (h : InvL S) : clksF S 168 = S 168 := by
  have hr := hR.1
  exact (loopI_p (P := fun X => Ok S X ∧ X 168 = S 168) (n := S 1) ⟨Ok_refl h, rfl⟩ (fun i y h1 h2 h3 => ⟨Ok_clk1 hR h3.1 h1 h2, by rw [clk1_168 (Ok_R h3.1 hR) h1 (by omega)]; exact h3.2⟩)).2
theorem cday_168 (hR : InvR S) (h : InvL S) : cdayF S 168 = S 168 + 1 := by
  have h1 := Ok_clks hR h
  rw [show cdayF S = dayF (clksF S) from rfl, (day_rd (Ok_R h1 hR) h1.2).2.2.1, clks_168 hR h]
theorem days_168 (hR : InvR S) (h : InvL S) (hn : 0 ≤ n) : daysF n S 168 = S 168 + n :=
  (loopI_pi (P := fun n X => Ok S X ∧ X 168 = S 168 + n) hn ⟨Ok_refl h, by omega⟩ (fun i y h1 h2 h3 => ⟨Ok_tr h3.1 (Ok_day (Ok_R h3.1 hR) h3.1.2), by rw [(day_rd (Ok_R h3.1 hR) h3.1.2).2.2.1]; have := h3.2; omega⟩)).2
theorem cdays_168 (hR : InvR S) (h : InvL S) (hn : 0 ≤ n) : cdaysF n S 168 = S 168 + n :=
  (loopI_pi (P := fun n X => Ok S X ∧ X 168 = S 168 + n) hn ⟨Ok_refl h, by omega⟩ (fun i y h1 h2 h3 => ⟨Ok_tr h3.1 (Ok_cday (Ok_R h3.1 hR) h3.1.2), by rw [cday_168 (Ok_R h3.1 hR) h3.1.2]; have := h3.2; omega⟩)).2
end SPJ
