section SPR2
variable {d : Nat} {G : GG} {c : CC} {Q : Option AV → HH → Prop} {v0 v1 v2 N : Int}
theorem InvR_1 (h : InvR (c 190)) : 0 ≤ c 190 1 ∧ c 190 1 ≤ 8 := by have := h.1; omega
theorem rowF_skip {S : SS} {i k : Int} (h : k ≤ i) : rowF i k S = S := if_neg (by omega)
theorem r_day_j (hG : Shp G) (h0 : 0 ≤ v1) (h1 : v1 < N) (hN : N ≤ 8) : ∀ j, v1 + 1 ≤ j → j ≤ N → ∀ c : CC, c 190 1 = N → InvR (c 190) → InvL (c 190) → T (d + 2) 202 2 [some (aR 188), some (aI (v1 + 1)), none] [] (G, q_uf c 190 (loopR (rowF v1) j N (c 190))) (QM Q) → T (d + 2) 202 16 [some (aR 188), some (aI v1), some (aI j)] [] (G, c) (QM Q) := by
  refine int_ind ?_ ?_
  · intro c e hR hI hk
    rw [loopR_e (by omega), uf_id] at hk
    refine b202_16 hG TM_eqo rfl (by intros; omega) (by intros; omega) ?_ ?_
    · intro p1; exact hk
    · intro p1; omega
  · intro j h2 h3 ih c e hR hI hk
    refine b202_16 hG TM_eqo rfl (by intros; omega) (by intros; omega) ?_ ?_
    · intro p1; omega
    · intro p1
      refine r_settles hG hR hI h0 (by omega) (by omega) (by omega) (by omega) ?_
      refine b202_32 hG ?_
      have hf : rowF v1 j (c 190) = settF (c 190) v1 j := if_pos (by omega)
      have hs := SmR_sett (S := c 190) (i := v1) (j := j) h0 (by omega) (by omega) (by omega)
      refine ih _ ?_ ?_ ?_ ?_
      · rw [uf_e, hs 1 (by omega)]; exact e
      · rw [uf_e]; exact InvR_sm hs hR
      · rw [uf_e]; exact InvL_sett hR hI h0 (by omega) (by omega) (by omega) (by omega)
      · rw [uf_e, uf_uf, ← hf, ← loopR_s h3]; exact hk
theorem r_day_i (hG : Shp G) (hN : N ≤ 8) : ∀ i, 0 ≤ i → i ≤ N → ∀ c : CC, c 190 1 = N → InvR (c 190) → InvL (c 190) → T (d + 2) 202 46 [some (aR 188), some (aI 0), none] [] (G, q_uf c 190 (loopR (fun i S => loopI (rowF i) (S 1) S) i N (c 190))) (QM Q) → T (d + 2) 202 2 [some (aR 188), some (aI i), none] [] (G, c) (QM Q) := by
  refine int_ind ?_ ?_
  · intro c e hR hI hk
    have := hR.1
    rw [loopR_e (by omega), uf_id] at hk
    refine b202_2 hG rfl (by intros; omega) (by intros; omega) ?_ ?_
    · intro p1; exact hk
    · intro p1; omega
  · intro i h2 h3 ih c e hR hI hk
    have := hR.1
    refine b202_2 hG rfl (by intros; omega) (by intros; omega) ?_ ?_
    · intro p1; omega
    · intro p1
      refine r_day_j hG h2 h3 hN (i + 1) (by omega) (by omega) c e hR hI ?_
      have he : loopR (rowF i) (i + 1) N (c 190) = loopI (rowF i) (c 190 1) (c 190) := by
        rw [e, ← loopR_0, loopR_skip (i := 0) (j := i + 1) (by omega) (by omega) (fun k h4 h5 => rowF_skip (by omega))]
      have ho := Ok_rows (X := c 190) (i := i) (n := c 190 1) hR (Ok_refl hI) h2 (by omega) (by omega)
      rw [he]
      refine ih _ ?_ ?_ ?_ ?_
      · rw [uf_e, Ok_1 ho]; exact e
      · rw [uf_e]; exact Ok_R ho hR
      · rw [uf_e]; exact ho.2
      · rw [uf_e, uf_uf]
        rw [loopR_s h3] at hk
        exact hk
theorem r_day_g (hG : Shp G) : ∀ i, 0 ≤ i → i ≤ 64 → ∀ c : CC, InvR (c 190) → InvL (c 190) → T (d + 2) 202 134 [some (aR 188), some (aI 0), none] [] (G, q_uf c 190 (loopR growF i 64 (c 190))) (QM Q) → T (d + 2) 202 46 [some (aR 188), some (aI i), none] [] (G, c) (QM Q) := by
  refine int_ind ?_ ?_
  · intro c hR hI hk
    rw [loopR_e (by omega), uf_id] at hk
    refine b202_46 hG (by intros; omega) ?_ (by intros; omega) (by intros; omega) rfl (by intros; omega) rfl rfl ?_ ?_
    · intro p1; exact hk
    · intro p1; omega
    · intro p1; omega
  · intro i h2 h3 ih c hR hI hk
    have hr := hR.1
    have hi := hI.2.2.1 i h2 h3
    rw [loopR_s h3] at hk
    refine b202_46 hG (by intros; omega) ?_ (by intros; omega) (by intros; omega) rfl (by intros; omega) rfl rfl ?_ ?_
    · intro p1; omega
    · intro p1 p2
      refine r_lesser hG (by omega) (by omega) ?_
      have hf : growF i (c 190) = q_u1 (q_u1 (c 190) 170 (c 190 170 + (thenF (c 190) i - c 190 (205 + i)))) (205 + i) (thenF (c 190) i) := if_neg p2
      refine b202_91 hG TM_eqo rfl (by intros; omega) (by intros; omega) rfl ?_
      have hs := SmR_grow (S := c 190) (k := i) h2 h3
      refine ih _ ?_ ?_ ?_ <;> rw [up_uf (c := c), uf_up, uf_e, show lsr 99999 (c 190 (205 + i) + c 190 2) = thenF (c 190) i from rfl, ← hf]
      · exact InvR_sm hs hR
      · exact InvL_grow hR hI h2 h3
      · rw [uf_uf]; exact hk
    · intro p1 p2
      have hf : growF i (c 190) = c 190 := if_pos p2
      rw [hf] at hk
      exact ih c hR hI hk
theorem r_day_a (hG : Shp G) (hN : N ≤ 8) : ∀ i, 0 ≤ i → i ≤ N → ∀ c : CC, c 190 1 = N → InvR (c 190) → InvL (c 190) → Q none (G, q_uf c 190 (tickF (loopR ageF i N (c 190)))) → T (d + 2) 202 134 [some (aR 188), some (aI i), none] [] (G, c) (QM Q) := by
  refine int_ind ?_ ?_
  · intro c e hR hI hz
    have := hR.1
    rw [loopR_e (by omega)] at hz
    refine b202_134 hG rfl (by intros; omega) (by intros; omega) rfl ?_ (by intros; omega) (by intros; omega) (by intros; omega) (by intros; omega) (up_n (by omega)) (by intros; omega) (by intros; omega) (by intros; omega) (up_n (by omega)) up_e (by intros; omega) ?_ ?_ ?_
    · intro p1
      rw [up_uf (c := c), uf_up]; exact hz
    · intro p1; omega
    · intro p1; omega
    · intro p1; omega
  · intro i h2 h3 ih c e hR hI hz
    have := hR.1
    have hi := hI.1 i h2 (by omega)
    rw [loopR_s h3] at hz
    have hs := SmR_age (S := c 190) (k := i) h2 (by omega)
    have e1 : ageF i (c 190) 1 = N := by rw [hs 1 (by omega)]; exact e
    have ih2 := ih (q_uf c 190 (ageF i (c 190))) (by rw [uf_e]; exact e1) (by rw [uf_e]; exact InvR_sm hs hR) (by rw [uf_e]; exact InvL_age hR hI h2 (by omega)) (by rw [uf_e, uf_uf]; exact hz)
    refine b202_134 hG rfl (by intros; omega) (by intros; omega) rfl ?_ (by intros; omega) (by intros; omega) (by intros; omega) (by intros; omega) (up_n (by omega)) (by intros; omega) (by intros; omega) (by intros; omega) (up_n (by omega)) up_e (by intros; omega) ?_ ?_ ?_
    · intro p1; omega
    · intro p1 p2 p3
      have hf : ageF i (c 190) = q_u1 (q_u1 (c 190) (197 + i) 0) (181 + i) (c 190 (181 + i) - 1) := by
        unfold ageF
        rw [if_neg p2, if_neg p3]
      rw [up_uf (c := c), uf_up, ← hf]
      exact ih2
    · intro p1 p2 p3
      have hf : ageF i (c 190) = q_u1 (q_u1 (q_u1 (c 190) (197 + i) 0) (181 + i) (c 190 (181 + i) - 1)) (173 + i) 0 := by
        unfold ageF
        rw [if_neg p2, if_pos p3]
      rw [up_uf (c := c), uf_up, uf_up, ← hf]
      exact ih2
    · intro p1 p2
      have hf : ageF i (c 190) = q_u1 (c 190) (197 + i) 0 := if_pos p2
      rw [up_uf (c := c), ← hf]
      exact ih2
theorem r_day (hG : Shp G) (hR : InvR (c 190)) (hI : InvL (c 190)) (hz : Q none (G, q_uf c 190 (dayF (c 190)))) : TM (d + 2) 202 [aR 188] (G, c) Q := by
  have hr := hR.1
  refine b202_0 hG ?_
  refine r_day_i hG (N := c 190 1) (by omega) 0 (by omega) (by omega) c rfl hR hI ?_
  rw [loopR_0]
  have h1 := Ok_pairs hR hI
  refine r_day_g hG 0 (by omega) (by omega) _ ?_ ?_ ?_
  · rw [uf_e]; exact Ok_R h1 hR
  · rw [uf_e]; exact h1.2
  rw [loopR_0, uf_uf, uf_e]
  have h2 := Ok_preday hR hI
  refine r_day_a hG (N := growsF (pairsF (c 190)) 1) (by rw [Ok_1 h2]; omega) 0 (by omega) (by rw [Ok_1 h2]; omega) _ ?_ ?_ ?_ ?_
  · rw [uf_e]; rfl
  · rw [uf_e]; exact Ok_R h2 hR
  · rw [uf_e]; exact h2.2
  · rw [uf_uf, uf_e, loopR_0]
    exact hz
theorem r_clerkOf_l (hG : Shp G) (hR : InvR (c 190)) (hI : InvL (c 190)) (h0 : 0 ≤ v1) (h1 : v1 < 8) : ∀ (n : Nat) (k : Int), 0 ≤ k → k + n = c 190 0 → Q (some (aI (clkL n k (c 190) v1))) (G, c) → T (d + 2) 203 29 [some (aR 188), some (aI v1), none, some (aI k)] [] (G, c) (QM Q) := by
  have hr := hR.1
  intro n
  induction n with
  | zero =>
    intro k h2 h3 hz
    refine b203_29 hG rfl (by intros; omega) (by intros; omega) ?_ ?_
    · intro p1; exact hz
    · intro p1; omega
  | succ n ih =>
    intro k h2 h3 hz
    unfold clkL at hz
    refine b203_29 hG rfl (by intros; omega) (by intros; omega) ?_ ?_
    · intro p1; omega
    · intro p1
      refine r_whyOf hG hR hI h0 h1 h2 p1 ?_
      have hb := why_b (S := c 190) (s := v1) (k := k)
      refine b203_45 hG (by intros; omega) ?_ ?_
      · intro p2
        rw [if_neg p2] at hz
        exact ih (k + 1) (by omega) (by omega) hz
      · intro p2
        rw [if_pos p2] at hz
        exact hz
theorem r_clerkOf (hG : Shp G) (hR : InvR (c 190)) (hI : InvL (c 190)) (h0 : 0 ≤ v1) (h1 : v1 < 8) (hz : Q (some (aI (clkF (c 190) v1))) (G, c)) : TM (d + 2) 203 [aR 188, aI v1] (G, c) Q := by
  have hr := hR.1
  have hw := hR.2.2.2.2.1 v1 h0 h1
  unfold clkF at hz
  have hl := fun hz => r_clerkOf_l (d := d) (Q := Q) hG hR hI h0 h1 (c 190 0).toNat 0 (by omega) (by omega) hz
  refine b203_0 hG TM_eqo (by intros; omega) (by intros; omega) rfl (by intros; omega) ?_ ?_
  · intro p1
    rw [if_neg (by omega)] at hz
    exact hl hz
  · intro p1
    refine r_whyOf hG hR hI h0 h1 p1 (by omega) ?_
    have hb := why_b (S := c 190) (s := v1) (k := c 190 (59 + v1) - 1)
    refine b203_22 hG TM_eqo (by intros; omega) ?_ ?_
    · intro p2
      rw [if_neg (by omega)] at hz
      exact hl hz
    · intro p2
      rw [if_pos (by omega)] at hz
      exact hz
theorem r_clerks_l (hG : Shp G) (hN : N ≤ 8) : ∀ i, 0 ≤ i → i ≤ N → ∀ c : CC, c 190 1 = N → InvR (c 190) → InvL (c 190) → Q none (G, q_uf c 190 (loopR clk1 i N (c 190))) → T (d + 3) 204 2 [some (aR 188), some (aI i), none] [] (G, c) (QM Q) := by
  refine int_ind ?_ ?_
  · intro c e hR hI hz
    have := hR.1
    rw [loopR_e (by omega), uf_id] at hz
    refine b204_2 hG rfl (by intros; omega) (by intros; omega) ?_ ?_
    · intro p1; exact hz
    · intro p1; omega
  · intro i h2 h3 ih c e hR hI hz
    have := hR.1
    rw [loopR_s h3] at hz
    refine b204_2 hG rfl (by intros; omega) (by intros; omega) ?_ ?_
    · intro p1; omega
    · intro p1
      refine r_clerkOf hG hR hI h2 (by omega) ?_
      have hc := clkF_spec (S := c 190) (s := i) hR h2 (by omega)
      have ho := Ok_clk1 (X := c 190) hR (Ok_refl hI) h2 p1
      refine b204_17 hG TM_eqo (by intros; omega) ?_ ?_
      · intro p2
        have hf : clk1 i (c 190) = c 190 := if_neg (by omega)
        refine b204_28 hG ?_
        rw [hf] at hz
        exact ih c e hR hI hz
      · intro p2
        have hf : clk1 i (c 190) = bornF (c 190) i (clkF (c 190) i) := if_pos p2
        refine r_born hG h2 (by omega) p2 (by omega) ?_
        refine b204_28 hG ?_
        rw [← hf]
        refine ih _ ?_ ?_ ?_ ?_
        · rw [uf_e, Ok_1 ho]; exact e
        · rw [uf_e]; exact Ok_R ho hR
        · rw [uf_e]; exact ho.2
        · rw [uf_e, uf_uf]; exact hz
theorem r_clerks (hG : Shp G) (hR : InvR (c 190)) (hI : InvL (c 190)) (hz : Q none (G, q_uf c 190 (clksF (c 190)))) : TM (d + 3) 204 [aR 188] (G, c) Q := by
  have hr := hR.1
  refine b204_0 hG ?_
  refine r_clerks_l hG (N := c 190 1) (by omega) 0 (by omega) (by omega) c rfl hR hI ?_
  rw [loopR_0]
  exact hz
theorem r_clerkDay (hG : Shp G) (hR : InvR (c 190)) (hI : InvL (c 190)) (hz : Q none (G, q_uf c 190 (cdayF (c 190)))) : TM (d + 4) 205 [aR 188] (G, c) Q := by
  refine b205_0 hG ?_
  refine r_clerks hG hR hI ?_
  have ho := Ok_clks hR hI
  refine b205_4 hG TM_eqo ?_
  refine r_day hG (by rw [uf_e]; exact Ok_R ho hR) (by rw [uf_e]; exact ho.2) ?_
  refine b205_8 hG ?_
  rw [uf_uf, uf_e]
  exact hz
end SPR2
