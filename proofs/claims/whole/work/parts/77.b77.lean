section SPC2
variable {d : Nat} {G : GG} {c c' : CC} {Q : Option AV → HH → Prop} {v0 v1 v2 N i j : Int} {a b : Nat} {S : SS}
theorem cp0 {f g : Int → Int} {n : Int} (h0 : 0 ≤ j) (h1 : j < n) : q_cp f g 0 0 n j = f j := by
  unfold q_cp
  rw [if_pos (by omega)]
  congr 1
  omega
theorem c_day_j (hG : Shp G) (h_a : Life a) (h0 : 0 ≤ v1) (h1 : v1 < N) (hN : N ≤ 8) : ∀ j, v1 + 1 ≤ j → j ≤ N → ∀ (c : CC) (S : SS), S 1 = N → InvR S → InvL S → RR c 9 S → LRd c a S → (∀ c', FrL a c c' → LRd c' a (loopR (rowF v1) j N S) → T (d + 2) 38 2 [some (aR a), some (aI (v1 + 1)), none] [] (G, c') (QM Q)) → T (d + 2) 38 17 [some (aR a), some (aI v1), some (aI j)] [] (G, c) (QM Q) := by
  have hb := Life_b h_a
  refine int_ind ?_ ?_
  · intro c S e hR hI hr hL hk
    have e1 := hr.1
    rw [loopR_e (by omega)] at hk
    refine b38_17 hG h_a TM_eqo rfl (by intros; omega) (by intros; omega) ?_ ?_
    · intro p1; exact hk c FrL_refl hL
    · intro p1; omega
  · intro j h2 h3 ih c S e hR hI hr hL hk
    have e1 := hr.1
    rw [loopR_s h3] at hk
    refine b38_17 hG h_a TM_eqo rfl (by intros; omega) (by intros; omega) ?_ ?_
    · intro p1; omega
    · intro p1
      refine c_soulPair hG ?_
      refine b38_37 hG h_a ?_
      refine c_settlePair hG h_a hR hI hr hL h0 (by omega) (by omega) (by omega) (by omega) (fun g hg => ?_)
      refine b38_43 hG h_a (by intros; omega) (by intros; omega) ((up_n (by omega)).trans ((uf_n2 (by omega)).trans rfl)) ?_
      refine c_soulPair hG ?_
      refine b38_58 hG h_a (by intros; omega) (by intros; omega) rfl ?_
      have hf : rowF v1 j S = settF S v1 j := if_pos (by omega)
      rw [hf] at hk
      have hs := SmR_sett (S := S) (i := v1) (j := j) h0 (by omega) (by omega) (by omega)
      have hfr : FrL a c (q_up (q_up (q_uf c (a + 6) g) (a + 7) (v1 * 8 + j) (fsF S v1 j + sdF S v1 j)) a 2 (c a 2 + (q_up (q_uf c (a + 6) g) (a + 7) (v1 * 8 + j) (fsF S v1 j + sdF S v1 j)) (a + 7) (v1 * 8 + j))) := FrL_up (FrL_up (FrL_uf FrL_refl (by omega) (by omega)) (by omega) (by omega)) (by omega) (by omega)
      obtain ⟨r1, r2, r3, r4⟩ := sett_rd (S := S) (i := v1) (j := j) h0 (by omega) (by omega) (by omega) (by omega)
      obtain ⟨⟨l1, l1b, l1c⟩, l2, l3, l4⟩ := hL
      refine ih _ (settF S v1 j) ?_ (InvR_sm hs hR) (InvL_sett hR hI h0 (by omega) (by omega) (by omega) (by omega)) ?_ ?_ ?_
      · rw [hs 1 (by omega)]; exact e
      · exact RR_S (RR_L hr h_a hfr) hs (by have := hR.1; omega)
      · refine ⟨⟨?_, ?_, ?_⟩, ?_, ?_, ?_⟩
        · rw [up_n (by omega), up_n (by omega), uf_n2 (by omega), r1 168 (by omega) (by omega)]; exact l1
        · rw [up_e, up_e, r2, l1b]
        · rw [up_n (by omega), up_n (by omega), uf_n2 (by omega), r1 170 (by omega) (by omega)]; exact l1c
        · intro t h4 h5
          rw [up_n (by omega), up_n (by omega), uf_n2 (by omega), up_n (by omega), up_n (by omega), uf_n2 (by omega), up_n (by omega), up_n (by omega), uf_n2 (by omega), up_n (by omega), up_n (by omega), uf_n2 (by omega), r1 (173 + t) (by omega) (by omega), r1 (181 + t) (by omega) (by omega), r1 (189 + t) (by omega) (by omega), r1 (197 + t) (by omega) (by omega)]
          exact l2 t h4 h5
        · intro t h4 h5
          rw [up_n (by omega), up_n (by omega), uf_e]
          refine pair64 (P := fun t => g t = settF S v1 j (205 + t)) (fun x y h6 h7 h8 h9 => ?_) h4 h5
          rw [hg x y h6 h7 h8 h9]
          congr 1
          omega
        · intro x y h4 h5 h6
          rw [r4 x y h4 (by omega) (by omega) h6, up_n (by omega)]
          by_cases hxy : x = v1 ∧ y = j
          · rw [if_pos (Or.inl hxy), hxy.1, hxy.2, show v1 * 8 + j = 8 * v1 + j by omega, up_e]
          · rw [if_neg (by omega), up_n (by omega), uf_n2 (by omega)]
            exact l4 x y h4 h5 h6
      · intro c' h4 h5
        exact hk c' (FrL_tr hfr h4) h5
theorem c_day_i (hG : Shp G) (h_a : Life a) (hN : N ≤ 8) : ∀ i, 0 ≤ i → i ≤ N → ∀ (c : CC) (S : SS), S 1 = N → InvR S → InvL S → RR c 9 S → LRd c a S → (∀ c', FrL a c c' → LRd c' a (loopR (fun i S => loopI (rowF i) (S 1) S) i N S) → TM (d + 1) 40 [aR a] (G, c') (fun r h' => T (d + 2) 38 79 [some (aR a), none, none] (r.toList ++ []) h' (QM Q))) → T (d + 2) 38 2 [some (aR a), some (aI i), none] [] (G, c) (QM Q) := by
  refine int_ind ?_ ?_
  · intro c S e hR hI hr hL hk
    have e1 := hr.1
    have := hR.1
    rw [loopR_e (by omega)] at hk
    refine b38_2 hG h_a TM_eqo rfl (by intros; omega) (by intros; omega) ?_ ?_
    · intro p1; exact hk c FrL_refl hL
    · intro p1; omega
  · intro i h2 h3 ih c S e hR hI hr hL hk
    have e1 := hr.1
    have := hR.1
    rw [loopR_s h3] at hk
    refine b38_2 hG h_a TM_eqo rfl (by intros; omega) (by intros; omega) ?_ ?_
    · intro p1; omega
    · intro p1
      refine c_day_j hG h_a h2 h3 hN (i + 1) (by omega) (by omega) c S e hR hI hr hL ?_
      have he : loopR (rowF i) (i + 1) N S = loopI (rowF i) (S 1) S := by
        rw [e, ← loopR_0, loopR_skip (i := 0) (j := i + 1) (by omega) (by omega) (fun k h4 h5 => rowF_skip (by omega))]
      have ho := Ok_rows (X := S) (i := i) (n := S 1) hR (Ok_refl hI) h2 (by omega) (by omega)
      rw [he]
      intro c' h4 h5
      refine ih c' _ ?_ (Ok_R ho hR) ho.2 (RR_S (RR_L hr h_a h4) ho.1 (by omega)) h5 ?_
      · rw [Ok_1 ho]; exact e
      · intro c2 h6 h7
        exact hk c2 (FrL_tr h4 h6) h7
theorem c_grow_l (hG : Shp G) (h_a : Life a) : ∀ i, 0 ≤ i → i ≤ 64 → ∀ (c : CC) (S : SS), InvR S → InvL S → RR c 9 S → LRd c a S → (∀ c', FrL a c c' → LRd c' a (loopR growF i 64 S) → Q none (G, c')) → T d 40 13 [some (aR a), some (aI i), none] [] (G, c) (QM Q) := by
  have hb := Life_b h_a
  refine int_ind ?_ ?_
  · intro c S hR hI hr hL hz
    rw [loopR_e (by omega)] at hz
    refine b40_13 hG h_a TM_eqo (by intros; omega) ?_ (by intros; omega) (by intros; omega) rfl (by intros; omega) ?_ rfl rfl (by intros; omega) rfl rfl ?_
    · intro p1; exact hz c FrL_refl hL
    · intro p1; omega
    · intro p1; omega
  · intro i h2 h3 ih c S hR hI hr hL hz
    have hr2 := hR.1
    have e1 := hr.1
    have hi := hI.2.2.1 i h2 h3
    have li := hL.2.2.1 i h2 h3
    rw [loopR_s h3] at hz
    refine b40_13 hG h_a TM_eqo (by intros; omega) ?_ (by intros; omega) (by intros; omega) rfl (by intros; omega) ?_ rfl rfl (by intros; omega) rfl rfl ?_
    · intro p1; omega
    · intro p1 p2
      have hf : growF i S = S := if_pos (by omega)
      rw [hf] at hz
      exact ih c S hR hI hr hL hz
    · intro p1 p2
      have ht : (if 99999 < c (a + 6) i + c 9 2 then 99999 else c (a + 6) i + c 9 2) = thenF S i := by
        unfold thenF lsr; rw [li, e1.2.2]
      rw [ht]
      obtain ⟨r1, r2, r3, r4⟩ := grow_rd (S := S) (k := i) h2 h3
      obtain ⟨⟨l1, l1b, l1c⟩, l2, l3, l4⟩ := hL
      have hs := SmR_grow (S := S) (k := i) h2 h3
      have hfr : FrL a c (q_up (q_up c a 3 (c a 3 + (thenF S i - c (a + 6) i))) (a + 6) i (thenF S i)) := FrL_up (FrL_up FrL_refl (by omega) (by omega)) (by omega) (by omega)
      refine ih _ (growF i S) (InvR_sm hs hR) (InvL_grow hR hI h2 h3) (RR_S (RR_L hr h_a hfr) hs (by omega)) ?_ ?_
      · refine ⟨⟨?_, ?_, ?_⟩, ?_, ?_, ?_⟩
        · rw [up_n (by omega), up_n (by omega), r1 168 (by omega) (by omega)]; exact l1
        · rw [up_n (by omega), up_n (by omega), r1 169 (by omega) (by omega)]; exact l1b
        · rw [up_n (by omega), up_e, r3, if_neg (by omega), l1c, li]
        · intro t h4 h5
          rw [up_n (by omega), up_n (by omega), up_n (by omega), up_n (by omega), up_n (by omega), up_n (by omega), up_n (by omega), up_n (by omega), r1 (173 + t) (by omega) (by omega), r1 (181 + t) (by omega) (by omega), r1 (189 + t) (by omega) (by omega), r1 (197 + t) (by omega) (by omega)]
          exact l2 t h4 h5
        · intro t h4 h5
          rw [r4 t h4 h5]
          by_cases ht : t = i
          · subst ht
            rw [up_e, if_pos ⟨rfl, by omega⟩]
          · rw [up_n (by omega), up_n (by omega), if_neg (by omega)]
            exact l3 t h4 h5
        · intro x y h4 h5 h6
          rw [up_n (by omega), up_n (by omega), r2 _ (by omega)]
          exact l4 x y h4 h5 h6
      · intro c' h4 h5
        exact hz c' (FrL_tr hfr h4) h5
theorem grow_0 (hR : InvR S) (hI : InvL S) (h : S 2 = 0) : growsF S = S := by
  refine loopI_id (fun i h1 h2 => ?_)
  have := hI.2.2.1 i h1 h2
  unfold growF
  by_cases hz : S (205 + i) = 0
  · rw [if_pos hz]
  · rw [if_neg hz]
    have ht : thenF S i = S (205 + i) := by unfold thenF lsr; rw [h]; omega
    rw [ht]
    funext q
    by_cases h3 : q = 205 + i
    · rw [h3, u1_e]
    · rw [u1_n h3]
      by_cases h4 : q = 170
      · rw [h4, u1_e]; omega
      · rw [u1_n h4]
theorem c_grow (hG : Shp G) (h_a : Life a) (hR : InvR S) (hI : InvL S) (hr : RR c 9 S) (hL : LRd c a S) (hz : ∀ c', FrL a c c' → LRd c' a (growsF S) → Q none (G, c')) : TM d 40 [aR a] (G, c) Q := by
  have hr2 := hR.1
  have e1 := hr.1
  refine b40_0 hG h_a rfl (by intros; omega) ?_ ?_
  · intro p1
    refine c_grow_l hG h_a 0 (by omega) (by omega) c S hR hI hr hL ?_
    rw [loopR_0]
    exact hz
  · intro p1
    rw [grow_0 hR hI (by omega)] at hz
    exact hz c FrL_refl hL
theorem room_full {S : SS} {k : Int} (h : ∀ i, 0 ≤ i → i < S 1 → S (197 + i) = 0) : room S k = S (9 + k) := by
  unfold room
  have : sumI (isAs S k) (S 1) = sumI (isAs S k) 0 := by
    by_cases h1 : S 1 ≤ 0
    · rw [sumI_0 h1, sumI_0 (by omega)]
    · exact sumI_z (by omega) (by omega) (fun i h2 h3 => by unfold isAs; rw [if_neg (by rw [h i h2 h3]; omega)])
  rw [this, sumI_0 (by omega)]
  omega
theorem c_age_l (hG : Shp G) (h_a : Life a) (hN : N ≤ 8) : ∀ i, 0 ≤ i → i ≤ N → ∀ (c : CC) (S : SS), S 1 = N → InvR S → InvL S → RR c 9 S → LRd c a S → (∀ q, 0 ≤ q → q < i → S (197 + q) = 0) → (∀ c', FrL a c c' → LR c' a (tickF (loopR ageF i N S)) → Q none (G, c')) → T (d + 2) 38 81 [some (aR a), some (aI i), none] [] (G, c) (QM Q) := by
  have hb := Life_b h_a
  refine int_ind ?_ ?_
  · intro c S e hR hI hr hL h0 hz
    have hr2 := hR.1
    have e1 := hr.1
    rw [loopR_e (by omega)] at hz
    obtain ⟨t1, t2, t3⟩ := tick_rd (S := S)
    obtain ⟨⟨l1, l1b, l1c⟩, l2, l3, l4⟩ := hL
    refine b38_81 hG h_a rfl (by intros; omega) (by intros; omega) (uf_n2 (by omega)) ?_ (by intros; omega) (by intros; omega) rfl (by intros; omega) rfl (by intros; omega) ?_ ?_
    · intro p1
      refine hz _ (FrL_up (FrL_uf FrL_refl (by omega) (by omega)) (by omega) (by omega)) ⟨⟨⟨?_, ?_, ?_⟩, ?_, ?_, ?_⟩, ?_⟩
      · rw [up_e, t2, l1]
      · rw [up_n (by omega), uf_n2 (by omega), t1 169 (by omega) (by omega)]; exact l1b
      · rw [up_n (by omega), uf_n2 (by omega), t1 170 (by omega) (by omega)]; exact l1c
      · intro t h4 h5
        rw [up_n (by omega), uf_n2 (by omega), up_n (by omega), uf_n2 (by omega), up_n (by omega), uf_n2 (by omega), up_n (by omega), uf_n2 (by omega), t1 (173 + t) (by omega) (by omega), t1 (181 + t) (by omega) (by omega), t1 (189 + t) (by omega) (by omega), t1 (197 + t) (by omega) (by omega)]
        exact l2 t h4 h5
      · intro t h4 h5
        rw [up_n (by omega), uf_n2 (by omega), t1 (205 + t) (by omega) (by omega)]
        exact l3 t h4 h5
      · intro x y h4 h5 h6
        rw [up_n (by omega), uf_n2 (by omega), t1 (269 + 8 * x + y) (by omega) (by omega)]
        exact l4 x y h4 h5 h6
      · intro k h4 h5
        rw [t1 0 (by omega) (by omega)] at h5
        rw [room_c (S := S) (t1 (9 + k) (by omega) (by omega)) (t1 1 (by omega) (by omega)) (fun i h5 h6 => ⟨t1 _ (by omega) (by omega), t1 _ (by omega) (by omega)⟩)]
        rw [room_full (fun i h6 h7 => h0 i h6 (by omega)), up_n (by omega), uf_e, cp0 h4 (by omega)]
        exact (hr.2.1 k h4 h5).2
    · intro p1; omega
    · intro p1; omega
  · intro i h2 h3 ih c S e hR hI hr hL h0 hz
    have hr2 := hR.1
    have e1 := hr.1
    have hi := hI.1 i h2 (by omega)
    have li := hL.2.1 i h2 (by omega)
    rw [loopR_s h3] at hz
    have hs := SmR_age (S := S) (k := i) h2 (by omega)
    obtain ⟨r1, r2, r3, r4⟩ := age_rd2 hI h2 (show i < 8 by omega)
    obtain ⟨⟨l1, l1b, l1c⟩, l2, l3, l4⟩ := hL
    have fin : ∀ c', FrL a c c' → c' a = c a → (∀ t, 0 ≤ t → t < 8 → ¬ t = i → c' (a + 1) t = c (a + 1) t ∧ c' (a + 2) t = c (a + 2) t ∧ c' (a + 4) t = c (a + 4) t) → c' (a + 1) i = ageF i S (173 + i) - 1 → c' (a + 2) i = ageF i S (181 + i) → c' (a + 4) i = 0 → c' (a + 3) = c (a + 3) → c' (a + 6) = c (a + 6) → c' (a + 7) = c (a + 7) → T (d + 2) 38 81 [some (aR a), some (aI (i + 1)), none] [] (G, c') (QM Q) := by
      intro c' hfr ea ht f1 f2 f4 f3 f6 f7
      refine ih c' (ageF i S) ?_ (InvR_sm hs hR) (InvL_age hR hI h2 (by omega)) (RR_S (RR_L hr h_a hfr) hs (by omega)) ⟨⟨?_, ?_, ?_⟩, ?_, ?_, ?_⟩ ?_ ?_
      · rw [hs 1 (by omega)]; exact e
      · rw [ea, r1 168 (by omega) (by omega) (by omega)]; exact l1
      · rw [ea, r1 169 (by omega) (by omega) (by omega)]; exact l1b
      · rw [ea, r1 170 (by omega) (by omega) (by omega)]; exact l1c
      · intro t h4 h5
        rw [f3, r1 (189 + t) (by omega) (by omega) (by omega)]
        obtain ⟨q1, q2, q3, q4⟩ := l2 t h4 h5
        by_cases hti : t = i
        · subst hti
          rw [f1, f2, f4, r2]
          exact ⟨rfl, rfl, q3, rfl⟩
        · obtain ⟨g1, g2, g4⟩ := ht t h4 h5 hti
          rw [g1, g2, g4, r1 (173 + t) (by omega) (by omega) (by omega), r1 (181 + t) (by omega) (by omega) (by omega), r1 (197 + t) (by omega) (by omega) (by omega)]
          exact ⟨q1, q2, q3, q4⟩
      · intro t h4 h5
        rw [f6, r1 (205 + t) (by omega) (by omega) (by omega)]
        exact l3 t h4 h5
      · intro x y h4 h5 h6
        rw [f7, r1 (269 + 8 * x + y) (by omega) (by omega) (by omega)]
        exact l4 x y h4 h5 h6
      · intro q h4 h5
        by_cases hq : q = i
        · subst hq; exact r2
        · rw [r1 (197 + q) (by omega) (by omega) (by omega)]
          exact h0 q h4 (by omega)
      · intro c2 h6 h7
        exact hz c2 (FrL_tr hfr h6) h7
    have el : (if c (a + 2) i - 1 < 0 then 0 else c (a + 2) i - 1) = ageF i S (181 + i) := by rw [r3, li.2.1]
    rw [← r3] at r4
    refine b38_81 hG h_a rfl (by intros; omega) (by intros; omega) (uf_n2 (by omega)) ?_ (by intros; omega) (by intros; omega) rfl (by intros; omega) up_e (by intros; omega) ?_ ?_
    · intro p1; omega
    · intro p1 p2
      rw [el] at p2 ⊢
      refine fin _ (FrL_up (FrL_up FrL_refl (by omega) (by omega)) (by omega) (by omega)) ?_ ?_ ?_ ?_ ?_ ?_ ?_ ?_
      · rw [up_r (by omega), up_r (by omega)]
      · intro t h4 h5 h6
        rw [up_n (by omega), up_n (by omega), up_n (by omega), up_n (by omega), up_n (by omega), up_n (by omega)]
        exact ⟨rfl, rfl, rfl⟩
      · rw [up_n (by omega), up_n (by omega), r4, if_neg p2]; exact li.1
      · rw [up_n (by omega), up_e]
      · rw [up_e]
      · rw [up_r (by omega), up_r (by omega)]
      · rw [up_r (by omega), up_r (by omega)]
      · rw [up_r (by omega), up_r (by omega)]
    · intro p1 p2
      rw [el] at p2 ⊢
      refine fin _ (FrL_up (FrL_up (FrL_up FrL_refl (by omega) (by omega)) (by omega) (by omega)) (by omega) (by omega)) ?_ ?_ ?_ ?_ ?_ ?_ ?_ ?_
      · rw [up_r (by omega), up_r (by omega), up_r (by omega)]
      · intro t h4 h5 h6
        rw [up_n (by omega), up_n (by omega), up_n (by omega), up_n (by omega), up_n (by omega), up_n (by omega), up_n (by omega), up_n (by omega), up_n (by omega)]
        exact ⟨rfl, rfl, rfl⟩
      · rw [up_n (by omega), up_e, r4, if_pos p2]; omega
      · rw [up_n (by omega), up_n (by omega), up_e]
      · rw [up_e]
      · rw [up_r (by omega), up_r (by omega), up_r (by omega)]
      · rw [up_r (by omega), up_r (by omega), up_r (by omega)]
      · rw [up_r (by omega), up_r (by omega), up_r (by omega)]
theorem c_passDay (hG : Shp G) (h_a : Life a) (hR : InvR S) (hI : InvL S) (hr : RR c 9 S) (hL : LR c a S) (hz : ∀ c', FrL a c c' → LR c' a (dayF S) → Q none (G, c')) : TM (d + 2) 38 [aR a] (G, c) Q := by
  have hr2 := hR.1
  have h1 := Ok_pairs hR hI
  have h2 := Ok_preday hR hI
  refine b38_0 hG h_a ?_
  refine c_day_i hG h_a (N := S 1) (by omega) 0 (by omega) (by omega) c S rfl hR hI hr hL.1 (fun c1 f1 l1 => ?_)
  rw [loopR_0] at l1
  refine c_grow hG h_a (Ok_R h1 hR) h1.2 (RR_S (RR_L hr h_a f1) h1.1 (by omega)) l1 (fun c2 f2 l2 => ?_)
  refine b38_79 hG h_a ?_
  have f12 := FrL_tr f1 f2
  refine c_age_l hG h_a (N := S 1) (by omega) 0 (by omega) (by omega) c2 (growsF (pairsF S)) (Ok_1 h2) (Ok_R h2 hR) h2.2 (RR_S (RR_L hr h_a f12) h2.1 (by omega)) l2 (fun q h4 h5 => by omega) (fun c3 f3 l3 => ?_)
  rw [loopR_0] at l3
  refine hz c3 (FrL_tr f12 f3) ?_
  unfold dayF agesF
  rw [Ok_1 h2]
  exact l3
theorem c_clk_l (hG : Shp G) (h_a : Life a) (hR : InvR S) (hI : InvL S) (hr : RR c 9 S) (hL : LR c a S) (h0 : 0 ≤ v1) (h1 : v1 < S 1) : ∀ (n : Nat) (k : Int), 0 ≤ k → k + n = S 0 → Q (some (aI (clkL n k S v1))) (G, c) → T (d + 2) 37 28 [some (aR a), some (aI v1), none, some (aI k)] [] (G, c) (QM Q) := by
  have hr2 := hR.1
  have e1 := hr.1
  intro n
  induction n with
  | zero =>
    intro k h2 h3 hz
    refine b37_28 hG h_a rfl (by intros; omega) (by intros; omega) ?_ ?_
    · intro p1; exact hz
    · intro p1; omega
  | succ n ih =>
    intro k h2 h3 hz
    unfold clkL at hz
    refine b37_28 hG h_a rfl (by intros; omega) (by intros; omega) ?_ ?_
    · intro p1; omega
    · intro p1
      refine c_whyNot hG h_a hR hI hr hL h0 h1 h2 (by omega) ?_
      have hb := why_b (S := S) (s := v1) (k := k)
      refine b37_45 hG h_a (by intros; omega) ?_ ?_
      · intro p2
        rw [if_neg p2] at hz
        exact ih (k + 1) (by omega) (by omega) hz
      · intro p2
        rw [if_pos p2] at hz
        exact hz
theorem c_clerksChoice (hG : Shp G) (h_a : Life a) (hR : InvR S) (hI : InvL S) (hr : RR c 9 S) (hL : LR c a S) (h0 : 0 ≤ v1) (h1 : v1 < S 1) (hz : Q (some (aI (clkF S v1))) (G, c)) : TM (d + 2) 37 [aR a, aI v1] (G, c) Q := by
  have hr2 := hR.1
  have e1 := hr.1
  have hw := hR.2.2.2.2.1 v1 h0 (by omega)
  have ew := (hr.2.2.2.1 v1 h0 h1).2
  rw [show (9 : Nat) + 7 = 16 from rfl] at ew
  unfold clkF at hz
  have hl := fun hz => c_clk_l (d := d) (Q := Q) hG h_a hR hI hr hL h0 h1 (S 0).toNat 0 (by omega) (by omega) hz
  refine b37_0 hG h_a TM_eqo (by intros; omega) (by intros; omega) rfl (by intros; omega) ?_ ?_
  · intro p1
    rw [if_neg (by omega)] at hz
    exact hl hz
  · intro p1
    rw [ew] at p1 ⊢
    refine c_whyNot hG h_a hR hI hr hL h0 h1 (by omega) (by omega) ?_
    have hb := why_b (S := S) (s := v1) (k := S (59 + v1) - 1)
    refine b37_21 hG h_a TM_eqo (by intros; omega) ?_ ?_
    · intro p2
      rw [if_neg (by omega)] at hz
      exact hl hz
    · intro p2
      rw [if_pos (by omega)] at hz
      exact hz
theorem c_clerks_l (hG : Shp G) (h_a : Life a) (hN : N ≤ 8) : ∀ i, 0 ≤ i → i ≤ N → ∀ (c : CC) (S : SS), S 1 = N → InvR S → InvL S → RR c 9 S → LR c a S → (∀ c', FrL a c c' → LR c' a (loopR clk1 i N S) → Q none (G, c')) → T (d + 3) 36 2 [some (aR a), some (aI i), none] [] (G, c) (QM Q) := by
  refine int_ind ?_ ?_
  · intro c S e hR hI hr hL hz
    have e1 := hr.1
    have := hR.1
    rw [loopR_e (by omega)] at hz
    refine b36_2 hG h_a rfl (by intros; omega) (by intros; omega) ?_ ?_
    · intro p1; exact hz c FrL_refl hL
    · intro p1; omega
  · intro i h2 h3 ih c S e hR hI hr hL hz
    have e1 := hr.1
    have := hR.1
    rw [loopR_s h3] at hz
    refine b36_2 hG h_a rfl (by intros; omega) (by intros; omega) ?_ ?_
    · intro p1; omega
    · intro p1
      refine c_clerksChoice hG h_a hR hI hr hL h2 (by omega) ?_
      have hc := clkF_spec (S := S) (s := i) hR h2 (by omega)
      have ho := Ok_clk1 (X := S) hR (Ok_refl hI) h2 (show i < S 1 by omega)
      refine b36_18 hG h_a TM_eqo (by intros; omega) ?_ ?_
      · intro p2
        have hf : clk1 i S = S := if_neg (by omega)
        refine b36_30 hG h_a ?_
        rw [hf] at hz
        exact ih c S e hR hI hr hL hz
      · intro p2
        have hf : clk1 i S = bornF S i (clkF S i) := if_pos (by omega)
        refine c_giveOut hG h_a hR hI hr hL h2 (by omega) (by omega) (by omega) (why_0 (show whyF S i (clkF S i) = 0 by omega)).1 (fun c1 f1 l1 => ?_)
        refine b36_30 hG h_a ?_
        rw [← hf] at l1
        refine ih c1 _ ?_ (Ok_R ho hR) ho.2 (RR_S (RR_L hr h_a f1) ho.1 (by omega)) l1 (fun c2 f2 l2 => hz c2 (FrL_tr f1 f2) l2)
        rw [Ok_1 ho]; exact e
theorem c_giveByClerk (hG : Shp G) (h_a : Life a) (hR : InvR S) (hI : InvL S) (hr : RR c 9 S) (hL : LR c a S) (hz : ∀ c', FrL a c c' → LR c' a (clksF S) → Q none (G, c')) : TM (d + 3) 36 [aR a] (G, c) Q := by
  have hr2 := hR.1
  refine b36_0 hG h_a ?_
  refine c_clerks_l hG h_a (N := S 1) (by omega) 0 (by omega) (by omega) c S rfl hR hI hr hL (fun c1 f1 l1 => hz c1 f1 ?_)
  rw [loopR_0] at l1
  exact l1
theorem c_passDays (hG : Shp G) (h_a : Life a) (hR : InvR S) (hI : InvL S) (hr : RR c 9 S) (hL : LR c a S) (hv : I32 v1) (hz : ∀ c', FrL a c c' → LR c' a (daysF v1 S) → Q none (G, c')) : TM (d + 3) 33 [aR a, aI v1] (G, c) Q := by
  refine b33_0 hG h_a ?_
  by_cases hn : v1 ≤ 0
  · have : daysF v1 S = S := loopI_0 hn
    rw [this] at hz
    refine b33_2 hG h_a (by intros; omega) (by intros; omega) ?_ ?_
    · intro p1; exact hz c FrL_refl hL
    · intro p1; omega
  have key : ∀ i, 0 ≤ i → i ≤ v1 → ∀ (c : CC) (S : SS), InvR S → InvL S → RR c 9 S → LR c a S → (∀ c', FrL a c c' → LR c' a (loopR (fun _ S => dayF S) i v1 S) → Q none (G, c')) → T (d + 3) 33 2 [some (aR a), some (aI v1), some (aI i)] [] (G, c) (QM Q) := by
    refine int_ind ?_ ?_
    · intro c S hR hI hr hL hz
      rw [loopR_e (by omega)] at hz
      refine b33_2 hG h_a (by intros; omega) (by intros; omega) ?_ ?_
      · intro p1; exact hz c FrL_refl hL
      · intro p1; omega
    · intro i h2 h3 ih c S hR hI hr hL hz
      have := hR.1
      rw [loopR_s h3] at hz
      refine b33_2 hG h_a (by intros; omega) (by intros; omega) ?_ ?_
      · intro p1; omega
      · intro p1
        refine c_passDay hG h_a hR hI hr hL (fun c1 f1 l1 => ?_)
        refine b33_11 hG h_a ?_
        have ho := Ok_day hR hI
        exact ih c1 _ (Ok_R ho hR) ho.2 (RR_S (RR_L hr h_a f1) ho.1 (by omega)) l1 (fun c2 f2 l2 => hz c2 (FrL_tr f1 f2) l2)
  refine key 0 (by omega) (by omega) c S hR hI hr hL (fun c1 f1 l1 => hz c1 f1 ?_)
  rw [loopR_0] at l1
  exact l1
theorem c_passClerkDays (hG : Shp G) (h_a : Life a) (hR : InvR S) (hI : InvL S) (hr : RR c 9 S) (hL : LR c a S) (hv : I32 v1) (hz : ∀ c', FrL a c c' → LR c' a (cdaysF v1 S) → Q none (G, c')) : TM (d + 4) 34 [aR a, aI v1] (G, c) Q := by
  refine b34_0 hG h_a ?_
  by_cases hn : v1 ≤ 0
  · have : cdaysF v1 S = S := loopI_0 hn
    rw [this] at hz
    refine b34_2 hG h_a (by intros; omega) (by intros; omega) ?_ ?_
    · intro p1; exact hz c FrL_refl hL
    · intro p1; omega
  have key : ∀ i, 0 ≤ i → i ≤ v1 → ∀ (c : CC) (S : SS), InvR S → InvL S → RR c 9 S → LR c a S → (∀ c', FrL a c c' → LR c' a (loopR (fun _ S => cdayF S) i v1 S) → Q none (G, c')) → T (d + 4) 34 2 [some (aR a), some (aI v1), some (aI i)] [] (G, c) (QM Q) := by
    refine int_ind ?_ ?_
    · intro c S hR hI hr hL hz
      rw [loopR_e (by omega)] at hz
      refine b34_2 hG h_a (by intros; omega) (by intros; omega) ?_ ?_
      · intro p1; exact hz c FrL_refl hL
      · intro p1; omega
    · intro i h2 h3 ih c S hR hI hr hL hz
      have := hR.1
      rw [loopR_s h3] at hz
      refine b34_2 hG h_a (by intros; omega) (by intros; omega) ?_ ?_
      · intro p1; omega
      · intro p1
        refine c_giveByClerk hG h_a hR hI hr hL (fun c1 f1 l1 => ?_)
        have hc := Ok_clks hR hI
        refine b34_11 hG h_a ?_
        refine c_passDay hG h_a (Ok_R hc hR) hc.2 (RR_S (RR_L hr h_a f1) hc.1 (by omega)) l1 (fun c2 f2 l2 => ?_)
        refine b34_15 hG h_a ?_
        have ho := Ok_cday hR hI
        exact ih c2 _ (Ok_R ho hR) ho.2 (RR_S (RR_L hr h_a (FrL_tr f1 f2)) ho.1 (by omega)) l2 (fun c3 f3 l3 => hz c3 (FrL_tr f1 (FrL_tr f2 f3)) l3)
  refine key 0 (by omega) (by omega) c S hR hI hr hL (fun c1 f1 l1 => hz c1 f1 ?_)
  rw [loopR_0] at l1
  exact l1
theorem c_copyLife (hG : Shp G) (h_a : Life a) (h_b : Life b) (hab : a + 7 < b ∨ b + 7 < a) (hz : ∀ c', FrL a c c' → (∀ S, InvR S → LR c b S → LR c' a S) → Q none (G, c')) : TM d 21 [aR a, aR b] (G, c) Q := by
  refine b21_0 hG h_a h_b rfl (up_n (by omega)) ((up_n (by omega)).trans (up_n (by omega))) ?_
  refine hz _ ?_ ?_
  · repeat (first | exact FrL_refl | (refine FrL_uf ?_ (by omega) (by omega)) | (refine FrL_up ?_ (by omega) (by omega)))
  · intro S hR hL
    have hr := hR.1
    obtain ⟨⟨⟨l1, l1b, l1c⟩, l2, l3, l4⟩, l5⟩ := hL
    refine ⟨⟨⟨?_, ?_, ?_⟩, ?_, ?_, ?_⟩, ?_⟩
    · simp (disch := omega) only [uf_n, up_r, up_e, up_n]; exact l1
    · simp (disch := omega) only [uf_n, up_r, up_e, up_n]; exact l1b
    · simp (disch := omega) only [uf_n, up_r, up_e, up_n]; exact l1c
    · intro t h1 h2
      simp (disch := omega) only [uf_n, uf_e, up_r, cp0]
      exact l2 t h1 h2
    · intro t h1 h2
      simp (disch := omega) only [uf_n, uf_e, up_r, cp0]
      exact l3 t h1 h2
    · intro x y h1 h2 h3
      simp (disch := omega) only [uf_n, uf_e, up_r, cp0]
      exact l4 x y h1 h2 h3
    · intro k h1 h2
      simp (disch := omega) only [uf_n, uf_e, up_r, cp0]
      exact l5 k h1 h2
end SPC2
