section SPIm
variable {d : Nat} {G : GG} {c c' cA cB cA1 cB1 cA' cB' : CC} {Q : Option AV → HH → Prop} {v1 v2 n i j x s k : Int} {S S' : SS} {a b e : Nat}
def EqS (S S' : SS) : Prop := ∀ i, 0 ≤ i → i < 514 → S' i = S i
theorem room_q (h : EqS S S') (h1 : 0 ≤ S 1 ∧ S 1 ≤ 8) (hk : 0 ≤ k) (hk2 : k < 6) : room S' k = room S k :=
  room_c (h _ (by omega) (by omega)) (h 1 (by omega) (by omega)) (fun i q1 q2 => ⟨h _ (by omega) (by omega), h _ (by omega) (by omega)⟩)
theorem GS_q (h : EqS S S') (hS : GS S) : GS S' := by
  obtain ⟨⟨a1, a2, a3, a4, a5, a6, a7⟩, ⟨b1, b2, b3, b4, b5, b6, b7, b8⟩, ⟨d1, d2, d3, d4⟩, d5⟩ := hS
  have e0 := h 0 (by omega) (by omega)
  have e1 := h 1 (by omega) (by omega)
  have e2 := h 2 (by omega) (by omega)
  have e68 := h 168 (by omega) (by omega)
  have e69 := h 169 (by omega) (by omega)
  have e70 := h 170 (by omega) (by omega)
  have e71 := h 171 (by omega) (by omega)
  have e72 := h 172 (by omega) (by omega)
  refine ⟨⟨?_, ?_, ?_, ?_, ?_, ?_, ?_⟩, ⟨?_, ?_, ?_, ?_, ?_, ?_, ?_, ?_⟩, ⟨?_, ?_, ?_, ?_⟩, ?_⟩
  · rw [e0, e1, e2]; exact a1
  · intro k p q
    rw [h (3 + k) (by omega) (by omega), h (9 + k) (by omega) (by omega)]
    exact a2 k p (by omega)
  · intro k p q
    rw [h (15 + k) (by omega) (by omega)]
    exact a3 k p q
  · intro x y p q r t
    rw [h (15 + 6 * x + y) (by omega) (by omega), h (15 + 6 * y + x) (by omega) (by omega)]
    exact a4 x y p q r t
  · intro s p q
    rw [h (51 + s) (by omega) (by omega), h (59 + s) (by omega) (by omega), e0]
    exact a5 s p q
  · intro i p q
    rw [h (67 + i) (by omega) (by omega)]
    exact a6 i p q
  · intro x y p q r t u
    rw [h (67 + 8 * x + y) (by omega) (by omega)]
    exact a7 x y p q r t (by omega)
  · intro s p q
    rw [h (173 + s) (by omega) (by omega), h (181 + s) (by omega) (by omega), h (189 + s) (by omega) (by omega), h (197 + s) (by omega) (by omega), e0, e1]
    exact b1 s p q
  · intro s p q
    rw [h (173 + s) (by omega) (by omega), h (51 + s) (by omega) (by omega)]
    exact b2 s p q
  · intro i p q
    rw [h (205 + i) (by omega) (by omega)]
    exact b3 i p q
  · intro x y p q r t u
    rw [h (205 + 8 * x + y) (by omega) (by omega)]
    exact b4 x y p q r t (by omega)
  · intro k p q
    rw [room_q h (by omega) p (by omega)]
    exact b5 k p (by omega)
  · rw [e71, b6]
    exact sumI_c (fun i p q => (h (189 + i) (by omega) (by omega)).symm)
  · rw [e68, e69, e70]; exact b7
  · intro x y p q r t
    rw [h (269 + 8 * x + y) (by omega) (by omega), h (269 + 8 * y + x) (by omega) (by omega)]
    exact b8 x y p q r t
  · rw [e69, e68]; exact d1
  · rw [e70, e68]; exact d2
  · intro s p q
    rw [h (189 + s) (by omega) (by omega), h (197 + s) (by omega) (by omega), e68]
    exact d3 s p q
  · rw [e72, e68]; exact d4
  · rw [e68]; exact d5
theorem RR_q (h : EqS S S') (hr : 0 ≤ S 0 ∧ S 0 ≤ 6 ∧ S 1 ≤ 8) (hR : RR c b S) : RR c b S' := by
  obtain ⟨h1, h2, h3, h4, h5⟩ := hR
  refine ⟨?_, ?_, ?_, ?_, ?_⟩
  · rw [h 0 (by omega) (by omega), h 1 (by omega) (by omega), h 2 (by omega) (by omega)]; exact h1
  · intro k g1 g2
    rw [h 0 (by omega) (by omega)] at g2
    rw [h (3 + k) (by omega) (by omega), h (9 + k) (by omega) (by omega)]; exact h2 k g1 g2
  · intro k g1 g2
    rw [h (15 + k) (by omega) (by omega)]; exact h3 k g1 g2
  · intro k g1 g2
    rw [h 1 (by omega) (by omega)] at g2
    rw [h (51 + k) (by omega) (by omega), h (59 + k) (by omega) (by omega)]; exact h4 k g1 g2
  · intro k g1 g2
    rw [h (67 + k) (by omega) (by omega)]; exact h5 k g1 g2
theorem LR_q (h : EqS S S') (hr : 0 ≤ S 0 ∧ S 0 ≤ 6 ∧ 0 ≤ S 1 ∧ S 1 ≤ 8) (hL : LR c a S) : LR c a S' := by
  obtain ⟨⟨l1, l2, l3, l4⟩, l5⟩ := hL
  refine ⟨⟨?_, ?_, ?_, ?_⟩, ?_⟩
  · rw [h 168 (by omega) (by omega), h 169 (by omega) (by omega), h 170 (by omega) (by omega)]; exact l1
  · intro i p q
    rw [h (173 + i) (by omega) (by omega), h (181 + i) (by omega) (by omega), h (189 + i) (by omega) (by omega), h (197 + i) (by omega) (by omega)]; exact l2 i p q
  · intro i p q
    rw [h (205 + i) (by omega) (by omega)]; exact l3 i p q
  · intro x y p q r
    rw [h (269 + 8 * x + y) (by omega) (by omega)]; exact l4 x y p q r
  · intro k p q
    rw [h 0 (by omega) (by omega)] at q
    rw [room_q h (by omega) p (by omega)]; exact l5 k p q
theorem SnR_q (h : EqS S S') (hs : SnR c e S) : SnR c e S' := by
  obtain ⟨h1, h2, h3⟩ := hs
  have e3 := h 333 (by omega) (by omega)
  refine ⟨h1, fun p => by rw [e3]; exact h2 p, fun p => ?_⟩
  obtain ⟨g1, g2, g3, g4, dp, g5, g6, g7⟩ := h3 p
  refine ⟨by rw [e3]; exact g1, by rw [e3]; exact g2, by rw [e3]; exact g3, fun i p1 p2 => ?_, dp, g5, by rw [e3]; exact g6, fun i p1 p2 => ?_⟩
  · rw [e3] at p2
    have := g4 i p1 p2
    unfold CdR at this ⊢
    rw [h (334 + 3 * i) (by omega) (by omega), h (335 + 3 * i) (by omega) (by omega), h (336 + 3 * i) (by omega) (by omega), h 0 (by omega) (by omega), h 1 (by omega) (by omega)]
    exact this
  · rw [e3] at p2
    rw [h (334 + 3 * i) (by omega) (by omega)]
    exact g7 i p1 p2
theorem Nms_q {f f' : Nat} {off off' : Int} (h : Nms cA b cB f off S) (hS : S' 0 = S 0 ∧ S' 1 = S 1) (hr : S 0 ≤ 6 ∧ S 1 ≤ 8) (hA : (∀ j, 0 ≤ j → j < 6 → cA' (a + 1) j = cA (b + 1) j) ∧ ∀ j, 0 ≤ j → j < 8 → cA' (a + 2) j = cA (b + 2) j) (hB : ∀ j, 0 ≤ j → j < 14 → cB' f' (off' + j) = cB f (off + j)) : Nms cA' a cB' f' off' S' := by
  refine ⟨fun j p q => ?_, fun j p q => ?_⟩
  · rw [hA.1 j p (by omega), hB j p (by omega)]
    exact h.1 j p (by omega)
  · rw [hA.2 j p (by omega), show off' + 6 + j = off' + (6 + j) by omega, hB (6 + j) (by omega) (by omega), show off + (6 + j) = off + 6 + j by omega]
    exact h.2 j p (by omega)
theorem Ruls_b (h : Ruls a) : 9 ≤ a ∧ a ≤ 165 := by
  have h2 : ∀ a ∈ [9, 18, 142, 165], 9 ≤ a ∧ a ≤ 165 := by decide
  exact h2 a h
theorem c_copyRules (hG : Shp G) (h_a : Ruls a) (h_b : Ruls b) (hab : a + 8 < b ∨ b + 8 < a) (hz : ∀ c', (∀ r, (r < a ∨ a + 8 < r) → c' r = c r) → (∀ S, InvR S → RR c b S → RR c' a S) → ((∀ j, 0 ≤ j → j < 6 → c' (a + 1) j = c (b + 1) j) ∧ ∀ j, 0 ≤ j → j < 8 → c' (a + 2) j = c (b + 2) j) → Q none (G, c')) : TM d 78 [aR a, aR b] (G, c) Q := by
  refine b78_0 hG h_a h_b rfl (up_n (by omega)) ((up_n (by omega)).trans (up_n (by omega))) ?_
  refine hz _ (fun r hr => ?_) (fun S hR hL => ?_) ⟨fun j p q => ?_, fun j p q => ?_⟩
  · simp (disch := omega) only [uf_n, up_r]
  · have hr := hR.1
    obtain ⟨⟨l1, l1b, l1c⟩, l2, l3, l4, l5⟩ := hL
    refine ⟨⟨?_, ?_, ?_⟩, ?_, ?_, ?_, ?_⟩
    · simp (disch := omega) only [uf_n, up_r, up_e, up_n]; exact l1
    · simp (disch := omega) only [uf_n, up_r, up_e, up_n]; exact l1b
    · simp (disch := omega) only [uf_n, up_r, up_e, up_n]; exact l1c
    · intro t h1 h2
      simp (disch := omega) only [uf_n, uf_e, up_r, cp0]
      exact l2 t h1 h2
    · intro t h1 h2
      simp (disch := omega) only [uf_n, uf_e, up_r, cp0]
      exact l3 t h1 h2
    · intro t h1 h2
      simp (disch := omega) only [uf_n, uf_e, up_r, cp0]
      exact l4 t h1 h2
    · intro t h1 h2
      simp (disch := omega) only [uf_n, uf_e, up_r, cp0]
      exact l5 t h1 h2
  · simp (disch := omega) only [uf_n, uf_e, up_r, cp0]
  · simp (disch := omega) only [uf_n, uf_e, up_r, cp0]
theorem c_copySent (hG : Shp G) (h_a : Sent a) (h_b : Sent b) (hab : a + 4 < b ∨ b + 4 < a) (ht : c b 7 = 0 ∨ c b 7 = 1) (hz : ∀ c', (∀ r, (r < a ∨ a + 4 < r) → c' r = c r) → (∀ S, SnR c b S → SnR c' a S) → c' a 8 = c b 8 → Q none (G, c')) : TM d 81 [aR a, aR b] (G, c) Q := by
  refine b81_0 hG h_a h_b rfl (ht) (up_n (by omega)) ((up_n (by omega)).trans (up_n (by omega))) ?_
  refine hz _ (fun r hr => ?_) (fun S hs => ?_) ?_
  · simp (disch := omega) only [uf_n, up_r]
  · obtain ⟨h1, h2, h3⟩ := hs
    refine ⟨?_, ?_, ?_⟩
    · simp (disch := omega) only [uf_n, up_r, up_e, up_n]; exact h1
    · simp (disch := omega) only [uf_n, up_r, up_e, up_n]; exact h2
    · intro p
      have p2 : c b 7 = 1 := by
        simp (disch := omega) only [uf_n, up_r, up_e, up_n] at p; exact p
      obtain ⟨g1, g2, g3, g4, g5⟩ := h3 p2
      refine ⟨?_, g2, g3, fun i p q => ?_, g5⟩
      · simp (disch := omega) only [uf_n, up_r, up_e, up_n]; exact g1
      · simp (disch := omega) only [uf_n, uf_e, up_r, cp0]
        exact g4 i p q
  · simp (disch := omega) only [uf_n, up_r, up_e, up_n]
theorem se43 : Sent 43 := by unfold Sent; decide
theorem se48 : Sent 48 := by unfold Sent; decide
theorem ru142 : Ruls 142 := by unfold Ruls; decide
theorem lf151 : Life 151 := by unfold Life; decide
theorem se159 : Sent 159 := by unfold Sent; decide
theorem c_imgKeep141 (hG : Shp G) (h : GR cA cB) (hz : ∀ c', (∀ r, (r < 141 ∨ 163 < r) → c' r = cA r) → c' 141 3 = 1 → RR c' 142 (cB 190) → LR c' 151 (cB 190) → SnR c' 159 (cB 190) → ((∀ j, 0 ≤ j → j < 6 → c' 143 j = cA 10 j) ∧ ∀ j, 0 ≤ j → j < 8 → c' 144 j = cA 11 j) → Q none (G, c')) : TM (d + 1) 17 [aR 141, aR 9, aR 27, aR 43] (G, cA) Q := by
  have hR := h.1.1
  have h_a := ru9
  have h_b := lf27
  have h_e := se43
  refine b17_0 hG h_a h_b h_e TM_eqo ?_
  refine c_copyRules hG ru142 ru9 (Or.inr (by omega)) (fun c1 f1 l1 n1 => ?_)
  refine b17_8 hG h_b h_e TM_eqo ?_
  refine c_copyLife hG lf151 lf27 (Or.inr (by omega)) (fun c2 f2 l2 => ?_)
  refine b17_16 hG h_e TM_eqo ?_
  have e43 : ∀ r, 43 ≤ r → r ≤ 47 → c2 r = cA r := fun r p q => by rw [f2 r (by omega), f1 r (by omega)]
  refine c_copySent hG se159 se43 (Or.inr (by omega)) (by rw [e43 43 (by omega) (by omega)]; exact h.2.1.2.2.1) (fun c3 f3 l3 _ => ?_)
  refine b17_24 hG ?_
  refine hz _ (fun r hr => by rw [up_r (by omega), f3 r (by omega), f2 r (by omega), f1 r (by omega)]) up_e ?_ ?_ ?_ ?_
  · exact RR_fr (l1 _ hR h.2.1.1) (fun r p q => by rw [up_r (by omega), f3 r (by omega), f2 r (by omega)])
  · exact LR_fr (l2 _ hR (LR_fr h.2.2.1 (fun r p q => f1 r (by omega)))) (fun r p q => by rw [up_r (by omega), f3 r (by omega)])
  · refine SnR_fr (l3 _ (SnR_fr h.2.1.2.2 (e43 _ (by omega) (by omega)) (e43 _ (by omega) (by omega)) (e43 _ (by omega) (by omega)) (e43 _ (by omega) (by omega)))) (up_r (by omega)) (up_r (by omega)) (up_r (by omega)) (up_r (by omega))
  · refine ⟨fun j p q => ?_, fun j p q => ?_⟩
    · rw [up_r (by omega), f3 143 (by omega), f2 143 (by omega)]; exact n1.1 j p q
    · rw [up_r (by omega), f3 144 (by omega), f2 144 (by omega)]; exact n1.2 j p q
theorem c_imgBack141 (hG : Shp G) (h : GI1 cA cB 141 0) (hk : cB 210 0 = 1) (hz : ∀ c', (∀ r, (r < 9 ∨ (17 < r ∧ r < 27) ∨ (34 < r ∧ r < 43) ∨ 47 < r) → c' r = cA r) → RR c' 9 (imgF cB 0) → LR c' 27 (imgF cB 0) → SnR c' 43 (imgF cB 0) → ((∀ j, 0 ≤ j → j < 6 → c' 10 j = cA 143 j) ∧ ∀ j, 0 ≤ j → j < 8 → c' 11 j = cA 144 j) → Q none (G, c')) : TM (d + 1) 18 [aR 141, aR 9, aR 27, aR 43] (G, cA) Q := by
  obtain ⟨g1, g2, g3, g4, g5⟩ := h.2.2 hk
  have h_a := ru9
  have h_b := lf27
  have h_e := se43
  refine b18_0 hG h_a h_b h_e TM_eqo ?_
  refine c_copyRules hG ru9 ru142 (Or.inl (by omega)) (fun c1 f1 l1 n1 => ?_)
  refine b18_8 hG h_b h_e TM_eqo ?_
  refine c_copyLife hG lf27 lf151 (Or.inl (by omega)) (fun c2 f2 l2 => ?_)
  refine b18_16 hG h_e TM_eqo ?_
  have e43 : ∀ r, 141 ≤ r → c2 r = cA r := fun r p => by rw [f2 r (by omega), f1 r (by omega)]
  refine c_copySent hG se43 se159 (Or.inl (by omega)) (by rw [e43 159 (by omega)]; exact g4.1) (fun c3 f3 l3 _ => ?_)
  refine b18_24 hG ?_
  refine hz _ (fun r hr => by rw [f3 r (by omega), f2 r (by omega), f1 r (by omega)]) ?_ ?_ ?_ ?_
  · exact RR_fr (l1 _ g1.1 g2) (fun r p q => by rw [f3 r (by omega), f2 r (by omega)])
  · exact LR_fr (l2 _ g1.1 (LR_fr g3 (fun r p q => f1 r (by omega)))) (fun r p q => f3 r (by omega))
  · exact l3 _ (SnR_fr g4 (e43 _ (by omega)) (e43 _ (by omega)) (e43 _ (by omega)) (e43 _ (by omega)))
  · refine ⟨fun j p q => ?_, fun j p q => ?_⟩
    · rw [f3 10 (by omega), f2 10 (by omega)]; exact n1.1 j p q
    · rw [f3 11 (by omega), f2 11 (by omega)]; exact n1.2 j p q
theorem ru165 : Ruls 165 := by unfold Ruls; decide
theorem lf174 : Life 174 := by unfold Life; decide
theorem se182 : Sent 182 := by unfold Sent; decide
theorem c_imgKeep164 (hG : Shp G) (h : GR cA cB) (hz : ∀ c', (∀ r, (r < 164 ∨ 186 < r) → c' r = cA r) → c' 164 3 = 1 → RR c' 165 (cB 190) → LR c' 174 (cB 190) → SnR c' 182 (cB 190) → ((∀ j, 0 ≤ j → j < 6 → c' 166 j = cA 10 j) ∧ ∀ j, 0 ≤ j → j < 8 → c' 167 j = cA 11 j) → Q none (G, c')) : TM (d + 1) 17 [aR 164, aR 9, aR 27, aR 43] (G, cA) Q := by
  have hR := h.1.1
  have h_a := ru9
  have h_b := lf27
  have h_e := se43
  refine b17i_0 hG h_a h_b h_e TM_eqo ?_
  refine c_copyRules hG ru165 ru9 (Or.inr (by omega)) (fun c1 f1 l1 n1 => ?_)
  refine b17i_8 hG h_b h_e TM_eqo ?_
  refine c_copyLife hG lf174 lf27 (Or.inr (by omega)) (fun c2 f2 l2 => ?_)
  refine b17i_16 hG h_e TM_eqo ?_
  have e43 : ∀ r, 43 ≤ r → r ≤ 47 → c2 r = cA r := fun r p q => by rw [f2 r (by omega), f1 r (by omega)]
  refine c_copySent hG se182 se43 (Or.inr (by omega)) (by rw [e43 43 (by omega) (by omega)]; exact h.2.1.2.2.1) (fun c3 f3 l3 _ => ?_)
  refine b17i_24 hG ?_
  refine hz _ (fun r hr => by rw [up_r (by omega), f3 r (by omega), f2 r (by omega), f1 r (by omega)]) up_e ?_ ?_ ?_ ?_
  · exact RR_fr (l1 _ hR h.2.1.1) (fun r p q => by rw [up_r (by omega), f3 r (by omega), f2 r (by omega)])
  · exact LR_fr (l2 _ hR (LR_fr h.2.2.1 (fun r p q => f1 r (by omega)))) (fun r p q => by rw [up_r (by omega), f3 r (by omega)])
  · refine SnR_fr (l3 _ (SnR_fr h.2.1.2.2 (e43 _ (by omega) (by omega)) (e43 _ (by omega) (by omega)) (e43 _ (by omega) (by omega)) (e43 _ (by omega) (by omega)))) (up_r (by omega)) (up_r (by omega)) (up_r (by omega)) (up_r (by omega))
  · refine ⟨fun j p q => ?_, fun j p q => ?_⟩
    · rw [up_r (by omega), f3 166 (by omega), f2 166 (by omega)]; exact n1.1 j p q
    · rw [up_r (by omega), f3 167 (by omega), f2 167 (by omega)]; exact n1.2 j p q
theorem c_imgBack164 (hG : Shp G) (h : GI1 cA cB 164 1) (hk : cB 210 1 = 1) (hz : ∀ c', (∀ r, (r < 9 ∨ (17 < r ∧ r < 27) ∨ (34 < r ∧ r < 43) ∨ 47 < r) → c' r = cA r) → RR c' 9 (imgF cB 1) → LR c' 27 (imgF cB 1) → SnR c' 43 (imgF cB 1) → ((∀ j, 0 ≤ j → j < 6 → c' 10 j = cA 166 j) ∧ ∀ j, 0 ≤ j → j < 8 → c' 11 j = cA 167 j) → Q none (G, c')) : TM (d + 1) 18 [aR 164, aR 9, aR 27, aR 43] (G, cA) Q := by
  obtain ⟨g1, g2, g3, g4, g5⟩ := h.2.2 hk
  have h_a := ru9
  have h_b := lf27
  have h_e := se43
  refine b18i_0 hG h_a h_b h_e TM_eqo ?_
  refine c_copyRules hG ru9 ru165 (Or.inl (by omega)) (fun c1 f1 l1 n1 => ?_)
  refine b18i_8 hG h_b h_e TM_eqo ?_
  refine c_copyLife hG lf27 lf174 (Or.inl (by omega)) (fun c2 f2 l2 => ?_)
  refine b18i_16 hG h_e TM_eqo ?_
  have e43 : ∀ r, 164 ≤ r → c2 r = cA r := fun r p => by rw [f2 r (by omega), f1 r (by omega)]
  refine c_copySent hG se43 se182 (Or.inl (by omega)) (by rw [e43 182 (by omega)]; exact g4.1) (fun c3 f3 l3 _ => ?_)
  refine b18i_24 hG ?_
  refine hz _ (fun r hr => by rw [f3 r (by omega), f2 r (by omega), f1 r (by omega)]) ?_ ?_ ?_ ?_
  · exact RR_fr (l1 _ g1.1 g2) (fun r p q => by rw [f3 r (by omega), f2 r (by omega)])
  · exact LR_fr (l2 _ g1.1 (LR_fr g3 (fun r p q => f1 r (by omega)))) (fun r p q => f3 r (by omega))
  · exact l3 _ (SnR_fr g4 (e43 _ (by omega)) (e43 _ (by omega)) (e43 _ (by omega)) (e43 _ (by omega)))
  · refine ⟨fun j p q => ?_, fun j p q => ?_⟩
    · rw [f3 10 (by omega), f2 10 (by omega)]; exact n1.1 j p q
    · rw [f3 11 (by omega), f2 11 (by omega)]; exact n1.2 j p q
end SPIm
