section SPI
variable {S S' : Int → Int} {s k i j n x y : Int}
theorem room_c (h9 : S' (9 + k) = S (9 + k)) (h1 : S' 1 = S 1) (h : ∀ i, 0 ≤ i → i < S 1 → S' (197 + i) = S (197 + i) ∧ S' (173 + i) = S (173 + i)) : room S' k = room S k := by
  unfold room
  rw [h9, h1]
  rw [sumI_c (f := isAs S' k) (g := isAs S k) (fun i h1 h2 => by unfold isAs; rw [(h i h1 h2).1, (h i h1 h2).2])]
theorem isAs_01 : 0 ≤ isAs S k i ∧ isAs S k i ≤ 1 := by
  unfold isAs
  omega
theorem room_le (h : 0 ≤ S 1) : room S k ≤ S (9 + k) := by
  unfold room
  have := sumI_ge0 (f := isAs S k) (n := S 1) (fun i _ _ => isAs_01.1)
  omega
theorem InvL_debt (hI : InvL S) (h : ∀ i, i < 205 → ¬ i = 169 → ¬ i = 170 → S' i = S i) (a3 : ∀ i, 0 ≤ i → i < 64 → 0 ≤ S' (205 + i) ∧ S' (205 + i) ≤ 99999) (a4 : ∀ x y, 0 ≤ x → x < 8 → 0 ≤ y → y < 8 → (S 1 ≤ x ∨ S 1 ≤ y ∨ x = y) → S' (205 + 8 * x + y) = 0) (a7 : 0 ≤ S' 169 ∧ 0 ≤ S' 170) (a8 : ∀ x y, 0 ≤ x → x < 8 → 0 ≤ y → y < 8 → S' (269 + 8 * x + y) = S' (269 + 8 * y + x) ∧ 0 ≤ S' (269 + 8 * x + y) ∧ S' (269 + 8 * x + y) ≤ 99) (hs : 0 ≤ S 1 ∧ S 1 ≤ 8) (hk : S 0 ≤ 6) : InvL S' := by
  obtain ⟨b1, b2, b3, b4, b5, b6, b7, b8⟩ := hI
  have e0 := h 0 (by omega) (by omega) (by omega)
  have e1 := h 1 (by omega) (by omega) (by omega)
  refine ⟨?_, ?_, a3, ?_, ?_, ?_, ?_, a8⟩
  · intro s h1 h2
    rw [h (173 + s) (by omega) (by omega) (by omega), h (181 + s) (by omega) (by omega) (by omega), h (189 + s) (by omega) (by omega) (by omega), h (197 + s) (by omega) (by omega) (by omega), e0, e1]
    exact b1 s h1 h2
  · intro s h1 h2
    rw [h (173 + s) (by omega) (by omega) (by omega), h (51 + s) (by omega) (by omega) (by omega)]
    exact b2 s h1 h2
  · rw [e1]; exact a4
  · intro k h1 h2
    rw [e0] at h2
    rw [room_c (h (9 + k) (by omega) (by omega) (by omega)) e1 (fun i h3 h4 => ⟨h _ (by omega) (by omega) (by omega), h _ (by omega) (by omega) (by omega)⟩)]
    exact b5 k h1 h2
  · rw [h 171 (by omega) (by omega) (by omega), b6]
    exact sumI_c (fun i h1 h2 => (h (189 + i) (by omega) (by omega) (by omega)).symm)
  · exact ⟨by rw [h 168 (by omega) (by omega) (by omega)]; exact b7.1, a7⟩
theorem lsr_b {a b : Int} : lsr a b ≤ a ∧ lsr a b ≤ b ∧ (0 ≤ a → 0 ≤ b → 0 ≤ lsr a b) := by
  unfold lsr
  omega
theorem mtF_b (hR : InvR S) (hI : InvL S) (h1 : 0 ≤ i) (h2 : i < 8) (h3 : 0 ≤ j) (h4 : j < 8) : 0 ≤ mtF S i j ∧ mtF S i j ≤ 99 := by
  unfold mtF
  split
  · have := hI.1 i h1 h2
    have := hI.1 j h3 h4
    have := hR.1
    have h5 := hR.2.2.1 (6 * S (173 + i) + S (173 + j) - 7) (by omega) (by omega)
    rw [show 15 + (6 * S (173 + i) + S (173 + j) - 7) = 15 + 6 * S (173 + i) + S (173 + j) - 7 by omega] at h5
    exact h5
  · omega
theorem sett_b (hR : InvR S) (hI : InvL S) (h1 : 0 ≤ i) (h2 : i < 8) (h3 : 0 ≤ j) (h4 : j < 8) : 0 ≤ fsF S i j ∧ 0 ≤ sdF S i j ∧ fsF S i j ≤ S (205 + 8 * i + j) ∧ sdF S i j ≤ S (205 + 8 * j + i) ∧ fsF S i j + sdF S i j ≤ 99 := by
  have hm := mtF_b hR hI h1 h2 h3 h4
  have d1 := hI.2.2.1 (8 * i + j) (by omega) (by omega)
  have d2 := hI.2.2.1 (8 * j + i) (by omega) (by omega)
  rw [show 205 + (8 * i + j) = 205 + 8 * i + j by omega] at d1
  rw [show 205 + (8 * j + i) = 205 + 8 * j + i by omega] at d2
  have a1 : fsF S i j ≤ mtF S i j ∧ fsF S i j ≤ S (205 + 8 * i + j) ∧ (0 ≤ mtF S i j → 0 ≤ S (205 + 8 * i + j) → 0 ≤ fsF S i j) := lsr_b
  have a2 : sdF S i j ≤ mtF S i j - fsF S i j ∧ sdF S i j ≤ S (205 + 8 * j + i) ∧ (0 ≤ mtF S i j - fsF S i j → 0 ≤ S (205 + 8 * j + i) → 0 ≤ sdF S i j) := lsr_b
  have := a1.2.2 hm.1 d1.1
  have := a2.2.2 (by omega) d2.1
  omega
theorem sett_rd (h1 : 0 ≤ i) (h2 : i < 8) (h3 : 0 ≤ j) (h4 : j < 8) (hij : ¬ i = j) : (∀ q, q < 205 → ¬ q = 169 → settF S i j q = S q) ∧ settF S i j 169 = S 169 + (fsF S i j + sdF S i j) ∧ (∀ x y, 0 ≤ x → x < 8 → 0 ≤ y → y < 8 → settF S i j (205 + 8 * x + y) = if x = i ∧ y = j then S (205 + 8 * i + j) - fsF S i j else if x = j ∧ y = i then S (205 + 8 * j + i) - sdF S i j else S (205 + 8 * x + y)) ∧ (∀ x y, 0 ≤ x → x < 8 → 0 ≤ y → y < 8 → settF S i j (269 + 8 * x + y) = if (x = i ∧ y = j) ∨ (x = j ∧ y = i) then fsF S i j + sdF S i j else S (269 + 8 * x + y)) := by
  refine ⟨?_, ?_, ?_, ?_⟩
  · intro q h5 h6
    unfold settF
    rw [u1_n h6, u1_n (by omega), u1_n (by omega), u1_n (by omega), u1_n (by omega)]
  · unfold settF
    rw [u1_e]
  · intro x y h5 h6 h7 h8
    unfold settF
    rw [u1_n (by omega), u1_n (by omega), u1_n (by omega)]
    by_cases e2 : x = j ∧ y = i
    · rw [if_neg (by omega), if_pos e2, e2.1, e2.2, u1_e]
    · rw [u1_n (by omega), if_neg e2]
      by_cases e1 : x = i ∧ y = j
      · rw [if_pos e1, e1.1, e1.2, u1_e]
      · rw [u1_n (by omega), if_neg e1]
  · intro x y h5 h6 h7 h8
    unfold settF
    rw [u1_n (by omega)]
    by_cases e2 : x = j ∧ y = i
    · rw [if_pos (by omega), e2.1, e2.2, u1_e]
    · rw [u1_n (by omega)]
      by_cases e1 : x = i ∧ y = j
      · rw [if_pos (by omega), e1.1, e1.2, u1_e]
      · rw [u1_n (by omega), if_neg (by omega), u1_n (by omega), u1_n (by omega)]
theorem pair64 {P : Int → Prop} (h : ∀ x y, 0 ≤ x → x < 8 → 0 ≤ y → y < 8 → P (8 * x + y)) (hi : 0 ≤ i) (hi2 : i < 64) : P i := by
  have := h (i / 8) (i % 8) (by omega) (by omega) (by omega) (by omega)
  rwa [show 8 * (i / 8) + i % 8 = i by omega] at this
theorem InvL_sett (hR : InvR S) (hI : InvL S) (h1 : 0 ≤ i) (h2 : i < 8) (h3 : 0 ≤ j) (h4 : j < 8) (hij : ¬ i = j) : InvL (settF S i j) := by
  obtain ⟨r1, r2, r3, r4⟩ := sett_rd (S := S) h1 h2 h3 h4 hij
  obtain ⟨c1, c2, c3, c4, c5⟩ := sett_b hR hI h1 h2 h3 h4
  have hr := hR.1
  refine InvL_debt hI (fun q h5 h6 _ => r1 q h5 h6) ?_ ?_ ?_ ?_ (by omega) (by omega)
  · intro q h5 h6
    refine pair64 (P := fun q => 0 ≤ settF S i j (205 + q) ∧ settF S i j (205 + q) ≤ 99999) ?_ h5 h6
    intro x y h5 h6 h7 h8
    have d1 := hI.2.2.1 (8 * i + j) (by omega) (by omega)
    have d2 := hI.2.2.1 (8 * j + i) (by omega) (by omega)
    have d3 := hI.2.2.1 (8 * x + y) (by omega) (by omega)
    rw [show 205 + (8 * i + j) = 205 + 8 * i + j by omega] at d1
    rw [show 205 + (8 * j + i) = 205 + 8 * j + i by omega] at d2
    rw [show 205 + (8 * x + y) = 205 + 8 * x + y by omega] at d3 ⊢
    rw [r3 x y h5 h6 h7 h8]
    omega
  · intro x y h5 h6 h7 h8 h9
    have d := hI.2.2.2.1 x y h5 h6 h7 h8 h9
    rw [r3 x y h5 h6 h7 h8]
    by_cases e1 : x = i ∧ y = j
    · obtain ⟨rfl, rfl⟩ := e1
      rw [if_pos ⟨rfl, rfl⟩]; omega
    · rw [if_neg e1]
      by_cases e2 : x = j ∧ y = i
      · obtain ⟨rfl, rfl⟩ := e2
        rw [if_pos ⟨rfl, rfl⟩]; omega
      · rw [if_neg e2]; exact d
  · rw [r2, r1 170 (by omega) (by omega)]
    have := hI.2.2.2.2.2.2.1
    omega
  · intro x y h5 h6 h7 h8
    rw [r4 x y h5 h6 h7 h8, r4 y x h7 h8 h5 h6]
    have := hI.2.2.2.2.2.2.2 x y h5 h6 h7 h8
    omega
theorem InvL_row (hR : InvR S) (hI : InvL S) (h1 : 0 ≤ i) (h2 : i < 8) (h3 : 0 ≤ j) (h4 : j < 8) : InvL (rowF i j S) := by
  unfold rowF
  split
  · exact InvL_sett hR hI h1 h2 h3 h4 (by omega)
  · exact hI
theorem grow_rd (h1 : 0 ≤ k) (h2 : k < 64) : (∀ q, q < 205 → ¬ q = 170 → growF k S q = S q) ∧ (∀ q, 269 ≤ q → growF k S q = S q) ∧ growF k S 170 = (if S (205 + k) = 0 then S 170 else S 170 + (thenF S k - S (205 + k))) ∧ (∀ q, 0 ≤ q → q < 64 → growF k S (205 + q) = if q = k ∧ ¬ S (205 + k) = 0 then thenF S k else S (205 + q)) := by
  unfold growF
  by_cases hz : S (205 + k) = 0
  · refine ⟨fun q _ _ => by rw [if_pos hz], fun q _ => by rw [if_pos hz], by rw [if_pos hz, if_pos hz], fun q _ _ => by rw [if_pos hz, if_neg (by omega)]⟩
  · refine ⟨fun q h5 h6 => by rw [if_neg hz, u1_n (by omega), u1_n (by omega)], fun q h5 => by rw [if_neg hz, u1_n (by omega), u1_n (by omega)], by rw [if_neg hz, if_neg hz, u1_n (by omega), u1_e], fun q h5 h6 => ?_⟩
    rw [if_neg hz]
    by_cases hq : q = k
    · rw [if_pos ⟨hq, hz⟩, hq, u1_e]
    · rw [if_neg (by omega), u1_n (by omega), u1_n (by omega)]
theorem then_b (hR : InvR S) (hI : InvL S) (h1 : 0 ≤ k) (h2 : k < 64) : S (205 + k) ≤ thenF S k ∧ thenF S k ≤ 99999 ∧ thenF S k ≤ S (205 + k) + 9 := by
  have := hI.2.2.1 k h1 h2
  have := hR.1
  unfold thenF lsr
  omega
theorem InvL_grow (hR : InvR S) (hI : InvL S) (h1 : 0 ≤ k) (h2 : k < 64) : InvL (growF k S) := by
  obtain ⟨r1, r2, r3, r4⟩ := grow_rd (S := S) h1 h2
  have hb := then_b hR hI h1 h2
  have hr := hR.1
  have h0 := hI.2.2.1 k h1 h2
  refine InvL_debt hI (fun q h5 _ h6 => r1 q h5 h6) ?_ ?_ ?_ ?_ (by omega) (by omega)
  · intro q h5 h6
    rw [r4 q h5 h6]
    have := hI.2.2.1 q h5 h6
    omega
  · intro x y h5 h6 h7 h8 h9
    have d := hI.2.2.2.1 x y h5 h6 h7 h8 h9
    rw [show 205 + 8 * x + y = 205 + (8 * x + y) by omega] at d ⊢
    rw [r4 (8 * x + y) (by omega) (by omega)]
    by_cases e : 8 * x + y = k
    · rw [e] at d
      rw [if_neg (by omega), e]; exact d
    · rw [if_neg (by omega)]; exact d
  · rw [r3, r1 169 (by omega) (by omega)]
    have := hI.2.2.2.2.2.2.1
    split <;> omega
  · intro x y h5 h6 h7 h8
    rw [r2 _ (by omega), r2 _ (by omega)]
    exact hI.2.2.2.2.2.2.2 x y h5 h6 h7 h8
theorem age_rd (h1 : 0 ≤ k) (h2 : k < 8) : (∀ q, ¬ q = 173 + k → ¬ q = 181 + k → ¬ q = 197 + k → ageF k S q = S q) ∧ ageF k S (197 + k) = 0 ∧ ageF k S (173 + k) = (if S (181 + k) - 1 = 0 then 0 else S (173 + k)) ∧ ageF k S (181 + k) = (if S (173 + k) = 0 then S (181 + k) else S (181 + k) - 1) ∨ S (173 + k) = 0 ∧ ageF k S = q_u1 S (197 + k) 0 := by
  by_cases hz : S (173 + k) = 0
  · right
    refine ⟨hz, ?_⟩
    unfold ageF
    rw [if_pos hz]
  · left
    unfold ageF
    rw [if_neg hz, if_neg hz]
    by_cases hl : S (181 + k) - 1 = 0
    · rw [if_pos hl, if_pos hl]
      refine ⟨fun q h3 h4 h5 => by rw [u1_n h3, u1_n h4, u1_n h5], by rw [u1_n (by omega), u1_n (by omega), u1_e], by rw [u1_e], by rw [u1_n (by omega), u1_e]⟩
    · rw [if_neg hl, if_neg hl]
      refine ⟨fun q h3 h4 h5 => by rw [u1_n h4, u1_n h5], by rw [u1_n (by omega), u1_e], by rw [u1_n (by omega), u1_n (by omega)], by rw [u1_e]⟩
theorem age_rd2 (hI : InvL S) (h1 : 0 ≤ k) (h2 : k < 8) : (∀ q, ¬ q = 173 + k → ¬ q = 181 + k → ¬ q = 197 + k → ageF k S q = S q) ∧ ageF k S (197 + k) = 0 ∧ ageF k S (181 + k) = (if S (181 + k) - 1 < 0 then 0 else S (181 + k) - 1) ∧ ageF k S (173 + k) = (if (if S (181 + k) - 1 < 0 then 0 else S (181 + k) - 1) = 0 then 0 else S (173 + k)) := by
  have hk := hI.1 k h1 h2
  rcases age_rd (S := S) h1 h2 with ⟨r1, r2, r3, r4⟩ | ⟨hz, e⟩
  · refine ⟨r1, r2, ?_, ?_⟩
    · rw [r4]
      omega
    · rw [r3]
      omega
  · rw [e]
    refine ⟨fun q _ _ h => u1_n h, u1_e, ?_, ?_⟩
    · rw [u1_n (by omega)]
      omega
    · rw [u1_n (by omega)]
      omega
theorem InvL_age (hR : InvR S) (hI : InvL S) (h1 : 0 ≤ k) (h2 : k < 8) : InvL (ageF k S) := by
  obtain ⟨r1, r2, r3, r4⟩ := age_rd2 hI h1 h2
  obtain ⟨b1, b2, b3, b4, b5, b6, b7, b8⟩ := hI
  have hr := hR.1
  have e0 := r1 0 (by omega) (by omega) (by omega)
  have e1 := r1 1 (by omega) (by omega) (by omega)
  have hk := b1 k h1 h2
  refine ⟨?_, ?_, ?_, ?_, ?_, ?_, ?_, ?_⟩
  · intro s h3 h4
    rw [e0, e1, r1 (189 + s) (by omega) (by omega) (by omega)]
    by_cases hs : s = k
    · subst hs
      rw [r2, r3, r4]
      omega
    · rw [r1 (173 + s) (by omega) (by omega) (by omega), r1 (181 + s) (by omega) (by omega) (by omega), r1 (197 + s) (by omega) (by omega) (by omega)]
      exact b1 s h3 h4
  · intro s h3 h4
    rw [r1 (51 + s) (by omega) (by omega) (by omega)]
    by_cases hs : s = k
    · subst hs
      rw [r4]
      by_cases hz : (if S (181 + s) - 1 < 0 then 0 else S (181 + s) - 1) = 0
      · rw [if_pos hz]; omega
      · rw [if_neg hz]; exact b2 s h3 h4
    · rw [r1 (173 + s) (by omega) (by omega) (by omega)]
      exact b2 s h3 h4
  · intro i h3 h4
    rw [r1 (205 + i) (by omega) (by omega) (by omega)]
    exact b3 i h3 h4
  · intro x y h3 h4 h5 h6
    rw [e1, r1 (205 + 8 * x + y) (by omega) (by omega) (by omega)]
    exact b4 x y h3 h4 h5 h6
  · intro q h3 h4
    rw [e0] at h4
    have h5 := b5 q h3 h4
    unfold room at h5 ⊢
    rw [r1 (9 + q) (by omega) (by omega) (by omega), e1]
    have : sumI (isAs (ageF k S) q) (S 1) ≤ sumI (isAs S q) (S 1) := sumI_le (fun i h6 h7 => by
      unfold isAs
      by_cases hi : i = k
      · subst hi
        rw [r2]
        rw [if_neg (by omega)]
        split <;> omega
      · rw [r1 (197 + i) (by omega) (by omega) (by omega), r1 (173 + i) (by omega) (by omega) (by omega)]
        omega)
    omega
  · rw [r1 171 (by omega) (by omega) (by omega), b6]
    exact sumI_c (fun i h3 h4 => (r1 (189 + i) (by omega) (by omega) (by omega)).symm)
  · rw [r1 168 (by omega) (by omega) (by omega), r1 169 (by omega) (by omega) (by omega), r1 170 (by omega) (by omega) (by omega)]
    exact b7
  · intro x y h3 h4 h5 h6
    rw [r1 (269 + 8 * x + y) (by omega) (by omega) (by omega), r1 (269 + 8 * y + x) (by omega) (by omega) (by omega)]
    exact b8 x y h3 h4 h5 h6
theorem tick_rd : (∀ q, ¬ q = 168 → ¬ q = 172 → tickF S q = S q) ∧ tickF S 168 = S 168 + 1 ∧ tickF S 172 = 1 := by
  unfold tickF
  exact ⟨fun q h1 h2 => by rw [u1_n h2, u1_n h1], by rw [u1_n (by omega), u1_e], u1_e⟩
theorem InvL_tick (hR : InvR S) (hI : InvL S) : InvL (tickF S) := by
  obtain ⟨r1, r2, r3⟩ := tick_rd (S := S)
  obtain ⟨b1, b2, b3, b4, b5, b6, b7, b8⟩ := hI
  have hr := hR.1
  have e0 := r1 0 (by omega) (by omega)
  have e1 := r1 1 (by omega) (by omega)
  refine ⟨?_, ?_, ?_, ?_, ?_, ?_, ?_, ?_⟩
  · intro s h3 h4
    rw [e0, e1, r1 (189 + s) (by omega) (by omega), r1 (173 + s) (by omega) (by omega), r1 (181 + s) (by omega) (by omega), r1 (197 + s) (by omega) (by omega)]
    exact b1 s h3 h4
  · intro s h3 h4
    rw [r1 (51 + s) (by omega) (by omega), r1 (173 + s) (by omega) (by omega)]
    exact b2 s h3 h4
  · intro i h3 h4
    rw [r1 (205 + i) (by omega) (by omega)]
    exact b3 i h3 h4
  · intro x y h3 h4 h5 h6
    rw [e1, r1 (205 + 8 * x + y) (by omega) (by omega)]
    exact b4 x y h3 h4 h5 h6
  · intro q h3 h4
    rw [e0] at h4
    rw [room_c (S := S) (r1 (9 + q) (by omega) (by omega)) e1 (fun i h5 h6 => ⟨r1 _ (by omega) (by omega), r1 _ (by omega) (by omega)⟩)]
    exact b5 q h3 h4
  · rw [r1 171 (by omega) (by omega), b6]
    exact sumI_c (fun i h3 h4 => (r1 (189 + i) (by omega) (by omega)).symm)
  · rw [r2, r1 169 (by omega) (by omega), r1 170 (by omega) (by omega)]
    omega
  · intro x y h3 h4 h5 h6
    rw [r1 (269 + 8 * x + y) (by omega) (by omega), r1 (269 + 8 * y + x) (by omega) (by omega)]
    exact b8 x y h3 h4 h5 h6
theorem born_rd (h1 : 0 ≤ s) (h2 : s < 8) : (∀ q, ¬ q = 173 + s → ¬ q = 181 + s → ¬ q = 197 + s → ¬ q = 189 + s → ¬ q = 171 → bornF S s k q = S q) ∧ bornF S s k (173 + s) = k + 1 ∧ bornF S s k (181 + s) = S (3 + k) ∧ bornF S s k (197 + s) = 1 ∧ bornF S s k (189 + s) = S (189 + s) + 1 ∧ bornF S s k 171 = S 171 + 1 := by
  unfold bornF livesF
  refine ⟨fun q h3 h4 h5 h6 h7 => by rw [u1_n h7, u1_n h6, u1_n h5, u1_n h4, u1_n h3], ?_, ?_, ?_, ?_, u1_e⟩
  · rw [u1_n (by omega), u1_n (by omega), u1_n (by omega), u1_n (by omega), u1_e]
  · rw [u1_n (by omega), u1_n (by omega), u1_n (by omega), u1_e]
  · rw [u1_n (by omega), u1_n (by omega), u1_e]
  · rw [u1_n (by omega), u1_e]
theorem bt_01 : bt x k = 0 ∨ bt x k = 1 := by
  unfold bt q_and
  generalize Int32.ofInt (q_shr x k) = z
  have h : (z &&& Int32.ofInt 1) = 0 ∨ (z &&& Int32.ofInt 1) = 1 := by
    rw [← Int32.toBitVec_inj, ← Int32.toBitVec_inj, Int32.toBitVec_and]
    have : (Int32.ofInt 1).toBitVec = 1#32 := rfl
    rw [this]
    show z.toBitVec &&& 1#32 = 0#32 ∨ z.toBitVec &&& 1#32 = 1#32
    rw [BitVec.and_one_eq_setWidth_ofBool_getLsbD]
    cases z.toBitVec.getLsbD 0
    · left; rfl
    · right; rfl
  rcases h with h | h
  · left; rw [h]; rfl
  · right; rw [h]; rfl
theorem why_0 (h : whyF S s k = 0) : S (173 + s) ≤ 0 ∧ bt (S (51 + s)) k = 1 ∧ ¬ room S k = 0 := by
  unfold whyF at h
  by_cases h1 : 0 < S (173 + s)
  · rw [if_pos h1] at h; omega
  · rw [if_neg h1] at h
    by_cases h2 : bt (S (51 + s)) k = 0
    · rw [if_pos h2] at h; omega
    · rw [if_neg h2] at h
      by_cases h3 : room S k = 0
      · rw [if_pos h3] at h; omega
      · exact ⟨by omega, by have := bt_01 (x := S (51 + s)) (k := k); omega, h3⟩
theorem why_b : 0 ≤ whyF S s k ∧ whyF S s k ≤ 3 := by
  unfold whyF
  omega
theorem room_born (hR : InvR S) (hI : InvL S) (h1 : 0 ≤ s) (h2 : s < S 1) (hw : S (173 + s) ≤ 0) (hx : 0 ≤ x) (hx2 : x < S 0) : room (bornF S s k) x = room S x - (if x = k then 1 else 0) := by
  have hr := hR.1
  obtain ⟨r1, r2, r3, r4, r5, r6⟩ := born_rd (S := S) (s := s) (k := k) h1 (by omega)
  have hs := hI.1 s h1 (by omega)
  unfold room
  rw [r1 (9 + x) (by omega) (by omega) (by omega) (by omega) (by omega), r1 1 (by omega) (by omega) (by omega) (by omega) (by omega)]
  rw [sumI_u (f := isAs S x) (g := isAs (bornF S s k) x) h1 h2 (fun q h3 h4 h5 => by
    unfold isAs
    rw [r1 (197 + q) (by omega) (by omega) (by omega) (by omega) (by omega), r1 (173 + q) (by omega) (by omega) (by omega) (by omega) (by omega)])]
  have e1 : isAs S x s = 0 := if_neg (by omega)
  have e2 : isAs (bornF S s k) x s = if x = k then 1 else 0 := by
    unfold isAs
    rw [r4, r2]
    by_cases hk : x = k
    · rw [if_pos (by omega), if_pos hk]
    · rw [if_neg (by omega), if_neg hk]
  rw [e1, e2]
  omega
theorem InvL_born (hR : InvR S) (hI : InvL S) (h1 : 0 ≤ s) (h2 : s < S 1) (h3 : 0 ≤ k) (h4 : k < S 0) (hw : whyF S s k = 0) : InvL (bornF S s k) := by
  have hr := hR.1
  obtain ⟨w1, w2, w3⟩ := why_0 hw
  obtain ⟨r1, r2, r3, r4, r5, r6⟩ := born_rd (S := S) (s := s) (k := k) h1 (by omega)
  have hroom := fun x (hx : 0 ≤ x) (hx2 : x < S 0) => room_born (k := k) hR hI h1 h2 w1 hx hx2
  obtain ⟨b1, b2, b3, b4, b5, b6, b7, b8⟩ := hI
  have e0 := r1 0 (by omega) (by omega) (by omega) (by omega) (by omega)
  have e1 := r1 1 (by omega) (by omega) (by omega) (by omega) (by omega)
  have hk := hR.2.1 k h3 h4
  have hs := b1 s h1 (by omega)
  refine ⟨?_, ?_, ?_, ?_, ?_, ?_, ?_, ?_⟩
  · intro t h5 h6
    rw [e0, e1]
    by_cases ht : t = s
    · subst ht
      rw [r2, r3, r4, r5]
      omega
    · rw [r1 (173 + t) (by omega) (by omega) (by omega) (by omega) (by omega), r1 (181 + t) (by omega) (by omega) (by omega) (by omega) (by omega), r1 (189 + t) (by omega) (by omega) (by omega) (by omega) (by omega), r1 (197 + t) (by omega) (by omega) (by omega) (by omega) (by omega)]
      exact b1 t h5 h6
  · intro t h5 h6
    rw [r1 (51 + t) (by omega) (by omega) (by omega) (by omega) (by omega)]
    by_cases ht : t = s
    · subst ht
      rw [r2, show k + 1 - 1 = k by omega]
      exact fun _ => w2
    · rw [r1 (173 + t) (by omega) (by omega) (by omega) (by omega) (by omega)]
      exact b2 t h5 h6
  · intro i h5 h6
    rw [r1 (205 + i) (by omega) (by omega) (by omega) (by omega) (by omega)]
    exact b3 i h5 h6
  · intro x y h5 h6 h7 h8
    rw [e1, r1 (205 + 8 * x + y) (by omega) (by omega) (by omega) (by omega) (by omega)]
    exact b4 x y h5 h6 h7 h8
  · intro q h5 h6
    rw [e0] at h6
    rw [hroom q h5 h6]
    have := b5 q h5 h6
    by_cases hq : q = k
    · subst hq
      rw [if_pos rfl]
      omega
    · rw [if_neg hq]
      omega
  · rw [r6, b6]
    rw [sumI_u (f := fun i => S (189 + i)) (g := fun i => bornF S s k (189 + i)) h1 (show s < 8 by omega) (fun q h5 h6 h7 => r1 (189 + q) (by omega) (by omega) (by omega) (by omega) (by omega))]
    show _ = _ + (bornF S s k (189 + s) - S (189 + s))
    rw [r5]
    omega
  · rw [r1 168 (by omega) (by omega) (by omega) (by omega) (by omega), r1 169 (by omega) (by omega) (by omega) (by omega) (by omega), r1 170 (by omega) (by omega) (by omega) (by omega) (by omega)]
    exact b7
  · intro x y h5 h6 h7 h8
    rw [r1 (269 + 8 * x + y) (by omega) (by omega) (by omega) (by omega) (by omega), r1 (269 + 8 * y + x) (by omega) (by omega) (by omega) (by omega) (by omega)]
    exact b8 x y h5 h6 h7 h8
end SPI
