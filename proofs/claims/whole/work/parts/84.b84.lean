section SPQ
variable {d : Nat} {G : GG} {c cA cB : CC} {Q : Option AV → HH → Prop} {v0 v1 v2 v : Int} {S : SS} {a : Nat}
theorem op_q {kx km : Nat} {ax : List AV} (h : GR cA cB) (hv : I32 v) (hA : ∀ Q : Option AV → HH → Prop, Q (some (aI v)) (G, cA) → TM d kx (aR 1 :: ax) (G, cA) Q) (hB : ∀ Q : Option AV → HH → Prop, Q (some (aI v)) (G, q_up cB 188 0 0) → TM d km (aR 188 :: ax) (G, cB) Q) : OP G d kx km ax cA cB :=
  hA _ ⟨cA, rfl, fun _ _ => rfl, hB _ ⟨_, rfl, GR_thr h, v, rfl, rfl, hv⟩⟩
def kindV (S : SS) (k w : Int) : Int := if isK S k = 0 then -1 else if w = 0 then S (3 + k) else if w = 1 then S (9 + k) else if w = 2 then room S k else if w = 3 then livF S k else -1
theorem isK_01 {k : Int} : isK S k = 0 ∨ isK S k = 1 := by unfold isK; omega
theorem isSo_01 {k : Int} : isSo S k = 0 ∨ isSo S k = 1 := by unfold isSo; omega
theorem isK_t {k : Int} (h : ¬ isK S k = 0) : 0 ≤ k ∧ k < S 0 := by unfold isK at h; omega
theorem isSo_t {k : Int} (h : ¬ isSo S k = 0) : 0 ≤ k ∧ k < S 1 := by unfold isSo at h; omega
theorem x_kind (hG : Shp G) (hR : InvR S) (hI : InvL S) (hr : RR c 9 S) (hL : LR c 27 S) (h1 : I32 v1) (h2 : I32 v2) (hz : Q (some (aI (kindV S v1 v2))) (G, c)) : TM (d + 1) 119 [aR 1, aI v1, aI v2] (G, c) Q := by
  have g := hR.1
  unfold kindV at hz
  refine b119_0 hG ?_
  refine c_isKind hG hR hr h1 ?_
  have hb := isK_01 (S := S) (k := v1)
  by_cases hk : isK S v1 = 0
  · rw [if_pos hk] at hz
    rw [hk]
    refine b119_8 hG TM_eqo (by intros; omega) (by intros; omega) ?_ (by intros; omega) (by intros; omega) rfl ?_ (by intros; omega) (by intros; omega) rfl ?_ (by intros; omega) (by intros; omega) rfl ?_ ?_ ?_
    · intro p1; exact absurd rfl p1
    · intro p1; exact absurd rfl p1
    · intro p1; exact absurd rfl p1
    · intro p1; exact absurd rfl p1
    · intro p1; exact absurd rfl p1
    · intro p1; exact hz
  · obtain ⟨k1, k2⟩ := isK_t hk
    rw [if_neg hk] at hz
    obtain ⟨e1, e2⟩ := hr.2.1 v1 k1 k2
    have e3 := hL.2 v1 k1 k2
    refine b119_8 hG TM_eqo (by intros; omega) (by intros; omega) ?_ (by intros; omega) (by intros; omega) rfl ?_ (by intros; omega) (by intros; omega) rfl ?_ (by intros; omega) (by intros; omega) rfl ?_ ?_ ?_
    · intro p1 p2
      rw [if_neg (by omega), if_neg (by omega), if_neg (by omega), if_neg (by omega)] at hz; exact hz
    · intro p1 p2; rw [if_pos p2, ← e1] at hz; exact hz
    · intro p1 p2; rw [if_neg (by omega), if_pos p2, ← e2] at hz; exact hz
    · intro p1 p2; rw [if_neg (by omega), if_neg (by omega), if_pos p2, ← e3] at hz; exact hz
    · intro p1 p2
      rw [if_neg (by omega), if_neg (by omega), if_neg (by omega), if_pos p2] at hz
      refine c_livingAs hG lf27 hR hI hr hL h1 ?_
      refine b119_82 hG ?_
      exact hz
    · intro p1; exact absurd p1 hk
theorem m_kind (hG : Shp G) (hR : InvR (c 190)) (hI : InvL (c 190)) (h1 : I32 v1) (h2 : I32 v2) (hz : Q (some (aI (kindV (c 190) v1 v2))) (G, q_up c 188 0 0)) : TM (d + 2) 190 [aR 188, aI v1, aI v2] (G, c) Q := by
  have g := hR.1
  refine b190_0 hG ?_
  generalize hc1 : q_up c 188 0 0 = c1 at hz ⊢
  have e190 : c1 190 = c 190 := by rw [← hc1]; rfl
  rw [← e190] at hz hR hI
  rw [← e190] at g
  unfold kindV at hz
  refine r_isKind hG hR h1 ?_
  have hb := isK_01 (S := c1 190) (k := v1)
  refine b190_10 hG (by intros; omega) ?_ ?_
  · intro hk
    obtain ⟨k1, k2⟩ := isK_t hk
    rw [if_neg hk] at hz
    have key : ∀ i, 0 ≤ i → i ≤ c1 190 1 → T (d + 2) 190 20 [some (aR 188), some (aI v1), some (aI v2), some (aI (sumI (fun i => if c1 190 (173 + i) = v1 + 1 then 1 else 0) i)), some (aI i)] [] (G, c1) (QM Q) := by
      refine int_ind ?_ ?_
      · refine b190_20 hG TM_eqo rfl (by intros; omega) (by intros; omega) (by intros; omega) ?_ (by intros; omega) (by intros; omega) rfl ?_ (by intros; omega) (by intros; omega) rfl ?_ ?_ ?_ (by intros; omega) (by intros; omega) rfl (by intros; omega) (by intros; omega) ?_ ?_
        · intro p1 p2
          rw [if_neg (by omega), if_neg (by omega), if_neg (by omega), if_neg (by omega)] at hz; exact hz
        · intro p1 p2; rw [if_pos p2] at hz; exact hz
        · intro p1 p2; rw [if_neg (by omega), if_pos p2] at hz; exact hz
        · intro p1 p2; rw [if_neg (by omega), if_neg (by omega), if_pos p2] at hz
          refine r_roomOf hG hR hI k1 k2 ?_
          refine b190_116 hG ?_
          exact hz
        · intro p1 p2
          rw [if_neg (by omega), if_neg (by omega), if_neg (by omega), if_pos p2] at hz
          exact hz
        · intro p1; omega
        · intro p1; omega
      · intro i h3 h4 ih
        have hb := hI.1 i h3 (by omega)
        rw [sumI_s h3] at ih
        refine b190_20 hG TM_eqo rfl (by intros; omega) (by intros; omega) (by intros; omega) ?_ (by intros; omega) (by intros; omega) rfl ?_ (by intros; omega) (by intros; omega) rfl ?_ ?_ ?_ (by intros; omega) (by intros; omega) rfl (by intros; omega) (by intros; omega) ?_ ?_
        · intro p1; omega
        · intro p1; omega
        · intro p1; omega
        · intro p1; omega
        · intro p1; omega
        · intro p1 p2
          rw [if_neg p2] at ih
          exact ih
        · intro p1 p2
          rw [if_pos p2] at ih
          exact ih
    have k0 := key 0 (by omega) (by omega)
    rw [sumI_0 (by omega)] at k0
    exact k0
  · intro hk
    rw [if_pos hk] at hz
    exact hz
theorem kindV_b (hR : InvR S) (hI : InvL S) : I32 (kindV S v1 v2) := by
  have g := hR.1
  unfold kindV
  by_cases hk : isK S v1 = 0
  · rw [if_pos hk]; omega
  · rw [if_neg hk]
    obtain ⟨k1, k2⟩ := isK_t hk
    have a1 := hR.2.1 v1 k1 k2
    have a2 := hI.2.2.2.2.1 v1 k1 k2
    have a3 := room_le (S := S) (k := v1) (by omega)
    have a4 := cnt_b (f := fun i => S (173 + i) = v1 + 1) (n := S 1) (by omega)
    have a5 : livF S v1 = sumI (fun i => if S (173 + i) = v1 + 1 then 1 else 0) (S 1) := rfl
    rw [← a5] at a4
    omega
theorem op_kind (hG : Shp G) (h : GR cA cB) (h1 : I32 v1) (h2 : I32 v2) : OP G (d + 50) 119 190 [aI v1, aI v2] cA cB := by
  have hS := h.1
  exact op_q h (kindV_b hS.1 hS.2.1) (fun Q hz => x_kind hG hS.1 hS.2.1 h.2.1.1 h.2.2.1 h1 h2 hz) (fun Q hz => m_kind hG hS.1 hS.2.1 h1 h2 hz)
def meetV (S : SS) (x y : Int) : Int := if isK S x = 0 ∨ isK S y = 0 then -1 else S (15 + 6 * x + y)
theorem op_meets (hG : Shp G) (h : GR cA cB) (h1 : I32 v1) (h2 : I32 v2) : OP G (d + 50) 120 191 [aI v1, aI v2] cA cB := by
  have hR := h.1.1
  have g := hR.1
  have hr := h.2.1.1
  have b1 := isK_01 (S := cB 190) (k := v1)
  have b2 := isK_01 (S := cB 190) (k := v2)
  refine op_q (v := meetV (cB 190) v1 v2) h ?_ ?_ ?_
  · unfold meetV
    by_cases hk : isK (cB 190) v1 = 0 ∨ isK (cB 190) v2 = 0
    · rw [if_pos hk]; omega
    · rw [if_neg hk]
      have := isK_t (S := cB 190) (k := v1) (by omega)
      have := isK_t (S := cB 190) (k := v2) (by omega)
      have := hR.2.2.1 (6 * v1 + v2) (by omega) (by omega)
      rw [show 15 + 6 * v1 + v2 = 15 + (6 * v1 + v2) by omega]
      omega
  · intro Q hz
    unfold meetV at hz
    refine b120_0 hG ?_
    refine c_isKind hG hR hr h1 ?_
    refine b120_8 hG (by intros; omega) ?_ ?_
    · intro p1; rw [if_pos (Or.inl p1)] at hz; exact hz
    · intro p1
      refine c_isKind hG hR hr h2 ?_
      refine b120_19 hG TM_eqo (by intros; omega) ?_ ?_
      · intro p2; rw [if_pos (Or.inr p2)] at hz; exact hz
      · intro p2
        rw [if_neg (by omega)] at hz
        obtain ⟨k1, k2⟩ := isK_t p1
        obtain ⟨k3, k4⟩ := isK_t p2
        refine c_kindPair hG ?_
        refine b120_34 hG (by intros; omega) (by intros; omega) rfl ?_
        have e := hr.2.2.1 (v1 * 6 + v2) (by omega) (by omega)
        rw [show (9 : Nat) + 5 = 14 from rfl] at e
        rw [e, show 15 + (v1 * 6 + v2) = 15 + 6 * v1 + v2 by omega]
        exact hz
  · intro Q hz
    generalize hc : cB = c at *
    refine b191_0 hG ?_
    generalize hc1 : q_up c 188 0 0 = c1 at hz ⊢
    have e190 : c1 190 = c 190 := by rw [← hc1]; rfl
    rw [← e190] at hz hR b1 b2
    unfold meetV at hz
    have g := hR.1
    refine r_isKind hG hR h1 ?_
    refine b191_10 hG (by intros; omega) ?_ ?_
    · intro p1; rw [if_pos (Or.inl p1)] at hz; exact hz
    · intro p1
      refine r_isKind hG hR h2 ?_
      refine b191_18 hG (by omega) ?_ (by intro p2; have k1 := isK_t p1; have k2 := isK_t p2; omega) (by intro p2; have k1 := isK_t p1; have k2 := isK_t p2; omega) rfl ?_
      · intro p2; rw [if_pos (Or.inr p2)] at hz; exact hz
      · intro p2; rw [if_neg (by omega)] at hz; exact hz
def debtV (S : SS) (x y : Int) : Int := if isSo S x = 0 ∨ isSo S y = 0 then -1 else S (205 + 8 * x + y)
theorem op_debt (hG : Shp G) (h : GR cA cB) (h1 : I32 v1) (h2 : I32 v2) : OP G (d + 50) 122 195 [aI v1, aI v2] cA cB := by
  have hR := h.1.1
  have hI := h.1.2.1
  have g := hR.1
  have hr := h.2.1.1
  have hL := h.2.2.1
  have b1 := isSo_01 (S := cB 190) (k := v1)
  have b2 := isSo_01 (S := cB 190) (k := v2)
  refine op_q (v := debtV (cB 190) v1 v2) h ?_ ?_ ?_
  · unfold debtV
    by_cases hk : isSo (cB 190) v1 = 0 ∨ isSo (cB 190) v2 = 0
    · rw [if_pos hk]; omega
    · rw [if_neg hk]
      have := isSo_t (S := cB 190) (k := v1) (by omega)
      have := isSo_t (S := cB 190) (k := v2) (by omega)
      have := d_at hI (x := v1) (y := v2) (by omega) (by omega) (by omega) (by omega)
      omega
  · intro Q hz
    unfold debtV at hz
    refine b122_0 hG ?_
    refine c_isSoul hG hR hr h1 ?_
    refine b122_8 hG (by intros; omega) ?_ ?_
    · intro p1; rw [if_pos (Or.inl p1)] at hz; exact hz
    · intro p1
      refine c_isSoul hG hR hr h2 ?_
      refine b122_19 hG TM_eqo (by intros; omega) ?_ ?_
      · intro p2; rw [if_pos (Or.inr p2)] at hz; exact hz
      · intro p2
        rw [if_neg (by omega)] at hz
        obtain ⟨k1, k2⟩ := isSo_t p1
        obtain ⟨k3, k4⟩ := isSo_t p2
        refine c_soulPair hG ?_
        refine b122_34 hG (by intros; omega) (by intros; omega) rfl ?_
        have e := hL.1.2.2.1 (v1 * 8 + v2) (by omega) (by omega)
        rw [show (27 : Nat) + 6 = 33 from rfl] at e
        rw [e, show 205 + (v1 * 8 + v2) = 205 + 8 * v1 + v2 by omega]
        exact hz
  · intro Q hz
    generalize hc : cB = c at *
    refine b195_0 hG ?_
    generalize hc1 : q_up c 188 0 0 = c1 at hz ⊢
    have e190 : c1 190 = c 190 := by rw [← hc1]; rfl
    rw [← e190] at hz hR b1 b2
    unfold debtV at hz
    have g := hR.1
    refine r_isSoul hG hR h1 ?_
    refine b195_10 hG (by intros; omega) ?_ ?_
    · intro p1; rw [if_pos (Or.inl p1)] at hz; exact hz
    · intro p1
      refine r_isSoul hG hR h2 ?_
      refine b195_18 hG (by omega) ?_ (by intro p2; have k1 := isSo_t p1; have k2 := isSo_t p2; omega) (by intro p2; have k1 := isSo_t p1; have k2 := isSo_t p2; omega) rfl ?_
      · intro p2; rw [if_pos (Or.inr p2)] at hz; exact hz
      · intro p2; rw [if_neg (by omega)] at hz; exact hz
theorem op_fault (hG : Shp G) (h : GR cA cB) : OP G (d + 50) 113 186 [] cA cB := by
  have hT := h.2.2.2.1.2.2.1
  refine op_q (v := cB 188 15) h (by omega) ?_ ?_
  · intro Q hz
    generalize hc : cA = c at *
    refine b113_0 hG rfl ?_
    rw [hT.1]; exact hz
  · intro Q hz
    generalize hc : cB = c at *
    refine b186_0 hG (up_n (by omega)) ?_
    exact hz
theorem op_first (hG : Shp G) (h : GR cA cB) (h1 : I32 v1) : OP G (d + 50) 143 231 [aI v1] cA cB := by
  obtain ⟨hW, w0, w1⟩ := h.2.2.2.2.2.2.1
  refine op_q (v := if 0 ≤ v1 ∧ v1 < 3 then cA 187 v1 else -1) h ?_ ?_ ?_
  · by_cases hk : 0 ≤ v1 ∧ v1 < 3
    · rw [if_pos hk]; exact (hW v1 hk.1 hk.2).2
    · rw [if_neg hk]; omega
  · intro Q hz
    generalize hc : cA = c at *
    refine b143_0 hG (by intros; omega) ?_ (by intros; omega) (by intros; omega) rfl ?_ ?_
    · intro p1; rw [if_neg (by omega)] at hz; exact hz
    · intro p1 p2; rw [if_pos (by omega)] at hz; exact hz
    · intro p1 p2; rw [if_neg (by omega)] at hz; exact hz
  · intro Q hz
    generalize hc : cB = c at *
    refine b231_0 hG (up_n (by omega)) (by intros; omega) ?_ ?_
    · intro p1
      by_cases hk : 0 ≤ v1 ∧ v1 < 3
      · rw [if_pos hk, (hW v1 hk.1 hk.2).1, if_neg (by omega)] at hz; exact hz
      · rw [if_neg hk] at hz; exact hz
    · intro p1
      refine r_isIn hG h1 (by omega) (by omega) ?_
      refine b231_18 hG (by intros; omega) ?_ (by intros; omega) (by intros; omega) ((up_n (by omega)).trans rfl) ?_
      · intro p2
        rw [if_neg (by omega)] at hz; exact hz
      · intro p2
        have hk : 0 ≤ v1 ∧ v1 < 3 := by omega
        rw [if_pos hk, (hW v1 hk.1 hk.2).1, if_pos (by omega)] at hz; exact hz
theorem op_gives (hG : Shp G) (h : GR cA cB) (h1 : I32 v1) : OP G (d + 50) 137 219 [aI v1] cA cB := by
  obtain ⟨hW, w0, w1⟩ := h.2.2.2.2.2.1
  refine op_q (v := if 0 ≤ v1 ∧ v1 < 8 then cA 131 v1 else -1) h ?_ ?_ ?_
  · by_cases hk : 0 ≤ v1 ∧ v1 < 8
    · rw [if_pos hk]; exact (hW v1 hk.1 hk.2).2
    · rw [if_neg hk]; omega
  · intro Q hz
    generalize hc : cA = c at *
    refine b137_0 hG TM_eqo ?_
    refine b43_0 hG (by intros; omega) ?_ ?_ (by intros; omega) (by intros; omega) rfl ?_
    · intro p1
      refine b137_8 hG ?_
      rw [if_neg (by omega)] at hz; exact hz
    · intro p1 p2
      refine b137_8 hG ?_
      rw [if_neg (by omega)] at hz; exact hz
    · intro p1 p2
      refine b137_8 hG ?_
      rw [if_pos (by omega)] at hz; exact hz
  · intro Q hz
    generalize hc : cB = c at *
    refine b219_0 hG (up_n (by omega)) ?_
    refine r_isIn hG h1 (by omega) (by omega) ?_
    refine b219_16 hG (by intros; omega) ?_ (by intros; omega) (by intros; omega) ((up_n (by omega)).trans rfl) ?_
    · intro p2
      by_cases hk : 0 ≤ v1 ∧ v1 < 8
      · rw [if_pos hk, (hW v1 hk.1 hk.2).1, if_neg (by omega)] at hz; exact hz
      · rw [if_neg hk] at hz; exact hz
    · intro p2
      have hk : 0 ≤ v1 ∧ v1 < 8 := by omega
      rw [if_pos hk, (hW v1 hk.1 hk.2).1, if_pos (by omega)] at hz; exact hz
theorem op_end (hG : Shp G) (h : GR cA cB) (h1 : I32 v1) : OP G (d + 50) 111 162 [aI v1] cA cB := by
  obtain ⟨⟨t1, t2, t3⟩, t4, t5, t6⟩ := h.2.2.2.1
  have hQ : ∀ cA', cA' = cA → ∀ v, I32 v → (∃ cA'', (cA' = cA'') ∧ True) := fun _ _ _ _ => ⟨_, rfl, trivial⟩
  by_cases hk : 0 ≤ v1 ∧ v1 ≤ cB 188 2
  · have hB : TM (d + 50) 162 [aR 188, aI v1] (G, cB) (fun r2 h2 => ∃ cB', h2 = (G, cB') ∧ GR (q_up cA 2 1 v1) cB' ∧ ∃ v, (some (aI 1)) = some (aI v) ∧ r2 = some (aI v) ∧ I32 v) := by
      refine b162_0 hG (by intros; omega) ?_ (up_n (by omega)) (by intros; omega) ?_ ?_
      · intro p1; omega
      · intro p1 p2
        refine ⟨_, rfl, ?_, 1, rfl, rfl, by omega⟩
        obtain ⟨g1, g2, g3, g4, g5, g6, g7, g8, g9⟩ := GR_thr (v := 0) h
        have e190 : (q_up (q_up cB 188 0 0) 188 2 v1) 190 = cB 190 := by rw [up_r (by omega), up_r (by omega)]
        refine ⟨by rw [e190]; exact h.1, GN_fr (cA := cA) (cB := cB) h.2.1 (by rw [e190]; exact SmR_refl _) h.1.1 (fun r p => up_r (by omega)) (fun j _ _ => by rw [up_n (by omega), up_n (by omega)]), by rw [e190]; exact LR_fr h.2.2.1 (fun r q1 q2 => up_r (by omega)), ⟨⟨?_, ?_, ?_⟩, ?_, ?_, ?_⟩, GH_fr h.2.2.2.2.1 (by rw [e190]; exact SmR_refl _) (fun r p1 p2 => up_r (by omega)) (by rw [up_n (by omega), up_n (by omega)]) (by rw [up_r (by omega), up_r (by omega)]), GM_fr h.2.2.2.2.2.1 (up_r (by omega)) (by rw [up_n (by omega), up_n (by omega)]) (by rw [up_r (by omega), up_r (by omega)]), GW_fr h.2.2.2.2.2.2.1 (up_r (by omega)) (by rw [up_n (by omega), up_n (by omega)]) (by rw [up_r (by omega), up_r (by omega)]), GB_fr h.2.2.2.2.2.2.2.1 (fun i _ _ => by rw [up_r (by omega)]) (by rw [up_n (by omega), up_n (by omega)]) (by rw [up_r (by omega), up_r (by omega)]) (up_r (by omega)) (up_r (by omega)) (by rw [up_r (by omega), up_r (by omega)]) (by rw [up_r (by omega), up_r (by omega)]), GI_fr h.2.2.2.2.2.2.2.2 (fun r p1 p2 => up_r (by omega)) (by rw [up_r (by omega), up_r (by omega)]) (by rw [up_r (by omega), up_r (by omega)]) (by rw [up_r (by omega), up_r (by omega)])⟩
        · rw [up_e, up_e]
        · rw [up_e]; omega
        · rw [up_e]; omega
        · intro i q1 q2
          rw [up_e] at q2
          rw [up_n (by omega), up_n (by omega), up_n (by omega)]
          exact t4 i q1 (by omega)
        · rw [up_n (by omega), up_n (by omega), up_n (by omega)]; exact t5
        · intro i q1 q2
          rw [up_n (by omega), up_n (by omega), up_n (by omega)]; exact t6 i q1 q2
      · intro p1 p2; omega
    refine b111_0 hG (by intros; omega) ?_ rfl (by intros; omega) ?_ ?_
    · intro p1; omega
    · intro p1 p2
      exact ⟨_, rfl, fun r hr => up_r (by omega), hB⟩
    · intro p1 p2; omega
  · refine op_q (v := 0) h (by omega) ?_ ?_
    · intro Q hz
      generalize hc : cA = c at *
      refine b111_0 hG (by intros; omega) ?_ rfl (by intros; omega) ?_ ?_
      · intro p1; exact hz
      · intro p1 p2; omega
      · intro p1 p2; exact hz
    · intro Q hz
      generalize hc : cB = c at *
      refine b162_0 hG (by intros; omega) ?_ (up_n (by omega)) (by intros; omega) ?_ ?_
      · intro p1; exact hz
      · intro p1 p2; omega
      · intro p1 p2; exact hz
end SPQ
