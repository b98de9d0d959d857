section SPQ2
variable {d : Nat} {G : GG} {c cA cB : CC} {Q : Option AV → HH → Prop} {v0 v1 v2 v : Int} {S : SS} {a : Nat}
def nowV (S : SS) (w : Int) : Int := if w = 0 then S 168 else if w = 1 then allF S else if w = 2 then S 169 else if w = 3 then S 170 else if w = 4 then wtsF S else if w = 5 then S 171 else if w = 6 then cntF S else -1
theorem GS_b (h : GS S) : 0 ≤ S 168 ∧ S 168 ≤ 9999 ∧ 0 ≤ S 169 ∧ S 169 ≤ 99990000 ∧ 0 ≤ S 170 ∧ S 170 ≤ 99990000 ∧ 0 ≤ S 171 ∧ S 171 ≤ 80000 := by
  obtain ⟨hR, hI, hB, h4⟩ := h
  have a := hI.2.2.2.2.2.2.1
  have b := hB.1
  have b2 := hB.2.1
  have e := hI.2.2.2.2.2.1
  have s1 := sumI_lo (f := fun i => S (189 + i)) (n := 8) (lo := 0) (by omega) (fun i h1 h2 => by have := hI.1 i h1 h2; show 0 ≤ S (189 + i); omega)
  have s2 := sumI_hi (f := fun i => S (189 + i)) (n := 8) (hi := 10000) (by omega) (fun i h1 h2 => by have := hI.1 i h1 h2; have := hB.2.2.1 i h1 h2; show S (189 + i) ≤ 10000; omega)
  omega
theorem wts_b (hR : InvR S) : 0 ≤ wtsF S ∧ wtsF S ≤ 8 := by
  have g := hR.1
  have := cnt_b (f := fun i => S (173 + i) = 0) (n := S 1) (by omega)
  have e : wtsF S = sumI (fun i => if S (173 + i) = 0 then 1 else 0) (S 1) := rfl
  rw [← e] at this
  omega
theorem cntF_b : 0 ≤ cntF S ∧ cntF S ≤ 64 := cnt_b (f := fun i => 0 < S (205 + i)) (n := 64) (by omega)
theorem op_now (hG : Shp G) (h : GR cA cB) (h1 : I32 v1) : OP G (d + 50) 123 197 [aI v1] cA cB := by
  have hS := h.1
  have hR := h.1.1
  have hI := h.1.2.1
  have g := hR.1
  have hr := h.2.1.1
  have hL := h.2.2.1
  have gb := GS_b hS
  have wb := wts_b hR
  have cb := cntF_b (S := cB 190)
  have ab := all_b hI
  refine op_q (v := nowV (cB 190) v1) h ?_ ?_ ?_
  · unfold nowV; omega
  · intro Q hz
    obtain ⟨l1, l2, l3⟩ := hL.1.1
    unfold nowV at hz
    generalize hc : cA = c at *
    refine b123_0 hG TM_eqo (by intros; omega) ?_ rfl ?_ ?_ rfl ?_ rfl ?_ ?_ ?_ ?_
    · intro p; rw [if_neg (by omega), if_neg (by omega), if_neg (by omega), if_neg (by omega), if_neg (by omega), if_neg (by omega), if_neg (by omega)] at hz; exact hz
    · intro p; rw [if_pos p, ← l1] at hz; exact hz
    · intro p; rw [if_neg (by omega), if_pos p] at hz
      refine c_allDebts hG lf27 hL ?_
      refine b123_59 hG ?_
      exact hz
    · intro p; rw [if_neg (by omega), if_neg (by omega), if_pos p, ← l2] at hz; exact hz
    · intro p; rw [if_neg (by omega), if_neg (by omega), if_neg (by omega), if_pos p, ← l3] at hz; exact hz
    · intro p; rw [if_neg (by omega), if_neg (by omega), if_neg (by omega), if_neg (by omega), if_pos p] at hz
      refine c_countWaiting hG lf27 hR hI hr hL ?_
      refine b123_83 hG ?_
      exact hz
    · intro p; rw [if_neg (by omega), if_neg (by omega), if_neg (by omega), if_neg (by omega), if_neg (by omega), if_pos p] at hz
      refine c_allBirths hG lf27 hR hI hr hL ?_
      refine b123_91 hG ?_
      exact hz
    · intro p; rw [if_neg (by omega), if_neg (by omega), if_neg (by omega), if_neg (by omega), if_neg (by omega), if_neg (by omega), if_pos p] at hz
      refine c_countDebts hG lf27 hI hL ?_
      refine b123_99 hG ?_
      exact hz
  · intro Q hz
    clear hr hL
    have hGS := hS
    generalize hc : cB = c at *
    refine b197_0 hG ?_
    generalize hc1 : q_up c 188 0 0 = c1 at hz ⊢
    have e190 : c1 190 = c 190 := by rw [← hc1]; rfl
    rw [← e190] at hz hR hI g gb wb cb ab
    have k2 : ∀ i, 0 ≤ i → i ≤ 64 → T (d + 50) 197 54 [some (aR 188), some (aI v1), some (aI (wtsF (c1 190))), some (aI (sumI (fun i => if 0 < c1 190 (205 + i) then 1 else 0) i)), some (aI i)] [] (G, c1) (QM Q) := by
      unfold nowV at hz
      refine int_ind ?_ ?_
      · refine b197_54 hG TM_eqo (by intros; omega) (by intros; omega) ?_ rfl ?_ ?_ rfl ?_ rfl ?_ ?_ rfl ?_ ?_ (by intros; omega) (by intros; omega) rfl (by intros; omega) ?_ ?_
        · intro p0 p; rw [if_neg (by omega), if_neg (by omega), if_neg (by omega), if_neg (by omega), if_neg (by omega), if_neg (by omega), if_neg (by omega)] at hz; exact hz
        · intro p0 p; rw [if_pos p] at hz; exact hz
        · intro p0 p; rw [if_neg (by omega), if_pos p] at hz
          refine r_all hG ?_
          refine b197_145 hG ?_
          exact hz
        · intro p0 p; rw [if_neg (by omega), if_neg (by omega), if_pos p] at hz; exact hz
        · intro p0 p; rw [if_neg (by omega), if_neg (by omega), if_neg (by omega), if_pos p] at hz; exact hz
        · intro p0 p; rw [if_neg (by omega), if_neg (by omega), if_neg (by omega), if_neg (by omega), if_pos p] at hz; exact hz
        · intro p0 p; rw [if_neg (by omega), if_neg (by omega), if_neg (by omega), if_neg (by omega), if_neg (by omega), if_pos p] at hz; exact hz
        · intro p0 p; rw [if_neg (by omega), if_neg (by omega), if_neg (by omega), if_neg (by omega), if_neg (by omega), if_neg (by omega), if_pos p] at hz; exact hz
        · intro p0; omega
        · intro p0; omega
      · intro i h3 h4 ih
        have hb := hI.2.2.1 i h3 h4
        rw [sumI_s h3] at ih
        refine b197_54 hG TM_eqo (by intros; omega) (by intros; omega) ?_ rfl ?_ ?_ rfl ?_ rfl ?_ ?_ rfl ?_ ?_ (by intros; omega) (by intros; omega) rfl (by intros; omega) ?_ ?_
        · intro p0; omega
        · intro p0; omega
        · intro p0; omega
        · intro p0; omega
        · intro p0; omega
        · intro p0; omega
        · intro p0; omega
        · intro p0; omega
        · intro p0 p
          rw [if_neg (by omega)] at ih; exact ih
        · intro p0 p
          rw [if_pos p] at ih; exact ih
    have k1 : ∀ i, 0 ≤ i → i ≤ c1 190 1 → T (d + 50) 197 12 [some (aR 188), some (aI v1), some (aI (sumI (fun i => if c1 190 (173 + i) = 0 then 1 else 0) i)), some (aI 0), some (aI i)] [] (G, c1) (QM Q) := by
      refine int_ind ?_ ?_
      · refine b197_12 hG rfl (by intros; omega) (by intros; omega) ?_ (by intros; omega) (by intros; omega) rfl (by intros; omega) ?_ ?_
        · intro p0
          have := k2 0 (by omega) (by omega)
          rw [sumI_0 (by omega)] at this
          exact this
        · intro p0; omega
        · intro p0; omega
      · intro i h3 h4 ih
        have hb := hI.1 i h3 (by omega)
        rw [sumI_s h3] at ih
        refine b197_12 hG rfl (by intros; omega) (by intros; omega) ?_ (by intros; omega) (by intros; omega) rfl (by intros; omega) ?_ ?_
        · intro p0; omega
        · intro p0 p
          rw [if_neg p] at ih; exact ih
        · intro p0 p
          rw [if_pos p] at ih; exact ih
    have := k1 0 (by omega) (by omega)
    rw [sumI_0 (by omega)] at this
    exact this
def whyV (S : SS) (s k : Int) : Int := if isSo S s = 0 ∨ isK S k = 0 then -1 else whyF S s k
theorem op_why (hG : Shp G) (h : GR cA cB) (h1 : I32 v1) (h2 : I32 v2) : OP G (d + 50) 126 206 [aI v1, aI v2] cA cB := by
  have hR := h.1.1
  have hI := h.1.2.1
  have g := hR.1
  have hr := h.2.1.1
  have hL := h.2.2.1
  have b1 := isSo_01 (S := cB 190) (k := v1)
  have b2 := isK_01 (S := cB 190) (k := v2)
  have wb := why_b (S := cB 190) (s := v1) (k := v2)
  refine op_q (v := whyV (cB 190) v1 v2) h ?_ ?_ ?_
  · unfold whyV; omega
  · intro Q hz
    unfold whyV at hz
    generalize hc : cA = c at *
    refine b126_0 hG ?_
    refine c_isSoul hG hR hr h1 ?_
    refine b126_8 hG (by intros; omega) ?_ ?_
    · intro p1; rw [if_pos (Or.inl p1)] at hz; exact hz
    · intro p1
      refine c_isKind hG hR hr h2 ?_
      refine b126_19 hG TM_eqo (by intros; omega) ?_ ?_
      · intro p2; rw [if_pos (Or.inr p2)] at hz; exact hz
      · intro p2
        rw [if_neg (by omega)] at hz
        obtain ⟨k1, k2⟩ := isSo_t p1
        obtain ⟨k3, k4⟩ := isK_t p2
        refine c_whyNot hG lf27 hR hI hr hL k1 k2 k3 k4 ?_
        refine b126_31 hG ?_
        exact hz
  · intro Q hz
    clear hr hL
    generalize hc : cB = c at *
    refine b206_0 hG ?_
    generalize hc1 : q_up c 188 0 0 = c1 at hz ⊢
    have e190 : c1 190 = c 190 := by rw [← hc1]; rfl
    rw [← e190] at hz hR hI b1 b2 g
    unfold whyV at hz
    refine r_isSoul hG hR h1 ?_
    refine b206_10 hG (by intros; omega) ?_ ?_
    · intro p1; rw [if_pos (Or.inl p1)] at hz; exact hz
    · intro p1
      refine r_isKind hG hR h2 ?_
      refine b206_18 hG TM_eqo (by intros; omega) ?_ ?_
      · intro p2; rw [if_pos (Or.inr p2)] at hz; exact hz
      · intro p2
        rw [if_neg (by omega)] at hz
        obtain ⟨k1, k2⟩ := isSo_t p1
        obtain ⟨k3, k4⟩ := isK_t p2
        refine r_whyOf hG hR hI k1 (by omega) k3 k4 ?_
        refine b206_27 hG ?_
        exact hz
def settV (S : SS) (x y : Int) : Int := if isSo S x = 0 ∨ isSo S y = 0 ∨ x = y ∨ S 168 < 1 then -1 else S (269 + 8 * x + y)
theorem op_settled (hG : Shp G) (h : GR cA cB) (h1 : I32 v1) (h2 : I32 v2) : OP G (d + 50) 124 211 [aI v1, aI v2] cA cB := by
  have gb := GS_b h.1
  have hR := h.1.1
  have hI := h.1.2.1
  have hB := h.1.2.2.1
  have g := hR.1
  have hr := h.2.1.1
  have hL := h.2.2.1
  have b1 := isSo_01 (S := cB 190) (k := v1)
  have b2 := isSo_01 (S := cB 190) (k := v2)
  have e72 := hB.2.2.2
  refine op_q (v := settV (cB 190) v1 v2) h ?_ ?_ ?_
  · unfold settV
    by_cases hk : isSo (cB 190) v1 = 0 ∨ isSo (cB 190) v2 = 0 ∨ v1 = v2 ∨ cB 190 168 < 1
    · rw [if_pos hk]; omega
    · rw [if_neg hk]
      have := isSo_t (S := cB 190) (k := v1) (by omega)
      have := isSo_t (S := cB 190) (k := v2) (by omega)
      have := hI.2.2.2.2.2.2.2 v1 v2 (by omega) (by omega) (by omega) (by omega)
      omega
  · intro Q hz
    obtain ⟨l1, -, -⟩ := hL.1.1
    unfold settV at hz
    generalize hc : cA = c at *
    refine b124_0 hG ?_
    refine c_isSoul hG hR hr h1 ?_
    refine b124_8 hG (by intros; omega) ?_ ?_
    · intro p1; rw [if_pos (Or.inl p1)] at hz; exact hz
    · intro p1
      refine c_isSoul hG hR hr h2 ?_
      refine b124_19 hG TM_eqo (by intros; omega) ?_ (by intros; omega) (by intros; omega) ?_ rfl (by intros; omega) ?_ ?_
      · intro p2; rw [if_pos (Or.inr (Or.inl p2))] at hz; exact hz
      · intro p2 p3; rw [if_pos (by omega)] at hz; exact hz
      · intro p2 p3 p4
        rw [if_neg (by omega)] at hz
        obtain ⟨k1, k2⟩ := isSo_t p1
        obtain ⟨k3, k4⟩ := isSo_t p2
        refine c_soulPair hG ?_
        refine b124_60 hG (by intros; omega) (by intros; omega) rfl ?_
        by_cases hlt : v1 < v2
        · have e := hL.1.2.2.2 v1 v2 k1 hlt (by omega)
          rw [if_neg (by omega), if_pos hlt, show v1 * 8 + v2 = 8 * v1 + v2 by omega]
          rw [show (27 : Nat) + 7 = 34 from rfl] at e
          rw [e]; exact hz
        · have e := hL.1.2.2.2 v2 v1 k3 (by omega) (by omega)
          rw [if_pos (by omega), if_neg hlt, show v2 * 8 + v1 = 8 * v2 + v1 by omega]
          rw [show (27 : Nat) + 7 = 34 from rfl] at e
          rw [e, (hI.2.2.2.2.2.2.2 v2 v1 (by omega) (by omega) (by omega) (by omega)).1]; exact hz
      · intro p2 p3 p4; rw [if_pos (by omega)] at hz; exact hz
  · intro Q hz
    clear hr hL
    generalize hc : cB = c at *
    refine b211_0 hG ?_
    generalize hc1 : q_up c 188 0 0 = c1 at hz ⊢
    have e190 : c1 190 = c 190 := by rw [← hc1]; rfl
    rw [← e190] at hz hR hI b1 b2 g e72 gb
    unfold settV at hz
    refine r_isSoul hG hR h1 ?_
    refine b211_10 hG (by intros; omega) ?_ ?_
    · intro p1; rw [if_pos (Or.inl p1)] at hz; exact hz
    · intro p1
      refine r_isSoul hG hR h2 ?_
      refine b211_18 hG (by omega) ?_ (by intro p2; have k1 := isSo_t p1; have k2 := isSo_t p2; intros; omega) (by intro p2; have k1 := isSo_t p1; have k2 := isSo_t p2; intros; omega) ?_ rfl (by intro p2; have k1 := isSo_t p1; have k2 := isSo_t p2; intros; omega) ?_ (by intro p2; have k1 := isSo_t p1; have k2 := isSo_t p2; intros; omega) (by intro p2; have k1 := isSo_t p1; have k2 := isSo_t p2; intros; omega) rfl ?_
      · intro p2; rw [if_pos (Or.inr (Or.inl p2))] at hz; exact hz
      · intro p2 p3; rw [if_pos (by omega)] at hz; exact hz
      · intro p2 p3 p4; rw [if_pos (by omega)] at hz; exact hz
      · intro p2 p3 p4; rw [if_neg (by omega)] at hz; exact hz
theorem op_booked (hG : Shp G) (h : GR cA cB) (h1 : I32 v1) : OP G (d + 50) 115 251 [aI v1] cA cB := by
  obtain ⟨w1, w2, w3, -⟩ := h.2.2.2.2.2.2.2.1
  refine op_q (v := if cB 188 38 = 1 ∧ 0 ≤ v1 ∧ v1 < 4 then cB 205 v1 else -1) h ?_ ?_ ?_
  · by_cases hk : cB 188 38 = 1 ∧ 0 ≤ v1 ∧ v1 < 4
    · rw [if_pos hk]; exact (w3 hk.1 v1 hk.2.1 hk.2.2).2
    · rw [if_neg hk]; omega
  · intro Q hz
    generalize hc : cA = c at *
    have f : cB 188 38 = 1 → c 120 7 = cB 205 0 ∧ c 120 8 = cB 205 1 ∧ c 120 9 = cB 205 2 ∧ c 120 10 = cB 205 3 := fun p => ⟨(w3 p 0 (by omega) (by omega)).1, (w3 p 1 (by omega) (by omega)).1, (w3 p 2 (by omega) (by omega)).1, (w3 p 3 (by omega) (by omega)).1⟩
    refine b115_0 hG rfl (by intros; omega) (by intros; omega) ?_ rfl ?_ rfl ?_ rfl ?_ rfl ?_ ?_
    · intro p1 p2; rw [if_neg (by omega)] at hz; exact hz
    · intro p1 p2; rw [if_pos (by omega), p2, ← (f (by omega)).1] at hz; exact hz
    · intro p1 p2; rw [if_pos (by omega), p2, ← (f (by omega)).2.1] at hz; exact hz
    · intro p1 p2; rw [if_pos (by omega), p2, ← (f (by omega)).2.2.1] at hz; exact hz
    · intro p1 p2; rw [if_pos (by omega), p2, ← (f (by omega)).2.2.2] at hz; exact hz
    · intro p1; rw [if_neg (by omega)] at hz; exact hz
  · intro Q hz
    generalize hc : cB = c at *
    refine b251_0 hG (up_n (by omega)) (by intros; omega) ?_ ?_
    · intro p1; rw [if_neg (by omega)] at hz; exact hz
    · intro p1
      refine r_isIn hG h1 (by omega) (by omega) ?_
      refine b251_18 hG (by intros; omega) ?_ (by intros; omega) (by intros; omega) ((up_n (by omega)).trans rfl) ?_
      · intro p2; rw [if_neg (by omega)] at hz; exact hz
      · intro p2; rw [if_pos (by omega)] at hz; exact hz
theorem op_count (hG : Shp G) (h : GR cA cB) (h1 : I32 v1) : OP G (d + 50) 118 264 [aI v1] cA cB := by
  have g := h.1.1.1
  obtain ⟨r1, r2, r3⟩ := h.2.1.1.1
  obtain ⟨⟨t1, t2, t3⟩, -⟩ := h.2.2.2.1
  refine op_q (v := if v1 = 3 then cB 188 2 else if 0 ≤ v1 ∧ v1 ≤ 2 then cB 190 v1 else -1) h ?_ ?_ ?_
  · by_cases hk : v1 = 3
    · rw [if_pos hk]; omega
    · rw [if_neg hk]
      by_cases hk : 0 ≤ v1 ∧ v1 ≤ 2
      · rw [if_pos hk]
        have : v1 = 0 ∨ v1 = 1 ∨ v1 = 2 := by omega
        rcases this with rfl | rfl | rfl <;> omega
      · rw [if_neg hk]; omega
  · intro Q hz
    generalize hc : cA = c at *
    refine b118_0 hG (by intros; omega) ?_ rfl ?_ rfl ?_ rfl ?_ rfl ?_
    · intro p1; rw [if_neg (by omega), if_neg (by omega)] at hz; exact hz
    · intro p1; rw [if_neg (by omega), if_pos (by omega), p1, ← r1] at hz; exact hz
    · intro p1; rw [if_neg (by omega), if_pos (by omega), p1, ← r2] at hz; exact hz
    · intro p1; rw [if_neg (by omega), if_pos (by omega), p1, ← r3] at hz; exact hz
    · intro p1; rw [if_pos p1, ← t1] at hz; exact hz
  · intro Q hz
    generalize hc : cB = c at *
    refine b264_0 hG (by intros; omega) ?_ (up_n (by omega)) ?_
    · intro p1
      rw [if_neg p1] at hz
      refine r_isIn hG h1 (by omega) (by omega) ?_
      refine b264_23 hG (by intros; omega) ?_ (by intros; omega) (by intros; omega) ((up_n (by omega)).trans rfl) ?_
      · intro p2; rw [if_neg (by omega)] at hz; exact hz
      · intro p2; rw [if_pos (by omega)] at hz; exact hz
    · intro p1; rw [if_pos p1] at hz; exact hz
def grtF (S : SS) (k w : Int) : Int := if w = 0 then dbtF S k else if w = 1 then dueF S k else S (189 + k)
theorem grt_b (hG : GS S) (h1 : 0 ≤ v1) (h2 : v1 < 8) : 0 ≤ grtF S v1 v2 ∧ grtF S v1 v2 ≤ 800000 := by
  have := dbt_b hG.2.1 h1 h2
  have := due_b hG.2.1 h1 h2
  have := hG.2.1.1 v1 h1 h2
  have := hG.2.2.1.2.2.1 v1 h1 h2
  have := hG.2.2.2
  unfold grtF
  omega
def gr1 (S : SS) (w : Int) (k b : Int) : Int := if b < 0 then k else if grtF S b w < grtF S k w then k else b
def grsF (S : SS) (w : Int) (n : Int) : Int := loopI (gr1 S w) n (-1)
theorem grs_b {w n : Int} (hn : 0 ≤ n) : (n = 0 → grsF S w n = -1) ∧ (0 < n → 0 ≤ grsF S w n) ∧ -1 ≤ grsF S w n ∧ (grsF S w n < n) := by
  refine loopI_pi (f := gr1 S w) (P := fun n b => (n = 0 → b = -1) ∧ (0 < n → 0 ≤ b) ∧ -1 ≤ b ∧ b < n) hn ⟨fun _ => rfl, fun h => by omega, by omega, by omega⟩ ?_
  intro i b h1 h2 h3
  unfold gr1
  obtain ⟨p1, p2, p3, p4⟩ := h3
  refine ⟨fun h => by omega, fun _ => ?_, ?_, ?_⟩
  · split
    · omega
    · split <;> omega
  · split
    · omega
    · split <;> omega
  · split
    · omega
    · split <;> omega
theorem op_greatest (hG : Shp G) (h : GR cA cB) (h1 : I32 v1) : OP G (d + 50) 125 247 [aI v1] cA cB := by
  have hS := h.1
  have hR := h.1.1
  have hI := h.1.2.1
  have g := hR.1
  have hr := h.2.1.1
  have hL := h.2.2.1
  have gb := fun n (hn : 0 ≤ n) => grs_b (S := cB 190) (w := v1) (n := n) hn
  refine op_q (v := if 0 ≤ v1 ∧ v1 ≤ 2 then grsF (cB 190) v1 (cB 190 1) else -1) h ?_ ?_ ?_
  · have := gb (cB 190 1) (by omega)
    by_cases hk : 0 ≤ v1 ∧ v1 ≤ 2
    · rw [if_pos hk]; omega
    · rw [if_neg hk]; omega
  · intro Q hz
    have e1 := hr.1
    generalize hc : cA = c at *
    refine b125_0 hG (by intros; omega) ?_ ?_ ?_
    · intro p1; rw [if_neg (by omega)] at hz; exact hz
    · intro p1 p2
      rw [if_pos (by omega)] at hz
      have key : ∀ i, 0 ≤ i → i ≤ cB 190 1 → T (d + 50) 125 18 [some (aR 1), some (aI v1), some (aI (grsF (cB 190) v1 i)), some (aI (if grsF (cB 190) v1 i < 0 then -1 else grtF (cB 190) (grsF (cB 190) v1 i) v1)), some (aI i), none] [] (G, c) (QM Q) := by
        refine int_ind ?_ ?_
        · have hb := gb (cB 190 1) (by omega)
          have hgb : ¬ grsF (cB 190) v1 (cB 190 1) < 0 → 0 ≤ grtF (cB 190) (grsF (cB 190) v1 (cB 190 1)) v1 ∧ grtF (cB 190) (grsF (cB 190) v1 (cB 190 1)) v1 ≤ 800000 := fun hn => grt_b hS (by omega) (by omega)
          refine b125_18 hG TM_eqo rfl (by intros; omega) (by intros; omega) ?_ (by intros; omega) (by intros; omega) (by intros; omega) rfl (by intros; omega) (by intros; omega) ?_ ?_ ?_ ?_
          · intro p3; exact hz
          · intro p3; omega
          · intro p3; omega
          · intro p3; omega
          · intro p3; omega
        · intro i h3 h4 ih
          have hb := gb i h3
          have hgb : ¬ grsF (cB 190) v1 i < 0 → 0 ≤ grtF (cB 190) (grsF (cB 190) v1 i) v1 ∧ grtF (cB 190) (grsF (cB 190) v1 i) v1 ≤ 800000 := fun hn => grt_b hS (by omega) (by omega)
          have hgi := grt_b (v1 := i) (v2 := v1) hS h3 (by omega)
          have e3 := (hL.1.2.1 i h3 (by omega)).2.2.1
          rw [show (27 : Nat) + 3 = 30 from rfl] at e3
          have hbn := hS.2.1.1 i h3 (by omega)
          have hbn2 := hS.2.2.1.2.2.1 i h3 (by omega)
          have hbn3 := hS.2.2.2
          have es : grsF (cB 190) v1 (i + 1) = gr1 (cB 190) v1 i (grsF (cB 190) v1 i) := loopI_s h3
          rw [es] at ih
          have stay : (grtF (cB 190) i v1) ≤ (if grsF (cB 190) v1 i < 0 then -1 else grtF (cB 190) (grsF (cB 190) v1 i) v1) → T (d + 50) 125 18 [some (aR 1), some (aI v1), some (aI (grsF (cB 190) v1 i)), some (aI (if grsF (cB 190) v1 i < 0 then -1 else grtF (cB 190) (grsF (cB 190) v1 i) v1)), some (aI (i + 1)), none] [] (G, c) (QM Q) := by
            intro p
            have hn : ¬ grsF (cB 190) v1 i < 0 := by intro hn; rw [if_pos hn] at p; omega
            rw [if_neg hn] at p
            have : gr1 (cB 190) v1 i (grsF (cB 190) v1 i) = grsF (cB 190) v1 i := by
              unfold gr1; rw [if_neg hn, if_neg (by omega)]
            rw [this] at ih; exact ih
          have move : (if grsF (cB 190) v1 i < 0 then -1 else grtF (cB 190) (grsF (cB 190) v1 i) v1) < (grtF (cB 190) i v1) → T (d + 50) 125 18 [some (aR 1), some (aI v1), some (aI i), some (aI (grtF (cB 190) i v1)), some (aI (i + 1)), none] [] (G, c) (QM Q) := by
            intro p
            have : gr1 (cB 190) v1 i (grsF (cB 190) v1 i) = i := by
              unfold gr1
              by_cases hn : grsF (cB 190) v1 i < 0
              · rw [if_pos hn]
              · rw [if_neg hn] at p
                rw [if_neg hn, if_pos p]
            rw [this, if_neg (by omega)] at ih; exact ih
          refine b125_18 hG TM_eqo rfl (by intros; omega) (by intros; omega) ?_ (by intros; omega) (by intros; omega) (by intros; omega) rfl (by intros; omega) (by intros; omega) ?_ ?_ ?_ ?_
          · intro p3; omega
          · intro p3 p4 p5 p6
            have eg : grtF (cB 190) i v1 = cB 190 (189 + i) := by unfold grtF; rw [if_neg p4, if_neg p5]
            exact stay (by rw [eg, ← e3]; exact p6)
          · intro p3 p4 p5 p6
            have eg : grtF (cB 190) i v1 = cB 190 (189 + i) := by unfold grtF; rw [if_neg p4, if_neg p5]
            rw [eg, ← e3] at move
            exact move p6
          · intro p3 p4 p5
            have eg : grtF (cB 190) i v1 = dueF (cB 190) i := by unfold grtF; rw [if_neg p4, if_pos p5]
            rw [eg] at stay move hgi
            refine c_owedInAll hG lf27 hR hI hr hL h3 (by omega) ?_
            refine b125_60 hG TM_eqo (by intros; omega) (by intros; omega) ?_ ?_
            · intro p6; exact stay p6
            · intro p6; exact move p6
          · intro p3 p4
            have eg : grtF (cB 190) i v1 = dbtF (cB 190) i := by unfold grtF; rw [if_pos p4]
            rw [eg] at stay move hgi
            refine c_owesInAll hG lf27 hR hI hr hL h3 (by omega) ?_
            refine b125_43 hG TM_eqo (by intros; omega) (by intros; omega) ?_ ?_
            · intro p6; exact stay p6
            · intro p6; exact move p6
      have k0 := key 0 (by omega) (by omega)
      rw [(gb 0 (by omega)).1 rfl, if_pos (by omega)] at k0
      exact k0
    · intro p1 p2; rw [if_neg (by omega)] at hz; exact hz
  · intro Q hz
    clear hr hL h
    generalize hc : cB = c at *
    refine b247_0 hG ?_
    generalize hc1 : q_up c 188 0 0 = c1 at hz ⊢
    have e190 : c1 190 = c 190 := by rw [← hc1]; rfl
    rw [← e190] at hz hR hI g hS
    rw [← e190] at gb
    refine r_isIn hG h1 (by omega) (by omega) ?_
    refine b247_11 hG (by intros; omega) ?_ ?_
    · intro p1
      rw [if_pos (by omega)] at hz
      have gof : ∀ (k : Int) (Q2 : Option AV → HH → Prop), 0 ≤ k → k < 8 → Q2 (some (aI (grtF (c1 190) k v1))) (G, c1) → TM (d + 49) 246 [aR 188, aI k, aI v1] (G, c1) Q2 := by
        intro k Q2 k1 k2 hz2
        unfold grtF at hz2
        refine b246_0 hG TM_eqo (by intros; omega) (by intros; omega) (by intros; omega) rfl ?_ ?_ ?_
        · intro p2 p3; rw [if_neg p2, if_neg p3] at hz2; exact hz2
        · intro p2 p3; rw [if_neg p2, if_pos p3] at hz2
          refine r_duesOf hG k1 k2 ?_
          refine b246_22 hG ?_
          exact hz2
        · intro p2; rw [if_pos p2] at hz2
          refine r_debtsOf hG k1 k2 ?_
          refine b246_9 hG ?_
          exact hz2
      have key : ∀ i, 0 ≤ i → i ≤ c1 190 1 → T (d + 50) 247 20 [some (aR 188), some (aI v1), some (aI (grsF (c1 190) v1 i)), some (aI i)] [] (G, c1) (QM Q) := by
        refine int_ind ?_ ?_
        · have hb := gb (c1 190 1) (by omega)
          refine b247_20 hG rfl (by intros; omega) (by intros; omega) ?_ (by intros; omega) ?_ ?_
          · intro p3; exact hz
          · intro p3; omega
          · intro p3; omega
        · intro i h3 h4 ih
          have hb := gb i h3
          have es : grsF (c1 190) v1 (i + 1) = gr1 (c1 190) v1 i (grsF (c1 190) v1 i) := loopI_s h3
          rw [es] at ih
          unfold gr1 at ih
          refine b247_20 hG rfl (by intros; omega) (by intros; omega) ?_ (by intros; omega) ?_ ?_
          · intro p3; omega
          · intro p3 p4; rw [if_pos p4] at ih; exact ih
          · intro p3 p4
            rw [if_neg (by omega)] at ih
            have g1 := grt_b (v1 := i) (v2 := v1) hS h3 (by omega)
            have g2 := grt_b (v1 := grsF (c1 190) v1 i) (v2 := v1) hS (by omega) (by omega)
            refine gof i _ h3 (by omega) ?_
            refine b247_40 hG ?_
            refine gof _ _ (by omega) (by omega) ?_
            refine b247_46 hG (by intros; omega) (by intros; omega) ?_ ?_
            · intro p5; rw [if_neg (by omega)] at ih; exact ih
            · intro p5; rw [if_pos p5] at ih; exact ih
      have k0 := key 0 (by omega) (by omega)
      rw [(gb 0 (by omega)).1 rfl] at k0
      exact k0
    · intro p1; rw [if_neg (by omega)] at hz; exact hz
end SPQ2
