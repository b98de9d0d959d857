section SPA
variable {d : Nat} {G : GG} {c c' cA cB cA1 cB1 cA' cB' : CC} {Q : Option AV → HH → Prop} {v1 v2 n nx j N : Int} {S S' : SS} {a : Nat}
def KpA (cA cA1 : CC) (n nx : Int) : Prop := (∀ r, ¬ r = 53 → ¬ (wsl nx ≤ r ∧ r ≤ wsl nx + 7) → cA1 r = cA r) ∧ cA1 53 1 = (if n < 8 then n + 1 else 8) ∧ cA1 53 2 = (nx + 1) % 8 ∧ (∀ S, InvR S → LR cA 27 S → LR cA1 (wsl nx) S)
def KpB (c c1 : CC) : Prop := (∀ r, ¬ r = 188 → ¬ r = 195 → c1 r = c r) ∧ (∀ i, ¬ i = 23 → c1 188 i = c 188 i) ∧ c1 188 23 = (if c 188 23 < 8 then c 188 23 + 1 else 8) ∧ (∀ q, c1 195 q = keptF (c 188 23) (c 195) (c 190) q)
theorem wsl_b (h : 0 ≤ nx ∧ nx < 8) : 55 ≤ wsl nx ∧ wsl nx + 7 ≤ 118 := by unfold wsl; omega
theorem x_keep (hG : Shp G) (h : GR cA cB) (hz : ∀ cA1, KpA cA cA1 (cB 188 23) (cA 53 2) → RR cA1 9 (cB 190) → LR cA1 27 (cB 190) → Q none (G, cA1)) : TM (d + 1) 14 [aR 53, aR 27] (G, cA) Q := by
  obtain ⟨⟨h1, h2, h3, h4, h5⟩, -⟩ := h.2.2.2.2.1
  have hb := wsl_b (nx := cA 53 2) ⟨h4, h5⟩
  refine c_keep hG h1 ⟨h2, h3⟩ rfl ⟨h4, h5⟩ (fun c1 k1 k2 k3 k4 => hz c1 ⟨k1, k2, k3, k4⟩ ?_ ?_)
  · exact RR_fr h.2.1.1 (fun r q1 q2 => k1 r (by omega) (by omega))
  · exact LR_fr h.2.2.1 (fun r q1 q2 => k1 r (by omega) (by omega))
theorem m_keep (hG : Shp G) (h : 0 ≤ c 188 23 ∧ c 188 23 ≤ 8) (hz : ∀ c1, KpB c c1 → Q none (G, c1)) : TM d 212 [aR 188] (G, c) Q :=
  r_keep hG rfl h (fun c1 k1 k2 k3 k4 => hz c1 ⟨k1, k2, k3, k4⟩)
theorem GR_act (h : GR cA cB) {cT : CC} (tA : KpA cA cA1 (cB 188 23) (cA 53 2)) (fA : FrL 27 cA1 cA') (e0 : ∀ r, ¬ r = 188 → cT r = cB r) (e1 : ∀ i, ¬ i = 0 → cT 188 i = cB 188 i) (tB : KpB cT cB1) (hS : SmR (cB 190) S') (hG : GS S') (hL : LR cA' 27 S') : GR cA' (q_uf cB1 190 S') := by
  obtain ⟨k1, k2, k3, k4⟩ := tA
  obtain ⟨m1, m2, m3, m4⟩ := tB
  obtain ⟨⟨h1, h2, h3, h4, h5⟩, -⟩ := h.2.2.2.2.1
  have hb := wsl_b (nx := cA 53 2) ⟨h4, h5⟩
  have e190 : cB1 190 = cB 190 := by rw [m1 190 (by omega) (by omega), e0 190 (by omega)]
  rw [e1 23 (by omega)] at m3 m4
  rw [e0 195 (by omega), e0 190 (by omega)] at m4
  have oA : ∀ r, r ≤ 26 ∨ 119 ≤ r → cA' r = cA r := fun r p => by
    by_cases h53 : r = 53
    · omega
    · rw [fA r (by omega), k1 r h53 (by omega)]
  have oB : ∀ r, ¬ r = 188 → ¬ r = 195 → ¬ r = 190 → (q_uf cB1 190 S') r = cB r := fun r p1 p2 p3 => by
    rw [uf_n p3, m1 r p1 p2, e0 r p1]
  have hH := GH_keep (cA' := cA1) (cB' := q_uf cB1 190 S') h.2.2.2.2.1 h.1 h.2.2.1 k1 k2 k3 k4 (by rw [uf_e]; exact hS) (by rw [uf_n (by omega)]; exact m3) (fun q => by rw [uf_n (by omega)]; exact m4 q)
  have hA : KA cA cA' := ⟨fun r p => by
    by_cases hr : r ≤ 26 ∨ 119 ≤ r
    · exact oA r hr
    · rw [fA r (by omega), k1 r (by omega) (by omega)], by rw [oA 2 (by omega)], by rw [oA 2 (by omega)], fun i _ _ => by rw [oA 120 (by omega)]⟩
  have hB : KB cB (q_uf cB1 190 S') := ⟨fun r p => oB r (by omega) (by omega) (by omega), fun i p => by rw [uf_n (by omega), m2 i (by omega), e1 i (by omega)], fun j _ _ => by rw [oB 193 (by omega) (by omega) (by omega)], by rw [uf_e]; exact hS⟩
  refine GR_mk h hA hB (by rw [uf_e]; exact hG) (by rw [uf_e]; exact hL) ?_
  exact GH_fr hH (by rw [uf_e]; exact SmR_refl _) (fun r p1 p2 => fA r (by omega)) rfl rfl
theorem GS_born (h : GS S) (h1 : 0 ≤ v1) (h2 : v1 < S 1) (h3 : 0 ≤ v2) (h4 : v2 < S 0) (hw : whyF S v1 v2 = 0) : GS (bornF S v1 v2) := by
  have g := h.1.1
  have hs := SmR_born (S := S) (s := v1) (k := v2) h1 (by omega)
  refine ⟨InvR_sm hs h.1, InvL_born h.1 h.2.1 h1 h2 h3 h4 hw, Bd_born h.2.1 h.2.2.1 h1 (by omega) (why_0 hw).1, ?_⟩
  rw [(born_rd (S := S) (s := v1) (k := v2) h1 (by omega)).1 168 (by omega) (by omega) (by omega) (by omega) (by omega)]
  exact h.2.2.2
def giveV (S : SS) (s k : Int) : Int := whyV S s k
theorem whyV_b : -1 ≤ whyV S v1 v2 ∧ whyV S v1 v2 ≤ 3 := by
  have := why_b (S := S) (s := v1) (k := v2)
  unfold whyV
  omega
theorem op_none {kx km : Nat} {ax : List AV} {v : Int} (h : GR cA cB) (hv : I32 v) (hA : ∀ Q : Option AV → HH → Prop, Q (some (aI v)) (G, cA) → TM d kx (aR 1 :: ax) (G, cA) Q) (hB : ∀ Q : Option AV → HH → Prop, Q (some (aI v)) (G, q_up cB 188 0 0) → TM d km (aR 188 :: ax) (G, cB) Q) : OP G d kx km ax cA cB := op_q h hv hA hB
theorem thr_e : (∀ r, ¬ r = 188 → (q_up cB 188 0 0) r = cB r) ∧ (∀ i, ¬ i = 0 → (q_up cB 188 0 0) 188 i = cB 188 i) := ⟨fun r h => up_r h, fun i h => up_n (by omega)⟩
theorem op_give (hG : Shp G) (h : GR cA cB) (h1 : I32 v1) (h2 : I32 v2) : OP G (d + 50) 127 207 [aI v1, aI v2] cA cB := by
  have hS := h.1
  have hR := h.1.1
  have hI := h.1.2.1
  have g := hR.1
  have hr := h.2.1.1
  have hL := h.2.2.1
  have hn := h.2.2.2.2.1.1
  have b1 := isSo_01 (S := cB 190) (k := v1)
  have b2 := isK_01 (S := cB 190) (k := v2)
  have wb := why_b (S := cB 190) (s := v1) (k := v2)
  by_cases hw : isSo (cB 190) v1 = 1 ∧ isK (cB 190) v2 = 1 ∧ whyF (cB 190) v1 v2 = 0
  · obtain ⟨w1, w2, w3⟩ := hw
    obtain ⟨k1, k2⟩ := isSo_t (S := cB 190) (k := v1) (by omega)
    obtain ⟨k3, k4⟩ := isK_t (S := cB 190) (k := v2) (by omega)
    have hm : ∀ cA1 cA', KpA cA cA1 (cB 188 23) (cA 53 2) → FrL 27 cA1 cA' → LR cA' 27 (bornF (cB 190) v1 v2) → TM (d + 50) 207 [aR 188, aI v1, aI v2] (G, cB) (fun r2 h2 => ∃ cB', h2 = (G, cB') ∧ GR cA' cB' ∧ ∃ v, (some (aI 0)) = some (aI v) ∧ r2 = some (aI v) ∧ I32 v) := by
      intro cA1 cA' tA fA lA
      obtain ⟨q1, q2⟩ := thr_e (cB := cB)
      refine b207_0 hG ?_
      generalize hc1 : q_up cB 188 0 0 = c1 at q1 q2 ⊢
      have e190 := q1 190 (by omega)
      refine r_isSoul hG (by rw [e190]; exact hR) h1 ?_
      rw [e190]
      refine b207_10 hG (by intros; omega) ?_ ?_
      · intro p1; omega
      · intro p1
        refine r_isKind hG (by rw [e190]; exact hR) h2 ?_
        rw [e190]
        refine b207_18 hG (by intros; omega) ?_ ?_
        · intro p2
          refine r_whyOf hG (by rw [e190]; exact hR) (by rw [e190]; exact hI) k1 (by omega) k3 (by rw [e190]; exact k4) ?_
          rw [e190]
          refine b207_29 hG TM_eqo (by intros; omega) ?_ ?_
          · intro p3
            refine m_keep hG (by rw [q2 23 (by omega)]; omega) (fun c2 tB => ?_)
            have e2 : c2 190 = cB 190 := by rw [tB.1 190 (by omega) (by omega)]; exact e190
            refine b207_40 hG TM_eqo ?_
            refine r_born hG k1 (by omega) k3 (by omega) ?_
            refine b207_46 hG ?_
            rw [e2]
            exact ⟨_, rfl, GR_act h tA fA q1 q2 tB (SmR_born k1 (by omega)) (GS_born hS k1 k2 k3 k4 w3) lA, 0, rfl, rfl, by omega⟩
          · intro p3; omega
        · intro p2; omega
    refine b127_0 hG ?_
    refine c_isSoul hG hR hr h1 ?_
    refine b127_8 hG (by intros; omega) ?_ ?_
    · intro p1; omega
    · intro p1
      refine c_isKind hG hR hr h2 ?_
      refine b127_19 hG (by intros; omega) ?_ ?_
      · intro p2
        refine c_whyNot hG lf27 hR hI hr hL k1 k2 k3 k4 ?_
        refine b127_33 hG TM_eqo (by intros; omega) ?_ ?_
        · intro p3; omega
        · intro p3
          rw [w3]
          refine x_keep hG h (fun cA1 tA r1 l1 => ?_)
          refine b127_49 hG TM_eqo ?_
          refine c_giveOut hG lf27 hR hI r1 l1 k1 k2 k3 k4 (why_0 w3).1 (fun cA2 f2 l2 => ?_)
          refine b127_58 hG ?_
          have hb := wsl_b (nx := cA 53 2) ⟨hn.2.2.2.1, hn.2.2.2.2⟩
          refine ⟨cA2, rfl, fun r hr => ?_, hm cA1 cA2 tA f2 l2⟩
          rw [f2 r (by omega)]
          exact tA.1 r (by omega) (by omega)
      · intro p2; omega
  · refine op_none (v := whyV (cB 190) v1 v2) h (by have := whyV_b (S := cB 190) (v1 := v1) (v2 := v2); omega) ?_ ?_
    · intro Q hz
      unfold whyV at hz
      refine b127_0 hG ?_
      refine c_isSoul hG hR hr h1 ?_
      refine b127_8 hG (by intros; omega) ?_ ?_
      · intro p1; rw [if_pos (Or.inl p1)] at hz; exact hz
      · intro p1
        refine c_isKind hG hR hr h2 ?_
        refine b127_19 hG (by intros; omega) ?_ ?_
        · intro p2
          rw [if_neg (by omega)] at hz
          obtain ⟨k1, k2⟩ := isSo_t p1
          obtain ⟨k3, k4⟩ := isK_t p2
          refine c_whyNot hG lf27 hR hI hr hL k1 k2 k3 k4 ?_
          refine b127_33 hG TM_eqo (by intros; omega) ?_ ?_
          · intro p3
            refine b127_58 hG ?_
            exact hz
          · intro p3; omega
        · intro p2; rw [if_pos (Or.inr p2)] at hz; exact hz
    · intro Q hz
      clear hr hL hn
      generalize hc : cB = c at *
      refine b207_0 hG ?_
      generalize hc1 : q_up c 188 0 0 = c1 at hz ⊢
      have e190 : c1 190 = c 190 := by rw [← hc1]; rfl
      rw [← e190] at hz hR hI b1 b2 g hw wb
      unfold whyV at hz
      refine r_isSoul hG hR h1 ?_
      refine b207_10 hG (by intros; omega) ?_ ?_
      · intro p1; rw [if_pos (Or.inl p1)] at hz; exact hz
      · intro p1
        refine r_isKind hG hR h2 ?_
        refine b207_18 hG (by intros; omega) ?_ ?_
        · intro p2
          rw [if_neg (by omega)] at hz
          obtain ⟨k1, k2⟩ := isSo_t p1
          obtain ⟨k3, k4⟩ := isK_t p2
          refine r_whyOf hG hR hI k1 (by omega) k3 k4 ?_
          refine b207_29 hG TM_eqo (by intros; omega) ?_ ?_
          · intro p3; omega
          · intro p3; exact hz
        · intro p2; rw [if_pos (Or.inr p2)] at hz; exact hz
theorem GS_days (h : GS S) (hn : 0 ≤ n) (hd : S 168 + n ≤ 9999) : GS (daysF n S) := by
  have ho := Ok_days (n := n) h.1 h.2.1
  exact ⟨Ok_R ho h.1, ho.2, Bd_days h.1 h.2.1 h.2.2.1, by rw [days_168 h.1 h.2.1 hn]; exact hd⟩
theorem GS_cdays (h : GS S) (hn : 0 ≤ n) (hd : S 168 + n ≤ 9999) : GS (cdaysF n S) := by
  have ho := Ok_cdays (n := n) h.1 h.2.1
  exact ⟨Ok_R ho h.1, ho.2, Bd_cdays h.1 h.2.1 h.2.2.1, by rw [cdays_168 h.1 h.2.1 hn]; exact hd⟩
theorem r_areDays (hG : Shp G) (hI : InvL (c 190)) (hb : c 190 168 ≤ 2000000) (h1 : I32 v1) (hz : Q (some (aI (if 1 ≤ v1 ∧ v1 ≤ 60 ∧ c 190 168 + v1 ≤ 9999 then 1 else 0))) (G, c)) : TM (d + 1) 208 [aR 188, aI v1] (G, c) Q := by
  have := hI.2.2.2.2.2.2.1
  refine b208_0 hG ?_
  refine r_isIn hG h1 (by omega) (by omega) ?_
  refine b208_7 hG (by intros; omega) ?_ rfl (by intros; omega) ?_ ?_
  · intro p1; rw [if_neg (by omega)] at hz; exact hz
  · intro p1 p2; rw [if_neg (by omega)] at hz; exact hz
  · intro p1 p2; rw [if_pos (by omega)] at hz; exact hz
theorem r_days_l (hG : Shp G) (hN : I32 N) : ∀ i, 0 ≤ i → i ≤ N → ∀ c : CC, InvR (c 190) → InvL (c 190) → Q (some (aI (loopR (fun _ S => dayF S) i N (c 190) 168))) (G, q_uf c 190 (loopR (fun _ S => dayF S) i N (c 190))) → T (d + 3) 209 21 [some (aR 188), some (aI N), some (aI i)] [] (G, c) (QM Q) := by
  refine int_ind ?_ ?_
  · intro c hR hI hz
    rw [loopR_e (by omega), uf_id] at hz
    refine b209_21 hG (by intros; omega) (by intros; omega) rfl ?_ ?_
    · intro p1; exact hz
    · intro p1; omega
  · intro i h1 h2 ih c hR hI hz
    rw [loopR_s h2] at hz
    refine b209_21 hG (by intros; omega) (by intros; omega) rfl ?_ ?_
    · intro p1; omega
    · intro p1
      refine r_day hG hR hI ?_
      refine b209_30 hG ?_
      have ho := Ok_day hR hI
      refine ih _ ?_ ?_ ?_
      · rw [uf_e]; exact Ok_R ho hR
      · rw [uf_e]; exact ho.2
      · rw [uf_e, uf_uf]; exact hz
theorem r_cdays_l (hG : Shp G) (hN : I32 N) : ∀ i, 0 ≤ i → i ≤ N → ∀ c : CC, InvR (c 190) → InvL (c 190) → Q (some (aI (loopR (fun _ S => cdayF S) i N (c 190) 168))) (G, q_uf c 190 (loopR (fun _ S => cdayF S) i N (c 190))) → T (d + 5) 210 21 [some (aR 188), some (aI N), some (aI i)] [] (G, c) (QM Q) := by
  refine int_ind ?_ ?_
  · intro c hR hI hz
    rw [loopR_e (by omega), uf_id] at hz
    refine b210_21 hG (by intros; omega) (by intros; omega) rfl ?_ ?_
    · intro p1; exact hz
    · intro p1; omega
  · intro i h1 h2 ih c hR hI hz
    rw [loopR_s h2] at hz
    refine b210_21 hG (by intros; omega) (by intros; omega) rfl ?_ ?_
    · intro p1; omega
    · intro p1
      refine r_clerkDay hG hR hI ?_
      refine b210_30 hG ?_
      have ho := Ok_cday hR hI
      refine ih _ ?_ ?_ ?_
      · rw [uf_e]; exact Ok_R ho hR
      · rw [uf_e]; exact ho.2
      · rw [uf_e, uf_uf]; exact hz
theorem op_days (hG : Shp G) (h : GR cA cB) (h1 : I32 v1) : OP G (d + 50) 128 209 [aI v1] cA cB := by
  have hS := h.1
  have hR := h.1.1
  have hI := h.1.2.1
  have gb := GS_b hS
  have hr := h.2.1.1
  have hL := h.2.2.1
  have hn := h.2.2.2.2.1.1
  by_cases hw : 1 ≤ v1 ∧ v1 ≤ 60 ∧ cB 190 168 + v1 ≤ 9999
  · have ed := days_168 (n := v1) hR hI (by omega)
    have hm : ∀ cA1 cA', KpA cA cA1 (cB 188 23) (cA 53 2) → FrL 27 cA1 cA' → LR cA' 27 (daysF v1 (cB 190)) → TM (d + 50) 209 [aR 188, aI v1] (G, cB) (fun r2 h2 => ∃ cB', h2 = (G, cB') ∧ GR cA' cB' ∧ ∃ v, (some (aI (daysF v1 (cB 190) 168))) = some (aI v) ∧ r2 = some (aI v) ∧ I32 v) := by
      intro cA1 cA' tA fA lA
      obtain ⟨q1, q2⟩ := thr_e (cB := cB)
      refine b209_0 hG ?_
      generalize hc1 : q_up cB 188 0 0 = c1 at q1 q2 ⊢
      have e190 := q1 190 (by omega)
      refine r_areDays hG (by rw [e190]; exact hI) (by rw [e190]; omega) h1 ?_
      rw [e190, if_pos hw]
      refine b209_10 hG (by intros; omega) ?_ ?_
      · intro p1
        refine m_keep hG (by rw [q2 23 (by omega)]; omega) (fun c2 tB => ?_)
        have e2 : c2 190 = cB 190 := by rw [tB.1 190 (by omega) (by omega)]; exact e190
        refine b209_19 hG ?_
        refine r_days_l hG h1 0 (by omega) (by omega) c2 (by rw [e2]; exact hR) (by rw [e2]; exact hI) ?_
        rw [loopR_0, e2]
        exact ⟨_, rfl, GR_act h tA fA q1 q2 tB (SmR_days (by have := hR.1; omega)) (GS_days hS (by omega) (by omega)) lA, _, rfl, rfl, by show I32 (daysF v1 (cB 190) 168); omega⟩
      · intro p1; omega
    refine b128_0 hG ?_
    refine c_canPass hG lf27 hI hL (by omega) h1 ?_
    rw [if_pos hw]
    refine b128_8 hG (by intros; omega) ?_ ?_
    · intro p1
      refine x_keep hG h (fun cA1 tA r1 l1 => ?_)
      refine b128_24 hG TM_eqo ?_
      refine c_passDays hG lf27 hR hI r1 l1 h1 (fun cA2 f2 l2 => ?_)
      refine b128_32 hG rfl ?_
      have hb := wsl_b (nx := cA 53 2) ⟨hn.2.2.2.1, hn.2.2.2.2⟩
      refine ⟨cA2, rfl, fun r hr => ?_, ?_⟩
      · rw [f2 r (by omega)]
        exact tA.1 r (by omega) (by omega)
      · rw [l2.1.1.1]
        exact hm cA1 cA2 tA f2 l2
    · intro p1; omega
  · refine op_none (v := -1) h (by omega) ?_ ?_
    · intro Q hz
      refine b128_0 hG ?_
      refine c_canPass hG lf27 hI hL (by omega) h1 ?_
      rw [if_neg hw]
      refine b128_8 hG (by intros; omega) ?_ ?_
      · intro p1; omega
      · intro p1; exact hz
    · intro Q hz
      clear hr hL hn
      generalize hc : cB = c at *
      refine b209_0 hG ?_
      generalize hc1 : q_up c 188 0 0 = c1 at hz ⊢
      have e190 : c1 190 = c 190 := by rw [← hc1]; rfl
      rw [← e190] at hR hI hw gb
      refine r_areDays hG hI (by omega) h1 ?_
      rw [if_neg hw]
      refine b209_10 hG (by intros; omega) ?_ ?_
      · intro p1; omega
      · intro p1; exact hz
theorem op_clerk (hG : Shp G) (h : GR cA cB) (h1 : I32 v1) : OP G (d + 50) 129 210 [aI v1] cA cB := by
  have hS := h.1
  have hR := h.1.1
  have hI := h.1.2.1
  have gb := GS_b hS
  have hr := h.2.1.1
  have hL := h.2.2.1
  have hn := h.2.2.2.2.1.1
  by_cases hw : 1 ≤ v1 ∧ v1 ≤ 60 ∧ cB 190 168 + v1 ≤ 9999
  · have ed := cdays_168 (n := v1) hR hI (by omega)
    have hm : ∀ cA1 cA', KpA cA cA1 (cB 188 23) (cA 53 2) → FrL 27 cA1 cA' → LR cA' 27 (cdaysF v1 (cB 190)) → TM (d + 50) 210 [aR 188, aI v1] (G, cB) (fun r2 h2 => ∃ cB', h2 = (G, cB') ∧ GR cA' cB' ∧ ∃ v, (some (aI (cdaysF v1 (cB 190) 168))) = some (aI v) ∧ r2 = some (aI v) ∧ I32 v) := by
      intro cA1 cA' tA fA lA
      obtain ⟨q1, q2⟩ := thr_e (cB := cB)
      refine b210_0 hG ?_
      generalize hc1 : q_up cB 188 0 0 = c1 at q1 q2 ⊢
      have e190 := q1 190 (by omega)
      refine r_areDays hG (by rw [e190]; exact hI) (by rw [e190]; omega) h1 ?_
      rw [e190, if_pos hw]
      refine b210_10 hG (by intros; omega) ?_ ?_
      · intro p1
        refine m_keep hG (by rw [q2 23 (by omega)]; omega) (fun c2 tB => ?_)
        have e2 : c2 190 = cB 190 := by rw [tB.1 190 (by omega) (by omega)]; exact e190
        refine b210_19 hG ?_
        refine r_cdays_l hG h1 0 (by omega) (by omega) c2 (by rw [e2]; exact hR) (by rw [e2]; exact hI) ?_
        rw [loopR_0, e2]
        exact ⟨_, rfl, GR_act h tA fA q1 q2 tB (SmR_cdays (by have := hR.1; omega)) (GS_cdays hS (by omega) (by omega)) lA, _, rfl, rfl, by show I32 (cdaysF v1 (cB 190) 168); omega⟩
      · intro p1; omega
    refine b129_0 hG ?_
    refine c_canPass hG lf27 hI hL (by omega) h1 ?_
    rw [if_pos hw]
    refine b129_8 hG (by intros; omega) ?_ ?_
    · intro p1
      refine x_keep hG h (fun cA1 tA r1 l1 => ?_)
      refine b129_24 hG TM_eqo ?_
      refine c_passClerkDays hG lf27 hR hI r1 l1 h1 (fun cA2 f2 l2 => ?_)
      refine b129_32 hG rfl ?_
      have hb := wsl_b (nx := cA 53 2) ⟨hn.2.2.2.1, hn.2.2.2.2⟩
      refine ⟨cA2, rfl, fun r hr => ?_, ?_⟩
      · rw [f2 r (by omega)]
        exact tA.1 r (by omega) (by omega)
      · rw [l2.1.1.1]
        exact hm cA1 cA2 tA f2 l2
    · intro p1; omega
  · refine op_none (v := -1) h (by omega) ?_ ?_
    · intro Q hz
      refine b129_0 hG ?_
      refine c_canPass hG lf27 hI hL (by omega) h1 ?_
      rw [if_neg hw]
      refine b129_8 hG (by intros; omega) ?_ ?_
      · intro p1; omega
      · intro p1; exact hz
    · intro Q hz
      clear hr hL hn
      generalize hc : cB = c at *
      refine b210_0 hG ?_
      generalize hc1 : q_up c 188 0 0 = c1 at hz ⊢
      have e190 : c1 190 = c 190 := by rw [← hc1]; rfl
      rw [← e190] at hR hI hw gb
      refine r_areDays hG hI (by omega) h1 ?_
      rw [if_neg hw]
      refine b210_10 hG (by intros; omega) ?_ ?_
      · intro p1; omega
      · intro p1; exact hz
end SPA
