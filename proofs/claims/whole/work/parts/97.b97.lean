section SPWo
variable {d : Nat} {G : GG} {c c' cA cB cA1 cB1 cA' cB' : CC} {Q : Option AV → HH → Prop} {v1 v2 v3 n i j x y b len : Int} {S S' : SS} {B : Int → Int}
theorem wsX_b (hR : InvR S) : (wsX S B len v1 v2 (0, 0, 0, 0)).1 = 0 ∨ (0 ≤ (wsX S B len v1 v2 (0, 0, 0, 0)).2.1 ∧ (wsX S B len v1 v2 (0, 0, 0, 0)).2.1 < 10 ∧ 0 ≤ (wsX S B len v1 v2 (0, 0, 0, 0)).2.2.1 ∧ (wsX S B len v1 v2 (0, 0, 0, 0)).2.2.1 < 10 ∧ 0 ≤ (wsX S B len v1 v2 (0, 0, 0, 0)).2.2.2 ∧ (wsX S B len v1 v2 (0, 0, 0, 0)).2.2.2 < 10) := by
  have g := hR.1
  have key : (0 ≤ (wsX S B len v1 v2 (0, 0, 0, 0)).1) ∧ ((wsX S B len v1 v2 (0, 0, 0, 0)).1 = 0 ∨ (0 ≤ (wsX S B len v1 v2 (0, 0, 0, 0)).2.1 ∧ (wsX S B len v1 v2 (0, 0, 0, 0)).2.1 < 10 ∧ 0 ≤ (wsX S B len v1 v2 (0, 0, 0, 0)).2.2.1 ∧ (wsX S B len v1 v2 (0, 0, 0, 0)).2.2.1 < 10 ∧ 0 ≤ (wsX S B len v1 v2 (0, 0, 0, 0)).2.2.2 ∧ (wsX S B len v1 v2 (0, 0, 0, 0)).2.2.2 < 10)) := by
    refine loopI_p (f := wsY S B len v1 v2) (P := fun (p : Int × Int × Int × Int) => 0 ≤ p.1 ∧ (p.1 = 0 ∨ (0 ≤ p.2.1 ∧ p.2.1 < 10 ∧ 0 ≤ p.2.2.1 ∧ p.2.2.1 < 10 ∧ 0 ≤ p.2.2.2 ∧ p.2.2.2 < 10))) ⟨by show (0 : Int) ≤ 0; omega, Or.inl rfl⟩ (fun x p h1 h2 h3 => ?_)
    refine loopI_p (f := wsB S B len v1 v2 x) (P := fun (p : Int × Int × Int × Int) => 0 ≤ p.1 ∧ (p.1 = 0 ∨ (0 ≤ p.2.1 ∧ p.2.1 < 10 ∧ 0 ≤ p.2.2.1 ∧ p.2.2.1 < 10 ∧ 0 ≤ p.2.2.2 ∧ p.2.2.2 < 10))) h3 (fun y p h4 h5 h6 => ?_)
    refine loopI_p (f := wst S B len v1 v2 x y) (P := fun (p : Int × Int × Int × Int) => 0 ≤ p.1 ∧ (p.1 = 0 ∨ (0 ≤ p.2.1 ∧ p.2.1 < 10 ∧ 0 ≤ p.2.2.1 ∧ p.2.2.1 < 10 ∧ 0 ≤ p.2.2.2 ∧ p.2.2.2 < 10))) h6 (fun b p h7 h8 h9 => ?_)
    by_cases hw : wyP S B len v1 v2 x y b
    · rw [wst_y hw]
      refine ⟨by have := h9.1; show 0 ≤ p.1 + 1; omega, Or.inr ?_⟩
      by_cases h0 : p.1 = 0
      · rw [if_pos h0]
        show 0 ≤ x ∧ x < 10 ∧ 0 ≤ y ∧ y < 10 ∧ 0 ≤ b ∧ b < 10
        omega
      · rw [if_neg h0]
        exact h9.2.resolve_left h0
    · rw [wst_n hw]; exact h9
  exact key.2
theorem GR_tape0 (h : GR cA cB) (a1 : ∀ r, ¬ r = 2 → ¬ r = 187 → cA' r = cA r) (a2 : ∀ i, ¬ i = 1 → cA' 2 i = cA 2 i) (a3 : cA' 2 1 = 0) (b1 : ∀ r, ¬ r = 188 → ¬ r = 202 → cB' r = cB r) (b2 : ∀ i, i = 15 ∨ i = 23 ∨ i = 27 ∨ i = 38 → cB' 188 i = cB 188 i) (b3 : cB' 188 2 = 0) (hW : GW cA' cB') : GR cA' cB' := by
  obtain ⟨r1, r2, r3, r4, r5, r6, r7, r8, r9⟩ := h
  obtain ⟨⟨t1, t2, t3⟩, t4, t5, t6⟩ := r4
  have e190 := b1 190 (by omega) (by omega)
  refine ⟨by rw [e190]; exact r1, GN_fr r2 (by rw [e190]; exact SmR_refl _) r1.1 (fun r p => a1 r (by omega) (by omega)) (fun j _ _ => by rw [b1 193 (by omega) (by omega)]), by rw [e190]; exact LR_fr r3 (fun r p q => a1 r (by omega) (by omega)), ⟨⟨by rw [a3, b3], by omega, by omega⟩, fun i p q => by omega, ?_, fun i p q => ?_⟩, GH_fr r5 (by rw [e190]; exact SmR_refl _) (fun r p q => a1 r (by omega) (by omega)) (b2 _ (by omega)) (b1 _ (by omega) (by omega)), GM_fr r6 (a1 _ (by omega) (by omega)) (b2 _ (by omega)) (b1 _ (by omega) (by omega)), hW, GB_fr r8 (fun i _ _ => by rw [a1 120 (by omega) (by omega)]) (b2 _ (by omega)) (b1 _ (by omega) (by omega)) (a1 _ (by omega) (by omega)) (a1 _ (by omega) (by omega)) (b1 _ (by omega) (by omega)) (b1 _ (by omega) (by omega)), GI_fr r9 (fun r p q => a1 r (by omega) (by omega)) (b1 _ (by omega) (by omega)) (b1 _ (by omega) (by omega)) (b1 _ (by omega) (by omega))⟩
  · rw [a2 14 (by omega), b2 15 (by omega)]; exact t5
  · rw [a1 4 (by omega) (by omega), b1 194 (by omega) (by omega)]; exact t6 i p q
def TkB (c c' : CC) (m : Int) : Prop := (∀ r, ¬ r = 188 → c' r = c r) ∧ (∀ i, ¬ i = 0 → ¬ i = 2 → ¬ i = 3 → ¬ i = 4 → ¬ i = 5 → c' 188 i = c 188 i) ∧ c' 188 2 = 0 ∧ c' 188 3 = c 188 2 ∧ c' 188 4 = 0 ∧ c' 188 5 = m
theorem r_taken {m : Int} (hG : Shp G) (hz : ∀ c', TkB c c' m → Q none (G, c')) : TM d 163 [aR 188, aI m] (G, q_up c 188 0 0) Q := by
  refine b163_0 hG (up_n (by omega)) ?_
  refine hz _ ⟨fun r p => ?_, fun i p1 p2 p3 p4 p5 => ?_, ?_, ?_, ?_, up_e⟩
  · rw [up_r p, up_r p, up_r p, up_r p, up_r p]
  · rw [up_n (by omega), up_n (by omega), up_n (by omega), up_n (by omega), up_n (by omega)]
  · rw [up_n (by omega), up_n (by omega), up_e]
  · rw [up_n (by omega), up_n (by omega), up_n (by omega), up_e]
  · rw [up_n (by omega), up_e]
theorem op_were (hG : Shp G) (h : GR cA cB) (h1 : I32 v1) (h2 : I32 v2) : OP G (d + 50) 142 230 [aI v1, aI v2] cA cB := by
  have hS := h.1
  have hR := h.1.1
  have hI := h.1.2.1
  have g := hR.1
  have hr := h.2.1.1
  have hW := h.2.2.2.2.2.2.1
  obtain ⟨⟨t1, t2, t3⟩, t4, t5, t6⟩ := h.2.2.2.1
  have b1 := isSo_01 (S := cB 190) (k := v1)
  have b2 := isSo_01 (S := cB 190) (k := v2)
  have hB : ∀ i, 0 ≤ i → i < cB 188 2 → cA 3 i = cA 3 i ∧ 0 ≤ cA 3 i ∧ cA 3 i ≤ 255 := fun i p q => ⟨rfl, (t4 i p q).2.1, (t4 i p q).2.2.1⟩
  have hBr : ∀ i, 0 ≤ i → i < cB 188 2 → q_and (cB 189 i) 255 = cA 3 i ∧ 0 ≤ cA 3 i ∧ cA 3 i ≤ 255 := fun i p q => ⟨(t4 i p q).1.symm, (t4 i p q).2.1, (t4 i p q).2.2.1⟩
  by_cases hw : (1 ≤ cB 188 2 ∧ cB 188 2 ≤ 30) ∧ isSo (cB 190) v1 = 1 ∧ isSo (cB 190) v2 = 1 ∧ ¬ v1 = v2
  · obtain ⟨hl, w1, w2, w3⟩ := hw
    obtain ⟨k1, k2⟩ := isSo_t (S := cB 190) (k := v1) (by omega)
    obtain ⟨k3, k4⟩ := isSo_t (S := cB 190) (k := v2) (by omega)
    obtain ⟨p, hp⟩ : ∃ p, p = wsX (cB 190) (cA 3) (cB 188 2) v1 v2 (0, 0, 0, 0) := ⟨_, rfl⟩
    have hpb := wsX_b (S := cB 190) (B := cA 3) (len := cB 188 2) (v1 := v1) (v2 := v2) hR
    rw [← hp] at hpb
    have hm : ∀ cA', cA' = q_up (q_uf cA 187 (rowW (cA 187) p)) 2 1 0 → 0 ≤ p.1 → p.1 ≤ 1000 → TM (d + 50) 230 [aR 188, aI v1, aI v2] (G, cB) (fun r2 h2 => ∃ cB', h2 = (G, cB') ∧ GR cA' cB' ∧ ∃ v, (some (aI p.1)) = some (aI v) ∧ r2 = some (aI v) ∧ I32 v) := by
      intro cA' hA' p0 p1000
      refine b230_0 hG ?_
      refine r_taken hG (fun c1 tk => ?_)
      obtain ⟨m1, m2, m3, m4, m5, m6⟩ := tk
      have e190 := m1 190 (by omega)
      refine b230_12 hG ?_
      refine r_isSoul hG (by rw [e190]; exact hR) h1 ?_
      rw [e190, w1]
      refine b230_17 hG (by intros; omega) ?_ ?_
      · intro q; omega
      · intro q
        refine r_isSoul hG (by rw [e190]; exact hR) h2 ?_
        rw [e190, w2]
        refine b230_25 hG (by intros; omega) ?_ (by intros; omega) (by intros; omega) ?_ rfl ?_
        · intro q; omega
        · intro q q2; omega
        · intro q q2
          refine r_isIn hG (by omega) (by omega) (by omega) ?_
          rw [if_pos (by omega)]
          refine b230_43 hG (by intros; omega) ?_ ?_
          · intro q3
            refine r_ways hG (B := cA 3) (len := cB 188 2) (by rw [e190]; exact hR) (by omega) ⟨k1, by omega⟩ ⟨k3, by omega⟩ m4 (fun i p q => by rw [m1 189 (by omega)]; exact hBr i p q) (fun p' c3 hp' hW' g1 g2 => ?_)
            rw [e190, ← hp] at hp'
            subst hp'
            obtain ⟨x1, x2, x3, x4⟩ := hW'
            refine ⟨c3, rfl, ?_, p'.1, rfl, rfl, by omega⟩
            refine GR_tape0 h (fun r q1 q2 => by rw [hA', up_r q1, uf_n q2]) (fun i q1 => by rw [hA', up_n (by omega), uf_n2 (by omega)]) (by rw [hA', up_e]) (fun r q1 q2 => by rw [x1 r q1 q2, m1 r q1]) (fun i q1 => by rw [x2 i (by omega), m2 i (by omega) (by omega) (by omega) (by omega) (by omega)]) (by rw [x2 2 (by omega)]; exact m3) ?_
            obtain ⟨y1, y2, y3⟩ := hW
            have e31 : c1 188 31 = cB 188 31 := m2 31 (by omega) (by omega) (by omega) (by omega) (by omega)
            by_cases hz0 : p'.1 = 0
            · rw [if_pos hz0, e31] at x3
              refine ⟨fun i q1 q2 => ?_, by rw [x3]; exact y2, by rw [x3]; exact y3⟩
              rw [hA', up_r (by omega), uf_e, show rowW (cA 187) p' = cA 187 from if_pos hz0, x3, x4, show rowW (c1 202) p' = c1 202 from if_pos hz0, m1 202 (by omega)]
              exact y1 i q1 q2
            · rw [if_neg hz0] at x3
              have hb := hpb.resolve_left hz0
              refine ⟨fun i q1 q2 => ?_, by rw [x3]; omega, by rw [x3]; omega⟩
              rw [hA', up_r (by omega), uf_e, x3, if_pos rfl, x4]
              have e1 : rowW (cA 187) p' = q_u1 (q_u1 (q_u1 (cA 187) 0 p'.2.1) 1 p'.2.2.1) 2 p'.2.2.2 := if_neg hz0
              have e2 : rowW (c1 202) p' = q_u1 (q_u1 (q_u1 (c1 202) 0 p'.2.1) 1 p'.2.2.1) 2 p'.2.2.2 := if_neg hz0
              rw [e1, e2]
              have hi : i = 0 ∨ i = 1 ∨ i = 2 := by omega
              rcases hi with rfl | rfl | rfl
              · rw [u1_n (by omega), u1_n (by omega), u1_e, u1_n (by omega), u1_n (by omega), u1_e]
                exact ⟨rfl, by omega⟩
              · rw [u1_n (by omega), u1_e, u1_n (by omega), u1_e]
                exact ⟨rfl, by omega⟩
              · rw [u1_e, u1_e]
                exact ⟨rfl, by omega⟩
          · intro q3; omega
    refine b142_0 hG rfl (by intros; omega) ?_ rfl (by intros; omega) ?_ ?_
    · intro q; omega
    · intro q q2; omega
    · intro q q2
      refine c_isSoul hG hR hr h1 ?_
      rw [w1]
      refine b142_31 hG (by intros; omega) ?_ ?_
      · intro q; omega
      · intro q
        refine c_isSoul hG hR hr h2 ?_
        rw [w2]
        refine b142_42 hG TM_eqo (by intros; omega) ?_ (by intros; omega) (by intros; omega) ?_ ?_
        · intro q; omega
        · intro q q2; omega
        · intro q q2
          refine c_countWays hG hR (B := cA 3) (len := cB 188 2) (by omega) ⟨k1, k2⟩ ⟨k3, k4⟩ hr t1 hB (fun p' hp' g1 g2 => ?_)
          rw [← hp] at hp'
          subst hp'
          refine b142_66 hG ?_
          exact ⟨_, rfl, fun r hr => by rw [up_r (by omega), uf_n (by omega)], hm _ rfl g1 g2⟩
  · have hm : ∀ Q : Option AV → HH → Prop, (∀ c1, TkB cB c1 940 → Q (some (aI (-1))) (G, c1)) → TM (d + 50) 230 [aR 188, aI v1, aI v2] (G, cB) Q := by
      intro Q hz
      refine b230_0 hG ?_
      refine r_taken hG (fun c1 tk => ?_)
      have hz := hz c1 tk
      obtain ⟨m1, m2, m3, m4, m5, m6⟩ := tk
      have e190 := m1 190 (by omega)
      refine b230_12 hG ?_
      refine r_isSoul hG (by rw [e190]; exact hR) h1 ?_
      rw [e190]
      refine b230_17 hG (by intros; omega) ?_ ?_
      · intro q; exact hz
      · intro q
        refine r_isSoul hG (by rw [e190]; exact hR) h2 ?_
        rw [e190]
        refine b230_25 hG (by intros; omega) ?_ (by intros; omega) (by intros; omega) ?_ rfl ?_
        · intro q; exact hz
        · intro q q2; exact hz
        · intro q q2
          refine r_isIn hG (by omega) (by omega) (by omega) ?_
          rw [if_neg (by omega)]
          refine b230_43 hG (by intros; omega) ?_ ?_
          · intro q3; omega
          · intro q3; exact hz
    have hA : ∀ Q : Option AV → HH → Prop, Q (some (aI (-1))) (G, q_up cA 2 1 0) → TM (d + 50) 142 [aR 1, aI v1, aI v2] (G, cA) Q := by
      intro Q hz
      refine b142_0 hG rfl (by intros; omega) ?_ rfl (by intros; omega) ?_ ?_
      · intro q; exact hz
      · intro q q2; exact hz
      · intro q q2
        refine c_isSoul hG hR hr h1 ?_
        refine b142_31 hG (by intros; omega) ?_ ?_
        · intro q; exact hz
        · intro q
          refine c_isSoul hG hR hr h2 ?_
          refine b142_42 hG TM_eqo (by intros; omega) ?_ (by intros; omega) (by intros; omega) ?_ ?_
          · intro q; exact hz
          · intro q q2; exact hz
          · intro q q2; omega
    refine hA _ ⟨_, rfl, fun r hr => up_r (by omega), hm _ (fun c1 tk => ?_)⟩
    obtain ⟨m1, m2, m3, m4, m5, m6⟩ := tk
    refine ⟨c1, rfl, ?_, -1, rfl, rfl, by omega⟩
    refine GR_tape0 h (fun r q1 q2 => up_r q1) (fun i q1 => up_n (by omega)) up_e (fun r q1 q2 => m1 r q1) (fun i q1 => m2 i (by omega) (by omega) (by omega) (by omega) (by omega)) m3 ?_
    exact GW_fr hW (up_r (by omega)) (m2 31 (by omega) (by omega) (by omega) (by omega) (by omega)) (m1 202 (by omega))
end SPWo
