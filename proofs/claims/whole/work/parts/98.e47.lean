section SPsl
variable {r n0 : Nat} {G : GG} {c c' cA cB cA' cB' cA0 cB0 : CC} {Q : Option AV → HH → Prop} {v v1 v2 N k m s t t0 w dep q pa po D sg s0 x y u len most stop p key lf : Int} {j i' d2 : Nat} {S : SS} {B bs bs' dp : Int → Int}
theorem Sen_pushO (h : Sen cA0 cB0 B len most stop j t0 bs dep 0 0 0 D cA cB) (hw : 20 ≤ w ∧ w ≤ 23) (hd : dep ≤ 8) (e42 : cB 188 42 = t0) (e43 : cB 188 43 = dep) : Sen cA0 cB0 B len most stop j (t0 + 1) (q_u1 bs t0 w) (dep + 1) 0 0 0 D cA (q_up (q_up (q_up cB 206 t0 w) 188 42 (t0 + 1)) 188 43 (dep + 1)) := by
  have b1 := h.2.2.2.2.2.1
  have b2 := h.2.2.2.2.2.2.2.1
  have h2 := SeC_push (w := w) (cB' := q_up (q_up (q_up cB 206 t0 w) 188 42 (t0 + 1)) 188 43 (dep + 1)) h.2.2.2 (dep + 1) (by rw [up_n (by omega), up_n (by omega), up_n (by omega)]) (by rw [up_n (by omega), up_n (by omega), up_n (by omega)]) (by rw [up_n (by omega), up_e, e42]) (by rw [up_e]) (by rw [up_r (by omega), up_r (by omega), up_er]) (by rw [up_r (by omega), up_r (by omega), up_r (by omega)]) hw (by omega)
  exact ⟨TkS_C h.1 (fun i hi => by rw [up_n (by omega), up_n (by omega), up_n (by omega)]) (by rw [up_r (by omega), up_r (by omega), up_r (by omega)]), h.2.1, FBs_I h.2.2.1 (fun r h1 _ h3 => by rw [up_r h1, up_r h1, up_r h3]) (fun i hi => by rw [up_n (by omega), up_n (by omega), up_n (by omega)]), h2⟩
theorem Sen_one (h : Sen cA0 cB0 B len most stop j t0 bs dep 0 0 0 D cA cB) (hy : cB 188 41 < 20) (f : FrV (q_up cA 48 8 (cB 188 41 + 1)) cA') (t : TA cA' B len stop (j + 1)) (g : FrN (q_up cB 188 41 (cB 188 41 + 1)) cB') (u : RT cB' B len most stop (j + 1)) : Sen cA0 cB0 B len most stop (j + 1) t0 bs dep 0 0 0 D cA' cB' ∧ cA' 48 6 = cA 48 6 ∧ cB' 188 41 = cB 188 41 + 1 ∧ cB' 188 44 = cB 188 44 ∧ cB' 188 42 = cB 188 42 ∧ cB' 188 43 = cB 188 43 := by
  have h0 := h.2.2.2
  obtain ⟨h1, h2, h3, h4, h5, h6⟩ := h0
  have gi : ∀ i, 19 ≤ i → ¬ i = 41 → cB' 188 i = cB 188 i := fun i p1 p2 => by rw [g.2 i (by omega) (by omega) (by omega) (by omega) (by omega) (by omega), up_n (by omega)]
  have g41 : cB' 188 41 = cB 188 41 + 1 := by rw [g.2 41 (by omega) (by omega) (by omega) (by omega) (by omega) (by omega), up_e]
  have a8 : cA' 48 8 = cB 188 41 + 1 := by rw [f.1 48 (by omega), up_e]
  have a6 : cA' 48 6 = cA 48 6 := by rw [f.1 48 (by omega), up_n (by omega)]
  refine ⟨⟨TkS_go (TkS_A (TkS_C h.1 (cB' := q_up cB 188 41 (cB 188 41 + 1)) (fun i hi => up_n (by omega)) (up_r (by omega))) (cA' := q_up cA 48 8 (cB 188 41 + 1)) (up_r (by omega)) (up_r (by omega)) (up_r (by omega)) (up_r (by omega)) (up_r (by omega))) f t (FrG_N g) u, FAs_V (FAs_8 h.2.1) f, FBs_G (FBs_I h.2.2.1 (fun r h1 _ _ => up_r h1) (fun i hi => up_n (by omega))) (FrG_N g), ?_⟩, a6, g41, gi 44 (by omega) (by omega), gi 42 (by omega) (by omega), gi 43 (by omega) (by omega)⟩
  unfold SeC RPc at *
  rw [a8, a6, g41, gi 40 (by omega) (by omega), gi 42 (by omega) (by omega), gi 43 (by omega) (by omega), f.1 49 (by omega), f.1 50 (by omega), f.1 51 (by omega), up_r (r' := 49) (by omega), up_r (r' := 50) (by omega), up_r (r' := 51) (by omega), g.1 192 (by omega), g.1 206 (by omega), up_r (r' := 192) (by omega), up_r (r' := 206) (by omega)]
  exact ⟨⟨rfl, by omega, by omega⟩, by omega, h3, h4, h5, h6⟩
theorem one_of (hG : Shp G) (hW : Wt B len most stop) (hN : NmS cA0 cB0) {n : Nat} (hc : RCond G d2 cA0 cB0 B len most stop n) (ho : ROne G d2 cA0 cB0 B len most stop n) : ROne G d2 cA0 cB0 B len most stop (n + 1) := by
  have hse : Sent 48 := by unfold Sent; decide
  intro d j t0 bs dep D cA cB F hn hd h e44 hf hs
  have hb1 := h.2.2.2.1
  have hb2 := h.2.2.2.2.1
  have hb3 := h.2.2.2.2.2.1
  have hb4 := h.2.2.2.2.2.2.1
  have hb5 := h.2.2.2.2.2.2.2.1
  have e42 : cB 188 42 = t0 := by omega
  have e43 : cB 188 43 = dep := by omega
  obtain ⟨d', rfl⟩ : ∃ d', d = d' + 6 := ⟨d - 6, by omega⟩
  refine c_oneHead (d := d' + 2) hG hW h.1.1 (y := cB 188 41) hb1.1 hb1.2 (by omega) ?_ ?_ ?_
  · intro hst cA1 f1
    refine h_op hG e44 ?_
    refine r_oneHead (d := d2 + 7) hG hW (Sen_RT h) (y := cB 188 41) rfl hb1.2 e43 (by omega) ?_ (fun x => absurd x hst) (fun x => absurd x hst)
    intro _ cB1 g1
    have hbp := (p_b hW j).2.2.2.2.2
    have h16 := g1.2.2.2
    refine b258_122 hG (by intros; omega) ?_ rfl ?_
    · intro z; omega
    · intro z
      exact hf cA1 cB1 (FAs_F h.2.1 f1) (FBs_F h.2.2.1 g1) (FlX_mk hW f1 g1 (by omega))
  · intro hst h4 cA1 f1
    refine h_op hG e44 ?_
    refine r_oneHead (d := d2 + 7) hG hW (Sen_RT h) (y := cB 188 41) rfl hb1.2 e43 (by omega) (fun x => absurd hst x) ?_ (fun _ x1 x2 => by omega)
    intro _ _ cB1 g1
    have hbp := (p_b hW j).2.2.2.2.2
    have h16 := g1.2.2.2
    refine b258_122 hG (by intros; omega) ?_ rfl ?_
    · intro z; omega
    · intro z
      exact hf cA1 cB1 (FAs_F h.2.1 f1) (FBs_F h.2.2.1 g1) (FlX_mk hW f1 g1 (by omega))
  · intro hst hy hd8 cA1 f1 t1
    have hp0 : ¬ zS B len stop j = 0 := by
      rcases hst with x | x
      · omega
      · omega
    have hp := PP_up hW j hp0
    refine swH ?_
    refine h_op hG e44 ?_
    refine r_oneHead (d := d2 + 7) hG hW (Sen_RT h) (y := cB 188 41) rfl hb1.2 e43 (by omega) (fun x => absurd hst x) (fun _ x => by omega) ?_
    intro _ _ _ cB1 g1 u1
    obtain ⟨s1, a6, g41, g44, g42, g43⟩ := Sen_one h hy f1 t1 g1 u1
    rw [e42] at g42
    rw [e43] at g43
    rw [e44] at g44
    have hb := p_b hW j
    have hN1 : NmS cA1 cB1 := NmS_fr hN (by rw [s1.2.1.1 9 (by omega) (by omega) (by omega)]) (by rw [s1.2.1.1 10 (by omega) (by omega) (by omega)]) (by rw [s1.2.1.1 11 (by omega) (by omega) (by omega)]) (by rw [s1.2.2.1.1 190 (by omega) (by omega) (by omega)]) (by rw [s1.2.2.1.1 193 (by omega) (by omega) (by omega)]) (by rw [s1.2.2.1.1 194 (by omega) (by omega) (by omega)])
    have hx1 : cA1 48 6 + 1 ≤ 2 * cB1 188 41 := by omega
    clear f1 g1 t1 u1
    have leaf : ∀ lf : Int, T (d' + 6) 85 118 [some (aR 48), some (aI dep), some (aI 0), none, some (aI (pN B len stop j))] [] (G, cA1) (QM (fun r1 y1 => T (d2 + 11) 256 76 [some (aR 188), some (aI 0), some (aI 0), some (aI lf), none] [] (G, cB1) (QM (fun r2 y2 => LfP G cA0 cB0 B len most stop (j + 1) t0 bs dep (D + 1) (cA1 48 6) (cB1 188 41) r1 y1 r2 y2)))) → T (d2 + 11) 256 76 [some (aR 188), some (aI 0), some (aI 0), some (aI lf), none] [] (G, cB1) (QM (fun r h' => T (d2 + 12) 258 122 [some (aR 188), some (aI 1), none] (r.toList ++ []) h' (QM (fun r2 y2 => T (d' + 6) 85 118 [some (aR 48), some (aI dep), some (aI 0), none, some (aI (pN B len stop j))] [] (G, cA1) (QM (fun r1 y1 => F r1 y1 r2 y2)))))) := by
      intro lf L
      refine T_Qm (fun r2 y2 x => ?_) (sw L)
      refine sw (T_Qm (fun r1 y1 hh => ?_) x)
      obtain ⟨cX, cY, rfl, rfl, f1, f2, ⟨rfl, rfl, hx⟩ | ⟨rfl, rfl, j', s2, i2, i3, i4, i5⟩⟩ := hh
      · have h16 := hx.2.2.2
        refine b258_122 hG (by intros; omega) ?_ rfl ?_
        · intro z; omega
        · intro z; exact hf cX cY f1 f2 hx
      · refine b258_122 hG (by intros; omega) ?_ rfl ?_
        · intro z
          exact hs j' 0 cX cY s2 ⟨i2, by omega, by omega, by omega⟩
        · intro z; omega
    by_cases ho1 : zS B len stop j = 4 ∧ pN B len stop j = 40
    · have n2 : ¬ (zS B len stop j = 2 ∧ pN B len stop j = 12) := by omega
      rw [if_neg n2, if_pos ho1]
      have hL : lfK (zS B len stop j) (pN B len stop j) = -1 := if_neg (by omega)
      rw [hL]
      have s2 := Sen_pushO (w := 23) s1 (by omega) hd8 g42 g43
      have x43 : (q_up (q_up cB1 206 t0 23) 188 42 (t0 + 1)) 188 43 = dep := by rw [up_n (by omega), up_n (by omega)]; exact g43
      have x43' : (q_up (q_up cB1 206 t0 20) 188 42 (t0 + 1)) 188 43 = dep := by rw [up_n (by omega), up_n (by omega)]; exact g43
      refine b256_76 hG TM_eqo (by intros; first | omega | (exfalso; omega)) (g42) (by intros; first | omega | (exfalso; omega)) (by intros; first | omega | (exfalso; omega)) ((up_n (by omega)).trans g42) (x43) ?_ (by intros; first | omega | (exfalso; omega)) (by intros; first | omega | (exfalso; omega)) (g42) (x43') ?_ (by intros; first | omega | (exfalso; omega)) (by intros; first | omega | (exfalso; omega)) (up_n (by omega)) (by intros; first | omega | (exfalso; omega)) ?_ (up_n (by omega)) (by intros; first | omega | (exfalso; omega)) ?_ (up_n (by omega)) (by intros; first | omega | (exfalso; omega)) (up_n (by omega)) ?_ ?_ ?_ ?_ (g42) (by intros; first | omega | (exfalso; omega)) (by intros; first | omega | (exfalso; omega)) ((up_n (by omega)).trans g42) (x43) ?_ (by intros; first | omega | (exfalso; omega)) (by intros; first | omega | (exfalso; omega)) (g42) (x43') ?_
      all_goals intros
      all_goals first | (exfalso; omega) | skip
      refine b258_122 hG (by intros; omega) ?_ rfl ?_
      · intro z
        refine swK ?_
        refine b85_118 hG (hse) TM_eqo (by intros; omega) (by intros; omega) ?_ rfl ?_ ?_ ?_ ?_ ?_ ?_ ?_ rfl ?_ ?_
        all_goals intros
        all_goals first | (exfalso; omega) | skip
        refine TM_Qm (fun r1 y1 x => swH x) (hc (d' + 5) (j + 1) (t0 + 1) (q_u1 bs t0 23) (dep + 1) D cA1 _ _ (by omega) (by omega) s2 (Or.inr (by rw [show t0 + 1 - 1 = t0 by omega, u1_e])) (by omega) (by rw [up_n (by omega), up_n (by omega), up_n (by omega)]; exact g44) ?_ ?_)
        · intro cA3 cB3 f3 f4 hx
          show T (d' + 6) 85 129 _ [aI 0] _ _
          refine b85_129 hG (hse) TM_eqo (by intros; omega) ?_ ?_
          · intro z2; exact hf cA3 cB3 f3 f4 hx
          · intro z2; omega
        · intro j3 q3 pa3 po3 cA3 cB3 s4 pg n11 n10
          obtain ⟨pg1, pg2, pg3, pg4⟩ := pg
          rw [up_n (by omega), up_n (by omega), up_n (by omega)] at pg2 pg3
          have hbp := (p_b hW j3).2.2.2.2.2
          have tk := RT_tok hW (Sen_RT s4)
          have r11 := RT_11 (Sen_RT s4)
          by_cases hcl : zS B len stop j3 = 4 ∧ pN B len stop j3 = 41
          · have hp3 := PP_up hW j3 (by rw [hcl.1]; omega)
            have nz : ¬ cB3 188 11 = 0 := fun z => by have := (tk.1.mpr z).1; omega
            clear tk
            refine h_beh hG pg1 nz r11 ?_
            refine r_behClose hG hW s4 hcl (by omega) (fun cB4 cB5 s5 i5 g5 u5 => ?_)
            refine b258_112 hG (by intros; omega) ?_ rfl ?_
            · intro z2
              refine swK ?_
              show T (d' + 6) 85 129 _ [aI 1] _ _
              refine b85_129 hG (hse) TM_eqo (by intros; omega) ?_ ?_
              · intro z3; omega
              · intro z3
                refine c_takeSign hG hW s4.1.1 (by omega) (fun _ cA4 f4 t4 => ?_) (fun x => absurd hcl x)
                have s6 := Sen_go s5 f4 t4 (FrG_N g5) u5
                have o5 := Sen_ones s4 s5
                have e6 : cA4 48 6 = cA3 48 6 := by rw [f4.1 48 (by omega)]
                have e41 : cB5 188 41 = cB3 188 41 := by rw [g5.2 41 (by omega) (by omega) (by omega) (by omega) (by omega) (by omega)]; exact o5
                have e44' : cB5 188 44 = 1 := by rw [g5.2 44 (by omega) (by omega) (by omega) (by omega) (by omega) (by omega)]; exact i5.trans pg1
                refine b85_141 hG (by intros; omega) ?_ ?_
                · intro z4; omega
                · intro z4
                  exact hs (j3 + 1) 0 cA4 cB5 s6 ⟨e44', by omega, by omega, by omega⟩
            · intro z2; omega
          · by_cases hz11 : cB3 188 11 = 0
            · clear tk
              refine r_endX (d := d2 + 8) hG hW s4 pg1 hz11 (Or.inr (by rw [show t0 + 1 - 1 = t0 by omega, u1_e])) (fun x => by omega) (fun _ cB4 cB5 f5 g5 => ?_)
              show T (d' + 6) 85 129 _ [aI 1] _ _
              refine b85_129 hG (hse) TM_eqo (by intros; omega) ?_ ?_
              · intro z3; omega
              · intro z3
                refine c_takeSign hG hW s4.1.1 (by omega) (fun x => absurd x hcl) (fun _ cA4 f4 => ?_)
                refine b85_141 hG (by intros; omega) ?_ ?_
                · intro z4
                  exact hf cA4 cB5 (FAs_F s4.2.1 f4) (FBs_F f5 g5) (FlX_mk hW f4 g5 (by omega))
                · intro z4; omega
            · clear tk
              refine h_beh hG pg1 hz11 r11 ?_
              refine r_behBad hG hW s4 n11 n10 (Or.inr ⟨by rw [show t0 + 1 - 1 = t0 by omega, u1_e], hcl⟩) (fun cB4 cB5 f5 g5 => ?_)
              have h16 := g5.2.2.2
              refine b258_112 hG (by intros; omega) ?_ rfl ?_
              · intro z2; omega
              · intro z2
                show T (d' + 6) 85 129 _ [aI 1] _ _
                refine b85_129 hG (hse) TM_eqo (by intros; omega) ?_ ?_
                · intro z3; omega
                · intro z3
                  refine c_takeSign hG hW s4.1.1 (by omega) (fun x => absurd x hcl) (fun _ cA4 f4 => ?_)
                  refine b85_141 hG (by intros; omega) ?_ ?_
                  · intro z4
                    exact hf cA4 cB5 (FAs_F s4.2.1 f4) (FBs_F f5 g5) (FlX_mk hW f4 g5 (by omega))
                  · intro z4; omega
      · intro z; omega
    · rw [if_neg ho1]
      have hw2 : zS B len stop j = 2 ∧ (pN B len stop j = 7 ∨ 12 ≤ pN B len stop j) := hst.resolve_left ho1
      by_cases hn12 : pN B len stop j = 12
      · rw [if_pos ⟨hw2.1, hn12⟩]
        have hL : lfK (zS B len stop j) (pN B len stop j) = -1 := by
          unfold lfK
          rw [if_pos hw2.1, if_neg (by omega), if_neg (by omega), if_neg (by omega)]
        rw [hL, hn12]
        have s2 := Sen_pushO (w := 20) s1 (by omega) hd8 g42 g43
        have x43 : (q_up (q_up cB1 206 t0 23) 188 42 (t0 + 1)) 188 43 = dep := by rw [up_n (by omega), up_n (by omega)]; exact g43
        have x43' : (q_up (q_up cB1 206 t0 20) 188 42 (t0 + 1)) 188 43 = dep := by rw [up_n (by omega), up_n (by omega)]; exact g43
        refine b256_76 hG TM_eqo (by intros; first | omega | (exfalso; omega)) (g42) (by intros; first | omega | (exfalso; omega)) (by intros; first | omega | (exfalso; omega)) ((up_n (by omega)).trans g42) (x43) ?_ (by intros; first | omega | (exfalso; omega)) (by intros; first | omega | (exfalso; omega)) (g42) (x43') ?_ (by intros; first | omega | (exfalso; omega)) (by intros; first | omega | (exfalso; omega)) (up_n (by omega)) (by intros; first | omega | (exfalso; omega)) ?_ (up_n (by omega)) (by intros; first | omega | (exfalso; omega)) ?_ (up_n (by omega)) (by intros; first | omega | (exfalso; omega)) (up_n (by omega)) ?_ ?_ ?_ ?_ (g42) (by intros; first | omega | (exfalso; omega)) (by intros; first | omega | (exfalso; omega)) ((up_n (by omega)).trans g42) (x43) ?_ (by intros; first | omega | (exfalso; omega)) (by intros; first | omega | (exfalso; omega)) (g42) (x43') ?_
        all_goals intros
        all_goals first | (exfalso; omega) | skip
        refine b258_122 hG (by intros; omega) ?_ rfl ?_
        · intro z
          refine swK ?_
          refine b85_118 hG (hse) TM_eqo (by intros; omega) (by intros; omega) ?_ rfl ?_ ?_ ?_ ?_ ?_ ?_ ?_ rfl ?_ ?_
          all_goals intros
          all_goals first | (exfalso; omega) | skip
          refine b270_0 hG (hse) TM_eqo ?_
          refine TM_Qm (fun r1 y1 x => T_Qm (fun r3 y3 x2 => swH x2) (swH x)) (ho (d' + 4) (j + 1) (t0 + 1) (q_u1 bs t0 20) (dep + 1) D cA1 _ _ (by omega) (by omega) s2 (by rw [up_n (by omega), up_n (by omega), up_n (by omega)]; exact g44) ?_ ?_)
          · intro cA3 cB3 f3 f4 hx
            show T (d' + 5) 270 7 _ [aI 0] _ _
            refine b270_7 hG (hse) TM_eqo (by intros; omega) ?_ ?_
            · intro z2
              show T (d' + 6) 85 205 _ [aI 0] _ _
              refine b85_205 hG (Or.inl rfl) ?_
              exact hf cA3 cB3 f3 f4 hx
            · intro z2; omega
          · intro j3 q3 cA3 cB3 s4 pg
            obtain ⟨pg1, pg2, pg3, pg4⟩ := pg
            rw [up_n (by omega), up_n (by omega), up_n (by omega)] at pg2 pg3
            refine swK ?_
            show T (d' + 5) 270 7 _ [aI 1] _ _
            have bd1 := s4.2.2.2.1
            have bd2 := s4.2.2.2.2.1
            have bd7 := s4.2.2.2.2.2.2.1
            refine b270_7 hG (hse) TM_eqo (by intros; omega) ?_ ?_
            · intro z2; omega
            · intro z2
              refine c_addStep hG rfl (by omega) ?_
              refine b270_18 hG (by intros; omega) ?_ ?_
              · intro z3; omega
              · intro z3
                show HD G d2 cB3 (fun r2 y2 => T (d' + 6) 85 205 [none, none, none, none, none] [aI 1] (G, adS cA3 (cA3 48 6) 12 0 0) (QM (fun r1 y1 => F r1 y1 r2 y2)))
                refine swK ?_
                refine b85_205 hG (Or.inr rfl) ?_
                have s5 : Sen cA0 cB0 B len most stop j3 t0 bs dep (q3 + 1) 0 0 (D + 1) (adS cA3 (cA3 48 6) 12 0 0) cB3 := ⟨TkS_S s4.1, FAs_S s4.2.1, s4.2.2.1, SeC_addN s4.2.2.2 (by omega) (by omega) (by omega)⟩
                exact hs j3 (q3 + 1) _ cB3 s5 ⟨pg1, by omega, by rw [adS_6]; omega, by omega⟩
        · intro z; omega
      · rw [if_neg (fun x => hn12 x.2)]
        by_cases h13 : pN B len stop j = 13
        · have hL : lfK (zS B len stop j) (pN B len stop j) = 0 := by
            unfold lfK
            rw [if_pos hw2.1, if_pos h13]
          rw [hL]
          refine leaf 0 ?_
          rw [h13]
          exact lf_waits (d2 := d2 + 7) hG s1 hx1
        · by_cases h7 : pN B len stop j = 7
          · have hL : lfK (zS B len stop j) (pN B len stop j) = 1 := by
              unfold lfK
              rw [if_pos hw2.1, if_neg h13, if_pos h7]
            rw [hL]
            refine leaf 1 ?_
            rw [h7]
            exact lf_named (d2 := d2 + 7) hG hW hN1 s1 hx1 (Or.inl ⟨rfl, rfl⟩)
          · have hL : lfK (zS B len stop j) (pN B len stop j) = pN B len stop j - 12 := by
              unfold lfK
              rw [if_pos hw2.1, if_neg h13, if_neg h7, if_pos (by omega)]
            rw [hL]
            refine leaf _ ?_
            by_cases h14 : pN B len stop j = 14
            · rw [h14]
              exact lf_named (d2 := d2 + 7) hG hW hN1 s1 hx1 (Or.inr ⟨rfl, by omega⟩)
            · exact lf_comp (d2 := d2 + 7) hG hW s1 hx1 (by have := hb.2.2.2.1 hw2.1; omega)
theorem PP_len (hW : Wt B len most stop) : ∀ j, PP B len stop j ≤ len := by
  obtain ⟨⟨w1, w2⟩, w3, w4, ⟨w5, w6⟩, w7⟩ := hW
  intro j
  induction j with
  | zero =>
    have := skE_b (B := B) (stop := stop) (i := 0)
    have e : PP B len stop 0 = skE B stop 0 := rfl
    omega
  | succ j ih =>
    have h2 := skE_b (B := B) (stop := stop) (i := tE B len stop (PP B len stop j))
    have e : PP B len stop (j + 1) = skE B stop (tE B len stop (PP B len stop j)) := rfl
    have h3 : tE B len stop (PP B len stop j) ≤ len := by
      by_cases g : PP B len stop j < stop
      · exact tE_len w6 g
      · unfold tE; rw [if_neg g]; exact ih
    omega
theorem one_all (hG : Shp G) (hW : Wt B len most stop) (hN : NmS cA0 cB0) : ∀ n, ROne G d2 cA0 cB0 B len most stop n := by
  intro n
  induction n with
  | zero =>
    intro d j t0 bs dep D cA cB F hn hd h e44 hf hs
    have := PP_len hW j
    have hl := hW.1
    omega
  | succ n ih => exact one_of hG hW hN (cond_of hG hW (all_of hG hW ih)) ih
end SPsl
