section SPsi
variable {d d1 d2 r n0 : Nat} {G : GG} {c c' cA cB cA' cB' cA0 cB0 : CC} {Q : Option AV → HH → Prop} {v v1 v2 N k m n s t t0 w dep q pa po D sg s0 x y u len most stop p key lf : Int} {j i' : Nat} {S : SS} {B bs bs' dp : Int → Int}
theorem lf_comp (hG : Shp G) (hW : Wt B len most stop) (h : Sen cA0 cB0 B len most stop j t0 bs dep 0 0 0 D cA cB) (hx : cA 48 6 + 1 ≤ 2 * cB 188 41) (hk : 15 ≤ key ∧ key ≤ 19) : T (d1 + 6) 85 118 [some (aR 48), some (aI dep), some (aI 0), none, some (aI key)] [] (G, cA) (QM (fun r1 y1 => T (d2 + 4) 256 76 [some (aR 188), some (aI 0), some (aI 0), some (aI (key - 12)), none] [] (G, cB) (QM (fun r2 y2 => LfP G cA0 cB0 B len most stop j t0 bs dep (D + 1) (cA 48 6) (cB 188 41) r1 y1 r2 y2)))) := by
  have hse : Sent 48 := by unfold Sent; decide
  have h1 := h.2.2.2.1
  have h2 := h.2.2.2.2.1
  have S1 := Sen_44 (v := 1) h
  obtain ⟨e1, e2, e3, e4⟩ := TA_e h.1.1
  have b := p_b hW j
  obtain ⟨t1, t2, t3, t4, t5, t6, t7⟩ := RT_tok hW S1.1.2.1
  have r11 := RT_11 S1.1.2.1
  obtain ⟨lf, hlf⟩ : ∃ lf, lf = key - 12 := ⟨_, rfl⟩
  rw [← hlf]
  refine b85_118 hG (hse) TM_eqo (by intros; omega) (by intros; omega) ?_ rfl ?_ ?_ ?_ ?_ ?_ ?_ ?_ rfl ?_ ?_
  all_goals intros
  all_goals first | (exfalso; omega) | skip
  by_cases hc : zS B len stop j = 4 ∧ 60 ≤ pN B len stop j ∧ pN B len stop j ≤ 62
  · have r3 : (q_up cB 188 44 1) 188 11 = 3 := t2.mp hc.1
    have r14 := t3 r3
    have hp := PP_up hW j (by rw [hc.1]; omega)
    clear t1 t2 t3 t4 t5 t6 t7
    have pass : TM (d1 + 4) 98 [aR 2] (G, cA) (fun r h' => T (d1 + 5) 87 60 [some (aR 48), some (aI key), some (aI (pN B len stop j)), none] (r.toList ++ []) h' (QM (fun r1 y1 => T (d1 + 6) 85 263 [none, none, none, none, none] (r1.toList ++ []) y1 (QM (fun r1 y1 => T (d2 + 4) 256 76 [some (aR 188), some (aI 0), some (aI 0), some (aI lf), none] [] (G, cB) (QM (fun r2 y2 => LfP G cA0 cB0 B len most stop j t0 bs dep (D + 1) (cA 48 6) (cB 188 41) r1 y1 r2 y2))))))) := by
      refine c_advance hG h.1.1 (fun cA1 f1 t1 => ?_)
      have rstep : ∀ (K : Option AV → HH → Prop), (∀ cB1, FrN (q_up cB 188 44 1) cB1 → RT cB1 B len most stop (j + 1) → T (d2 + 4) 256 262 [some (aR 188), none, none, some (aI lf), some (aI (pN B len stop j))] [] (G, cB1) (QM K)) → T (d2 + 4) 256 76 [some (aR 188), some (aI 0), some (aI 0), some (aI lf), none] [] (G, cB) (QM K) := by
        intro K hk
        refine b256_76 hG TM_eqo (by intros; omega) rfl (by intros; omega) (by intros; omega) (up_n (by omega)) ((up_n (by omega)).trans (up_n (by omega))) ?_ (by intros; omega) (by intros; omega) (up_n (by omega)) ((up_n (by omega)).trans (up_n (by omega))) ?_ (by intros; omega) (by intros; omega) (r3) (by intros; omega) ?_ (r14) (by intros; omega) ?_ (r14) (by intros; omega) (r14) ?_ ?_ ?_ ?_ rfl (by intros; omega) (by intros; omega) (up_n (by omega)) ((up_n (by omega)).trans (up_n (by omega))) ?_ (by intros; omega) (by intros; omega) (up_n (by omega)) ((up_n (by omega)).trans (up_n (by omega))) ?_
        all_goals intros
        all_goals first | (exfalso; omega) | skip
        exact r_advance hG S1.1.2.1 hW.1 hW.2.1 hW.2.2.1 (fun cB1 g1 u1 => hk cB1 g1 u1)
      refine b87_60 hG (hse) ?_
      by_cases hn : zS B len stop (j + 1) = 3
      · have hb2 := p_b hW (j + 1)
        refine c_takeNum hG hW t1 (by omega) (by omega) (fun _ _ _ cA2 f2 t2 => ?_) (fun x => absurd ⟨hn, by omega, by omega⟩ x)
        have hp2 := PP_up hW (j + 1) (by rw [hn]; omega)
        refine b87_71 hG (hse) TM_eqo (by intros; omega) ?_ ?_
        · intro q; omega
        · intro q
          refine c_addStep hG (s := cA 48 6) (by rw [f2.1 48 (by omega), f1.1 48 (by omega)]) (by omega) ?_
          refine b87_84 hG (by intros; omega) ?_ ?_
          · intro q2; omega
          · intro q2
            refine b85_263 hG (Or.inr rfl) ?_
            refine rstep _ (fun cB1 g1 u1 => ?_)
            have S2 := Sen_go (cA' := cA1) (i' := j + 1) S1 f1 t1 (FrG_N g1) u1
            obtain ⟨x1, x2, x3, x4, x5, x6, x7⟩ := RT_tok hW u1
            have y11 := x4.mp hn
            have y14 := x5 y11
            refine b256_262 hG TM_eqo (y11) (by intros; omega) (y14) ?_ ?_
            · intro q3
              refine r_code hG (m := cB1 188 40) rfl (by have := S2.2.2.2.2.1; have := S2.2.2.2.1; omega) ?_
              refine b256_287 hG TM_eqo ?_
              have hx2 : cA1 48 6 + 1 ≤ 2 * cB1 188 41 := by
                rw [f1.1 48 (by omega), g1.2 41 (by omega) (by omega) (by omega) (by omega) (by omega) (by omega), up_n (by omega)]; exact hx
              have L1 := Sen_leaf (k := key) (sg := pN B len stop j) (n := pN B len stop (j + 1)) (w := lf) (s0 := pN B len stop j) (u := pN B len stop (j + 1)) S2 hx2 (by omega) (Or.inr (Or.inr (Or.inr (Or.inl ⟨hk.1, hk.2, hlf, rfl, hc.2.1, hc.2.2, rfl, by omega, by omega⟩))))
              refine r_advance hG L1.1.2.1 hW.1 hW.2.1 hW.2.2.1 (fun cB2 g2 u2 => ?_)
              refine b256_291 hG ?_
              have e6 : cA1 48 6 = cA 48 6 := by rw [f1.1 48 (by omega)]
              rw [e6] at L1
              have L2 := Sen_go (cA' := adS cA2 (cA 48 6) key (pN B len stop j) (pN B len stop (j + 1))) (i' := j + 1 + 1) L1 ⟨fun r hr => ?_, fun i p1 p2 p3 p4 p5 => ?_⟩ (TA_fr t2 (adS_r (by omega) (by omega) (by omega) (by omega)) (adS_r (by omega) (by omega) (by omega) (by omega)) (adS_r (by omega) (by omega) (by omega) (by omega)) (adS_r (by omega) (by omega) (by omega) (by omega)) (adS_r (by omega) (by omega) (by omega) (by omega))) (FrG_N g2) u2
              · refine ⟨_, _, rfl, rfl, L2.2.1, L2.2.2.1, Or.inr ⟨rfl, rfl, j + 1 + 1, L2, ?_, adS_6, ?_, by omega⟩⟩
                · rw [g2.2 44 (by omega) (by omega) (by omega) (by omega) (by omega) (by omega), cdB_188 (by omega), g1.2 44 (by omega) (by omega) (by omega) (by omega) (by omega) (by omega), up_e]
                · rw [g2.2 41 (by omega) (by omega) (by omega) (by omega) (by omega) (by omega), cdB_188 (by omega), g1.2 41 (by omega) (by omega) (by omega) (by omega) (by omega) (by omega), up_n (by omega)]
              · by_cases h48 : r = 48
                · rw [h48]; unfold adS; rw [up_er, up_er, up_r (by omega), up_r (by omega), up_r (by omega), up_r (by omega), up_r (by omega), up_r (by omega), f2.1 48 (by omega)]
                · by_cases h49 : r = 49
                  · rw [h49, adS_49, adS_49, f2.1 49 (by omega)]
                  · by_cases h50 : r = 50
                    · rw [h50, adS_50, adS_50, f2.1 50 (by omega)]
                    · by_cases h51 : r = 51
                      · rw [h51, adS_51, adS_51, f2.1 51 (by omega)]
                      · rw [adS_r h48 h49 h50 h51, adS_r h48 h49 h50 h51, f2.1 r hr]
              · rw [adS_r (by omega) (by omega) (by omega) (by omega), adS_r (by omega) (by omega) (by omega) (by omega)]
                exact f2.2 i p1 p2 p3 p4 p5
            · intro q3; omega
      · refine c_takeNum hG hW t1 (by omega) (by omega) (fun x1 _ _ => absurd x1 hn) (fun _ cA2 f2 => ?_)
        refine b87_71 hG (hse) TM_eqo (by intros; omega) ?_ ?_
        · intro q
          refine b85_263 hG (Or.inl rfl) ?_
          refine rstep _ (fun cB1 g1 u1 => ?_)
          have S2 := Sen_go (cA' := cA1) (i' := j + 1) S1 f1 t1 (FrG_N g1) u1
          obtain ⟨x1, x2, x3, x4, x5, x6, x7⟩ := RT_tok hW u1
          have y11 : ¬ cB1 188 11 = 2 := fun z => hn (x4.mpr z)
          have y := RT_11 u1
          clear x1 x2 x3 x4 x5 x6 x7
          refine b256_262 hG TM_eqo rfl (by intros; omega) rfl ?_ ?_
          · intro q3; omega
          · intro q3
            refine r_bad hG u1 (fun cB2 g2 => ?_)
            refine b256_275 hG (Or.inl rfl) ?_
            rw [show fN (zS B len stop (j + 1)) = 1 from if_neg hn] at f2
            exact Lf_f hW S2.2.1 S2.2.2.1 f2 g2 (by omega)
        · intro q; omega
    refine b87_0 hG (hse) ?_
    refine c_isSgn hG hW h.1.1 (by omega) ?_
    by_cases h60 : pN B len stop j = 60
    · rw [if_pos ⟨hc.1, h60⟩]
      refine b87_9 hG (hse) (by intros; omega) (e3) ?_ ?_
      · intro q; exact pass
      · intro q; omega
    · rw [if_neg (fun z => h60 z.2)]
      refine b87_9 hG (hse) (by intros; omega) (e3) ?_ ?_
      · intro q; omega
      · intro q
        refine c_isSgn hG hW h.1.1 (by omega) ?_
        by_cases h61 : pN B len stop j = 61
        · rw [if_pos ⟨hc.1, h61⟩]
          refine b87_21 hG (hse) (by intros; omega) (e3) ?_ ?_
          · intro q; exact pass
          · intro q; omega
        · rw [if_neg (fun z => h61 z.2)]
          refine b87_21 hG (hse) (by intros; omega) (e3) ?_ ?_
          · intro q; omega
          · intro q
            refine c_isSgn hG hW h.1.1 (by omega) ?_
            rw [if_pos ⟨hc.1, by omega⟩]
            refine b87_33 hG (hse) TM_eqo (by intros; omega) (e3) ?_ ?_
            · intro q; exact pass
            · intro q; omega
  · refine b87_0 hG (hse) ?_
    refine c_isSgn hG hW h.1.1 (by omega) ?_
    rw [if_neg (by omega)]
    refine b87_9 hG (hse) (by intros; omega) (e3) ?_ ?_
    · intro q; omega
    · intro q
      refine c_isSgn hG hW h.1.1 (by omega) ?_
      rw [if_neg (by omega)]
      refine b87_21 hG (hse) (by intros; omega) (e3) ?_ ?_
      · intro q; omega
      · intro q
        refine c_isSgn hG hW h.1.1 (by omega) ?_
        rw [if_neg (by omega)]
        refine b87_33 hG (hse) TM_eqo (by intros; omega) (e3) ?_ ?_
        · intro q; omega
        · intro q
          refine c_ref hG h.1.1 (fun cA1 f1 => ?_)
          refine b87_44 hG (Or.inl rfl) ?_
          refine b85_263 hG (Or.inl rfl) ?_
          have bad : TM (d2 + 3) 173 [aR 188, aI 1] (G, q_up cB 188 44 1) (fun r h' => T (d2 + 4) 256 251 [none, none, none, none, none] (r.toList ++ []) h' (QM (fun r2 y2 => LfP G cA0 cB0 B len most stop j t0 bs dep (D + 1) (cA 48 6) (cB 188 41) (some (aI 0)) (G, cA1) r2 y2))) := by
            refine r_bad hG S1.1.2.1 (fun cB1 g1 => ?_)
            refine b256_251 hG (Or.inl rfl) ?_
            exact Lf_f hW h.2.1 S1.2.2.1 f1 g1 (by omega)
          by_cases h3 : (q_up cB 188 44 1) 188 11 = 3
          · have r14 := t3 h3
            have p4 := t2.mpr h3
            clear t1 t2 t3 t4 t5 t6 t7
            refine b256_76 hG TM_eqo (by intros; omega) rfl (by intros; omega) (by intros; omega) (up_n (by omega)) ((up_n (by omega)).trans (up_n (by omega))) ?_ (by intros; omega) (by intros; omega) (up_n (by omega)) ((up_n (by omega)).trans (up_n (by omega))) ?_ (by intros; omega) (by intros; omega) (h3) (by intros; omega) ?_ (r14) (by intros; omega) ?_ (r14) (by intros; omega) (r14) ?_ ?_ ?_ ?_ rfl (by intros; omega) (by intros; omega) (up_n (by omega)) ((up_n (by omega)).trans (up_n (by omega))) ?_ (by intros; omega) (by intros; omega) (up_n (by omega)) ((up_n (by omega)).trans (up_n (by omega))) ?_
            all_goals intros
            all_goals first | (exfalso; omega) | exact bad
          · clear t1 t2 t3 t4 t5 t6 t7
            generalize hx6 : (q_up cB 188 44 1) 188 11 = x6 at *
            refine b256_76 hG TM_eqo (by intros; omega) rfl (by intros; omega) (by intros; omega) (up_n (by omega)) ((up_n (by omega)).trans (up_n (by omega))) ?_ (by intros; omega) (by intros; omega) (up_n (by omega)) ((up_n (by omega)).trans (up_n (by omega))) ?_ (by intros; omega) (by intros; omega) (hx6) (by intros; omega) ?_ (up_n (by omega)) (by intros; omega) ?_ (up_n (by omega)) (by intros; omega) (up_n (by omega)) ?_ ?_ ?_ ?_ rfl (by intros; omega) (by intros; omega) (up_n (by omega)) ((up_n (by omega)).trans (up_n (by omega))) ?_ (by intros; omega) (by intros; omega) (up_n (by omega)) ((up_n (by omega)).trans (up_n (by omega))) ?_
            all_goals intros
            all_goals first | (exfalso; omega) | exact bad
end SPsi
