section SPod
variable {d d1 d2 r n0 : Nat} {G : GG} {c c' cA cB cA0 cB0 cA' cB' cA1 cB1 : CC} {Q : Option AV → HH → Prop} {v v1 v2 N k p len most stop a b w w' n to x y : Int} {j i' : Nat} {B f fS : Int → Int}
theorem D_debt (D : DrR cA cB) (ha : 0 ≤ a ∧ a < cB 191 1) (hb : 0 ≤ b ∧ b < cB 191 1) (hab : ¬ a = b) (hv : 0 ≤ v ∧ v ≤ 999) : DrR (q_up cA 26 (a * 8 + b) v) (q_up cB 191 (67 + 8 * a + b) v) := by
  obtain ⟨a1, a2, a3, a4, a5, a6, a7, a8, a9, a10⟩ := D
  have rd : ∀ i, ¬ i = 67 + 8 * a + b → (q_up cB 191 (67 + 8 * a + b) v) 191 i = cB 191 i := fun i h1 => by rw [up_n (by omega)]
  have rw1 : (q_up cB 191 (67 + 8 * a + b) v) 191 (67 + 8 * a + b) = v := up_e
  have rn : (q_up cB 191 (67 + 8 * a + b) v) 193 = cB 193 := by rw [up_r (by omega)]
  have r8 : (q_up cB 191 (67 + 8 * a + b) v) 188 = cB 188 := by rw [up_r (by omega)]
  generalize q_up cB 191 (67 + 8 * a + b) v = cB' at *
  unfold DrR
  rw [r8, rn, rd 0 (by omega), rd 1 (by omega), rd 2 (by omega), rd 167 (by omega)]
  rw [up_r (r' := 18) (by omega), up_r (r' := 19) (by omega), up_r (r' := 20) (by omega), up_r (r' := 21) (by omega), up_r (r' := 22) (by omega), up_r (r' := 23) (by omega), up_r (r' := 24) (by omega), up_r (r' := 25) (by omega)]
  refine ⟨a1, a2, fun i h1 h2 => ?_, fun i h1 h2 => ?_, fun i h1 h2 => ?_, a6, fun i h1 h2 => ?_, fun x y h1 h2 h3 h4 => ?_, fun i h1 h2 => ?_, fun x y h1 h2 h3 h4 h5 => ?_⟩
  · rw [rd (3 + i) (by omega), rd (9 + i) (by omega)]; exact a3 i h1 h2
  · rw [rd (51 + i) (by omega), rd (59 + i) (by omega)]; exact a4 i h1 h2
  · rw [rd (51 + i) (by omega), rd (59 + i) (by omega)]; exact a5 i h1 h2
  · rw [rd (131 + i) (by omega), rd (15 + i) (by omega)]; exact a7 i h1 h2
  · rw [rd (131 + 6 * x + y) (by omega), rd (15 + 6 * x + y) (by omega), rd (131 + 6 * y + x) (by omega), rd (15 + 6 * y + x) (by omega)]
    exact a8 x y h1 h2 h3 h4
  · by_cases hi : i = a * 8 + b
    · rw [hi, up_e, show 67 + (a * 8 + b) = 67 + 8 * a + b by omega, rw1]; exact ⟨rfl, hv⟩
    · rw [rd (67 + i) (by omega), up_n (by omega)]; exact a9 i h1 h2
  · rw [rd (67 + 8 * x + y) (by omega)]; exact a10 x y h1 h2 h3 h4 h5
theorem ln_debt (hG : Shp G) (hW : Wt B len most stop) (h : StO cA0 cB0 B len most stop j cA cB) (h2 : zS B len stop j = 2) : TM (d1 + 8) 66 [aR 119] (G, cA) (fun r1 y1 => T (d2 + 8) 184 561 [some (aR 188), none, none] [aI 1] (G, cB) (QM (fun r2 y2 => LnP G cA0 cB0 B len most stop j r1 y1 r2 y2))) := by
  have hp := PP_up hW j (by omega)
  refine b66_0 hG ?_
  refine c_advance hG h.1 (fun cA1 f1 t1 => sw ?_)
  refine b184_561 hG (by intros; omega) ?_ ?_
  · intro z; omega
  · intro z
    refine r_advance hG h.2.2.1 hW.1 hW.2.1 hW.2.2.1 (fun cB1 g1 u1 => ?_)
    have S1 := StO_go h f1 t1 (FrG_N g1) u1
    clear f1 g1 h
    refine b184_568 hG ?_
    have hb := S1.2.2.2.2.2.1.1
    have pb := pF_b (B := B) (len := len) (stop := stop) (j := j + 1) (f := cA1 20) hb.2.2.2.2.1
    by_cases hc : zS B len stop (j + 1) = 1 ∧ ¬ pF B len stop (j + 1) (cA1 20) (cB1 191 1) = -1
    · refine r_sLook hG hW S1 (fun _ _ => sw ?_) (fun x => absurd hc x)
      refine b66_7 hG (hb.2.1) ?_
      refine c_sTake hG hW S1 (fun _ _ cA2 f2 t2 => ?_) (fun x => absurd hc x)
      have hp2 := PP_up hW (j + 1) (by rw [hc.1]; omega)
      obtain ⟨s, hs⟩ : ∃ s, s = pF B len stop (j + 1) (cA1 20) (cB1 191 1) := ⟨_, rfl⟩
      rw [← hs] at pb hc ⊢
      have b0 : 0 ≤ s ∧ s < cB1 191 1 := by omega
      clear hs pb
      refine sw ?_
      refine b184_572 hG (by intros; omega) (up_e) ?_ ?_
      · intro q2
        refine r_advance hG (StO_18 S1).2.2.1 hW.1 hW.2.1 hW.2.2.1 (fun cB2 g2 u2 => ?_)
        have S2 := StO_go (StO_18 S1) f2 t2 (FrG_N g2) u2
        have eH : cB2 191 = cB1 191 := by rw [g2.1 191 (by omega), up_r (by omega)]
        rw [← eH] at b0
        clear f2 g2 S1 eH hb
        refine b184_586 hG ?_
        have hb := S2.2.2.2.2.2.1.1
        have pb := pF_b (B := B) (len := len) (stop := stop) (j := j + 1 + 1) (f := cA2 20) hb.2.2.2.2.1
        by_cases hc2 : zS B len stop (j + 1 + 1) = 1 ∧ ¬ pF B len stop (j + 1 + 1) (cA2 20) (cB2 191 1) = -1
        · refine r_sLook hG hW S2 (fun _ _ => sw ?_) (fun x => absurd hc2 x)
          refine b66_28 hG (by intros; omega) (hb.2.1) ?_ ?_
          · intro q1
            refine c_sName hG hW S2 (fun _ _ => ?_) (fun x => absurd hc2 x)
            have hp3 := PP_up hW (j + 1 + 1) (by rw [hc2.1]; omega)
            obtain ⟨t, ht⟩ : ∃ t, t = pF B len stop (j + 1 + 1) (cA2 20) (cB2 191 1) := ⟨_, rfl⟩
            rw [← ht] at pb hc2 ⊢
            have b1 : 0 ≤ t ∧ t < cB2 191 1 := by omega
            clear ht pb
            have a9 := S2.2.2.2.2.2.1.2.2.2.2.2.2.2.2.1 (s * 8 + t) (by omega) (by omega)
            rw [show 67 + (s * 8 + t) = 67 + 8 * s + t by omega] at a9
            by_cases hst : s = t
            · refine b66_57 hG TM_eqo (by intros; omega) (by intros; omega) ?_ ?_ ?_
              · intro q3 q4
                refine c_ref hG t2 (fun cA3 f3 => ?_)
                refine b66_94 hG (Or.inl rfl) ?_
                refine b184_590 hG TM_eqo (by intros; omega) (up_e) (by intros; omega) (by intros; omega) ?_ (up_e) (by intros; omega) (by intros; omega) (up_n (by omega)) (by intros; omega) (up_e) ?_ ?_ ?_
                · intro z1 z2
                  refine r_bad hG (StO_18 S2).2.2.1 (fun cB3 g3 => ?_)
                  refine b184_628 hG (Or.inl rfl) ?_
                  exact Ln_f hW S2.2.2.2.1 (StO_18 S2).2.2.2.2.1 f3 g3 (by omega)
                · intro z1 z2 z3; omega
                · intro z1 z2 z3; omega
                · intro z1; omega
              · intro q3 q4; omega
              · intro q3; omega
            · refine b66_57 hG TM_eqo (by intros; omega) (by intros; omega) ?_ ?_ ?_
              · intro q3 q4; omega
              · intro q3 q4
                refine c_soulPair hG ?_
                by_cases hz : cB2 191 (67 + 8 * s + t) = 0
                · refine b66_82 hG TM_eqo (by intros; omega) (by intros; omega) (a9.1) (by intros; omega) ?_ ?_
                  · intro q5
                    refine c_advance hG t2 (fun cA3 f3 t3 => sw ?_)
                    refine b184_590 hG TM_eqo (by intros; omega) (up_e) (by intros; omega) (by intros; omega) ?_ (up_e) (by intros; omega) (by intros; omega) (up_n (by omega)) (by intros; omega) (up_e) ?_ ?_ ?_
                    · intro z1 z2; omega
                    · intro z1 z2 z3
                      refine r_advance hG (StO_18 S2).2.2.1 hW.1 hW.2.1 hW.2.2.1 (fun cB3 g3 u3 => ?_)
                      have S3 := StO_go (StO_18 S2) f3 t3 (FrG_N g3) u3
                      have eH : cB3 191 = cB2 191 := by rw [g3.1 191 (by omega), up_r (by omega)]
                      rw [← eH] at b0 b1
                      clear f3 g3 S2 eH hb a9
                      have hb := S3.2.2.2.2.2.1.1
                      refine b184_646 hG ?_
                      by_cases hc3 : zS B len stop (j + 1 + 1 + 1) = 3 ∧ 1 ≤ pN B len stop (j + 1 + 1 + 1) ∧ pN B len stop (j + 1 + 1 + 1) ≤ 999
                      · refine r_takes hG hW u3 (by omega) (by omega) (fun _ _ _ cB4 g4 u4 e18 => sw ?_) (fun x => absurd hc3 x)
                        refine b66_102 hG ?_
                        refine c_takeNum hG hW t3 (by omega) (by omega) (fun _ _ _ cA4 f4 t4 => ?_) (fun x => absurd hc3 x)
                        have hp4 := PP_up hW (j + 1 + 1 + 1) (by rw [hc3.1]; omega)
                        have S4 := StO_go S3 f4 t4 g4 u4
                        have eH : cB4 191 = cB3 191 := g4.1 191 (by omega)
                        rw [← eH] at b0 b1
                        clear f4 g4 S3 eH hb
                        have hb := S4.2.2.2.2.2.1.1
                        refine b66_113 hG TM_eqo (by intros; omega) ?_ ?_
                        · intro z4
                          refine c_soulPair hG ?_
                          refine b66_133 hG (by intros; omega) (by intros; omega) ?_
                          refine b184_654 hG (by intros; omega) (e18) (by intros; omega) (by intros; omega) ?_ ?_
                          · intro z5
                            refine Ln_t (i := j + 1 + 1 + 1 + 1) (StO_end S4 (fun r h => up_r (by omega)) (fun r h => up_r h) (D_debt S4.2.2.2.2.2.1 b0 b1 hst (by omega))) ?_
                            clear S4
                            omega
                          · intro z5; omega
                        · intro z4; omega
                      · refine r_takes hG hW u3 (by omega) (by omega) (fun x1 x2 x3 => absurd ⟨x1, x2, x3⟩ hc3) (fun _ cB4 g4 => sw ?_)
                        refine b66_102 hG ?_
                        refine c_takeNum hG hW t3 (by omega) (by omega) (fun x1 x2 x3 => absurd ⟨x1, x2, x3⟩ hc3) (fun _ cA4 f4 => ?_)
                        refine b66_113 hG TM_eqo (by intros; omega) ?_ ?_
                        · intro z4; omega
                        · intro z4
                          refine b184_654 hG (by intros; omega) rfl (by intros; omega) (by intros; omega) ?_ ?_
                          · intro z5; omega
                          · intro z5
                            exact Ln_f hW S3.2.2.2.1 S3.2.2.2.2.1 f4 g4 fN_b
                    · intro z1 z2 z3; omega
                    · intro z1; omega
                  · intro q5; omega
                · refine b66_82 hG TM_eqo (by intros; omega) (by intros; omega) (a9.1) (by intros; omega) ?_ ?_
                  · intro q5; omega
                  · intro q5
                    refine c_ref hG t2 (fun cA3 f3 => ?_)
                    refine b66_94 hG (Or.inl rfl) ?_
                    refine b184_590 hG TM_eqo (by intros; omega) (up_e) (by intros; omega) (by intros; omega) ?_ (up_e) (by intros; omega) (by intros; omega) (up_n (by omega)) (by intros; omega) (up_e) ?_ ?_ ?_
                    · intro z1 z2; omega
                    · intro z1 z2 z3; omega
                    · intro z1 z2 z3
                      refine r_bad hG (StO_18 S2).2.2.1 (fun cB3 g3 => ?_)
                      refine b184_628 hG (Or.inl rfl) ?_
                      exact Ln_f hW S2.2.2.2.1 (StO_18 S2).2.2.2.2.1 f3 g3 (by omega)
                    · intro z1; omega
              · intro q3; omega
          · intro q1; omega
        · refine r_sLook hG hW S2 (fun x1 x2 => absurd ⟨x1, x2⟩ hc2) (fun _ cB3 g3 => ?_)
          refine b184_590 hG TM_eqo (by intros; omega) rfl (by intros; omega) (by intros; omega) ?_ rfl (by intros; omega) (by intros; omega) rfl (by intros; omega) rfl ?_ ?_ ?_
          · intro z1 z2; omega
          · intro z1 z2 z3; omega
          · intro z1 z2 z3; omega
          · intro z1
            refine b66_28 hG (by intros; omega) (hb.2.1) ?_ ?_
            · intro q1
              refine c_sName hG hW S2 (fun x1 x2 => absurd ⟨x1, x2⟩ hc2) (fun _ cA3 f3 => ?_)
              refine b66_57 hG TM_eqo (by intros; omega) (by intros; omega) ?_ ?_ ?_
              · intro q3 q4; omega
              · intro q3 q4; omega
              · intro q3
                exact Ln_f hW S2.2.2.2.1 S2.2.2.2.2.1 f3 g3 fM_b
            · intro q1; omega
      · intro q2; omega
    · refine r_sLook hG hW S1 (fun x1 x2 => absurd ⟨x1, x2⟩ hc) (fun _ cB2 g2 => ?_)
      refine b184_572 hG (by intros; omega) rfl ?_ ?_
      · intro z1; omega
      · intro z1
        refine b66_7 hG (hb.2.1) ?_
        refine c_sTake hG hW S1 (fun x1 x2 => absurd ⟨x1, x2⟩ hc) (fun _ cA2 f2 => ?_)
        refine b66_28 hG (by intros; omega) ((congrFun (f2.1 18 (by omega)) 1).trans hb.2.1) ?_ ?_
        · intro q1; omega
        · intro q1
          exact Ln_f hW S1.2.2.2.1 S1.2.2.2.2.1 f2 g2 fM_b
end SPod
