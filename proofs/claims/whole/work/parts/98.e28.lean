section SPoe
variable {d d1 d2 r n0 : Nat} {G : GG} {c c' cA cB cA0 cB0 cA' cB' cA1 cB1 : CC} {Q : Option AV → HH → Prop} {v v1 v2 N k p len most stop a b w w' n to x y z m : Int} {j i' : Nat} {B f fS : Int → Int}
theorem u2_e (h : z = x ∨ z = y) : q_u1 (q_u1 f x v) y v z = v := by
  by_cases h1 : z = y
  · rw [h1, u1_e]
  · rw [u1_n h1, h.resolve_right h1, u1_e]
theorem u2_n (h1 : ¬ z = x) (h2 : ¬ z = y) : q_u1 (q_u1 f x v) y v z = f z := by rw [u1_n h2, u1_n h1]
theorem D_meets (D : DrR cA cB) (ha : 0 ≤ a ∧ a < 6) (hb : 0 ≤ b ∧ b < 6) (hm : 0 ≤ m ∧ m ≤ 99) (eA : ∀ r, 18 ≤ r → r ≤ 26 → ¬ r = 23 → cA' r = cA r) (eA1 : cA' 23 = q_u1 (q_u1 (cA 23) (a * 6 + b) m) (b * 6 + a) m) (e1 : cB' 191 = q_u1 (q_u1 (q_u1 (q_u1 (cB 191) (131 + 6 * a + b) 1) (131 + 6 * b + a) 1) (15 + 6 * a + b) m) (15 + 6 * b + a) m) (e2 : cB' 193 = cB 193) (e3 : cB' 188 20 = cB 188 20) : DrR cA' cB' := by
  obtain ⟨a1, a2, a3, a4, a5, a6, a7, a8, a9, a10⟩ := D
  have rd : ∀ i, ¬ i = 131 + 6 * a + b → ¬ i = 131 + 6 * b + a → ¬ i = 15 + 6 * a + b → ¬ i = 15 + 6 * b + a → cB' 191 i = cB 191 i := fun i h1 h2 h3 h4 => by rw [e1, u2_n h3 h4, u2_n h1 h2]
  have r15 : ∀ i, (i = 15 + 6 * a + b ∨ i = 15 + 6 * b + a) → cB' 191 i = m := fun i h => by rw [e1, u2_e h]
  have r131 : ∀ i, (i = 131 + 6 * a + b ∨ i = 131 + 6 * b + a) → cB' 191 i = 1 := fun i h => by rw [e1, u2_n (by omega) (by omega), u2_e h]
  clear e1
  unfold DrR
  rw [e2, e3, eA1, rd 0 (by omega) (by omega) (by omega) (by omega), rd 1 (by omega) (by omega) (by omega) (by omega), rd 2 (by omega) (by omega) (by omega) (by omega), rd 167 (by omega) (by omega) (by omega) (by omega), eA 18 (by omega) (by omega) (by omega), eA 19 (by omega) (by omega) (by omega), eA 20 (by omega) (by omega) (by omega), eA 21 (by omega) (by omega) (by omega), eA 22 (by omega) (by omega) (by omega), eA 24 (by omega) (by omega) (by omega), eA 25 (by omega) (by omega) (by omega), eA 26 (by omega) (by omega) (by omega)]
  refine ⟨a1, a2, fun i h1 h2 => ?_, fun i h1 h2 => ?_, fun i h1 h2 => ?_, a6, fun i h1 h2 => ?_, fun x y h1 h2 h3 h4 => ?_, fun i h1 h2 => ?_, fun x y h1 h2 h3 h4 h5 => ?_⟩
  · rw [rd (3 + i) (by omega) (by omega) (by omega) (by omega), rd (9 + i) (by omega) (by omega) (by omega) (by omega)]; exact a3 i h1 h2
  · rw [rd (51 + i) (by omega) (by omega) (by omega) (by omega), rd (59 + i) (by omega) (by omega) (by omega) (by omega)]; exact a4 i h1 h2
  · rw [rd (51 + i) (by omega) (by omega) (by omega) (by omega), rd (59 + i) (by omega) (by omega) (by omega) (by omega)]; exact a5 i h1 h2
  · by_cases hi : i = a * 6 + b ∨ i = b * 6 + a
    · rw [u2_e hi, r131 (131 + i) (by omega), r15 (15 + i) (by omega)]
      exact Or.inl ⟨rfl, rfl, hm⟩
    · rw [u2_n (by omega) (by omega), rd (131 + i) (by omega) (by omega) (by omega) (by omega), rd (15 + i) (by omega) (by omega) (by omega) (by omega)]
      exact a7 i h1 h2
  · by_cases hi : (x = a ∧ y = b) ∨ (x = b ∧ y = a)
    · rw [r15 (15 + 6 * x + y) (by omega), r15 (15 + 6 * y + x) (by omega), r131 (131 + 6 * x + y) (by omega), r131 (131 + 6 * y + x) (by omega)]
      exact ⟨rfl, rfl⟩
    · rw [rd (131 + 6 * x + y) (by omega) (by omega) (by omega) (by omega), rd (15 + 6 * x + y) (by omega) (by omega) (by omega) (by omega), rd (131 + 6 * y + x) (by omega) (by omega) (by omega) (by omega), rd (15 + 6 * y + x) (by omega) (by omega) (by omega) (by omega)]
      exact a8 x y h1 h2 h3 h4
  · rw [rd (67 + i) (by omega) (by omega) (by omega) (by omega)]; exact a9 i h1 h2
  · rw [rd (67 + 8 * x + y) (by omega) (by omega) (by omega) (by omega)]; exact a10 x y h1 h2 h3 h4 h5
theorem ln_meets (hG : Shp G) (hW : Wt B len most stop) (h : StO cA0 cB0 B len most stop j cA cB) (h2 : zS B len stop j = 2) : TM (d1 + 8) 62 [aR 119] (G, cA) (fun r1 y1 => T (d2 + 8) 184 114 [some (aR 188), none, none] [aI 1] (G, cB) (QM (fun r2 y2 => LnP G cA0 cB0 B len most stop j r1 y1 r2 y2))) := by
  have hp := PP_up hW j (by omega)
  refine b62_0 hG ?_
  refine c_advance hG h.1 (fun cA1 f1 t1 => sw ?_)
  refine b184_114 hG (by intros; omega) ?_ ?_
  · intro z; omega
  · intro z
    refine r_advance hG h.2.2.1 hW.1 hW.2.1 hW.2.2.1 (fun cB1 g1 u1 => ?_)
    have S1 := StO_go h f1 t1 (FrG_N g1) u1
    clear f1 g1 h
    refine b184_121 hG ?_
    have hb := S1.2.2.2.2.2.1.1
    have pb := pF_b (B := B) (len := len) (stop := stop) (j := j + 1) (f := cA1 19) hb.2.2.1
    by_cases hc : zS B len stop (j + 1) = 1 ∧ ¬ pF B len stop (j + 1) (cA1 19) (cB1 191 0) = -1
    · refine r_kLook hG hW S1 (fun _ _ => sw ?_) (fun x => absurd hc x)
      refine b62_7 hG (hb.1) ?_
      refine c_kTake hG hW S1 (fun _ _ cA2 f2 t2 => ?_) (fun x => absurd hc x)
      have hp2 := PP_up hW (j + 1) (by rw [hc.1]; omega)
      obtain ⟨s, hs⟩ : ∃ s, s = pF B len stop (j + 1) (cA1 19) (cB1 191 0) := ⟨_, rfl⟩
      rw [← hs] at pb hc ⊢
      have b0 : 0 ≤ s ∧ s < 6 := by omega
      clear hs pb
      refine sw ?_
      refine b184_125 hG (by intros; omega) (up_e) ?_ ?_
      · intro q2
        refine r_advance hG (StO_18 S1).2.2.1 hW.1 hW.2.1 hW.2.2.1 (fun cB2 g2 u2 => ?_)
        have S2 := StO_go (StO_18 S1) f2 t2 (FrG_N g2) u2
        have eH : cB2 191 = cB1 191 := by rw [g2.1 191 (by omega), up_r (by omega)]
        clear f2 g2 S1 eH hb
        refine b184_139 hG ?_
        have hb := S2.2.2.2.2.2.1.1
        have pb := pF_b (B := B) (len := len) (stop := stop) (j := j + 1 + 1) (f := cA2 19) hb.2.2.1
        by_cases hc2 : zS B len stop (j + 1 + 1) = 1 ∧ ¬ pF B len stop (j + 1 + 1) (cA2 19) (cB2 191 0) = -1
        · refine r_kLook hG hW S2 (fun _ _ => sw ?_) (fun x => absurd hc2 x)
          refine b62_28 hG (by intros; omega) (hb.1) ?_ ?_
          · intro q1
            refine c_kName hG hW S2 (fun _ _ => ?_) (fun x => absurd hc2 x)
            have hp3 := PP_up hW (j + 1 + 1) (by rw [hc2.1]; omega)
            obtain ⟨t, ht⟩ : ∃ t, t = pF B len stop (j + 1 + 1) (cA2 19) (cB2 191 0) := ⟨_, rfl⟩
            rw [← ht] at pb hc2 ⊢
            have b1 : 0 ≤ t ∧ t < 6 := by omega
            clear ht pb
            have a7 := S2.2.2.2.2.2.1.2.2.2.2.2.2.1 (s * 6 + t) (by omega) (by omega)
            rw [show 131 + (s * 6 + t) = 131 + 6 * s + t by omega] at a7
            refine b62_57 hG (by intros; omega) ?_ ?_
            · intro q3
              refine c_kindPair hG ?_
              by_cases hz : cB2 191 (131 + 6 * s + t) = 1
              · refine b62_77 hG TM_eqo (by intros; omega) (by intros; omega) rfl (by intros; omega) ?_ ?_
                · intro q4; omega
                · intro q4
                  refine c_ref hG t2 (fun cA3 f3 => ?_)
                  refine b62_90 hG (Or.inl rfl) ?_
                  refine b184_143 hG TM_eqo (by intros; omega) (up_e) (by intros; omega) (by intros; omega) (up_n (by omega)) (by intros; omega) (by intros; omega) (by intros; omega) ?_ ?_ ?_
                  · intro z1 z2; omega
                  · intro z1 z2
                    refine r_bad hG (StO_18 S2).2.2.1 (fun cB3 g3 => ?_)
                    refine b184_177 hG (Or.inl rfl) ?_
                    exact Ln_f hW S2.2.2.2.1 (StO_18 S2).2.2.2.2.1 f3 g3 (by omega)
                  · intro z1; omega
              · refine b62_77 hG TM_eqo (by intros; omega) (by intros; omega) rfl (by intros; omega) ?_ ?_
                · intro q4
                  refine c_advance hG t2 (fun cA3 f3 t3 => sw ?_)
                  refine b184_143 hG TM_eqo (by intros; omega) (up_e) (by intros; omega) (by intros; omega) (up_n (by omega)) (by intros; omega) (by intros; omega) (by intros; omega) ?_ ?_ ?_
                  · intro z1 z2
                    have S2' := StO_18 (v := t) S2
                    refine r_advance hG (RT_row (RT_row S2'.2.2.1 (by omega) (by omega)) (by omega) (by omega)) hW.1 hW.2.1 hW.2.2.1 (fun cB3 g3 u3 => ?_)
                    have fA3 := FAo_V S2.2.2.2.1 f3
                    have fB3 := FBo_N (FBo_U (i := 131 + 6 * t + s) (v := 1) (FBo_U (i := 131 + 6 * s + t) (v := 1) S2'.2.2.2.2.1)) g3
                    refine b184_214 hG ?_
                    by_cases hc3 : zS B len stop (j + 1 + 1 + 1) = 3 ∧ 0 ≤ pN B len stop (j + 1 + 1 + 1) ∧ pN B len stop (j + 1 + 1 + 1) ≤ 99
                    · refine r_takes hG hW u3 (by omega) (by omega) (fun _ _ _ cB4 g4 u4 e18 => sw ?_) (fun x => absurd hc3 x)
                      refine b62_98 hG ?_
                      refine c_takeNum hG hW t3 (by omega) (by omega) (fun _ _ _ cA4 f4 t4 => ?_) (fun x => absurd hc3 x)
                      have hp4 := PP_up hW (j + 1 + 1 + 1) (by rw [hc3.1]; omega)
                      refine b62_108 hG (by intros; omega) ?_ ?_
                      · intro z4
                        refine c_kindPair hG ?_
                        refine b62_128 hG TM_eqo (by intros; omega) (by intros; omega) ?_
                        refine c_kindPair hG ?_
                        refine b62_142 hG (by intros; omega) (by intros; omega) ?_
                        refine b184_221 hG (by intros; omega) (e18) (by intros; omega) (by intros; omega) ((up_n (by omega)).trans e18) (by intros; omega) (by intros; omega) ?_ ?_
                        · intro z5
                          refine Ln_t (i := j + 1 + 1 + 1 + 1) ⟨TA_fr t4 (by rw [up_r (by omega), up_r (by omega)]) (by rw [up_r (by omega), up_r (by omega)]) (by rw [up_r (by omega), up_r (by omega)]) (by rw [up_r (by omega), up_r (by omega)]) (by rw [up_r (by omega), up_r (by omega)]), ?_, RT_row (RT_row u4 (by omega) (by omega)) (by omega) (by omega), FAo_U (FAo_U (FAo_V fA3 f4) (by omega)) (by omega), FBo_U (FBo_U (FBo_G fB3 g4)), ?_, S2.2.2.2.2.2.2⟩ ?_
                          · refine ⟨?_, ?_, ?_⟩
                            · rw [up_n (by omega), up_n (by omega), f4.2 9 (by omega) (by omega) (by omega) (by omega) (by omega), f3.2 9 (by omega) (by omega) (by omega) (by omega) (by omega)]; exact S2.2.1.1
                            · rw [up_n (by omega), up_n (by omega), f4.2 14 (by omega) (by omega) (by omega) (by omega) (by omega), f3.2 14 (by omega) (by omega) (by omega) (by omega) (by omega)]; exact S2.2.1.2.1
                            · rw [up_n (by omega), up_n (by omega), g4.2 15 (by omega) (by omega) (by omega) (by omega) (by omega) (by omega) (by omega), g3.2 15 (by omega) (by omega) (by omega) (by omega) (by omega) (by omega), up_n (by omega), up_n (by omega), up_n (by omega)]; exact S2.2.1.2.2
                          · refine D_meets (a := s) (b := t) (m := pN B len stop (j + 1 + 1 + 1)) S2.2.2.2.2.2.1 b0 b1 hc3.2 (fun r h1 h2 h3 => by rw [up_r (by omega), up_r (by omega), f4.1 r (by omega), f3.1 r (by omega)]) ?_ ?_ ?_ ?_
                            · rw [up_er, up_er, f4.1 23 (by omega), f3.1 23 (by omega)]
                            · rw [up_er, up_er, g4.1 191 (by omega), g3.1 191 (by omega), up_er, up_er, up_r (by omega)]
                            · rw [up_r (by omega), up_r (by omega), g4.1 193 (by omega), g3.1 193 (by omega), up_r (by omega), up_r (by omega), up_r (by omega)]
                            · rw [up_n (by omega), up_n (by omega), g4.2 20 (by omega) (by omega) (by omega) (by omega) (by omega) (by omega) (by omega), g3.2 20 (by omega) (by omega) (by omega) (by omega) (by omega) (by omega), up_n (by omega), up_n (by omega), up_n (by omega)]
                          · clear S2 S2'
                            omega
                        · intro z5; omega
                      · intro z4; omega
                    · refine r_takes hG hW u3 (by omega) (by omega) (fun x1 x2 x3 => absurd ⟨x1, x2, x3⟩ hc3) (fun _ cB4 g4 => sw ?_)
                      refine b62_98 hG ?_
                      refine c_takeNum hG hW t3 (by omega) (by omega) (fun x1 x2 x3 => absurd ⟨x1, x2, x3⟩ hc3) (fun _ cA4 f4 => ?_)
                      refine b62_108 hG (by intros; omega) ?_ ?_
                      · intro z4; omega
                      · intro z4
                        refine b184_221 hG (by intros; omega) rfl (by intros; omega) (by intros; omega) (up_n (by omega)) (by intros; omega) (by intros; omega) ?_ ?_
                        · intro z5; omega
                        · intro z5
                          exact Ln_f hW fA3 fB3 f4 g4 fN_b
                  · intro z1 z2; omega
                  · intro z1; omega
                · intro q4; omega
            · intro q3; omega
          · intro q1; omega
        · refine r_kLook hG hW S2 (fun x1 x2 => absurd ⟨x1, x2⟩ hc2) (fun _ cB3 g3 => ?_)
          refine b184_143 hG TM_eqo (by intros; omega) rfl (by intros; omega) (by intros; omega) rfl (by intros; omega) (by intros; omega) (by intros; omega) ?_ ?_ ?_
          · intro z1 z2; omega
          · intro z1 z2; omega
          · intro z1
            refine b62_28 hG (by intros; omega) (hb.1) ?_ ?_
            · intro q1
              refine c_kName hG hW S2 (fun x1 x2 => absurd ⟨x1, x2⟩ hc2) (fun _ cA3 f3 => ?_)
              refine b62_57 hG (by intros; omega) ?_ ?_
              · intro q3; omega
              · intro q3
                exact Ln_f hW S2.2.2.2.1 S2.2.2.2.2.1 f3 g3 fM_b
            · intro q1; omega
      · intro q2; omega
    · refine r_kLook hG hW S1 (fun x1 x2 => absurd ⟨x1, x2⟩ hc) (fun _ cB2 g2 => ?_)
      refine b184_125 hG (by intros; omega) rfl ?_ ?_
      · intro z1; omega
      · intro z1
        refine b62_7 hG (hb.1) ?_
        refine c_kTake hG hW S1 (fun x1 x2 => absurd ⟨x1, x2⟩ hc) (fun _ cA2 f2 => ?_)
        refine b62_28 hG (by intros; omega) ((congrFun (f2.1 18 (by omega)) 0).trans hb.1) ?_ ?_
        · intro q1; omega
        · intro q1
          exact Ln_f hW S1.2.2.2.1 S1.2.2.2.2.1 f2 g2 fM_b
end SPoe
