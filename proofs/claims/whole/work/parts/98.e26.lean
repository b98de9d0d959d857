section SPoc
variable {d d1 d2 r n0 : Nat} {G : GG} {c c' cA cB cA0 cB0 cA' cB' cA1 cB1 : CC} {Q : Option AV → HH → Prop} {v v1 v2 N k p len most stop a b w w' n to x y : Int} {j i' : Nat} {B f fS : Int → Int}
theorem c_kName (hG : Shp G) (hW : Wt B len most stop) (h : StO cA0 cB0 B len most stop j cA cB) (hz : zS B len stop j = 1 → ¬ pF B len stop j (cA 19) (cB 191 0) = -1 → Q (some (aI (pF B len stop j (cA 19) (cB 191 0)))) (G, cA)) (hf : ¬ (zS B len stop j = 1 ∧ ¬ pF B len stop j (cA 19) (cB 191 0) = -1) → ∀ c', FlA cA c' (fM (zS B len stop j)) (pP B len stop j) → Q (some (aI (-1))) (G, c')) : TM (d + 1) 106 [aR 2, aR 19, aI (cB 191 0)] (G, cA) Q := by
  obtain ⟨⟨c1, c2, c3, c4, c5, c6⟩, -, aK, aS, -⟩ := h.2.2.2.2.2.1
  exact c_nameHere hG hW h.1 (n0 := 6) (sh_ok hG (by decide +kernel)) (sh_ln hG (by decide +kernel)) (by omega) c3 (by omega) (fun i g1 g2 => ⟨rfl, NmR_64 (aK i g1 g2).1⟩) hz hf
theorem c_sName (hG : Shp G) (hW : Wt B len most stop) (h : StO cA0 cB0 B len most stop j cA cB) (hz : zS B len stop j = 1 → ¬ pF B len stop j (cA 20) (cB 191 1) = -1 → Q (some (aI (pF B len stop j (cA 20) (cB 191 1)))) (G, cA)) (hf : ¬ (zS B len stop j = 1 ∧ ¬ pF B len stop j (cA 20) (cB 191 1) = -1) → ∀ c', FlA cA c' (fM (zS B len stop j)) (pP B len stop j) → Q (some (aI (-1))) (G, c')) : TM (d + 1) 106 [aR 2, aR 20, aI (cB 191 1)] (G, cA) Q := by
  obtain ⟨⟨c1, c2, c3, c4, c5, c6⟩, -, aK, aS, -⟩ := h.2.2.2.2.2.1
  exact c_nameHere hG hW h.1 (n0 := 8) (sh_ok hG (by decide +kernel)) (sh_ln hG (by decide +kernel)) (by omega) c5 (by omega) (fun i g1 g2 => ⟨rfl, NmR_64 (aS i g1 g2).1⟩) hz hf
theorem c_kTake (hG : Shp G) (hW : Wt B len most stop) (h : StO cA0 cB0 B len most stop j cA cB) (hz : zS B len stop j = 1 → ¬ pF B len stop j (cA 19) (cB 191 0) = -1 → ∀ c', FrV cA c' → TA c' B len stop (j + 1) → Q (some (aI (pF B len stop j (cA 19) (cB 191 0)))) (G, c')) (hf : ¬ (zS B len stop j = 1 ∧ ¬ pF B len stop j (cA 19) (cB 191 0) = -1) → ∀ c', FlA cA c' (fM (zS B len stop j)) (pP B len stop j) → Q (some (aI (-1))) (G, c')) : TM (d + 2) 107 [aR 2, aR 19, aI (cB 191 0)] (G, cA) Q := by
  obtain ⟨⟨c1, c2, c3, c4, c5, c6⟩, -, aK, aS, -⟩ := h.2.2.2.2.2.1
  exact c_takeName hG hW h.1 (n0 := 6) (sh_ok hG (by decide +kernel)) (sh_ln hG (by decide +kernel)) (by omega) c3 (by omega) (fun i g1 g2 => ⟨rfl, NmR_64 (aK i g1 g2).1⟩) hz hf
theorem c_sTake (hG : Shp G) (hW : Wt B len most stop) (h : StO cA0 cB0 B len most stop j cA cB) (hz : zS B len stop j = 1 → ¬ pF B len stop j (cA 20) (cB 191 1) = -1 → ∀ c', FrV cA c' → TA c' B len stop (j + 1) → Q (some (aI (pF B len stop j (cA 20) (cB 191 1)))) (G, c')) (hf : ¬ (zS B len stop j = 1 ∧ ¬ pF B len stop j (cA 20) (cB 191 1) = -1) → ∀ c', FlA cA c' (fM (zS B len stop j)) (pP B len stop j) → Q (some (aI (-1))) (G, c')) : TM (d + 2) 107 [aR 2, aR 20, aI (cB 191 1)] (G, cA) Q := by
  obtain ⟨⟨c1, c2, c3, c4, c5, c6⟩, -, aK, aS, -⟩ := h.2.2.2.2.2.1
  exact c_takeName hG hW h.1 (n0 := 8) (sh_ok hG (by decide +kernel)) (sh_ln hG (by decide +kernel)) (by omega) c5 (by omega) (fun i g1 g2 => ⟨rfl, NmR_64 (aS i g1 g2).1⟩) hz hf
theorem r_kLook (hG : Shp G) (hW : Wt B len most stop) (h : StO cA0 cB0 B len most stop j cA cB) (hz : zS B len stop j = 1 → ¬ pF B len stop j (cA 19) (cB 191 0) = -1 → Q (some (aI 1)) (G, q_up cB 188 18 (pF B len stop j (cA 19) (cB 191 0)))) (hf : ¬ (zS B len stop j = 1 ∧ ¬ pF B len stop j (cA 19) (cB 191 0) = -1) → ∀ c', FlB cB c' (fM (zS B len stop j)) (pP B len stop j) → Q (some (aI 0)) (G, c')) : TM (d + 2) 182 [aR 188] (G, cB) Q := by
  obtain ⟨⟨c1, c2, c3, c4, c5, c6⟩, -, aK, aS, -⟩ := h.2.2.2.2.2.1
  refine b182_0 hG TM_eqo rfl ?_
  refine r_looksAt hG hW h.2.2.1 (StO_194 h) (f := cA 19) (by omega) (fun i g1 g2 => (aK i g1 g2).1) (fun q1 q2 => ?_) (fun q c' f1 => ?_)
  · refine b182_12 hG (Or.inr rfl) ?_
    exact hz q1 q2
  · refine b182_12 hG (Or.inl rfl) ?_
    exact hf q c' f1
theorem r_sLook (hG : Shp G) (hW : Wt B len most stop) (h : StO cA0 cB0 B len most stop j cA cB) (hz : zS B len stop j = 1 → ¬ pF B len stop j (cA 20) (cB 191 1) = -1 → Q (some (aI 1)) (G, q_up cB 188 18 (pF B len stop j (cA 20) (cB 191 1)))) (hf : ¬ (zS B len stop j = 1 ∧ ¬ pF B len stop j (cA 20) (cB 191 1) = -1) → ∀ c', FlB cB c' (fM (zS B len stop j)) (pP B len stop j) → Q (some (aI 0)) (G, c')) : TM (d + 2) 183 [aR 188] (G, cB) Q := by
  obtain ⟨⟨c1, c2, c3, c4, c5, c6⟩, -, aK, aS, -⟩ := h.2.2.2.2.2.1
  refine b183_0 hG TM_eqo rfl ?_
  refine r_looksAt hG hW h.2.2.1 (StO_194 h) (f := cA 20) (by omega) (fun i g1 g2 => (aS i g1 g2).1) (fun q1 q2 => ?_) (fun q c' f1 => ?_)
  · refine b183_12 hG (Or.inr rfl) ?_
    exact hz q1 q2
  · refine b183_12 hG (Or.inl rfl) ?_
    exact hf q c' f1
theorem StO_18 (h : StO cA0 cB0 B len most stop j cA cB) : StO cA0 cB0 B len most stop j cA (q_up cB 188 18 v) := by
  obtain ⟨tA, e9, tB, fA, fB, D, hv⟩ := h
  exact ⟨tA, ⟨e9.1, e9.2.1, (up_n (by omega)).trans e9.2.2⟩, RT_up tB (by omega), fA, FBo_T fB (by omega), DrR_nm D (up_r (by omega)) (fun i _ => by rw [up_r (by omega)]) (up_n (by omega)), hv⟩
theorem D_wish (D : DrR cA cB) (ha : 0 ≤ a ∧ a < cB 191 1) (hb : 0 ≤ b ∧ b < cB 191 0) : DrR (q_up cA 25 a b) (q_up cB 191 (59 + a) (b + 1)) := by
  obtain ⟨a1, a2, a3, a4, a5, a6, a7, a8, a9, a10⟩ := D
  have rd : ∀ i, ¬ i = 59 + a → (q_up cB 191 (59 + a) (b + 1)) 191 i = cB 191 i := fun i h1 => by rw [up_n (by omega)]
  have rw1 : (q_up cB 191 (59 + a) (b + 1)) 191 (59 + a) = b + 1 := up_e
  have rn : (q_up cB 191 (59 + a) (b + 1)) 193 = cB 193 := by rw [up_r (by omega)]
  have r8 : (q_up cB 191 (59 + a) (b + 1)) 188 = cB 188 := by rw [up_r (by omega)]
  generalize q_up cB 191 (59 + a) (b + 1) = cB' at *
  unfold DrR
  rw [r8, rn, rd 0 (by omega), rd 1 (by omega), rd 2 (by omega), rd 167 (by omega)]
  rw [up_r (r' := 18) (by omega), up_r (r' := 19) (by omega), up_r (r' := 20) (by omega), up_r (r' := 21) (by omega), up_r (r' := 22) (by omega), up_r (r' := 23) (by omega), up_r (r' := 24) (by omega), up_r (r' := 26) (by omega)]
  refine ⟨a1, a2, fun i h1 h2 => ?_, fun i h1 h2 => ?_, fun i h1 h2 => ?_, a6, fun i h1 h2 => ?_, fun x y h1 h2 h3 h4 => ?_, fun i h1 h2 => ?_, fun x y h1 h2 h3 h4 h5 => ?_⟩
  · rw [rd (3 + i) (by omega), rd (9 + i) (by omega)]; exact a3 i h1 h2
  · rw [rd (51 + i) (by omega)]
    refine ⟨(a4 i h1 h2).1, (a4 i h1 h2).2.1, ?_⟩
    by_cases hi : i = a
    · rw [hi, rw1, up_e]; omega
    · rw [rd (59 + i) (by omega), up_n (by omega)]; exact (a4 i h1 h2).2.2
  · rw [rd (51 + i) (by omega)]
    obtain ⟨g1, g2, g3, g4⟩ := a5 i h1 h2
    by_cases hi : i = a
    · subst hi
      rw [rw1]
      exact ⟨g1, by omega, g3, fun h => by omega⟩
    · rw [rd (59 + i) (by omega)]
      exact ⟨g1, g2, g3, g4⟩
  · rw [rd (131 + i) (by omega), rd (15 + i) (by omega)]; exact a7 i h1 h2
  · rw [rd (131 + 6 * x + y) (by omega), rd (15 + 6 * x + y) (by omega), rd (131 + 6 * y + x) (by omega), rd (15 + 6 * y + x) (by omega)]
    exact a8 x y h1 h2 h3 h4
  · rw [rd (67 + i) (by omega)]; exact a9 i h1 h2
  · rw [rd (67 + 8 * x + y) (by omega)]; exact a10 x y h1 h2 h3 h4 h5
theorem ln_wish (hG : Shp G) (hW : Wt B len most stop) (h : StO cA0 cB0 B len most stop j cA cB) (h2 : zS B len stop j = 2) : TM (d1 + 8) 65 [aR 119] (G, cA) (fun r1 y1 => T (d2 + 8) 184 481 [some (aR 188), none, none] [aI 1] (G, cB) (QM (fun r2 y2 => LnP G cA0 cB0 B len most stop j r1 y1 r2 y2))) := by
  have hp := PP_up hW j (by omega)
  refine b65_0 hG ?_
  refine c_advance hG h.1 (fun cA1 f1 t1 => sw ?_)
  refine b184_481 hG (by intros; omega) ?_ ?_
  · intro z; omega
  · intro z
    refine r_advance hG h.2.2.1 hW.1 hW.2.1 hW.2.2.1 (fun cB1 g1 u1 => ?_)
    have S1 := StO_go h f1 t1 (FrG_N g1) u1
    clear f1 g1 h
    refine b184_488 hG ?_
    have hb := S1.2.2.2.2.2.1.1
    have pb := pF_b (B := B) (len := len) (stop := stop) (j := j + 1) (f := cA1 20) hb.2.2.2.2.1
    by_cases hc : zS B len stop (j + 1) = 1 ∧ ¬ pF B len stop (j + 1) (cA1 20) (cB1 191 1) = -1
    · refine r_sLook hG hW S1 (fun _ _ => sw ?_) (fun x => absurd hc x)
      refine b65_7 hG (hb.2.1) ?_
      refine c_sName hG hW S1 (fun _ _ => ?_) (fun x => absurd hc x)
      have hp2 := PP_up hW (j + 1) (by rw [hc.1]; omega)
      have a4 := S1.2.2.2.2.2.1.2.2.2.1 (pF B len stop (j + 1) (cA1 20) (cB1 191 1)) (by omega) (by omega)
      have a5 := S1.2.2.2.2.2.1.2.2.2.2.1 (pF B len stop (j + 1) (cA1 20) (cB1 191 1)) (by omega) (by omega)
      obtain ⟨s, hs⟩ : ∃ s, s = pF B len stop (j + 1) (cA1 20) (cB1 191 1) := ⟨_, rfl⟩
      rw [← hs] at a4 a5 pb hc ⊢
      have b0 : 0 ≤ s ∧ s < cB1 191 1 := by omega
      clear hs pb
      by_cases hw : cB1 191 (59 + s) = 0
      · refine b65_28 hG TM_eqo (by intros; omega) (by intros; omega) (by intros; omega) (a4.2.2) (by intros; omega) ?_ ?_ ?_
        · intro q1 q2
          refine c_advance hG t1 (fun cA2 f2 t2 => sw ?_)
          refine b184_492 hG TM_eqo (by intros; omega) (up_e) (by intros; omega) (by intros; omega) (up_n (by omega)) (by intros; omega) ?_ ?_ ?_
          · intro z1 z2
            refine r_advance hG (StO_18 S1).2.2.1 hW.1 hW.2.1 hW.2.2.1 (fun cB2 g2 u2 => ?_)
            have S2 := StO_go (StO_18 S1) f2 t2 (FrG_N g2) u2
            have eH : cB2 191 = cB1 191 := by rw [g2.1 191 (by omega), up_r (by omega)]
            rw [← eH] at b0 hw
            clear f2 g2 a4 a5 S1 eH hb
            refine b184_524 hG ?_
            have hb := S2.2.2.2.2.2.1.1
            have pb := pF_b (B := B) (len := len) (stop := stop) (j := j + 1 + 1) (f := cA2 19) hb.2.2.1
            by_cases hc2 : zS B len stop (j + 1 + 1) = 1 ∧ ¬ pF B len stop (j + 1 + 1) (cA2 19) (cB2 191 0) = -1
            · refine r_kLook hG hW S2 (fun _ _ => ?_) (fun x => absurd hc2 x)
              have hp3 := PP_up hW (j + 1 + 1) (by rw [hc2.1]; omega)
              refine b184_528 hG TM_eqo (by intros; omega) (up_e) (by intros; omega) (by intros; omega) ?_ ?_
              · intro z3
                refine r_advance hG (RT_row (StO_18 S2).2.2.1 (by omega) (by omega)) hW.1 hW.2.1 hW.2.2.1 (fun cB3 g3 u3 => ?_)
                refine b184_552 hG ?_
                refine b65_65 hG (hb.1) ?_
                refine c_kTake hG hW S2 (fun _ _ cA3 f3 t3 => ?_) (fun x => absurd hc2 x)
                refine b65_86 hG (by intros; omega) (by intros; omega) (by intros; omega) ?_ ?_
                · intro z4
                  have S3 : StO cA0 cB0 B len most stop (j + 1 + 1) (q_up cA2 25 s (pF B len stop (j + 1 + 1) (cA2 19) (cB2 191 0))) (q_up (q_up cB2 188 18 (pF B len stop (j + 1 + 1) (cA2 19) (cB2 191 0))) 191 (59 + s) (pF B len stop (j + 1 + 1) (cA2 19) (cB2 191 0) + 1)) :=
                    StO_end (StO_18 S2) (fun r h => up_r (by omega)) (fun r h => up_r h) (D_wish (StO_18 S2).2.2.2.2.2.1 b0 (by show _ ∧ _ < cB2 191 0; omega))
                  have S4 := StO_go (cA' := q_up cA3 25 s (pF B len stop (j + 1 + 1) (cA2 19) (cB2 191 0))) (i' := j + 1 + 1 + 1) S3 ⟨fun r h => ?_, fun i p1 p2 p3 p4 p5 => ?_⟩ (TA_fr t3 (up_r (by omega)) (up_r (by omega)) (up_r (by omega)) (up_r (by omega)) (up_r (by omega))) (FrG_N g3) u3
                  · refine Ln_t S4 ?_
                    clear S4 S3 S2
                    omega
                  · by_cases h25 : r = 25
                    · rw [h25, up_er, up_er, f3.1 25 (by omega)]
                    · rw [up_r h25, up_r h25]; exact f3.1 r h
                  · rw [up_n (by omega), up_n (by omega)]; exact f3.2 i p1 p2 p3 p4 p5
                · intro z4; omega
              · intro z3; omega
            · refine r_kLook hG hW S2 (fun x1 x2 => absurd ⟨x1, x2⟩ hc2) (fun _ cB3 g3 => ?_)
              refine b184_528 hG TM_eqo (by intros; omega) rfl (by intros; omega) (by intros; omega) ?_ ?_
              · intro z3; omega
              · intro z3
                refine b65_65 hG (hb.1) ?_
                refine c_kTake hG hW S2 (fun x1 x2 => absurd ⟨x1, x2⟩ hc2) (fun _ cA3 f3 => ?_)
                refine b65_86 hG (by intros; omega) (by intros; omega) (by intros; omega) ?_ ?_
                · intro z4; omega
                · intro z4
                  exact Ln_f hW S2.2.2.2.1 S2.2.2.2.2.1 f3 g3 fM_b
          · intro z1 z2; omega
          · intro z1; omega
        · intro q1 q2; omega
        · intro q1; omega
      · refine b65_28 hG TM_eqo (by intros; omega) (by intros; omega) (by intros; omega) (a4.2.2) (by intros; omega) ?_ ?_ ?_
        · intro q1 q2; omega
        · intro q1 q2
          refine c_ref hG t1 (fun cA2 f2 => ?_)
          refine b65_57 hG (Or.inl rfl) ?_
          refine b184_492 hG TM_eqo (by intros; omega) (up_e) (by intros; omega) (by intros; omega) (up_n (by omega)) (by intros; omega) ?_ ?_ ?_
          · intro z1 z2; omega
          · intro z1 z2
            refine r_bad hG (StO_18 S1).2.2.1 (fun cB2 g2 => ?_)
            refine b184_519 hG (Or.inl rfl) ?_
            exact Ln_f hW S1.2.2.2.1 (StO_18 S1).2.2.2.2.1 f2 g2 (by omega)
          · intro z1; omega
        · intro q1; omega
    · refine r_sLook hG hW S1 (fun x1 x2 => absurd ⟨x1, x2⟩ hc) (fun _ cB2 g2 => ?_)
      refine b184_492 hG TM_eqo (by intros; omega) rfl (by intros; omega) (by intros; omega) rfl (by intros; omega) ?_ ?_ ?_
      · intro z1 z2; omega
      · intro z1 z2; omega
      · intro z1
        refine b65_7 hG (hb.2.1) ?_
        refine c_sName hG hW S1 (fun x1 x2 => absurd ⟨x1, x2⟩ hc) (fun _ cA2 f2 => ?_)
        refine b65_28 hG TM_eqo (by intros; omega) (by intros; omega) (by intros; omega) rfl (by intros; omega) ?_ ?_ ?_
        · intro q1 q2; omega
        · intro q1 q2; omega
        · intro q1
          exact Ln_f hW S1.2.2.2.1 S1.2.2.2.2.1 f2 g2 fM_b
end SPoc
