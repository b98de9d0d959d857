section SPob
variable {d d1 d2 r n0 : Nat} {G : GG} {c c' cA cB cA0 cB0 cA' cB' cA1 cB1 : CC} {Q : Option AV → HH → Prop} {v v1 v2 N k p len most stop a b w w' n to : Int} {j i' : Nat} {B f fS : Int → Int}
theorem D_soul (D : DrR cA cB) (hn : cB 191 1 < 8) (eN : NmR w (cB 193 (20 + cB 191 1))) : DrR (q_up (q_up (q_up (q_up cA 20 (cB 191 1) w) 24 (cB 191 1) 0) 25 (cB 191 1) (-1)) 18 1 (cB 191 1 + 1)) (q_up cB 191 1 (cB 191 1 + 1)) := by
  obtain ⟨a1, a2, a3, a4, a5, a6, a7, a8, a9, a10⟩ := D
  have rd : ∀ i, ¬ i = 1 → (q_up cB 191 1 (cB 191 1 + 1)) 191 i = cB 191 i := fun i h1 => by rw [up_n (by omega)]
  have r0 : (q_up cB 191 1 (cB 191 1 + 1)) 191 1 = cB 191 1 + 1 := up_e
  have rn : (q_up cB 191 1 (cB 191 1 + 1)) 193 = cB 193 := by rw [up_r (by omega)]
  have r8 : (q_up cB 191 1 (cB 191 1 + 1)) 188 = cB 188 := by rw [up_r (by omega)]
  have ea : ∀ r, ¬ r = 18 → ¬ r = 20 → ¬ r = 24 → ¬ r = 25 → (q_up (q_up (q_up (q_up cA 20 (cB 191 1) w) 24 (cB 191 1) 0) 25 (cB 191 1) (-1)) 18 1 (cB 191 1 + 1)) r = cA r := fun r h1 h2 h3 h4 => by rw [up_r h1, up_r h4, up_r h3, up_r h2]
  generalize q_up cB 191 1 (cB 191 1 + 1) = cB' at *
  unfold DrR
  rw [ea 19 (by omega) (by omega) (by omega) (by omega), ea 21 (by omega) (by omega) (by omega) (by omega), ea 22 (by omega) (by omega) (by omega) (by omega), ea 23 (by omega) (by omega) (by omega) (by omega), ea 26 (by omega) (by omega) (by omega) (by omega), r8, rn, r0]
  clear ea
  refine ⟨⟨by rw [up_n (by omega), up_n (by omega), up_n (by omega), up_n (by omega), rd 0 (by omega)]; exact a1.1, up_e, by rw [rd 0 (by omega)]; omega, by rw [rd 0 (by omega)]; omega, by omega, by omega⟩, ?_, fun i h1 h2 => ?_, fun i h1 h2 => ?_, fun i h1 h2 => ?_, by rw [rd 167 (by omega)]; exact a6, fun i h1 h2 => ?_, fun x y h1 h2 h3 h4 => ?_, fun i h1 h2 => ?_, fun x y h1 h2 h3 h4 h5 => ?_⟩
  · rw [up_n (by omega), up_n (by omega), up_n (by omega), up_n (by omega), rd 2 (by omega)]; exact a2
  · rw [rd 0 (by omega)] at h2
    rw [rd (3 + i) (by omega), rd (9 + i) (by omega)]
    exact a3 i h1 h2
  · rw [rd (51 + i) (by omega), rd (59 + i) (by omega)]
    by_cases hi : i = cB 191 1
    · have h5 := (a5 i h1 (by omega)).2.2.2 (by omega)
      rw [h5.1, h5.2, hi]
      refine ⟨?_, ?_, ?_⟩
      · rw [up_n (by omega), up_n (by omega), up_n (by omega), up_e]; exact eN
      · rw [up_n (by omega), up_n (by omega), up_e]
      · rw [up_n (by omega), up_e]; omega
    · rw [up_n (by omega), up_n (by omega), up_n (by omega), up_n (by omega), up_n (by omega), up_n (by omega), up_n (by omega), up_n (by omega), up_n (by omega), up_n (by omega), up_n (by omega), up_n (by omega)]
      exact a4 i h1 (by omega)
  · rw [rd (51 + i) (by omega), rd (59 + i) (by omega), rd 0 (by omega), rd 167 (by omega)]
    have := a5 i h1 h2
    exact ⟨this.1, this.2.1, this.2.2.1, fun h => this.2.2.2 (by omega)⟩
  · rw [rd (131 + i) (by omega), rd (15 + i) (by omega)]
    exact a7 i h1 h2
  · rw [rd (131 + 6 * x + y) (by omega), rd (15 + 6 * x + y) (by omega), rd (131 + 6 * y + x) (by omega), rd (15 + 6 * y + x) (by omega)]
    exact a8 x y h1 h2 h3 h4
  · rw [rd (67 + i) (by omega)]
    exact a9 i h1 h2
  · rw [rd (67 + 8 * x + y) (by omega)]
    exact a10 x y h1 h2 h3 h4 (by omega)
theorem ln_soul (hG : Shp G) (hW : Wt B len most stop) (h : StO cA0 cB0 B len most stop j cA cB) (h2 : zS B len stop j = 2) : TM (d1 + 8) 63 [aR 119] (G, cA) (fun r1 y1 => T (d2 + 8) 184 271 [some (aR 188), none, none] [aI 1] (G, cB) (QM (fun r2 y2 => LnP G cA0 cB0 B len most stop j r1 y1 r2 y2))) := by
  have hp := PP_up hW j (by omega)
  have hD := h.2.2.2.2.2.1.1
  refine b63_0 hG TM_eqo (hD.2.1) (by intros; omega) ?_ ?_
  · intro q
    refine c_advance hG h.1 (fun cA1 f1 t1 => sw ?_)
    refine b184_271 hG TM_eqo (by intros; omega) ?_ rfl (by intros; omega) ?_ ?_
    · intro z; omega
    · intro z z2
      refine r_advance hG h.2.2.1 hW.1 hW.2.1 hW.2.2.1 (fun cB1 g1 u1 => ?_)
      have eH : cB1 191 = cB 191 := g1.1 191 (by omega)
      have S1 := StO_go h f1 t1 (FrG_N g1) u1
      rw [← eH] at q z2 hD
      clear f1 g1 h eH
      have hv := StO_194 S1
      obtain ⟨⟨c1, c2, c3, c4, c5, c6⟩, -, aK, aS, -⟩ := S1.2.2.2.2.2.1
      refine b184_295 hG rfl ?_
      by_cases hc : NF B len stop (j + 1) (cA1 19) (cB1 191 0) (cA1 20) (cB1 191 1)
      · refine r_fresh hG hW u1 hv rfl rfl ⟨c3, c4⟩ ⟨c5, c6⟩ (by omega) (fun i p1 p2 => (aK i p1 p2).1) (fun i p1 p2 => (aS i p1 p2).1) (fun _ cB2 w hw g2 u2 => sw ?_) (fun x => absurd hc x)
        refine b63_28 hG ((TA_e t1).2.2.2) ?_
        refine c_newName hG hW t1 c1 c2 ⟨c3, c4⟩ ⟨c5, c6⟩ (fun i p1 p2 => NmR_64 (aK i p1 p2).1) (fun i p1 p2 => NmR_64 (aS i p1 p2).1) (fun _ cA2 f2 t2 => ?_) (fun x => absurd hc x)
        have hp2 := PP_up hW (j + 1) (by rw [hc.1]; omega)
        have S2 := StO_go (StO_nm (v := w) S1 (Or.inr rfl)) f2 t2 (FrG_N g2) u2
        have eH : cB2 191 = cB1 191 := by rw [g2.1 191 (by omega), up_r (by omega)]
        have eN : NmR (pW B len stop (j + 1)) (cB2 193 (20 + cB2 191 1)) := by
          rw [eH, g2.1 193 (by omega), up_e]; exact hw
        rw [← eH] at q
        clear aK aS c1 c2 c3 c4 c5 c6 hc f2 g2 hv S1 t1 u1 eH z2 hD hw
        have hb := S2.2.2.2.2.2.1.1
        refine b63_40 hG TM_eqo (by intros; omega) ?_ ?_
        · intro z1
          refine b77_0 hG (ru18) (hb.2.1) (by intros; omega) ?_ (hb.2.1) (by intros; omega) (by intros; omega) ((up_n (by omega)).trans hb.2.1) (by intros; omega) (by intros; omega) ((up_n (by omega)).trans ((up_n (by omega)).trans hb.2.1)) (by intros; omega) (by intros; omega) ((up_n (by omega)).trans ((up_n (by omega)).trans ((up_n (by omega)).trans hb.2.1))) ?_
          · intro z7; omega
          · intro z7
            refine b63_53 hG ?_
            refine b184_308 hG (by intros; omega) rfl ?_ ?_
            · intro z8
              refine Ln_t (i := j + 1 + 1) (StO_end S2 (fun r h => by rw [up_r (by omega), up_r (by omega), up_r (by omega), up_r (by omega)]) (fun r h => by rw [up_r h]) (D_soul S2.2.2.2.2.2.1 q eN)) ?_
              clear S2
              omega
            · intro z8; omega
        · intro z1; omega
      · refine r_fresh hG hW u1 hv rfl rfl ⟨c3, c4⟩ ⟨c5, c6⟩ (by omega) (fun i p1 p2 => (aK i p1 p2).1) (fun i p1 p2 => (aS i p1 p2).1) (fun x => absurd x hc) (fun _ cB2 g2 => ?_)
        refine b184_308 hG (by intros; omega) rfl ?_ ?_
        · intro z1; omega
        · intro z1
          refine b63_28 hG ((TA_e t1).2.2.2) ?_
          refine c_newName hG hW t1 c1 c2 ⟨c3, c4⟩ ⟨c5, c6⟩ (fun i p1 p2 => NmR_64 (aK i p1 p2).1) (fun i p1 p2 => NmR_64 (aS i p1 p2).1) (fun x => absurd x hc) (fun _ cA2 f2 => ?_)
          refine b63_40 hG TM_eqo (by intros; omega) ?_ ?_
          · intro z3; omega
          · intro z3
            exact Ln_f hW S1.2.2.2.1 S1.2.2.2.2.1 f2 g2 fM_b
    · intro z z2; omega
  · intro q
    refine c_ref hG h.1 (fun cA1 f1 => ?_)
    refine b63_20 hG (Or.inl rfl) ?_
    refine b184_271 hG TM_eqo (by intros; omega) ?_ rfl (by intros; omega) ?_ ?_
    · intro z; omega
    · intro z z2; omega
    · intro z z2
      refine r_bad hG h.2.2.1 (fun cB1 g1 => ?_)
      refine b184_290 hG (Or.inl rfl) ?_
      exact Ln_f hW h.2.2.2.1 h.2.2.2.2.1 f1 g1 (by omega)
theorem D_grows (D : DrR cA cB) (h0 : 0 ≤ v ∧ v ≤ 9) (eA : ∀ r, 19 ≤ r → r ≤ 26 → cA' r = cA r) (eA1 : cA' 18 = q_u1 (cA 18) 2 v) (e1 : cB' 191 = q_u1 (cB 191) 2 v) (e2 : cB' 193 = cB 193) (e3 : cB' 188 20 = 1) : DrR cA' cB' := by
  obtain ⟨a1, a2, a3, a4, a5, a6, a7, a8, a9, a10⟩ := D
  have rd : ∀ i, ¬ i = 2 → (q_u1 (cB 191) 2 v) i = cB 191 i := fun i h => u1_n h
  have r2 : (q_u1 (cB 191) 2 v) 2 = v := u1_e
  unfold DrR
  rw [eA1, eA 19 (by omega) (by omega), eA 20 (by omega) (by omega), eA 21 (by omega) (by omega), eA 22 (by omega) (by omega), eA 23 (by omega) (by omega), eA 24 (by omega) (by omega), eA 25 (by omega) (by omega), eA 26 (by omega) (by omega), e1, e2, e3]
  generalize q_u1 (cB 191) 2 v = H at *
  rw [rd 0 (by omega), rd 1 (by omega), rd 167 (by omega)]
  refine ⟨by rw [u1_n (by omega), u1_n (by omega)]; exact a1, Or.inr ⟨rfl, by rw [u1_e, r2], by omega, by omega⟩, fun i h1 h2 => ?_, fun i h1 h2 => ?_, fun i h1 h2 => ?_, a6, fun i h1 h2 => ?_, fun x y h1 h2 h3 h4 => ?_, fun i h1 h2 => ?_, fun x y h1 h2 h3 h4 h5 => ?_⟩
  · rw [rd (3 + i) (by omega), rd (9 + i) (by omega)]; exact a3 i h1 h2
  · rw [rd (51 + i) (by omega), rd (59 + i) (by omega)]; exact a4 i h1 h2
  · rw [rd (51 + i) (by omega), rd (59 + i) (by omega)]; exact a5 i h1 h2
  · rw [rd (131 + i) (by omega), rd (15 + i) (by omega)]; exact a7 i h1 h2
  · rw [rd (131 + 6 * x + y) (by omega), rd (15 + 6 * x + y) (by omega), rd (131 + 6 * y + x) (by omega), rd (15 + 6 * y + x) (by omega)]
    exact a8 x y h1 h2 h3 h4
  · rw [rd (67 + i) (by omega)]; exact a9 i h1 h2
  · rw [rd (67 + 8 * x + y) (by omega)]; exact a10 x y h1 h2 h3 h4 h5
theorem ln_grows (hG : Shp G) (hW : Wt B len most stop) (h : StO cA0 cB0 B len most stop j cA cB) (h2 : zS B len stop j = 2) : TM (d1 + 8) 67 [aR 119] (G, cA) (fun r1 y1 => T (d2 + 8) 184 678 [some (aR 188), none, none] [aI 1] (G, cB) (QM (fun r2 y2 => LnP G cA0 cB0 B len most stop j r1 y1 r2 y2))) := by
  have hp := PP_up hW j (by omega)
  have hD := h.2.2.2.2.2.1.2.1
  have hD1 := h.2.2.2.2.2.1.1
  obtain ⟨tA, e9, tB, fA, fB, D, hv⟩ := h
  refine b67_0 hG TM_eqo rfl (by intros; omega) ?_ ?_
  · intro q
    refine c_advance hG tA (fun cA1 f1 t1 => sw ?_)
    refine b184_678 hG TM_eqo (by intros; omega) rfl (by intros; omega) ?_ ?_ ?_
    · intro z z2
      refine r_advance hG (RT_up tB (by omega)) hW.1 hW.2.1 hW.2.2.1 (fun cB1 g1 u1 => ?_)
      have fA1 := FAo_V fA f1
      have fB1 := FBo_N (FBo_T (v := 1) (i := 20) fB (by omega)) g1
      refine b184_709 hG ?_
      by_cases hc : zS B len stop (j + 1) = 3 ∧ 0 ≤ pN B len stop (j + 1) ∧ pN B len stop (j + 1) ≤ 9
      · refine r_takes hG hW u1 (by omega) (by omega) (fun _ _ _ cB2 g2 u2 e18 => sw ?_) (fun x => absurd hc x)
        refine b67_27 hG ?_
        refine c_takeNum hG hW t1 (by omega) (by omega) (fun _ _ _ cA2 f2 t2 => ?_) (fun x => absurd hc x)
        have hp2 := PP_up hW (j + 1) (by rw [hc.1]; omega)
        refine b67_41 hG (up_e) (by intros; omega) ?_ ?_
        · intro z1; omega
        · intro z1
          refine b184_716 hG (by intros; omega) (e18) ?_ ?_
          · intro z3
            have r1 : cB2 191 = cB 191 := by rw [g2.1 191 (by omega), g1.1 191 (by omega), up_r (by omega)]
            refine Ln_t (i := j + 1 + 1) ⟨TA_fr t2 (up_r (by omega)) (up_r (by omega)) (up_r (by omega)) (up_r (by omega)) (up_r (by omega)), ?_, RT_row u2 (by omega) (by omega), FAo_U (FAo_V fA1 f2) (by omega), FBo_U (FBo_G fB1 g2), ?_, hv⟩ ?_
            · refine ⟨?_, ?_, ?_⟩
              · rw [up_n (by omega), f2.2 9 (by omega) (by omega) (by omega) (by omega) (by omega), f1.2 9 (by omega) (by omega) (by omega) (by omega) (by omega)]; exact e9.1
              · rw [up_n (by omega), f2.2 14 (by omega) (by omega) (by omega) (by omega) (by omega), f1.2 14 (by omega) (by omega) (by omega) (by omega) (by omega)]; exact e9.2.1
              · rw [up_n (by omega), g2.2 15 (by omega) (by omega) (by omega) (by omega) (by omega) (by omega) (by omega), g1.2 15 (by omega) (by omega) (by omega) (by omega) (by omega) (by omega), up_n (by omega)]; exact e9.2.2
            · refine D_grows D hc.2 (fun r h1 h2 => by rw [up_r (by omega), f2.1 r (by omega), f1.1 r (by omega)]) ?_ ?_ ?_ ?_
              · rw [up_er, f2.1 18 (by omega), f1.1 18 (by omega)]
              · rw [up_er, r1]
              · rw [up_r (by omega), g2.1 193 (by omega), g1.1 193 (by omega), up_r (by omega)]
              · rw [up_n (by omega), g2.2 20 (by omega) (by omega) (by omega) (by omega) (by omega) (by omega) (by omega), g1.2 20 (by omega) (by omega) (by omega) (by omega) (by omega) (by omega), up_e]
            · omega
          · intro z3; omega
      · refine r_takes hG hW u1 (by omega) (by omega) (fun x1 x2 x3 => absurd ⟨x1, x2, x3⟩ hc) (fun _ cB2 g2 => sw ?_)
        refine b67_27 hG ?_
        refine c_takeNum hG hW t1 (by omega) (by omega) (fun x1 x2 x3 => absurd ⟨x1, x2, x3⟩ hc) (fun _ cA2 f2 => ?_)
        refine b67_41 hG (up_e) (by intros; omega) ?_ ?_
        · intro z1
          refine b184_716 hG (by intros; omega) rfl ?_ ?_
          · intro z3; omega
          · intro z3
            have f3 := FAo_U (v := -1) (i := 2) (r := 18) (FAo_F fA1 f2) (by omega)
            have hx := FlX_mk hW f2 g2 fN_b
            exact ⟨_, _, rfl, rfl, f3, FBo_F fB1 g2, Or.inl ⟨rfl, rfl, by rw [FlX, up_r (by omega)]; exact hx⟩⟩
        · intro z1; omega
    · intro z z2; omega
    · intro z; omega
  · intro q
    refine c_ref hG tA (fun cA1 f1 => ?_)
    refine b67_19 hG (Or.inl rfl) ?_
    refine b184_678 hG TM_eqo (by intros; omega) rfl (by intros; omega) ?_ ?_ ?_
    · intro z z2; omega
    · intro z z2
      refine r_bad hG tB (fun cB1 g1 => ?_)
      refine b184_699 hG (Or.inl rfl) ?_
      exact Ln_f hW fA fB f1 g1 (by omega)
    · intro z; omega
end SPob
