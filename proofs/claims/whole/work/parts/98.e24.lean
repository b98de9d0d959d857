section SPoa
variable {d d1 d2 r n0 : Nat} {G : GG} {c c' cA cB cA0 cB0 cA' cB' cA1 cB1 : CC} {Q : Option AV → HH → Prop} {v v1 v2 N k p len most stop a b w w' n to : Int} {j i' : Nat} {B f fS : Int → Int}
theorem FrG_N (h : FrN c c') : FrG c c' := ⟨h.1, fun i p1 p2 p3 p4 p5 p6 _ => h.2 i p1 p2 p3 p4 p5 p6⟩
theorem DrR_ag (h : DrR cA cB) (hn : cB 191 0 < 6) (b1 : ∀ i, ¬ i = 3 + cB 191 0 → ¬ i = 9 + cB 191 0 → cB' 191 i = cB 191 i) (b2 : ∀ i, (14 ≤ i ∧ i < 14 + cB 191 0) ∨ (20 ≤ i ∧ i < 20 + cB 191 1) → cB' 193 i = cB 193 i) (b3 : cB' 188 20 = cB 188 20) : DrR cA cB' := by
  obtain ⟨a1, a2, a3, a4, a5, a6, a7, a8, a9, a10⟩ := h
  have e0 := b1 0 (by omega) (by omega)
  have e1 := b1 1 (by omega) (by omega)
  have e2 := b1 2 (by omega) (by omega)
  have e167 := b1 167 (by omega) (by omega)
  refine ⟨by rw [e0, e1]; exact a1, by rw [e2, b3]; exact a2, fun i h1 h2 => ?_, fun i h1 h2 => ?_, fun i h1 h2 => ?_, by rw [e167]; exact a6, fun i h1 h2 => ?_, fun x y h1 h2 h3 h4 => ?_, fun i h1 h2 => ?_, fun x y h1 h2 h3 h4 h5 => ?_⟩
  · rw [e0] at h2
    rw [b2 _ (Or.inl (by omega)), b1 (3 + i) (by omega) (by omega), b1 (9 + i) (by omega) (by omega)]
    exact a3 i h1 h2
  · rw [e1] at h2
    rw [b2 _ (Or.inr (by omega)), b1 (51 + i) (by omega) (by omega), b1 (59 + i) (by omega) (by omega)]
    exact a4 i h1 h2
  · rw [b1 (51 + i) (by omega) (by omega), b1 (59 + i) (by omega) (by omega), e0, e1, e167]
    exact a5 i h1 h2
  · rw [b1 (131 + i) (by omega) (by omega), b1 (15 + i) (by omega) (by omega)]
    exact a7 i h1 h2
  · rw [b1 (131 + 6 * x + y) (by omega) (by omega), b1 (15 + 6 * x + y) (by omega) (by omega), b1 (131 + 6 * y + x) (by omega) (by omega), b1 (15 + 6 * y + x) (by omega) (by omega)]
    exact a8 x y h1 h2 h3 h4
  · rw [b1 (67 + i) (by omega) (by omega)]
    exact a9 i h1 h2
  · rw [e1] at h5
    rw [b1 (67 + 8 * x + y) (by omega) (by omega)]
    exact a10 x y h1 h2 h3 h4 h5
theorem DrR_nm (h : DrR cA cB) (b1 : cB' 191 = cB 191) (b2 : ∀ i, (14 ≤ i ∧ i < 14 + cB 191 0) ∨ (20 ≤ i ∧ i < 20 + cB 191 1) → cB' 193 i = cB 193 i) (b3 : cB' 188 20 = cB 188 20) : DrR cA cB' := by
  obtain ⟨a1, a2, a3, a4, a5⟩ := h
  unfold DrR
  rw [b1, b3]
  exact ⟨a1, a2, fun i h1 h2 => by rw [b2 _ (Or.inl (by omega))]; exact a3 i h1 h2, fun i h1 h2 => by rw [b2 _ (Or.inr (by omega))]; exact a4 i h1 h2, a5⟩
theorem StO_go (h : StO cA0 cB0 B len most stop j cA cB) (f : FrV cA cA') (t : TA cA' B len stop i') (g : FrG cB cB') (u : RT cB' B len most stop i') : StO cA0 cB0 B len most stop i' cA' cB' := by
  obtain ⟨tA, e9, tB, fA, fB, D, hv⟩ := h
  exact ⟨t, ⟨by rw [f.2 9 (by omega) (by omega) (by omega) (by omega) (by omega)]; exact e9.1, by rw [f.2 14 (by omega) (by omega) (by omega) (by omega) (by omega)]; exact e9.2.1, by rw [g.2 15 (by omega) (by omega) (by omega) (by omega) (by omega) (by omega) (by omega)]; exact e9.2.2⟩, u, FAo_V fA f, FBo_G fB g, DrR_fr D (fun r h1 h2 => f.1 r (by omega)) (g.1 191 (by omega)) (g.1 193 (by omega)) (g.2 20 (by omega) (by omega) (by omega) (by omega) (by omega) (by omega) (by omega)), hv⟩
theorem StO_3 (h : StO cA0 cB0 B len most stop j cA cB) (hn : cB 191 0 < 6) : StO cA0 cB0 B len most stop j cA (q_up cB 191 (3 + cB 191 0) v) := by
  obtain ⟨tA, e9, tB, fA, fB, D, hv⟩ := h
  exact ⟨tA, ⟨e9.1, e9.2.1, (up_n (by omega)).trans e9.2.2⟩, RT_row tB (by omega) (by omega), fA, FBo_U fB, DrR_ag D hn (fun i h1 h2 => up_n (by omega)) (fun i _ => up_n (by omega)) (up_n (by omega)), hv⟩
theorem StO_nm (h : StO cA0 cB0 B len most stop j cA cB) (hn : (n = 14 + cB 191 0 ∧ cB 191 0 < 6) ∨ n = 20 + cB 191 1) : StO cA0 cB0 B len most stop j cA (q_up cB 193 n v) := by
  obtain ⟨tA, e9, tB, fA, fB, D, hv⟩ := h
  have hb := D.1
  exact ⟨tA, ⟨e9.1, e9.2.1, (up_n (by omega)).trans e9.2.2⟩, RT_row tB (by omega) (by omega), fA, FBo_W fB (by omega), DrR_nm D (up_r (by omega)) (fun i _ => up_n (by omega)) (up_n (by omega)), hv⟩
theorem StO_194 (h : StO cA0 cB0 B len most stop j cA cB) : ∀ i, 0 ≤ i → i < 20 → cB 194 i = rsvF i := fun i h1 h2 => by
  rw [h.2.2.2.2.1.1 194 (by omega) (by omega) (by omega)]
  exact h.2.2.2.2.2.2 i h1 h2
theorem TA_fr (h : TA c B len stop j) (e2 : c' 2 = c 2) (e5 : c' 5 = c 5) (e6 : c' 6 = c 6) (e7 : c' 7 = c 7) (e8 : c' 8 = c 8) : TA c' B len stop j := by
  unfold TA TR
  rw [e2, e5, e6, e7, e8]
  exact h
theorem RT_fr (h : RT c B len most stop j) (e1 : c' 188 = c 188) (e2 : c' 189 = c 189) : RT c' B len most stop j := by
  unfold RT RQ
  rw [e1, e2]
  exact h
theorem StO_end (h : StO cA0 cB0 B len most stop j cA cB) (eA : ∀ r, ¬ (18 ≤ r ∧ r ≤ 26) → cA' r = cA r) (eB : ∀ r, ¬ r = 191 → cB' r = cB r) (D : DrR cA' cB') : StO cA0 cB0 B len most stop j cA' cB' := by
  obtain ⟨tA, e9, tB, fA, fB, -, hv⟩ := h
  have e2 := eA 2 (by omega)
  have e8 := eB 188 (by omega)
  refine ⟨TA_fr tA e2 (eA 5 (by omega)) (eA 6 (by omega)) (eA 7 (by omega)) (eA 8 (by omega)), by rw [e2, e8]; exact e9, RT_fr tB e8 (eB 189 (by omega)), ⟨fun r h1 h2 h3 => (eA r h3).trans (fA.1 r h1 h2 h3), fun i h1 => by rw [e2]; exact fA.2 i h1⟩, ⟨fun r h1 h2 h3 => (eB r h2).trans (fB.1 r h1 h2 h3), fun i h1 h2 => by rw [eB 193 (by omega)]; exact fB.2.1 i h1 h2, fun i h1 => by rw [e8]; exact fB.2.2 i h1⟩, D, hv⟩
theorem NmR_64 (h : NmR a b) : I64 a := by have := NmR_b h; unfold I64; omega
theorem D_kind (D : DrR cA cB) (hn : cB 191 0 < 6) (eN : NmR w (cB 193 (14 + cB 191 0))) (e3 : cB 191 (3 + cB 191 0) = a) (ha : 1 ≤ a ∧ a ≤ 60) (hb : 1 ≤ b ∧ b ≤ 9) : DrR (q_up (q_up (q_up (q_up cA 19 (cB 191 0) w) 21 (cB 191 0) a) 22 (cB 191 0) b) 18 0 (cB 191 0 + 1)) (q_up (q_up cB 191 (9 + cB 191 0) b) 191 0 (cB 191 0 + 1)) := by
  obtain ⟨a1, a2, a3, a4, a5, a6, a7, a8, a9, a10⟩ := D
  have rd : ∀ i, ¬ i = 0 → ¬ i = 9 + cB 191 0 → (q_up (q_up cB 191 (9 + cB 191 0) b) 191 0 (cB 191 0 + 1)) 191 i = cB 191 i := fun i h1 h2 => by rw [up_n (by omega), up_n (by omega)]
  have r0 : (q_up (q_up cB 191 (9 + cB 191 0) b) 191 0 (cB 191 0 + 1)) 191 0 = cB 191 0 + 1 := up_e
  have r9 : (q_up (q_up cB 191 (9 + cB 191 0) b) 191 0 (cB 191 0 + 1)) 191 (9 + cB 191 0) = b := by rw [up_n (by omega), up_e]
  have rn : (q_up (q_up cB 191 (9 + cB 191 0) b) 191 0 (cB 191 0 + 1)) 193 = cB 193 := by rw [up_r (by omega), up_r (by omega)]
  have r8 : (q_up (q_up cB 191 (9 + cB 191 0) b) 191 0 (cB 191 0 + 1)) 188 = cB 188 := by rw [up_r (by omega), up_r (by omega)]
  have ea : ∀ r, ¬ r = 18 → ¬ r = 19 → ¬ r = 21 → ¬ r = 22 → (q_up (q_up (q_up (q_up cA 19 (cB 191 0) w) 21 (cB 191 0) a) 22 (cB 191 0) b) 18 0 (cB 191 0 + 1)) r = cA r := fun r h1 h2 h3 h4 => by rw [up_r h1, up_r h4, up_r h3, up_r h2]
  generalize q_up (q_up cB 191 (9 + cB 191 0) b) 191 0 (cB 191 0 + 1) = cB' at *
  unfold DrR
  rw [ea 20 (by omega) (by omega) (by omega) (by omega), ea 23 (by omega) (by omega) (by omega) (by omega), ea 24 (by omega) (by omega) (by omega) (by omega), ea 25 (by omega) (by omega) (by omega) (by omega), ea 26 (by omega) (by omega) (by omega) (by omega), r8, rn, r0]
  clear ea
  refine ⟨⟨up_e, by rw [up_n (by omega), up_n (by omega), up_n (by omega), up_n (by omega), rd 1 (by omega) (by omega)]; exact a1.2.1, by omega, by omega, by rw [rd 1 (by omega) (by omega)]; omega, by rw [rd 1 (by omega) (by omega)]; omega⟩, ?_, fun i h1 h2 => ?_, fun i h1 h2 => ?_, fun i h1 h2 => ?_, by rw [rd 167 (by omega) (by omega)]; exact a6, fun i h1 h2 => ?_, fun x y h1 h2 h3 h4 => ?_, fun i h1 h2 => ?_, fun x y h1 h2 h3 h4 h5 => ?_⟩
  · rw [up_n (by omega), up_n (by omega), up_n (by omega), up_n (by omega), rd 2 (by omega) (by omega)]; exact a2
  · by_cases hi : i = cB 191 0
    · rw [hi, r9, rd (3 + cB 191 0) (by omega) (by omega), e3]
      refine ⟨?_, ⟨?_, ha⟩, ?_, hb⟩
      · rw [up_n (by omega), up_n (by omega), up_n (by omega), up_e]; exact eN
      · rw [up_n (by omega), up_n (by omega), up_e]
      · rw [up_n (by omega), up_e]
    · rw [rd (3 + i) (by omega) (by omega), rd (9 + i) (by omega) (by omega)]
      rw [up_n (by omega), up_n (by omega), up_n (by omega), up_n (by omega), up_n (by omega), up_n (by omega), up_n (by omega), up_n (by omega), up_n (by omega), up_n (by omega), up_n (by omega), up_n (by omega)]
      exact a3 i h1 (by omega)
  · rw [rd 1 (by omega) (by omega)] at h2
    rw [rd (51 + i) (by omega) (by omega), rd (59 + i) (by omega) (by omega)]
    exact a4 i h1 h2
  · rw [rd (51 + i) (by omega) (by omega), rd (59 + i) (by omega) (by omega), rd 1 (by omega) (by omega), rd 167 (by omega) (by omega)]
    have := a5 i h1 h2
    exact ⟨this.1, by omega, this.2.2⟩
  · rw [rd (131 + i) (by omega) (by omega), rd (15 + i) (by omega) (by omega)]
    exact a7 i h1 h2
  · rw [rd (131 + 6 * x + y) (by omega) (by omega), rd (15 + 6 * x + y) (by omega) (by omega), rd (131 + 6 * y + x) (by omega) (by omega), rd (15 + 6 * y + x) (by omega) (by omega)]
    exact a8 x y h1 h2 h3 h4
  · rw [rd (67 + i) (by omega) (by omega)]
    exact a9 i h1 h2
  · rw [rd 1 (by omega) (by omega)] at h5
    rw [rd (67 + 8 * x + y) (by omega) (by omega)]
    exact a10 x y h1 h2 h3 h4 h5
theorem ln_kind (hG : Shp G) (hW : Wt B len most stop) (h : StO cA0 cB0 B len most stop j cA cB) (h2 : zS B len stop j = 2) : TM (d1 + 8) 61 [aR 119] (G, cA) (fun r1 y1 => T (d2 + 8) 184 7 [some (aR 188), none, none] [aI 1] (G, cB) (QM (fun r2 y2 => LnP G cA0 cB0 B len most stop j r1 y1 r2 y2))) := by
  have hp := PP_up hW j (by omega)
  have hD := h.2.2.2.2.2.1.1
  refine b61_0 hG TM_eqo (hD.1) (by intros; omega) ?_ ?_
  · intro q
    refine c_advance hG h.1 (fun cA1 f1 t1 => sw ?_)
    refine b184_7 hG TM_eqo (by intros; omega) ?_ rfl (by intros; omega) ?_ ?_
    · intro z; omega
    · intro z z2
      refine r_advance hG h.2.2.1 hW.1 hW.2.1 hW.2.2.1 (fun cB1 g1 u1 => ?_)
      have eH : cB1 191 = cB 191 := g1.1 191 (by omega)
      have S1 := StO_go h f1 t1 (FrG_N g1) u1
      rw [← eH] at q z2 hD ⊢
      clear f1 g1 h eH
      have hv := StO_194 S1
      obtain ⟨⟨c1, c2, c3, c4, c5, c6⟩, -, aK, aS, -⟩ := S1.2.2.2.2.2.1
      refine b184_33 hG ?_
      by_cases hc : NF B len stop (j + 1) (cA1 19) (cB1 191 0) (cA1 20) (cB1 191 1)
      · refine r_fresh hG hW u1 hv rfl rfl ⟨c3, c4⟩ ⟨c5, c6⟩ (by omega) (fun i p1 p2 => (aK i p1 p2).1) (fun i p1 p2 => (aS i p1 p2).1) (fun _ cB2 w hw g2 u2 => sw ?_) (fun x => absurd hc x)
        refine b61_28 hG ((TA_e t1).2.2.2) ?_
        refine c_newName hG hW t1 c1 c2 ⟨c3, c4⟩ ⟨c5, c6⟩ (fun i p1 p2 => NmR_64 (aK i p1 p2).1) (fun i p1 p2 => NmR_64 (aS i p1 p2).1) (fun _ cA2 f2 t2 => ?_) (fun x => absurd hc x)
        have hp2 := PP_up hW (j + 1) (by rw [hc.1]; omega)
        have S2 := StO_go (StO_nm (v := w) S1 (Or.inl ⟨rfl, q⟩)) f2 t2 (FrG_N g2) u2
        have eH : cB2 191 = cB1 191 := by rw [g2.1 191 (by omega), up_r (by omega)]
        have eN : NmR (pW B len stop (j + 1)) (cB2 193 (14 + cB2 191 0)) := by
          rw [eH, g2.1 193 (by omega), up_e]; exact hw
        rw [← eH] at q ⊢
        clear aK aS c1 c2 c3 c4 c5 c6 hc f2 g2 hv S1 t1 u1 eH z2 hD hw
        refine b61_40 hG (by intros; omega) ?_ ?_
        · intro z1
          by_cases hc : zS B len stop (j + 1 + 1) = 3 ∧ 1 ≤ pN B len stop (j + 1 + 1) ∧ pN B len stop (j + 1 + 1) ≤ 60
          · refine c_takeNum hG hW t2 (by omega) (by omega) (fun _ _ _ cA3 f3 t3 => sw ?_) (fun x => absurd hc x)
            refine b184_41 hG (by intros; omega) ?_ ?_
            · intro z2
              refine r_takes hG hW u2 (by omega) (by omega) (fun _ _ _ cB3 g3 u3 e18 => ?_) (fun x => absurd hc x)
              have hp3 := PP_up hW (j + 1 + 1) (by rw [hc.1]; omega)
              have S3 := StO_go S2 f3 t3 g3 u3
              have eH : cB3 191 = cB2 191 := g3.1 191 (by omega)
              have e193 : cB3 193 = cB2 193 := g3.1 193 (by omega)
              rw [← eH] at q eN ⊢
              rw [← e193] at eN
              clear f3 g3 eH e193 S2 t2 u2
              have hb := S3.2.2.2.2.2.1.1
              refine b184_53 hG (by intros; omega) (e18) (by intros; omega) (by intros; omega) ?_ ?_
              · intro z3
                have S3' := StO_3 (v := pN B len stop (j + 1 + 1)) S3 q
                by_cases hc2 : zS B len stop (j + 1 + 1 + 1) = 3 ∧ 1 ≤ pN B len stop (j + 1 + 1 + 1) ∧ pN B len stop (j + 1 + 1 + 1) ≤ 9
                · refine r_takes hG hW S3'.2.2.1 (by omega) (by omega) (fun _ _ _ cB4 g4 u4 e18' => sw ?_) (fun x => absurd hc2 x)
                  refine b61_55 hG (by intros; omega) ?_ ?_
                  · intro z4
                    refine c_takeNum hG hW t3 (by omega) (by omega) (fun _ _ _ cA4 f4 t4 => ?_) (fun x => absurd hc2 x)
                    have hp4 := PP_up hW (j + 1 + 1 + 1) (by rw [hc2.1]; omega)
                    have S4 := StO_go S3' f4 t4 g4 u4
                    have eH : cB4 191 = (q_up cB3 191 (3 + cB3 191 0) (pN B len stop (j + 1 + 1))) 191 := g4.1 191 (by omega)
                    have e193 : cB4 193 = cB3 193 := by rw [g4.1 193 (by omega), up_r (by omega)]
                    have e0 : cB4 191 0 = cB3 191 0 := by rw [eH, up_n (by omega)]
                    have e3 : cB4 191 (3 + cB4 191 0) = pN B len stop (j + 1 + 1) := by rw [e0, eH, up_e]
                    rw [← e0] at q eN ⊢
                    rw [← e193] at eN
                    clear f4 g4 eH e193 S3 S3' t3 u3 e18 e0 hb
                    have hb := S4.2.2.2.2.2.1.1
                    refine b61_73 hG TM_eqo (by intros; omega) ?_ ?_
                    · intro z6
                      refine b76_0 hG (ru18) (hb.1) (by intros; omega) ?_ (hb.1) (by intros; omega) (by intros; omega) ((up_n (by omega)).trans hb.1) (by intros; omega) (by intros; omega) ((up_n (by omega)).trans ((up_n (by omega)).trans hb.1)) (by intros; omega) (by intros; omega) ((up_n (by omega)).trans ((up_n (by omega)).trans ((up_n (by omega)).trans hb.1))) ?_
                      · intro z7; omega
                      · intro z7
                        refine b61_94 hG ?_
                        refine b184_77 hG (by intros; omega) (e18') (by intros; omega) (by intros; omega) (up_n (by omega)) ?_ ?_
                        · intro z5
                          refine Ln_t (i := j + 1 + 1 + 1 + 1) (StO_end S4 (fun r h => by rw [up_r (by omega), up_r (by omega), up_r (by omega), up_r (by omega)]) (fun r h => by rw [up_r h, up_r h]) (D_kind S4.2.2.2.2.2.1 q eN e3 hc.2 hc2.2)) ?_
                          clear S4
                          omega
                        · intro z5; omega
                    · intro z6; omega
                  · intro z4; omega
                · refine r_takes hG hW S3'.2.2.1 (by omega) (by omega) (fun x1 x2 x3 => absurd ⟨x1, x2, x3⟩ hc2) (fun _ cB4 g4 => sw ?_)
                  refine b61_55 hG (by intros; omega) ?_ ?_
                  · intro z4
                    refine c_takeNum hG hW t3 (by omega) (by omega) (fun x1 x2 x3 => absurd ⟨x1, x2, x3⟩ hc2) (fun _ cA4 f4 => ?_)
                    refine b61_73 hG TM_eqo (by intros; omega) ?_ ?_
                    · intro z5; omega
                    · intro z5
                      refine b184_77 hG (by intros; omega) rfl (by intros; omega) (by intros; omega) (up_n (by omega)) ?_ ?_
                      · intro z6; omega
                      · intro z6
                        exact Ln_f hW S3'.2.2.2.1 S3'.2.2.2.2.1 f4 g4 fN_b
                  · intro z4; omega
              · intro z3; omega
            · intro z2; omega
          · refine c_takeNum hG hW t2 (by omega) (by omega) (fun x1 x2 x3 => absurd ⟨x1, x2, x3⟩ hc) (fun _ cA3 f3 => ?_)
            refine b61_55 hG (by intros; omega) ?_ ?_
            · intro z2; omega
            · intro z2
              refine b184_41 hG (by intros; omega) ?_ ?_
              · intro z3
                refine r_takes hG hW u2 (by omega) (by omega) (fun x1 x2 x3 => absurd ⟨x1, x2, x3⟩ hc) (fun _ cB3 g3 => ?_)
                refine b184_53 hG (by intros; omega) rfl (by intros; omega) (by intros; omega) ?_ ?_
                · intro z4; omega
                · intro z4
                  exact Ln_f hW S2.2.2.2.1 S2.2.2.2.2.1 f3 g3 fN_b
              · intro z3; omega
        · intro z1; omega
      · refine r_fresh hG hW u1 hv rfl rfl ⟨c3, c4⟩ ⟨c5, c6⟩ (by omega) (fun i p1 p2 => (aK i p1 p2).1) (fun i p1 p2 => (aS i p1 p2).1) (fun x => absurd x hc) (fun _ cB2 g2 => ?_)
        refine b184_41 hG (by intros; omega) ?_ ?_
        · intro z1; omega
        · intro z1
          refine b61_28 hG ((TA_e t1).2.2.2) ?_
          refine c_newName hG hW t1 c1 c2 ⟨c3, c4⟩ ⟨c5, c6⟩ (fun i p1 p2 => NmR_64 (aK i p1 p2).1) (fun i p1 p2 => NmR_64 (aS i p1 p2).1) (fun x => absurd x hc) (fun _ cA2 f2 => ?_)
          refine b61_40 hG (by intros; omega) ?_ ?_
          · intro z3; omega
          · intro z3
            exact Ln_f hW S1.2.2.2.1 S1.2.2.2.2.1 f2 g2 fM_b
    · intro z z2; omega
  · intro q
    refine c_ref hG h.1 (fun cA1 f1 => ?_)
    refine b61_20 hG (Or.inl rfl) ?_
    refine b184_7 hG TM_eqo (by intros; omega) ?_ rfl (by intros; omega) ?_ ?_
    · intro z; omega
    · intro z z2; omega
    · intro z z2
      refine r_bad hG h.2.2.1 (fun cB1 g1 => ?_)
      refine b184_28 hG (Or.inl rfl) ?_
      exact Ln_f hW h.2.2.2.1 h.2.2.2.2.1 f1 g1 (by omega)
end SPoa
