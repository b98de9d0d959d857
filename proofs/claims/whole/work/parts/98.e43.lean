section SPsh
variable {d d1 d2 r n0 : Nat} {G : GG} {c c' cA cB cA' cB' cA0 cB0 : CC} {Q : Option AV → HH → Prop} {v v1 v2 N k m n s t t0 w dep q pa po D sg s0 x y u len most stop p key lf : Int} {j i' : Nat} {S : SS} {B bs bs' dp : Int → Int}
def LfP (G : GG) (cA0 cB0 : CC) (B : Int → Int) (len most stop : Int) (j : Nat) (t0 : Int) (bs : Int → Int) (dep D s y : Int) (r1 : Option AV) (h1 : HH) (r2 : Option AV) (h2 : HH) : Prop := ∃ cA cB, h1 = (G, cA) ∧ h2 = (G, cB) ∧ FAs cA0 cA ∧ FBs cB0 cB ∧ ((r1 = some (aI 0) ∧ r2 = some (aI 0) ∧ FlX cA cB) ∨ (r1 = some (aI 1) ∧ r2 = some (aI 1) ∧ ∃ j', Sen cA0 cB0 B len most stop j' t0 bs dep 0 0 0 D cA cB ∧ cB 188 44 = 1 ∧ cA 48 6 = s + 1 ∧ cB 188 41 = y ∧ PP B len stop j ≤ PP B len stop j'))
theorem Lf_f (hW : Wt B len most stop) {cA1 cB1 : CC} {i : Nat} (g1 : FAs cA0 cA1) (g2 : FBs cB0 cB1) (h1 : FlA cA1 cA k (pP B len stop i)) (h2 : FlB cB1 cB k (pP B len stop i)) (hk : 1 ≤ k ∧ k ≤ 4) : LfP G cA0 cB0 B len most stop j t0 bs dep D s y (some (aI 0)) (G, cA) (some (aI 0)) (G, cB) :=
  ⟨cA, cB, rfl, rfl, FAs_F g1 h1, FBs_F g2 h2, Or.inl ⟨rfl, rfl, FlX_mk hW h1 h2 hk⟩⟩
theorem FBs_44 (h : FBs cB0 cB) : FBs cB0 (q_up cB 188 44 v) := FBs_I h (fun r h1 _ _ => up_r h1) (fun i hi => up_n (by omega))
theorem Sen_44 (h : Sen cA0 cB0 B len most stop j t0 bs dep q pa po D cA cB) : Sen cA0 cB0 B len most stop j t0 bs dep q pa po D cA (q_up cB 188 44 v) :=
  ⟨TkS_C h.1 (fun i hi => up_n (by omega)) (up_r (by omega)), h.2.1, FBs_44 h.2.2.1, SeC_fr h.2.2.2 rfl rfl rfl rfl rfl (fun i h1 h2 => up_n (by omega)) (up_r (by omega)) (up_r (by omega))⟩
theorem Sen_go (h : Sen cA0 cB0 B len most stop j t0 bs dep q pa po D cA cB) (f : FrV cA cA') (t : TA cA' B len stop i') (g : FrG cB cB') (u : RT cB' B len most stop i') : Sen cA0 cB0 B len most stop i' t0 bs dep q pa po D cA' cB' :=
  ⟨TkS_go h.1 f t g u, FAs_V h.2.1 f, FBs_G h.2.2.1 g, SeC_fr h.2.2.2 (by rw [f.1 48 (by omega)]) (by rw [f.1 48 (by omega)]) (f.1 49 (by omega)) (f.1 50 (by omega)) (f.1 51 (by omega)) (fun i h1 h2 => g.2 i (by omega) (by omega) (by omega) (by omega) (by omega) (by omega) (by omega)) (g.1 192 (by omega)) (g.1 206 (by omega))⟩
theorem TkS_S (h : TkS B len most stop j cA cB) : TkS B len most stop j (adS cA s k sg n) cB := TkS_A h (adS_r (by omega) (by omega) (by omega) (by omega)) (adS_r (by omega) (by omega) (by omega) (by omega)) (adS_r (by omega) (by omega) (by omega) (by omega)) (adS_r (by omega) (by omega) (by omega) (by omega)) (adS_r (by omega) (by omega) (by omega) (by omega))
theorem Sen_leaf (h : Sen cA0 cB0 B len most stop j t0 bs dep 0 0 0 D cA cB) (hx : cA 48 6 + 1 ≤ 2 * cB 188 41) (hk : k = 7 ∨ 13 ≤ k) (hc : CdR (cB0 190) k sg n w s0 u) : Sen cA0 cB0 B len most stop j t0 bs dep 0 0 0 (D + 1) (adS cA (cA 48 6) k sg n) (cdB cB (cB 188 40) w s0 u) := by
  have hw := cdB_w (c := cB) (m := cB 188 40) (w := w) (s0 := s0) (n := u)
  have h2 := SeC_leaf (cB' := cdB cB (cB 188 40) w s0 u) h.2.2.2 hx hk hc cdB_40 (cdB_188 (by omega)) (cdB_188 (by omega)) (cdB_188 (by omega)) (cdB_r (by omega) (by omega)) (fun i hi => cdB_192 hi) hw.1 hw.2.1 hw.2.2
  exact ⟨TkS_S (TkS_C h.1 (fun i hi => cdB_188 (by omega)) (cdB_r (by omega) (by omega))), FAs_S h.2.1, FBs_I h.2.2.1 (fun r h1 h2 _ => cdB_r h1 h2) (fun i hi => cdB_188 (by omega)), h2⟩
theorem lf_waits (hG : Shp G) (h : Sen cA0 cB0 B len most stop j t0 bs dep 0 0 0 D cA cB) (hx : cA 48 6 + 1 ≤ 2 * cB 188 41) : T (d1 + 6) 85 118 [some (aR 48), some (aI dep), some (aI 0), none, some (aI 13)] [] (G, cA) (QM (fun r1 y1 => T (d2 + 4) 256 76 [some (aR 188), some (aI 0), some (aI 0), some (aI 0), none] [] (G, cB) (QM (fun r2 y2 => LfP G cA0 cB0 B len most stop j t0 bs dep (D + 1) (cA 48 6) (cB 188 41) r1 y1 r2 y2)))) := by
  have hse : Sent 48 := by unfold Sent; decide
  have h1 := h.2.2.2.1
  have h2 := h.2.2.2.2.1
  refine b85_118 hG (hse) TM_eqo (by intros; omega) (by intros; omega) ?_ rfl ?_ ?_ ?_ ?_ ?_ ?_ ?_ rfl ?_ ?_
  all_goals intros
  all_goals first | (exfalso; omega) | skip
  refine c_addStep hG rfl (by omega) ?_
  refine b85_214 hG (Or.inr rfl) ?_
  refine b256_76 hG TM_eqo (by intros; omega) rfl (by intros; omega) (by intros; omega) (up_n (by omega)) ((up_n (by omega)).trans (up_n (by omega))) ?_ (by intros; omega) (by intros; omega) (up_n (by omega)) ((up_n (by omega)).trans (up_n (by omega))) ?_ (by intros; omega) (by intros; omega) (up_n (by omega)) (by intros; omega) ?_ (up_n (by omega)) (by intros; omega) ?_ (up_n (by omega)) (by intros; omega) (up_n (by omega)) ?_ ?_ ?_ ?_ rfl (by intros; omega) (by intros; omega) (up_n (by omega)) ((up_n (by omega)).trans (up_n (by omega))) ?_ (by intros; omega) (by intros; omega) (up_n (by omega)) ((up_n (by omega)).trans (up_n (by omega))) ?_
  all_goals intros
  all_goals first | (exfalso; omega) | skip
  refine r_code hG (m := cB 188 40) (up_n (by omega)) (by omega) ?_
  refine b256_142 hG ?_
  have S1 := Sen_leaf (k := 13) (sg := 0) (n := 0) (w := 0) (s0 := 0) (u := 0) (Sen_44 (v := 1) h) hx (Or.inr (by omega)) (Or.inl ⟨rfl, rfl⟩)
  rw [show (q_up cB 188 44 1) 188 40 = cB 188 40 from up_n (by omega)] at S1
  refine ⟨_, _, rfl, rfl, S1.2.1, S1.2.2.1, Or.inr ⟨rfl, rfl, j, S1, ?_, adS_6, ?_, Int.le_refl _⟩⟩
  · rw [cdB_188 (by omega), up_e]
  · rw [cdB_188 (by omega), up_n (by omega)]
theorem lf_named (hG : Shp G) (hW : Wt B len most stop) (hN : NmS cA cB) (h : Sen cA0 cB0 B len most stop j t0 bs dep 0 0 0 D cA cB) (hx : cA 48 6 + 1 ≤ 2 * cB 188 41) (hk : (key = 7 ∧ lf = 1) ∨ (key = 14 ∧ lf = 2)) : T (d1 + 6) 85 118 [some (aR 48), some (aI dep), some (aI 0), none, some (aI key)] [] (G, cA) (QM (fun r1 y1 => T (d2 + 4) 256 76 [some (aR 188), some (aI 0), some (aI 0), some (aI lf), none] [] (G, cB) (QM (fun r2 y2 => LfP G cA0 cB0 B len most stop j t0 bs dep (D + 1) (cA 48 6) (cB 188 41) r1 y1 r2 y2)))) := by
  have hse : Sent 48 := by unfold Sent; decide
  have h1 := h.2.2.2.1
  have h2 := h.2.2.2.2.1
  obtain ⟨⟨c1, c2, c3, c4, c5, c6⟩, nK, nS, hv⟩ := hN
  have S190 : cB 190 = cB0 190 := h.2.2.1.1 190 (by omega) (by omega) (by omega)
  have hv' : ∀ i, 0 ≤ i → i < 20 → (q_up cB 188 44 1) 194 i = rsvF i := fun i p1 p2 => by rw [up_r (by omega)]; exact hv i p1 p2
  have S1 := Sen_44 (v := 1) h
  have main : ∀ (a : Nat) (f NN : Int) (n1 : Nat), okR G a 21 → lnR G a n1 → n1 ≤ 900 → 0 ≤ NN → NN ≤ (n1 : Int) → (f = 0 ∨ f = 6) → NN ≤ 8 → (∀ i, 0 ≤ i → i < NN → NmR (cA a i) (cB 193 (f + i))) → (∀ m, 0 ≤ m → m < NN → CdR (cB0 190) key 0 m lf 0 m) → (∀ (K : Option AV → HH → Prop) (c : CC), TM (d2 + 3) 179 [aR 188, aI f, aI NN] (G, c) (fun r h' => ∃ z c', r = some (aI z) ∧ h' = (G, c') ∧ T (d2 + 4) 256 193 [some (aR 188), none, none, some (aI lf), none] [aI z] (G, c') (QM K)) → c 190 = cB 190 → T (d2 + 4) 256 153 [some (aR 188), none, none, some (aI lf), none] [aI 1] (G, c) (QM K)) → ∀ (K1 : Option AV → HH → Option AV → HH → Prop), (∀ r1 y1 r2 y2, LfP G cA0 cB0 B len most stop j t0 bs dep (D + 1) (cA 48 6) (cB 188 41) r1 y1 r2 y2 → K1 r1 y1 r2 y2) → TM (d1 + 5) 86 [aR 48, aI key, aR a, aI NN] (G, cA) (fun r1 y1 => T (d2 + 4) 256 76 [some (aR 188), some (aI 0), some (aI 0), some (aI lf), none] [] (G, cB) (QM (fun r2 y2 => K1 r1 y1 r2 y2))) := by
    intro a f NN n1 oa la ba b0 b1 hf b8 hR hC hstep K1 hK
    have pb := pF_b (B := B) (len := len) (stop := stop) (j := j) (f := cA a) b0
    have rstep : ∀ (K : Option AV → HH → Prop), TM (d2 + 3) 177 [aR 188] (G, q_up cB 188 44 1) (fun r h' => T (d2 + 4) 256 153 [some (aR 188), none, none, some (aI lf), none] (r.toList ++ []) h' (QM K)) → T (d2 + 4) 256 76 [some (aR 188), some (aI 0), some (aI 0), some (aI lf), none] [] (G, cB) (QM K) := by
      intro K hk
      refine b256_76 hG TM_eqo (by intros; omega) rfl (by intros; omega) (by intros; omega) (up_n (by omega)) ((up_n (by omega)).trans (up_n (by omega))) ?_ (by intros; omega) (by intros; omega) (up_n (by omega)) ((up_n (by omega)).trans (up_n (by omega))) ?_ (by intros; omega) (by intros; omega) (up_n (by omega)) (by intros; omega) ?_ (up_n (by omega)) (by intros; omega) ?_ (up_n (by omega)) (by intros; omega) (up_n (by omega)) ?_ ?_ ?_ ?_ rfl (by intros; omega) (by intros; omega) (up_n (by omega)) ((up_n (by omega)).trans (up_n (by omega))) ?_ (by intros; omega) (by intros; omega) (up_n (by omega)) ((up_n (by omega)).trans (up_n (by omega))) ?_
      all_goals intros
      all_goals first | (exfalso; omega) | exact hk
    refine b86_0 hG (hse) (oa) (la) (by omega) TM_eqo ?_
    by_cases hc : zS B len stop j = 1 ∧ ¬ pF B len stop j (cA a) NN = -1
    · refine c_nameHere hG hW h.1.1 (f := cA a) oa la ba b0 b1 (fun i g1 g2 => ⟨rfl, NmR_64 (hR i g1 g2)⟩) (fun _ _ => ?_) (fun x => absurd hc x)
      have hp := PP_up hW j (by rw [hc.1]; omega)
      obtain ⟨z, hz⟩ : ∃ z, z = pF B len stop j (cA a) NN := ⟨_, rfl⟩
      have bz : 0 ≤ z ∧ z < NN := by omega
      rw [← hz]
      refine b86_9 hG (hse) (by intros; omega) ?_ ?_
      · intro q
        refine c_advance hG h.1.1 (fun cA1 f1 t1 => ?_)
        refine b86_26 hG (hse) TM_eqo ?_
        refine c_addStep hG (s := cA 48 6) (by rw [f1.1 48 (by omega)]) (by omega) ?_
        refine b86_34 hG (Or.inr rfl) ?_
        refine rstep _ ?_
        refine r_isName hG hW S1.1.2.1 hv' ?_
        rw [if_pos hc.1]
        refine hstep _ _ ?_ (up_r (by omega))
        refine r_find hG hW S1.1.2.1 hc.1 (by omega) (fun i g1 g2 => by rw [up_r (by omega)]; exact hR i g1 g2) ?_
        rw [← hz]
        refine ⟨_, _, rfl, rfl, ?_⟩
        refine b256_193 hG TM_eqo (by intros; omega) ?_ ?_
        · intro q2
          refine r_code hG (m := cB 188 40) (up_n (by omega)) (by omega) ?_
          refine b256_214 hG TM_eqo ?_
          have L1 := Sen_leaf (k := key) (sg := 0) (n := z) (w := lf) (s0 := 0) (u := z) S1 hx (by omega) (hC z bz.1 bz.2)
          rw [show (q_up cB 188 44 1) 188 40 = cB 188 40 from up_n (by omega)] at L1
          refine r_advance hG L1.1.2.1 hW.1 hW.2.1 hW.2.2.1 (fun cB1 g1 u1 => ?_)
          refine b256_218 hG ?_
          have L2 := Sen_go (cA' := adS cA1 (cA 48 6) key 0 z) (i' := j + 1) L1 ⟨fun r hr => ?_, fun i p1 p2 p3 p4 p5 => ?_⟩ (TA_fr t1 (adS_r (by omega) (by omega) (by omega) (by omega)) (adS_r (by omega) (by omega) (by omega) (by omega)) (adS_r (by omega) (by omega) (by omega) (by omega)) (adS_r (by omega) (by omega) (by omega) (by omega)) (adS_r (by omega) (by omega) (by omega) (by omega))) (FrG_N g1) u1
          · refine hK _ _ _ _ ⟨_, _, rfl, rfl, L2.2.1, L2.2.2.1, Or.inr ⟨rfl, rfl, j + 1, L2, ?_, adS_6, ?_, by omega⟩⟩
            · rw [g1.2 44 (by omega) (by omega) (by omega) (by omega) (by omega) (by omega), cdB_188 (by omega), up_e]
            · rw [g1.2 41 (by omega) (by omega) (by omega) (by omega) (by omega) (by omega), cdB_188 (by omega), up_n (by omega)]
          · by_cases h48 : r = 48
            · rw [h48]; unfold adS; rw [up_er, up_er, up_r (by omega), up_r (by omega), up_r (by omega), up_r (by omega), up_r (by omega), up_r (by omega), f1.1 48 (by omega)]
            · by_cases h49 : r = 49
              · rw [h49, adS_49, adS_49, f1.1 49 (by omega)]
              · by_cases h50 : r = 50
                · rw [h50, adS_50, adS_50, f1.1 50 (by omega)]
                · by_cases h51 : r = 51
                  · rw [h51, adS_51, adS_51, f1.1 51 (by omega)]
                  · rw [adS_r h48 h49 h50 h51, adS_r h48 h49 h50 h51, f1.1 r hr]
          · rw [adS_r (by omega) (by omega) (by omega) (by omega), adS_r (by omega) (by omega) (by omega) (by omega)]
            exact f1.2 i p1 p2 p3 p4 p5
        · intro q2; omega
      · intro q; omega
    · refine c_nameHere hG hW h.1.1 (f := cA a) oa la ba b0 b1 (fun i g1 g2 => ⟨rfl, NmR_64 (hR i g1 g2)⟩) (fun x1 x2 => absurd ⟨x1, x2⟩ hc) (fun _ cA1 f1 => ?_)
      refine b86_9 hG (hse) (by intros; omega) ?_ ?_
      · intro q; omega
      · intro q
        refine rstep _ ?_
        refine r_isName hG hW S1.1.2.1 hv' ?_
        by_cases hs : zS B len stop j = 1
        · rw [if_pos hs]
          refine hstep _ _ ?_ (up_r (by omega))
          refine r_find hG hW S1.1.2.1 hs (by omega) (fun i g1 g2 => by rw [up_r (by omega)]; exact hR i g1 g2) ⟨_, _, rfl, rfl, ?_⟩
          refine b256_193 hG TM_eqo (by intros; omega) ?_ ?_
          · intro q2; omega
          · intro q2
            refine r_bad hG S1.1.2.1 (fun cB1 g1 => ?_)
            refine b256_205 hG (Or.inl rfl) ?_
            rw [show fM (zS B len stop j) = 3 from if_pos hs] at f1
            exact hK _ _ _ _ (Lf_f hW h.2.1 S1.2.2.1 f1 g1 (by omega))
        · rw [if_neg hs]
          refine b256_153 hG TM_eqo (by intros; omega) (by intros; omega) rfl ?_ rfl ?_ ?_
          · intro q2; omega
          · intro q2; omega
          · intro q2
            refine r_bad hG S1.1.2.1 (fun cB1 g1 => ?_)
            refine b256_161 hG (Or.inl rfl) ?_
            rw [show fM (zS B len stop j) = 1 from if_neg hs] at f1
            exact hK _ _ _ _ (Lf_f hW h.2.1 S1.2.2.1 f1 g1 (by omega))
  have wrap : ∀ r1 y1 r2 y2, LfP G cA0 cB0 B len most stop j t0 bs dep (D + 1) (cA 48 6) (cB 188 41) r1 y1 r2 y2 → ∃ z cX, (z = 0 ∨ z = 1) ∧ r1 = some (aI z) ∧ y1 = (G, cX) := by
    intro r1 y1 r2 y2 hh
    obtain ⟨cX, cY, e1, e2, f1, f2, hh | hh⟩ := hh
    · exact ⟨0, cX, Or.inl rfl, hh.1, e1⟩
    · exact ⟨1, cX, Or.inr rfl, hh.1, e1⟩
  rcases hk with ⟨rfl, rfl⟩ | ⟨rfl, rfl⟩
  · have m0 := main 10 0 (cB 190 0) 6 (sh_ok hG (by decide +kernel)) (sh_ln hG (by decide +kernel)) (by omega) c3 (by omega) (Or.inl rfl) (by omega) nK (fun m p1 p2 => Or.inr (Or.inl ⟨rfl, rfl, rfl, p1, by rw [← S190]; exact p2⟩)) (fun K c hk e => by
      have e0 : c 190 0 = cB 190 0 := by rw [e]
      refine b256_153 hG TM_eqo (by intros; omega) (by intros; omega) rfl ?_ (e0) ?_ ?_
      · intro q q2; omega
      · intro q q2
        refine TM_Qm (fun r h' x => ?_) hk
        obtain ⟨z, cz, rfl, rfl, x⟩ := x
        refine b256_178 hG ?_
        exact x
      · intro q; omega)
    refine b85_118 hG (hse) TM_eqo (by intros; omega) (by intros; omega) ?_ (c1) ?_ ?_ ?_ ?_ ?_ ?_ ?_ (c2) ?_ ?_
    all_goals intros
    all_goals first | (exfalso; omega) | skip
    refine TM_Qm (fun r1 y1 x => sw ?_) (m0 (fun r1 y1 r2 y2 => LfP G cA0 cB0 B len most stop j t0 bs dep (D + 1) (cA 48 6) (cB 188 41) r1 y1 r2 y2) (fun _ _ _ _ x => x))
    refine T_Qm (fun r2 y2 hx => ?_) x
    obtain ⟨z, cX, hz, rfl, rfl⟩ := wrap _ _ _ _ hx
    refine b85_235 hG (hz) ?_
    exact hx
  · have m0 := main 11 6 (cB 190 1) 8 (sh_ok hG (by decide +kernel)) (sh_ln hG (by decide +kernel)) (by omega) c5 (by omega) (Or.inr rfl) (by omega) nS (fun m p1 p2 => Or.inr (Or.inr (Or.inl ⟨rfl, rfl, rfl, p1, by rw [← S190]; exact p2⟩))) (fun K c hk e => by
      have e1 : c 190 1 = cB 190 1 := by rw [e]
      refine b256_153 hG TM_eqo (by intros; omega) (by intros; omega) (e1) ?_ rfl ?_ ?_
      · intro q q2
        refine TM_Qm (fun r h' x => ?_) hk
        obtain ⟨z, cz, rfl, rfl, x⟩ := x
        exact x
      · intro q q2; omega
      · intro q; omega)
    refine b85_118 hG (hse) TM_eqo (by intros; omega) (by intros; omega) ?_ (c1) ?_ ?_ ?_ ?_ ?_ ?_ ?_ (c2) ?_ ?_
    all_goals intros
    all_goals first | (exfalso; omega) | skip
    refine TM_Qm (fun r1 y1 x => sw ?_) (m0 (fun r1 y1 r2 y2 => LfP G cA0 cB0 B len most stop j t0 bs dep (D + 1) (cA 48 6) (cB 188 41) r1 y1 r2 y2) (fun _ _ _ _ x => x))
    refine T_Qm (fun r2 y2 hx => ?_) x
    obtain ⟨z, cX, hz, rfl, rfl⟩ := wrap _ _ _ _ hx
    refine b85_256 hG (hz) ?_
    exact hx
end SPsh
