section SPbt
variable {d d1 d2 r n0 : Nat} {G : GG} {c c' cA cB cA0 cB0 cA' cB' c0 : CC} {Q : Option AV → HH → Prop} {P : Option AV → HH → Option AV → HH → Prop} {v v1 v2 N k m u x y z s had lives len most stop w : Int} {j i' : Nat} {S S' S0 : SS} {R B : Int → Int}
def FBy (cB0 cB : CC) : Prop := (∀ r, ¬ r = 188 → ¬ r = 192 → cB r = cB0 r) ∧ ∀ i, (i = 2 ∨ (19 ≤ i ∧ ¬ i = 36)) → cB 188 i = cB0 188 i
theorem FBy_b (h : FBy cB0 cB) (f : FBb cB cB') : FBy cB0 cB' := ⟨fun r h1 h2 => (f.1 r h1 h2).trans (h.1 r h1 h2), fun i h1 => (f.2 i (by omega)).trans (h.2 i h1)⟩
theorem BkL_fr (h : BkL cA cB m) (e1 : cA' 121 = cA 121) (e2 : cA' 122 = cA 122) (e3 : cA' 123 = cA 123) (e4 : cB' 192 = cB 192) (e5 : cB' 190 = cB 190) : BkL cA' cB' m := by
  unfold BkL
  rw [e1, e2, e3, e4, e5]
  exact h
theorem bk_loop (hG : Shp G) (hW : Wt B len most stop) (hN : NmS cA0 cB0) (zf : ∀ cA cB, FAb cA0 cA → FBy cB0 cB → FlX cA cB → P (some (aI 0)) (G, cA) (some (aI ((-2) - cB 188 16))) (G, cB)) (zs : ∀ (m : Int) cA cB, FAb cA0 cA → FBy cB0 cB → BkL cA cB m → cA 120 2 = m → cB 188 36 = m → 0 ≤ m → m ≤ 30 → cA 2 14 = 0 → cB 188 15 = 0 → TM (d2 + 9) 214 [aR 188] (G, cB) (fun r h' => T (d2 + 10) 250 87 [some (aR 188), some (aI lives), none, none, none] (r.toList ++ []) h' (QM (fun r2 y2 => P (some (aI 1)) (G, cA) r2 y2)))) : ∀ (n : Nat) (j : Nat) (v : Int) (cA cB : CC), v + n = 31 → 0 ≤ v → v ≤ 30 → TkS B len most stop j cA cB → FAb cA0 cA → FBy cB0 cB → BkL cA cB v → cA 120 2 = v → cB 188 36 = v → T (d1 + 10) 8 17 [some (aR 120), some (aI v)] [] (G, cA) (QM (fun r1 y1 => T (d2 + 10) 250 39 [some (aR 188), some (aI lives), none, none, none] [] (G, cB) (QM (fun r2 y2 => P r1 y1 r2 y2)))) := by
  intro n
  induction n with
  | zero => intro j v cA cB g1 g2 g3; omega
  | succ n ih =>
    intro j v cA cB g1 g2 g3 hT fA fB hL h120 h36
    obtain ⟨t1, t2, t3, t4⟩ := TA_e hT.1
    have b := p_b hW j
    have tk := RT_tok hW hT.2.1
    have r11 := RT_11 hT.2.1
    have hN' : NmS cA cB := NmS_fr hN (fA.1 9 (by omega) (by omega) (by omega)) (fA.1 10 (by omega) (by omega) (by omega)) (fA.1 11 (by omega) (by omega) (by omega)) (fB.1 190 (by omega) (by omega)) (fB.1 193 (by omega) (by omega)) (fB.1 194 (by omega) (by omega))
    refine b8_17 hG TM_eqo (by intros; omega) ?_ (t1) (by intros; omega) ?_ ?_
    · intro q; omega
    · intro q1 q2
      have nz : ¬ cB 188 11 = 0 := fun x => q2 (tk.1.mpr x).1
      clear tk
      refine TM_Qm (fun r1 y1 x => ?_) (bk_line (d1 := d1 + 1) (d2 := d2 + 1) hG hW hT hN' FAb_refl FBb_refl hL h120 h36 ⟨g2, g3⟩ q2)
      refine sw ?_
      refine b250_39 hG rfl (by intros; omega) ?_ ?_
      · intro z; omega
      · intro z
        refine TM_Qm (fun r2 y2 hx => ?_) x
        obtain ⟨cA', cB', rfl, rfl, f1, f2, ⟨rfl, rfl, hf⟩ | ⟨rfl, rfl, j', hT', hL', h120', h30, hj⟩⟩ := hx
        · have hb := hf.2.2.2
          refine b250_50 hG (by intros; omega) rfl ?_ ?_
          · intro z1
            refine b8_45 hG (by intros; omega) ?_ ?_
            · intro z2
              exact zf cA' cB' (FAb_tr fA f1) (FBy_b fB f2) hf
            · intro z2; omega
          · intro z1; omega
        · have fA' := FAb_tr fA f1
          have fB' := FBy_b fB f2
          have h36' : cB' 188 36 = v := by rw [f2.2 36 (by omega)]; exact h36
          clear f1 f2 hT x
          refine b250_50 hG (by intros; omega) rfl ?_ ?_
          · intro z1; omega
          · intro z1
            by_cases hc : zS B len stop j' = 4 ∧ pN B len stop j' = 59
            · refine r_sign hG hW hT'.2.1 (by omega) (fun _ cB2 g2 u2 => ?_) (fun x => absurd hc x)
              have e36 : cB2 188 36 = v := (g2.2 36 (by omega) (by omega) (by omega) (by omega) (by omega) (by omega)).trans h36'
              refine b250_59 hG (by intros; omega) (e36) ?_ rfl ?_
              · intro z2
                refine sw ?_
                refine b8_45 hG (by intros; omega) ?_ ?_
                · intro z3; omega
                · intro z3
                  refine c_takeSign hG hW hT'.1 (by omega) (fun _ cA2 f2 t2 => ?_) (fun x => absurd hc x)
                  have T2 := TkS_go hT' f2 t2 (FrG_N g2) u2
                  refine b8_57 hG (by intros; omega) ?_ ?_
                  · intro z4
                    refine ih (j' + 1) (v + 1) _ _ (by omega) (by omega) (by omega) ⟨T2.1, RT_up T2.2.1 (by omega), T2.2.2.1, T2.2.2.2.1, (up_n (by omega)).trans T2.2.2.2.2⟩ (FAb_V fA' f2) ?_ (BkL_fr hL' (f2.1 121 (by omega)) (f2.1 122 (by omega)) (f2.1 123 (by omega)) (by rw [up_r (by omega), g2.1 192 (by omega)]) (by rw [up_r (by omega), g2.1 190 (by omega)])) (by rw [f2.1 120 (by omega)]; exact h120') up_e
                    have := FBy_b fB' (FBb_G FBb_refl (FrG_N g2))
                    exact ⟨fun r h1 h2 => (up_r (by omega)).trans (this.1 r h1 h2), fun i h1 => (up_n (by omega)).trans (this.2 i h1)⟩
                  · intro z4; omega
              · intro z2; omega
            · refine r_sign hG hW hT'.2.1 (by omega) (fun x => absurd x hc) (fun _ cB2 g2 => ?_)
              have hb := (p_b hW j').2.2.2.2.2
              have h16 := g2.2.2.2
              refine b250_59 hG (by intros; omega) rfl ?_ rfl ?_
              · intro z2; omega
              · intro z2
                refine b8_45 hG (by intros; omega) ?_ ?_
                · intro z3; omega
                · intro z3
                  refine c_takeSign hG hW hT'.1 (by omega) (fun x => absurd x hc) (fun _ cA2 f2 => ?_)
                  refine b8_57 hG (by intros; omega) ?_ ?_
                  · intro z4; omega
                  · intro z4
                    exact zf cA2 cB2 (FAb_F fA' f2) (FBy_b fB' (FBb_F FBb_refl g2)) (FlX_mk hW f2 g2 (by omega))
    · intro q1 q2
      by_cases hml : most < len
      · have nz : ¬ cB 188 11 = 0 := fun x => (tk.1.mpr x).2 hml
        clear tk
        refine c_endsHere hG hW hT.1 hT.2.2.1 (fun _ x => absurd hml x) (fun _ cA1 f1 => ?_)
        refine b8_40 hG (Or.inl rfl) ?_
        refine b250_39 hG rfl (by intros; omega) ?_ ?_
        · intro z1; omega
        · intro z1
          have zz : ¬ zS B len stop j = 1 := by omega
          have n8 : ¬ (zS B len stop j = 2 ∧ pN B len stop j = 8) := by omega
          have n9 : ¬ (zS B len stop j = 2 ∧ pN B len stop j = 9) := by omega
          refine b248_0 hG (h36) ?_
          refine r_isWord hG hW hT.2.1 8 (by omega) (by omega) (by decide +kernel) ?_
          rw [if_neg n8]
          refine b248_14 hG TM_eqo (by intros; omega) rfl (by intros; omega) ?_ ?_ ?_
          · intro z; omega
          · intro z; omega
          · intro z
            refine r_isWord hG hW hT.2.1 9 (by omega) (by omega) (by decide +kernel) ?_
            rw [if_neg n9]
            refine b248_24 hG TM_eqo (by intros; omega) rfl ?_ rfl (by intros; omega) ?_ ?_
            · intro z
              refine r_looksAt hG hW hT.2.1 hN'.2.2.2 (f := cA 11) (by have := hN'.1; omega) hN'.2.2.1 (fun x _ => absurd x zz) (fun _ cB1 g1 => ?_)
              have hb := (p_b hW j).2.2.2.2.2
              have h16 := g1.2.2.2
              refine b248_105 hG TM_eqo (by intros; omega) rfl (by intros; omega) (by intros; omega) (by intros; omega) (up_n (by omega)) (by intros; omega) (by intros; omega) ?_ ?_ ?_
              · intro z1 z2; omega
              · intro z1 z2; omega
              · intro z1
                refine b250_50 hG (by intros; omega) rfl ?_ ?_
                · intro z2
                  refine zf cA1 cB1 (FAb_F fA f1) (FBy_b fB (FBb_F FBb_refl g1)) ?_
                  have e1 : fM (zS B len stop j) = 1 := if_neg zz
                  rw [e1] at g1
                  exact FlX_mk hW f1 g1 (by omega)
                · intro z2; omega
            · intro z1 z2; omega
            · intro z1 z2; omega
      · have nz : cB 188 11 = 0 := tk.1.mp ⟨q2, hml⟩
        clear tk
        refine c_endsHere hG hW hT.1 hT.2.2.1 (fun _ _ => ?_) (fun x => absurd ⟨q2, hml⟩ x)
        refine b8_40 hG (Or.inr rfl) ?_
        refine b250_39 hG (nz) (by intros; omega) ?_ ?_
        · intro z1
          exact zs v cA cB fA fB hL h120 h36 g2 g3 hT.2.2.2.1 hT.2.2.2.2
        · intro z1; omega
theorem c_dayEnd (hG : Shp G) (hm : 0 ≤ m ∧ m ≤ 30) (hl : lives = 0 ∨ lives = 1) (hS : GS S) (hr : RR c 9 S) (hL : LR c 27 S) (e2 : c 120 2 = m) (hl2 : ∀ i, 0 ≤ i → i < m → LnF c R S i) (p : Int × Int × SS) (hp : p = bkN R m.toNat 0 S) (pb : (0 ≤ p.1 ∧ p.1 ≤ 4) ∧ 0 ≤ p.2.1 ∧ p.2.1 ≤ 30) (hz1 : ¬ (lives = 1 ∧ 0 < p.2.1) → ∀ c', (∀ r, ¬ (35 ≤ r ∧ r ≤ 42) → ¬ r = 120 → ¬ r = 2 → c' r = c r) → (∀ i, ¬ i = 1 → c' 2 i = c 2 i) → c' 2 1 = 0 → c' 120 6 = 1 → c' 120 7 = p.1 → c' 120 8 = p.2.1 → c' 120 9 = p.2.2 169 - S 169 → c' 120 10 = allF p.2.2 → LR c' 35 p.2.2 → Q (some (aI (if p.1 = 0 then -1 else p.2.1))) (G, c')) (hz2 : lives = 1 → 0 < p.2.1 → ∀ c', (∀ r, ¬ (35 ≤ r ∧ r ≤ 42) → ¬ r = 120 → ¬ r = 2 → c' r = c r) → (∀ i, ¬ i = 1 → c' 2 i = c 2 i) → c' 2 1 = 0 → c' 120 6 = 1 → c' 120 7 = p.1 → c' 120 8 = p.2.1 → c' 120 9 = p.2.2 169 - S 169 → c' 120 10 = allF p.2.2 → LR c' 35 p.2.2 → TM (d + 9) 14 [aR 53, aR 27] (G, c') (fun r h' => T (d + 10) 114 92 [some (aR 1), none, none] (r.toList ++ []) h' (QM Q))) : T (d + 10) 114 20 [some (aR 1), some (aI lives), none] [aI 1] (G, c) (QM Q) := by
  refine b114_20 hG TM_eqo (by intros; omega) ?_ (up_n (by omega)) ?_
  · intro q
    refine c_copyLife hG lf35 lf27 (by omega) (fun c1 f1 l1 => ?_)
    refine b114_55 hG ?_
    have hL1 : LR c1 35 S := l1 S hS.1 (LR_fr hL (fun r p q => up_r (by omega)))
    refine c_runOn hG hm hS (RR_fr hr (fun r p q => by rw [f1 r (by omega), up_r (by omega)])) hL1 (by rw [f1 120 (by omega), up_r (by omega)]; exact e2) (fun i h1 h2 => LnF_sm (hl2 i h1 h2) (SmR_refl S) (by rw [f1 121 (by omega), up_r (by omega)]) (by rw [f1 122 (by omega), up_r (by omega)]) (by rw [f1 123 (by omega), up_r (by omega)])) (fun c2 p' hp' f2 f3 y6 y7 y8 y9 y10 l2 => ?_)
    rw [← hp] at hp'
    subst hp'
    have fr : ∀ r, ¬ (35 ≤ r ∧ r ≤ 42) → ¬ r = 120 → ¬ r = 2 → c2 r = c r := fun r h1 h2 h3 => by rw [f2 r h1 h2, f1 r (by omega), up_r h3]
    have f2i : ∀ i, ¬ i = 1 → c2 2 i = c 2 i := fun i h => by rw [f2 2 (by omega) (by omega), f1 2 (by omega), up_n (by omega)]
    have f21 : c2 2 1 = 0 := by rw [f2 2 (by omega) (by omega), f1 2 (by omega), up_e]
    refine b114_66 hG TM_eqo (by intros; omega) ?_ (y8) (by intros; omega) ?_ ?_
    · intro q2
      refine b114_103 hG (y7) (by intros; omega) (y8) ?_ ?_
      · intro q3
        have := hz1 (by omega) c2 fr f2i f21 y6 y7 y8 y9 y10 l2
        rw [if_neg q3] at this; exact this
      · intro q3
        have := hz1 (by omega) c2 fr f2i f21 y6 y7 y8 y9 y10 l2
        rw [if_pos q3] at this; exact this
    · intro q2 q4
      refine b114_103 hG (y7) (by intros; omega) (y8) ?_ ?_
      · intro q3
        have := hz1 (by omega) c2 fr f2i f21 y6 y7 y8 y9 y10 l2
        rw [if_neg q3] at this; exact this
      · intro q3
        have := hz1 (by omega) c2 fr f2i f21 y6 y7 y8 y9 y10 l2
        rw [if_pos q3] at this; exact this
    · intro q2 q4
      exact hz2 q2 q4 c2 fr f2i f21 y6 y7 y8 y9 y10 l2
  · intro q; omega
theorem r_bk0 (hG : Shp G) (hz : ∀ c', (∀ r, ¬ r = 205 → c' r = c r) → (∀ q, 0 ≤ q → q < 4 → c' 205 q = 0) → T (d + 1) 250 121 [some (aR 188), some (aI lives), some (aI (c 190 169)), some (aI (-1)), some (aI 0)] [] (G, c') (QM Q)) : T (d + 1) 250 89 [some (aR 188), some (aI lives), some (aI 0), none, none] [] (G, c) (QM Q) := by
  have key : ∀ i, 0 ≤ i → i ≤ 4 → ∀ c2 : CC, (∀ r, ¬ r = 205 → c2 r = c r) → (∀ q, 0 ≤ q → q < i → c2 205 q = 0) → T (d + 1) 250 89 [some (aR 188), some (aI lives), some (aI i), none, none] [] (G, c2) (QM Q) := by
    refine int_ind ?_ ?_
    · intro c2 g1 g2
      refine b250_89 hG (by intros; omega) (congrFun (g1 190 (by omega)) 169) ?_ (by intros; omega) (by intros; omega) ?_
      · intro q; exact hz c2 g1 g2
      · intro q; omega
    · intro i q1 q2 ih c2 g1 g2
      refine b250_89 hG (by intros; omega) rfl ?_ (by intros; omega) (by intros; omega) ?_
      · intro q; omega
      · intro q
        refine ih _ (fun r h1 => (up_r h1).trans (g1 r h1)) (fun q h1 h2 => ?_)
        by_cases hq : q = i
        · rw [hq]; exact up_e
        · rw [up_n (by omega)]; exact g2 q h1 (by omega)
  exact key 0 (by omega) (by omega) c (fun _ _ => rfl) (fun q h1 h2 => by omega)
theorem r_bkSlot (hG : Shp G) (hn : 1 ≤ c 188 23 ∧ c 188 23 ≤ 8) (hz : ∀ c', (∀ r, ¬ r = 195 → c' r = c r) → (∀ q, c' 195 q = if 165 * (c 188 23 - 1) ≤ q ∧ q < 165 * (c 188 23 - 1) + 165 then c 196 (q - 165 * (c 188 23 - 1)) else c 195 q) → Q (some (aI v)) (G, c')) : T (d + 1) 250 231 [some (aR 188), some (aI 1), none, some (aI v), some (aI 0)] [] (G, c) (QM Q) := by
  have key : ∀ i, 0 ≤ i → i ≤ 165 → ∀ c2 : CC, (∀ r, ¬ r = 195 → c2 r = c r) → (∀ q, c2 195 q = if 165 * (c 188 23 - 1) ≤ q ∧ q < 165 * (c 188 23 - 1) + i then c 196 (q - 165 * (c 188 23 - 1)) else c 195 q) → T (d + 1) 250 231 [some (aR 188), some (aI 1), none, some (aI v), some (aI i)] [] (G, c2) (QM Q) := by
    refine int_ind ?_ ?_
    · intro c2 g1 g2
      refine b250_231 hG TM_eqo (by intros; omega) (by intros; omega) ?_ ?_ (congrFun (g1 188 (by omega)) 23) (by intros; omega) (by intros; omega) (congrFun (g1 196 (by omega)) _) (by intros; omega) (by intros; omega) ?_
      · intro q q3
        refine b250_278 hG ?_
        exact hz c2 g1 g2
      · intro q q3; omega
      · intro q; omega
    · intro i q1 q2 ih c2 g1 g2
      refine b250_231 hG TM_eqo (by intros; omega) (by intros; omega) ?_ ?_ (congrFun (g1 188 (by omega)) 23) (by intros; omega) (by intros; omega) (congrFun (g1 196 (by omega)) _) (by intros; omega) (by intros; omega) ?_
      · intro q q3; omega
      · intro q q3; omega
      · intro q
        refine ih _ (fun r h1 => (up_r h1).trans (g1 r h1)) (fun q => ?_)
        by_cases hq : q = 165 * (c 188 23 - 1) + i
        · rw [hq, up_e, if_pos (by omega)]
          congr 1; omega
        · rw [up_n (by omega), g2]
          by_cases h3 : 165 * (c 188 23 - 1) ≤ q ∧ q < 165 * (c 188 23 - 1) + i
          · rw [if_pos h3, if_pos (by omega)]
          · rw [if_neg h3, if_neg (by omega)]
  refine key 0 (by omega) (by omega) c (fun _ _ => rfl) (fun q => ?_)
  rw [if_neg (by omega)]
theorem r_dayEnd (hG : Shp G) (hm : 0 ≤ m ∧ m ≤ 30) (hl : lives = 0 ∨ lives = 1) (hS : GS (c 190)) (hn : 0 ≤ c 188 23 ∧ c 188 23 ≤ 8) (e36 : c 188 36 = m) (hk : ∀ j, 0 ≤ j → j < m → BkOk (c 192) (c 190) j) (p : Int × Int × SS) (hp : p = bkN (c 192) m.toNat 0 (c 190)) (pb : (0 ≤ p.1 ∧ p.1 ≤ 4) ∧ 0 ≤ p.2.1 ∧ p.2.1 ≤ 30) (ps : SmR (c 190) p.2.2) (p0 : p.2.1 = 0 → p.2.2 = c 190)
    (hz1 : ¬ (lives = 1 ∧ 0 < p.2.1) → ∀ c', (∀ r, ¬ r = 188 → ¬ r = 196 → ¬ r = 205 → c' r = c r) → (∀ i, ¬ i = 38 → c' 188 i = c 188 i) → c' 188 38 = 1 → c' 205 0 = p.1 → c' 205 1 = p.2.1 → c' 205 2 = p.2.2 169 - c 190 169 → c' 205 3 = allF p.2.2 → Q (some (aI (if p.1 = 0 then -1 else p.2.1))) (G, c'))
    (hz2 : lives = 1 → 0 < p.2.1 → ∀ c', (∀ r, ¬ r = 188 → ¬ r = 190 → ¬ r = 195 → ¬ r = 196 → ¬ r = 205 → c' r = c r) → (∀ i, ¬ i = 38 → ¬ i = 23 → c' 188 i = c 188 i) → c' 188 38 = 1 → c' 188 23 = (if c 188 23 < 8 then c 188 23 + 1 else 8) → (∀ q, c' 195 q = keptF (c 188 23) (c 195) (c 190) q) → c' 190 = p.2.2 → c' 205 0 = p.1 → c' 205 1 = p.2.1 → c' 205 2 = p.2.2 169 - c 190 169 → c' 205 3 = allF p.2.2 → Q (some (aI (if p.1 = 0 then -1 else p.2.1))) (G, c')) : TM (d + 9) 214 [aR 188] (G, c) (fun r h' => T (d + 10) 250 87 [some (aR 188), some (aI lives), none, none, none] (r.toList ++ []) h' (QM Q)) := by
  refine r_tries hG (fun f hf => ?_)
  refine b250_87 hG ?_
  refine r_bk0 hG (fun c1 f1 z1 => ?_)
  have e190 : c1 190 = c 190 := by rw [f1 190 (by omega), uf_n (by omega)]
  have e192 : c1 192 = c 192 := by rw [f1 192 (by omega), uf_n (by omega)]
  have e188 : c1 188 = c 188 := by rw [f1 188 (by omega), uf_n (by omega)]
  have e196 : c1 196 = f := by rw [f1 196 (by omega), uf_e]
  rw [show (q_uf c 196 f) 190 169 = c 190 169 from uf_n2 (by omega)]
  refine r_runL (d := d + 2) (c0 := c1) (m := m) (R := c 192) (S0 := c 190) hG hm e192 (by rw [e188]; exact e36) (fun c2 p' hp' f2 y190 y0 y1 y2 => ?_) m.toNat 0 c1 (by omega) (by omega) (by rw [e190]; exact hS) (fun j h1 h2 => by rw [e190]; exact hk j h1 h2) (by rw [e190]) (fun _ _ _ => rfl) (z1 0 (by omega) (by omega)) (z1 1 (by omega) (by omega))
  rw [← hp] at hp'
  subst hp'
  generalize hv : (if p'.1 = 0 then (-1 : Int) else p'.2.1) = v at hz1 hz2 ⊢
  have bv : -1 ≤ v ∧ v ≤ 30 := by rw [← hv]; split <;> omega
  clear hv
  have c2r : ∀ r, ¬ r = 188 → ¬ r = 190 → ¬ r = 196 → ¬ r = 205 → c2 r = c r := fun r h1 h2 h3 h4 => by rw [f2 r h2 h4, f1 r h4, uf_n h3]
  have c2f : ∀ i, c2 188 i = c 188 i := fun i => by rw [f2 188 (by omega) (by omega), e188]
  have c2t : c2 196 = f := by rw [f2 196 (by omega) (by omega), e196]
  have y1' : (q_up (q_up c2 205 3 (allF p'.2.2)) 188 38 1) 205 1 = p'.2.1 := by rw [up_n (by omega), up_n (by omega)]; exact y1
  generalize hc3 : q_up (q_up c2 205 3 (allF p'.2.2)) 188 38 1 = c3 at y1'
  have c3r : ∀ r, ¬ r = 188 → ¬ r = 205 → c3 r = c2 r := fun r h1 h2 => by rw [← hc3, up_r h1, up_r h2]
  have c3f : ∀ i, ¬ i = 38 → c3 188 i = c 188 i := fun i h1 => by rw [← hc3, up_n (by omega), up_n (by omega)]; exact c2f i
  have c38 : c3 188 38 = 1 := by rw [← hc3, up_e]
  have c30 : c3 205 0 = p'.1 := by rw [← hc3, up_n (by omega), up_n (by omega)]; exact y0
  have c32 : c3 205 2 = p'.2.2 169 - c 190 169 := by rw [← hc3, up_n (by omega), up_n (by omega)]; exact y2
  have c33 : c3 205 3 = allF p'.2.2 := by rw [← hc3, up_n (by omega), up_e]
  have c390 : c3 190 = p'.2.2 := by rw [c3r 190 (by omega) (by omega)]; exact y190
  have bk : TM (d + 9) 215 [aR 188] (G, c3) (fun r h' => T (d + 10) 250 278 [none, none, none, some (aI v), none] (r.toList ++ []) h' (QM Q)) ∨ lives = 1 := by
    rcases hl with hl | hl
    · refine Or.inl (r_back hG ?_)
      refine b250_278 hG ?_
      have e : mixF (c3 190) (c3 196) = c 190 := by
        rw [c390, c3r 196 (by omega) (by omega), c2t]
        exact mix_same ps hf
      rw [e]
      refine hz1 (by omega) _ (fun r h1 h2 h3 => ?_) (fun i h1 => by rw [uf_n (by omega)]; exact c3f i h1) (by rw [uf_n (by omega)]; exact c38) (by rw [uf_n (by omega)]; exact c30) (by rw [uf_n (by omega)]; exact y1') (by rw [uf_n (by omega)]; exact c32) (by rw [uf_n (by omega)]; exact c33)
      by_cases h4 : r = 190
      · rw [h4, uf_e]
      · rw [uf_n h4, c3r r h1 h3, c2r r h1 h4 h2 h3]
    · exact Or.inr hl
  refine b250_204 hG TM_eqo (by intros; omega) (by intros; omega) (by intros; omega) ?_ ?_ ((congrFun (congrFun hc3 205) 1).trans y1') (by intros; omega) ?_ ?_ ?_
  all_goals (try rw [hc3])
  · intro q q2; omega
  · intro q q2
    rcases bk with bk | bk
    · exact bk
    · omega
  · intro q q2 q3
    refine b250_278 hG ?_
    have h0 := p0 (by omega)
    refine hz1 (by omega) c3 (fun r h1 h2 h3 => ?_) c3f c38 c30 y1' c32 c33
    by_cases h4 : r = 190
    · rw [h4, c390, h0]
    · rw [c3r r h1 h3, c2r r h1 h4 h2 h3]
  · intro q q2 q3; omega
  · intro q q2
    refine m_keep hG (by rw [c3f 23 (by omega)]; exact hn) (fun c4 kp => ?_)
    obtain ⟨m1, m2, m3, m4⟩ := kp
    rw [c3f 23 (by omega)] at m3
    refine b250_228 hG ?_
    rw [q]
    have n1 : 1 ≤ c4 188 23 ∧ c4 188 23 ≤ 8 := by rw [m3]; split <;> omega
    refine r_bkSlot hG n1 (fun c5 s1 s2 => ?_)
    refine hz2 q q2 c5 (fun r h1 h2 h3 h4 h5 => by rw [s1 r h3, m1 r h1 h3, c3r r h1 h5, c2r r h1 h2 h4 h5]) (fun i h1 h2 => by rw [s1 188 (by omega), m2 i h2, c3f i h1]) (by rw [s1 188 (by omega), m2 38 (by omega)]; exact c38) (by rw [s1 188 (by omega)]; exact m3) (fun q => ?_) (by rw [s1 190 (by omega), m1 190 (by omega) (by omega)]; exact c390) (by rw [s1 205 (by omega), m1 205 (by omega) (by omega)]; exact c30) (by rw [s1 205 (by omega), m1 205 (by omega) (by omega)]; exact y1') (by rw [s1 205 (by omega), m1 205 (by omega) (by omega)]; exact c32) (by rw [s1 205 (by omega), m1 205 (by omega) (by omega)]; exact c33)
    have e5 : c4 196 = f := by rw [m1 196 (by omega) (by omega), c3r 196 (by omega) (by omega), c2t]
    rw [s2, m4, m3, e5, c3f 23 (by omega), c3r 195 (by omega) (by omega), c2r 195 (by omega) (by omega) (by omega) (by omega)]
    unfold keptF
    by_cases h8 : c 188 23 = 8
    · have e23 : (if c 188 23 < 8 then c 188 23 + 1 else (8 : Int)) = 8 := if_neg (by omega)
      rw [e23, if_pos h8, if_pos h8]
      by_cases h1 : 1155 ≤ q ∧ q < 1320
      · have h1' : 165 * ((8 : Int) - 1) ≤ q ∧ q < 165 * (8 - 1) + 165 := by omega
        rw [if_pos h1', if_pos h1, hf _ (by omega) (by omega)]
        congr 1
      · have h1' : ¬ (165 * ((8 : Int) - 1) ≤ q ∧ q < 165 * (8 - 1) + 165) := by omega
        rw [if_neg h1', if_neg h1, if_neg h1]
    · have e23 : (if c 188 23 < 8 then c 188 23 + 1 else (8 : Int)) = c 188 23 + 1 := if_pos (by omega)
      rw [e23, if_neg h8, if_neg h8]
      by_cases h1 : 165 * c 188 23 ≤ q ∧ q < 165 * c 188 23 + 165
      · have h1' : 165 * (c 188 23 + 1 - 1) ≤ q ∧ q < 165 * (c 188 23 + 1 - 1) + 165 := by omega
        rw [if_pos h1', if_pos h1, hf _ (by omega) (by omega)]
        congr 1; omega
      · have h1' : ¬ (165 * (c 188 23 + 1 - 1) ≤ q ∧ q < 165 * (c 188 23 + 1 - 1) + 165) := by omega
        rw [if_neg h1', if_neg h1, if_neg h1]
end SPbt
