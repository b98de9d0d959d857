section SPsn
variable {d : Nat} {G : GG} {c c' cA cB cA1 cB1 cA' cB' cA0 cB0 : CC} {Q : Option AV → HH → Prop} {v1 v2 n i x s k m len most stop dep q pa po D t0 : Int} {j : Nat} {S S' : SS} {a b e : Nat} {B bs : Int → Int}
theorem op_sentence (hG : Shp G) (h : GR cA cB) : OP G (d + 50) 116 258 [] cA cB := by
  have hse := se48
  refine OP_lk ?_
  have hGR := h
  obtain ⟨⟨t1, t2, t3⟩, t4, t5, t6⟩ := h.2.2.2.1
  obtain ⟨len, hlen⟩ : ∃ len, len = cB 188 2 := ⟨_, rfl⟩
  obtain ⟨stop, hst⟩ : ∃ stop, stop = if 200 < len then 200 else len := ⟨_, rfl⟩
  rw [← hlen] at t1 t2 t3 t4
  have hW : Wt (cA 3) len 200 stop := ⟨⟨t2, t3⟩, ⟨by omega, by omega⟩, hst, by rw [hst]; split <;> omega, fun i h1 h2 => ⟨(t4 i h1 h2).2.1, (t4 i h1 h2).2.2.1⟩⟩
  refine sw ?_
  refine b258_0 hG ?_
  refine r_taken hG (fun cB1 tk => ?_)
  obtain ⟨k1, k2, k3, k4, k5, k6⟩ := tk
  refine b258_12 hG ?_
  generalize hc2 : q_up (q_up (q_up (q_up (q_up (q_up cB1 188 15 0) 188 40 0) 188 41 0) 188 42 0) 188 43 1) 188 44 0 = cB2
  have q188 : ∀ i, ¬ i = 15 → (i < 40 ∨ 44 < i) → cB2 188 i = cB1 188 i := fun i h1 h2 => by rw [← hc2, up_n (by omega), up_n (by omega), up_n (by omega), up_n (by omega), up_n (by omega), up_n (by omega)]
  have qr : ∀ r, ¬ r = 188 → cB2 r = cB r := fun r h1 => by rw [← hc2, up_r h1, up_r h1, up_r h1, up_r h1, up_r h1, up_r h1, k1 r h1]
  have q15 : cB2 188 15 = 0 := by rw [← hc2, up_n (by omega), up_n (by omega), up_n (by omega), up_n (by omega), up_n (by omega), up_e]
  have q40 : cB2 188 40 = 0 := by rw [← hc2, up_n (by omega), up_n (by omega), up_n (by omega), up_n (by omega), up_e]
  have q41 : cB2 188 41 = 0 := by rw [← hc2, up_n (by omega), up_n (by omega), up_n (by omega), up_e]
  have q42 : cB2 188 42 = 0 := by rw [← hc2, up_n (by omega), up_n (by omega), up_e]
  have q43 : cB2 188 43 = 1 := by rw [← hc2, up_n (by omega), up_e]
  have q44 : cB2 188 44 = 0 := by rw [← hc2, up_e]
  clear hc2
  have hBy : ∀ i, 0 ≤ i → i < len → q_and (cB2 189 i) 255 = cA 3 i ∧ 0 ≤ cA 3 i ∧ cA 3 i ≤ 255 := fun i p q => by
    rw [qr 189 (by omega)]
    exact ⟨(t4 i p q).1.symm, hW.2.2.2.2 i p q⟩
  refine r_next hG (B := cA 3) (len := len) (most := 200) (stop := stop) (p := 0) hBy (by rw [q188 3 (by omega) (by omega), k4, hlen]) (by rw [q188 5 (by omega) (by omega)]; exact k6) ⟨t2, t3⟩ (by omega) hst (by omega) (by rw [q188 4 (by omega) (by omega)]; exact k5) (fun cB3 m1 m2 => ?_)
  refine b258_46 hG ?_
  refine sw ?_
  have rB3 : ∀ r, ¬ r = 188 → cB3 r = cB r := fun r h1 => (m1.1 r h1).trans (qr r h1)
  have mf : ∀ i, 19 ≤ i → cB3 188 i = cB2 188 i := fun i p => m1.2 i (by omega) (by omega) (by omega) (by omega) (by omega) (by omega)
  refine b116_0 hG ?_
  refine b82_0 hG (hse) ?_
  refine b80_0 hG (hse) ?_
  refine b82_4 hG (hse) ?_
  generalize hc1 : q_up (q_up (q_up cA 48 7 0) 48 8 0) 48 6 0 = cA1
  have a48 : cA1 48 7 = 0 ∧ cA1 48 8 = 0 ∧ cA1 48 6 = 0 := ⟨by rw [← hc1, up_n (by omega), up_n (by omega), up_e], by rw [← hc1, up_n (by omega), up_e], by rw [← hc1, up_e]⟩
  have a1 : ∀ r, ¬ r = 48 → cA1 r = cA r := fun r h => by rw [← hc1, up_r h, up_r h, up_r h]
  clear hc1
  refine c_begin hG (B := cA 3) (len := len) (stop := stop) (fun i p q => ⟨by rw [a1 3 (by omega)], hW.2.2.2.2 i p q⟩) (by rw [a1 2 (by omega)]; exact t1) ⟨t2, t3⟩ (fun i p q => by rw [a1 4 (by omega)]; exact (t6 i p q).1) hst (by omega) (fun cA2 f2 tA e9 e14 => ?_)
  refine b82_14 hG (hse) ?_
  have g1 : ∀ r, ¬ r = 2 → ¬ (5 ≤ r ∧ r ≤ 8) → cA2 r = cA1 r := fun r h1 h2 => f2.1 r h1 (by omega) (by omega) (by omega) (by omega)
  have hN : NmS cA1 cB1 := by
    have hR := h.1.1.1
    obtain ⟨n1, n2, n3⟩ := h.2.1
    refine ⟨?_, fun i p q => ?_, fun i p q => ?_, fun i p q => by rw [k1 194 (by omega)]; exact (t6 i p q).2⟩
    · rw [k1 190 (by omega), a1 9 (by omega), n1.1.1, n1.1.2.1]; omega
    · rw [k1 190 (by omega)] at q
      rw [k1 193 (by omega), a1 10 (by omega)]
      exact n2.1 i p q
    · rw [k1 190 (by omega)] at q
      rw [k1 193 (by omega), a1 11 (by omega)]
      have := n2.2 i p q
      rw [show 0 + 6 + i = 6 + i by omega] at this
      exact this
  have S0 : Sen cA1 cB1 (cA 3) len 200 stop 0 0 (cB 206) 1 0 0 0 0 cA2 cB3 := by
    refine ⟨⟨tA, ⟨m2, fun i p q => by rw [m1.1 189 (by omega)]; exact hBy i p q, ?_, ?_⟩, e9, e14, ?_⟩, ⟨fun r h1 h2 h3 => g1 r h1 h2, fun i h1 => f2.2 i (by omega), fun i h1 h2 => by rw [g1 48 (by omega) (by omega)]⟩, ⟨fun r h1 h2 h3 => by rw [rB3 r h1, k1 r h1], fun i h1 => ?_⟩, ?_⟩
    · rw [m1.2 3 (by omega) (by omega) (by omega) (by omega) (by omega) (by omega), q188 3 (by omega) (by omega), k4, hlen]
    · rw [m1.2 5 (by omega) (by omega) (by omega) (by omega) (by omega) (by omega), q188 5 (by omega) (by omega)]; exact k6
    · rw [m1.2 15 (by omega) (by omega) (by omega) (by omega) (by omega) (by omega)]; exact q15
    · by_cases hi : i = 2
      · rw [hi, m1.2 2 (by omega) (by omega) (by omega) (by omega) (by omega) (by omega), q188 2 (by omega) (by omega)]
      · rw [mf i (by omega), q188 i (by omega) (by omega)]
    · unfold SeC RPc
      rw [mf 40 (by omega), mf 41 (by omega), mf 42 (by omega), mf 43 (by omega), q40, q41, q42, q43, g1 48 (by omega) (by omega), a48.2.1, a48.2.2]
      exact ⟨by omega, by omega, by omega, by omega, by omega, fun i p q => by omega, fun i p q => by omega, fun p => by omega, fun p => by omega, fun i p q => by omega, fun i p q => by omega, fun p => by omega, fun p => by omega, fun _ => 0, ⟨rfl, fun i p q => by omega⟩, rfl⟩
  have e44 : cB3 188 44 = 0 := by rw [mf 44 (by omega)]; exact q44
  clear m1 m2 q188 qr hBy q15 q40 q41 q42 q43 q44 tA e9 e14 mf t4
  have fA : ∀ cX, FAs cA1 cX → ∀ r, ¬ r = 2 → ¬ (5 ≤ r ∧ r ≤ 8) → ¬ (48 ≤ r ∧ r ≤ 51) → cX r = cA r := fun cX f r h1 h2 h3 => by rw [f.1 r h1 h2 h3, a1 r (by omega)]
  have fB : ∀ cY, FBs cB1 cY → ∀ r, ¬ r = 188 → ¬ r = 192 → ¬ r = 206 → cY r = cB r := fun cY f r h1 h2 h3 => by rw [f.1 r h1 h2 h3, k1 r h1]
  have fB2 : ∀ cY, FBs cB1 cY → ∀ i, (i = 23 ∨ i = 27 ∨ i = 31 ∨ i = 38) → cY 188 i = cB 188 i := fun cY f i hi => by rw [f.2 i (by omega), k2 i (by omega) (by omega) (by omega) (by omega) (by omega)]
  have fB3 : ∀ cY, FBs cB1 cY → cY 188 2 = 0 := fun cY f => by rw [f.2 2 (by omega)]; exact k3
  have fin : ∀ cX cY v, FAs cA1 cX → FBs cB1 cY → FlX cX cY → ∃ cA' cB', (G, q_up (q_up cX 48 7 v) 2 1 0) = (G, cA') ∧ (G, cY) = (G, cB') ∧ (∀ r, 188 ≤ r → cA' r = cA r) ∧ GR cA' cB' ∧ ∃ v, (some (aI ((-1) - cY 188 16))) = some (aI v) ∧ (some (aI ((-1) - cY 188 16))) = some (aI v) ∧ I32 v := by
    intro cX cY v f1 f3 hx
    have hx2 := hx.2.1
    have hx4 := hx.2.2.2
    refine ⟨_, cY, rfl, rfl, fun r hr => by rw [up_r (by omega), up_r (by omega)]; exact fA cX f1 r (by omega) (by omega) (by omega), GR_flt hGR (fun r hr => by rw [up_r (by omega), up_r (by omega)]; exact fA cX f1 r (by omega) (by omega) (by omega)) (fun i _ _ => by rw [up_r (by omega), up_r (by omega), fA cX f1 120 (by omega) (by omega) (by omega)]) up_e (by rw [up_n (by omega), up_n (by omega)]; exact hx.1) (by omega) (fun r hr => fB cY f3 r (by omega) (by omega) (by omega)) (fun i hi => fB2 cY f3 i hi) (fB3 cY f3) (fun i p q => by rw [fB cY f3 193 (by omega) (by omega) (by omega)]), _, rfl, rfl, by omega⟩
  have bad : ∀ cX cY x1, FAs cA1 cX → FBs cB1 cY → FlX cX cY → x1 = (q_up cX 48 7 0) 48 7 → T (d + 50) 116 7 [some (aR 1), none] [aI 0] (G, q_up cX 48 7 0) (QM (fun r1 h1 => ∃ cA' cB', h1 = (G, cA') ∧ (G, cY) = (G, cB') ∧ (∀ r, 188 ≤ r → cA' r = cA r) ∧ GR cA' cB' ∧ ∃ v, r1 = some (aI v) ∧ (some (aI ((-1) - cY 188 16))) = some (aI v) ∧ I32 v)) := by
    intro cX cY x1 f1 f3 hx _
    have a11 : (q_up (q_up cX 48 7 0) 2 1 0) 2 11 = cY 188 16 := by rw [up_n (by omega), up_n (by omega)]; exact hx.2.2.1
    refine b116_7 hG TM_eqo (by intros; omega) ?_ (a11) ?_
    · intro q; omega
    · intro q
      exact fin cX cY 0 f1 f3 hx
  refine TM_Qm (fun r1 y1 x => T_Qm (fun r h y => swH y) (swH x)) (cond_of hG hW (all_of hG hW (one_all hG hW hN 942)) (d + 48) 0 0 (cB 206) 1 0 cA2 cB3 (fun r1 y1 r2 y2 => T (d + 49) 82 20 [some (aR 48)] (r1.toList ++ [aR 48]) y1 (QM (fun r h => T (d + 50) 116 7 [some (aR 1), none] (r.toList ++ []) h (QM (fun R1 Y1 => ∃ cA' cB', Y1 = (G, cA') ∧ y2 = (G, cB') ∧ (∀ r, 188 ≤ r → cA' r = cA r) ∧ GR cA' cB' ∧ ∃ v, R1 = some (aI v) ∧ r2 = some (aI v) ∧ I32 v))))) ?_ (by omega) S0 (Or.inl rfl) (by omega) e44 ?_ ?_)
  · have := PP_0 (B := cA 3) (len := len) (stop := stop) 0 hW.2.2.2.1.1
    omega
  · intro cX cY f1 f3 hx
    show T (d + 49) 82 20 [some (aR 48)] [aI 0, aR 48] _ _
    refine b82_20 hG (hse) (by intros; omega) (up_e) (by intros; exact Or.inl rfl) ?_ ?_
    · intro q
      exact bad cX cY _ f1 f3 hx rfl
    · intro q; omega
  · intro j q pa po cX cY s1 pg n11 n10
    have hbp := (p_b hW j).2.2.2.2.2
    have tk := (RT_tok hW (Sen_RT s1)).1
    have r11 := RT_11 (Sen_RT s1)
    by_cases hend : zS (cA 3) len stop j = 0 ∧ ¬ 200 < len
    · have z11 := tk.mp hend
      clear tk
      refine r_endX (d := d + 46) hG hW s1 pg.1 z11 (Or.inl rfl) (fun _ cB4 s2 => ?_) (fun x => by omega)
      obtain ⟨h1, h2, h3, h4, h5, h6, h7, h8, h9, h10, h11, h12, h13, dp, hr0, hr1⟩ := s2.2.2.2
      refine r_codes hG rfl (by omega) rfl (fun cB5 y1 y2 y3 y4 => ?_)
      show T (d + 49) 82 20 [some (aR 48)] [aI 1, aR 48] _ _
      refine b82_20 hG (hse) (by intros; omega) up_e (by intros; omega) ?_ ?_
      · intro z; omega
      · intro z
        refine c_endsHere hG hW s1.1.1 s1.1.2.2.1 (fun _ _ => ?_) (fun x => absurd hend x)
        refine b82_30 hG (hse) (by intros; omega) up_e (by intros; omega) ?_ (up_e) (by intros; exact Or.inr rfl) ?_
        · intro z2; omega
        · intro z2
          refine b116_7 hG TM_eqo (by intros; omega) ?_ (up_n (by omega)) ?_
          · intro z3
            refine c_copySent hG se43 se48 (by omega) (Or.inr (by rw [up_n (by omega), up_e])) (fun cA5 f5 w1 w2 => ?_)
            have e8 : cA5 43 8 = cB4 188 41 := by rw [w2, up_n (by omega), up_n (by omega)]; exact h1.1
            refine b116_41 hG (e8) ?_
            have s4' := s2.2.2.1
            have cY' : ∀ r, ¬ r = 188 → ¬ r = 190 → ¬ r = 192 → ¬ r = 206 → cB5 r = cB r := fun r p1 p2 p3 p4 => by rw [y1 r p2, fB cB4 s4' r p1 p3 p4]
            have e190 : cB4 190 = cB 190 := fB cB4 s4' 190 (by omega) (by omega) (by omega)
            have hq : EqT (cB 190) (cB5 190) := fun i p q => by rw [y2 i p q, e190]
            have cX' : ∀ r, ¬ r = 2 → ¬ (5 ≤ r ∧ r ≤ 8) → ¬ (43 ≤ r ∧ r ≤ 51) → cA5 r = cA r := fun r p1 p2 p3 => by rw [f5 r (by omega), up_r p1, up_r (by omega)]; exact fA cX s1.2.1 r p1 p2 (by omega)
            have c188 : ∀ i, cB5 188 i = cB4 188 i := fun i => by rw [y1 188 (by omega)]
            obtain ⟨r1, r2, r3, r4, r5, r6, r7, r8, r9⟩ := hGR
            have hR := r1.1.1
            have gS : GS (cB5 190) := GS_t hq r1
            have sn : SnR cA5 43 (cB5 190) := by
              refine w1 _ ⟨Or.inr (by rw [up_n (by omega), up_e]), fun z => by rw [up_n (by omega), up_e] at z; omega, fun _ => ⟨?_, ?_, ?_, fun i p1 p2 => ?_, dp, hr0.1, ?_, fun i p1 p2 => ?_⟩⟩
              · rw [up_n (by omega), up_n (by omega), y3]; omega
              · rw [y3]
                have := pg.2.2.1
                have hb0 := S0.2.2.2.2.1
                have o1 := Sen_ones s1 s2
                have hp := pg.2.1
                by_cases hm0 : cB4 188 40 = 0
                · exfalso
                  have e6 : cX 48 6 = 0 := by omega
                  rw [e6, hr0.1] at hr1
                  omega
                · omega
              · rw [y3]
                have := h1.2.2
                have g2 := pg.2.2.1
                have g0 := S0.2.2.2.2.1
                omega
              · rw [y3] at p2
                have hc := h10 i p1 p2
                have l0 := y4 (3 * i) (by omega) (by omega)
                have l1 := y4 (3 * i + 1) (by omega) (by omega)
                have l2 := y4 (3 * i + 2) (by omega) (by omega)
                rw [show 334 + (3 * i + 1) = 335 + 3 * i by omega] at l1
                rw [show 334 + (3 * i + 2) = 336 + 3 * i by omega] at l2
                show CdR (cB5 190) ((q_up (q_up cX 48 7 1) 2 1 0) 49 i) ((q_up (q_up cX 48 7 1) 2 1 0) 50 i) ((q_up (q_up cX 48 7 1) 2 1 0) 51 i) _ _ _
                rw [up_n (by omega), up_n (by omega), up_n (by omega), up_n (by omega), up_n (by omega), up_n (by omega), l0, l1, l2]
                unfold CdR at hc ⊢
                rw [hq 0 (by omega) (by omega), hq 1 (by omega) (by omega)]
                rw [k1 190 (by omega)] at hc
                exact hc
              · rw [y3, ← show cX 48 6 = cB4 188 40 by omega]
                rw [show (0 : Int) + 1 = 1 by omega] at hr1
                exact hr1
              · rw [y3] at p2
                have hc := h10 i p1 p2
                have hp := hr0.2 i p1 (by omega)
                have l0 := y4 (3 * i) (by omega) (by omega)
                rw [l0]
                unfold CdR at hc
                omega
            have e14 : cA5 2 14 = 0 := by rw [f5 2 (by omega), up_n (by omega), up_r (by omega)]; exact s1.1.2.2.2.1
            have e15 : cB5 188 15 = 0 := by rw [c188]; exact s2.1.2.2.2.2
            have e21 : cA5 2 1 = 0 := by rw [f5 2 (by omega), up_e]
            refine ⟨cA5, cB5, rfl, rfl, fun r hr => cX' r (by omega) (by omega) (by omega), ⟨gS, ⟨RR_t hq (by omega) (RR_fr r2.1 (fun r p q => cX' r (by omega) (by omega) (by omega))), Nms_fr r2.2.1 (cX' 10 (by omega) (by omega) (by omega)) (cX' 11 (by omega) (by omega) (by omega)) (fun j _ _ => by rw [cY' 193 (by omega) (by omega) (by omega) (by omega)]) ⟨hq 0 (by omega) (by omega), hq 1 (by omega) (by omega)⟩ (by omega), sn⟩, LR_t hq (by omega) (LR_fr r3 (fun r p q => cX' r (by omega) (by omega) (by omega))), ⟨⟨?_, ?_, ?_⟩, fun i p q => ?_, ⟨by rw [e14, e15], by omega, by omega⟩, fun i p q => ?_⟩, GH_t r5 r1 hq (fun r p q => cX' r (by omega) (by omega) (by omega)) (by rw [c188]; exact fB2 cB4 s4' 23 (by omega)) (cY' 195 (by omega) (by omega) (by omega) (by omega)), GM_fr r6 (cX' 131 (by omega) (by omega) (by omega)) (by rw [c188]; exact fB2 cB4 s4' 27 (by omega)) (cY' 199 (by omega) (by omega) (by omega) (by omega)), GW_fr r7 (cX' 187 (by omega) (by omega) (by omega)) (by rw [c188]; exact fB2 cB4 s4' 31 (by omega)) (cY' 202 (by omega) (by omega) (by omega) (by omega)), GB_fr r8 (fun i _ _ => by rw [cX' 120 (by omega) (by omega) (by omega)]) (by rw [c188]; exact fB2 cB4 s4' 38 (by omega)) (cY' 205 (by omega) (by omega) (by omega) (by omega)) (cX' 138 (by omega) (by omega) (by omega)) (cX' 139 (by omega) (by omega) (by omega)) (cY' 200 (by omega) (by omega) (by omega) (by omega)) (cY' 201 (by omega) (by omega) (by omega) (by omega)), GI_fr r9 (fun r p q => cX' r (by omega) (by omega) (by omega)) (cY' 208 (by omega) (by omega) (by omega) (by omega)) (cY' 209 (by omega) (by omega) (by omega) (by omega)) (cY' 210 (by omega) (by omega) (by omega) (by omega))⟩, _, rfl, rfl, by omega⟩
            · rw [e21, c188, fB3 cB4 s4']
            · rw [c188, fB3 cB4 s4']; omega
            · rw [c188, fB3 cB4 s4']; omega
            · rw [c188, fB3 cB4 s4'] at q; omega
            · rw [cX' 4 (by omega) (by omega) (by omega), cY' 194 (by omega) (by omega) (by omega) (by omega)]
              exact t6 i p q
          · intro z3; omega
    · have nz : ¬ cY 188 11 = 0 := fun z => hend (tk.mpr z)
      clear tk
      refine h_beh hG pg.1 nz r11 ?_
      refine r_behBad hG hW s1 n11 n10 (Or.inl rfl) (fun cB4 cB5 f5 g5 => ?_)
      have h16 := g5.2.2.2
      refine b258_112 hG (by intros; omega) ?_ rfl ?_
      · intro z; omega
      · intro z
        show T (d + 49) 82 20 [some (aR 48)] [aI 1, aR 48] _ _
        refine b82_20 hG (hse) (by intros; omega) up_e (by intros; omega) ?_ ?_
        · intro z2; omega
        · intro z2
          refine c_endsHere hG hW s1.1.1 s1.1.2.2.1 (fun x1 x2 => absurd ⟨x1, x2⟩ hend) (fun _ cX2 f3 => ?_)
          refine b82_30 hG (hse) (by intros; omega) (up_e) (by intros; exact Or.inl rfl) ?_ up_e (by intros; omega) ?_
          · intro z3
            exact bad cX2 cB5 _ (FAs_F s1.2.1 f3) (FBs_F f5 g5) (FlX_mk hW f3 g5 (by omega)) rfl
          · intro z3; omega
end SPsn
