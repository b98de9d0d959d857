section SPbu
variable {d d1 d2 r n0 : Nat} {G : GG} {c c' cA cB cA0 cB0 cA' cB' cA1 c0 : CC} {Q : Option AV → HH → Prop} {P : Option AV → HH → Option AV → HH → Prop} {v v1 v2 N k m u x y z s had lives len most stop w : Int} {j i' : Nat} {S S' S0 : SS} {R B : Int → Int}
theorem GR_bk (h : GR cA cB) (a1 : ∀ r, (r = 3 ∨ r = 4 ∨ (9 ≤ r ∧ r ≤ 17) ∨ (27 ≤ r ∧ r ≤ 34) ∨ (43 ≤ r ∧ r ≤ 46) ∨ (53 ≤ r ∧ r ≤ 118) ∨ r = 131 ∨ r = 138 ∨ r = 139 ∨ (141 ≤ r ∧ r ≤ 187)) → cA' r = cA r) (a3 : cA' 2 1 = 0) (a4 : cA' 2 14 = cB' 188 15) (a5 : 0 ≤ cB' 188 15 ∧ cB' 188 15 ≤ 4) (b1 : ∀ r, (r = 189 ∨ r = 190 ∨ r = 194 ∨ r = 195 ∨ r = 199 ∨ r = 200 ∨ r = 201 ∨ r = 202 ∨ r = 208 ∨ r = 209 ∨ r = 210) → cB' r = cB r) (b2 : ∀ i, i = 23 ∨ i = 27 ∨ i = 31 → cB' 188 i = cB 188 i) (b3 : cB' 188 2 = 0) (b4 : ∀ i, 0 ≤ i → i < 14 → cB' 193 i = cB 193 i) (hb : GB cA' cB') : GR cA' cB' := by
  obtain ⟨r1, r2, r3, r4, r5, r6, r7, r8, r9⟩ := h
  obtain ⟨⟨t1, t2, t3⟩, t4, t5, t6⟩ := r4
  have e190 := b1 190 (by omega)
  refine ⟨by rw [e190]; exact r1, GN_fr r2 (by rw [e190]; exact SmR_refl _) r1.1 (fun r p => a1 r (by omega)) (fun j p q => b4 j p q), by rw [e190]; exact LR_fr r3 (fun r p q => a1 r (by omega)), ⟨⟨by rw [a3, b3], by omega, by omega⟩, fun i p q => by omega, ⟨a4, a5⟩, fun i p q => ?_⟩, GH_fr r5 (by rw [e190]; exact SmR_refl _) (fun r p q => a1 r (by omega)) (b2 _ (by omega)) (b1 _ (by omega)), GM_fr r6 (a1 _ (by omega)) (b2 _ (by omega)) (b1 _ (by omega)), GW_fr r7 (a1 _ (by omega)) (b2 _ (by omega)) (b1 _ (by omega)), hb, GI_fr r9 (fun r p q => a1 r (by omega)) (b1 _ (by omega)) (b1 _ (by omega)) (b1 _ (by omega))⟩
  rw [a1 4 (by omega), b1 194 (by omega)]
  exact t6 i p q
theorem op_daybook (hG : Shp G) (h : GR cA cB) (h1 : I32 lives) : OP G (d + 50) 114 250 [aI lives] cA cB := by
  by_cases hl : lives = 0 ∨ lives = 1
  · refine OP_lk ?_
    have hGR := h
    obtain ⟨⟨t1, t2, t3⟩, t4, t5, t6⟩ := h.2.2.2.1
    obtain ⟨len, hlen⟩ : ∃ len, len = cB 188 2 := ⟨_, rfl⟩
    obtain ⟨stop, hst⟩ : ∃ stop, stop = if 400 < len then 400 else len := ⟨_, rfl⟩
    rw [← hlen] at t1 t2 t3 t4
    have hW : Wt (cA 3) len 400 stop := ⟨⟨t2, t3⟩, ⟨by omega, by omega⟩, hst, by rw [hst]; split <;> omega, fun i h1 h2 => ⟨(t4 i h1 h2).2.1, (t4 i h1 h2).2.2.1⟩⟩
    have main : TM (d + 49) 8 [aR 120] (G, cA) (fun r h' => T (d + 50) 114 20 [some (aR 1), some (aI lives), none] (r.toList ++ []) h' (QM (fun r1 h1 => TM (d + 50) 250 [aR 188, aI lives] (G, cB) (fun r2 h2 => ∃ cA' cB', h1 = (G, cA') ∧ h2 = (G, cB') ∧ (∀ r, 188 ≤ r → cA' r = cA r) ∧ GR cA' cB' ∧ ∃ v, r1 = some (aI v) ∧ r2 = some (aI v) ∧ I32 v)))) := by
      refine b8_0 hG ?_
      refine c_begin hG (B := cA 3) (len := len) (stop := stop) (fun i p q => ⟨by rw [up_r (by omega)], hW.2.2.2.2 i p q⟩) (by rw [up_r (by omega)]; exact t1) ⟨t2, t3⟩ (fun i p q => by rw [up_r (by omega)]; exact (t6 i p q).1) hst (by omega) (fun cA2 f2 tA e9 e14 => ?_)
      refine b8_15 hG ?_
      refine T_Qm (fun r1 y1 x => sw x) ?_
      refine sw ?_
      refine b250_0 hG ?_
      refine r_isIn hG h1 (by omega) (by omega) ?_
      rw [if_pos (by omega)]
      refine b250_11 hG (by intros; omega) ?_ ?_
      rotate_left
      · intro q; omega
      intro _
      refine r_taken hG (fun cB1 tk => ?_)
      obtain ⟨k1, k2, k3, k4, k5, k6⟩ := tk
      refine b250_25 hG ?_
      have q188 : ∀ i, ¬ i = 15 → ¬ i = 36 → (q_up (q_up cB1 188 15 0) 188 36 0) 188 i = cB1 188 i := fun i h1 h2 => by rw [up_n (by omega), up_n (by omega)]
      have qr : ∀ r, ¬ r = 188 → (q_up (q_up cB1 188 15 0) 188 36 0) r = cB r := fun r h1 => by rw [up_r h1, up_r h1, k1 r h1]
      have q15 : (q_up (q_up cB1 188 15 0) 188 36 0) 188 15 = 0 := by rw [up_n (by omega), up_e]
      have q36 : (q_up (q_up cB1 188 15 0) 188 36 0) 188 36 = 0 := by rw [up_e]
      generalize q_up (q_up cB1 188 15 0) 188 36 0 = cB2 at *
      have hBy : ∀ i, 0 ≤ i → i < len → q_and (cB2 189 i) 255 = cA 3 i ∧ 0 ≤ cA 3 i ∧ cA 3 i ≤ 255 := fun i p q => by
        rw [qr 189 (by omega)]
        exact ⟨(t4 i p q).1.symm, hW.2.2.2.2 i p q⟩
      refine r_next hG (B := cA 3) (len := len) (most := 400) (stop := stop) (p := 0) hBy (by rw [q188 3 (by omega) (by omega), k4, hlen]) (by rw [q188 5 (by omega) (by omega)]; exact k6) ⟨t2, t3⟩ (by omega) hst (by omega) (by rw [q188 4 (by omega) (by omega)]; exact k5) (fun cB3 m1 m2 => ?_)
      refine sw ?_
      have rB3 : ∀ r, ¬ r = 188 → cB3 r = cB r := fun r h1 => (m1.1 r h1).trans (qr r h1)
      have fA0 : FAb cA cA2 := ⟨fun r h1 h2 h3 => by rw [f2.1 r h1 (by omega) (by omega) (by omega) (by omega), up_r (by omega)], fun i h1 => by rw [f2.2 i (by omega), up_r (by omega)], fun i h1 => by rw [f2.1 120 (by omega) (by omega) (by omega) (by omega) (by omega), up_n (by omega)]⟩
      have fB0 : FBy cB1 cB3 := ⟨fun r h1 h2 => by rw [rB3 r h1, k1 r h1], fun i h1 => by rw [m1.2 i (by omega) (by omega) (by omega) (by omega) (by omega) (by omega), q188 i (by omega) (by omega)]⟩
      have hT0 : TkS (cA 3) len 400 stop 0 cA2 cB3 := by
        refine ⟨tA, ⟨m2, fun i p q => by rw [m1.1 189 (by omega)]; exact hBy i p q, ?_, ?_⟩, e9, e14, ?_⟩
        · rw [m1.2 3 (by omega) (by omega) (by omega) (by omega) (by omega) (by omega), q188 3 (by omega) (by omega), k4, hlen]
        · rw [m1.2 5 (by omega) (by omega) (by omega) (by omega) (by omega) (by omega), q188 5 (by omega) (by omega)]; exact k6
        · rw [m1.2 15 (by omega) (by omega) (by omega) (by omega) (by omega) (by omega)]; exact q15
      have h120 : cA2 120 2 = 0 := by rw [f2.1 120 (by omega) (by omega) (by omega) (by omega) (by omega), up_e]
      have h36 : cB3 188 36 = 0 := by rw [m1.2 36 (by omega) (by omega) (by omega) (by omega) (by omega) (by omega)]; exact q36
      have hN : NmS cA cB1 := by
        have hR := h.1.1.1
        obtain ⟨n1, n2, n3⟩ := h.2.1
        refine ⟨?_, fun i p q => ?_, fun i p q => ?_, fun i p q => by rw [k1 194 (by omega)]; exact (t6 i p q).2⟩
        · rw [k1 190 (by omega), n1.1.1, n1.1.2.1]; omega
        · rw [k1 190 (by omega)] at q
          rw [k1 193 (by omega)]
          exact n2.1 i p q
        · rw [k1 190 (by omega)] at q
          rw [k1 193 (by omega)]
          have := n2.2 i p q
          rw [show 0 + 6 + i = 6 + i by omega] at this
          exact this
      clear m1 m2 q188 qr hBy rB3 tA e9 e14 f2 q15 q36 t4
      refine bk_loop hG hW hN (cA0 := cA) (cB0 := cB1) ?_ ?_ 31 0 0 cA2 cB3 (by omega) (by omega) (by omega) hT0 fA0 fB0 (fun i p q => by omega) h120 h36
      · intro cA3 cB4 fA fB hx
        have hx2 := hx.2.1
        have hx4 := hx.2.2.2
        have a11 : (q_up cA3 2 1 0) 2 11 = cB4 188 16 := (up_n (by omega)).trans hx.2.2.1
        refine b114_20 hG TM_eqo (by intros; omega) ?_ (a11) ?_
        · intro q; omega
        · intro q
          exact ⟨_, cB4, rfl, rfl, fun r hr => by rw [up_r (by omega)]; exact fA.1 r (by omega) (by omega) (by omega), GR_flt h (fun r hr => by rw [up_r (by omega)]; exact fA.1 r (by omega) (by omega) (by omega)) (fun i _ _ => by rw [up_r (by omega), fA.2.2 i (by omega)]) up_e ((up_n (by omega)).trans hx.1) (by omega) (fun r hr => by rw [fB.1 r (by omega) (by omega), k1 r (by omega)]) (fun i hi => by rw [fB.2 i (by omega), k2 i (by omega) (by omega) (by omega) (by omega) (by omega)]) (by rw [fB.2 2 (by omega)]; exact k3) (fun i p q => by rw [fB.1 193 (by omega) (by omega), k1 193 (by omega)]), _, rfl, rfl, by omega⟩
      · intro m cA3 cB4 fA fB hL h120' h36' m0 m30 e14 e15
        obtain ⟨r1, r2, r3, r4, r5, r6, r7, r8, r9⟩ := h
        have S190 : cB4 190 = cB 190 := by rw [fB.1 190 (by omega) (by omega), k1 190 (by omega)]
        have hS : GS (cB4 190) := by rw [S190]; exact r1
        have hln : ∀ i, 0 ≤ i → i < m → LnF cA3 (cB4 192) (cB4 190) i := fun i p q => hL i p q
        obtain ⟨p, hp⟩ : ∃ p, p = bkN (cB4 192) m.toNat 0 (cB4 190) := ⟨_, rfl⟩
        have pg := bkN_GS (R := cB4 192) m.toNat 0 (cB4 190) hS (fun j h1 h2 => LnF_ok (hln j h1 (by omega)))
        rw [← hp] at pg
        obtain ⟨pg1, pg2, pg3, pg4, pg5, pg6⟩ := pg
        have ab := all_b pg1.2.1
        have gb1 := GS_b pg1
        have gb2 := GS_b hS
        have fB' : ∀ r, ¬ r = 188 → ¬ r = 192 → cB4 r = cB r := fun r h1 h2 => by rw [fB.1 r h1 h2, k1 r h1]
        have fB2 : ∀ i, i = 23 ∨ i = 27 ∨ i = 31 ∨ i = 38 → cB4 188 i = cB 188 i := fun i hi => by rw [fB.2 i (by omega), k2 i (by omega) (by omega) (by omega) (by omega) (by omega)]
        have e2' : cB4 188 2 = 0 := by rw [fB.2 2 (by omega)]; exact k3
        have hL27 : LR cA3 27 (cB4 190) := by rw [S190]; exact LR_fr r3 (fun r p q => fA.1 r (by omega) (by omega) (by omega))
        have hR9 : RR cA3 9 (cB4 190) := by rw [S190]; exact RR_fr r2.1 (fun r p q => fA.1 r (by omega) (by omega) (by omega))
        have n23 := r5.1
        have gbk : ∀ cX cY : CC, (∀ r, ¬ (35 ≤ r ∧ r ≤ 42) → ¬ r = 120 → ¬ r = 2 → cX r = cA3 r) → cX 120 6 = 1 → cX 120 7 = p.1 → cX 120 8 = p.2.1 → cX 120 9 = p.2.2 169 - cB4 190 169 → cX 120 10 = allF p.2.2 → cY 188 38 = 1 → cY 205 0 = p.1 → cY 205 1 = p.2.1 → cY 205 2 = p.2.2 169 - cB4 190 169 → cY 205 3 = allF p.2.2 → cY 200 = cB 200 → cY 201 = cB 201 → GB cX cY := by
          intro cX cY x0 x6 x7 x8 x9 x10 y38 y0 y1 y2 y3 y200 y201
          refine ⟨by rw [x6, y38], Or.inr y38, fun _ i h1 h2 => ?_, ?_⟩
          · have hi : i = 0 ∨ i = 1 ∨ i = 2 ∨ i = 3 := by omega
            rcases hi with rfl | rfl | rfl | rfl
            · show cX 120 7 = _ ∧ _
              rw [x7, y0]; exact ⟨rfl, by omega⟩
            · show cX 120 8 = _ ∧ _
              rw [x8, y1]; exact ⟨rfl, by omega⟩
            · show cX 120 9 = _ ∧ _
              rw [x9, y2]; exact ⟨rfl, by omega⟩
            · show cX 120 10 = _ ∧ _
              rw [x10, y3]; exact ⟨rfl, by omega⟩
          · rw [x0 138 (by omega) (by omega) (by omega), x0 139 (by omega) (by omega) (by omega), fA.1 138 (by omega) (by omega) (by omega), fA.1 139 (by omega) (by omega) (by omega), y200, y201]
            exact r8.2.2.2
        have bv : I32 (if p.1 = 0 then -1 else p.2.1) := by split <;> omega
        refine r_dayEnd (d := d + 40) hG ⟨m0, m30⟩ hl hS (by rw [fB2 23 (by omega)]; omega) h36' (fun j h1 h2 => LnF_ok (hln j h1 h2)) p hp (by omega) pg2 pg6 ?_ ?_
        · intro hc cY y1 y2 y38 y50 y51 y52 y53
          refine c_dayEnd (d := d + 40) hG ⟨m0, m30⟩ hl hS hR9 hL27 h120' hln p hp (by omega) ?_ (fun x1 x2 => absurd ⟨x1, x2⟩ hc)
          intro _ cX x1 x2 x21 x6 x7 x8 x9 x10 _
          refine ⟨cX, cY, rfl, rfl, fun r hr => by rw [x1 r (by omega) (by omega) (by omega), fA.1 r (by omega) (by omega) (by omega)], ?_, _, rfl, rfl, bv⟩
          refine GR_bk hGR (fun r hr => by rw [x1 r (by omega) (by omega) (by omega), fA.1 r (by omega) (by omega) (by omega)]) x21 (by rw [x2 14 (by omega), y2 15 (by omega), e14, e15]) (by rw [y2 15 (by omega), e15]; omega) (fun r hr => by rw [y1 r (by omega) (by omega) (by omega), fB' r (by omega) (by omega)]) (fun i hi => by rw [y2 i (by omega), fB2 i (by omega)]) (by rw [y2 2 (by omega)]; exact e2') (fun i _ _ => by rw [y1 193 (by omega) (by omega) (by omega), fB' 193 (by omega) (by omega)]) ?_
          exact gbk cX cY x1 x6 x7 x8 x9 x10 y38 y50 y51 y52 y53 (by rw [y1 200 (by omega) (by omega) (by omega), fB' 200 (by omega) (by omega)]) (by rw [y1 201 (by omega) (by omega) (by omega), fB' 201 (by omega) (by omega)])
        · intro hl1 hp1 cY y1 y2 y38 y23 y195 y190 y50 y51 y52 y53
          refine c_dayEnd (d := d + 40) hG ⟨m0, m30⟩ hl hS hR9 hL27 h120' hln p hp (by omega) (fun x => absurd ⟨hl1, hp1⟩ x) ?_
          intro _ _ cX x1 x2 x21 x6 x7 x8 x9 x10 l35
          have g2 : GR cX (q_up (q_uf (q_uf cY 190 (cB 190)) 195 (cB 195)) 188 23 (cB 188 23)) := by
            refine GR_bk hGR (fun r hr => by rw [x1 r (by omega) (by omega) (by omega), fA.1 r (by omega) (by omega) (by omega)]) x21 (by rw [x2 14 (by omega), up_n (by omega), uf_n2 (by omega), uf_n2 (by omega), y2 15 (by omega) (by omega), e14, e15]) (by rw [up_n (by omega), uf_n2 (by omega), uf_n2 (by omega), y2 15 (by omega) (by omega), e15]; omega) (fun r hr => ?_) (fun i hi => ?_) (by rw [up_n (by omega), uf_n2 (by omega), uf_n2 (by omega), y2 2 (by omega) (by omega)]; exact e2') (fun i _ _ => by rw [up_r (by omega), uf_n (by omega), uf_n (by omega), y1 193 (by omega) (by omega) (by omega) (by omega) (by omega), fB' 193 (by omega) (by omega)]) ?_
            · rw [up_r (by omega)]
              by_cases h190 : r = 190
              · rw [h190, uf_n (by omega), uf_e]
              · by_cases h195 : r = 195
                · rw [h195, uf_e]
                · rw [uf_n h195, uf_n h190, y1 r (by omega) h190 h195 (by omega) (by omega), fB' r (by omega) (by omega)]
            · by_cases h23 : i = 23
              · rw [h23, up_e]
              · rw [up_n (by omega), uf_n2 (by omega), uf_n2 (by omega), y2 i (by omega) h23, fB2 i (by omega)]
            · exact gbk cX _ x1 x6 x7 x8 x9 x10 (by rw [up_n (by omega), uf_n2 (by omega), uf_n2 (by omega)]; exact y38) (by rw [up_n (by omega), uf_n2 (by omega), uf_n2 (by omega)]; exact y50) (by rw [up_n (by omega), uf_n2 (by omega), uf_n2 (by omega)]; exact y51) (by rw [up_n (by omega), uf_n2 (by omega), uf_n2 (by omega)]; exact y52) (by rw [up_n (by omega), uf_n2 (by omega), uf_n2 (by omega)]; exact y53) (by rw [up_r (by omega), uf_n (by omega), uf_n (by omega), y1 200 (by omega) (by omega) (by omega) (by omega) (by omega), fB' 200 (by omega) (by omega)]) (by rw [up_r (by omega), uf_n (by omega), uf_n (by omega), y1 201 (by omega) (by omega) (by omega) (by omega) (by omega), fB' 201 (by omega) (by omega)])
          generalize hT : q_up (q_uf (q_uf cY 190 (cB 190)) 195 (cB 195)) 188 23 (cB 188 23) = cT at g2
          have T23 : cT 188 23 = cB 188 23 := by rw [← hT, up_e]
          have T190 : cT 190 = cB 190 := by rw [← hT, up_r (by omega), uf_n (by omega), uf_e]
          have T195 : cT 195 = cB 195 := by rw [← hT, up_r (by omega), uf_e]
          have Tf : ∀ i, ¬ i = 23 → cT 188 i = cY 188 i := fun i hi => by rw [← hT, up_n (by omega), uf_n2 (by omega), uf_n2 (by omega)]
          have Tr : ∀ r, ¬ r = 188 → ¬ r = 190 → ¬ r = 195 → cT r = cY r := fun r h1 h2 h3 => by rw [← hT, up_r h1, uf_n h3, uf_n h2]
          clear hT
          refine x_keep hG g2 (fun cX1 kp _ l27 => ?_)
          refine b114_92 hG ?_
          have hn := g2.2.2.2.2.1.1
          have hb := wsl_b (nx := cX 53 2) ⟨hn.2.2.2.1, hn.2.2.2.2⟩
          refine c_copyLife hG lf27 lf35 (by omega) (fun cX2 f3 l3 => ?_)
          have l35' : LR cX2 27 p.2.2 := l3 p.2.2 pg1.1 (LR_fr l35 (fun r p q => kp.1 r (by omega) (by omega)))
          have z7 : cX2 120 7 = p.1 := by rw [f3 120 (by omega), kp.1 120 (by omega) (by omega)]; exact x7
          have z8 : cX2 120 8 = p.2.1 := by rw [f3 120 (by omega), kp.1 120 (by omega) (by omega)]; exact x8
          have fin : GR cX2 cY := by
            have e : q_uf (q_uf cY 190 (cB 190)) 190 p.2.2 = cY := by
              rw [uf_uf]; exact uf_id2 y190.symm
            have ga := GR_act (cB1 := q_uf cY 190 (cB 190)) (S' := p.2.2) g2 (cT := cT) kp f3 (fun _ _ => rfl) (fun _ _ => rfl) ⟨fun r h1 h2 => ?_, fun i h1 => ?_, ?_, fun q => ?_⟩ (by rw [T190, ← S190]; exact pg2) pg1 l35'
            · rw [e] at ga; exact ga
            · by_cases h190 : r = 190
              · rw [h190, uf_e, T190]
              · rw [uf_n h190, Tr r h1 h190 h2]
            · rw [uf_n (by omega), Tf i h1]
            · rw [uf_n (by omega), y23, T23, fB2 23 (by omega)]
            · rw [uf_n (by omega), y195, T23, T190, T195, fB2 23 (by omega), S190, fB' 195 (by omega) (by omega)]
          refine b114_103 hG (z7) (by intros; omega) (z8) ?_ ?_
          · intro q
            refine ⟨cX2, cY, rfl, rfl, fun r hr => by rw [f3 r (by omega), kp.1 r (by omega) (by omega), x1 r (by omega) (by omega) (by omega), fA.1 r (by omega) (by omega) (by omega)], fin, _, rfl, by rw [if_neg q], by omega⟩
          · intro q
            refine ⟨cX2, cY, rfl, rfl, fun r hr => by rw [f3 r (by omega), kp.1 r (by omega) (by omega), x1 r (by omega) (by omega) (by omega), fA.1 r (by omega) (by omega) (by omega)], fin, _, rfl, by rw [if_pos q], by omega⟩
    refine b114_0 hG (by intros; omega) ?_ ?_ ?_
    · intro q; exact main
    · intro q q2; exact main
    · intro q q2; omega
  · refine op_q (v := -1000) h (by omega) ?_ ?_
    · intro Q hz
      generalize hc : cA = c at *
      refine b114_0 hG (by intros; omega) ?_ ?_ ?_
      · intro q; omega
      · intro q q2; omega
      · intro q q2; exact hz
    · intro Q hz
      generalize hc : cB = c at *
      refine b250_0 hG ?_
      refine r_isIn hG h1 (by omega) (by omega) ?_
      rw [if_neg (by omega)]
      refine b250_11 hG (by intros; omega) ?_ ?_
      · intro q; omega
      · intro q; exact hz
end SPbu
