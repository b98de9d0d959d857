section SPom
variable {d d1 d2 r n0 kx km : Nat} {ax : List AV} {G : GG} {c c' cA cB cA0 cB0 cA' cB' cA1 cB1 : CC} {Q : Option AV → HH → Prop} {v v1 v2 N K g k p len most stop a b w w' to x y z m M s : Int} {j i' n : Nat} {B f fS : Int → Int} {S H old : SS}
theorem r_offClr (hG : Shp G) (hz : ∀ c', (∀ r, ¬ r = 191 → c' r = c r) → (∀ q, 0 ≤ q → q < 168 → c' 191 q = 0) → TM d 172 [aR 188] (G, c') (fun r h' => T (d + 1) 185 53 [some (aR 188), none] (r.toList ++ []) h' (QM Q))) : T (d + 1) 185 29 [some (aR 188), some (aI 0)] [] (G, c) (QM Q) := by
  have key : ∀ i, 0 ≤ i → i ≤ 168 → ∀ c2 : CC, (∀ r, ¬ r = 191 → c2 r = c r) → (∀ q, 0 ≤ q → q < i → c2 191 q = 0) → T (d + 1) 185 29 [some (aR 188), some (aI i)] [] (G, c2) (QM Q) := by
    refine int_ind ?_ ?_
    · intro c2 g1 g2
      refine b185_29 hG TM_eqo (by intros; omega) ?_ (by intros; omega) (by intros; omega) ?_
      · intro q; exact hz c2 g1 g2
      · intro q; omega
    · intro i q1 q2 ih c2 g1 g2
      refine b185_29 hG TM_eqo (by intros; omega) ?_ (by intros; omega) (by intros; omega) ?_
      · intro q; omega
      · intro q
        refine ih _ (fun r h1 => (up_r h1).trans (g1 r h1)) (fun q h1 h2 => ?_)
        by_cases hq : q = i
        · rw [hq]; exact up_e
        · rw [up_n (by omega)]; exact g2 q h1 (by omega)
  exact key 0 (by omega) (by omega) c (fun _ _ => rfl) (fun q h1 h2 => by omega)
theorem D_init (z0 : cA 18 0 = 0) (z1 : cA 18 1 = 0) (z2 : cA 18 2 = -1) (z23 : ∀ i, 0 ≤ i → i < 36 → cA 23 i = -1) (z26 : ∀ i, 0 ≤ i → i < 64 → cA 26 i = 0) (zh : ∀ q, 0 ≤ q → q < 168 → cB 191 q = 0) (z20 : cB 188 20 = 0) : DrR cA cB := by
  have b0 : ∀ i : Fin 8, bt 0 (i.val : Int) = 0 := by decide +kernel
  refine ⟨?_, ?_, fun i h1 h2 => ?_, fun i h1 h2 => ?_, fun i h1 h2 => ?_, ?_, fun i h1 h2 => ?_, fun x y h1 h2 h3 h4 => ?_, fun i h1 h2 => ?_, fun x y h1 h2 h3 h4 h5 => ?_⟩
  · rw [zh 0 (by omega) (by omega), zh 1 (by omega) (by omega)]; omega
  · rw [zh 2 (by omega) (by omega)]; omega
  · rw [zh 0 (by omega) (by omega)] at h2; omega
  · rw [zh 1 (by omega) (by omega)] at h2; omega
  · rw [zh (51 + i) (by omega) (by omega), zh (59 + i) (by omega) (by omega), zh 0 (by omega) (by omega), zh 167 (by omega) (by omega), zh 1 (by omega) (by omega)]
    have := b0 ⟨i.toNat, by omega⟩
    simp only [show ((i.toNat : Nat) : Int) = i by omega] at this
    rw [this]
    omega
  · rw [zh 167 (by omega) (by omega)]; omega
  · rw [zh (131 + i) (by omega) (by omega), zh (15 + i) (by omega) (by omega), z23 i h1 h2]; omega
  · rw [zh (15 + 6 * x + y) (by omega) (by omega), zh (15 + 6 * y + x) (by omega) (by omega), zh (131 + 6 * x + y) (by omega) (by omega), zh (131 + 6 * y + x) (by omega) (by omega)]
    exact ⟨rfl, rfl⟩
  · rw [zh (67 + i) (by omega) (by omega), z26 i h1 h2]; omega
  · exact zh (67 + 8 * x + y) (by omega) (by omega)
theorem of_RR18 (D : DrR cA cB) (hS : ∀ k, 0 ≤ k → k < 514 → S k = of4 (cB 191) old 64 k) (f1 : ∀ r, ¬ r = 18 → ¬ r = 23 → ¬ r = 24 → c' r = cA r) (e0 : c' 18 0 = cB 191 0) (e1 : c' 18 1 = cB 191 1) (e2 : c' 18 2 = (if cA 18 2 < 0 then 0 else cA 18 2)) (e3 : ∀ i, 0 ≤ i → i < 36 → c' 23 i = if cA 23 i < 0 then 0 else cA 23 i) (e4 : ∀ i, 0 ≤ i → i < cB 191 1 → c' 24 i = if cA 24 i = 0 then q_shl 1 (cB 191 0) - 1 else cA 24 i) : RR c' 18 S := by
  obtain ⟨a1, a2, a3, a4, a5, a6, a7, a8, a9, a10⟩ := D
  have lo : ∀ k, 0 ≤ k → k < 168 → (k < 51 ∨ 59 ≤ k) → S k = cB 191 k := fun k h1 h2 h3 => by rw [hS k h1 (by omega), of4_lo h1 h2 h3]
  have g0 := lo 0 (by omega) (by omega) (by omega)
  have g1 := lo 1 (by omega) (by omega) (by omega)
  have g2 := lo 2 (by omega) (by omega) (by omega)
  refine ⟨⟨by rw [e0, g0], by rw [e1, g1], ?_⟩, fun k h1 h2 => ?_, fun k h1 h2 => ?_, fun s h1 h2 => ?_, fun i h1 h2 => ?_⟩
  · rw [e2, g2]
    split <;> omega
  · rw [g0] at h2
    have := a3 k h1 h2
    rw [lo (3 + k) (by omega) (by omega) (by omega), lo (9 + k) (by omega) (by omega) (by omega)]
    show c' 21 k = _ ∧ c' 22 k = _
    rw [f1 21 (by omega) (by omega) (by omega), f1 22 (by omega) (by omega) (by omega)]
    exact ⟨this.2.1.1, this.2.2.1⟩
  · rw [lo (15 + k) (by omega) (by omega) (by omega)]
    show c' 23 k = _
    rw [e3 k h1 h2]
    have := a7 k h1 h2
    split <;> omega
  · rw [g1] at h2
    have := a4 s h1 h2
    rw [lo (59 + s) (by omega) (by omega) (by omega), hS (51 + s) (by omega) (by omega), of4_51 h1 (by omega)]
    show c' 24 s = _ ∧ c' 25 s = _
    rw [e4 s h1 h2, f1 25 (by omega) (by omega) (by omega), this.2.1]
    exact ⟨rfl, this.2.2⟩
  · rw [lo (67 + i) (by omega) (by omega) (by omega)]
    show c' 26 i = _
    rw [f1 26 (by omega) (by omega) (by omega)]
    exact (a9 i h1 h2).1
theorem op_office (hG : Shp G) (h : GR cA cB) : OP G (d + 50) 112 185 [] cA cB := by
  refine OP_lk ?_
  obtain ⟨⟨t1, t2, t3⟩, t4, t5, t6⟩ := h.2.2.2.1
  obtain ⟨len, hlen⟩ : ∃ len, len = cB 188 2 := ⟨_, rfl⟩
  obtain ⟨stop, hst⟩ : ∃ stop, stop = if 900 < len then 900 else len := ⟨_, rfl⟩
  rw [← hlen] at t1 t2 t3 t4
  have hW : Wt (cA 3) len 900 stop := ⟨⟨t2, t3⟩, ⟨by omega, by omega⟩, hst, by rw [hst]; split <;> omega, fun i h1 h2 => (t4 i h1 h2).2.1 |> fun x => ⟨x, (t4 i h1 h2).2.2.1⟩⟩
  refine b112_0 hG ?_
  refine b59_0 hG ?_
  refine c_clear18 hG (fun cA1 f1 z0 z1 z2 z23 z26 => ?_)
  refine b59_7 hG ?_
  refine c_begin hG (B := cA 3) (len := len) (stop := stop) (fun i p q => ⟨by rw [f1 3 (by omega) (by omega) (by omega)], hW.2.2.2.2 i p q⟩) (by rw [f1 2 (by omega) (by omega) (by omega)]; exact t1) ⟨t2, t3⟩ (fun i p q => by rw [f1 4 (by omega) (by omega) (by omega)]; exact (t6 i p q).1) hst (by omega) (fun cA2 f2 tA e9 e14 => ?_)
  refine b59_17 hG ?_
  refine T_Qm (fun r1 y1 x => sw x) ?_
  refine sw ?_
  refine b185_0 hG ?_
  refine r_taken hG (fun cB1 tk => ?_)
  obtain ⟨k1, k2, k3, k4, k5, k6⟩ := tk
  refine b185_12 hG ?_
  refine r_offClr hG (fun cB2 g1 g2 => ?_)
  have q188 : ∀ i, ¬ i = 15 → ¬ i = 19 → ¬ i = 20 → cB2 188 i = cB1 188 i := fun i h1 h2 h3 => by rw [g1 188 (by omega), up_n (by omega), up_n (by omega), up_n (by omega)]
  have qr : ∀ r, ¬ r = 188 → ¬ r = 191 → cB2 r = cB r := fun r h1 h2 => by rw [g1 r h2, up_r h1, up_r h1, up_r h1, k1 r h1]
  have hBy : ∀ i, 0 ≤ i → i < len → q_and (cB2 189 i) 255 = cA 3 i ∧ 0 ≤ cA 3 i ∧ cA 3 i ≤ 255 := fun i p q => by
    rw [qr 189 (by omega) (by omega)]
    exact ⟨(t4 i p q).1.symm, hW.2.2.2.2 i p q⟩
  refine r_next hG (B := cA 3) (len := len) (most := 900) (stop := stop) (p := 0) hBy (by rw [q188 3 (by omega) (by omega) (by omega), k4, hlen]) (by rw [q188 5 (by omega) (by omega) (by omega)]; exact k6) ⟨t2, t3⟩ (by omega) hst (by omega) (by rw [q188 4 (by omega) (by omega) (by omega)]; exact k5) (fun cB3 m1 m2 => ?_)
  refine sw ?_
  have rB3 : ∀ r, ¬ r = 188 → ¬ r = 191 → cB3 r = cB r := fun r h1 h2 => (m1.1 r h1).trans (qr r h1 h2)
  have S0 : StO cA2 cB3 (cA 3) len 900 stop 0 cA2 cB3 := by
    refine ⟨tA, ⟨e9, e14, ?_⟩, ⟨m2, fun i p q => by rw [m1.1 189 (by omega)]; exact hBy i p q, ?_, ?_⟩, FAo_refl, FBo_refl, ?_, fun i p q => by rw [rB3 194 (by omega) (by omega)]; exact (t6 i p q).2⟩
    · rw [m1.2 15 (by omega) (by omega) (by omega) (by omega) (by omega) (by omega), g1 188 (by omega), up_n (by omega), up_n (by omega), up_e]
    · rw [m1.2 3 (by omega) (by omega) (by omega) (by omega) (by omega) (by omega), q188 3 (by omega) (by omega) (by omega), k4, hlen]
    · rw [m1.2 5 (by omega) (by omega) (by omega) (by omega) (by omega) (by omega), q188 5 (by omega) (by omega) (by omega)]; exact k6
    · refine D_init (by rw [f2.1 18 (by omega) (by omega) (by omega) (by omega) (by omega)]; exact z0) (by rw [f2.1 18 (by omega) (by omega) (by omega) (by omega) (by omega)]; exact z1) (by rw [f2.1 18 (by omega) (by omega) (by omega) (by omega) (by omega)]; exact z2) (fun i p q => by rw [f2.1 23 (by omega) (by omega) (by omega) (by omega) (by omega)]; exact z23 i p q) (fun i p q => by rw [f2.1 26 (by omega) (by omega) (by omega) (by omega) (by omega)]; exact z26 i p q) (fun i p q => by rw [m1.1 191 (by omega)]; exact g2 i p q) ?_
      rw [m1.2 20 (by omega) (by omega) (by omega) (by omega) (by omega) (by omega), g1 188 (by omega), up_e]
  have fA0 : FAo cA cA2 := ⟨fun r h1 h2 h3 => by rw [f2.1 r h1 (by omega) (by omega) (by omega) (by omega), f1 r (by omega) (by omega) (by omega)], fun i h1 => by rw [f2.2 i (by omega), f1 2 (by omega) (by omega) (by omega)]⟩
  have fB0 : FBx cB1 cB3 := ⟨fun r h1 h2 h3 => by rw [rB3 r h1 h2, k1 r h1], fun i h1 h2 => by rw [rB3 193 (by omega) (by omega), k1 193 (by omega)], fun i h1 => by rw [m1.2 i (by omega) (by omega) (by omega) (by omega) (by omega) (by omega), q188 i (by omega) (by omega) (by omega)]⟩
  have e19 : cB3 188 19 = 0 := by rw [m1.2 19 (by omega) (by omega) (by omega) (by omega) (by omega) (by omega), g1 188 (by omega), up_n (by omega), up_e]
  clear m1 m2 g1 g2 q188 qr hBy rB3 tA e9 e14 f2 z0 z1 z2 z23 z26 f1
  have p0 := PP_0 (B := cA 3) (len := len) (stop := stop) 0 hW.2.2.2.1.1
  have p1 : PP (cA 3) len stop 0 ≤ 940 := by
    have := skE_b (B := cA 3) (stop := stop) (i := 0)
    have e : PP (cA 3) len stop 0 = skE (cA 3) stop 0 := rfl
    have := hW.2.2.2.1
    omega
  refine ln_loop hG hW rfl (cA0 := cA) (cB0 := cB1) ?_ ?_ 942 0 0 cA2 cB3 (by omega) S0 fA0 fB0 e19 (by omega) (by omega) p1
  · intro cA3 cB4 fA fB hx
    have hx2 := hx.2.1
    have hx4 := hx.2.2.2
    have a11 : (q_up cA3 2 1 0) 2 11 = cB4 188 16 := (up_n (by omega)).trans hx.2.2.1
    refine b112_7 hG (by intros; omega) ?_ (a11) ?_
    · intro q; omega
    · intro q
      refine ⟨_, cB4, rfl, rfl, fun r hr => by rw [up_r (by omega)]; exact fA.1 r (by omega) (by omega) (by omega), GR_flt h (fun r hr => by rw [up_r (by omega)]; exact fA.1 r (by omega) (by omega) (by omega)) (fun i _ _ => by rw [up_r (by omega), fA.1 120 (by omega) (by omega) (by omega)]) up_e ((up_n (by omega)).trans hx.1) (by omega) (fun r hr => by rw [fB.1 r (by omega) (by omega) (by omega), k1 r (by omega)]) (fun i hi => by rw [fB.2.2 i (by omega), k2 i (by omega) (by omega) (by omega) (by omega) (by omega)]) (by rw [fB.2.2 2 (by omega)]; exact k3) (fun i p q => by rw [fB.2.1 i p q, k1 193 (by omega)]), _, rfl, rfl, by omega⟩
  · intro v j cA3 cB4 fA fB S1 e19 v0 v1 hml
    have D := S1.2.2.2.2.2.1
    have hb := D.1
    obtain ⟨x1, x2, x3, x4, x5, x6, x7, -⟩ := D
    refine b59_43 hG TM_eqo (by intros; omega) ?_ ?_
    · intro q
      refine c_fill18 hG hb.1 hb.2.1 rfl ⟨hb.2.2.1, hb.2.2.2.1⟩ hb.2.2.2.2 (by omega) (fun i p q => by have := x7 i p q; omega) (fun i p q => by rw [(x4 i p q).2.1]; have := x5 i p (by omega); omega) (fun cA4 f4 y0 y1 y2 y3 y4 => ?_)
      refine b59_55 hG ?_
      refine r_offEnd hG (fun i p q => by have := x5 i p q; omega) (fun cB5 n1 n2 n3 n4 n5 => ?_)
      rw [e19]
      have rr := of_RR18 (S := cB5 190) (old := cB4 190) S1.2.2.2.2.2.1 (fun k _ _ => n4 k) f4 y0 y1 y2 y3 y4
      have hGS := of_GS (S := cB5 190) (old := cB4 190) S1.2.2.2.2.2.1 (funext n4)
      have fA4 : ∀ r, ¬ r = 2 → ¬ (5 ≤ r ∧ r ≤ 8) → ¬ (18 ≤ r ∧ r ≤ 26) → cA4 r = cA r := fun r h1 h2 h3 => by rw [f4 r (by omega) (by omega) (by omega), fA.1 r h1 h2 h3]
      have e14 : cA4 2 14 = 0 := by rw [f4 2 (by omega) (by omega) (by omega)]; exact S1.2.1.2.1
      have e15 : cB5 188 15 = 0 := by rw [n2 15 (by omega)]; exact S1.2.1.2.2
      have nmK : ∀ i, 0 ≤ i → i < cB4 191 0 → NmR (cA4 19 i) (cB5 193 i) := fun i p q => by
        rw [f4 19 (by omega) (by omega) (by omega), n5 i p (by omega)]; exact (x3 i p q).1
      have nmS : ∀ i, 0 ≤ i → i < cB4 191 1 → NmR (cA4 20 i) (cB5 193 (6 + i)) := fun i p q => by
        rw [f4 20 (by omega) (by omega) (by omega), n5 (6 + i) (by omega) (by omega), show 14 + (6 + i) = 20 + i by omega]; exact (x4 i p q).1
      have s0 : cB5 190 0 = cB4 191 0 := by rw [n4, of4_lo (by omega) (by omega) (by omega)]
      have s1 : cB5 190 1 = cB4 191 1 := by rw [n4, of4_lo (by omega) (by omega) (by omega)]
      have sz : ∀ k, 168 ≤ k → k < 514 → (k < 205 ∨ 269 ≤ k) → cB5 190 k = 0 := fun k h1 h2 h3 => by rw [n4, of4_0 h1 h2 h3]
      have so : ∀ i, 0 ≤ i → i < 64 → cB5 190 (205 + i) = cB5 190 (67 + i) := fun i h1 h2 => by rw [n4, n4, of4_d h1 h2, of4_lo (by omega) (by omega) (by omega)]
      clear x1 x2 x3 x4 x5 x6 x7 y0 y1 y2 y3 y4 f4
      refine b112_7 hG (by intros; omega) ?_ (up_n (by omega)) ?_
      · intro q2
        refine c_copyRules hG (by unfold Ruls; decide) (by unfold Ruls; decide) (by omega) (fun cA5 f5 r5 m5 => ?_)
        have rr9 : RR cA5 9 (cB5 190) := r5 _ hGS.1 (RR_fr rr (fun r p q => up_r (by omega)))
        refine b112_42 hG ?_
        refine c_lifeBegin hG hGS.1 rr9 (fun i p q => sz i p (by omega) (by omega)) (fun i p q => sz i (by omega) (by omega) (by omega)) so (fun cA6 f6 l6 => ?_)
        refine b112_49 hG ?_
        refine b80_0 hG (by unfold Sent; decide) ?_
        refine b112_56 hG TM_eqo ?_
        refine b13_0 hG ?_
        refine b112_63 hG ?_
        generalize hc : q_up (q_up (q_up (q_up cA6 43 7 0) 43 8 0) 43 6 0) 53 1 0 = cF
        have w1 : ∀ r, ¬ r = 43 → ¬ r = 53 → cF r = cA6 r := fun r h1 h2 => by rw [← hc, up_r h2, up_r h1, up_r h1, up_r h1]
        have w2 : cF 43 7 = 0 := by rw [← hc, up_n (by omega), up_n (by omega), up_n (by omega), up_e]
        have w3 : cF 53 1 = 0 := by rw [← hc, up_e]
        have w4 : cF 53 2 = cA6 53 2 := by rw [← hc, up_n (by omega), up_n (by omega), up_n (by omega), up_n (by omega)]
        clear hc
        have w5 : ∀ r, (r < 9 ∨ 34 < r) → ¬ r = 43 → ¬ r = 53 → cF r = (q_up cA4 2 1 0) r := fun r h1 h2 h3 => by rw [w1 r h2 h3, f6 r (by omega), f5 r (by omega)]
        have w6 : ∀ r, ¬ r = 2 → ¬ (5 ≤ r ∧ r ≤ 8) → (r < 9 ∨ 34 < r) → ¬ r = 43 → ¬ r = 53 → cF r = cA r := fun r g1 g2 h1 h2 h3 => by rw [w5 r h1 h2 h3, up_r g1, fA4 r g1 g2 (by omega)]
        have b1 : ∀ r, ¬ r = 188 → ¬ r = 190 → ¬ r = 191 → ¬ r = 193 → cB5 r = cB r := fun r h1 h2 h3 h4 => by rw [n1 r h1 h2 h4, fB.1 r h1 h3 h4, k1 r h1]
        have b2 : ∀ i, i = 27 ∨ i = 31 ∨ i = 38 → cB5 188 i = cB 188 i := fun i hi => by rw [n2 i (by omega), fB.2.2 i (by omega), k2 i (by omega) (by omega) (by omega) (by omega) (by omega)]
        have e2 : cB5 188 2 = 0 := by rw [n2 2 (by omega), fB.2.2 2 (by omega)]; exact k3
        have h53 : cF 53 2 = cA 53 2 := by rw [w4, f6 53 (by omega), f5 53 (by omega), up_r (by omega), fA4 53 (by omega) (by omega) (by omega)]
        obtain ⟨r1, r2, r3, r4, r5', r6, r7, r8, r9⟩ := h
        have rrF : RR cF 9 (cB5 190) := RR_fr rr9 (fun r p q => by rw [w1 r (by omega) (by omega), f6 r (by omega)])
        have lF : LR cF 27 (cB5 190) := LR_fr l6 (fun r p q => w1 r (by omega) (by omega))
        refine ⟨cF, cB5, rfl, rfl, fun r hr => w6 r (by omega) (by omega) (by omega) (by omega) (by omega), ⟨hGS, ⟨rrF, ⟨fun i p q => ?_, fun i p q => ?_⟩, Or.inl w2, fun _ => sz 333 (by omega) (by omega) (by omega), fun x => by rw [w2] at x; omega⟩, lF, ⟨⟨?_, by omega, by omega⟩, fun i p q => by omega, ⟨?_, by omega, by omega⟩, fun i p q => ?_⟩, ⟨⟨by rw [w3, n3], by omega, by omega, by rw [h53]; exact r5'.1.2.2.2.1, by rw [h53]; exact r5'.1.2.2.2.2⟩, fun j p q => by omega⟩, GM_fr r6 (w6 _ (by omega) (by omega) (by omega) (by omega) (by omega)) (b2 _ (by omega)) (b1 _ (by omega) (by omega) (by omega) (by omega)), GW_fr r7 (w6 _ (by omega) (by omega) (by omega) (by omega) (by omega)) (b2 _ (by omega)) (b1 _ (by omega) (by omega) (by omega) (by omega)), GB_fr r8 (fun i _ _ => by rw [w6 120 (by omega) (by omega) (by omega) (by omega) (by omega)]) (b2 _ (by omega)) (b1 _ (by omega) (by omega) (by omega) (by omega)) (w6 _ (by omega) (by omega) (by omega) (by omega) (by omega)) (w6 _ (by omega) (by omega) (by omega) (by omega) (by omega)) (b1 _ (by omega) (by omega) (by omega) (by omega)) (b1 _ (by omega) (by omega) (by omega) (by omega)), GI_fr r9 (fun r p q => w6 r (by omega) (by omega) (by omega) (by omega) (by omega)) (b1 _ (by omega) (by omega) (by omega) (by omega)) (b1 _ (by omega) (by omega) (by omega) (by omega)) (b1 _ (by omega) (by omega) (by omega) (by omega))⟩, v, rfl, rfl, by omega⟩
        · rw [s0] at q
          show NmR (cF 10 i) (cB5 193 (0 + i))
          rw [w1 10 (by omega) (by omega), f6 10 (by omega), show 0 + i = i by omega]
          have e := m5.1 i p (by omega)
          rw [show cA5 10 i = cA5 (9 + 1) i from rfl, e]
          show NmR ((q_up cA4 2 1 0) 19 i) _
          rw [up_r (by omega)]
          exact nmK i p q
        · rw [s1] at q
          show NmR (cF 11 i) (cB5 193 (0 + 6 + i))
          rw [w1 11 (by omega) (by omega), f6 11 (by omega), show 0 + 6 + i = 6 + i by omega]
          have e := m5.2 i p (by omega)
          rw [show cA5 11 i = cA5 (9 + 2) i from rfl, e]
          show NmR ((q_up cA4 2 1 0) 20 i) _
          rw [up_r (by omega)]
          exact nmS i p q
        · rw [w5 2 (by omega) (by omega) (by omega), up_e, e2]
        · rw [w5 2 (by omega) (by omega) (by omega), up_n (by omega), e14, e15]
        · rw [w6 4 (by omega) (by omega) (by omega) (by omega) (by omega), b1 194 (by omega) (by omega) (by omega) (by omega)]
          exact t6 i p q
      · intro q2; omega
    · intro q; omega
end SPom
