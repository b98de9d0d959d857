section SPm6
variable {d : Nat} {G : GG} {c c' : CC} {Q : Option AV → HH → Prop} {S X : SS} {i j k n g x y a b N q w o K m mm dd s lo : Int} {wh bd way : Int → Int}
def TbF (S : SS) (n : Int) (wh : Int → Int) (m : Int) (c : CC) (lo : Int) : Prop := (∀ i, lo ≤ i → i < m → ∀ k, 0 ≤ k → k < S 0 → c 126 (i * 6 + k) = addW S (wh i) k n) ∧ ∀ i, lo ≤ i → i < m → ∀ j, 0 ≤ j → j < i → ∀ x y, 0 ≤ x → x < S 0 → 0 ≤ y → y < S 0 → c 127 ((j * 5 + i) * 36 + (x * 6 + y)) = togV S n (wh j) (wh i) x y
def BnAt (S : SS) (n : Int) (wh : Int → Int) (bd : Int → Int) (i j : Int) : Prop := ∃ (A : Int) (R : Int → Int), (0 ≤ A ∧ A ≤ 30000) ∧ (∀ k, 0 ≤ k → k < S 0 → addW S (wh i) k n ≤ A) ∧ (∀ l, 0 ≤ l → l < j → (0 ≤ R l ∧ R l ≤ 3000) ∧ ∀ x y, 0 ≤ x → x < S 0 → 0 ≤ y → y < S 0 → togV S n (wh l) (wh i) x y ≤ R l) ∧ bd i = bd (i + 1) + A + sumI R j
theorem BnAt_fr {bd' : Int → Int} (h : BnAt S n wh bd i j) (e1 : bd' i = bd i) (e2 : bd' (i + 1) = bd (i + 1)) : BnAt S n wh bd' i j := by
  obtain ⟨A, R, h1, h2, h3, h4⟩ := h
  exact ⟨A, R, h1, h2, h3, by rw [e1, e2]; exact h4⟩
theorem c_fillTables (hG : Shp G) (h : MsL c S) (hw : Wait S wh m) (hn : 1 ≤ n ∧ n ≤ 30) (em : c 124 3 = m) (ew : ∀ j, 0 ≤ j → j < m → c 125 j = wh j) (hz : ∀ c', (∀ q, ¬ q = 126 → ¬ q = 127 → ¬ q = 128 → c' q = c q) → TbF S n wh m c' 0 → BndOk S n wh m (c' 128) → Q none (G, c')) : TM (d + 4) 46 [aR 124, aI n] (G, c) Q := by
  have hm := hw.1
  have fr : ∀ c2 : CC, (∀ q, ¬ q = 126 → ¬ q = 127 → ¬ q = 128 → c2 q = c q) → MsL c2 S ∧ ∀ j, 0 ≤ j → j < m → c2 125 j = wh j := fun c2 f => ⟨MsL_fr h (fun r hr => f r (by omega) (by omega) (by omega)), fun j p1 p2 => by rw [f 125 (by omega) (by omega) (by omega)]; exact ew j p1 p2⟩
  have key : ∀ (t : Nat) (i : Int) (c2 : CC), (i + 1).toNat = t → -1 ≤ i → i < m → (∀ q, ¬ q = 126 → ¬ q = 127 → ¬ q = 128 → c2 q = c q) → TbF S n wh m c2 (i + 1) → c2 128 m = 0 → (∀ l, i + 1 ≤ l → l < m → BnAt S n wh (c2 128) l l) → T (d + 4) 46 17 [some (aR 124), some (aI n), some (aI i), none] [] (G, c2) (QM Q) := by
    intro t
    induction t with
    | zero =>
      intro i c2 g1 g2 g3 f1 f2 f3 f4
      have e : i + 1 = 0 := by omega
      rw [e] at f2 f4
      refine b46_17 hG (by intros; omega) ?_ (by intros; omega) (by intros; omega) rfl ?_
      · intro p; exact hz c2 f1 f2 ⟨f3, fun l p1 p2 => f4 l p1 p2⟩
      · intro p; omega
    | succ t ih =>
      intro i c2 g1 g2 g3 f1 f2 f3 f4
      obtain ⟨fa, fb⟩ := fr c2 f1
      refine b46_17 hG (by intros; omega) ?_ (by intros; omega) (by intros; omega) rfl ?_
      · intro p; omega
      · intro p
        refine c_fillAlone hG fa hw hn ⟨by omega, g3⟩ fb ?_
        intro c3 r k1 k2 k3 k4 k5
        refine b46_40 hG (by intros; omega) (by intros; omega) ?_
        have a1 : ∀ q, ¬ q = 126 → ¬ q = 127 → ¬ q = 128 → (q_up c3 128 i (c2 128 (i + 1) + r)) q = c q := fun q h1 h2 h3 => by rw [up_r h3, k1 q h1]; exact f1 q h1 h2 h3
        have inner : ∀ j, 0 ≤ j → j ≤ i → ∀ c4 : CC, (∀ q, ¬ q = 126 → ¬ q = 127 → ¬ q = 128 → c4 q = c q) → TbF S n wh m c4 (i + 1) → (∀ k, 0 ≤ k → k < S 0 → c4 126 (i * 6 + k) = addW S (wh i) k n) → (∀ l, 0 ≤ l → l < j → ∀ x y, 0 ≤ x → x < S 0 → 0 ≤ y → y < S 0 → c4 127 ((l * 5 + i) * 36 + (x * 6 + y)) = togV S n (wh l) (wh i) x y) → c4 128 m = 0 → (∀ l, i + 1 ≤ l → l < m → BnAt S n wh (c4 128) l l) → BnAt S n wh (c4 128) i j → T (d + 4) 46 44 [some (aR 124), some (aI n), some (aI i), some (aI j)] [] (G, c4) (QM Q) := by
          refine int_ind ?_ ?_
          · intro c4 j1 j2 j3 j4 j5 j6 j7
            refine b46_44 hG TM_eqo (by intros; omega) (by intros; omega) ?_ (by intros; omega) (by intros; omega) rfl ?_
            · intro p
              refine ih (i + -1) c4 (by omega) (by omega) (by omega) j1 ?_ j5 ?_
              · refine ⟨fun l p1 p2 k p3 p4 => ?_, fun l p1 p2 j p3 p4 x y p5 p6 p7 p8 => ?_⟩
                · by_cases hl : l = i
                  · rw [hl]; exact j3 k p3 p4
                  · exact j2.1 l (by omega) p2 k p3 p4
                · by_cases hl : l = i
                  · rw [hl] at p4 ⊢; exact j4 j p3 p4 x y p5 p6 p7 p8
                  · exact j2.2 l (by omega) p2 j p3 p4 x y p5 p6 p7 p8
              · intro l p1 p2
                by_cases hl : l = i
                · rw [hl]; exact j7
                · exact j6 l (by omega) p2
            · intro p; omega
          · intro j q1 q2 ih2 c4 j1 j2 j3 j4 j5 j6 j7
            obtain ⟨ga, gb⟩ := fr c4 j1
            refine b46_44 hG TM_eqo (by intros; omega) (by intros; omega) ?_ (by intros; omega) (by intros; omega) rfl ?_
            · intro p; omega
            · intro p
              refine c_fillTog hG ga hw hn ⟨q1, p⟩ ⟨by omega, g3⟩ gb ?_
              intro c5 r5 m1 m2 m3 m4 m5
              refine b46_63 hG (by intros; omega) (by intros; omega) ?_
              have e8 : c5 128 = c4 128 := m1 128 (by omega)
              have e6 : c5 126 = c4 126 := m1 126 (by omega)
              refine ih2 _ (fun q h1 h2 h3 => by rw [up_r h3, m1 q h2]; exact j1 q h1 h2 h3) ?_ ?_ ?_ ?_ ?_ ?_
              · refine ⟨fun l p1 p2 k p3 p4 => ?_, fun l p1 p2 jj p3 p4 x y p5 p6 p7 p8 => ?_⟩
                · rw [up_r (by omega), e6]; exact j2.1 l p1 p2 k p3 p4
                · have g0 := h.1.1
                  rw [up_r (by omega), m2 _ (by omega)]
                  exact j2.2 l p1 p2 jj p3 p4 x y p5 p6 p7 p8
              · intro k p3 p4
                rw [up_r (by omega), e6]; exact j3 k p3 p4
              · intro l p1 p2 x y p5 p6 p7 p8
                rw [up_r (by omega)]
                have g0 := h.1.1
                by_cases hl : l = j
                · rw [hl]; exact m3 x y p5 p6 p7 p8
                · rw [m2 _ (by omega)]
                  exact j4 l p1 (by omega) x y p5 p6 p7 p8
              · rw [up_n (by omega), e8]; exact j5
              · intro l p1 p2
                refine BnAt_fr (j6 l p1 p2) ?_ ?_
                · rw [up_n (by omega), e8]
                · rw [up_n (by omega), e8]
              · obtain ⟨A, R, z1, z2, z3, z4⟩ := j7
                refine ⟨A, q_u1 R j r5, z1, z2, fun l p1 p2 => ?_, ?_⟩
                · by_cases hl : l = j
                  · rw [hl, u1_e]; exact ⟨m4, m5⟩
                  · rw [u1_n hl]; exact z3 l p1 (by omega)
                · rw [up_e, up_n (by omega), e8, sumI_s q1, u1_e, z4]
                  have e : sumI (q_u1 R j r5) j = sumI R j := sumI_c (fun l p1 p2 => u1_n (by omega))
                  rw [e]; omega
        have e8 : c3 128 = c2 128 := k1 128 (by omega)
        have e7 : c3 127 = c2 127 := k1 127 (by omega)
        have g0 := h.1.1
        refine inner 0 (by omega) (by omega) _ a1 ⟨fun l p1 p2 k p3 p4 => ?_, fun l p1 p2 jj p3 p4 x y p5 p6 p7 p8 => ?_⟩ (fun k p3 p4 => ?_) (fun l p1 p2 => by omega) ?_ (fun l p1 p2 => ?_) ?_
        · rw [up_r (by omega), k2 _ (by omega)]
          exact f2.1 l p1 p2 k p3 p4
        · rw [up_r (by omega), e7]
          exact f2.2 l p1 p2 jj p3 p4 x y p5 p6 p7 p8
        · rw [up_r (by omega)]; exact k3 k p3 p4
        · rw [up_n (by omega), e8]; exact f3
        · refine BnAt_fr (f4 l p1 p2) ?_ ?_
          · rw [up_n (by omega), e8]
          · rw [up_n (by omega), e8]
        · refine ⟨r, fun _ => 0, k4, k5, fun l p1 p2 => by omega, ?_⟩
          rw [up_e, up_n (by omega), e8, sumI_0 (by omega)]; omega
  refine b46_0 hG (em) (by intros; omega) (by intros; omega) ((up_n (by omega)).trans em) ?_
  exact key _ (m - 1) _ rfl (by omega) (by omega) (fun q h1 h2 h3 => by rw [up_r h3]) ⟨fun l p1 p2 => by omega, fun l p1 p2 => by omega⟩ up_e (fun l p1 p2 => by omega)
theorem c_added (hG : Shp G) (h : InvR S) (hw : Wait S wh m) (ht : TbF S n wh m c 0) (hN : NodeOk S n wh m i way X) (h0 : 0 ≤ i) (hi : i < m) (hk : 0 ≤ k) (hk2 : k < S 0) (e1 : ∀ j, 0 ≤ j → j < i → c 130 j = way j - 1) (hway : ∀ j, 0 ≤ j → j < i → 0 ≤ way j ∧ way j ≤ S 0) (hz : Q (some (aI (addW X (wh i) k n))) (G, c)) : TM (d + 3) 53 [aR 124, aI i, aI k] (G, c) Q := by
  have g := h.1
  have hm := hw.1
  have key : ∀ j, 0 ≤ j → j ≤ i → ∀ s, s = addW S (wh i) k n + sumI (fun l => if way l = 0 then 0 else togV S n (wh l) (wh i) (way l - 1) k) j → T (d + 3) 53 15 [some (aR 124), some (aI i), some (aI k), some (aI s), some (aI j)] [] (G, c) (QM Q) := by
    refine int_ind ?_ ?_
    · intro s hs
      rw [hN.2.2.2.2 i (Int.le_refl i) hi k hk hk2, ← hs] at hz
      refine b53_15 hG TM_eqo (by intros; omega) (by intros; omega) ?_ (by intros; omega) (by intros; omega) rfl (by intros; exfalso; omega) ?_ rfl ?_
      · intro p; exact hz
      · intro p; omega
      · intro p; omega
    · intro j p1 p2 ih s hs
      have ej := e1 j p1 p2
      have wj := hway j p1 p2
      refine b53_15 hG TM_eqo (by intros; omega) (by intros; omega) ?_ (by intros; omega) (by intros; omega) (ej) (by intros; omega) ?_ (ej) ?_
      · intro p; omega
      · intro p p3
        refine ih s ?_
        rw [sumI_s p1, if_pos (by omega), hs]; omega
      · intro p p3
        refine togA hG ?_
        have et := ht.2 i h0 hi j p1 p2 (way j - 1) k (by omega) (by omega) hk hk2
        refine b53_51 hG (by intros; omega) (by intros; omega) (et) ?_
        refine ih _ ?_
        rw [sumI_s p1, if_neg (by omega), hs]; omega
  refine b53_0 hG (by intros; omega) (by intros; omega) (ht.1 i h0 hi k hk hk2) ?_
  exact key 0 (by omega) h0 _ (by rw [sumI_0 (by omega)]; omega)
theorem c_keepWay (hG : Shp G) (hm : 0 ≤ m ∧ m ≤ 5) (hs : I32 s) (em : c 124 3 = m) (ew : ∀ j, 0 ≤ j → j < m → c 125 j = wh j) (hwh : ∀ j, 0 ≤ j → j < m → 0 ≤ wh j ∧ wh j < 8) (hz : ∀ c', (∀ q, ¬ q = 124 → ¬ q = 131 → c' q = c q) → (∀ q, ¬ q = 9 → c' 124 q = c 124 q) → c' 124 9 = s → (∀ q, (∀ j, 0 ≤ j → j < m → ¬ q = wh j) → c' 131 q = c 131 q) → (∀ j, 0 ≤ j → j < m → (∀ l, j < l → l < m → ¬ wh l = wh j) → c' 131 (wh j) = c 130 j) → Q none (G, c')) : TM d 54 [aR 124, aI s] (G, c) Q := by
  have key : ∀ j, 0 ≤ j → j ≤ m → ∀ c2 : CC, (∀ q, ¬ q = 124 → ¬ q = 131 → c2 q = c q) → (∀ q, ¬ q = 9 → c2 124 q = c 124 q) → c2 124 9 = s → (∀ q, (∀ l, 0 ≤ l → l < j → ¬ q = wh l) → c2 131 q = c 131 q) → (∀ i, 0 ≤ i → i < j → (∀ l, i < l → l < j → ¬ wh l = wh i) → c2 131 (wh i) = c 130 i) → T d 54 7 [some (aR 124), none, some (aI j)] [] (G, c2) (QM Q) := by
    refine int_ind ?_ ?_
    · intro c2 f1 f2 f3 f4 f5
      refine b54_7 hG ((f2 3 (by omega)).trans em) (by omega) (by omega) ?_ ?_ (by intros; exfalso; omega) (by intros; exfalso; omega) rfl rfl (by intros; exfalso; omega) (by intros; exfalso; omega) ?_
      · intro p; exact hz c2 f1 f2 f3 f4 f5
      · intro p p2; exact hz c2 f1 f2 f3 f4 f5
      · intro p; omega
    · intro j p1 p2 ih c2 f1 f2 f3 f4 f5
      have e5 : c2 125 j = wh j := by rw [f1 125 (by omega) (by omega)]; exact ew j p1 p2
      have e6 : c2 130 j = c 130 j := by rw [f1 130 (by omega) (by omega)]
      have wb := hwh j p1 p2
      refine b54_7 hG ((f2 3 (by omega)).trans em) (by intros; omega) (by intros; omega) ?_ ?_ (by intros; omega) (by intros; omega) (e5) (e6) (by intros; omega) (by intros; omega) ?_
      · intro p; omega
      · intro p p3; omega
      · intro p p3
        refine ih _ (fun q h1 h2 => by rw [up_r h2]; exact f1 q h1 h2) (fun q h1 => by rw [up_n (by omega)]; exact f2 q h1) (by rw [up_n (by omega)]; exact f3) (fun q hq => ?_) (fun i h1 h2 h3 => ?_)
        · rw [up_n (by have := hq j p1 (by omega); omega)]
          exact f4 q (fun l l1 l2 => hq l l1 (by omega))
        · by_cases hij : i = j
          · rw [hij, up_e]
          · rw [up_n (by have := h3 j (by omega) (by omega); omega)]
            exact f5 i h1 (by omega) (fun l l1 l2 => h3 l l1 (by omega))
  refine b54_0 hG TM_eqo ?_
  exact key 0 (by omega) (by omega) _ (fun q h1 h2 => by rw [up_r h1]) (fun q h1 => by rw [up_n (by omega)]) up_e (fun q _ => by rw [up_r (by omega)]) (fun i h1 h2 => by omega)
end SPm6
