section SPm5
variable {d : Nat} {G : GG} {c c' : CC} {Q : Option AV → HH → Prop} {S X : SS} {i j k n g x y a b N q w o K m mm dd s : Int} {wh bd : Int → Int}
theorem togA (hG : Shp G) (hz : Q (some (aI ((i * 5 + j) * 36 + (x * 6 + y)))) (G, c)) : TM (d + 1) 49 [aI i, aI j, aI x, aI y] (G, c) Q := by
  refine b49_0 hG TM_eqo ?_
  refine c_kindPair hG ?_
  refine b49_13 hG ?_
  exact hz
theorem c_fillAlone (hG : Shp G) (h : MsL c S) (hw : Wait S wh m) (hn : 1 ≤ n ∧ n ≤ 30) (hi : 0 ≤ i ∧ i < m) (ew : ∀ j, 0 ≤ j → j < m → c 125 j = wh j) (hz : ∀ c' r, (∀ q, ¬ q = 126 → c' q = c q) → (∀ q, (q < 6 * i ∨ 6 * i + 6 ≤ q) → c' 126 q = c 126 q) → (∀ k, 0 ≤ k → k < S 0 → c' 126 (i * 6 + k) = addW S (wh i) k n) → (0 ≤ r ∧ r ≤ 30000) → (∀ k, 0 ≤ k → k < S 0 → addW S (wh i) k n ≤ r) → Q (some (aI r)) (G, c')) : TM (d + 3) 47 [aR 124, aI i, aI n] (G, c) Q := by
  have g := h.1.1
  have e0 := h.2.2.1.1.1
  have e1 := h.2.2.1.1.2.1
  have hI := h.2.1
  have hR := h.1
  obtain ⟨w1, w2, w3⟩ := hw
  obtain ⟨a1, a2, a3⟩ := w2 i hi.1 hi.2
  have key : ∀ k, 0 ≤ k → k ≤ S 0 → ∀ (c2 : CC) (r : Int), (∀ q, ¬ q = 126 → c2 q = c q) → (∀ q, (q < 6 * i ∨ 6 * i + 6 ≤ q) → c2 126 q = c 126 q) → (∀ q, 0 ≤ q → q < k → c2 126 (i * 6 + q) = addW S (wh i) q n) → (0 ≤ r ∧ r ≤ 30000) → (∀ q, 0 ≤ q → q < k → addW S (wh i) q n ≤ r) → T (d + 3) 47 13 [some (aR 124), some (aI i), some (aI n), some (aI (wh i)), some (aI r), some (aI k), none, none, none, none] [] (G, c2) (QM Q) := by
    refine int_ind ?_ ?_
    · intro c2 r f1 f2 f3 f4 f5
      refine b47_13 hG ((congrFun (f1 9 (by omega)) 0).trans e0) (by intros; omega) (by intros; omega) ?_ ?_
      · intro p; exact hz c2 r f1 f2 f3 f4 f5
      · intro p; omega
    · intro k p1 p2 ih c2 r f1 f2 f3 f4 f5
      have h2 : MsL c2 S := MsL_fr h (fun r hr => f1 r (by omega))
      have lv := h2.2.2.2.1.2.1
      have ek := (h2.2.2.1.2.1 k p1 p2).1
      have rk := hR.2.1 k p1 p2
      have e1' := h2.2.2.1.1.2.1
      have inner : ∀ o, 0 ≤ o → o ≤ S 1 → ∀ s, s = sumI (fun o => if o = wh i then 0 else pvW S (wh i) k o n) o → 0 ≤ s → s ≤ 2970 * o → T (d + 3) 47 31 [some (aR 124), some (aI i), some (aI n), some (aI (wh i)), some (aI r), some (aI k), some (aI s), some (aI o), none, none] [] (G, c2) (QM Q) := by
        refine int_ind ?_ ?_
        · intro s hs s0 s1
          have es : s = addW S (wh i) k n := hs
          have ab := addW_b hR hI (w := wh i) (k := k) (n := n) ⟨a1, by omega⟩ ⟨p1, p2⟩ (by omega)
          refine b47_31 hG TM_eqo (e1') (by omega) (by omega) (by intros; omega) (by intros; omega) (by intros; omega) (by intros; omega) ?_ (by intros; exfalso; omega) (by intros; exfalso; omega) rfl (by intros; exfalso; omega) ?_ (by intros; exfalso; omega) (by intros; exfalso; omega) rfl rfl (by intros; exfalso; omega) (by intros; exfalso; omega) (by intros; exfalso; omega) (by intros; exfalso; omega) rfl ?_
          · intro p
            refine ih _ _ (fun q hq => by rw [up_r hq]; exact f1 q hq) (fun q hq => by rw [up_n (by omega)]; exact f2 q hq) (fun q h3 h4 => ?_) (by split <;> omega) (fun q h3 h4 => ?_)
            · by_cases hq : q = k
              · rw [hq, up_e]; exact es
              · rw [up_n (by omega)]; exact f3 q h3 (by omega)
            · by_cases hq : q = k
              · rw [hq, ← es]; split <;> omega
              · have := f5 q h3 (by omega)
                split <;> omega
          · intro p; omega
          · intro p; omega
        · intro o q1 q2 ih2 s hs s0 s1
          have lo := lv o q1 (by omega)
          have io := hI.1 o q1 (by omega)
          have pb := pvW_b hR hI (w := wh i) (k := k) (o := o) (n := n) ⟨a1, by omega⟩ ⟨p1, p2⟩ ⟨q1, by omega⟩ (by omega)
          refine b47_31 hG TM_eqo (e1') (by intros; omega) (by intros; omega) (by intros; omega) (by intros; omega) (by intros; omega) (by intros; omega) ?_ (by intros; omega) (by intros; omega) (lo.1) (by intros; omega) ?_ (by intros; omega) (by intros; omega) (ek) (lo.2.1) (by intros; omega) (by intros; omega) (by intros; omega) (by intros; rw [mn]; have := lsr_b (a := S (3 + k)) (b := S (181 + o)); unfold lsr; split <;> omega) (lo.1) ?_
          · intro p; omega
          · intro p p3
            refine ih2 s ?_ s0 (by omega)
            rw [sumI_s q1, hs]
            by_cases hw2 : o = wh i
            · rw [if_pos hw2]; omega
            · rw [if_neg hw2, show pvW S (wh i) k o n = 0 from if_pos (by omega)]; omega
          · intro p p3
            have hw2 : ¬ o = wh i := fun z => by rw [z] at p3; omega
            rw [mn, mn]
            refine c_kindPair hG ?_
            have mm := Ms_m h2 (a := k) (b := S (173 + o) - 1) (by omega) (by omega)
            have ml : I32 (lsr n (lsr (S (3 + k)) (S (181 + o)))) := by unfold lsr; split <;> (try split) <;> omega
            have sy := hR.2.2.2.1 k (S (173 + o) - 1) (by omega) (by omega) (by omega) (by omega)
            by_cases hlt : o < wh i
            · have ev : pvW S (wh i) k o n = prS (S 2) (S (15 + 6 * k + (S (173 + o) - 1))) (lsr n (lsr (S (3 + k)) (S (181 + o)))).toNat (S (205 + 8 * o + wh i)) (S (205 + 8 * wh i + o)) := by
                unfold pvW
                rw [if_neg (by omega), if_pos hlt, sy, show 15 + 6 * (S (173 + o) - 1) + k = 15 + 6 * S (173 + o) + (k + 1) - 7 by omega]
                rw [show lsr (S (181 + o)) (S (3 + k)) = lsr (S (3 + k)) (S (181 + o)) by unfold lsr; split <;> split <;> omega]
              refine b47_108 hG TM_eqo (by intros; omega) (by intros; omega) (mm.1) (by intros; omega) (by intros; omega) ?_
              rw [if_pos hlt, if_neg (show ¬ wh i < o by omega)]
              refine c_pairS hG h2 ⟨q1, by omega⟩ ⟨a1, by omega⟩ mm.2 ml ?_
              refine b47_133 hG ?_
              refine ih2 _ ?_ (by rw [← ev]; omega) (by rw [← ev]; omega)
              rw [sumI_s q1, if_neg hw2, ev, hs]
            · have ev : pvW S (wh i) k o n = prS (S 2) (S (15 + 6 * k + (S (173 + o) - 1))) (lsr n (lsr (S (3 + k)) (S (181 + o)))).toNat (S (205 + 8 * wh i + o)) (S (205 + 8 * o + wh i)) := by
                unfold pvW
                rw [if_neg (by omega), if_neg hlt, show 15 + 6 * k + (S (173 + o) - 1) = 15 + 6 * (k + 1) + S (173 + o) - 7 by omega]
              refine b47_108 hG TM_eqo (by intros; omega) (by intros; omega) (mm.1) (by intros; omega) (by intros; omega) ?_
              rw [if_neg hlt, if_pos (show wh i < o by omega)]
              refine c_pairS hG h2 ⟨a1, by omega⟩ ⟨q1, by omega⟩ mm.2 ml ?_
              refine b47_133 hG ?_
              refine ih2 _ ?_ (by rw [← ev]; omega) (by rw [← ev]; omega)
              rw [sumI_s q1, if_neg hw2, ev, hs]
      refine b47_13 hG ((congrFun (f1 9 (by omega)) 0).trans e0) (by intros; omega) (by intros; omega) ?_ ?_
      · intro p; omega
      · intro p
        exact inner 0 (by omega) (by omega) 0 (by rw [sumI_0 (by omega)]) (by omega) (by omega)
  refine b47_0 hG (by intros; omega) (by intros; omega) (ew i hi.1 hi.2) ?_
  exact key 0 (by omega) (by omega) c 0 (fun _ _ => rfl) (fun _ _ => rfl) (fun q h1 h2 => by omega) (by omega) (fun q h1 h2 => by omega)
theorem c_fillTog (hG : Shp G) (h : MsL c S) (hw : Wait S wh m) (hn : 1 ≤ n ∧ n ≤ 30) (hj : 0 ≤ j ∧ j < i) (hi : 0 ≤ i ∧ i < m) (ew : ∀ j, 0 ≤ j → j < m → c 125 j = wh j) (hz : ∀ c' r, (∀ q, ¬ q = 127 → c' q = c q) → (∀ q, (q < (j * 5 + i) * 36 ∨ (j * 5 + i) * 36 + 36 ≤ q) → c' 127 q = c 127 q) → (∀ x y, 0 ≤ x → x < S 0 → 0 ≤ y → y < S 0 → c' 127 ((j * 5 + i) * 36 + (x * 6 + y)) = togV S n (wh j) (wh i) x y) → (0 ≤ r ∧ r ≤ 3000) → (∀ x y, 0 ≤ x → x < S 0 → 0 ≤ y → y < S 0 → togV S n (wh j) (wh i) x y ≤ r) → Q (some (aI r)) (G, c')) : TM (d + 3) 48 [aR 124, aI j, aI i, aI n] (G, c) Q := by
  have g := h.1.1
  have e0 := h.2.2.1.1.1
  have hI := h.2.1
  have hR := h.1
  obtain ⟨w1, w2, w3⟩ := hw
  obtain ⟨a1, a2, a3⟩ := w2 i hi.1 hi.2
  obtain ⟨b1, b2, b3⟩ := w2 j hj.1 (by omega)
  have key : ∀ x, 0 ≤ x → x ≤ S 0 → ∀ (c2 : CC) (r : Int), (∀ q, ¬ q = 127 → c2 q = c q) → (∀ q, (q < (j * 5 + i) * 36 ∨ (j * 5 + i) * 36 + 36 ≤ q) → c2 127 q = c 127 q) → (∀ p q, 0 ≤ p → p < x → 0 ≤ q → q < S 0 → c2 127 ((j * 5 + i) * 36 + (p * 6 + q)) = togV S n (wh j) (wh i) p q ∧ togV S n (wh j) (wh i) p q ≤ r) → (0 ≤ r ∧ r ≤ 3000) → T (d + 3) 48 6 [some (aR 124), some (aI j), some (aI i), some (aI n), some (aI r), some (aI x), none, none, none] [] (G, c2) (QM Q) := by
    refine int_ind ?_ ?_
    · intro c2 r f1 f2 f3 f4
      refine b48_6 hG ((congrFun (f1 9 (by omega)) 0).trans e0) (by intros; omega) (by intros; omega) ?_ ?_
      · intro p; exact hz c2 r f1 f2 (fun x y x1 x2 x3 x4 => (f3 x y x1 x2 x3 x4).1) f4 (fun x y x1 x2 x3 x4 => (f3 x y x1 x2 x3 x4).2)
      · intro p; omega
    · intro x p1 p2 ih c2 r f1 f2 f3 f4
      have inner : ∀ y, 0 ≤ y → y ≤ S 0 → ∀ (c3 : CC) (r : Int), (∀ q, ¬ q = 127 → c3 q = c q) → (∀ q, (q < (j * 5 + i) * 36 ∨ (j * 5 + i) * 36 + 36 ≤ q) → c3 127 q = c 127 q) → (∀ p q, 0 ≤ p → p ≤ x → 0 ≤ q → q < S 0 → (p < x ∨ q < y) → c3 127 ((j * 5 + i) * 36 + (p * 6 + q)) = togV S n (wh j) (wh i) p q ∧ togV S n (wh j) (wh i) p q ≤ r) → (0 ≤ r ∧ r ≤ 3000) → T (d + 3) 48 21 [some (aR 124), some (aI j), some (aI i), some (aI n), some (aI r), some (aI x), some (aI y), none, none] [] (G, c3) (QM Q) := by
        refine int_ind ?_ ?_
        · intro c3 r k1 k2 k3 k4
          refine b48_21 hG TM_eqo ((congrFun (k1 9 (by omega)) 0).trans e0) (by omega) (by omega) ?_ (by intros; exfalso; omega) (by intros; exfalso; omega) rfl (by intros; exfalso; omega) (by intros; exfalso; omega) rfl (by intros; exfalso; omega) (by intros; exfalso; omega) (by intros; exfalso; omega) (by intros; exfalso; omega) (by intros; exfalso; omega) (by intros; exfalso; omega) rfl (by intros; exfalso; omega) (by intros; exfalso; omega) rfl ?_
          · intro p
            exact ih c3 r k1 k2 (fun p q p1 p2 q1 q2 => k3 p q p1 (by omega) q1 q2 (by omega)) k4
          · intro p; omega
        · intro y q1 q2 ih2 c3 r k1 k2 k3 k4
          have h2 : MsL c3 S := MsL_fr h (fun r hr => k1 r (by omega))
          have ex := (h2.2.2.1.2.1 x p1 p2).1
          have ey := (h2.2.2.1.2.1 y q1 q2).1
          have rx := hR.2.1 x p1 p2
          have ry := hR.2.1 y q1 q2
          have wj : c3 125 j = wh j := by rw [k1 125 (by omega)]; exact ew j hj.1 (by omega)
          have wi : c3 125 i = wh i := by rw [k1 125 (by omega)]; exact ew i hi.1 hi.2
          have tb := togV_b hR hI (a := wh j) (b := wh i) (x := x) (y := y) (n := n) ⟨b1, by omega⟩ ⟨a1, by omega⟩ ⟨p1, p2⟩ ⟨q1, q2⟩ (by omega)
          refine b48_21 hG TM_eqo ((congrFun (k1 9 (by omega)) 0).trans e0) (by intros; omega) (by intros; omega) ?_ (by intros; omega) (by intros; omega) (ex) (by intros; omega) (by intros; omega) (ey) (by intros; omega) (by intros; omega) (by intros; omega) (by intros; rw [mn]; unfold lsr; split <;> omega) (by intros; omega) (by intros; omega) (wj) (by intros; omega) (by intros; omega) (wi) ?_
          · intro p; omega
          · intro p
            rw [mn, mn]
            refine c_kindPair hG ?_
            have mm := Ms_m h2 (a := x) (b := y) (by omega) (by omega)
            refine b48_89 hG TM_eqo (by intros; omega) (by intros; omega) (mm.1) ?_
            have ml : I32 (lsr n (lsr (S (3 + x)) (S (3 + y)))) := by unfold lsr; split <;> (try split) <;> omega
            refine c_pairS hG h2 ⟨b1, by omega⟩ ⟨a1, by omega⟩ mm.2 ml ?_
            show T _ 48 95 _ ([aI (togV S n (wh j) (wh i) x y)]) _ _
            obtain ⟨tv, etv⟩ : ∃ tv, tv = togV S n (wh j) (wh i) x y := ⟨_, rfl⟩
            rw [← etv] at tb ⊢
            refine b48_95 hG ?_
            refine togA hG ?_
            refine b48_110 hG TM_eqo (by intros; omega) (by intros; omega) (by intros; omega) (by intros; omega) ?_
            refine ih2 _ _ (fun q hq => by rw [up_r hq]; exact k1 q hq) (fun q hq => by rw [up_n (by omega)]; exact k2 q hq) (fun p q z1 z2 z3 z4 z5 => ?_) (by split <;> omega)
            by_cases hpq : p = x ∧ q = y
            · rw [hpq.1, hpq.2, up_e, ← etv]
              refine ⟨rfl, ?_⟩
              split <;> omega
            · rw [up_n (by omega)]
              obtain ⟨u1, u2⟩ := k3 p q z1 z2 z3 z4 (by omega)
              refine ⟨u1, ?_⟩
              split <;> omega
      refine b48_6 hG ((congrFun (f1 9 (by omega)) 0).trans e0) (by intros; omega) (by intros; omega) ?_ ?_
      · intro p; omega
      · intro p
        exact inner 0 (by omega) (by omega) c2 r f1 f2 (fun p q z1 z2 z3 z4 z5 => f3 p q z1 (by omega) z3 z4) f4
  refine b48_0 hG ?_
  exact key 0 (by omega) (by omega) c 0 (fun _ _ => rfl) (fun _ _ => rfl) (fun p q h1 h2 => by omega) (by omega)
end SPm5
