section SPm9
variable {d : Nat} {G : GG} {c c' c0 : CC} {Q : Option AV → HH → Prop} {S X : SS} {i j k n g x y a b N q w o K m mm dd s lo : Int} {wh bd way : Int → Int} {acc : Int × (Int → Int)}
def pref (S : SS) (wh way : Int → Int) (j : Int) : Option SS := loopI (fun j o => stp (wh j) (way j) o) j (some S)
theorem pref_s (h : 0 ≤ j) : pref S wh way (j + 1) = stp (wh j) (way j) (pref S wh way j) := loopI_s h
theorem pref_0 : pref S wh way 0 = some S := loopI_0 (by omega)
theorem pref_c {way' : Int → Int} (h : 0 ≤ i) (e : ∀ j, 0 ≤ j → j < i → way' j = way j) : pref S wh way' i = pref S wh way i := by
  have key : ∀ j, 0 ≤ j → j ≤ i → pref S wh way' j = pref S wh way j := by
    refine int_up ?_ ?_
    · rw [pref_0, pref_0]
    · intro j p1 p2 ih
      rw [pref_s p1, pref_s p1, ih, e j p1 p2]
  exact key i h (by omega)
theorem pref_no (h : 0 ≤ j) (e : pref S wh way j = none) : ∀ t : Nat, pref S wh way (j + t) = none := by
  intro t
  induction t with
  | zero => rw [show j + ((0 : Nat) : Int) = j by omega]; exact e
  | succ t ih =>
    rw [show j + ((t + 1 : Nat) : Int) = (j + t) + 1 by omega, pref_s (by omega), ih]; rfl
theorem u1_self {f : Int → Int} {i v : Int} (h : f i = v) : q_u1 f i v = f := by
  funext q
  by_cases hq : q = i
  · rw [hq, u1_e, h]
  · rw [u1_n hq]
theorem stp_k (h : ¬ a = 0) : stp w a (some X) = if whyF X w (a - 1) = 0 then some (bornF X w (a - 1)) else none := if_neg h
theorem stp_0 : stp w 0 (some X) = some X := by
  show (if (0 : Int) = 0 then some X else if whyF X w (0 - 1) = 0 then some (bornF X w (0 - 1)) else none) = some X
  rw [if_pos rfl]
theorem pref_ok (hR : InvR S) (hI : InvL S) (hw : Wait S wh m) (hway : ∀ j, 0 ≤ j → j < m → 0 ≤ way j ∧ way j ≤ S 0) : ∀ j, 0 ≤ j → j ≤ m → ∀ X, pref S wh way j = some X → NodeOk S n wh m j way X := by
  refine int_up ?_ ?_
  · intro X hX
    rw [pref_0] at hX
    have : S = X := Option.some.inj hX
    rw [← this]
    exact Node_0 hR hI hw
  · intro j p1 p2 ih X hX
    rw [pref_s p1] at hX
    cases hp : pref S wh way j with
    | none => rw [hp] at hX; exact absurd hX (by intro z; cases z)
    | some Y =>
      rw [hp] at hX
      have hY := ih Y hp
      have wj := hway j p1 p2
      by_cases hz : way j = 0
      · rw [hz, stp_0] at hX
        have := Node_n hY p1
        rw [u1_self hz, Option.some.inj hX] at this
        exact this
      · rw [stp_k hz] at hX
        by_cases hy : whyF Y (wh j) (way j - 1) = 0
        · rw [if_pos hy] at hX
          have := (Node_k hR hI hw hY p1 p2 (k := way j - 1) (by omega) (by omega) hy).1
          rw [u1_self (by omega), Option.some.inj hX] at this
          exact this
        · rw [if_neg hy] at hX; exact absurd hX (by intro z; cases z)
theorem r_goes (hG : Shp G) (hR : InvR S) (hI : InvL S) (hw : Wait S wh m) (hway : ∀ j, 0 ≤ j → j < m → 0 ≤ way j ∧ way j ≤ S 0) (e190 : c 190 = S) (e197 : ∀ j, 0 ≤ j → j < m → c 197 j = wh j) (e198 : ∀ j, 0 ≤ j → j < m → c 198 j = way j) (hz1 : ∀ X, pref S wh way m = some X → Q (some (aI 1)) (G, q_uf c 190 X)) (hz0 : pref S wh way m = none → ∀ X, SmR S X → Q (some (aI 0)) (G, q_uf c 190 X)) : TM (d + 3) 217 [aR 188, aI m] (G, c) Q := by
  have g := hR.1
  have hm := hw.1
  have key : ∀ j, 0 ≤ j → j ≤ m → ∀ X, pref S wh way j = some X → T (d + 3) 217 2 [some (aR 188), some (aI m), some (aI j)] [] (G, q_uf c 190 X) (QM Q) := by
    refine int_ind ?_ ?_
    · intro X hX
      refine b217_2 hG (by omega) (by omega) ?_ (by intros; exfalso; omega) (by intros; exfalso; omega) rfl (by intros; exfalso; omega) rfl rfl ?_ ?_
      · intro p; exact hz1 X hX
      · intro p; omega
      · intro p; omega
    · intro j p1 p2 ih X hX
      have hN := pref_ok (n := 0) hR hI hw hway j p1 (by omega) X hX
      have hRX := Ok_R hN.1 hR
      have wj := hway j p1 p2
      have hj := hw.2.1 j p1 p2
      have ps := pref_s (S := S) (wh := wh) (way := way) p1
      rw [hX] at ps
      refine b217_2 hG (by intros; omega) (by intros; omega) ?_ (by intros; omega) (by intros; omega) ((uf_n2 (by omega)).trans (e198 j p1 p2)) (by intros; omega) ((uf_n2 (by omega)).trans (e197 j p1 p2)) ((uf_n2 (by omega)).trans (e198 j p1 p2)) ?_ ?_
      · intro p; omega
      · intro p p3
        refine r_whyOf hG (by rw [uf_e]; exact hRX) (by rw [uf_e]; exact hN.1.2) hj.1 (by omega) (by omega) (by rw [uf_e, Ok_0 hN.1]; omega) ?_
        rw [uf_e]
        rw [stp_k p3] at ps
        have wb := why_b (S := X) (s := wh j) (k := way j - 1)
        refine b217_37 hG (by intros; omega) (by intros; omega) (by intros; omega) ((uf_n2 (by omega)).trans (e197 j p1 p2)) ((uf_n2 (by omega)).trans (e198 j p1 p2)) ?_ ?_
        · intro p4
          rw [if_pos (by omega)] at ps
          refine r_born hG hj.1 (by omega) (by omega) (by omega) ?_
          rw [uf_e, uf_uf]
          refine b217_60 hG ?_
          exact ih _ ps
        · intro p4
          rw [if_neg (by omega)] at ps
          refine hz0 ?_ X hN.1.1
          have := pref_no (S := S) (wh := wh) (way := way) (j := j + 1) (by omega) ps (m - (j + 1)).toNat
          rw [show j + 1 + ((m - (j + 1)).toNat : Int) = m by omega] at this
          exact this
      · intro p p3
        refine b217_60 hG ?_
        rw [p3, stp_0] at ps
        exact ih X ps
  refine b217_0 hG ?_
  have := key 0 (by omega) (by omega) S pref_0
  rw [uf_id2 e190.symm] at this
  exact this
def AccB (wh : Int → Int) (m : Int) (r : Int → Int) (acc : Int × (Int → Int)) : Prop := (-1 ≤ acc.1 ∧ acc.1 ≤ 200000) ∧ (¬ acc.1 = -1 → (∀ q, 0 ≤ q → q < 8 → (∀ j, 0 ≤ j → j < m → ¬ q = wh j) → r q = -1) ∧ ∀ j, 0 ≤ j → j < m → r (wh j) = acc.2 j - 1)
def StB (S : SS) (wh : Int → Int) (m : Int) (c0 : CC) (way : Int → Int) (acc : Int × (Int → Int)) (c : CC) : Prop := (∀ r, ¬ r = 190 → ¬ r = 198 → ¬ r = 199 → c r = c0 r) ∧ c 190 = S ∧ (∀ j, 0 ≤ j → j < m → c 198 j = way j) ∧ AccB wh m (c 199) acc
theorem r_bk (hG : Shp G) (h : SmR S (c 190)) (h2 : ∀ i, 0 ≤ i → i < 165 → c 196 i = S (168 + i)) (hz : Q none (G, q_uf c 190 S)) : TM d 215 [aR 188] (G, c) Q := by
  refine r_back hG ?_
  rw [mix_same h h2]; exact hz
theorem r_eval (hG : Shp G) (hR : InvR S) (hI : InvL S) (hw : Wait S wh m) (hn : 1 ≤ n ∧ n ≤ 30) (hway : ∀ j, 0 ≤ j → j < m → 0 ≤ way j ∧ way j ≤ S 0) (e196 : ∀ i, 0 ≤ i → i < 165 → c0 196 i = S (168 + i)) (e197 : ∀ j, 0 ≤ j → j < m → c0 197 j = wh j) (v5 : Int) (h5 : ¬ v5 = 0) (h5b : I32 v5) (hS : StB S wh m c0 way acc c) (hz : ∀ c', StB S wh m c0 way (srch wh (S 0) n (S 169) 0 m way (pref S wh way m) acc) c' → T (d + 4) 218 219 [some (aR 188), some (aI n), some (aI m), some (aI (S 169)), some (aI (srch wh (S 0) n (S 169) 0 m way (pref S wh way m) acc).1), none, none] [] (G, c') (QM Q)) : T (d + 4) 218 96 [some (aR 188), some (aI n), some (aI m), some (aI (S 169)), some (aI acc.1), some (aI v5), none] [] (G, c) (QM Q) := by
  have g := hR.1
  have hm := hw.1
  obtain ⟨f1, f2, f3, f4⟩ := hS
  have fb := f4.1
  refine b218_96 hG TM_eqo (by intros; omega) rfl ?_ ?_
  · intro p; omega
  · intro p
    refine r_goes hG hR hI hw hway f2 (fun j p1 p2 => by rw [f1 197 (by omega) (by omega) (by omega)]; exact e197 j p1 p2) f3 ?_ ?_
    · intro X hX
      have hN := pref_ok (n := n) hR hI hw hway m (by omega) (by omega) X hX
      have hRX := Ok_R hN.1 hR
      have tb := tot_b hRX hN.1.2 (n := n) (by omega)
      have td := tot_days (by omega) hR hN
      rw [hX] at hz
      have es : srch wh (S 0) n (S 169) 0 m way (some X) acc = if acc.1 < totS X n then (totS X n, way) else acc := by
        show (if acc.1 < daysF n X 169 - S 169 then (daysF n X 169 - S 169, way) else acc) = _
        rw [td]
      rw [es] at hz
      refine b218_106 hG (by intros; omega) ?_ ?_
      · intro p1; omega
      · intro p1
        have days : ∀ k, 0 ≤ k → k ≤ n → Ok S (daysF k X) → T (d + 4) 218 112 [some (aR 188), some (aI n), some (aI m), some (aI (S 169)), some (aI acc.1), none, some (aI k)] [] (G, q_uf c 190 (daysF k X)) (QM Q) := by
          refine int_ind ?_ ?_
          · intro hOk
            have f196 : ∀ i, 0 ≤ i → i < 165 → (q_uf c 190 (daysF n X)) 196 i = S (168 + i) := fun i p1 p2 => by rw [uf_n2 (by omega), f1 196 (by omega) (by omega) (by omega)]; exact e196 i p1 p2
            refine b218_112 hG TM_eqo (by intros; omega) (by intros; omega) (congrFun uf_e 169) (by intros; rw [td]; omega) (by intros; omega) ?_ (congrFun uf_e 169) ?_ ?_
            · intro q1 q2
              rw [td] at q2
              rw [if_neg (by omega)] at hz
              refine r_bk (S := S) hG (by rw [uf_e]; exact hOk.1) f196 ?_
              rw [uf_uf]
              refine hz _ ⟨fun r h1 h2 h3 => by rw [uf_n h1]; exact f1 r h1 h2 h3, uf_e, fun j p1 p2 => by rw [uf_n2 (by omega)]; exact f3 j p1 p2, by rw [uf_n (by omega)]; exact f4⟩
            · intro q1 q2
              rw [td] at q2 ⊢
              rw [if_pos (by omega)] at hz
              have cl : ∀ k, 0 ≤ k → k ≤ 8 → ∀ c3 : CC, (∀ r, ¬ r = 190 → ¬ r = 199 → c3 r = c r) → SmR S (c3 190) → (∀ q, 0 ≤ q → q < k → c3 199 q = -1) → T (d + 4) 218 158 [some (aR 188), some (aI n), some (aI m), some (aI (S 169)), some (aI (totS X n)), none, some (aI k)] [] (G, c3) (QM Q) := by
                refine int_ind ?_ ?_
                · intro c3 k1 k2 k3
                  have fl : ∀ k, 0 ≤ k → k ≤ m → ∀ c4 : CC, (∀ r, ¬ r = 190 → ¬ r = 199 → c4 r = c r) → SmR S (c4 190) → (∀ q, 0 ≤ q → q < 8 → (∀ j, 0 ≤ j → j < k → ¬ q = wh j) → c4 199 q = -1) → (∀ j, 0 ≤ j → j < k → c4 199 (wh j) = way j - 1) → T (d + 4) 218 182 [some (aR 188), some (aI n), some (aI m), some (aI (S 169)), some (aI (totS X n)), none, some (aI k)] [] (G, c4) (QM Q) := by
                    refine int_ind ?_ ?_
                    · intro c4 l1 l2 l3 l4
                      refine b218_182 hG TM_eqo (by omega) (by omega) ?_ (by intros; exfalso; omega) (by intros; exfalso; omega) rfl rfl (by intros; exfalso; omega) (by intros; exfalso; omega) ?_
                      · intro p5
                        refine r_bk (S := S) hG l2 (fun i p1 p2 => by rw [l1 196 (by omega) (by omega), f1 196 (by omega) (by omega) (by omega)]; exact e196 i p1 p2) ?_
                        refine hz _ ⟨fun r h1 h2 h3 => by rw [uf_n h1, l1 r h1 h3]; exact f1 r h1 h2 h3, uf_e, fun j p1 p2 => by rw [uf_n2 (by omega), l1 198 (by omega) (by omega)]; exact f3 j p1 p2, ⟨by show -1 ≤ totS X n ∧ totS X n ≤ 200000; omega, fun _ => ?_⟩⟩
                        rw [uf_n (by omega)]
                        exact ⟨l3, l4⟩
                      · intro p5; omega
                    · intro j p5 p6 ih c4 l1 l2 l3 l4
                      have hj := hw.2.1 j p5 p6
                      refine b218_182 hG TM_eqo (by intros; omega) (by intros; omega) ?_ (by intros; omega) (by intros; omega) ((congrFun ((l1 197 (by omega) (by omega)).trans (f1 197 (by omega) (by omega) (by omega))) j).trans (e197 j p5 p6)) ((congrFun (l1 198 (by omega) (by omega)) j).trans (f3 j p5 p6)) (by intros; omega) (by intros; omega) ?_
                      · intro p7; omega
                      · intro p7
                        refine ih _ (fun r h1 h2 => by rw [up_r h2]; exact l1 r h1 h2) (by rw [up_r (by omega)]; exact l2) (fun q q1 q2 q3 => ?_) (fun j' q1 q2 => ?_)
                        · have := q3 j p5 (by omega)
                          rw [up_n (by omega)]
                          exact l3 q q1 q2 (fun l l1 l2 => q3 l l1 (by omega))
                        · by_cases hj' : j' = j
                          · rw [hj', up_e]
                          · have := hw.2.2 j' j q1 (by omega) p6
                            rw [up_n (by omega)]
                            exact l4 j' q1 (by omega)
                  refine b218_158 hG (by omega) ?_ (by intros; exfalso; omega) (by intros; exfalso; omega) ?_
                  · intro p5
                    exact fl 0 (by omega) (by omega) c3 k1 k2 (fun q q1 q2 _ => k3 q q1 q2) (fun j q1 q2 => by omega)
                  · intro p5; omega
                · intro k p5 p6 ih c3 k1 k2 k3
                  refine b218_158 hG (by intros; omega) ?_ (by intros; omega) (by intros; omega) ?_
                  · intro p7; omega
                  · intro p7
                    refine ih _ (fun r h1 h2 => by rw [up_r h2]; exact k1 r h1 h2) (by rw [up_r (by omega)]; exact k2) (fun q q1 q2 => ?_)
                    by_cases hq : q = k
                    · rw [hq, up_e]
                    · rw [up_n (by omega)]; exact k3 q q1 (by omega)
              exact cl 0 (by omega) (by omega) _ (fun r h1 h2 => by rw [uf_n h1]) (by rw [uf_e]; exact hOk.1) (fun q q1 q2 => by omega)
            · intro q1; omega
          · intro k p1 p2 ih hOk
            have es : daysF (k + 1) X = dayF (daysF k X) := loopI_s p1
            have hRd := Ok_R hOk hR
            refine b218_112 hG TM_eqo (by intros; omega) (by intros; omega) rfl (by intros; exfalso; omega) (by intros; omega) ?_ rfl ?_ ?_
            · intro q1; omega
            · intro q1; omega
            · intro q1
              refine r_day hG (by rw [uf_e]; exact hRd) (by rw [uf_e]; exact hOk.2) ?_
              rw [uf_e, uf_uf, ← es]
              refine b218_122 hG ?_
              exact ih (by rw [es]; exact Ok_tr hOk (Ok_day hRd hOk.2))
        have d0 : daysF 0 X = X := loopI_0 (by omega)
        have := days 0 (by omega) (by omega) (by rw [d0]; exact hN.1)
        rw [d0] at this
        exact this
    · intro hX X hXs
      rw [hX] at hz
      refine b218_106 hG (by intros; omega) ?_ ?_
      · intro p1
        refine r_bk (S := S) hG (by rw [uf_e]; exact hXs) (fun i p1 p2 => by rw [uf_n2 (by omega), f1 196 (by omega) (by omega) (by omega)]; exact e196 i p1 p2) ?_
        rw [uf_uf]
        refine hz _ ⟨fun r h1 h2 h3 => by rw [uf_n h1]; exact f1 r h1 h2 h3, uf_e, fun j p1 p2 => by rw [uf_n2 (by omega)]; exact f3 j p1 p2, by rw [uf_n (by omega)]; exact f4⟩
      · intro p1; omega
end SPm9
