section SPm7
variable {d : Nat} {G : GG} {c c' c0 : CC} {S X : SS} {i j k n g x y a b N q w o K m mm dd s lo : Int} {wh bd way : Int → Int} {acc : Int × (Int → Int)}
theorem pvN_b (hR : InvR S) (hI : InvL S) (ha : 0 ≤ a ∧ a < 8) (hb : 0 ≤ b ∧ b < 8) (hn : 0 ≤ n ∧ n ≤ 30) : 0 ≤ pvN S a b n ∧ pvN S a b n ≤ 2970 := by
  have g := hR.1
  have ia := hI.1 a ha.1 ha.2
  have ib := hI.1 b hb.1 hb.2
  have d1 := hI.2.2.1 (8 * a + b) (by omega) (by omega)
  have d2 := hI.2.2.1 (8 * b + a) (by omega) (by omega)
  rw [show 205 + (8 * a + b) = 205 + 8 * a + b by omega] at d1
  rw [show 205 + (8 * b + a) = 205 + 8 * b + a by omega] at d2
  unfold pvN
  by_cases hz : S (173 + a) = 0 ∨ S (173 + b) = 0
  · rw [if_pos hz]; omega
  · rw [if_neg hz]
    have em : mtF S a b = S (15 + 6 * S (173 + a) + S (173 + b) - 7) := if_pos (by omega)
    have m1 := hR.2.2.1 (6 * (S (173 + a) - 1) + (S (173 + b) - 1)) (by omega) (by omega)
    rw [show 15 + (6 * (S (173 + a) - 1) + (S (173 + b) - 1)) = 15 + 6 * S (173 + a) + S (173 + b) - 7 by omega, ← em] at m1
    have l1 := lsr_b (a := n) (b := lsr (S (181 + a)) (S (181 + b)))
    have p := prS_b (g := S 2) (lsr n (lsr (S (181 + a)) (S (181 + b)))).toNat _ _ m1 g.2.2.2.2.1 d1 d2
    omega
theorem tot_b (hR : InvR S) (hI : InvL S) (hn : 0 ≤ n ∧ n ≤ 30) : 0 ≤ totS S n ∧ totS S n ≤ 200000 := by
  have g := hR.1
  have row : ∀ i, 0 ≤ i → i < S 1 → 0 ≤ sumI (fun j => if i < j then pvN S i j n else 0) (S 1) ∧ sumI (fun j => if i < j then pvN S i j n else 0) (S 1) ≤ 23760 := by
    intro i p1 p2
    have h1 := sumI_lo (f := fun j => if i < j then pvN S i j n else 0) (n := S 1) (lo := 0) (by omega) (fun j q1 q2 => by
      show 0 ≤ if i < j then pvN S i j n else 0
      have := pvN_b hR hI (a := i) (b := j) ⟨p1, by omega⟩ ⟨q1, by omega⟩ hn
      split <;> omega)
    have h2 := sumI_hi (f := fun j => if i < j then pvN S i j n else 0) (n := S 1) (hi := 2970) (by omega) (fun j q1 q2 => by
      show (if i < j then pvN S i j n else 0) ≤ 2970
      have := pvN_b hR hI (a := i) (b := j) ⟨p1, by omega⟩ ⟨q1, by omega⟩ hn
      split <;> omega)
    omega
  have h1 := sumI_lo (f := fun i => sumI (fun j => if i < j then pvN S i j n else 0) (S 1)) (n := S 1) (lo := 0) (by omega) (fun i p1 p2 => (row i p1 p2).1)
  have h2 := sumI_hi (f := fun i => sumI (fun j => if i < j then pvN S i j n else 0) (S 1)) (n := S 1) (hi := 23760) (by omega) (fun i p1 p2 => (row i p1 p2).2)
  have e : totS S n = sumI (fun i => sumI (fun j => if i < j then pvN S i j n else 0) (S 1)) (S 1) := rfl
  omega
theorem bd_b (hb : BndOk S n wh m bd) : ∀ (t : Nat) (i : Int), i + t = m → 0 ≤ i → m ≤ 5 → 0 ≤ bd i ∧ bd i ≤ 45000 * t := by
  intro t
  induction t with
  | zero =>
    intro i g1 g2 g3
    have e : i = m := by omega
    rw [e, hb.1]; omega
  | succ t ih =>
    intro i g1 g2 g3
    obtain ⟨A, R, a1, a2, a3, a4⟩ := hb.2 i g2 (by omega)
    have := ih (i + 1) (by omega) (by omega) g3
    have h1 := sumI_lo (f := R) (n := i) (lo := 0) g2 (fun j q1 q2 => (a3 j q1 q2).1.1)
    have h2 := sumI_hi (f := R) (n := i) (hi := 3000) g2 (fun j q1 q2 => (a3 j q1 q2).1.2)
    omega
def AccR (wh : Int → Int) (m : Int) (r : Int → Int) (acc : Int × (Int → Int)) : Prop := (-1 ≤ acc.1 ∧ acc.1 ≤ 200000) ∧ (∀ q, 0 ≤ q → q < 8 → (∀ j, 0 ≤ j → j < m → ¬ q = wh j) → r q = -1) ∧ (acc.1 = -1 → ∀ q, 0 ≤ q → q < 8 → r q = -1) ∧ (¬ acc.1 = -1 → ∀ j, 0 ≤ j → j < m → r (wh j) = acc.2 j - 1)
def ChS (S : SS) (wh : Int → Int) (m : Int) (c0 : CC) (X : SS) (i : Int) (way : Int → Int) (acc : Int × (Int → Int)) (c : CC) : Prop := (∀ q, ¬ q = 124 → ¬ q = 129 → ¬ q = 130 → ¬ q = 131 → c q = c0 q) ∧ (∀ q, ¬ q = 9 → c 124 q = c0 124 q) ∧ c 124 9 = acc.1 ∧ AccR wh m (c 131) acc ∧ (∀ j, 0 ≤ j → j < i → c 130 j = way j - 1) ∧ ∀ k, 0 ≤ k → k < S 0 → c 129 k = room X k
theorem TbF_fr (h : TbF S n wh m c lo) (e1 : c' 126 = c 126) (e2 : c' 127 = c 127) : TbF S n wh m c' lo := ⟨fun i p1 p2 k p3 p4 => by rw [e1]; exact h.1 i p1 p2 k p3 p4, fun i p1 p2 j p3 p4 x y p5 p6 p7 p8 => by rw [e2]; exact h.2 i p1 p2 j p3 p4 x y p5 p6 p7 p8⟩
theorem c_choose (hG : Shp G) (h : MsL c0 S) (hw : Wait S wh m) (hn : 1 ≤ n ∧ n ≤ 30) (em : c0 124 3 = m) (ew : ∀ j, 0 ≤ j → j < m → c0 125 j = wh j) (ht : TbF S n wh m c0 0) (hb : BndOk S n wh m (c0 128)) : ∀ (t D : Nat) (i : Int) (way : Int → Int) (X : SS) (acc : Int × (Int → Int)) (c2 : CC) (Q : Option AV → HH → Prop), 2 * t + 4 ≤ D → i + t = m → 0 ≤ i → NodeOk S n wh m i way X → (∀ j, 0 ≤ j → j < i → 0 ≤ way j ∧ way j ≤ S 0) → ChS S wh m c0 X i way acc c2 → (∀ c', ChS S wh m c0 X i way (srch wh (S 0) n (S 169) t i way (some X) acc) c' → Q none (G, c')) → TM D 52 [aR 124, aI i, aI (totS X n)] (G, c2) Q := by
  have g := h.1.1
  have hR := h.1
  have hI := h.2.1
  have hm := hw.1
  intro t
  induction t with
  | zero =>
    intro D i way X acc c2 Q t1 t2 t3 hN hway hc hz
    obtain ⟨D, rfl⟩ : ∃ D', D = D' + 4 := ⟨D - 4, by omega⟩
    obtain ⟨f1, f2, f3, f4, f5, f6⟩ := hc
    have e : i = m := by omega
    have hRX := Ok_R hN.1 hR
    have tb := tot_b hRX hN.1.2 (n := n) (by omega)
    have td := tot_days (by omega) hR hN
    have e3 : c2 124 3 = m := (f2 3 (by omega)).trans em
    have es : srch wh (S 0) n (S 169) 0 i way (some X) acc = if acc.1 < totS X n then (totS X n, way) else acc := by
      show (if acc.1 < daysF n X 169 - S 169 then (daysF n X 169 - S 169, way) else acc) = _
      rw [td]
    have fb := f4.1
    rw [es] at hz
    refine b52_0 hG TM_eqo (e3) (by omega) (by omega) (f3) (by intros; omega) (by intros; omega) ?_ ?_ (by intros; exfalso; omega) (by intros; exfalso; omega) rfl rfl (by intros; exfalso; omega) (by intros; exfalso; omega) ?_ ?_ rfl (by intros; exfalso; omega) (by intros; exfalso; omega) ?_ ?_
    · intro p p2
      refine b52_26 hG ?_
      rw [if_neg (by omega)] at hz
      exact hz c2 ⟨f1, f2, f3, f4, f5, f6⟩
    · intro p p2
      rw [if_pos (by omega)] at hz
      refine c_keepWay (wh := wh) hG hm (by omega) e3 (fun j p1 p2 => by rw [f1 125 (by omega) (by omega) (by omega) (by omega)]; exact ew j p1 p2) (fun j p1 p2 => by have := hw.2.1 j p1 p2; omega) ?_
      intro c3 k1 k2 k3 k4 k5
      refine b52_26 hG ?_
      refine hz c3 ⟨fun q h1 h2 h3 h4 => by rw [k1 q h1 h4]; exact f1 q h1 h2 h3 h4, fun q h1 => by rw [k2 q h1]; exact f2 q h1, k3, ⟨by show -1 ≤ totS X n ∧ totS X n ≤ 200000; omega, fun q q1 q2 q3 => by rw [k4 q q3]; exact f4.2.1 q q1 q2 q3, fun h1 => by exfalso; have : totS X n = -1 := h1; omega, fun h1 j j1 j2 => ?_⟩, fun j p1 p2 => by rw [k1 130 (by omega) (by omega)]; exact f5 j p1 p2, fun k p1 p2 => by rw [k1 129 (by omega) (by omega)]; exact f6 k p1 p2⟩
      rw [k5 j j1 j2 (fun l l1 l2 => by have := hw.2.2 j l j1 l1 l2; omega)]
      exact f5 j j1 (by omega)
    · intro p; omega
    · intro p; omega
    · intro p; omega
    · intro p; omega
  | succ t ih =>
    intro D i way X acc c2 Q t1 t2 t3 hN hway hc hz
    obtain ⟨D, rfl⟩ : ∃ D', D = D' + 4 := ⟨D - 4, by omega⟩
    obtain ⟨f1, f2, f3, f4, f5, f6⟩ := hc
    have hRX := Ok_R hN.1 hR
    have tb := tot_b hRX hN.1.2 (n := n) (by omega)
    have e3 : c2 124 3 = m := (f2 3 (by omega)).trans em
    have fb := f4.1
    have eb : c2 128 i = c0 128 i := by rw [f1 128 (by omega) (by omega) (by omega) (by omega)]
    have bb := bd_b hb (t + 1) i (by omega) t3 (by omega)
    obtain ⟨w1, w2, w3⟩ := hw.2.1 i t3 (by omega)
    have e0 := h.2.2.1.1.1
    have ebS : BndOk S n wh m (c0 128) := hb
    have esr : srch wh (S 0) n (S 169) (t + 1) i way (some X) acc = loopI (fun a acc => srch wh (S 0) n (S 169) t (i + 1) (q_u1 way i a) (stp (wh i) a (some X)) acc) (S 0 + 1) acc := rfl
    have hw' : ∀ a, 0 ≤ a → a ≤ S 0 → ∀ j, 0 ≤ j → j < i + 1 → 0 ≤ q_u1 way i a j ∧ q_u1 way i a j ≤ S 0 := fun a a1 a2 j p1 p2 => by
      by_cases hj : j = i
      · rw [hj, u1_e]; omega
      · rw [u1_n hj]; exact hway j p1 (by omega)
    have up : ∀ (c3 : CC) (acc : Int × (Int → Int)) (k : Int) (Y : SS), ChS S wh m c0 Y (i + 1) (q_u1 way i k) acc c3 → ∀ j, 0 ≤ j → j < i → c3 130 j = way j - 1 := fun c3 acc k Y hc j p1 p2 => by
      rw [hc.2.2.2.2.1 j p1 (by omega), u1_n (by omega)]
    have key : ∀ k, 0 ≤ k → k ≤ S 0 → ∀ c3, ChS S wh m c0 X i way (loopI (fun a acc => srch wh (S 0) n (S 169) t (i + 1) (q_u1 way i a) (stp (wh i) a (some X)) acc) (k + 1) acc) c3 → T (D + 4) 52 52 [some (aR 124), some (aI i), some (aI (totS X n)), some (aI k)] [] (G, c3) (QM Q) := by
      refine int_ind ?_ ?_
      · intro c3 hc3
        refine b52_52 hG ((congrFun (hc3.1 9 (by omega) (by omega) (by omega) (by omega)) 0).trans e0) (by omega) (by omega) ?_ (by intros; exfalso; omega) (by intros; exfalso; omega) rfl (by intros; exfalso; omega) ?_ (by intros; exfalso; omega) (by intros; exfalso; omega) rfl ?_
        · intro p; exact hz c3 (by rw [esr]; exact hc3)
        · intro p; omega
        · intro p; omega
      · intro k p1 p2 ih2 c3 hc3
        obtain ⟨k1, k2, k3, k4, k5, k6⟩ := hc3
        have rm := hN.1.2.2.2.2.2.1 k p1 (by rw [Ok_0 hN.1]; exact p2)
        have rle := room_le (S := X) (k := k) (by rw [Ok_1 hN.1]; omega)
        have r9 := hRX.2.1 k p1 (by rw [Ok_0 hN.1]; exact p2)
        have zi := hN.2.2.1 i (Int.le_refl i) (by omega)
        have hM : MsL c3 S := MsL_fr h (fun r hr => k1 r (by omega) (by omega) (by omega) (by omega))
        have skip : ¬ whyF X (wh i) k = 0 → ChS S wh m c0 X i way (loopI (fun a acc => srch wh (S 0) n (S 169) t (i + 1) (q_u1 way i a) (stp (wh i) a (some X)) acc) (k + 1 + 1) acc) c3 := fun hy => by
          have e : loopI (fun a acc => srch wh (S 0) n (S 169) t (i + 1) (q_u1 way i a) (stp (wh i) a (some X)) acc) (k + 1 + 1) acc = loopI (fun a acc => srch wh (S 0) n (S 169) t (i + 1) (q_u1 way i a) (stp (wh i) a (some X)) acc) (k + 1) acc := by
            rw [loopI_s (by omega)]
            have es : stp (wh i) (k + 1) (some X) = none := by
              show (if k + 1 = 0 then some X else if whyF X (wh i) (k + 1 - 1) = 0 then some (bornF X (wh i) (k + 1 - 1)) else none) = none
              rw [if_neg (by omega), show k + 1 - 1 = k by omega, if_neg hy]
            rw [es]
            exact srch_none t (i + 1) _ _
          rw [e]; exact ⟨k1, k2, k3, k4, k5, k6⟩
        refine b52_52 hG ((congrFun (k1 9 (by omega) (by omega) (by omega) (by omega)) 0).trans e0) (by intros; omega) (by intros; omega) ?_ (by intros; omega) (by intros; omega) (k6 k p1 p2) (by intros; omega) ?_ (by intros; omega) (by intros; omega) ((congrFun (k1 125 (by omega) (by omega) (by omega) (by omega)) i).trans (ew i t3 (by omega))) ?_
        · intro p; omega
        · intro p p3
          refine ih2 c3 (skip ?_)
          unfold whyF
          rw [if_neg (by omega)]
          by_cases hbt : bt (X (51 + wh i)) k = 0
          · rw [if_pos hbt]; omega
          · rw [if_neg hbt, if_pos (show room X k = 0 by omega)]; omega
        · intro p p3
          have ebt : X (51 + wh i) = S (51 + wh i) := hN.1.1 _ (by omega)
          refine c_mayBe hG hM.2.2.1 w1 w2 (by omega) ?_
          rw [← ebt]
          have hb01 : bt (X (51 + wh i)) k = 0 ∨ bt (X (51 + wh i)) k = 1 := bt_01
          refine b52_86 hG (by intros; omega) ?_ (by intros; omega) (by intros; omega) rfl ?_
          · intro p4
            refine ih2 c3 (skip ?_)
            unfold whyF
            rw [if_neg (by omega), if_pos p4]; omega
          · intro p4
            have hy : whyF X (wh i) k = 0 := by
              unfold whyF
              rw [if_neg (by omega), if_neg p4, if_neg (by omega)]
            obtain ⟨n1, n2⟩ := Node_k hR hI hw hN t3 (by omega) p1 p2 hy
            rw [k6 k p1 p2]
            have ht2 : TbF S n wh m (q_up c3 129 k (room X k - 1)) 0 := TbF_fr ht (by rw [up_r (by omega)]; exact k1 126 (by omega) (by omega) (by omega) (by omega)) (by rw [up_r (by omega)]; exact k1 127 (by omega) (by omega) (by omega) (by omega))
            refine c_added hG hR hw ht2 hN t3 (by omega) p1 p2 (fun j j1 j2 => by rw [up_n (by omega)]; exact k5 j j1 j2) hway ?_
            refine b52_109 hG ?_
            rw [← n2]
            refine b269_0 hG TM_eqo (by intros; omega) (by intros; omega) ?_
            refine ih (D + 2) (i + 1) (q_u1 way i (k + 1)) (bornF X (wh i) k) (loopI (fun a acc => srch wh (S 0) n (S 169) t (i + 1) (q_u1 way i a) (stp (wh i) a (some X)) acc) (k + 1) acc) _ _ (by omega) (by omega) (by omega) n1 (hw' (k + 1) (by omega) (by omega)) ?_ ?_
            · refine ⟨fun q h1 h2 h3 h4 => by rw [up_r h3, up_r h2]; exact k1 q h1 h2 h3 h4, fun q h1 => by rw [up_n (by omega), up_n (by omega)]; exact k2 q h1, by rw [up_n (by omega), up_n (by omega)]; exact k3, by rw [up_r (by omega), up_r (by omega)]; exact k4, fun j j1 j2 => ?_, fun l l1 l2 => ?_⟩
              · by_cases hj : j = i
                · rw [hj, up_e, u1_e]; omega
                · rw [up_n (by omega), up_n (by omega), u1_n hj]; exact k5 j j1 (by omega)
              · rw [room_born hRX hN.1.2 w1 (by rw [Ok_1 hN.1]; exact w2) (by omega) l1 (by rw [Ok_0 hN.1]; exact l2)]
                by_cases hl : l = k
                · rw [hl, up_n (by omega), up_e, if_pos rfl]
                · rw [up_n (by omega), up_n (by omega), if_neg hl, k6 l l1 l2]; omega
            · intro c4 hc4
              have u5 := up c4 _ _ _ hc4
              obtain ⟨y1, y2, y3, y4, y5, y6⟩ := hc4
              have e129 : c4 129 k = room X k - 1 := by
                rw [y6 k p1 p2, room_born hRX hN.1.2 w1 (by rw [Ok_1 hN.1]; exact w2) (by omega) p1 (by rw [Ok_0 hN.1]; exact p2), if_pos rfl]
              refine b269_15 hG ?_
              show T (D + 4) 52 113 _ [] _ _
              refine b52_113 hG (by intros; omega) (by intros; omega) (e129) ?_
              refine ih2 _ ?_
              have e : loopI (fun a acc => srch wh (S 0) n (S 169) t (i + 1) (q_u1 way i a) (stp (wh i) a (some X)) acc) (k + 1 + 1) acc = srch wh (S 0) n (S 169) t (i + 1) (q_u1 way i (k + 1)) (some (bornF X (wh i) k)) (loopI (fun a acc => srch wh (S 0) n (S 169) t (i + 1) (q_u1 way i a) (stp (wh i) a (some X)) acc) (k + 1) acc) := by
                rw [loopI_s (by omega)]
                have es : stp (wh i) (k + 1) (some X) = some (bornF X (wh i) k) := by
                  show (if k + 1 = 0 then some X else if whyF X (wh i) (k + 1 - 1) = 0 then some (bornF X (wh i) (k + 1 - 1)) else none) = _
                  rw [if_neg (by omega), show k + 1 - 1 = k by omega, if_pos hy]
                rw [es]
              rw [e]
              refine ⟨fun q h1 h2 h3 h4 => by rw [up_r h2]; exact y1 q h1 h2 h3 h4, fun q h1 => by rw [up_n (by omega)]; exact y2 q h1, by rw [up_n (by omega)]; exact y3, by rw [up_r (by omega)]; exact y4, fun j j1 j2 => by rw [up_n (by omega)]; exact u5 j j1 j2, fun l l1 l2 => ?_⟩
              by_cases hl : l = k
              · rw [hl, up_e]; omega
              · rw [up_n (by omega), y6 l l1 l2, room_born hRX hN.1.2 w1 (by rw [Ok_1 hN.1]; exact w2) (by omega) l1 (by rw [Ok_0 hN.1]; exact l2), if_neg hl]; omega
    refine b52_0 hG TM_eqo (e3) (by intros; omega) (by intros; omega) (f3) (by intros; omega) (by intros; omega) ?_ ?_ (by intros; omega) (by intros; omega) (eb) (f3) (by intros; omega) (by intros; omega) ?_ ?_ rfl (by intros; exfalso; omega) (by intros; exfalso; omega) ?_ ?_
    · intro p; omega
    · intro p; omega
    · intro p p2 p3
      refine b269_0 hG TM_eqo (by intros; omega) (by intros; omega) ?_
      refine ih (D + 2) (i + 1) (q_u1 way i 0) X acc _ _ (by omega) (by omega) (by omega) (Node_n hN t3) (hw' 0 (by omega) (by omega)) ?_ ?_
      · refine ⟨fun q h1 h2 h3 h4 => by rw [up_r h3]; exact f1 q h1 h2 h3 h4, fun q h1 => by rw [up_n (by omega)]; exact f2 q h1, by rw [up_n (by omega)]; exact f3, by rw [up_r (by omega)]; exact f4, fun j j1 j2 => ?_, fun l l1 l2 => by rw [up_n (by omega)]; exact f6 l l1 l2⟩
        by_cases hj : j = i
        · rw [hj, up_e, u1_e]; omega
        · rw [up_n (by omega), u1_n hj]; exact f5 j j1 (by omega)
      · intro c3 hc3
        have u5 := up c3 _ _ _ hc3
        refine b269_15 hG ?_
        show T (D + 4) 52 50 _ [] _ _
        refine b52_50 hG ?_
        refine key 0 (by omega) (by omega) c3 ?_
        have e : loopI (fun a acc => srch wh (S 0) n (S 169) t (i + 1) (q_u1 way i a) (stp (wh i) a (some X)) acc) (0 + 1) acc = srch wh (S 0) n (S 169) t (i + 1) (q_u1 way i 0) (some X) acc := by
          rw [loopI_s (by omega), loopI_0 (by omega)]
          rfl
        rw [e]
        obtain ⟨y1, y2, y3, y4, y5, y6⟩ := hc3
        exact ⟨y1, y2, y3, y4, u5, y6⟩
    · intro p p2 p3
      have pr := prune (by omega) hR hI hw hb (t + 1) i way X acc (by omega) t3 hN hway p3
      exact hz c2 (by rw [pr]; exact ⟨f1, f2, f3, f4, f5, f6⟩)
    · intro p; omega
    · intro p; omega
end SPm7
