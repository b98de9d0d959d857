section SPac
variable {d : Nat} {G : GG} {c c' c0 : CC} {Q : Option AV → HH → Prop} {S : SS} {m K k js v t x y j j0 i N s o b n dg : Int} {way way' : Int → Int} {acc : Int × (Int → Int)}
theorem r_kindBy (hG : Shp G) (h0 : 0 ≤ o ∧ o < 8) (hb : 0 ≤ c 190 (173 + o) ∧ c 190 (173 + o) ≤ 6) (hd : I32 dg) (hz : Q (some (aI (kby (c 190) o dg))) (G, c)) : TM d 232 [aR 188, aI o, aI dg] (G, c) Q := by
  unfold kby at hz
  refine b232_0 hG (by intros; omega) (by intros; omega) rfl (by intros; omega) (by intros; omega) ?_ ?_ ?_
  · intro p p2; rw [if_neg p, if_pos p2] at hz; exact hz
  · intro p p2; rw [if_neg p, if_neg (by omega)] at hz; exact hz
  · intro p; rw [if_pos p] at hz; exact hz
theorem r_canBe (hG : Shp G) (hR : InvR S) (hI : InvL S) (hw : Box way (mT S) (S 0)) (hs : I32 s) (hk : I32 k) (e190 : c 190 = S) (e197 : ∀ j, 0 ≤ j → j < mT S → c 197 j = wT S j) (e198 : ∀ j, 0 ≤ j → j < mT S → c 198 j = way j)
    (hz1 : ∀ c', feF S s k way = 1 → (∀ r, ¬ r = 188 → ¬ r = 204 → c' r = c r) → (∀ i, ¬ i = 34 → c' 188 i = c 188 i) → c' 188 34 = chW way (mT S) → Q (some (aI 1)) (G, c'))
    (hz0 : ∀ c', ¬ feF S s k way = 1 → (∀ r, ¬ r = 188 → ¬ r = 204 → c' r = c r) → (∀ i, ¬ i = 34 → c' 188 i = c 188 i) → Q (some (aI 0)) (G, c')) : TM (d + 1) 233 [aR 188, aI (mT S), aI s, aI k] (G, c) Q := by
  have g := hR.1
  have mb := mT_b hR
  have go : ∀ j, 0 ≤ j → j ≤ mT S → ∀ c2 : CC, (∀ r, ¬ r = 188 → ¬ r = 204 → c2 r = c r) → (∀ i, ¬ i = 34 → c2 188 i = c 188 i) → c2 188 34 = chW way j → (∀ q, 0 ≤ q → q < j → alT S q (sgW S way q) ∧ (wT S q = s → sgW S way q = k)) → (∀ x, 0 ≤ x → x < S 0 → c2 204 x = S (9 + x) - cntI (sgW S way) j x ∧ 0 ≤ c2 204 x ∧ c2 204 x ≤ 9) → T (d + 1) 233 45 [some (aR 188), some (aI (mT S)), some (aI s), some (aI k), some (aI j), none] [] (G, c2) (QM Q) := by
    refine int_ind ?_ ?_
    · intro c2 f1 f2 f3 f4 f5
      refine b233_45 hG (by omega) (by omega) ?_ (by intros; exfalso; omega) (by intros; exfalso; omega) rfl rfl ?_
      · intro p
        refine hz1 c2 ((fe_iff hR).mpr ⟨f4, fun x h1 h2 => ?_⟩) f1 f2 f3
        have := f5 x h1 h2; omega
      · intro p; omega
    · intro j p1 p2 ih c2 f1 f2 f3 f4 f5
      have wb := wT_b hR hI p1 p2
      have sb := sgW_b hR hI hw p1 p2
      have wj := hw j p1 p2
      have c190 : c2 190 = S := by rw [f1 190 (by omega) (by omega)]; exact e190
      have c197 : c2 197 j = wT S j := by rw [f1 197 (by omega) (by omega)]; exact e197 j p1 p2
      have c198 : c2 198 j = way j := by rw [f1 198 (by omega) (by omega)]; exact e198 j p1 p2
      refine b233_45 hG (by intros; omega) (by intros; omega) ?_ (by intros; omega) (by intros; omega) (c197) (c198) ?_
      · intro p; omega
      · intro p
        refine r_kindBy hG (by omega) (by rw [c190]; omega) (by omega) ?_
        rw [c190]
        show T _ 233 69 _ [aI (sgW S way j)] _ _
        refine b233_69 hG (by intros; omega) (by intros; omega) (c197) (by intros; omega) (by intros; omega) (congrFun c190 _) ?_
        refine r_bitOf hG ?_
        have hb : bt (S (51 + wT S j)) (sgW S way j) = 0 ∨ bt (S (51 + wT S j)) (sgW S way j) = 1 := bt_01
        have fx := f5 (sgW S way j) sb.1.1 sb.1.2
        have ch : chW way (j + 1) = chW way j + (if 0 < way j then 1 else 0) := sumI_s p1
        have cn : ∀ x, cntI (sgW S way) (j + 1) x = cntI (sgW S way) j x + (if sgW S way j = x then 1 else 0) := fun x => sumI_s p1
        have ok : ∀ (e : Int), alT S j (sgW S way j) → (wT S j = s → sgW S way j = k) → ¬ c2 204 (sgW S way j) = 0 → e = (if 0 < way j then 1 else 0) → T (d + 1) 233 45 [some (aR 188), some (aI (mT S)), some (aI s), some (aI k), some (aI (j + 1)), none] [] (G, (q_up (q_up c2 204 (sgW S way j) (c2 204 (sgW S way j) - 1)) 188 34 (chW way j + e))) (QM Q) := by
          intro e a1 a2 a3 a4
          refine ih _ (fun r h1 h2 => by rw [up_r h1, up_r h2]; exact f1 r h1 h2) (fun i hi => by rw [up_n (by omega), up_n (by omega)]; exact f2 i hi) (by rw [up_e, ch, a4]) (fun q q1 q2 => ?_) (fun x x1 x2 => ?_)
          · by_cases hq : q = j
            · rw [hq]; exact ⟨a1, a2⟩
            · exact f4 q q1 (by omega)
          · rw [cn x, up_n (by omega)]
            have := f5 x x1 x2
            by_cases hx : x = sgW S way j
            · rw [hx, up_e, if_pos rfl]; rw [hx] at this; omega
            · rw [up_n (by omega), if_neg (by omega)]; omega
        have bad : ¬ (alT S j (sgW S way j) ∧ (wT S j = s → sgW S way j = k) ∧ ¬ c2 204 (sgW S way j) = 0) → Q (some (aI 0)) (G, c2) := by
          intro hn
          refine hz0 c2 (fun z => hn ?_) f1 f2
          have hF := (fe_iff hR).mp z
          refine ⟨(hF.1 j p1 p2).1, (hF.1 j p1 p2).2, fun z2 => ?_⟩
          have h1 := hF.2 (sgW S way j) sb.1.1 sb.1.2
          have h2 : ∀ q, j + 1 ≤ q → q ≤ mT S → cntI (sgW S way) (j + 1) (sgW S way j) ≤ cntI (sgW S way) q (sgW S way j) := by
            refine int_up (Int.le_refl _) ?_
            intro q q1 q2 ih3
            have : cntI (sgW S way) (q + 1) (sgW S way j) = cntI (sgW S way) q (sgW S way j) + (if sgW S way q = sgW S way j then 1 else 0) := sumI_s (by omega)
            rw [this]; split <;> omega
          have h3 := h2 (mT S) (by omega) (Int.le_refl _)
          rw [cn, if_pos rfl] at h3
          omega
        refine b233_91 hG TM_eqo (by intros; omega) ?_ (by intros; omega) (by intros; omega) (c197) (by intros; omega) (by intros; omega) (by intros; omega) (by intros; omega) rfl (by intros; omega) rfl ((up_n (by omega)).trans f3) ((up_n (by omega)).trans c198) (by intros; omega) ?_ ?_ ?_ (by intros; omega) (by intros; omega) ?_ (by intros; omega) (by intros; omega) rfl (by intros; omega) rfl ((up_n (by omega)).trans f3) ((up_n (by omega)).trans c198) (by intros; omega) ?_ ?_ ?_
        · intro q; exact bad (fun z => by have := z.1; unfold alT at this; omega)
        · intro q q2 q3 q4
          exact ok 0 (by unfold alT; omega) (fun z => absurd z q2) q3 (by rw [if_neg (by omega)])
        · intro q q2 q3 q4
          exact ok 1 (by unfold alT; omega) (fun z => absurd z q2) q3 (by rw [if_pos q4])
        · intro q q2 q3; exact bad (fun z => z.2.2 q3)
        · intro q q2 q3; exact bad (fun z => q3 (z.2.1 q2))
        · intro q q2 q3 q4 q5
          exact ok 0 (by unfold alT; omega) (fun _ => q3) q4 (by rw [if_neg (by omega)])
        · intro q q2 q3 q4 q5
          exact ok 1 (by unfold alT; omega) (fun _ => q3) q4 (by rw [if_pos q5])
        · intro q q2 q3 q4; exact bad (fun z => z.2.2 q4)
  have cp : ∀ x, 0 ≤ x → x ≤ S 0 → ∀ c2 : CC, (∀ r, ¬ r = 204 → c2 r = c r) → (∀ q, 0 ≤ q → q < x → c2 204 q = S (9 + q)) → T (d + 1) 233 3 [some (aR 188), some (aI (mT S)), some (aI s), some (aI k), some (aI x), none] [] (G, c2) (QM Q) := by
    refine int_ind ?_ ?_
    · intro c2 f1 f2
      refine b233_3 hG ((congrFun (f1 190 (by omega)) 0).trans (congrFun e190 0)) (by omega) (by omega) ?_ (by intros; exfalso; omega) (by intros; exfalso; omega) rfl (by intros; exfalso; omega) (by intros; exfalso; omega) ?_
      · intro p
        refine go 0 (by omega) mb.1 _ (fun r h1 h2 => by rw [up_r h1]; exact f1 r h2) (fun i hi => by rw [up_n (by omega), f1 188 (by omega)]) (by rw [up_e]; exact (sumI_0 (by omega)).symm) (fun q q1 q2 => by omega) (fun x x1 x2 => ?_)
        have z : cntI (sgW S way) 0 x = 0 := sumI_0 (by omega)
        have pl := hR.2.1 x x1 x2
        rw [up_n (by omega), f2 x x1 x2, z]; omega
      · intro p; omega
    · intro x p1 p2 ih c2 f1 f2
      have c190 : c2 190 = S := by rw [f1 190 (by omega)]; exact e190
      refine b233_3 hG (congrFun c190 0) (by intros; omega) (by intros; omega) ?_ (by intros; omega) (by intros; omega) (congrFun c190 (9 + x)) (by intros; omega) (by intros; omega) ?_
      · intro p; omega
      · intro p
        refine ih _ (fun r h1 => by rw [up_r h1]; exact f1 r h1) (fun q q1 q2 => ?_)
        by_cases hq : q = x
        · rw [hq, up_e]
        · rw [up_n (by omega)]; exact f2 q q1 (by omega)
  refine b233_0 hG ?_
  exact cp 0 (by omega) g.1 c (fun _ _ => rfl) (fun q q1 q2 => by omega)
def AccA (S : SS) (r : Int → Int) (acc : Int × (Int → Int)) : Prop := (-1 ≤ acc.1 ∧ acc.1 ≤ 8) ∧ (0 ≤ acc.1 → ∀ j, 0 ≤ j → j < mT S → r (wT S j) = sgW S acc.2 j)
def StA (S : SS) (c0 : CC) (way : Int → Int) (acc : Int × (Int → Int)) (c : CC) : Prop := (∀ r, ¬ r = 188 → ¬ r = 198 → ¬ r = 203 → ¬ r = 204 → c r = c0 r) ∧ (∀ i, ¬ i = 34 → c 188 i = c0 188 i) ∧ (∀ j, 0 ≤ j → j < mT S → c 198 j = way j) ∧ AccA S (c 203) acc
theorem r_evA (hG : Shp G) (hR : InvR S) (hI : InvL S) (hw : Box way (mT S) (S 0)) (hs : I32 s) (hk : I32 k) (e190 : c0 190 = S) (e197 : ∀ j, 0 ≤ j → j < mT S → c0 197 j = wT S j) (v5 : Int) (h5 : ¬ v5 = 0) (h5b : I32 v5) (hS : StA S c0 way acc c) (hz : ∀ c', StA S c0 way (asr S s k 0 (mT S) way acc) c' → TM (d + 2) 234 [aR 188, aI (mT S)] (G, c') (fun r h' => T (d + 3) 235 195 [some (aR 188), some (aI s), some (aI k), some (aI (mT S)), some (aI (asr S s k 0 (mT S) way acc).1), none, none] (r.toList ++ []) h' (QM Q))) : T (d + 3) 235 110 [some (aR 188), some (aI s), some (aI k), some (aI (mT S)), some (aI acc.1), some (aI v5), none] [] (G, c) (QM Q) := by
  have g := hR.1
  have mb := mT_b hR
  obtain ⟨f1, f2, f3, f4⟩ := hS
  have fb := f4.1
  have cw := chW_b (way := way) mb.1
  have ea : asr S s k 0 (mT S) way acc = if feF S s k way = 1 ∧ (acc.1 < 0 ∨ chW way (mT S) < acc.1) then (chW way (mT S), way) else acc := rfl
  rw [ea] at hz
  refine b235_110 hG TM_eqo (by intros; omega) ?_ ?_
  · intro p; omega
  · intro p
    have c190 : c 190 = S := by rw [f1 190 (by omega) (by omega) (by omega) (by omega)]; exact e190
    have c197 : ∀ j, 0 ≤ j → j < mT S → c 197 j = wT S j := fun j h1 h2 => by rw [f1 197 (by omega) (by omega) (by omega) (by omega)]; exact e197 j h1 h2
    refine r_canBe hG hR hI hw hs hk c190 c197 f3 ?_ ?_
    · intro c2 hF k1 k2 k3
      have kp : (acc.1 < 0 ∨ chW way (mT S) < acc.1) → T (d + 3) 235 148 [some (aR 188), some (aI s), some (aI k), some (aI (mT S)), some (aI (chW way (mT S))), none, some (aI 0)] [] (G, c2) (QM Q) := by
        intro hb
        rw [if_pos ⟨hF, hb⟩] at hz
        have fl : ∀ j, 0 ≤ j → j ≤ mT S → ∀ c4 : CC, (∀ r, ¬ r = 203 → c4 r = c2 r) → (∀ q, 0 ≤ q → q < j → c4 203 (wT S q) = sgW S way q) → T (d + 3) 235 148 [some (aR 188), some (aI s), some (aI k), some (aI (mT S)), some (aI (chW way (mT S))), none, some (aI j)] [] (G, c4) (QM Q) := by
          refine int_ind ?_ ?_
          · intro c4 l1 l2
            refine b235_148 hG TM_eqo (by omega) (by omega) ?_ (by intros; exfalso; omega) (by intros; exfalso; omega) rfl rfl rfl ?_
            · intro p5
              refine hz c4 ⟨fun r h1 h2 h3 h4 => by rw [l1 r h3, k1 r h1 h4]; exact f1 r h1 h2 h3 h4, fun i hi => by rw [l1 188 (by omega), k2 i hi]; exact f2 i hi, fun j j1 j2 => by rw [l1 198 (by omega), k1 198 (by omega) (by omega)]; exact f3 j j1 j2, ⟨by show -1 ≤ chW way (mT S) ∧ chW way (mT S) ≤ 8; omega, fun _ => l2⟩⟩
            · intro p5; omega
          · intro j p5 p6 ih c4 l1 l2
            have wb := wT_b hR hI p5 p6
            have wj := hw j p5 p6
            have d190 : c4 190 = S := by rw [l1 190 (by omega), k1 190 (by omega) (by omega)]; exact c190
            have d197 : c4 197 j = wT S j := by rw [l1 197 (by omega), k1 197 (by omega) (by omega)]; exact c197 j p5 p6
            have d198 : c4 198 j = way j := by rw [l1 198 (by omega), k1 198 (by omega) (by omega)]; exact f3 j p5 p6
            refine b235_148 hG TM_eqo (by intros; omega) (by intros; omega) ?_ (by intros; omega) (by intros; omega) (d197) (d197) (d198) ?_
            · intro p7; omega
            · intro p7
              refine r_kindBy hG (by omega) (by rw [d190]; omega) (by omega) ?_
              rw [d190]
              refine b235_183 hG (by intros; omega) (by intros; omega) ?_
              refine ih _ (fun r h1 => by rw [up_r h1]; exact l1 r h1) (fun q q1 q2 => ?_)
              by_cases hq : q = j
              · rw [hq, up_e]; rfl
              · have : ¬ wT S q = wT S j := fun z => hq (wT_inj hR q1 (by omega) p5 p6 z)
                rw [up_n (by omega)]; exact l2 q q1 (by omega)
        exact fl 0 (by omega) mb.1 c2 (fun _ _ => rfl) (fun q q1 q2 => by omega)
      refine b235_122 hG (by intros; omega) ?_ (by intros; omega) (k3) ?_ (k3) (by intros; omega) ?_ (k3) ?_
      · intro q; omega
      · intro q q2; exact kp (by omega)
      · intro q q2 q3
        rw [if_neg (by omega)] at hz
        exact hz c2 ⟨fun r h1 h2 h3 h4 => by rw [k1 r h1 h4]; exact f1 r h1 h2 h3 h4, fun i hi => by rw [k2 i hi]; exact f2 i hi, fun j j1 j2 => by rw [k1 198 (by omega) (by omega)]; exact f3 j j1 j2, by rw [k1 203 (by omega) (by omega)]; exact f4⟩
      · intro q q2 q3; exact kp (by omega)
    · intro c2 hF k1 k2
      rw [if_neg (fun z => hF z.1)] at hz
      refine b235_122 hG (by omega) ?_ (by intros; exfalso; omega) rfl ?_ rfl (by intros; exfalso; omega) ?_ rfl ?_
      · intro q
        exact hz c2 ⟨fun r h1 h2 h3 h4 => by rw [k1 r h1 h4]; exact f1 r h1 h2 h3 h4, fun i hi => by rw [k2 i hi]; exact f2 i hi, fun j j1 j2 => by rw [k1 198 (by omega) (by omega)]; exact f3 j j1 j2, by rw [k1 203 (by omega) (by omega)]; exact f4⟩
      · intro q; omega
      · intro q; omega
      · intro q; omega
theorem r_runA (hG : Shp G) (hR : InvR S) (hI : InvL S) (hK : 1 ≤ S 0) (hs : I32 s) (hk : I32 k) (e190 : c0 190 = S) (e197 : ∀ j, 0 ≤ j → j < mT S → c0 197 j = wT S j) : ∀ (t : Nat) (i : Int) (way : Int → Int) (acc : Int × (Int → Int)) (c : CC) (v5 : Int), i + t = mT S → 0 ≤ i → Box way (mT S) (S 0) → (∀ j, i ≤ j → j < mT S → way j = 0) → ¬ v5 = 0 → I32 v5 → StA S c0 way acc c → (∀ c', StA S c0 way (asr S s k t i way acc) c' → T (d + 2) 234 4 [some (aR 188), none, some (aI (i - 1))] [] (G, c') (QM (fun r h' => T (d + 3) 235 195 [some (aR 188), some (aI s), some (aI k), some (aI (mT S)), some (aI (asr S s k t i way acc).1), none, none] (r.toList ++ []) h' (QM Q)))) → T (d + 3) 235 110 [some (aR 188), some (aI s), some (aI k), some (aI (mT S)), some (aI acc.1), some (aI v5), none] [] (G, c) (QM Q) := by
  have g := hR.1
  have mb := mT_b hR
  intro t
  induction t with
  | zero =>
    intro i way acc c v5 g1 g2 hway hz0 h5 h5b hS hz
    have e : i = mT S := by omega
    subst e
    refine r_evA hG hR hI hway hs hk e190 e197 v5 h5 h5b hS ?_
    intro c2 h2
    refine b234_0 hG TM_eqo ?_
    exact hz c2 h2
  | succ t ih =>
    intro i way acc c v5 g1 g2 hway hz0 h5 h5b hS hz
    have esr : asr S s k (t + 1) i way acc = loopI (fun a acc => asr S s k t (i + 1) (q_u1 way i a) acc) (S 0) acc := rfl
    have wi := hz0 i (Int.le_refl i) (by omega)
    have key : ∀ a, 0 ≤ a → a ≤ S 0 - 1 → ∀ (c3 : CC) (v5 : Int), ¬ v5 = 0 → I32 v5 → StA S c0 (q_u1 way i a) (loopI (fun a acc => asr S s k t (i + 1) (q_u1 way i a) acc) a acc) c3 → T (d + 3) 235 110 [some (aR 188), some (aI s), some (aI k), some (aI (mT S)), some (aI (loopI (fun a acc => asr S s k t (i + 1) (q_u1 way i a) acc) a acc).1), some (aI v5), none] [] (G, c3) (QM Q) := by
      have wy : ∀ a, 0 ≤ a → a < S 0 → Box (q_u1 way i a) (mT S) (S 0) := fun a a1 a2 j p1 p2 => by
        by_cases hj : j = i
        · rw [hj, u1_e]; omega
        · rw [u1_n hj]; exact hway j p1 p2
      have wz : ∀ a j, i + 1 ≤ j → j < mT S → q_u1 way i a j = 0 := fun a j p1 p2 => by
        rw [u1_n (by omega)]; exact hz0 j (by omega) p2
      have nx : ∀ a, 0 ≤ a → loopI (fun a acc => asr S s k t (i + 1) (q_u1 way i a) acc) (a + 1) acc = asr S s k t (i + 1) (q_u1 way i a) (loopI (fun a acc => asr S s k t (i + 1) (q_u1 way i a) acc) a acc) := fun a ha => loopI_s ha
      refine int_ind ?_ ?_
      · intro c3 v5 q1 q2 hS3
        refine ih (i + 1) (q_u1 way i (S 0 - 1)) _ c3 v5 (by omega) (by omega) (wy (S 0 - 1) (by omega) (by omega)) (wz (S 0 - 1)) q1 q2 hS3 ?_
        intro c4 h4
        rw [← nx (S 0 - 1) (by omega), show S 0 - 1 + 1 = S 0 by omega, ← esr] at h4 ⊢
        obtain ⟨f1, f2, f3, f4⟩ := h4
        have e1 := f3 i g2 (by omega)
        rw [u1_e] at e1
        have c190 : c4 190 = S := by rw [f1 190 (by omega) (by omega) (by omega) (by omega)]; exact e190
        refine b234_4 hG (by intros; omega) ?_ (by intros; omega) (by intros; omega) ((show c4 198 (i + 1 - 1) = S 0 - 1 by rw [show i + 1 - 1 = i by omega]; exact e1)) (up_e) ((up_n (by omega)).trans (congrFun c190 0)) (by intros; omega) (by intros; omega) ?_ ?_
        · intro p; omega
        · intro p p2
          rw [show i + 1 - 1 + -1 = i - 1 by omega, show i + 1 - 1 = i by omega]
          refine hz _ ⟨fun r h1 h2 h3 h4 => by rw [up_r h2, up_r h2]; exact f1 r h1 h2 h3 h4, fun i hi => by rw [up_n (by omega), up_n (by omega)]; exact f2 i hi, fun j p1 p2 => ?_, by rw [up_r (by omega), up_r (by omega)]; exact f4⟩
          by_cases hj : j = i
          · rw [hj, up_e]; exact wi.symm
          · rw [up_n (by omega), up_n (by omega), f3 j p1 p2, u1_n hj]
        · intro p p2; omega
      · intro a p1 p2 ih2 c3 v5 q1 q2 hS3
        refine ih (i + 1) (q_u1 way i a) _ c3 v5 (by omega) (by omega) (wy a p1 (by omega)) (wz a) q1 q2 hS3 ?_
        intro c4 h4
        rw [← nx a p1] at h4 ⊢
        obtain ⟨f1, f2, f3, f4⟩ := h4
        have e1 := f3 i g2 (by omega)
        rw [u1_e] at e1
        have c190 : c4 190 = S := by rw [f1 190 (by omega) (by omega) (by omega) (by omega)]; exact e190
        refine b234_4 hG (by intros; omega) ?_ (by intros; omega) (by intros; omega) ((show c4 198 (i + 1 - 1) = a by rw [show i + 1 - 1 = i by omega]; exact e1)) (up_e) ((up_n (by omega)).trans (congrFun c190 0)) (by intros; omega) (by intros; omega) ?_ ?_
        · intro p; omega
        · intro p p3; omega
        · intro p p3
          refine b235_195 hG ?_
          rw [show i + 1 - 1 = i by omega]
          refine ih2 _ 1 (by omega) (by omega) ⟨fun r h1 h2 h3 h4 => by rw [up_r h2]; exact f1 r h1 h2 h3 h4, fun i hi => by rw [up_n (by omega)]; exact f2 i hi, fun j p1 p2 => ?_, by rw [up_r (by omega)]; exact f4⟩
          by_cases hj : j = i
          · rw [hj, up_e, u1_e]
          · rw [up_n (by omega), f3 j p1 p2, u1_n hj, u1_n hj]
    have := key 0 (by omega) (by omega) c v5 h5 h5b (by
      rw [loopI_0 (by omega), u1_self wi]; exact hS)
    rw [loopI_0 (by omega)] at this
    exact this
end SPac
