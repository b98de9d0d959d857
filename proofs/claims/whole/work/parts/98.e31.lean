section SPoj
variable {d d1 d2 r n0 : Nat} {G : GG} {c c' cA cB cA0 cB0 cA' cB' cA1 cB1 : CC} {Q : Option AV → HH → Prop} {v v1 v2 N K g k p len most stop a b w w' to x y z m M s : Int} {j i' n : Nat} {B f fS : Int → Int} {S H old : SS}
theorem c_clear18 (hG : Shp G) (hz : ∀ c', (∀ r, ¬ r = 18 → ¬ r = 23 → ¬ r = 26 → c' r = c r) → c' 18 0 = 0 → c' 18 1 = 0 → c' 18 2 = -1 → (∀ i, 0 ≤ i → i < 36 → c' 23 i = -1) → (∀ i, 0 ≤ i → i < 64 → c' 26 i = 0) → Q none (G, c')) : TM d 74 [aR 18] (G, c) Q := by
  have k2 : ∀ i, 0 ≤ i → i ≤ 64 → ∀ c2 : CC, (∀ r, ¬ r = 18 → ¬ r = 23 → ¬ r = 26 → c2 r = c r) → c2 18 0 = 0 → c2 18 1 = 0 → c2 18 2 = -1 → (∀ i, 0 ≤ i → i < 36 → c2 23 i = -1) → (∀ q, 0 ≤ q → q < i → c2 26 q = 0) → T d 74 41 [some (aR 18), some (aI i)] [] (G, c2) (QM Q) := by
    refine int_ind ?_ ?_
    · intro c2 g1 g2 g3 g4 g5 g6
      refine b74_41 hG (ru18) (by intros; omega) ?_ (by intros; omega) (by intros; omega) ?_
      · intro q; exact hz c2 g1 g2 g3 g4 g5 g6
      · intro q; omega
    · intro i q1 q2 ih c2 g1 g2 g3 g4 g5 g6
      refine b74_41 hG (ru18) (by intros; omega) ?_ (by intros; omega) (by intros; omega) ?_
      · intro q; omega
      · intro q
        refine ih _ (fun r h1 h2 h3 => (up_r (by omega)).trans (g1 r h1 h2 h3)) ((up_n (by omega)).trans g2) ((up_n (by omega)).trans g3) ((up_n (by omega)).trans g4) (fun i h1 h2 => (up_n (by omega)).trans (g5 i h1 h2)) (fun q h1 h2 => ?_)
        by_cases hq : q = i
        · rw [hq]; exact up_e
        · rw [up_n (by omega)]; exact g6 q h1 (by omega)
  have k1 : ∀ i, 0 ≤ i → i ≤ 36 → ∀ c2 : CC, (∀ r, ¬ r = 18 → ¬ r = 23 → ¬ r = 26 → c2 r = c r) → c2 18 0 = 0 → c2 18 1 = 0 → c2 18 2 = -1 → (∀ q, 0 ≤ q → q < i → c2 23 q = -1) → T d 74 17 [some (aR 18), some (aI i)] [] (G, c2) (QM Q) := by
    refine int_ind ?_ ?_
    · intro c2 g1 g2 g3 g4 g5
      refine b74_17 hG (ru18) (by intros; omega) ?_ (by intros; omega) (by intros; omega) ?_
      · intro q; exact k2 0 (by omega) (by omega) c2 g1 g2 g3 g4 g5 (fun q h1 h2 => by omega)
      · intro q; omega
    · intro i q1 q2 ih c2 g1 g2 g3 g4 g5
      refine b74_17 hG (ru18) (by intros; omega) ?_ (by intros; omega) (by intros; omega) ?_
      · intro q; omega
      · intro q
        refine ih _ (fun r h1 h2 h3 => (up_r (by omega)).trans (g1 r h1 h2 h3)) ((up_n (by omega)).trans g2) ((up_n (by omega)).trans g3) ((up_n (by omega)).trans g4) (fun q h1 h2 => ?_)
        by_cases hq : q = i
        · rw [hq]; exact up_e
        · rw [up_n (by omega)]; exact g5 q h1 (by omega)
  refine b74_0 hG (ru18) ?_
  refine k1 0 (by omega) (by omega) _ (fun r h1 h2 h3 => by rw [up_r h1, up_r h1, up_r h1]) ?_ ?_ up_e (fun q h1 h2 => by omega)
  · rw [up_n (by omega), up_n (by omega), up_e]
  · rw [up_n (by omega), up_e]
theorem c_fill18 (hG : Shp G) (e0 : c 18 0 = K) (e1 : c 18 1 = N) (e2 : c 18 2 = g) (b0 : 0 ≤ K ∧ K ≤ 6) (b1 : 0 ≤ N ∧ N ≤ 8) (b2 : -1 ≤ g ∧ g ≤ 9) (b3 : ∀ i, 0 ≤ i → i < 36 → I32 (c 23 i)) (b4 : ∀ i, 0 ≤ i → i < N → I32 (c 24 i)) (hz : ∀ c', (∀ r, ¬ r = 18 → ¬ r = 23 → ¬ r = 24 → c' r = c r) → c' 18 0 = K → c' 18 1 = N → c' 18 2 = (if g < 0 then 0 else g) → (∀ i, 0 ≤ i → i < 36 → c' 23 i = if c 23 i < 0 then 0 else c 23 i) → (∀ i, 0 ≤ i → i < N → c' 24 i = if c 24 i = 0 then q_shl 1 K - 1 else c 24 i) → Q none (G, c')) : TM d 75 [aR 18] (G, c) Q := by
  have k2 : ∀ i, 0 ≤ i → i ≤ N → ∀ c2 : CC, (∀ r, ¬ r = 18 → ¬ r = 23 → ¬ r = 24 → c2 r = c r) → c2 18 0 = K → c2 18 1 = N → c2 18 2 = (if g < 0 then 0 else g) → (∀ i, 0 ≤ i → i < 36 → c2 23 i = if c 23 i < 0 then 0 else c 23 i) → (∀ q, 0 ≤ q → q < i → c2 24 q = if c 24 q = 0 then q_shl 1 K - 1 else c 24 q) → (∀ q, i ≤ q → c2 24 q = c 24 q) → T d 75 47 [some (aR 18), some (aI i)] [] (G, c2) (QM Q) := by
    refine int_ind ?_ ?_
    · intro c2 g1 g2 g3 g4 g5 g6 g7
      refine b75_47 hG (ru18) (g3) (by omega) (by omega) ?_ (by intros; exfalso; omega) (by intros; exfalso; omega) rfl (by intros; exfalso; omega) rfl ?_ rfl ?_
      · intro q; exact hz c2 g1 g2 g3 g4 g5 g6
      · intro q; omega
      · intro q; omega
    · intro i q1 q2 ih c2 g1 g2 g3 g4 g5 g6 g7
      have b4i := b4 i q1 q2
      refine b75_47 hG (ru18) (g3) (by intros; omega) (by intros; omega) ?_ (by intros; omega) (by intros; omega) (g7 i (by omega)) (by intros; omega) (g7 i (by omega)) ?_ (g2) ?_
      · intro q; omega
      · intro q p0
        refine ih _ (fun r h1 h2 h3 => (up_r (by omega)).trans (g1 r h1 h2 h3)) ((up_n (by omega)).trans g2) ((up_n (by omega)).trans g3) ((up_n (by omega)).trans g4) (fun i h1 h2 => (up_n (by omega)).trans (g5 i h1 h2)) (fun q h1 h2 => ?_) (fun q h1 => by rw [up_n (by omega)]; exact g7 q (by omega))
        by_cases hq : q = i
        · rw [hq, if_neg p0]; exact up_e
        · rw [up_n (by omega)]; exact g6 q h1 (by omega)
      · intro q p0
        refine ih _ (fun r h1 h2 h3 => (up_r (by omega)).trans (g1 r h1 h2 h3)) ((up_n (by omega)).trans g2) ((up_n (by omega)).trans g3) ((up_n (by omega)).trans g4) (fun i h1 h2 => (up_n (by omega)).trans (g5 i h1 h2)) (fun q h1 h2 => ?_) (fun q h1 => by rw [up_n (by omega)]; exact g7 q (by omega))
        by_cases hq : q = i
        · rw [hq, if_pos p0]; exact up_e
        · rw [up_n (by omega)]; exact g6 q h1 (by omega)
  have k1 : ∀ i, 0 ≤ i → i ≤ 36 → ∀ c2 : CC, (∀ r, ¬ r = 18 → ¬ r = 23 → ¬ r = 24 → c2 r = c r) → c2 24 = c 24 → c2 18 0 = K → c2 18 1 = N → c2 18 2 = (if g < 0 then 0 else g) → (∀ q, 0 ≤ q → q < i → c2 23 q = if c 23 q < 0 then 0 else c 23 q) → (∀ q, i ≤ q → c2 23 q = c 23 q) → T d 75 14 [some (aR 18), some (aI i)] [] (G, c2) (QM Q) := by
    refine int_ind ?_ ?_
    · intro c2 g1 g2 g3 g4 g5 g6 g7
      refine b75_14 hG (ru18) (by omega) ?_ (by omega) (by intros; exfalso; omega) rfl (by intros; exfalso; omega) ?_
      · intro q; exact k2 0 (by omega) (by omega) c2 g1 g3 g4 g5 g6 (fun q h1 h2 => by omega) (fun q h1 => by rw [g2])
      · intro q; omega
    · intro i q1 q2 ih c2 g1 g2 g3 g4 g5 g6 g7
      have b3i := b3 i q1 q2
      refine b75_14 hG (ru18) (by intros; omega) ?_ (by intros; omega) (by intros; omega) (g7 i (by omega)) (by intros; omega) ?_
      · intro q; omega
      · intro q
        refine ih _ (fun r h1 h2 h3 => (up_r (by omega)).trans (g1 r h1 h2 h3)) ((up_r (by omega)).trans g2) ((up_n (by omega)).trans g3) ((up_n (by omega)).trans g4) ((up_n (by omega)).trans g5) (fun q h1 h2 => ?_) (fun q h1 => by rw [up_n (by omega)]; exact g7 q (by omega))
        by_cases hq : q = i
        · rw [hq]; exact up_e
        · rw [up_n (by omega)]; exact g6 q h1 (by omega)
  refine b75_0 hG (ru18) (e2) (by intros; omega) ?_
  exact k1 0 (by omega) (by omega) _ (fun r h1 h2 h3 => up_r h1) (up_r (by omega)) ((up_n (by omega)).trans e0) ((up_n (by omega)).trans e1) up_e (fun q h1 h2 => by omega) (fun q h1 => by rw [up_n (by omega)])
theorem c_lifeBegin (hG : Shp G) (hR : InvR S) (hr : RR c 9 S) (hS : ∀ i, 168 ≤ i → i < 205 → S i = 0) (hS2 : ∀ i, 269 ≤ i → i < 333 → S i = 0) (hO : ∀ i, 0 ≤ i → i < 64 → S (205 + i) = S (67 + i)) (hz : ∀ c', FrL 27 c c' → LR c' 27 S → Q none (G, c')) : TM d 20 [aR 27] (G, c) Q := by
  have g := hR.1
  have rm : ∀ k, 0 ≤ k → k < S 0 → room S k = S (9 + k) := fun k h1 h2 => by
    have e : sumI (isAs S k) (S 1) = 0 := by
      have a1 := sumI_lo (f := isAs S k) (n := S 1) (lo := 0) (by omega) (fun i h3 h4 => by unfold isAs; split <;> omega)
      have a2 := sumI_hi (f := isAs S k) (n := S 1) (hi := 0) (by omega) (fun i h3 h4 => by
        have := hS (197 + i) (by omega) (by omega)
        unfold isAs; rw [if_neg (by omega)]; omega)
      omega
    unfold room
    rw [e]; omega
  have k2 : ∀ i, 0 ≤ i → i ≤ 64 → ∀ c2 : CC, FrL 27 c c2 → (c2 27 1 = 0 ∧ c2 27 2 = 0 ∧ c2 27 3 = 0) → (∀ q, 0 ≤ q → q < 8 → c2 28 q = -1 ∧ c2 29 q = 0 ∧ c2 30 q = 0 ∧ c2 31 q = 0) → (∀ q, 0 ≤ q → q < 6 → c2 32 q = c 13 q) → (∀ q, 0 ≤ q → q < 64 → c2 33 q = c 17 q) → (∀ q, 0 ≤ q → q < i → c2 34 q = 0) → T d 20 98 [some (aR 27), some (aI i)] [] (G, c2) (QM Q) := by
    refine int_ind ?_ ?_
    · intro c2 f1 g1 g2 g3 g4 g5
      refine b20_98 hG (lf27) (by intros; omega) ?_ (by intros; omega) (by intros; omega) ?_
      · intro q
        refine hz c2 f1 ⟨⟨?_, fun i h1 h2 => ?_, fun i h1 h2 => ?_, fun x y h1 h2 h3 => ?_⟩, fun k h1 h2 => ?_⟩
        · rw [g1.1, g1.2.1, g1.2.2, hS 168 (by omega) (by omega), hS 169 (by omega) (by omega), hS 170 (by omega) (by omega)]; omega
        · have := g2 i h1 h2
          rw [hS (173 + i) (by omega) (by omega), hS (181 + i) (by omega) (by omega), hS (189 + i) (by omega) (by omega), hS (197 + i) (by omega) (by omega)]
          exact this
        · rw [hO i h1 h2]
          exact (g4 i h1 h2).trans (hr.2.2.2.2 i h1 h2)
        · rw [hS2 (269 + 8 * x + y) (by omega) (by omega)]
          exact g5 (8 * x + y) (by omega) (by omega)
        · rw [rm k h1 h2]
          exact (g3 k h1 (by omega)).trans (hr.2.1 k h1 h2).2
      · intro q; omega
    · intro i q1 q2 ih c2 f1 g1 g2 g3 g4 g5
      refine b20_98 hG (lf27) (by intros; omega) ?_ (by intros; omega) (by intros; omega) ?_
      · intro q; omega
      · intro q
        refine ih _ (FrL_up f1 (by omega) (by omega)) g1 g2 g3 g4 (fun q h1 h2 => ?_)
        by_cases hq : q = i
        · rw [hq]; exact up_e
        · exact (up_n (by omega)).trans (g5 q h1 (by omega))
  have k1 : ∀ i, 0 ≤ i → i ≤ 8 → ∀ c2 : CC, FrL 27 c c2 → (c2 27 1 = 0 ∧ c2 27 2 = 0 ∧ c2 27 3 = 0) → (∀ q, 0 ≤ q → q < i → c2 28 q = -1 ∧ c2 29 q = 0 ∧ c2 30 q = 0 ∧ c2 31 q = 0) → T d 20 17 [some (aR 27), some (aI i)] [] (G, c2) (QM Q) := by
    refine int_ind ?_ ?_
    · intro c2 f1 g1 g2
      refine b20_17 hG (lf27) (by intros; omega) ?_ (by intros; omega) (by intros; omega) ?_
      · intro q
        refine k2 0 (by omega) (by omega) _ (FrL_uf (FrL_uf f1 (by omega) (by omega)) (by omega) (by omega)) g1 g2 (fun q h1 h2 => ?_) (fun q h1 h2 => ?_) (fun q h1 h2 => by omega)
        · show (q_uf (q_uf c2 32 _) 33 _) 32 q = _
          rw [uf_n2 (by omega), uf_e]
          show q_cp (c2 13) _ 0 0 6 q = _
          unfold q_cp
          rw [if_pos (by omega), f1 13 (by omega)]
          congr 1; omega
        · show (q_uf (q_uf c2 32 _) 33 _) 33 q = _
          rw [uf_e]
          show q_cp ((q_uf c2 32 _) 17) _ 0 0 64 q = _
          unfold q_cp
          rw [if_pos (by omega), uf_n2 (by omega), f1 17 (by omega)]
          congr 1; omega
      · intro q; omega
    · intro i q1 q2 ih c2 f1 g1 g2
      refine b20_17 hG (lf27) (by intros; omega) ?_ (by intros; omega) (by intros; omega) ?_
      · intro q; omega
      · intro q
        refine ih _ (FrL_up (FrL_up (FrL_up (FrL_up f1 (by omega) (by omega)) (by omega) (by omega)) (by omega) (by omega)) (by omega) (by omega)) g1 (fun q h1 h2 => ?_)
        show (q_up (q_up (q_up (q_up c2 28 i (-1)) 29 i 0) 30 i 0) 31 i 0) 28 q = -1 ∧ (q_up (q_up (q_up (q_up c2 28 i (-1)) 29 i 0) 30 i 0) 31 i 0) 29 q = 0 ∧ (q_up (q_up (q_up (q_up c2 28 i (-1)) 29 i 0) 30 i 0) 31 i 0) 30 q = 0 ∧ (q_up (q_up (q_up (q_up c2 28 i (-1)) 29 i 0) 30 i 0) 31 i 0) 31 q = 0
        by_cases hq : q = i
        · rw [hq]
          refine ⟨?_, ?_, ?_, up_e⟩
          · rw [up_n (by omega), up_n (by omega), up_n (by omega), up_e]
          · rw [up_n (by omega), up_n (by omega), up_e]
          · rw [up_n (by omega), up_e]
        · rw [up_n (by omega), up_n (by omega), up_n (by omega), up_n (by omega), up_n (by omega), up_n (by omega), up_n (by omega), up_n (by omega), up_n (by omega), up_n (by omega), up_n (by omega), up_n (by omega), up_n (by omega), up_n (by omega), up_n (by omega), up_n (by omega)]
          exact g2 q h1 (by omega)
  refine b20_0 hG (lf27) ?_
  exact k1 0 (by omega) (by omega) _ (FrL_up (FrL_up (FrL_up (FrL_refl (a := 27)) (by omega) (by omega)) (by omega) (by omega)) (by omega) (by omega)) ⟨rfl, rfl, rfl⟩ (fun q h1 h2 => by omega)
def of1 (H old : SS) (i : Int) : SS := fun q => if 0 ≤ q ∧ q < i then (if q < 168 then H q else 0) else old q
def of3 (H old : SS) (i : Int) : SS := fun q => if 51 ≤ q ∧ q < 51 + i ∧ H q = 0 then q_shl 1 (H 0) - 1 else of1 H old 514 q
def of4 (H old : SS) (i : Int) : SS := fun q => if 205 ≤ q ∧ q < 205 + i then H (67 + (q - 205)) else of3 H old 8 q
theorem r_offEnd (hG : Shp G) (hb : ∀ i, 0 ≤ i → i < 8 → I32 (c 191 (51 + i))) (hz : ∀ c', (∀ r, ¬ r = 188 → ¬ r = 190 → ¬ r = 193 → c' r = c r) → (∀ i, ¬ i = 23 → c' 188 i = c 188 i) → c' 188 23 = 0 → (∀ q, c' 190 q = of4 (c 191) (c 190) 64 q) → (∀ q, 0 ≤ q → q < 14 → c' 193 q = c 193 (14 + q)) → Q (some (aI (c 188 19))) (G, c')) : T (d + 1) 185 98 [some (aR 188), some (aI 0)] [] (G, c) (QM Q) := by
  have k4 : ∀ i, 0 ≤ i → i ≤ 64 → ∀ c2 : CC, (∀ r, ¬ r = 190 → ¬ r = 193 → c2 r = c r) → (∀ q, c2 190 q = of4 (c 191) (c 190) i q) → (∀ q, 0 ≤ q → q < 14 → c2 193 q = c 193 (14 + q)) → T (d + 1) 185 210 [some (aR 188), some (aI i)] [] (G, c2) (QM Q) := by
    refine int_ind ?_ ?_
    · intro c2 g1 g2 g3
      refine b185_210 hG (by omega) ((up_n (by omega)).trans (congrFun (g1 188 (by omega) (by omega)) 19)) ?_ (by intros; exfalso; omega) (by intros; exfalso; omega) rfl (by intros; exfalso; omega) (by intros; exfalso; omega) ?_
      · intro q
        exact hz _ (fun r h1 h2 h3 => (up_r h1).trans (g1 r h2 h3)) (fun i h1 => by rw [up_n (by omega), g1 188 (by omega) (by omega)]) up_e (fun q => by rw [up_r (by omega)]; exact g2 q) (fun q h1 h2 => by rw [up_r (by omega)]; exact g3 q h1 h2)
      · intro q; omega
    · intro i q1 q2 ih c2 g1 g2 g3
      have e67 : c2 190 (67 + i) = c 191 (67 + i) := by
        rw [g2]
        unfold of4 of3 of1
        rw [if_neg (by omega), if_neg (by omega), if_pos (by omega), if_pos (by omega)]
      refine b185_210 hG (by intros; omega) (up_n (by omega)) ?_ (by intros; omega) (by intros; omega) (e67) (by intros; omega) (by intros; omega) ?_
      · intro q; omega
      · intro q
        refine ih _ (fun r h1 h2 => (up_r h1).trans (g1 r h1 h2)) (fun q => ?_) (fun q h1 h2 => by rw [up_r (by omega)]; exact g3 q h1 h2)
        unfold of4
        by_cases hq : q = 205 + i
        · rw [hq, up_e, if_pos (by omega)]
          congr 1; omega
        · rw [up_n (by omega), g2]
          unfold of4
          by_cases h3 : 205 ≤ q ∧ q < 205 + i
          · rw [if_pos h3, if_pos (by omega)]
          · rw [if_neg h3, if_neg (by omega)]
  have k3 : ∀ i, 0 ≤ i → i ≤ 8 → ∀ c2 : CC, (∀ r, ¬ r = 190 → ¬ r = 193 → c2 r = c r) → (∀ q, c2 190 q = of3 (c 191) (c 190) i q) → (∀ q, 0 ≤ q → q < 14 → c2 193 q = c 193 (14 + q)) → T (d + 1) 185 165 [some (aR 188), some (aI i)] [] (G, c2) (QM Q) := by
    refine int_ind ?_ ?_
    · intro c2 g1 g2 g3
      refine b185_165 hG (by omega) ?_ (by omega) (by intros; exfalso; omega) rfl (by intros; exfalso; omega) ?_ rfl ?_
      · intro q
        refine k4 0 (by omega) (by omega) c2 g1 (fun q => ?_) g3
        rw [g2]
        unfold of4
        rw [if_neg (by omega)]
      · intro q; omega
      · intro q; omega
    · intro i q1 q2 ih c2 g1 g2 g3
      have hbi := hb i q1 q2
      have e51 : c2 190 (51 + i) = c 191 (51 + i) := by
        rw [g2]
        unfold of3 of1
        rw [if_neg (by omega), if_pos (by omega), if_pos (by omega)]
      have e0 : c2 190 0 = c 191 0 := by
        rw [g2]
        unfold of3 of1
        rw [if_neg (by omega), if_pos (by omega), if_pos (by omega)]
      refine b185_165 hG (by intros; omega) ?_ (by intros; omega) (by intros; omega) (e51) (by intros; omega) ?_ (e0) ?_
      · intro q; omega
      · intro q p0
        refine ih c2 g1 (fun q => ?_) g3
        rw [g2]
        unfold of3
        by_cases hq : q = 51 + i
        · rw [hq, if_neg (by omega), if_neg (by omega)]
        · by_cases h3 : 51 ≤ q ∧ q < 51 + i ∧ c 191 q = 0
          · rw [if_pos h3, if_pos (by omega)]
          · rw [if_neg h3, if_neg (by omega)]
      · intro q p0
        refine ih _ (fun r h1 h2 => (up_r h1).trans (g1 r h1 h2)) (fun q => ?_) (fun q h1 h2 => by rw [up_r (by omega)]; exact g3 q h1 h2)
        unfold of3
        by_cases hq : q = 51 + i
        · rw [hq, up_e, if_pos (by omega)]
        · rw [up_n (by omega), g2]
          unfold of3
          by_cases h3 : 51 ≤ q ∧ q < 51 + i ∧ c 191 q = 0
          · rw [if_pos h3, if_pos (by omega)]
          · rw [if_neg h3, if_neg (by omega)]
  have k2 : ∀ i, 0 ≤ i → i ≤ 14 → ∀ c2 : CC, (∀ r, ¬ r = 190 → ¬ r = 193 → c2 r = c r) → (∀ q, c2 190 q = of1 (c 191) (c 190) 514 q) → (∀ q, 0 ≤ q → q < i → c2 193 q = c 193 (14 + q)) → (∀ q, i ≤ q → c2 193 q = c 193 q) → T (d + 1) 185 136 [some (aR 188), some (aI i)] [] (G, c2) (QM Q) := by
    refine int_ind ?_ ?_
    · intro c2 g1 g2 g3 g4
      refine b185_136 hG (by omega) ?_ (by intros; omega) (by intros; exfalso; omega) rfl (by intros; exfalso; omega) (by intros; exfalso; omega) ?_
      · intro q
        refine k3 0 (by omega) (by omega) c2 g1 (fun q => ?_) g3
        rw [g2]
        unfold of3
        rw [if_neg (by omega)]
      · intro q; omega
    · intro i q1 q2 ih c2 g1 g2 g3 g4
      refine b185_136 hG (by intros; omega) ?_ (by intros; omega) (by intros; omega) (g4 (14 + i) (by omega)) (by intros; omega) (by intros; omega) ?_
      · intro q; omega
      · intro q
        refine ih _ (fun r h1 h2 => (up_r h2).trans (g1 r h1 h2)) (fun q => by rw [up_r (by omega)]; exact g2 q) (fun q h1 h2 => ?_) (fun q h1 => by rw [up_n (by omega)]; exact g4 q (by omega))
        by_cases hq : q = i
        · rw [hq]; exact up_e
        · rw [up_n (by omega)]; exact g3 q h1 (by omega)
  have k1 : ∀ i, 0 ≤ i → i ≤ 514 → ∀ c2 : CC, (∀ r, ¬ r = 190 → c2 r = c r) → (∀ q, c2 190 q = of1 (c 191) (c 190) i q) → T (d + 1) 185 98 [some (aR 188), some (aI i)] [] (G, c2) (QM Q) := by
    refine int_ind ?_ ?_
    · intro c2 g1 g2
      refine b185_98 hG (by intros; omega) ?_ (by intros; omega) (by intros; omega) ?_ (by intros; omega) (by intros; omega) rfl (by intros; omega) ?_
      · intro q
        exact k2 0 (by omega) (by omega) c2 (fun r h1 _ => g1 r h1) g2 (fun q h1 h2 => by omega) (fun q _ => by rw [g1 193 (by omega)])
      · intro q; omega
      · intro q; omega
    · intro i q1 q2 ih c2 g1 g2
      refine b185_98 hG (by intros; omega) ?_ (by intros; omega) (by intros; omega) ?_ (by intros; omega) (by intros; omega) (congrFun (g1 191 (by omega)) i) (by intros; omega) ?_
      · intro q; omega
      · intro q p0
        refine ih _ (fun r h1 => (up_r h1).trans (g1 r h1)) (fun q => ?_)
        unfold of1
        by_cases hq : q = i
        · rw [hq, up_e, if_pos (by omega), if_neg (by omega)]
        · rw [up_n (by omega), g2]
          unfold of1
          by_cases h3 : 0 ≤ q ∧ q < i
          · have h4 : 0 ≤ q ∧ q < i + 1 := by omega
            rw [if_pos h3, if_pos h4]
          · have h4 : ¬ (0 ≤ q ∧ q < i + 1) := by omega
            rw [if_neg h3, if_neg h4]
      · intro q p0
        refine ih _ (fun r h1 => (up_r h1).trans (g1 r h1)) (fun q => ?_)
        unfold of1
        by_cases hq : q = i
        · rw [hq, up_e, if_pos (by omega), if_pos (by omega)]
        · rw [up_n (by omega), g2]
          unfold of1
          by_cases h3 : 0 ≤ q ∧ q < i
          · have h4 : 0 ≤ q ∧ q < i + 1 := by omega
            rw [if_pos h3, if_pos h4]
          · have h4 : ¬ (0 ≤ q ∧ q < i + 1) := by omega
            rw [if_neg h3, if_neg h4]
  refine k1 0 (by omega) (by omega) c (fun _ _ => rfl) (fun q => ?_)
  unfold of1
  rw [if_neg (by omega)]
end SPoj
