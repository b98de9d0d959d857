section SPWe
variable {d : Nat} {G : GG} {c c' cA cB cA1 cB1 cA' cB' : CC} {Q : Option AV → HH → Prop} {v1 v2 v3 n i j x y b len : Int} {S S' : SS} {B : Int → Int}
def mV (S : SS) (x y b t : Int) : Int := if t < S (3 + x) ∧ b ≤ t ∧ t < b + S (3 + y) then S (15 + 6 * x + y) else 0
def lkP (S : SS) (B : Int → Int) (len x y b : Int) : Prop := ∀ t, 0 ≤ t → t < len → B t = mV S x y b t
def wyP (S : SS) (B : Int → Int) (len s1 s2 x y b : Int) : Prop := bt (S (51 + s1)) x = 1 ∧ bt (S (51 + s2)) y = 1 ∧ lkP S B len x y b
noncomputable def wst (S : SS) (B : Int → Int) (len s1 s2 x y b : Int) (p : Int × Int × Int × Int) : Int × Int × Int × Int := @ite _ (wyP S B len s1 s2 x y b) (Classical.propDecidable _) (p.1 + 1, if p.1 = 0 then (x, y, b) else p.2) p
def rowW (f : SS) (p : Int × Int × Int × Int) : SS := if p.1 = 0 then f else q_u1 (q_u1 (q_u1 f 0 p.2.1) 1 p.2.2.1) 2 p.2.2.2
theorem wst_y {s1 s2 : Int} {p : Int × Int × Int × Int} (h : wyP S B len s1 s2 x y b) : wst S B len s1 s2 x y b p = (p.1 + 1, if p.1 = 0 then (x, y, b) else p.2) := if_pos h
theorem wst_n {s1 s2 : Int} {p : Int × Int × Int × Int} (h : ¬ wyP S B len s1 s2 x y b) : wst S B len s1 s2 x y b p = p := if_neg h
theorem c_looksLike (hG : Shp G) (hR : InvR S) (hr : RR c 9 S) (e : c 2 1 = len) (hl : 0 ≤ len ∧ len ≤ 30) (hB : ∀ i, 0 ≤ i → i < len → c 3 i = B i ∧ 0 ≤ B i ∧ B i ≤ 255) (hx : 0 ≤ x ∧ x < S 0) (hy : 0 ≤ y ∧ y < S 0) (hb : 0 ≤ b ∧ b < 10) (hz1 : lkP S B len x y b → Q (some (aI 1)) (G, c)) (hz0 : ¬ lkP S B len x y b → Q (some (aI 0)) (G, c)) : TM (d + 1) 149 [aR 1, aI x, aI y, aI b] (G, c) Q := by
  have g := hR.1
  have px := hR.2.1 x hx.1 hx.2
  have py := hR.2.1 y hy.1 hy.2
  have em := hr.2.2.1 (x * 6 + y) (by omega) (by omega)
  rw [show (9 : Nat) + 5 = 14 from rfl, show 15 + (x * 6 + y) = 15 + 6 * x + y by omega] at em
  have hm := hR.2.2.1 (6 * x + y) (by omega) (by omega)
  rw [show 15 + (6 * x + y) = 15 + 6 * x + y by omega] at hm
  have ex := (hr.2.1 x hx.1 hx.2).1
  have ey := (hr.2.1 y hy.1 hy.2).1
  rw [show (9 : Nat) + 3 = 12 from rfl] at ex ey
  refine b149_0 hG ?_
  refine c_kindPair hG ?_
  refine b149_12 hG (by intros; omega) (by intros; omega) rfl ?_
  rw [em]
  have key : ∀ t, 0 ≤ t → t ≤ len → (∀ q, 0 ≤ q → q < t → B q = mV S x y b q) → T (d + 1) 149 18 [some (aR 1), some (aI x), some (aI y), some (aI b), some (aI (S (15 + 6 * x + y))), some (aI t), none] [] (G, c) (QM Q) := by
    refine int_ind ?_ ?_
    · intro hall
      refine b149_18 hG TM_eqo rfl (by intros; omega) (by intros; omega) ?_ (by intros; omega) (by intros; omega) rfl (by intros; omega) (by intros; omega) (by intros; omega) rfl (by intros; omega) ?_ ?_ (by intros; omega) (by intros; omega) (by intros; omega) rfl (by intros; omega) ?_ ?_ (by intros; omega) (by intros; omega) rfl (by intros; omega) (by intros; omega) (by intros; omega) rfl (by intros; omega) ?_ ?_ (by intros; omega) (by intros; omega) rfl (by intros; omega) (by intros; omega) ?_ ?_
      · intro p1; exact hz1 hall
      · intro p1; omega
      · intro p1; omega
      · intro p1; omega
      · intro p1; omega
      · intro p1; omega
      · intro p1; omega
      · intro p1; omega
      · intro p1; omega
    · intro t h1 h2 ih hall
      obtain ⟨b1, b2, b3⟩ := hB t h1 h2
      have yes : B t = mV S x y b t → T (d + 1) 149 18 [some (aR 1), some (aI x), some (aI y), some (aI b), some (aI (S (15 + 6 * x + y))), some (aI (t + 1)), none] [] (G, c) (QM Q) := fun h => ih (fun q q1 q2 => by
        by_cases hq : q = t
        · rw [hq]; exact h
        · exact hall q q1 (by omega))
      have no : ¬ B t = mV S x y b t → Q (some (aI 0)) (G, c) := fun h => hz0 (fun ha => h (ha t h1 h2))
      unfold mV at yes no
      refine b149_18 hG TM_eqo rfl (by intros; omega) (by intros; omega) ?_ (by intros; omega) (by intros; omega) rfl (by intros; omega) (by intros; omega) (by intros; omega) rfl (by intros; omega) ?_ ?_ (by intros; omega) (by intros; omega) (by intros; omega) rfl (by intros; omega) ?_ ?_ (by intros; omega) (by intros; omega) rfl (by intros; omega) (by intros; omega) (by intros; omega) rfl (by intros; omega) ?_ ?_ (by intros; omega) (by intros; omega) rfl (by intros; omega) (by intros; omega) ?_ ?_
      · intro p1; omega
      · intro p1 p2 p3; exact yes (by rw [if_neg (by omega)]; omega)
      · intro p1 p2 p3; exact no (by rw [if_neg (by omega)]; omega)
      · intro p1 p2 p3 p4; exact yes (by rw [if_neg (by omega)]; omega)
      · intro p1 p2 p3 p4; exact no (by rw [if_neg (by omega)]; omega)
      · intro p1 p2 p3 p4 p5; exact yes (by rw [if_neg (by omega)]; omega)
      · intro p1 p2 p3 p4 p5; exact no (by rw [if_neg (by omega)]; omega)
      · intro p1 p2 p3 p4 p5; exact yes (by rw [if_pos (by omega)]; omega)
      · intro p1 p2 p3 p4 p5; exact no (by rw [if_pos (by omega)]; omega)
  exact key 0 (by omega) (by omega) (fun q q1 q2 => by omega)
theorem r_areSo (hG : Shp G) (hR : InvR (c 190)) (e : c 188 3 = len) (hl : 0 ≤ len ∧ len ≤ 30) (hB : ∀ i, 0 ≤ i → i < len → q_and (c 189 i) 255 = B i ∧ 0 ≤ B i ∧ B i ≤ 255) (hx : 0 ≤ x ∧ x < c 190 0) (hy : 0 ≤ y ∧ y < c 190 0) (hb : 0 ≤ b ∧ b < 10) (hz1 : lkP (c 190) B len x y b → Q (some (aI 1)) (G, c)) (hz0 : ¬ lkP (c 190) B len x y b → Q (some (aI 0)) (G, c)) : TM (d + 1) 229 [aR 188, aI x, aI y, aI b] (G, c) Q := by
  have g := hR.1
  have px := hR.2.1 x hx.1 hx.2
  have py := hR.2.1 y hy.1 hy.2
  have hm := hR.2.2.1 (6 * x + y) (by omega) (by omega)
  rw [show 15 + (6 * x + y) = 15 + 6 * x + y by omega] at hm
  refine b229_0 hG ?_
  have key : ∀ t, 0 ≤ t → t ≤ len → (∀ q, 0 ≤ q → q < t → B q = mV (c 190) x y b q) → T (d + 1) 229 3 [some (aR 188), some (aI x), some (aI y), some (aI b), some (aI t), none] [] (G, c) (QM Q) := by
    refine int_ind ?_ ?_
    · intro hall
      refine b229_3 hG rfl (by intros; omega) (by intros; omega) ?_ (by intros; omega) (by intros; omega) rfl (by intros; omega) ?_ (by intros; omega) ?_ (by intros; omega) (by intros; omega) rfl (by intros; omega) ?_ (by intros; omega) (by intros; omega) rfl ?_
      · intro p1; exact hz1 hall
      · intro p1; omega
      · intro p1; omega
      · intro p1; omega
      · intro p1; omega
    · intro t h1 h2 ih hall
      obtain ⟨b1, b2, b3⟩ := hB t h1 h2
      have oct : ∀ w, I32 w → w = mV (c 190) x y b t → TM d 167 [aR 188, aI t] (G, c) (fun r h' => T (d + 1) 229 72 [some (aR 188), some (aI x), some (aI y), some (aI b), some (aI t), some (aI w)] (r.toList ++ []) h' (QM Q)) := by
        intro w hw1 hw
        refine b167_0 hG (by intros; omega) (by intros; omega) rfl ?_
        refine b229_72 hG TM_eqo (by intros; first | omega | (rw [b1]; omega)) (by intros; first | omega | (rw [b1]; omega)) ?_ ?_
        · intro p1
          rw [b1] at p1
          exact ih (fun q q1 q2 => by
            by_cases hq : q = t
            · rw [hq, p1]; exact hw
            · exact hall q q1 (by omega))
        · intro p1
          rw [b1] at p1
          exact hz0 (fun ha => p1 (by rw [ha t h1 h2]; exact hw.symm))
      unfold mV at oct
      refine b229_3 hG rfl (by intros; omega) (by intros; omega) ?_ (by intros; omega) (by intros; omega) rfl (by intros; omega) ?_ (by intros; omega) ?_ (by intros; omega) (by intros; omega) rfl (by intros; omega) ?_ (by intros; omega) (by intros; omega) rfl ?_
      · intro p1; omega
      · intro p1 p2; exact oct _ (by omega) (by rw [if_neg (by omega)])
      · intro p1 p2 p3; exact oct _ (by omega) (by rw [if_neg (by omega)])
      · intro p1 p2 p3 p4; exact oct _ (by omega) (by rw [if_neg (by omega)])
      · intro p1 p2 p3 p4; exact oct _ (by omega) (by rw [if_pos (by omega)])
  exact key 0 (by omega) (by omega) (fun q q1 q2 => by omega)
noncomputable def wsB (S : SS) (B : Int → Int) (len s1 s2 x y : Int) (p : Int × Int × Int × Int) : Int × Int × Int × Int := loopI (wst S B len s1 s2 x y) 10 p
noncomputable def wsY (S : SS) (B : Int → Int) (len s1 s2 x : Int) (p : Int × Int × Int × Int) : Int × Int × Int × Int := loopI (wsB S B len s1 s2 x) (S 0) p
noncomputable def wsX (S : SS) (B : Int → Int) (len s1 s2 : Int) (p : Int × Int × Int × Int) : Int × Int × Int × Int := loopI (wsY S B len s1 s2) (S 0) p
theorem rowW_s {f : SS} {p : Int × Int × Int × Int} (h0 : p.1 = 0) : rowW f (p.1 + 1, if p.1 = 0 then (x, y, b) else p.2) = q_u1 (q_u1 (q_u1 f 0 x) 1 y) 2 b := by
  unfold rowW
  dsimp only
  rw [if_neg (by omega), if_pos h0]
theorem rowW_t {f : SS} {p : Int × Int × Int × Int} (h0 : 0 < p.1) : rowW f (p.1 + 1, if p.1 = 0 then (x, y, b) else p.2) = rowW f p := by
  unfold rowW
  dsimp only
  rw [if_neg (by omega), if_neg (show ¬ p.1 = 0 by omega), if_neg (by omega)]
theorem c_ways_b (hG : Shp G) (hR : InvR S) (hl : 0 ≤ len ∧ len ≤ 30) (hs1 : 0 ≤ v1 ∧ v1 < S 1) (hs2 : 0 ≤ v2 ∧ v2 < S 1) (hx : 0 ≤ x ∧ x < S 0) (hy : 0 ≤ y ∧ y < S 0) (hr : RR c 9 S) (e : c 2 1 = len) (hB : ∀ i, 0 ≤ i → i < len → c 3 i = B i ∧ 0 ≤ B i ∧ B i ≤ 255) : ∀ b, 0 ≤ b → b ≤ 10 → ∀ p : Int × Int × Int × Int, 0 ≤ p.1 → p.1 ≤ 100 * x + 10 * y + b → (∀ p', p' = loopR (wst S B len v1 v2 x y) b 10 p → 0 ≤ p'.1 → p'.1 ≤ 100 * x + 10 * (y + 1) → T (d + 3) 148 20 [some (aR 1), some (aI v1), some (aI v2), some (aI p'.1), some (aI x), some (aI (y + 1)), none] [] (G, q_uf c 187 (rowW (c 187) p')) (QM Q)) → T (d + 3) 148 35 [some (aR 1), some (aI v1), some (aI v2), some (aI p.1), some (aI x), some (aI y), some (aI b)] [] (G, q_uf c 187 (rowW (c 187) p)) (QM Q) := by
  have g := hR.1
  refine int_ind ?_ ?_
  · intro p h0 h1 hk
    rw [loopR_e (by omega)] at hk
    refine b148_35 hG TM_eqo (by intros; omega) ?_ ?_
    · intro p1; exact hk p rfl h0 (by omega)
    · intro p1; omega
  · intro b h3 h4 ih p h0 h1 hk
    rw [loopR_s h4] at hk
    obtain ⟨c2, hc2⟩ : ∃ c2, c2 = q_uf c 187 (rowW (c 187) p) := ⟨_, rfl⟩
    have hr2 : RR c2 9 S := RR_fr hr (fun r q1 q2 => by rw [hc2, uf_n (by omega)])
    have e2 : c2 2 1 = len := by rw [hc2, uf_n2 (by omega)]; exact e
    have hB2 : ∀ i, 0 ≤ i → i < len → c2 3 i = B i ∧ 0 ≤ B i ∧ B i ≤ 255 := fun i q1 q2 => by rw [hc2, uf_n2 (by omega)]; exact hB i q1 q2
    have skip : ¬ wyP S B len v1 v2 x y b → T (d + 3) 148 35 [some (aR 1), some (aI v1), some (aI v2), some (aI p.1), some (aI x), some (aI y), some (aI (b + 1))] [] (G, c2) (QM Q) := by
      intro hn
      rw [wst_n hn] at hk
      rw [hc2]
      exact ih p h0 (by omega) hk
    rw [← hc2]
    refine b148_35 hG TM_eqo (by intros; omega) ?_ ?_
    · intro p1; omega
    · intro p1
      refine c_mayBe hG hr2 hs1.1 hs1.2 (by omega) ?_
      have hb1 : bt (S (51 + v1)) x = 0 ∨ bt (S (51 + v1)) x = 1 := bt_01
      refine b148_52 hG (by intros; omega) ?_ ?_
      · intro p2; exact skip (fun h => by have := h.1; omega)
      · intro p2
        refine c_mayBe hG hr2 hs2.1 hs2.2 (by omega) ?_
        have hb2 : bt (S (51 + v2)) y = 0 ∨ bt (S (51 + v2)) y = 1 := bt_01
        refine b148_65 hG (by intros; omega) ?_ ?_
        · intro p3; exact skip (fun h => by have := h.2.1; omega)
        · intro p3
          refine c_looksLike hG hR hr2 e2 hl hB2 hx hy ⟨h3, h4⟩ (fun hlk => ?_) (fun hlk => ?_)
          · have hy' : wyP S B len v1 v2 x y b := ⟨by omega, by omega, hlk⟩
            rw [wst_y hy'] at hk
            have go := ih (p.1 + 1, if p.1 = 0 then (x, y, b) else p.2) (by show 0 ≤ p.1 + 1; omega) (by show p.1 + 1 ≤ _; omega) hk
            refine b148_78 hG (by intros; omega) ?_ (by intros; omega) ?_ ?_
            · intro p4; omega
            · intro p4 p5
              refine b148_95 hG ?_
              rw [rowW_t (by omega)] at go
              rw [hc2]; exact go
            · intro p4 p5
              refine b150_0 hG ?_
              refine b148_95 hG ?_
              rw [rowW_s p5] at go
              have e0 : rowW (c 187) p = c 187 := if_pos p5
              rw [hc2, e0, uf_id, up_uf (c := c), uf_up, uf_up]
              exact go
          · refine b148_78 hG (by intros; omega) ?_ (by intros; omega) ?_ ?_
            · intro p4; exact skip (fun h => hlk h.2.2)
            · intro p4 p5; omega
            · intro p4 p5; omega
theorem c_countWays (hG : Shp G) (hR : InvR S) (hl : 0 ≤ len ∧ len ≤ 30) (hs1 : 0 ≤ v1 ∧ v1 < S 1) (hs2 : 0 ≤ v2 ∧ v2 < S 1) (hr : RR c 9 S) (e : c 2 1 = len) (hB : ∀ i, 0 ≤ i → i < len → c 3 i = B i ∧ 0 ≤ B i ∧ B i ≤ 255) (hz : ∀ p', p' = wsX S B len v1 v2 (0, 0, 0, 0) → 0 ≤ p'.1 → p'.1 ≤ 1000 → Q (some (aI p'.1)) (G, q_uf c 187 (rowW (c 187) p'))) : TM (d + 3) 148 [aR 1, aI v1, aI v2] (G, c) Q := by
  have g := hR.1
  have e0 : ∀ p, (q_uf c 187 (rowW (c 187) p)) 9 0 = S 0 := fun p => by rw [uf_n2 (by omega)]; exact hr.1.1
  have ky : ∀ x, 0 ≤ x → x < S 0 → (∀ p', 0 ≤ p'.1 → p'.1 ≤ 100 * (x + 1) → ∀ y0 p, p' = loopR (wsB S B len v1 v2 x) y0 (S 0) p → T (d + 3) 148 5 [some (aR 1), some (aI v1), some (aI v2), some (aI p'.1), some (aI (x + 1)), none, none] [] (G, q_uf c 187 (rowW (c 187) p')) (QM Q)) → True := fun _ _ _ _ => trivial
  have kY : ∀ x, 0 ≤ x → x < S 0 → ∀ y, 0 ≤ y → y ≤ S 0 → ∀ p : Int × Int × Int × Int, 0 ≤ p.1 → p.1 ≤ 100 * x + 10 * y → (∀ p', p' = loopR (wsB S B len v1 v2 x) y (S 0) p → 0 ≤ p'.1 → p'.1 ≤ 100 * (x + 1) → T (d + 3) 148 5 [some (aR 1), some (aI v1), some (aI v2), some (aI p'.1), some (aI (x + 1)), none, none] [] (G, q_uf c 187 (rowW (c 187) p')) (QM Q)) → T (d + 3) 148 20 [some (aR 1), some (aI v1), some (aI v2), some (aI p.1), some (aI x), some (aI y), none] [] (G, q_uf c 187 (rowW (c 187) p)) (QM Q) := by
    intro x hx1 hx2
    refine int_ind ?_ ?_
    · intro p h0 h1 hk
      rw [loopR_e (by omega)] at hk
      have e0p := e0 p
      refine b148_20 hG TM_eqo rfl (by intros; omega) (by intros; omega) ?_ ?_
      · intro p1; exact hk p rfl h0 (by omega)
      · intro p1; omega
    · intro y h3 h4 ih p h0 h1 hk
      rw [loopR_s h4] at hk
      have e0p := e0 p
      refine b148_20 hG TM_eqo rfl (by intros; omega) (by intros; omega) ?_ ?_
      · intro p1; omega
      · intro p1
        refine c_ways_b hG hR hl hs1 hs2 ⟨hx1, hx2⟩ ⟨h3, h4⟩ hr e hB 0 (by omega) (by omega) p h0 (by omega) (fun p' hp' g1 g2 => ?_)
        rw [loopR_0] at hp'
        refine ih p' g1 (by omega) ?_
        rw [hp']
        exact hk
  have kX : ∀ x, 0 ≤ x → x ≤ S 0 → ∀ p : Int × Int × Int × Int, 0 ≤ p.1 → p.1 ≤ 100 * x → wsX S B len v1 v2 (0, 0, 0, 0) = loopR (wsY S B len v1 v2) x (S 0) p → T (d + 3) 148 5 [some (aR 1), some (aI v1), some (aI v2), some (aI p.1), some (aI x), none, none] [] (G, q_uf c 187 (rowW (c 187) p)) (QM Q) := by
    refine int_ind ?_ ?_
    · intro p h0 h1 he
      rw [loopR_e (by omega)] at he
      have e0p := e0 p
      refine b148_5 hG rfl (by intros; omega) (by intros; omega) ?_ ?_
      · intro p1; exact hz p he.symm h0 (by omega)
      · intro p1; omega
    · intro x h3 h4 ih p h0 h1 he
      rw [loopR_s h4] at he
      have e0p := e0 p
      refine b148_5 hG rfl (by intros; omega) (by intros; omega) ?_ ?_
      · intro p1; omega
      · intro p1
        refine kY x h3 h4 0 (by omega) (by omega) p h0 (by omega) (fun p' hp' g1 g2 => ?_)
        rw [loopR_0] at hp'
        refine ih p' g1 (by omega) ?_
        rw [hp']
        exact he
  refine b148_0 hG ?_
  have k0 := kX 0 (by omega) (by omega) (0, 0, 0, 0) (by show (0 : Int) ≤ 0; omega) (by show (0 : Int) ≤ _; omega) (by rw [loopR_0]; rfl)
  have e1 : rowW (c 187) (0, 0, 0, 0) = c 187 := if_pos rfl
  rw [e1, uf_id] at k0
  exact k0
def WrB (c c' : CC) (p : Int × Int × Int × Int) : Prop := (∀ r, ¬ r = 188 → ¬ r = 202 → c' r = c r) ∧ (∀ i, ¬ i = 31 → c' 188 i = c 188 i) ∧ c' 188 31 = (if p.1 = 0 then c 188 31 else 1) ∧ (∀ i, c' 202 i = rowW (c 202) p i)
theorem r_ways_b (hG : Shp G) (hR : InvR (c 190)) (hl : 0 ≤ len ∧ len ≤ 30) (hs1 : 0 ≤ v1 ∧ v1 < 8) (hs2 : 0 ≤ v2 ∧ v2 < 8) (hx : 0 ≤ x ∧ x < c 190 0) (hy : 0 ≤ y ∧ y < c 190 0) (e : c 188 3 = len) (hB : ∀ i, 0 ≤ i → i < len → q_and (c 189 i) 255 = B i ∧ 0 ≤ B i ∧ B i ≤ 255) : ∀ b, 0 ≤ b → b ≤ 10 → ∀ (p : Int × Int × Int × Int) (c2 : CC), WrB c c2 p → 0 ≤ p.1 → p.1 ≤ 100 * x + 10 * y + b → (∀ p' c3, p' = loopR (wst (c 190) B len v1 v2 x y) b 10 p → WrB c c3 p' → 0 ≤ p'.1 → p'.1 ≤ 100 * x + 10 * (y + 1) → T (d + 3) 230 67 [some (aR 188), some (aI v1), some (aI v2), some (aI p'.1), some (aI x), some (aI (y + 1)), none] [] (G, c3) (QM Q)) → T (d + 3) 230 81 [some (aR 188), some (aI v1), some (aI v2), some (aI p.1), some (aI x), some (aI y), some (aI b)] [] (G, c2) (QM Q) := by
  have g := hR.1
  refine int_ind ?_ ?_
  · intro p c2 hW h0 h1 hk
    rw [loopR_e (by omega)] at hk
    refine b230_81 hG TM_eqo (by intros; omega) ?_ (by intros; omega) (by intros; omega) rfl ?_
    · intro p1; exact hk p c2 rfl hW h0 (by omega)
    · intro p1; omega
  · intro b h3 h4 ih p c2 hW h0 h1 hk
    rw [loopR_s h4] at hk
    obtain ⟨w1, w2, w3, w4⟩ := hW
    have e190 := w1 190 (by omega) (by omega)
    have skip : ¬ wyP (c 190) B len v1 v2 x y b → T (d + 3) 230 81 [some (aR 188), some (aI v1), some (aI v2), some (aI p.1), some (aI x), some (aI y), some (aI (b + 1))] [] (G, c2) (QM Q) := by
      intro hn
      rw [wst_n hn] at hk
      exact ih p c2 ⟨w1, w2, w3, w4⟩ h0 (by omega) hk
    refine b230_81 hG TM_eqo (by intros; omega) ?_ (by intros; omega) (by intros; omega) rfl ?_
    · intro p1; omega
    · intro p1
      refine r_bitOf hG ?_
      rw [e190]
      have hb1 : bt (c 190 (51 + v1)) x = 0 ∨ bt (c 190 (51 + v1)) x = 1 := bt_01
      refine b230_102 hG (by intros; omega) ?_ (by intros; omega) (by intros; omega) rfl ?_
      · intro p2; exact skip (fun h => by have := h.1; omega)
      · intro p2
        refine r_bitOf hG ?_
        rw [e190]
        have hb2 : bt (c 190 (51 + v2)) y = 0 ∨ bt (c 190 (51 + v2)) y = 1 := bt_01
        refine b230_119 hG (by intros; omega) ?_ ?_
        · intro p3; exact skip (fun h => by have := h.2.1; omega)
        · intro p3
          refine r_areSo hG (B := B) (by rw [e190]; exact hR) (by rw [w2 3 (by omega)]; exact e) hl (fun i q1 q2 => by rw [w1 189 (by omega) (by omega)]; exact hB i q1 q2) (by rw [e190]; exact hx) (by rw [e190]; exact hy) ⟨h3, h4⟩ (fun hlk => ?_) (fun hlk => ?_)
          · rw [e190] at hlk
            have hy' : wyP (c 190) B len v1 v2 x y b := ⟨by omega, by omega, hlk⟩
            rw [wst_y hy'] at hk
            refine b230_132 hG (by intros; omega) (by intros; omega) ?_ ?_ ?_
            · intro p4 p5
              have p0 : p.1 = 0 := by omega
              refine ih (p.1 + 1, if p.1 = 0 then (x, y, b) else p.2) _ ⟨fun r q1 q2 => ?_, fun i q1 => ?_, ?_, fun i => ?_⟩ (by show 0 ≤ p.1 + 1; omega) (by show p.1 + 1 ≤ _; omega) hk
              · rw [up_r q2, up_r q2, up_r q2, up_r q1]; exact w1 r q1 q2
              · rw [up_n (by omega), up_n (by omega), up_n (by omega), up_n (by omega)]; exact w2 i q1
              · rw [up_n (by omega), up_n (by omega), up_n (by omega), up_e]
                show 1 = if p.1 + 1 = 0 then _ else _
                rw [if_neg (by omega)]
              · rw [rowW_s p0]
                have e0 : rowW (c 202) p = c 202 := if_pos p0
                rw [e0] at w4
                by_cases i2 : i = 2
                · rw [i2, up_e, u1_e]
                · rw [up_n (by omega), u1_n i2]
                  by_cases i1 : i = 1
                  · rw [i1, up_e, u1_e]
                  · rw [up_n (by omega), u1_n i1]
                    by_cases i0 : i = 0
                    · rw [i0, up_e, u1_e]
                    · rw [up_n (by omega), u1_n i0, up_n (by omega)]; exact w4 i
            · intro p4 p5
              refine ih (p.1 + 1, if p.1 = 0 then (x, y, b) else p.2) c2 ⟨w1, w2, ?_, fun i => ?_⟩ (by show 0 ≤ p.1 + 1; omega) (by show p.1 + 1 ≤ _; omega) hk
              · rw [w3, if_neg (by omega)]
                show 1 = if p.1 + 1 = 0 then _ else _
                rw [if_neg (by omega)]
              · rw [rowW_t (by omega)]; exact w4 i
            · intro p4; omega
          · rw [e190] at hlk
            refine b230_132 hG (by intros; omega) (by intros; omega) ?_ ?_ ?_
            · intro p4 p5; omega
            · intro p4 p5; omega
            · intro p4; exact skip (fun h => hlk h.2.2)
theorem r_ways (hG : Shp G) (hR : InvR (c 190)) (hl : 0 ≤ len ∧ len ≤ 30) (hs1 : 0 ≤ v1 ∧ v1 < 8) (hs2 : 0 ≤ v2 ∧ v2 < 8) (e : c 188 3 = len) (hB : ∀ i, 0 ≤ i → i < len → q_and (c 189 i) 255 = B i ∧ 0 ≤ B i ∧ B i ≤ 255) (hz : ∀ p' c3, p' = wsX (c 190) B len v1 v2 (0, 0, 0, 0) → WrB c c3 p' → 0 ≤ p'.1 → p'.1 ≤ 1000 → Q (some (aI p'.1)) (G, c3)) : T (d + 3) 230 53 [some (aR 188), some (aI v1), some (aI v2), some (aI 0), some (aI 0), none, none] [] (G, c) (QM Q) := by
  have g := hR.1
  have kY : ∀ x, 0 ≤ x → x < c 190 0 → ∀ y, 0 ≤ y → y ≤ c 190 0 → ∀ (p : Int × Int × Int × Int) (c2 : CC), WrB c c2 p → 0 ≤ p.1 → p.1 ≤ 100 * x + 10 * y → (∀ p' c3, p' = loopR (wsB (c 190) B len v1 v2 x) y (c 190 0) p → WrB c c3 p' → 0 ≤ p'.1 → p'.1 ≤ 100 * (x + 1) → T (d + 3) 230 53 [some (aR 188), some (aI v1), some (aI v2), some (aI p'.1), some (aI (x + 1)), none, none] [] (G, c3) (QM Q)) → T (d + 3) 230 67 [some (aR 188), some (aI v1), some (aI v2), some (aI p.1), some (aI x), some (aI y), none] [] (G, c2) (QM Q) := by
    intro x hx1 hx2
    refine int_ind ?_ ?_
    · intro p c2 hW h0 h1 hk
      rw [loopR_e (by omega)] at hk
      have e0p : c2 190 0 = c 190 0 := by rw [hW.1 190 (by omega) (by omega)]
      refine b230_67 hG TM_eqo rfl (by intros; omega) (by intros; omega) ?_ ?_
      · intro p1; exact hk p c2 rfl hW h0 (by omega)
      · intro p1; omega
    · intro y h3 h4 ih p c2 hW h0 h1 hk
      rw [loopR_s h4] at hk
      have e0p : c2 190 0 = c 190 0 := by rw [hW.1 190 (by omega) (by omega)]
      refine b230_67 hG TM_eqo rfl (by intros; omega) (by intros; omega) ?_ ?_
      · intro p1; omega
      · intro p1
        refine r_ways_b hG hR hl hs1 hs2 ⟨hx1, hx2⟩ ⟨h3, h4⟩ e hB 0 (by omega) (by omega) p c2 hW h0 (by omega) (fun p' c3 hp' hW' g1 g2 => ?_)
        rw [loopR_0] at hp'
        refine ih p' c3 hW' g1 (by omega) ?_
        rw [hp']
        exact hk
  have kX : ∀ x, 0 ≤ x → x ≤ c 190 0 → ∀ (p : Int × Int × Int × Int) (c2 : CC), WrB c c2 p → 0 ≤ p.1 → p.1 ≤ 100 * x → wsX (c 190) B len v1 v2 (0, 0, 0, 0) = loopR (wsY (c 190) B len v1 v2) x (c 190 0) p → T (d + 3) 230 53 [some (aR 188), some (aI v1), some (aI v2), some (aI p.1), some (aI x), none, none] [] (G, c2) (QM Q) := by
    refine int_ind ?_ ?_
    · intro p c2 hW h0 h1 he
      rw [loopR_e (by omega)] at he
      have e0p : c2 190 0 = c 190 0 := by rw [hW.1 190 (by omega) (by omega)]
      refine b230_53 hG rfl (by intros; omega) (by intros; omega) ?_ ?_
      · intro p1; exact hz p c2 he.symm hW h0 (by omega)
      · intro p1; omega
    · intro x h3 h4 ih p c2 hW h0 h1 he
      rw [loopR_s h4] at he
      have e0p : c2 190 0 = c 190 0 := by rw [hW.1 190 (by omega) (by omega)]
      refine b230_53 hG rfl (by intros; omega) (by intros; omega) ?_ ?_
      · intro p1; omega
      · intro p1
        refine kY x h3 h4 0 (by omega) (by omega) p c2 hW h0 (by omega) (fun p' c3 hp' hW' g1 g2 => ?_)
        rw [loopR_0] at hp'
        refine ih p' c3 hW' g1 (by omega) ?_
        rw [hp']
        exact he
  exact kX 0 (by omega) (by omega) (0, 0, 0, 0) c ⟨fun _ _ _ => rfl, fun _ _ => rfl, (if_pos rfl).symm, fun i => by rw [show rowW (c 202) (0, 0, 0, 0) = c 202 from if_pos rfl]⟩ (by show (0 : Int) ≤ 0; omega) (by show (0 : Int) ≤ _; omega) (by rw [loopR_0]; rfl)
end SPWe
