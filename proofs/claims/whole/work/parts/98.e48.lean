section SPsm
variable {d : Nat} {G : GG} {c c' cA cB cA1 cB1 cA' cB' cA0 cB0 : CC} {Q : Option AV → HH → Prop} {v1 v2 n i x s k m len most stop dep q pa po D t0 : Int} {j : Nat} {S S' : SS} {a b e : Nat} {B bs : Int → Int}
def EqT (S S' : SS) : Prop := ∀ i, 0 ≤ i → i < 333 → S' i = S i
theorem room_t (h : EqT S S') (h1 : 0 ≤ S 1 ∧ S 1 ≤ 8) (hk : 0 ≤ k) (hk2 : k < 6) : room S' k = room S k :=
  room_c (h _ (by omega) (by omega)) (h 1 (by omega) (by omega)) (fun i q1 q2 => ⟨h _ (by omega) (by omega), h _ (by omega) (by omega)⟩)
theorem GS_t (h : EqT S S') (hS : GS S) : GS S' := by
  obtain ⟨⟨a1, a2, a3, a4, a5, a6, a7⟩, ⟨b1, b2, b3, b4, b5, b6, b7, b8⟩, ⟨d1, d2, d3, d4⟩, d5⟩ := hS
  have e0 := h 0 (by omega) (by omega)
  have e1 := h 1 (by omega) (by omega)
  have e2 := h 2 (by omega) (by omega)
  have e68 := h 168 (by omega) (by omega)
  have e69 := h 169 (by omega) (by omega)
  have e70 := h 170 (by omega) (by omega)
  have e71 := h 171 (by omega) (by omega)
  have e72 := h 172 (by omega) (by omega)
  refine ⟨⟨?_, ?_, ?_, ?_, ?_, ?_, ?_⟩, ⟨?_, ?_, ?_, ?_, ?_, ?_, ?_, ?_⟩, ⟨?_, ?_, ?_, ?_⟩, ?_⟩
  · rw [e0, e1, e2]; exact a1
  · intro k p q
    rw [h (3 + k) (by omega) (by omega), h (9 + k) (by omega) (by omega)]
    exact a2 k p (by omega)
  · intro k p q
    rw [h (15 + k) (by omega) (by omega)]
    exact a3 k p q
  · intro x y p q r t
    rw [h (15 + 6 * x + y) (by omega) (by omega), h (15 + 6 * y + x) (by omega) (by omega)]
    exact a4 x y p q r t
  · intro s p q
    rw [h (51 + s) (by omega) (by omega), h (59 + s) (by omega) (by omega), e0]
    exact a5 s p q
  · intro i p q
    rw [h (67 + i) (by omega) (by omega)]
    exact a6 i p q
  · intro x y p q r t u
    rw [h (67 + 8 * x + y) (by omega) (by omega)]
    exact a7 x y p q r t (by omega)
  · intro s p q
    rw [h (173 + s) (by omega) (by omega), h (181 + s) (by omega) (by omega), h (189 + s) (by omega) (by omega), h (197 + s) (by omega) (by omega), e0, e1]
    exact b1 s p q
  · intro s p q
    rw [h (173 + s) (by omega) (by omega), h (51 + s) (by omega) (by omega)]
    exact b2 s p q
  · intro i p q
    rw [h (205 + i) (by omega) (by omega)]
    exact b3 i p q
  · intro x y p q r t u
    rw [h (205 + 8 * x + y) (by omega) (by omega)]
    exact b4 x y p q r t (by omega)
  · intro k p q
    rw [room_t h (by omega) p (by omega)]
    exact b5 k p (by omega)
  · rw [e71, b6]
    exact sumI_c (fun i p q => (h (189 + i) (by omega) (by omega)).symm)
  · rw [e68, e69, e70]; exact b7
  · intro x y p q r t
    rw [h (269 + 8 * x + y) (by omega) (by omega), h (269 + 8 * y + x) (by omega) (by omega)]
    exact b8 x y p q r t
  · rw [e69, e68]; exact d1
  · rw [e70, e68]; exact d2
  · intro s p q
    rw [h (189 + s) (by omega) (by omega), h (197 + s) (by omega) (by omega), e68]
    exact d3 s p q
  · rw [e72, e68]; exact d4
  · rw [e68]; exact d5
theorem RR_t (h : EqT S S') (hr : 0 ≤ S 0 ∧ S 0 ≤ 6 ∧ S 1 ≤ 8) (hR : RR c b S) : RR c b S' := by
  obtain ⟨h1, h2, h3, h4, h5⟩ := hR
  refine ⟨?_, ?_, ?_, ?_, ?_⟩
  · rw [h 0 (by omega) (by omega), h 1 (by omega) (by omega), h 2 (by omega) (by omega)]; exact h1
  · intro k g1 g2
    rw [h 0 (by omega) (by omega)] at g2
    rw [h (3 + k) (by omega) (by omega), h (9 + k) (by omega) (by omega)]; exact h2 k g1 g2
  · intro k g1 g2
    rw [h (15 + k) (by omega) (by omega)]; exact h3 k g1 g2
  · intro k g1 g2
    rw [h 1 (by omega) (by omega)] at g2
    rw [h (51 + k) (by omega) (by omega), h (59 + k) (by omega) (by omega)]; exact h4 k g1 g2
  · intro k g1 g2
    rw [h (67 + k) (by omega) (by omega)]; exact h5 k g1 g2
theorem LR_t (h : EqT S S') (hr : 0 ≤ S 0 ∧ S 0 ≤ 6 ∧ 0 ≤ S 1 ∧ S 1 ≤ 8) (hL : LR c a S) : LR c a S' := by
  obtain ⟨⟨l1, l2, l3, l4⟩, l5⟩ := hL
  refine ⟨⟨?_, ?_, ?_, ?_⟩, ?_⟩
  · rw [h 168 (by omega) (by omega), h 169 (by omega) (by omega), h 170 (by omega) (by omega)]; exact l1
  · intro i p q
    rw [h (173 + i) (by omega) (by omega), h (181 + i) (by omega) (by omega), h (189 + i) (by omega) (by omega), h (197 + i) (by omega) (by omega)]; exact l2 i p q
  · intro i p q
    rw [h (205 + i) (by omega) (by omega)]; exact l3 i p q
  · intro x y p q r
    rw [h (269 + 8 * x + y) (by omega) (by omega)]; exact l4 x y p q r
  · intro k p q
    rw [h 0 (by omega) (by omega)] at q
    rw [room_t h (by omega) p (by omega)]; exact l5 k p q
theorem mix_t {f : SS} (h : EqT S S') : EqT (mixF S f) (mixF S' f) := by
  intro i p q
  unfold mixF
  by_cases hi : 168 ≤ i ∧ i < 333
  · rw [if_pos hi, if_pos hi]
  · rw [if_neg hi, if_neg hi]; exact h i p q
theorem GH_t (h : GH cA cB) (hG : GS (cB 190)) (hs : EqT (cB 190) (cB' 190)) (a1 : ∀ r, 53 ≤ r → r ≤ 118 → cA' r = cA r) (b1 : cB' 188 23 = cB 188 23) (b2 : cB' 195 = cB 195) : GH cA' cB' := by
  unfold GH
  rw [a1 53 (by omega) (by omega), b1, b2]
  refine ⟨h.1, fun j p1 p2 => ?_⟩
  obtain ⟨g1, g2⟩ := h.2 j p1 p2
  have hr := g1.1.1
  refine ⟨GS_t (mix_t hs) g1, LR_t (mix_t hs) (by omega) (LR_fr g2 (fun r q1 q2 => a1 r ?_ ?_))⟩ <;> (unfold hslot at q1 q2; omega)
theorem r_codes (hG : Shp G) (em : c 188 40 = m) (hm : 0 ≤ m ∧ m ≤ 44) (eo : c 188 41 = s) (hz : ∀ c', (∀ r, ¬ r = 190 → c' r = c r) → (∀ i, 0 ≤ i → i < 333 → c' 190 i = c 190 i) → c' 190 333 = m → (∀ i, 0 ≤ i → i < 3 * m → c' 190 (334 + i) = c 192 i) → Q (some (aI s)) (G, c')) : T (d + 1) 258 48 [some (aR 188), some (aI 0), none] [] (G, c) (QM Q) := by
  have key : ∀ i, 0 ≤ i → i ≤ 3 * m → ∀ c2 : CC, (∀ r, ¬ r = 190 → c2 r = c r) → (∀ i, 0 ≤ i → i < 333 → c2 190 i = c 190 i) → c2 190 333 = m → (∀ x, 0 ≤ x → x < i → c2 190 (334 + x) = c 192 x) → T (d + 1) 258 146 [some (aR 188), none, some (aI i)] [] (G, c2) (QM Q) := by
    refine int_ind ?_ ?_
    · intro c2 g1 g2 g3 g4
      refine b258_146 hG ((congrFun (g1 188 (by omega)) 40).trans em) (by intros; omega) (by intros; omega) ((congrFun (g1 188 (by omega)) 41).trans eo) ?_ (by intros; omega) (by intros; omega) (congrFun (g1 192 (by omega)) _) (by intros; omega) (by intros; omega) ?_
      · intro q; exact hz c2 g1 g2 g3 g4
      · intro q; omega
    · intro i p1 p2 ih c2 g1 g2 g3 g4
      refine b258_146 hG ((congrFun (g1 188 (by omega)) 40).trans em) (by intros; omega) (by intros; omega) ((congrFun (g1 188 (by omega)) 41).trans eo) ?_ (by intros; omega) (by intros; omega) (congrFun (g1 192 (by omega)) _) (by intros; omega) (by intros; omega) ?_
      · intro q; omega
      · intro q
        refine ih _ (fun r h1 => (up_r h1).trans (g1 r h1)) (fun x h1 h2 => (up_n (by omega)).trans (g2 x h1 h2)) ((up_n (by omega)).trans g3) (fun x h1 h2 => ?_)
        by_cases hx : x = i
        · rw [hx]; exact up_e
        · rw [up_n (by omega)]; exact g4 x h1 (by omega)
  refine b258_48 hG TM_eqo (by omega) (em) ?_ rfl (by intros; exfalso; omega) rfl (by intros; exfalso; omega) ?_ ?_ rfl (by intros; exfalso; omega) rfl (by intros; exfalso; omega) ?_ ?_ ?_
  all_goals intros
  all_goals first | (exfalso; omega) | skip
  exact key 0 (by omega) (by omega) _ (fun r h1 => up_r h1) (fun i h1 h2 => up_n (by omega)) up_e (fun x h1 h2 => by omega)
end SPsm
