section SPC
variable {d : Nat} {G : GG} {c c' : CC} {Q : Option AV → HH → Prop} {v0 v1 v2 N i j : Int} {a b : Nat} {S : SS}
def LRd (c : CC) (a : Nat) (S : SS) : Prop :=
  (c a 1 = S 168 ∧ c a 2 = S 169 ∧ c a 3 = S 170) ∧
  (∀ i, 0 ≤ i → i < 8 → c (a + 1) i = S (173 + i) - 1 ∧ c (a + 2) i = S (181 + i) ∧ c (a + 3) i = S (189 + i) ∧ c (a + 4) i = S (197 + i)) ∧
  (∀ i, 0 ≤ i → i < 64 → c (a + 6) i = S (205 + i)) ∧
  (∀ x y, 0 ≤ x → x < y → y < 8 → c (a + 7) (8 * x + y) = S (269 + 8 * x + y))
def LR (c : CC) (a : Nat) (S : SS) : Prop := LRd c a S ∧ ∀ k, 0 ≤ k → k < S 0 → c (a + 5) k = room S k
def RR (c : CC) (b : Nat) (S : SS) : Prop :=
  (c b 0 = S 0 ∧ c b 1 = S 1 ∧ c b 2 = S 2) ∧
  (∀ k, 0 ≤ k → k < S 0 → c (b + 3) k = S (3 + k) ∧ c (b + 4) k = S (9 + k)) ∧
  (∀ k, 0 ≤ k → k < 36 → c (b + 5) k = S (15 + k)) ∧
  (∀ s, 0 ≤ s → s < S 1 → c (b + 6) s = S (51 + s) ∧ c (b + 7) s = S (59 + s) - 1) ∧
  (∀ i, 0 ≤ i → i < 64 → c (b + 8) i = S (67 + i))
def FrL (a : Nat) (c c' : CC) : Prop := ∀ r, (r < a ∨ a + 7 < r) → c' r = c r
theorem FrL_refl : FrL a c c := fun _ _ => rfl
theorem FrL_tr {c2 : CC} (h1 : FrL a c c') (h2 : FrL a c' c2) : FrL a c c2 := fun r h => (h2 r h).trans (h1 r h)
theorem FrL_up {r : Nat} {i v : Int} (h : FrL a c c') (h1 : a ≤ r) (h2 : r ≤ a + 7) : FrL a c (q_up c' r i v) := fun q hq => (up_r (by omega)).trans (h q hq)
theorem FrL_uf {r : Nat} {f : Int → Int} (h : FrL a c c') (h1 : a ≤ r) (h2 : r ≤ a + 7) : FrL a c (q_uf c' r f) := fun q hq => (uf_n (by omega)).trans (h q hq)
theorem Life_b (h : Life a) : 27 ≤ a ∧ a ≤ 174 := by
  have h2 : ∀ a ∈ [27, 35, 55, 63, 71, 79, 87, 95, 103, 111, 151, 174], 27 ≤ a ∧ a ≤ 174 := by decide
  exact h2 a h
theorem RR_fr (h : RR c b S) (hf : ∀ r, b ≤ r → r ≤ b + 8 → c' r = c r) : RR c' b S := by
  unfold RR
  rw [hf b (by omega) (by omega), hf (b + 3) (by omega) (by omega), hf (b + 4) (by omega) (by omega), hf (b + 5) (by omega) (by omega), hf (b + 6) (by omega) (by omega), hf (b + 7) (by omega) (by omega), hf (b + 8) (by omega) (by omega)]
  exact h
theorem RR_L (h : RR c 9 S) (h_a : Life a) (hf : FrL a c c') : RR c' 9 S := RR_fr h (fun r h1 h2 => hf r (by have := Life_b h_a; omega))
theorem RR_S {S' : SS} (h : RR c b S) (hs : SmR S S') (hr : 0 ≤ S 0 ∧ S 0 ≤ 6 ∧ S 1 ≤ 8) : RR c b S' := by
  obtain ⟨h1, h2, h3, h4, h5⟩ := h
  refine ⟨?_, ?_, ?_, ?_, ?_⟩
  · rw [hs 0 (by omega), hs 1 (by omega), hs 2 (by omega)]; exact h1
  · intro k g1 g2
    rw [hs 0 (by omega)] at g2
    rw [hs (3 + k) (by omega), hs (9 + k) (by omega)]; exact h2 k g1 g2
  · intro k g1 g2
    rw [hs (15 + k) (by omega)]; exact h3 k g1 g2
  · intro k g1 g2
    rw [hs 1 (by omega)] at g2
    rw [hs (51 + k) (by omega), hs (59 + k) (by omega)]; exact h4 k g1 g2
  · intro k g1 g2
    rw [hs (67 + k) (by omega)]; exact h5 k g1 g2
theorem LR_fr (h : LR c a S) (hf : ∀ r, a ≤ r → r ≤ a + 7 → c' r = c r) : LR c' a S := by
  unfold LR LRd
  rw [hf a (by omega) (by omega), hf (a + 1) (by omega) (by omega), hf (a + 2) (by omega) (by omega), hf (a + 3) (by omega) (by omega), hf (a + 4) (by omega) (by omega), hf (a + 5) (by omega) (by omega), hf (a + 6) (by omega) (by omega), hf (a + 7) (by omega) (by omega)]
  exact h
theorem ru9 : Ruls 9 := by unfold Ruls; decide
theorem ru18 : Ruls 18 := by unfold Ruls; decide
theorem lf27 : Life 27 := by unfold Life; decide
theorem lf35 : Life 35 := by unfold Life; decide
theorem c_soulPair (hG : Shp G) (hz : Q (some (aI (v0 * 8 + v1))) (G, c)) : TM d 151 [aI v0, aI v1] (G, c) Q := by
  refine b151_0 hG ?_
  exact hz
theorem c_kindPair (hG : Shp G) (hz : Q (some (aI (v0 * 6 + v1))) (G, c)) : TM d 152 [aI v0, aI v1] (G, c) Q := by
  refine b152_0 hG ?_
  exact hz
theorem c_isKind (hG : Shp G) (hR : InvR S) (hr : RR c 9 S) (h1 : I32 v1) (hz : Q (some (aI (isK S v1))) (G, c)) : TM d 70 [aR 9, aI v1] (G, c) Q := by
  have h_a : Ruls 9 := ru9
  have e := hr.1
  have g := hR.1
  unfold isK at hz
  refine b70_0 hG h_a (by intros; omega) ?_ rfl (by intros; omega) ?_ ?_ ?_
  · intro p1; rw [if_neg (by omega)] at hz; exact hz
  · intro p1 p2; rw [if_neg (by omega)] at hz; exact hz
  · intro p1 p2; omega
  · intro p1 p2 p3; rw [if_pos (by omega)] at hz; exact hz
theorem c_isSoul (hG : Shp G) (hR : InvR S) (hr : RR c 9 S) (h1 : I32 v1) (hz : Q (some (aI (isSo S v1))) (G, c)) : TM d 71 [aR 9, aI v1] (G, c) Q := by
  have h_a : Ruls 9 := ru9
  have e := hr.1
  have g := hR.1
  unfold isSo at hz
  refine b71_0 hG h_a (by intros; omega) ?_ rfl (by intros; omega) ?_ ?_ ?_
  · intro p1; rw [if_neg (by omega)] at hz; exact hz
  · intro p1 p2; rw [if_neg (by omega)] at hz; exact hz
  · intro p1 p2; omega
  · intro p1 p2 p3; rw [if_pos (by omega)] at hz; exact hz
theorem c_mayBe0 (hG : Shp G) (h_a : Ruls a) (h1 : 0 ≤ v1) (h2 : v1 < 8) (hz : Q (some (aI (bt (c (a + 6) v1) v2))) (G, c)) : TM d 72 [aR a, aI v1, aI v2] (G, c) Q := by
  have hb : bt (c (a + 6) v1) v2 = 0 ∨ bt (c (a + 6) v1) v2 = 1 := bt_01
  have hi : I32 (bt (c (a + 6) v1) v2) := by omega
  unfold bt at hb hz hi
  refine b72_0 hG h_a (by intros; omega) (by intros; omega) rfl (by intros; omega) ?_ ?_
  · intro p1; rw [show q_and (q_shr (c (a + 6) v1) v2) 1 = 0 by omega] at hz; exact hz
  · intro p1; rw [p1] at hz; exact hz
theorem c_mayBe (hG : Shp G) (hr : RR c 9 S) (h1 : 0 ≤ v1) (h2 : v1 < S 1) (h3 : S 1 ≤ 8) (hz : Q (some (aI (bt (S (51 + v1)) v2))) (G, c)) : TM d 72 [aR 9, aI v1, aI v2] (G, c) Q := by
  refine c_mayBe0 hG ru9 h1 (by omega) ?_
  rw [(hr.2.2.2.1 v1 h1 h2).1]
  exact hz
theorem c_whyNot (hG : Shp G) (h_a : Life a) (hR : InvR S) (hI : InvL S) (hr : RR c 9 S) (hL : LR c a S) (h0 : 0 ≤ v1) (h1 : v1 < S 1) (h2 : 0 ≤ v2) (h3 : v2 < S 0) (hz : Q (some (aI (whyF S v1 v2))) (G, c)) : TM (d + 1) 29 [aR a, aI v1, aI v2] (G, c) Q := by
  have g := hR.1
  have hs := hI.1 v1 h0 (by omega)
  have e1 := hL.1.2.1 v1 h0 (by omega)
  have e2 := hL.2 v2 h2 h3
  have hm := hI.2.2.2.2.1 v2 h2 h3
  have hb := room_le (S := S) (k := v2) (by omega)
  have hp := hR.2.1 v2 h2 h3
  unfold whyF at hz
  refine b29_0 hG h_a TM_eqo (by intros; omega) (by intros; omega) rfl (by intros; omega) ?_ ?_
  · intro p1
    rw [if_neg (by omega)] at hz
    refine c_mayBe hG hr h0 h1 (by omega) ?_
    have hb : bt (S (51 + v1)) v2 = 0 ∨ bt (S (51 + v1)) v2 = 1 := bt_01
    refine b29_21 hG h_a (by intros; omega) (by intros; omega) (by intros; omega) rfl (by intros; omega) ?_ ?_ ?_
    · intro p2 p3; rw [if_neg p2, if_neg (by omega)] at hz; exact hz
    · intro p2 p3; rw [if_neg p2, if_pos (by omega)] at hz; exact hz
    · intro p2; rw [if_pos p2] at hz; exact hz
  · intro p1; rw [if_pos (by omega)] at hz; exact hz
theorem c_become (hG : Shp G) (h_a : Life a) (hR : InvR S) (hr : RR c 9 S) (h0 : 0 ≤ v1) (h1 : v1 < 8) (h2 : 0 ≤ v2) (h3 : v2 < S 0) (hz : Q none (G, q_up (q_up (q_up c (a + 1) v1 v2) (a + 2) v1 (S (3 + v2))) (a + 5) v2 (c (a + 5) v2 - 1))) : TM d 31 [aR a, aI v1, aI v2] (G, c) Q := by
  have g := hR.1
  have hb := Life_b h_a
  have e := (hr.2.1 v2 h2 h3).1
  refine b31_0 hG h_a (by intros; omega) (by intros; omega) (by intros; omega) (by intros; omega) ((up_n (by omega)).trans e) ((up_n (by omega)).trans (up_n (by omega))) ?_
  exact hz
theorem c_giveOut (hG : Shp G) (h_a : Life a) (hR : InvR S) (hI : InvL S) (hr : RR c 9 S) (hL : LR c a S) (h0 : 0 ≤ v1) (h1 : v1 < S 1) (h2 : 0 ≤ v2) (h3 : v2 < S 0) (hw : S (173 + v1) ≤ 0) (hz : ∀ c', FrL a c c' → LR c' a (bornF S v1 v2) → Q none (G, c')) : TM (d + 1) 30 [aR a, aI v1, aI v2] (G, c) Q := by
  have g := hR.1
  have hb := Life_b h_a
  refine b30_0 hG h_a TM_eqo ?_
  refine c_become hG h_a hR hr h0 (by omega) h2 h3 ?_
  refine b30_6 hG h_a (by intros; omega) (by intros; omega) ((up_n (by omega)).trans ((up_n (by omega)).trans ((up_n (by omega)).trans rfl))) ?_
  obtain ⟨r1, r2, r3, r4, r5, r6⟩ := born_rd (S := S) (s := v1) (k := v2) h0 (by omega)
  obtain ⟨⟨l1, l2, l3, l4⟩, l5⟩ := hL
  refine hz _ (FrL_up (FrL_up (FrL_up (FrL_up (FrL_up FrL_refl (by omega) (by omega)) (by omega) (by omega)) (by omega) (by omega)) (by omega) (by omega)) (by omega) (by omega)) ⟨⟨?_, ?_, ?_, ?_⟩, ?_⟩
  · rw [up_n (by omega), up_n (by omega), up_n (by omega), up_n (by omega), up_n (by omega), up_n (by omega), up_n (by omega), up_n (by omega), up_n (by omega), up_n (by omega), up_n (by omega), up_n (by omega), up_n (by omega), up_n (by omega), up_n (by omega), r1 168 (by omega) (by omega) (by omega) (by omega) (by omega), r1 169 (by omega) (by omega) (by omega) (by omega) (by omega), r1 170 (by omega) (by omega) (by omega) (by omega) (by omega)]
    exact l1
  · intro t h4 h5
    obtain ⟨q1, q2, q3, q4⟩ := l2 t h4 h5
    by_cases ht : t = v1
    · subst ht
      rw [r2, r3, r4, r5]
      refine ⟨?_, ?_, ?_, ?_⟩
      · rw [up_n (by omega), up_n (by omega), up_n (by omega), up_n (by omega), up_e]; omega
      · rw [up_n (by omega), up_n (by omega), up_n (by omega), up_e]
      · rw [up_n (by omega), up_e, q3]
      · rw [up_e]
    · rw [r1 (173 + t) (by omega) (by omega) (by omega) (by omega) (by omega), r1 (181 + t) (by omega) (by omega) (by omega) (by omega) (by omega), r1 (189 + t) (by omega) (by omega) (by omega) (by omega) (by omega), r1 (197 + t) (by omega) (by omega) (by omega) (by omega) (by omega)]
      refine ⟨?_, ?_, ?_, ?_⟩
      · rw [up_n (by omega), up_n (by omega), up_n (by omega), up_n (by omega), up_n (by omega)]; exact q1
      · rw [up_n (by omega), up_n (by omega), up_n (by omega), up_n (by omega), up_n (by omega)]; exact q2
      · rw [up_n (by omega), up_n (by omega), up_n (by omega), up_n (by omega), up_n (by omega)]; exact q3
      · rw [up_n (by omega), up_n (by omega), up_n (by omega), up_n (by omega), up_n (by omega)]; exact q4
  · intro t h4 h5
    rw [up_n (by omega), up_n (by omega), up_n (by omega), up_n (by omega), up_n (by omega), r1 (205 + t) (by omega) (by omega) (by omega) (by omega) (by omega)]
    exact l3 t h4 h5
  · intro x y h4 h5 h6
    rw [up_n (by omega), up_n (by omega), up_n (by omega), up_n (by omega), up_n (by omega), r1 (269 + 8 * x + y) (by omega) (by omega) (by omega) (by omega) (by omega)]
    exact l4 x y h4 h5 h6
  · intro k h4 h5
    rw [r1 0 (by omega) (by omega) (by omega) (by omega) (by omega)] at h5
    rw [room_born hR hI h0 h1 hw h4 h5, up_n (by omega), up_n (by omega)]
    by_cases hk : k = v2
    · subst hk
      rw [up_e, if_pos rfl, l5 k h4 h5]
    · rw [up_n (by omega), up_n (by omega), up_n (by omega), if_neg hk, l5 k h4 h5]
      omega
theorem c_settlePair (hG : Shp G) (h_a : Life a) (hR : InvR S) (hI : InvL S) (hr : RR c 9 S) (hL : LRd c a S) (h0 : 0 ≤ v1) (h1 : v1 < 8) (h2 : 0 ≤ v2) (h3 : v2 < 8) (h4 : ¬ v1 = v2)
    (hz : ∀ g : Int → Int, (∀ x y, 0 ≤ x → x < 8 → 0 ≤ y → y < 8 → g (8 * x + y) = settF S v1 v2 (205 + 8 * x + y)) → Q (some (aI (fsF S v1 v2 + sdF S v1 v2))) (G, q_uf c (a + 6) g)) : TM (d + 1) 39 [aR a, aI v1, aI v2] (G, c) Q := by
  have g := hR.1
  have ha := hI.1 v1 h0 h1
  have hb := hI.1 v2 h2 h3
  have e1 := (hL.2.1 v1 h0 h1).1
  have e2 := (hL.2.1 v2 h2 h3).1
  have hm := mtF_b hR hI h0 h1 h2 h3
  have d1 := hI.2.2.1 (8 * v1 + v2) (by omega) (by omega)
  have d2 := hI.2.2.1 (8 * v2 + v1) (by omega) (by omega)
  have f1 := hL.2.2.1 (8 * v1 + v2) (by omega) (by omega)
  have f2 := hL.2.2.1 (8 * v2 + v1) (by omega) (by omega)
  rw [show 205 + (8 * v1 + v2) = 205 + 8 * v1 + v2 by omega] at d1 f1
  rw [show 205 + (8 * v2 + v1) = 205 + 8 * v2 + v1 by omega] at d2 f2
  obtain ⟨s1, s2, s3, s4, s5⟩ := sett_b hR hI h0 h1 h2 h3
  obtain ⟨r1, r2, r3, r4⟩ := sett_rd (S := S) h0 h1 h2 h3 h4
  have zero : mtF S v1 v2 = 0 → Q (some (aI 0)) (G, c) := by
    intro hm0
    have z1 : fsF S v1 v2 = 0 := by unfold fsF; rw [hm0]; unfold lsr; omega
    have z2 : sdF S v1 v2 = 0 := by unfold sdF; rw [hm0, z1]; unfold lsr; omega
    have := hz (c (a + 6)) (fun x y h5 h6 h7 h8 => by
      have f3 := hL.2.2.1 (8 * x + y) (by omega) (by omega)
      rw [show 205 + (8 * x + y) = 205 + 8 * x + y by omega] at f3
      rw [f3, r3 x y h5 h6 h7 h8, z1, z2]
      by_cases q1 : x = v1 ∧ y = v2
      · rw [if_pos q1, q1.1, q1.2]; omega
      · rw [if_neg q1]
        by_cases q2 : x = v2 ∧ y = v1
        · rw [if_pos q2, q2.1, q2.2]; omega
        · rw [if_neg q2])
    rw [uf_id, z1, z2] at this
    exact this
  refine b39_0 hG h_a (by intros; omega) (by intros; omega) rfl (by intros; omega) ?_ (by intros; omega) (by intros; omega) rfl (by intros; omega) rfl rfl ?_ ?_
  · intro p1
    exact zero (if_neg (by omega))
  · intro p1 p2
    refine c_kindPair hG ?_
    have hmt : mtF S v1 v2 = S (15 + ((S (173 + v1) - 1) * 6 + (S (173 + v2) - 1))) := by
      unfold mtF
      rw [if_pos (by omega)]
      congr 1
      omega
    have em := hr.2.2.1 ((S (173 + v1) - 1) * 6 + (S (173 + v2) - 1)) (by omega) (by omega)
    rw [← hmt] at em
    rw [e1, e2]
    refine b39_44 hG h_a (by intros; omega) (by intros; omega) rfl ?_
    refine c_soulPair hG ?_
    refine b39_51 hG h_a TM_eqo ?_
    refine c_soulPair hG ?_
    rw [show (9 : Nat) + 5 = 14 from rfl] at em
    rw [em]
    have k1 : v1 * 8 + v2 = 8 * v1 + v2 := by omega
    have k2 : v2 * 8 + v1 = 8 * v2 + v1 := by omega
    rw [k1, k2]
    have l1 : (if c (a + 6) (8 * v1 + v2) < mtF S v1 v2 then c (a + 6) (8 * v1 + v2) else mtF S v1 v2) = fsF S v1 v2 := by
      unfold fsF lsr; omega
    have l2 : (if c (a + 6) (8 * v2 + v1) < mtF S v1 v2 - fsF S v1 v2 then c (a + 6) (8 * v2 + v1) else mtF S v1 v2 - fsF S v1 v2) = sdF S v1 v2 := by
      unfold sdF lsr; omega
    refine b39_58 hG h_a (by intros; omega) (by intros; omega) rfl (by intros; omega) (by intros; omega) (by intros; omega) (by intros; omega) rfl (by intros; omega) (by intros; omega) rfl (up_n (by omega)) ?_
    rw [l1, l2, up_uf (c := c), uf_up]
    refine hz _ (fun x y h5 h6 h7 h8 => ?_)
    have f3 := hL.2.2.1 (8 * x + y) (by omega) (by omega)
    rw [show 205 + (8 * x + y) = 205 + 8 * x + y by omega] at f3
    rw [r3 x y h5 h6 h7 h8]
    by_cases q2 : x = v2 ∧ y = v1
    · rw [if_neg (by omega), if_pos q2, q2.1, q2.2, u1_e, f2]
    · rw [u1_n (by omega), if_neg q2]
      by_cases q1 : x = v1 ∧ y = v2
      · rw [if_pos q1, q1.1, q1.2, u1_e, f1]
      · rw [u1_n (by omega), if_neg q1, f3]
  · intro p1 p2
    exact zero (if_neg (by omega))
end SPC
