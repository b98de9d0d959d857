section SPm4
variable {d : Nat} {G : GG} {c c' : CC} {Q : Option AV → HH → Prop} {S X : SS} {i j k n g x y a b N q w o K m mm dd s : Int} {wh : Int → Int}
theorem mn (x y : Int) : (if y < x then y else x) = lsr x y := by unfold lsr; split <;> split <;> omega
theorem c_grownBy (hG : Shp G) (hg : c 9 2 = g) (hb : 0 ≤ g ∧ g ≤ 9) (hx : 0 ≤ x ∧ x ≤ 99999) (hz : Q (some (aI (gw g x))) (G, c)) : TM d 51 [aR 124, aI x] (G, c) Q := by
  unfold gw at hz
  refine b51_0 hG (by intros; omega) ?_ (hg) (by intros; omega) ?_
  · intro p; rw [if_pos (by omega)] at hz; exact hz
  · intro p
    rw [if_neg (by omega)] at hz
    have e : (if 99999 < x + g then 99999 else x + g) = lsr 99999 (x + g) := rfl
    rw [e]; exact hz
theorem c_pairSum (hG : Shp G) (hg : c 9 2 = g) (hb : 0 ≤ g ∧ g ≤ 9) (ha : 0 ≤ a ∧ a < 8) (hb2 : 0 ≤ b ∧ b < 8) (hm : 0 ≤ mm ∧ mm ≤ 99) (hd : I32 dd) (ex : c 33 (8 * a + b) = x) (ey : c 33 (8 * b + a) = y) (bx : 0 ≤ x ∧ x ≤ 99999) (by' : 0 ≤ y ∧ y ≤ 99999) (hz : Q (some (aI (prS g mm dd.toNat x y))) (G, c)) : TM (d + 2) 50 [aR 124, aI a, aI b, aI mm, aI dd] (G, c) Q := by
  have key : ∀ (n : Nat) (i x y s : Int), (dd - i).toNat = n → 0 ≤ i → I32 i → (0 ≤ x ∧ x ≤ 99999) → (0 ≤ y ∧ y ≤ 99999) → Q (some (aI (s + prS g mm n x y))) (G, c) → T (d + 2) 50 36 [some (aR 124), none, none, some (aI mm), some (aI dd), some (aI x), some (aI y), some (aI s), some (aI i), none, none] [] (G, c) (QM Q) := by
    intro n
    induction n with
    | zero =>
      intro i x y s g1 g2 g3 hx hy hz
      have e : s + prS g mm 0 x y = s := by show s + 0 = s; omega
      rw [e] at hz
      refine b50_36 hG TM_eqo (by omega) (by omega) ?_ (by intros; exfalso; omega) ?_ (by intros; exfalso; omega) ?_ (by intros; exfalso; omega) (by intros; exfalso; omega) (by intros; exfalso; omega) ?_
      · intro p; exact hz
      · intro p; omega
      · intro p; omega
      · intro p; omega
    | succ n ih =>
      intro i x y s g1 g2 g3 hx hy hz
      have l1 := lsr_b (a := mm) (b := x)
      have l2 := lsr_b (a := mm - lsr mm x) (b := y)
      have e : prS g mm (n + 1) x y = lsr mm x + lsr (mm - lsr mm x) y + prS g mm n (gw g (x - lsr mm x)) (gw g (y - lsr (mm - lsr mm x) y)) := rfl
      have l3 := mn mm x
      have l4 := mn (mm - lsr mm x) y
      refine b50_36 hG TM_eqo (by intros; omega) (by intros; omega) ?_ (by intros; omega) ?_ (by intros; omega) ?_ (by intros; omega) (by intros; rw [l3]; omega) (by intros; omega) ?_
      · intro p; omega
      · intro p p2
        have hm0 : mm = 0 := by omega
        rw [hm0, prS_m0 _ _ _ hb.1 hx hy, show s + 0 = s by omega] at hz
        exact hz
      · intro p p2 p3
        have hx0 : x = 0 := by omega
        have hy0 : y = 0 := by omega
        rw [hx0, hy0, prS_00 _ hm.1, show s + 0 = s by omega] at hz
        exact hz
      · intro p p2 p3
        rw [l3, l4]
        refine c_grownBy hG hg hb (by omega) ?_
        refine b50_93 hG TM_eqo ?_
        refine c_grownBy hG hg hb (by omega) ?_
        refine b50_104 hG ?_
        have g1' := gw_b (g := g) (z := x - lsr mm x) (by omega) hb.1
        have g2' := gw_b (g := g) (z := y - lsr (mm - lsr mm x) y) (by omega) hb.1
        refine ih (i + 1) _ _ _ (by omega) (by omega) (by omega) g1' g2' ?_
        rw [e, show s + (lsr mm x + lsr (mm - lsr mm x) y + prS g mm n (gw g (x - lsr mm x)) (gw g (y - lsr (mm - lsr mm x) y))) = s + (lsr mm x + lsr (mm - lsr mm x) y) + prS g mm n (gw g (x - lsr mm x)) (gw g (y - lsr (mm - lsr mm x) y)) by omega] at hz
        exact hz
  refine b50_0 hG ?_
  refine c_soulPair hG ?_
  refine b50_12 hG TM_eqo (by intros; omega) (by intros; omega) rfl ?_
  refine c_soulPair hG ?_
  refine b50_27 hG (by intros; omega) (by intros; omega) rfl ?_
  rw [show a * 8 + b = 8 * a + b by omega, show b * 8 + a = 8 * b + a by omega, ex, ey]
  exact key dd.toNat 0 x y 0 (by omega) (by omega) (by omega) bx by' (by rw [show (0 : Int) + prS g mm dd.toNat x y = prS g mm dd.toNat x y by omega]; exact hz)
def MsL (c : CC) (S : SS) : Prop := InvR S ∧ InvL S ∧ RR c 9 S ∧ LR c 27 S
theorem MsL_fr (h : MsL c S) (f : ∀ r, (9 ≤ r ∧ r ≤ 17) ∨ (27 ≤ r ∧ r ≤ 34) → c' r = c r) : MsL c' S := ⟨h.1, h.2.1, RR_fr h.2.2.1 (fun r p q => f r (by omega)), LR_fr h.2.2.2 (fun r p q => f r (by omega))⟩
theorem Ms_d (h : MsL c S) (ha : 0 ≤ a ∧ a < 8) (hb : 0 ≤ b ∧ b < 8) : c 33 (8 * a + b) = S (205 + 8 * a + b) ∧ 0 ≤ S (205 + 8 * a + b) ∧ S (205 + 8 * a + b) ≤ 99999 := by
  have e := h.2.2.2.1.2.2.1 (8 * a + b) (by omega) (by omega)
  have bb := h.2.1.2.2.1 (8 * a + b) (by omega) (by omega)
  rw [show 205 + (8 * a + b) = 205 + 8 * a + b by omega] at e bb
  exact ⟨e, bb⟩
theorem Ms_m (h : MsL c S) (ha : 0 ≤ a ∧ a < 6) (hb : 0 ≤ b ∧ b < 6) : c 14 (a * 6 + b) = S (15 + 6 * a + b) ∧ 0 ≤ S (15 + 6 * a + b) ∧ S (15 + 6 * a + b) ≤ 99 := by
  have e := h.2.2.1.2.2.1 (a * 6 + b) (by omega) (by omega)
  have bb := h.1.2.2.1 (6 * a + b) (by omega) (by omega)
  rw [show 15 + (a * 6 + b) = 15 + 6 * a + b by omega] at e
  rw [show 15 + (6 * a + b) = 15 + 6 * a + b by omega] at bb
  exact ⟨e, bb⟩
theorem c_pairS (hG : Shp G) (h : MsL c S) (ha : 0 ≤ a ∧ a < 8) (hb : 0 ≤ b ∧ b < 8) (hm : 0 ≤ mm ∧ mm ≤ 99) (hd : I32 dd) (hz : Q (some (aI (prS (S 2) mm dd.toNat (S (205 + 8 * a + b)) (S (205 + 8 * b + a))))) (G, c)) : TM (d + 2) 50 [aR 124, aI a, aI b, aI mm, aI dd] (G, c) Q := by
  have d1 := Ms_d h ha hb
  have d2 := Ms_d h hb ha
  have g := h.1.1
  exact c_pairSum hG h.2.2.1.1.2.2 ⟨by omega, by omega⟩ ha hb hm hd d1.1 d2.1 d1.2 d2.2 hz
theorem c_byLiving (hG : Shp G) (h : MsL c S) (hn : 1 ≤ n ∧ n ≤ 30) (hz : Q (some (aI (totS S n))) (G, c)) : TM (d + 3) 45 [aR 124, aI n] (G, c) Q := by
  have g := h.1.1
  have e1 := h.2.2.1.1.2.1
  have hI := h.2.1
  have lv := h.2.2.2.1.2.1
  have key : ∀ i, 0 ≤ i → i ≤ S 1 → ∀ s, s = sumI (fun i => sumI (fun j => if i < j then pvN S i j n else 0) (S 1)) i → T (d + 3) 45 4 [some (aR 124), some (aI n), some (aI s), some (aI i), none, none] [] (G, c) (QM Q) := by
    refine int_ind ?_ ?_
    · intro s hs
      refine b45_4 hG (e1) (by intros; omega) (by intros; omega) ?_ ?_
      · intro p; rw [hs]; exact hz
      · intro p; omega
    · intro i p1 p2 ih s hs
      have row : ∀ j, i + 1 ≤ j → j ≤ S 1 → ∀ s', s' = s + sumI (fun j => if i < j then pvN S i j n else 0) j → T (d + 3) 45 20 [some (aR 124), some (aI n), some (aI s'), some (aI i), some (aI j), none] [] (G, c) (QM Q) := by
        refine int_ind ?_ ?_
        · intro s' hs'
          refine b45_20 hG TM_eqo (e1) (by omega) (by omega) ?_ (by intros; exfalso; omega) (by intros; exfalso; omega) rfl (by intros; exfalso; omega) ?_ (by intros; exfalso; omega) (by intros; exfalso; omega) rfl (by intros; exfalso; omega) ?_ rfl rfl (by intros; exfalso; omega) (by intros; exfalso; omega) (by intros; exfalso; omega) (by intros; exfalso; omega) rfl rfl ?_
          · intro p
            refine ih s' ?_
            rw [hs', hs, sumI_s p1]
          · intro p; omega
          · intro p; omega
          · intro p; omega
        · intro j q1 q2 ih2 s' hs'
          have li := lv i p1 (by omega)
          have lj := lv j (by omega) (by omega)
          have ii := hI.1 i p1 (by omega)
          have ij := hI.1 j (by omega) (by omega)
          have ev : (if i < j then pvN S i j n else 0) = pvN S i j n := if_pos (by omega)
          refine b45_20 hG TM_eqo (e1) (by intros; omega) (by intros; omega) ?_ (by intros; omega) (by intros; omega) (li.1) (by intros; omega) ?_ (by intros; omega) (by intros; omega) (lj.1) (by intros; omega) ?_ (li.2.1) (lj.2.1) (by intros; omega) (by intros; omega) (by intros; omega) (by intros; rw [mn]; have := lsr_b (a := S (181 + i)) (b := S (181 + j)); omega) (li.1) (lj.1) ?_
          · intro p; omega
          · intro p p3
            refine ih2 s' ?_
            rw [sumI_s (by omega), ev, hs']
            unfold pvN
            rw [if_pos (by omega)]; omega
          · intro p p3 p4
            refine ih2 s' ?_
            rw [sumI_s (by omega), ev, hs']
            unfold pvN
            rw [if_pos (by omega)]; omega
          · intro p p3 p4
            rw [mn, mn]
            refine c_kindPair hG ?_
            have mm := Ms_m h (a := S (173 + i) - 1) (b := S (173 + j) - 1) (by omega) (by omega)
            refine b45_121 hG TM_eqo (by intros; omega) (by intros; omega) (mm.1) ?_
            have lb := lsr_b (a := n) (b := lsr (S (181 + i)) (S (181 + j)))
            refine c_pairS hG h ⟨p1, by omega⟩ ⟨by omega, by omega⟩ mm.2 (by unfold lsr; split <;> (try split) <;> omega) ?_
            refine b45_127 hG ?_
            refine ih2 _ ?_
            rw [sumI_s (by omega), ev, hs']
            have e : pvN S i j n = prS (S 2) (S (15 + 6 * (S (173 + i) - 1) + (S (173 + j) - 1))) (lsr n (lsr (S (181 + i)) (S (181 + j)))).toNat (S (205 + 8 * i + j)) (S (205 + 8 * j + i)) := by
              unfold pvN
              rw [if_neg (by omega)]
              have em : mtF S i j = S (15 + 6 * (S (173 + i) - 1) + (S (173 + j) - 1)) := by
                unfold mtF
                rw [if_pos (by omega)]
                congr 1; omega
              rw [em]
            rw [e]; omega
      have r0 := row (i + 1) (by omega) (by omega) s (by
        have e : sumI (fun j => if i < j then pvN S i j n else 0) (i + 1) = 0 := by
          have h1 := sumI_c (f := fun j => if i < j then pvN S i j n else 0) (g := fun _ => 0) (n := i + 1) (fun j q1 q2 => if_neg (by omega))
          rw [h1]
          have h2 := sumI_lo (f := fun _ => (0 : Int)) (n := i + 1) (lo := 0) (by omega) (fun _ _ _ => by show (0 : Int) ≤ 0; omega)
          have h3 := sumI_hi (f := fun _ => (0 : Int)) (n := i + 1) (hi := 0) (by omega) (fun _ _ _ => by show (0 : Int) ≤ 0; omega)
          omega
        rw [e]; omega)
      refine b45_4 hG (e1) (by intros; omega) (by intros; omega) ?_ ?_
      · intro p; omega
      · intro p; exact r0
  refine b45_0 hG ?_
  exact key 0 (by omega) (by omega) 0 (by rw [sumI_0 (by omega)])
theorem pvW_b (hR : InvR S) (hI : InvL S) (hw : 0 ≤ w ∧ w < 8) (hk : 0 ≤ k ∧ k < S 0) (ho : 0 ≤ o ∧ o < 8) (hn : 0 ≤ n ∧ n ≤ 30) : 0 ≤ pvW S w k o n ∧ pvW S w k o n ≤ 2970 := by
  have g := hR.1
  have io := hI.1 o ho.1 ho.2
  have rk := hR.2.1 k hk.1 hk.2
  have d1 := hI.2.2.1 (8 * o + w) (by omega) (by omega)
  have d2 := hI.2.2.1 (8 * w + o) (by omega) (by omega)
  rw [show 205 + (8 * o + w) = 205 + 8 * o + w by omega] at d1
  rw [show 205 + (8 * w + o) = 205 + 8 * w + o by omega] at d2
  unfold pvW
  by_cases hz : S (173 + o) = 0
  · rw [if_pos hz]; omega
  · rw [if_neg hz]
    by_cases hlt : o < w
    · rw [if_pos hlt]
      have m1 := hR.2.2.1 (6 * (S (173 + o) - 1) + k) (by omega) (by omega)
      rw [show 15 + (6 * (S (173 + o) - 1) + k) = 15 + 6 * S (173 + o) + (k + 1) - 7 by omega] at m1
      have l1 := lsr_b (a := n) (b := lsr (S (181 + o)) (S (3 + k)))
      have p := prS_b (g := S 2) (lsr n (lsr (S (181 + o)) (S (3 + k)))).toNat _ _ m1 g.2.2.2.2.1 d1 d2
      omega
    · rw [if_neg hlt]
      have m1 := hR.2.2.1 (6 * k + (S (173 + o) - 1)) (by omega) (by omega)
      rw [show 15 + (6 * k + (S (173 + o) - 1)) = 15 + 6 * (k + 1) + S (173 + o) - 7 by omega] at m1
      have l1 := lsr_b (a := n) (b := lsr (S (3 + k)) (S (181 + o)))
      have p := prS_b (g := S 2) (lsr n (lsr (S (3 + k)) (S (181 + o)))).toNat _ _ m1 g.2.2.2.2.1 d2 d1
      omega
theorem addW_b (hR : InvR S) (hI : InvL S) (hw : 0 ≤ w ∧ w < 8) (hk : 0 ≤ k ∧ k < S 0) (hn : 0 ≤ n ∧ n ≤ 30) : 0 ≤ addW S w k n ∧ addW S w k n ≤ 23760 := by
  have g := hR.1
  unfold addW
  have h1 := sumI_lo (f := fun o => if o = w then 0 else pvW S w k o n) (n := S 1) (lo := 0) (by omega) (fun o p q => by
    show 0 ≤ if o = w then 0 else pvW S w k o n
    have := pvW_b hR hI hw hk ⟨p, by omega⟩ hn (o := o)
    split <;> omega)
  have h2 := sumI_hi (f := fun o => if o = w then 0 else pvW S w k o n) (n := S 1) (hi := 2970) (by omega) (fun o p q => by
    show (if o = w then 0 else pvW S w k o n) ≤ 2970
    have := pvW_b hR hI hw hk ⟨p, by omega⟩ hn (o := o)
    split <;> omega)
  omega
theorem togV_b (hR : InvR S) (hI : InvL S) (ha : 0 ≤ a ∧ a < 8) (hb : 0 ≤ b ∧ b < 8) (hx : 0 ≤ x ∧ x < S 0) (hy : 0 ≤ y ∧ y < S 0) (hn : 0 ≤ n ∧ n ≤ 30) : 0 ≤ togV S n a b x y ∧ togV S n a b x y ≤ 2970 := by
  have g := hR.1
  have d1 := hI.2.2.1 (8 * a + b) (by omega) (by omega)
  have d2 := hI.2.2.1 (8 * b + a) (by omega) (by omega)
  rw [show 205 + (8 * a + b) = 205 + 8 * a + b by omega] at d1
  rw [show 205 + (8 * b + a) = 205 + 8 * b + a by omega] at d2
  have m1 := hR.2.2.1 (6 * x + y) (by omega) (by omega)
  rw [show 15 + (6 * x + y) = 15 + 6 * x + y by omega] at m1
  have r1 := hR.2.1 x hx.1 hx.2
  have r2 := hR.2.1 y hy.1 hy.2
  have l1 := lsr_b (a := n) (b := lsr (S (3 + x)) (S (3 + y)))
  unfold togV
  have p := prS_b (g := S 2) (lsr n (lsr (S (3 + x)) (S (3 + y)))).toNat _ _ m1 g.2.2.2.2.1 d1 d2
  omega
end SPm4
