section SPbr
variable {d d1 d2 r n0 : Nat} {G : GG} {c c' cA cB cA0 cB0 cA' cB' : CC} {Q : Option AV → HH → Prop} {v v1 v2 N k i m n u x y z s : Int} {S S' : SS} {R : Int → Int}
def bkW (R : Int → Int) (i : Int) (S : SS) : Int := if R (3 * i) = 0 then whyF S (R (3 * i + 1)) (R (3 * i + 2)) else if S 168 + R (3 * i + 1) ≤ 9999 then 0 else 4
def bkT (R : Int → Int) (i : Int) (S : SS) : SS := if R (3 * i) = 0 then bornF S (R (3 * i + 1)) (R (3 * i + 2)) else if R (3 * i) = 2 then cdaysF (R (3 * i + 1)) S else daysF (R (3 * i + 1)) S
def bkS (R : Int → Int) (i : Int) (S : SS) : SS := if bkW R i S = 0 then bkT R i S else S
def bkN (R : Int → Int) : Nat → Int → SS → Int × Int × SS
  | 0, i, S => (0, i, S)
  | n + 1, i, S => if bkW R i S = 0 then bkN R n (i + 1) (bkT R i S) else (bkW R i S, i, S)
def BkOk (R : Int → Int) (S : SS) (i : Int) : Prop := (R (3 * i) = 0 ∧ (0 ≤ R (3 * i + 1) ∧ R (3 * i + 1) < S 1) ∧ 0 ≤ R (3 * i + 2) ∧ R (3 * i + 2) < S 0) ∨ ((R (3 * i) = 1 ∨ R (3 * i) = 2) ∧ 1 ≤ R (3 * i + 1) ∧ R (3 * i + 1) ≤ 60)
theorem bkW_b : 0 ≤ bkW R i S ∧ bkW R i S ≤ 4 := by
  have := why_b (S := S) (s := R (3 * i + 1)) (k := R (3 * i + 2))
  unfold bkW
  split
  · omega
  · split <;> omega
theorem bk_GS (h : GS S) (hk : BkOk R S i) (hw : bkW R i S = 0) : GS (bkT R i S) ∧ SmR S (bkT R i S) := by
  have g := h.1.1
  unfold bkW at hw
  unfold bkT
  rcases hk with ⟨e, h1, h2⟩ | ⟨e, h1, h2⟩
  · rw [if_pos e] at hw ⊢
    exact ⟨GS_born h h1.1 h1.2 h2.1 h2.2 hw, SmR_born h1.1 (by omega)⟩
  · rw [if_neg (by omega)] at hw ⊢
    have h168 : S 168 + R (3 * i + 1) ≤ 9999 := by
      by_cases q : S 168 + R (3 * i + 1) ≤ 9999
      · exact q
      · rw [if_neg q] at hw; omega
    by_cases e2 : R (3 * i) = 2
    · rw [if_pos e2]
      exact ⟨GS_cdays h (by omega) h168, SmR_cdays (by omega)⟩
    · rw [if_neg e2]
      exact ⟨GS_days h (by omega) h168, SmR_days (by omega)⟩
theorem BkOk_sm (h : BkOk R S i) (hs : SmR S S') : BkOk R S' i := by
  unfold BkOk
  rw [hs 0 (by omega), hs 1 (by omega)]
  exact h
theorem bkN_GS : ∀ (n : Nat) (i : Int) (S : SS), GS S → (∀ j, i ≤ j → j < i + n → BkOk R S j) → GS (bkN R n i S).2.2 ∧ SmR S (bkN R n i S).2.2 ∧ (0 ≤ (bkN R n i S).1 ∧ (bkN R n i S).1 ≤ 4) ∧ i ≤ (bkN R n i S).2.1 ∧ (bkN R n i S).2.1 ≤ i + n ∧ ((bkN R n i S).2.1 = i → (bkN R n i S).2.2 = S) := by
  intro n
  induction n with
  | zero => intro i S h _; exact ⟨h, SmR_refl S, ⟨Int.le_refl 0, by show (0 : Int) ≤ 4; omega⟩, Int.le_refl i, by show i ≤ i + _; omega, fun _ => rfl⟩
  | succ n ih =>
    intro i S h hk
    have hb := bkW_b (R := R) (i := i) (S := S)
    unfold bkN
    by_cases hw : bkW R i S = 0
    · rw [if_pos hw]
      obtain ⟨g1, g2⟩ := bk_GS h (hk i (by omega) (by omega)) hw
      obtain ⟨x1, x2, x3, x4, x5, x6⟩ := ih (i + 1) (bkT R i S) g1 (fun j h1 h2 => BkOk_sm (hk j (by omega) (by omega)) g2)
      exact ⟨x1, SmR_tr g2 x2, x3, by omega, by omega, fun x => by omega⟩
    · rw [if_neg hw]
      exact ⟨h, SmR_refl S, hb, by show i ≤ i; omega, by show i ≤ i + _; omega, fun _ => rfl⟩
theorem c_runLine (hG : Shp G) (hS : GS S) (hr : RR c 9 S) (hL : LR c 35 S) (h0 : 0 ≤ i ∧ i < 30) (hl : (c 121 i = 7 ∧ R (3 * i) = 0 ∧ c 122 i = R (3 * i + 1) ∧ c 123 i = R (3 * i + 2) ∧ (0 ≤ R (3 * i + 1) ∧ R (3 * i + 1) < S 1) ∧ 0 ≤ R (3 * i + 2) ∧ R (3 * i + 2) < S 0) ∨ (((c 121 i = 8 ∧ R (3 * i) = 1) ∨ (c 121 i = 9 ∧ R (3 * i) = 2)) ∧ c 123 i = R (3 * i + 1) ∧ 1 ≤ R (3 * i + 1) ∧ R (3 * i + 1) ≤ 60)) (hz : ∀ c', FrL 35 c c' → LR c' 35 (bkS R i S) → Q (some (aI (bkW R i S))) (G, c')) : TM (d + 6) 11 [aR 120, aR 35, aI i] (G, c) Q := by
  have hR := hS.1
  have hI := hS.2.1
  have g := hR.1
  have gb := GS_b hS
  have wb := why_b (S := S) (s := R (3 * i + 1)) (k := R (3 * i + 2))
  unfold bkS at hz
  rcases hl with ⟨e1, e2, e3, e4, ⟨b1, b2⟩, b3, b4⟩ | ⟨e, e4, b1, b2⟩
  · have eW : bkW R i S = whyF S (R (3 * i + 1)) (R (3 * i + 2)) := if_pos e2
    have eT : bkT R i S = bornF S (R (3 * i + 1)) (R (3 * i + 2)) := if_pos e2
    rw [eW, eT] at hz
    refine b11_0 hG (lf35) (by intros; omega) (by intros; omega) (e1) (by intros; omega) (e4) ?_ (e3) (e4) ?_
    · intro q; omega
    · intro q
      refine c_whyNot hG lf35 hR hI hr hL b1 b2 b3 b4 ?_
      refine b11_27 hG (lf35) TM_eqo (by intros; omega) ?_ (by intros; omega) (by intros; omega) (e3) (e4) ?_
      · intro q2
        rw [if_neg q2] at hz
        refine b11_48 hG ?_
        exact hz c (FrL_refl (a := 35)) hL
      · intro q2
        rw [if_pos q2] at hz
        refine c_giveOut hG lf35 hR hI hr hL b1 b2 b3 b4 (why_0 q2).1 (fun c2 f2 l2 => ?_)
        refine b11_48 hG ?_
        exact hz c2 f2 l2
  · have e2 : ¬ R (3 * i) = 0 := by omega
    have eW : bkW R i S = if S 168 + R (3 * i + 1) ≤ 9999 then 0 else 4 := if_neg e2
    have eT : bkT R i S = if R (3 * i) = 2 then cdaysF (R (3 * i + 1)) S else daysF (R (3 * i + 1)) S := if_neg e2
    rw [eW, eT] at hz
    have b121 : 8 ≤ c 121 i ∧ c 121 i ≤ 9 := by omega
    refine b11_0 hG (lf35) (by intros; omega) (by intros; omega) rfl (by intros; omega) (e4) ?_ rfl rfl ?_
    · intro q
      refine c_canPass hG lf35 hI hL (by omega) (by omega) ?_
      by_cases h168 : S 168 + R (3 * i + 1) ≤ 9999
      · rw [if_pos (by omega)]
        rw [if_pos h168, if_pos rfl] at hz
        refine b11_60 hG (lf35) TM_eqo (by intros; omega) (by intros; omega) (by intros; omega) rfl (by intros; omega) (e4) ?_ (e4) ?_ ?_
        · intro q2 q3
          rw [if_pos (by omega)] at hz
          refine c_passClerkDays hG lf35 hR hI hr hL (by omega) (fun c2 f2 l2 => ?_)
          refine b11_99 hG ?_
          exact hz c2 f2 l2
        · intro q2 q3
          rw [if_neg (by omega)] at hz
          refine c_passDays hG lf35 hR hI hr hL (by omega) (fun c2 f2 l2 => ?_)
          refine b11_86 hG ?_
          refine b11_99 hG ?_
          exact hz c2 f2 l2
        · intro q2; omega
      · rw [if_neg (by omega)]
        rw [if_neg h168, if_neg (by omega)] at hz
        refine b11_60 hG (lf35) TM_eqo (by intros; omega) (by intros; omega) (by intros; omega) rfl (by intros; omega) (e4) ?_ (e4) ?_ ?_
        · intro q2 q3; omega
        · intro q2 q3; omega
        · intro q2
          exact hz c (FrL_refl (a := 35)) hL
    · intro q; omega
theorem r_doesL (hG : Shp G) (hN : 0 ≤ N ∧ N ≤ 60) (e1 : 1 ≤ u ∧ u ≤ 2) (b0 : 0 ≤ v1 ∧ v1 < 130) : ∀ i, 0 ≤ i → i ≤ N → ∀ c : CC, c 192 v1 = u → InvR (c 190) → InvL (c 190) → Q (some (aI 0)) (G, q_uf c 190 (loopR (fun _ S => if u = 2 then cdayF S else dayF S) i N (c 190))) → T (d + 5) 249 71 [some (aR 188), some (aI v1), some (aI N), some (aI i)] [] (G, c) (QM Q) := by
  refine int_ind ?_ ?_
  · intro c e hR hI hz
    rw [loopR_e (by omega), uf_id] at hz
    refine b249_71 hG (by omega) (by omega) ?_ (by intros; exfalso; omega) (by intros; exfalso; omega) rfl (by intros; exfalso; omega) ?_ ?_
    · intro q; exact hz
    · intro q; omega
    · intro q; omega
  · intro i h1 h2 ih c e hR hI hz
    rw [loopR_s h2] at hz
    refine b249_71 hG (by intros; omega) (by intros; omega) ?_ (by intros; omega) (by intros; omega) (e) (by intros; omega) ?_ ?_
    · intro q; omega
    · intro q q2
      rw [if_neg q2] at hz
      refine b249_90 hG ?_
      refine r_day hG hR hI ?_
      refine b249_94 hG ?_
      have ho := Ok_day hR hI
      refine ih _ (by rw [uf_n (by omega)]; exact e) ?_ ?_ ?_
      · rw [uf_e]; exact Ok_R ho hR
      · rw [uf_e]; exact ho.2
      · rw [uf_e, uf_uf]; exact hz
    · intro q q2
      rw [if_pos q2] at hz
      refine r_clerks hG hR hI ?_
      refine b249_90 hG ?_
      have ho1 := Ok_clks hR hI
      refine r_day hG (by rw [uf_e]; exact Ok_R ho1 hR) (by rw [uf_e]; exact ho1.2) ?_
      rw [uf_e, uf_uf]
      refine b249_94 hG ?_
      have ho := Ok_cday hR hI
      refine ih _ (by rw [uf_n (by omega)]; exact e) ?_ ?_ ?_
      · rw [uf_e]; exact Ok_R ho hR
      · rw [uf_e]; exact ho.2
      · rw [uf_e, uf_uf]; exact hz
theorem r_does (hG : Shp G) (hS : GS (c 190)) (h0 : 0 ≤ i ∧ i < 30) (hk : BkOk (c 192) (c 190) i) (hz : Q (some (aI (bkW (c 192) i (c 190)))) (G, q_uf c 190 (bkS (c 192) i (c 190)))) : TM (d + 5) 249 [aR 188, aI (3 * i)] (G, c) Q := by
  have hR := hS.1
  have hI := hS.2.1
  have g := hR.1
  have gb := GS_b hS
  have wb := why_b (S := c 190) (s := c 192 (3 * i + 1)) (k := c 192 (3 * i + 2))
  unfold bkS at hz
  rcases hk with ⟨e2, ⟨b1, b2⟩, b3, b4⟩ | ⟨e, b1, b2⟩
  · have eW : bkW (c 192) i (c 190) = whyF (c 190) (c 192 (3 * i + 1)) (c 192 (3 * i + 2)) := if_pos e2
    have eT : bkT (c 192) i (c 190) = bornF (c 190) (c 192 (3 * i + 1)) (c 192 (3 * i + 2)) := if_pos e2
    rw [eW, eT] at hz
    refine b249_0 hG (by intros; omega) (by intros; omega) rfl (by intros; omega) (by intros; omega) (e2) (by intros; omega) rfl (by intros; omega) ?_ ?_ (by intros; omega) (by intros; omega) rfl ?_
    · intro q; omega
    · intro q; omega
    · intro q
      refine r_whyOf hG hR hI b1 (by omega) b3 b4 ?_
      refine b249_31 hG TM_eqo (by intros; omega) ?_ (by intros; omega) (by intros; omega) rfl ?_
      · intro q2
        rw [if_neg q2, uf_id] at hz
        refine b249_49 hG ?_
        exact hz
      · intro q2
        rw [if_pos q2] at hz
        refine r_born hG b1 (by omega) b3 (by omega) ?_
        refine b249_49 hG ?_
        exact hz
  · have e2 : ¬ c 192 (3 * i) = 0 := by omega
    have eW : bkW (c 192) i (c 190) = if c 190 168 + c 192 (3 * i + 1) ≤ 9999 then 0 else 4 := if_neg e2
    have eT : bkT (c 192) i (c 190) = if c 192 (3 * i) = 2 then cdaysF (c 192 (3 * i + 1)) (c 190) else daysF (c 192 (3 * i + 1)) (c 190) := if_neg e2
    rw [eW, eT] at hz
    refine b249_0 hG (by intros; omega) (by intros; omega) rfl (by intros; omega) (by intros; omega) rfl (by intros; omega) rfl (by intros; omega) ?_ ?_ (by intros; omega) (by intros; omega) rfl ?_
    · intro q q2
      rw [if_pos q2, if_pos rfl] at hz
      refine r_doesL hG (u := c 192 (3 * i)) (by omega) (by omega) (by omega) 0 (by omega) (by omega) c rfl hR hI ?_
      rw [loopR_0]
      by_cases h2 : c 192 (3 * i) = 2
      · rw [if_pos h2] at hz
        have e5 : (fun (_ : Int) (S : SS) => if c 192 (3 * i) = 2 then cdayF S else dayF S) = fun _ S => cdayF S := by
          funext _ S; rw [if_pos h2]
        rw [e5]; exact hz
      · rw [if_neg h2] at hz
        have e5 : (fun (_ : Int) (S : SS) => if c 192 (3 * i) = 2 then cdayF S else dayF S) = fun _ S => dayF S := by
          funext _ S; rw [if_neg h2]
        rw [e5]; exact hz
    · intro q q2
      rw [if_neg (by omega), if_neg (by omega), uf_id] at hz
      exact hz
    · intro q; omega
end SPbr
