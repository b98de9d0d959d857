section SPm8
variable {d : Nat} {G : GG} {c c' c0 : CC} {Q : Option AV → HH → Prop} {S X : SS} {i j k n g x y a b N q w o K m mm dd s lo : Int} {wh bd way : Int → Int} {acc : Int × (Int → Int)}
def wqN (S : SS) (s : Int) : Int × (Int → Int) := loopI (fun s p => if S (173 + s) = 0 then (p.1 + 1, q_u1 p.2 p.1 s) else p) s (0, fun _ => 0)
theorem wq_ok (hs : 0 ≤ s) : (wqN S s).1 = sumI (fun i => if S (173 + i) = 0 then 1 else 0) s ∧ 0 ≤ (wqN S s).1 ∧ (wqN S s).1 ≤ s ∧ (∀ j, 0 ≤ j → j < (wqN S s).1 → 0 ≤ (wqN S s).2 j ∧ (wqN S s).2 j < s ∧ S (173 + (wqN S s).2 j) = 0) ∧ ∀ j i, 0 ≤ j → j < i → i < (wqN S s).1 → (wqN S s).2 j < (wqN S s).2 i := by
  refine loopI_pi (f := fun s p => if S (173 + s) = 0 then (p.1 + 1, q_u1 p.2 p.1 s) else p) (n := s) (P := fun s p => p.1 = sumI (fun i => if S (173 + i) = 0 then 1 else 0) s ∧ 0 ≤ p.1 ∧ p.1 ≤ s ∧ (∀ j, 0 ≤ j → j < p.1 → 0 ≤ p.2 j ∧ p.2 j < s ∧ S (173 + p.2 j) = 0) ∧ ∀ j i, 0 ≤ j → j < i → i < p.1 → p.2 j < p.2 i) (x := ((0 : Int), fun _ => (0 : Int))) hs ⟨by rw [sumI_0 (by omega)], Int.le_refl 0, Int.le_refl 0, fun j h1 h2 => by exfalso; have : j < 0 := h2; omega, fun j i h1 h2 h3 => by exfalso; have : i < 0 := h3; omega⟩ (fun k p h1 h2 hp => ?_)
  obtain ⟨p1, p2, p5, p3, p4⟩ := hp
  by_cases hz : S (173 + k) = 0
  · have e : (if S (173 + k) = 0 then (p.1 + 1, q_u1 p.2 p.1 k) else p) = (p.1 + 1, q_u1 p.2 p.1 k) := if_pos hz
    rw [e]
    refine ⟨?_, by show 0 ≤ p.1 + 1; omega, by show p.1 + 1 ≤ k + 1; omega, fun j j1 j2 => ?_, fun j i j1 j2 j3 => ?_⟩
    · show p.1 + 1 = _
      rw [sumI_s h1, if_pos hz, p1]
    · have j2 : j < p.1 + 1 := j2
      show 0 ≤ q_u1 p.2 p.1 k j ∧ q_u1 p.2 p.1 k j < k + 1 ∧ S (173 + q_u1 p.2 p.1 k j) = 0
      by_cases hj : j = p.1
      · rw [hj, u1_e]; exact ⟨h1, by omega, hz⟩
      · rw [u1_n hj]
        have := p3 j j1 (by omega)
        exact ⟨this.1, by omega, this.2.2⟩
    · have j3 : i < p.1 + 1 := j3
      show q_u1 p.2 p.1 k j < q_u1 p.2 p.1 k i
      rw [u1_n (by omega)]
      by_cases hi : i = p.1
      · rw [hi, u1_e]
        exact (p3 j j1 (by omega)).2.1
      · rw [u1_n hi]
        exact p4 j i j1 j2 (by omega)
  · have e : (if S (173 + k) = 0 then (p.1 + 1, q_u1 p.2 p.1 k) else p) = p := if_neg hz
    rw [e]
    refine ⟨?_, p2, by omega, fun j j1 j2 => ?_, p4⟩
    · rw [sumI_s h1, if_neg hz, p1]; omega
    · have := p3 j j1 j2
      exact ⟨this.1, by omega, this.2.2⟩
theorem wq_s (hs : 0 ≤ s) : wqN S (s + 1) = if S (173 + s) = 0 then ((wqN S s).1 + 1, q_u1 (wqN S s).2 (wqN S s).1 s) else wqN S s := loopI_s hs
def mF (S : SS) : Int := (wqN S (S 1)).1
def whF (S : SS) : Int → Int := (wqN S (S 1)).2
theorem Wait_wq (hR : InvR S) (h5 : wtsF S ≤ 5) : Wait S (whF S) (mF S) := by
  have g := hR.1
  obtain ⟨p1, p2, p5, p3, p4⟩ := wq_ok (S := S) (s := S 1) (by omega)
  have e : mF S = wtsF S := p1
  refine ⟨⟨p2, by omega⟩, p3, p4⟩
theorem wq_le (h1 : 0 ≤ s) (h2 : s ≤ S 1) : (wqN S s).1 ≤ wtsF S := by
  have e : ∀ x, s ≤ x → x ≤ S 1 → (wqN S s).1 ≤ sumI (fun i => if S (173 + i) = 0 then 1 else 0) x := by
    intro x
    have key : ∀ (t : Nat) (x : Int), x = s + t → (wqN S s).1 ≤ sumI (fun i => if S (173 + i) = 0 then 1 else 0) x := by
      intro t
      induction t with
      | zero =>
        intro x hx
        have := (wq_ok (S := S) h1).1
        rw [show x = s by omega]; omega
      | succ t ih =>
        intro x hx
        have := ih (x - 1) (by omega)
        rw [show x = (x - 1) + 1 by omega, sumI_s (by omega)]
        split <;> omega
    intro g1 g2
    exact key (x - s).toNat x (by omega)
  exact e (S 1) h2 (Int.le_refl _)
def bstF (S : SS) (n : Int) : Int × (Int → Int) := srch (whF S) (S 0) n (S 169) (mF S).toNat 0 (fun _ => 0) (some S) (-1, fun _ => 0)
theorem c_clear (hG : Shp G) (hz : ∀ c', (∀ q, ¬ q = 131 → c' q = c q) → (∀ q, 0 ≤ q → q < 8 → c' 131 q = -1) → Q none (G, c')) : TM d 42 [aR 124] (G, c) Q := by
  have key : ∀ i, 0 ≤ i → i ≤ 8 → ∀ c2 : CC, (∀ q, ¬ q = 131 → c2 q = c q) → (∀ q, 0 ≤ q → q < i → c2 131 q = -1) → T d 42 2 [some (aR 124), some (aI i)] [] (G, c2) (QM Q) := by
    refine int_ind ?_ ?_
    · intro c2 h1 h2
      refine b42_2 hG (by intros; omega) ?_ (by intros; omega) (by intros; omega) ?_
      · intro p; exact hz c2 h1 h2
      · intro p; omega
    · intro i p1 p2 ih c2 h1 h2
      refine b42_2 hG (by intros; omega) ?_ (by intros; omega) (by intros; omega) ?_
      · intro p; omega
      · intro p
        refine ih _ (fun q hq => by rw [up_r hq]; exact h1 q hq) (fun q q1 q2 => ?_)
        by_cases hq : q = i
        · rw [hq, up_e]
        · rw [up_n (by omega)]; exact h2 q q1 (by omega)
  refine b42_0 hG ?_
  exact key 0 (by omega) (by omega) c (fun _ _ => rfl) (fun q q1 q2 => by omega)
theorem c_most (hG : Shp G) (h : MsL c S) (h5 : wtsF S ≤ 5) (hn : 1 ≤ n ∧ n ≤ 30) (hz : ∀ c', (∀ q, (q < 124 ∨ 131 < q) → c' q = c q) → AccR (whF S) (mF S) (c' 131) (bstF S n) → Q (some (aI (bstF S n).1)) (G, c')) : TM (d + 20) 44 [aR 124, aI n] (G, c) Q := by
  have g := h.1.1
  have hw := Wait_wq h.1 h5
  have hm := hw.1
  have key : ∀ s, 0 ≤ s → s ≤ S 1 → ∀ c2 : CC, (∀ q, (q < 124 ∨ 131 < q) → c2 q = c q) → c2 124 3 = (wqN S s).1 → (∀ j, 0 ≤ j → j < (wqN S s).1 → c2 125 j = (wqN S s).2 j) → (∀ q, 0 ≤ q → q < 8 → c2 131 q = -1) → T (d + 20) 44 11 [some (aR 124), some (aI n), some (aI s)] [] (G, c2) (QM Q) := by
    refine int_ind ?_ ?_
    · intro c2 f1 f2 f3 f4
      have em : c2 124 3 = mF S := f2
      have fm : ∀ c3 : CC, (∀ q, (q < 124 ∨ 131 < q) → c3 q = c q) → MsL c3 S := fun c3 f => MsL_fr h (fun r hr => f r (by omega))
      refine b44_11 hG TM_eqo ((congrFun (f1 9 (by omega)) 1).trans h.2.2.1.1.2.1) (by omega) (by omega) ?_ (by intros; exfalso; omega) (by intros; exfalso; omega) rfl (by intros; exfalso; omega) ?_ rfl (by intros; exfalso; omega) ?_ rfl (by intros; exfalso; omega) (by intros; exfalso; omega) (up_n (by omega)) ?_
      · intro p
        have a1 : ∀ q, (q < 124 ∨ 131 < q) → (q_uf c2 129 (q_cp (c2 32) (c2 129) 0 0 6)) q = c q := fun q hq => by rw [uf_n (by omega)]; exact f1 q hq
        refine c_fillTables hG (fm _ a1) hw hn (by rw [uf_n (by omega)]; exact em) (fun j j1 j2 => by rw [uf_n (by omega)]; exact f3 j j1 j2) ?_
        intro c3 k1 k2 k3
        have a2 : ∀ q, (q < 124 ∨ 131 < q) → c3 q = c q := fun q hq => by rw [k1 q (by omega) (by omega) (by omega)]; exact a1 q hq
        refine b44_92 hG TM_eqo ?_
        have a3 : ∀ q, (q < 124 ∨ 131 < q) → (q_up c3 124 9 (-1)) q = c q := fun q hq => by rw [up_r (by omega)]; exact a2 q hq
        refine c_byLiving hG (fm _ a3) hn ?_
        refine b44_104 hG ?_
        have em3 : (q_up c3 124 9 (-1)) 124 3 = mF S := by rw [up_n (by omega), k1 124 (by omega) (by omega) (by omega), uf_n (by omega)]; exact em
        refine c_choose (c0 := q_up c3 124 9 (-1)) hG (fm _ a3) hw hn em3 (fun j j1 j2 => by rw [up_r (by omega), k1 125 (by omega) (by omega) (by omega), uf_n (by omega)]; exact f3 j j1 j2) (TbF_fr k2 (by rw [up_r (by omega)]) (by rw [up_r (by omega)])) (by rw [up_r (by omega)]; exact k3) (mF S).toNat _ 0 (fun _ => 0) S (-1, fun _ => 0) _ _ (by omega) (by omega) (by omega) (Node_0 h.1 h.2.1 hw) (fun j j1 j2 => by omega) ?_ ?_
        · have e131 : (q_up c3 124 9 (-1)) 131 = c2 131 := by rw [up_r (by omega), k1 131 (by omega) (by omega) (by omega), uf_n (by omega)]
          refine ⟨fun _ _ _ _ _ => rfl, fun _ _ => rfl, up_e, ⟨by show (-1 : Int) ≤ -1 ∧ (-1 : Int) ≤ 200000; omega, fun q q1 q2 q3 => by rw [e131]; exact f4 q q1 q2, fun _ q q1 q2 => by rw [e131]; exact f4 q q1 q2, fun h => absurd rfl h⟩, fun j j1 j2 => by omega, fun k k1' k2' => ?_⟩
          rw [up_r (by omega), k1 129 (by omega) (by omega) (by omega), uf_e, cp0 (by omega) (by omega), f1 32 (by omega)]
          exact h.2.2.2.2 k k1' k2'
        · intro c4 hc4
          obtain ⟨y1, y2, y3, y4, y5, y6⟩ := hc4
          refine b44_107 hG (y3) ?_
          refine hz c4 (fun q hq => ?_) y4
          rw [y1 q (by omega) (by omega) (by omega) (by omega)]; exact a3 q hq
      · intro p; omega
      · intro p; omega
      · intro p; omega
    · intro s p1 p2 ih c2 f1 f2 f3 f4
      have hI := h.2.1.1 s p1 (by omega)
      have lv := (h.2.2.2.1.2.1 s p1 (by omega)).1
      have ws := wq_s (S := S) p1
      have wk := wq_ok (S := S) p1
      refine b44_11 hG TM_eqo ((congrFun (f1 9 (by omega)) 1).trans h.2.2.1.1.2.1) (by intros; omega) (by intros; omega) ?_ (by intros; omega) (by intros; omega) ((congrFun (f1 28 (by omega)) s).trans lv) (by intros; omega) ?_ (f2) (by intros; omega) ?_ (f2) (by intros; omega) (by intros; omega) ((up_n (by omega)).trans f2) ?_
      · intro p; omega
      · intro p p3
        rw [if_neg (by omega)] at ws
        refine ih c2 f1 ?_ ?_ f4
        · rw [ws]; exact f2
        · rw [ws]; exact f3
      · intro p p3 p4
        exfalso
        rw [if_pos (by omega)] at ws
        have := wq_le (S := S) (s := s + 1) (by omega) (by omega)
        rw [ws] at this
        have : (wqN S s).1 + 1 ≤ wtsF S := this
        omega
      · intro p p3 p4
        rw [if_pos (by omega)] at ws
        refine ih _ (fun q hq => by rw [up_r (by omega), up_r (by omega)]; exact f1 q hq) ?_ ?_ (fun q q1 q2 => by rw [up_r (by omega), up_r (by omega)]; exact f4 q q1 q2)
        · rw [ws, up_e]
        · rw [ws]
          intro j j1 j2
          have j2 : j < (wqN S s).1 + 1 := j2
          rw [up_n (by omega)]
          show _ = q_u1 (wqN S s).2 (wqN S s).1 s j
          by_cases hj : j = (wqN S s).1
          · rw [hj, up_e, u1_e]
          · rw [up_n (by omega), u1_n hj]; exact f3 j j1 (by omega)
  refine b44_0 hG ?_
  refine c_clear hG ?_
  intro c1 h1 h2
  refine b44_4 hG ?_
  have e : wqN S 0 = (0, fun _ => 0) := loopI_0 (by omega)
  refine key 0 (by omega) (by omega) _ (fun q hq => by rw [up_r (by omega)]; exact h1 q (by omega)) (by rw [up_e, e]) (fun j j1 j2 => ?_) (fun q q1 q2 => by rw [up_r (by omega)]; exact h2 q q1 q2)
  exfalso
  rw [e] at j2
  have : j < 0 := j2
  omega
end SPm8
