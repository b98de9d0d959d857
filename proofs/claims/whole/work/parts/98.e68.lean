section SPah
variable {d : Nat} {G : GG} {c c' c0 cA cB : CC} {Q : Option AV → HH → Prop} {S X : SS} {m K k js v t x y j j0 i N s o b n fb v1 v2 : Int} {L f way w r r' : Int → Int}
def grst (r : Int → Int) (o : Int) (X : SS) : SS := if X (197 + o) = 1 ∧ ¬ X (173 + o) = r o + 1 then livesF X o (r o) else X
def grS (S : SS) (r : Int → Int) (o : Int) : SS := loopI (grst r) o S
theorem gr_s (h : 0 ≤ o) : grS S r (o + 1) = grst r o (grS S r o) := loopI_s h
theorem lv_rd {q : Int} : livesF X o v q = if q = 181 + o then X (3 + v) else if q = 173 + o then v + 1 else X q := by
  show q_u1 (q_u1 X (173 + o) (v + 1)) (181 + o) (X (3 + v)) q = _
  by_cases h1 : q = 181 + o
  · rw [if_pos h1, h1, u1_e]
  · rw [if_neg h1, u1_n h1]
    by_cases h2 : q = 173 + o
    · rw [if_pos h2, h2, u1_e]
    · rw [if_neg h2, u1_n h2]
theorem gr_rd (hN : N ≤ 8) (hr : ∀ q, 0 ≤ q → q < N → S (197 + q) = 1 → 0 ≤ r q ∧ r q < 6) : ∀ o, 0 ≤ o → o ≤ N → (∀ q, ¬ (173 ≤ q ∧ q < 173 + o) → ¬ (181 ≤ q ∧ q < 181 + o) → grS S r o q = S q) ∧ ∀ q, 0 ≤ q → q < o → (S (197 + q) = 1 → grS S r o (173 + q) = r q + 1 ∧ grS S r o (181 + q) = if S (173 + q) = r q + 1 then S (181 + q) else S (3 + r q)) ∧ (¬ S (197 + q) = 1 → grS S r o (173 + q) = S (173 + q) ∧ grS S r o (181 + q) = S (181 + q)) := by
  refine int_up ?_ ?_
  · have e : grS S r 0 = S := loopI_0 (by omega)
    rw [e]
    exact ⟨fun _ _ _ => rfl, fun q h1 h2 => by omega⟩
  · intro o h1 h2 ih
    obtain ⟨p1, p2⟩ := ih
    rw [gr_s h1]
    have e1 := p1 (197 + o) (by omega) (by omega)
    have e2 := p1 (173 + o) (by omega) (by omega)
    have e3 := p1 (181 + o) (by omega) (by omega)
    unfold grst
    rw [e1, e2]
    by_cases hc : S (197 + o) = 1 ∧ ¬ S (173 + o) = r o + 1
    · rw [if_pos hc]
      have ro := hr o h1 h2 hc.1
      have e4 := p1 (3 + r o) (by omega) (by omega)
      refine ⟨fun q q1 q2 => ?_, fun q q1 q2 => ?_⟩
      · rw [lv_rd, if_neg (by omega), if_neg (by omega)]; exact p1 q (by omega) (by omega)
      · by_cases hq : q = o
        · rw [hq]
          refine ⟨fun _ => ?_, fun z => absurd hc.1 z⟩
          rw [lv_rd, lv_rd, if_neg (by omega), if_pos rfl, if_pos rfl, if_neg hc.2, e4]; exact ⟨rfl, rfl⟩
        · rw [lv_rd, lv_rd, if_neg (by omega), if_neg (by omega), if_neg (by omega), if_neg (by omega)]
          exact p2 q q1 (by omega)
    · rw [if_neg hc]
      refine ⟨fun q q1 q2 => p1 q (by omega) (by omega), fun q q1 q2 => ?_⟩
      by_cases hq : q = o
      · rw [hq, e2, e3]
        refine ⟨fun z => ?_, fun _ => ⟨rfl, rfl⟩⟩
        have : S (173 + o) = r o + 1 := by
          by_cases h : S (173 + o) = r o + 1
          · exact h
          · exact absurd ⟨z, h⟩ hc
        rw [if_pos this]; exact ⟨this, rfl⟩
      · exact p2 q q1 (by omega)
theorem room_lives (h0 : 0 ≤ o ∧ o < X 1) (h1 : X 1 ≤ 8) (hv : 0 ≤ v ∧ v < 6) (hz : X (197 + o) = 1) (hx : 0 ≤ x ∧ x < 6) : room (livesF X o v) x = room X x + (if x = X (173 + o) - 1 then 1 else 0) - (if x = v then 1 else 0) := by
  unfold room
  rw [lv_rd, if_neg (by omega), if_neg (by omega), show livesF X o v 1 = X 1 by rw [lv_rd, if_neg (by omega), if_neg (by omega)]]
  rw [sumI_u (f := isAs X x) (g := isAs (livesF X o v) x) h0.1 h0.2 (fun q p1 p2 hq => by
    unfold isAs
    have h1 : livesF X o v (197 + q) = X (197 + q) := by rw [lv_rd, if_neg (by omega), if_neg (by omega)]
    have h2 : livesF X o v (173 + q) = X (173 + q) := by rw [lv_rd, if_neg (by omega), if_neg (by omega)]
    rw [h1, h2])]
  have e1 : isAs X x o = if x = X (173 + o) - 1 then 1 else 0 := by
    unfold isAs
    by_cases h : x = X (173 + o) - 1
    · rw [if_pos h, if_pos ⟨hz, by omega⟩]
    · rw [if_neg h, if_neg (show ¬ (X (197 + o) = 1 ∧ X (173 + o) = x + 1) from fun z => h (by omega))]
  have e2 : isAs (livesF X o v) x o = if x = v then 1 else 0 := by
    unfold isAs
    have h1 : livesF X o v (197 + o) = X (197 + o) := by rw [lv_rd, if_neg (by omega), if_neg (by omega)]
    have h2 : livesF X o v (173 + o) = v + 1 := by rw [lv_rd, if_neg (by omega), if_pos rfl]
    rw [h1, h2]
    by_cases h : x = v
    · rw [if_pos h, if_pos ⟨hz, by omega⟩]
    · rw [if_neg h, if_neg (show ¬ (X (197 + o) = 1 ∧ v + 1 = x + 1) from fun z => h (by omega))]
  rw [e1, e2]; omega
theorem lv_sm (h : 0 ≤ o ∧ o < 8) : SmR X (livesF X o v) := fun q hq => by rw [lv_rd, if_neg (by omega), if_neg (by omega)]
theorem gr_sm (hN : N ≤ 8) : ∀ o, 0 ≤ o → o ≤ N → SmR S (grS S r o) := by
  refine int_up ?_ ?_
  · have e : grS S r 0 = S := loopI_0 (by omega)
    rw [e]; exact SmR_refl S
  · intro o h1 h2 ih
    rw [gr_s h1]
    unfold grst
    split
    · exact SmR_tr ih (lv_sm (by omega))
    · exact ih
theorem gr_GS (h : GS S) (hF : Feas S s k way) (hB : Box way (mT S) (S 0)) (hr : ∀ j, 0 ≤ j → j < mT S → r (wT S j) = sgW S way j) : GS (grS S r (S 1)) := by
  have hR := h.1
  have hI := h.2.1
  have g := hR.1
  have rb : ∀ q, 0 ≤ q → q < S 1 → S (197 + q) = 1 → ∃ j, 0 ≤ j ∧ j < mT S ∧ wT S j = q ∧ r q = sgW S way j ∧ 0 ≤ r q ∧ r q < S 0 := fun q q1 q2 q3 => by
    obtain ⟨j, j1, j2, j3⟩ := wT_all hR q1 q2 (by omega)
    have e := hr j j1 j2
    rw [j3] at e
    have b := (sgW_b hR hI hB j1 j2).1
    exact ⟨j, j1, j2, j3, e, by omega, by omega⟩
  obtain ⟨p1, p2⟩ := gr_rd (S := S) (r := r) (N := S 1) (by omega) (fun q q1 q2 q3 => by obtain ⟨_, _, _, _, _, a, b⟩ := rb q q1 q2 q3; omega) (S 1) (by omega) (Int.le_refl _)
  have sm := gr_sm (S := S) (r := r) (N := S 1) (by omega) (S 1) (by omega) (Int.le_refl _)
  have hR' := InvR_sm sm hR
  have same : ∀ q, ¬ (173 ≤ q ∧ q < 189) → grS S r (S 1) q = S q := fun q hq => p1 q (by omega) (by omega)
  have late : ∀ q, 0 ≤ q → S 1 ≤ q → q < 8 → grS S r (S 1) (173 + q) = S (173 + q) ∧ grS S r (S 1) (181 + q) = S (181 + q) := fun q q1 q2 q3 => ⟨p1 _ (by omega) (by omega), p1 _ (by omega) (by omega)⟩
  have b := hI
  obtain ⟨b1, b2, b3, b4, b5, b6, b7, b8⟩ := b
  have e0 := same 0 (by omega)
  have e1 := same 1 (by omega)
  have bd := h.2.2.1
  refine ⟨hR', ⟨fun q q1 q2 => ?_, fun q q1 q2 q3 => ?_, fun i q1 q2 => by rw [same _ (by omega)]; exact b3 i q1 q2, fun x y q1 q2 q3 q4 q5 => by rw [e1] at q5; rw [same _ (by omega)]; exact b4 x y q1 q2 q3 q4 q5, fun x q1 q2 => ?_, ?_, by rw [same 168 (by omega), same 169 (by omega), same 170 (by omega)]; exact b7, fun x y q1 q2 q3 q4 => by rw [same _ (by omega), same _ (by omega)]; exact b8 x y q1 q2 q3 q4⟩, ?_, by rw [same 168 (by omega)]; exact h.2.2.2⟩
  · have bq := b1 q q1 q2
    rw [e0, e1, same (189 + q) (by omega), same (197 + q) (by omega)]
    by_cases hq : q < S 1
    · by_cases ht : S (197 + q) = 1
      · obtain ⟨a1, a2⟩ := (p2 q q1 hq).1 ht
        obtain ⟨j, _, _, _, _, r1, r2⟩ := rb q q1 hq ht
        have pl := hR.2.1 (r q) r1 r2
        rw [a1, a2]
        have sb : 1 ≤ (if S (173 + q) = r q + 1 then S (181 + q) else S (3 + r q)) ∧ (if S (173 + q) = r q + 1 then S (181 + q) else S (3 + r q)) ≤ 60 := by
          by_cases hh : S (173 + q) = r q + 1
          · rw [if_pos hh]; omega
          · rw [if_neg hh]; omega
        omega
      · obtain ⟨a1, a2⟩ := (p2 q q1 hq).2 ht
        rw [a1, a2]; exact bq
    · obtain ⟨a1, a2⟩ := late q q1 (by omega) q2
      rw [a1, a2]; exact bq
  · rw [same (51 + q) (by omega)]
    by_cases hq : q < S 1
    · by_cases ht : S (197 + q) = 1
      · obtain ⟨a1, a2⟩ := (p2 q q1 hq).1 ht
        obtain ⟨j, j1, j2, j3, j4, r1, r2⟩ := rb q q1 hq ht
        have al := (hF.1 j j1 j2).1
        unfold alT at al
        rw [a1, show r q + 1 - 1 = r q by omega, j4, ← j3]; exact al
      · obtain ⟨a1, a2⟩ := (p2 q q1 hq).2 ht
        rw [a1] at q3 ⊢; exact b2 q q1 q2 q3
    · obtain ⟨a1, a2⟩ := late q q1 (by omega) q2
      rw [a1] at q3 ⊢; exact b2 q q1 q2 q3
  · rw [e0] at q2
    unfold room
    rw [e1, same (9 + x) (by omega)]
    have fx := hF.2 x q1 q2
    have re := (tw_ok (S := S) (N := S 1) (S 1) (by omega) (by omega)).2.2.2.2 (fun o => if r o = x then 1 else 0)
    have c1 : cntI (sgW S way) (mT S) x = sumI (fun j => (fun o => if r o = x then (1 : Int) else 0) ((twN S (S 1)).2 j)) (twN S (S 1)).1 := sumI_c (fun j j1 j2 => by
      show (if sgW S way j = x then (1 : Int) else 0) = if r (wT S j) = x then 1 else 0
      rw [hr j j1 j2])
    rw [re] at c1
    have c2 : sumI (isAs (grS S r (S 1)) x) (S 1) = sumI (fun o => if S (197 + o) = 0 then 0 else if r o = x then 1 else 0) (S 1) := sumI_c (fun o o1 o2 => by
      show isAs (grS S r (S 1)) x o = if S (197 + o) = 0 then 0 else if r o = x then 1 else 0
      have bo := b1 o o1 (by omega)
      unfold isAs
      rw [same (197 + o) (by omega)]
      by_cases ht : S (197 + o) = 1
      · rw [((p2 o o1 o2).1 ht).1, if_neg (show ¬ S (197 + o) = 0 by omega)]
        by_cases hx : r o = x
        · rw [if_pos ⟨ht, by omega⟩, if_pos hx]
        · rw [if_neg (fun z => hx (by omega)), if_neg hx]
      · rw [if_neg (fun z => ht z.1), if_pos (by omega)])
    rw [c2, ← c1]; omega
  · rw [same 171 (by omega), b6]
    exact sumI_c (fun i q1 q2 => (same (189 + i) (by omega)).symm)
  · obtain ⟨d1, d2, d3, d4⟩ := bd
    refine ⟨by rw [same 169 (by omega), same 168 (by omega)]; exact d1, by rw [same 170 (by omega), same 168 (by omega)]; exact d2, fun q q1 q2 => by rw [same (189 + q) (by omega), same 168 (by omega), same (197 + q) (by omega)]; exact d3 q q1 q2, by rw [same 172 (by omega), same 168 (by omega)]; exact d4⟩
theorem c_six (hG : Shp G) (hR : InvR S) (hI : InvL S) (hr : RR c 9 S) (hL : LR c 27 S) (h1 : ∀ q, 0 ≤ q → q < S 1 → S (197 + q) = 0 → c 135 q = S (173 + q) - 1) (h2 : ∀ q, 0 ≤ q → q < S 1 → ¬ S (197 + q) = 0 → c 135 q = r q ∧ 0 ≤ r q ∧ r q < S 0) (hz : ∀ c', FrL 27 c c' → LR c' 27 (grS S r (S 1)) → Q none (G, c')) : TM (d + 1) 6 [aR 132] (G, c) Q := by
  have g := hR.1
  have rd := gr_rd (S := S) (r := r) (N := S 1) (by omega) (fun q q1 q2 q3 => by have := (h2 q q1 q2 (by omega)).2; omega)
  have key : ∀ o, 0 ≤ o → o ≤ S 1 → ∀ c2 : CC, FrL 27 c c2 → LR c2 27 (grS S r o) → T (d + 1) 6 2 [some (aR 132), some (aI o)] [] (G, c2) (QM Q) := by
    refine int_ind ?_ ?_
    · intro c2 f1 f2
      have hr2 := RR_fr (c' := c2) hr (fun q p q' => f1 q (by omega))
      refine b6_2 hG (hr2.1.2.1) (by omega) (by omega) ?_ (by intros; exfalso; omega) (by intros; exfalso; omega) rfl rfl (by intros; exfalso; omega) (by intros; exfalso; omega) ?_ rfl (by intros; exfalso; omega) ?_ rfl (by intros; exfalso; omega) (by intros; exfalso; omega) rfl (up_n (by omega)) ?_
      · intro p; exact hz c2 f1 f2
      all_goals (intro p; omega)
    · intro o p1 p2 ih c2 f1 f2
      have hr2 := RR_fr (c' := c2) hr (fun q p q' => f1 q (by omega))
      obtain ⟨r1, r2⟩ := rd o p1 (by omega)
      obtain ⟨X, hX⟩ : ∃ X, X = grS S r o := ⟨_, rfl⟩
      have gs := gr_s (S := S) (r := r) p1
      rw [← hX] at f2 r1 r2 gs
      have io := hI.1 o p1 (by omega)
      have x173 := r1 (173 + o) (by omega) (by omega)
      have x197 := r1 (197 + o) (by omega) (by omega)
      have x1 := r1 1 (by omega) (by omega)
      have lv := (f2.1.2.1 o p1 (by omega)).1
      rw [x173] at lv
      have e135 : c2 135 o = c 135 o := by rw [f1 135 (by omega)]
      have skip : grst r o X = X → T (d + 1) 6 79 [some (aR 132), some (aI o)] [] (G, c2) (QM Q) := fun e => by
        refine b6_79 hG ?_
        refine ih c2 f1 ?_
        rw [gs, e]; exact f2
      by_cases ht : S (197 + o) = 0
      · have e := h1 o p1 p2 ht
        rw [e] at e135
        refine b6_2 hG (hr2.1.2.1) (by intros; omega) (by intros; omega) ?_ (by intros; omega) (by intros; omega) (e135) (lv) (by intros; omega) (by intros; omega) ?_ (lv) (by intros; omega) ?_ (lv) (by intros; omega) (by intros; omega) rfl (up_n (by omega)) ?_
        · intro p; omega
        · intro p p3
          refine skip (if_neg (fun z => ?_))
          have := z.1; omega
        · intro p p3 p4; exact absurd rfl p3
        · intro p p3 p4; exact absurd rfl p3
      · obtain ⟨e, r3, r4⟩ := h2 o p1 p2 ht
        rw [e] at e135
        have hc := io.2.2.2.2.2.2.2.2.1 (by omega)
        have e32 := f2.2 (S (173 + o) - 1) (by omega) (by rw [r1 0 (by omega) (by omega)]; omega)
        refine b6_2 hG (hr2.1.2.1) (by intros; omega) (by intros; omega) ?_ (by intros; omega) (by intros; omega) (e135) (lv) (by intros; omega) (by intros; omega) ?_ (lv) (by intros; omega) ?_ (lv) (by intros; omega) (by intros; omega) (e32) ((up_n (by omega)).trans e135) ?_
        · intro p; omega
        · intro p p3
          refine skip (if_neg (fun z => z.2 ?_))
          rw [x173]; omega
        · intro p p3 p4; omega
        · intro p p3 p4
          refine c_become hG lf27 hR (RR_fr hr2 (fun q q1 q2 => up_r (by omega))) p1 (by omega) r3 r4 ?_
          refine b6_79 hG ?_
          have est : grst r o X = livesF X o (r o) := if_pos ⟨by omega, by omega⟩
          refine ih _ (FrL_up (FrL_up (FrL_up (FrL_up f1 (by omega) (by omega)) (by omega) (by omega)) (by omega) (by omega)) (by omega) (by omega)) ?_
          rw [gs, est]
          obtain ⟨⟨l1, l2, l3, l4⟩, l5⟩ := f2
          have x3 := r1 (3 + r o) (by omega) (by omega)
          refine ⟨⟨?_, fun q q1 q2 => ?_, fun q q1 q2 => ?_, fun x y q1 q2 q3 => ?_⟩, fun x q1 q2 => ?_⟩
          · rw [up_n (by omega), up_n (by omega), up_n (by omega), up_n (by omega), up_n (by omega), up_n (by omega), up_n (by omega), up_n (by omega), up_n (by omega), up_n (by omega), up_n (by omega), up_n (by omega), lv_rd, lv_rd, lv_rd, if_neg (by omega), if_neg (by omega), if_neg (by omega), if_neg (by omega), if_neg (by omega), if_neg (by omega)]; exact l1
          · have l := l2 q q1 q2
            by_cases hq : q = o
            · rw [hq] at l ⊢
              rw [lv_rd, lv_rd, lv_rd, lv_rd, if_neg (by omega), if_pos rfl, if_pos rfl, if_neg (by omega), if_neg (by omega), if_neg (by omega), if_neg (by omega)]
              refine ⟨by rw [up_n (by omega), up_n (by omega), up_e]; omega, by rw [up_n (by omega), up_e, x3], ?_, ?_⟩
              · rw [up_n (by omega), up_n (by omega), up_n (by omega), up_n (by omega)]; exact l.2.2.1
              · rw [up_n (by omega), up_n (by omega), up_n (by omega), up_n (by omega)]; exact l.2.2.2
            · rw [lv_rd, lv_rd, lv_rd, lv_rd, if_neg (by omega), if_neg (by omega), if_neg (by omega), if_neg (by omega), if_neg (by omega), if_neg (by omega), if_neg (by omega), if_neg (by omega)]
              rw [up_n (by omega), up_n (by omega), up_n (by omega), up_n (by omega), up_n (by omega), up_n (by omega), up_n (by omega), up_n (by omega), up_n (by omega), up_n (by omega), up_n (by omega), up_n (by omega), up_n (by omega), up_n (by omega), up_n (by omega), up_n (by omega)]; exact l
          · rw [lv_rd, if_neg (by omega), if_neg (by omega), up_n (by omega), up_n (by omega), up_n (by omega), up_n (by omega)]; exact l3 q q1 q2
          · rw [lv_rd, if_neg (by omega), if_neg (by omega), up_n (by omega), up_n (by omega), up_n (by omega), up_n (by omega)]; exact l4 x y q1 q2 q3
          · rw [lv_rd, if_neg (by omega), if_neg (by omega)] at q2
            have x0 := r1 0 (by omega) (by omega)
            rw [room_lives (by omega) (by omega) (by omega) (by omega) (by omega), x173]
            have lx := l5 x q1 q2
            by_cases hx : x = r o
            · rw [hx] at lx ⊢
              rw [up_e, up_n (by omega), if_neg (by omega), if_pos rfl, lx]; omega
            · by_cases hx2 : x = S (173 + o) - 1
              · rw [hx2] at lx hx ⊢
                rw [up_n (by omega), up_n (by omega), up_n (by omega), up_e, if_pos rfl, if_neg hx]; omega
              · rw [up_n (by omega), up_n (by omega), up_n (by omega), up_n (by omega), if_neg hx2, if_neg hx, lx]; omega
  have e0 : grS S r 0 = S := loopI_0 (by omega)
  refine b6_0 hG ?_
  exact key 0 (by omega) (by omega) c FrL_refl (by rw [e0]; exact hL)
end SPah
