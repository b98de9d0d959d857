section SPmA
variable {d : Nat} {G : GG} {c c' c0 : CC} {Q : Option AV → HH → Prop} {S X : SS} {i j k n g x y a b N q w o K m mm dd s lo : Int} {wh bd way : Int → Int} {acc : Int × (Int → Int)}
theorem StB_w {way' : Int → Int} (h : StB S wh m c0 way acc c) (e : ∀ j, 0 ≤ j → j < m → way' j = way j) : StB S wh m c0 way' acc c := ⟨h.1, h.2.1, fun j p1 p2 => by rw [e j p1 p2]; exact h.2.2.1 j p1 p2, h.2.2.2⟩
theorem r_wrun (hG : Shp G) (hR : InvR S) (hI : InvL S) (hw : Wait S wh m) (hn : 1 ≤ n ∧ n ≤ 30) (e196 : ∀ i, 0 ≤ i → i < 165 → c0 196 i = S (168 + i)) (e197 : ∀ j, 0 ≤ j → j < m → c0 197 j = wh j) : ∀ (t : Nat) (i : Int) (way : Int → Int) (acc : Int × (Int → Int)) (c : CC) (v5 : Int), i + t = m → 0 ≤ i → (∀ j, 0 ≤ j → j < m → 0 ≤ way j ∧ way j ≤ S 0) → (∀ j, i ≤ j → j < m → way j = 0) → ¬ v5 = 0 → I32 v5 → StB S wh m c0 way acc c → (∀ c', StB S wh m c0 way (srch wh (S 0) n (S 169) t i way (pref S wh way i) acc) c' → T (d + 3) 216 4 [some (aR 188), none, some (aI (i - 1))] [] (G, c') (QM (fun r h' => T (d + 4) 218 224 [some (aR 188), some (aI n), some (aI m), some (aI (S 169)), some (aI (srch wh (S 0) n (S 169) t i way (pref S wh way i) acc).1), none, none] (r.toList ++ []) h' (QM Q)))) → T (d + 4) 218 96 [some (aR 188), some (aI n), some (aI m), some (aI (S 169)), some (aI acc.1), some (aI v5), none] [] (G, c) (QM Q) := by
  have g := hR.1
  have hm := hw.1
  intro t
  induction t with
  | zero =>
    intro i way acc c v5 g1 g2 hway hz0 h5 h5b hS hz
    have e : i = m := by omega
    subst e
    refine r_eval hG hR hI hw hn hway e196 e197 v5 h5 h5b hS ?_
    intro c2 h2
    refine b218_219 hG ?_
    refine b216_0 hG TM_eqo ?_
    exact hz c2 h2
  | succ t ih =>
    intro i way acc c v5 g1 g2 hway hz0 h5 h5b hS hz
    have esr : srch wh (S 0) n (S 169) (t + 1) i way (pref S wh way i) acc = loopI (fun a acc => srch wh (S 0) n (S 169) t (i + 1) (q_u1 way i a) (stp (wh i) a (pref S wh way i)) acc) (S 0 + 1) acc := rfl
    have wi := hz0 i (Int.le_refl i) (by omega)
    have key : ∀ a, 0 ≤ a → a ≤ S 0 → ∀ (c3 : CC) (v5 : Int), ¬ v5 = 0 → I32 v5 → StB S wh m c0 (q_u1 way i a) (loopI (fun a acc => srch wh (S 0) n (S 169) t (i + 1) (q_u1 way i a) (stp (wh i) a (pref S wh way i)) acc) a acc) c3 → T (d + 4) 218 96 [some (aR 188), some (aI n), some (aI m), some (aI (S 169)), some (aI (loopI (fun a acc => srch wh (S 0) n (S 169) t (i + 1) (q_u1 way i a) (stp (wh i) a (pref S wh way i)) acc) a acc).1), some (aI v5), none] [] (G, c3) (QM Q) := by
      have pr : ∀ a, pref S wh (q_u1 way i a) (i + 1) = stp (wh i) a (pref S wh way i) := fun a => by
        rw [pref_s g2, u1_e, pref_c g2 (fun j p1 p2 => u1_n (by omega))]
      have wy : ∀ a, 0 ≤ a → a ≤ S 0 → ∀ j, 0 ≤ j → j < m → 0 ≤ q_u1 way i a j ∧ q_u1 way i a j ≤ S 0 := fun a a1 a2 j p1 p2 => by
        by_cases hj : j = i
        · rw [hj, u1_e]; omega
        · rw [u1_n hj]; exact hway j p1 p2
      have wz : ∀ a j, i + 1 ≤ j → j < m → q_u1 way i a j = 0 := fun a j p1 p2 => by
        rw [u1_n (by omega)]; exact hz0 j (by omega) p2
      have nx : ∀ a, 0 ≤ a → loopI (fun a acc => srch wh (S 0) n (S 169) t (i + 1) (q_u1 way i a) (stp (wh i) a (pref S wh way i)) acc) (a + 1) acc = srch wh (S 0) n (S 169) t (i + 1) (q_u1 way i a) (stp (wh i) a (pref S wh way i)) (loopI (fun a acc => srch wh (S 0) n (S 169) t (i + 1) (q_u1 way i a) (stp (wh i) a (pref S wh way i)) acc) a acc) := fun a ha => loopI_s ha
      refine int_ind ?_ ?_
      · intro c3 v5 q1 q2 hS3
        refine ih (i + 1) (q_u1 way i (S 0)) _ c3 v5 (by omega) (by omega) (wy (S 0) (by omega) (by omega)) (wz (S 0)) q1 q2 hS3 ?_
        intro c4 h4
        rw [pr, ← nx (S 0) (by omega), ← esr] at h4 ⊢
        obtain ⟨f1, f2, f3, f4⟩ := h4
        have e1 := f3 i g2 (by omega)
        rw [u1_e] at e1
        refine b216_4 hG (by intros; omega) ?_ (by intros; omega) (by intros; omega) ((show c4 198 (i + 1 - 1) = S 0 by rw [show i + 1 - 1 = i by omega]; exact e1)) (up_e) ((up_n (by omega)).trans (congrFun f2 0)) (by intros; omega) (by intros; omega) ?_ ?_
        · intro p; omega
        · intro p p2
          rw [show i + 1 - 1 + -1 = i - 1 by omega, show i + 1 - 1 = i by omega]
          refine hz _ ⟨fun r h1 h2 h3 => by rw [up_r h2, up_r h2]; exact f1 r h1 h2 h3, by rw [up_r (by omega), up_r (by omega)]; exact f2, fun j p1 p2 => ?_, by rw [up_r (by omega), up_r (by omega)]; exact f4⟩
          by_cases hj : j = i
          · rw [hj, up_e]; exact wi.symm
          · rw [up_n (by omega), up_n (by omega), f3 j p1 p2, u1_n hj]
        · intro p p2; omega
      · intro a p1 p2 ih2 c3 v5 q1 q2 hS3
        refine ih (i + 1) (q_u1 way i a) _ c3 v5 (by omega) (by omega) (wy a p1 (by omega)) (wz a) q1 q2 hS3 ?_
        intro c4 h4
        rw [pr, ← nx a p1] at h4 ⊢
        obtain ⟨f1, f2, f3, f4⟩ := h4
        have e1 := f3 i g2 (by omega)
        rw [u1_e] at e1
        refine b216_4 hG (by intros; omega) ?_ (by intros; omega) (by intros; omega) ((show c4 198 (i + 1 - 1) = a by rw [show i + 1 - 1 = i by omega]; exact e1)) (up_e) ((up_n (by omega)).trans (congrFun f2 0)) (by intros; omega) (by intros; omega) ?_ ?_
        · intro p; omega
        · intro p p3; omega
        · intro p p3
          refine b218_224 hG ?_
          rw [show i + 1 - 1 = i by omega]
          refine ih2 _ 1 (by omega) (by omega) ⟨fun r h1 h2 h3 => by rw [up_r h2]; exact f1 r h1 h2 h3, by rw [up_r (by omega)]; exact f2, fun j p1 p2 => ?_, by rw [up_r (by omega)]; exact f4⟩
          by_cases hj : j = i
          · rw [hj, up_e, u1_e]
          · rw [up_n (by omega), f3 j p1 p2, u1_n hj, u1_n hj]
    have := key 0 (by omega) (by omega) c v5 h5 h5b (by
      rw [loopI_0 (by omega), u1_self wi]; exact hS)
    rw [loopI_0 (by omega)] at this
    exact this
theorem r_most (hG : Shp G) (hR : InvR S) (hI : InvL S) (e190 : c 190 = S) (hn : I32 n)
    (hz0 : ∀ c', ¬ (1 ≤ n ∧ n ≤ 30 ∧ wtsF S ≤ 5) → (∀ r, ¬ r = 188 → ¬ r = 197 → ¬ r = 198 → c' r = c r) → (∀ i, ¬ i = 0 → c' 188 i = c 188 i) → Q (some (aI (-1))) (G, c'))
    (hz1 : ∀ c', 1 ≤ n ∧ n ≤ 30 ∧ wtsF S ≤ 5 → (∀ r, ¬ r = 188 → ¬ r = 190 → ¬ r = 196 → ¬ r = 197 → ¬ r = 198 → ¬ r = 199 → c' r = c r) → (∀ i, ¬ i = 0 → ¬ i = 27 → c' 188 i = c 188 i) → c' 188 27 = S 1 → c' 190 = S → AccB (whF S) (mF S) (c' 199) (bstF S n) → Q (some (aI (bstF S n).1)) (G, c')) : TM (d + 5) 218 [aR 188, aI n] (G, c) Q := by
  have g := hR.1
  refine b218_0 hG ?_
  refine r_isIn hG hn (by omega) (by omega) ?_
  refine b218_12 hG (by intros; omega) ?_ ?_
  · intro p
    have hn2 : 1 ≤ n ∧ n ≤ 30 := by
      by_cases h : 1 ≤ n ∧ n ≤ 30
      · exact h
      · rw [if_neg h] at p; omega
    have key : ∀ s, 0 ≤ s → s ≤ S 1 → ∀ c2 : CC, (∀ r, ¬ r = 188 → ¬ r = 197 → ¬ r = 198 → c2 r = c r) → (∀ i, ¬ i = 0 → c2 188 i = c 188 i) → (∀ j, 0 ≤ j → j < (wqN S s).1 → c2 197 j = (wqN S s).2 j ∧ c2 198 j = 0) → T (d + 5) 218 21 [some (aR 188), some (aI n), some (aI (wqN S s).1), some (aI s), none, none, none] [] (G, c2) (QM Q) := by
      refine int_ind ?_ ?_
      · intro c2 f1 f2 f3
        have c190 : c2 190 = S := by rw [f1 190 (by omega) (by omega) (by omega)]; exact e190
        have hmw : (wqN S (S 1)).1 = wtsF S := (wq_ok (S := S) (s := S 1) (by omega)).1
        have hm0 := (wq_ok (S := S) (s := S 1) (by omega)).2.1
        have hm8 := (wq_ok (S := S) (s := S 1) (by omega)).2.2.1
        refine b218_21 hG TM_eqo (congrFun c190 1) (by omega) (by omega) (by intros; omega) ?_ ?_ (by intros; exfalso; omega) (by intros; exfalso; omega) rfl (by intros; exfalso; omega) (by intros; exfalso; omega) (by intros; exfalso; omega) ?_ ?_
        · intro p1 p2
          have hw := Wait_wq hR (show wtsF S ≤ 5 by omega)
          refine r_tries hG (fun f hf => ?_)
          rw [c190] at hf
          refine b218_81 hG ((uf_n2 (by omega)).trans (congrFun c190 169)) ?_
          have em : mF S = (wqN S (S 1)).1 := rfl
          have ew : whF S = (wqN S (S 1)).2 := rfl
          refine r_wrun (d := d + 1) (c0 := q_uf c2 196 f) (wh := whF S) hG hR hI hw hn2 (fun i q1 q2 => by rw [uf_e]; exact hf i q1 q2) (fun j q1 q2 => by rw [uf_n2 (by omega)]; exact (f3 j q1 q2).1) (mF S).toNat 0 (fun _ => 0) (-1, fun _ => 0) _ 1 (by omega) (by omega) (fun j q1 q2 => ⟨Int.le_refl 0, g.1⟩) (fun j q1 q2 => rfl) (by omega) (by omega) ⟨fun _ _ _ _ => rfl, by rw [uf_n (by omega)]; exact c190, fun j q1 q2 => by rw [uf_n2 (by omega)]; exact (f3 j q1 q2).2, ⟨by show (-1 : Int) ≤ -1 ∧ (-1 : Int) ≤ 200000; omega, fun h => absurd rfl h⟩⟩ ?_
          intro c3 h3
          rw [pref_0] at h3 ⊢
          have eb : srch (whF S) (S 0) n (S 169) (mF S).toNat 0 (fun _ => 0) (some S) (-1, fun _ => 0) = bstF S n := rfl
          rw [eb] at h3 ⊢
          obtain ⟨k1, k2, k3, k4⟩ := h3
          refine b216_4 hG (by omega) ?_ (by intros; exfalso; omega) (by intros; exfalso; omega) rfl up_e (up_n (by omega)) (by intros; exfalso; omega) (by intros; exfalso; omega) ?_ ?_
          · intro p3
            refine b218_224 hG ?_
            refine b218_96 hG TM_eqo (by intros; omega) (congrFun k2 1) ?_ ?_
            · intro p4
              refine hz1 _ ⟨hn2.1, hn2.2, by omega⟩ (fun r h1 h2 h3 h4 h5 h6 => ?_) (fun i h1 h2 => ?_) up_e (by rw [up_r (by omega)]; exact k2) (by rw [up_r (by omega)]; exact k4)
              · rw [up_r h1, k1 r h2 h5 h6, uf_n h3]; exact f1 r h1 h4 h5
              · rw [up_n (by omega), k1 188 (by omega) (by omega) (by omega), uf_n2 (by omega)]; exact f2 i h1
            · intro p4; omega
          · intro p3; omega
          · intro p3; omega
        · intro p1 p2
          exact hz0 c2 (by omega) f1 f2
        · intro p1; omega
        · intro p1; omega
      · intro s p1 p2 ih c2 f1 f2 f3
        have c190 : c2 190 = S := by rw [f1 190 (by omega) (by omega) (by omega)]; exact e190
        have hIs := hI.1 s p1 (by omega)
        have ws := wq_s (S := S) p1
        have wk := wq_ok (S := S) p1
        refine b218_21 hG TM_eqo (congrFun c190 1) (by intros; omega) (by intros; omega) (by intros; omega) ?_ ?_ (by intros; omega) (by intros; omega) (congrFun c190 (173 + s)) (by intros; omega) (by intros; omega) (by intros; omega) ?_ ?_
        · intro p3; omega
        · intro p3; omega
        · intro p3 p4
          rw [if_pos (by omega)] at ws
          have e1 : (wqN S (s + 1)).1 = (wqN S s).1 + 1 := by rw [ws]
          have e2 : (wqN S (s + 1)).2 = q_u1 (wqN S s).2 (wqN S s).1 s := by rw [ws]
          rw [← e1]
          refine ih _ (fun r h1 h2 h3 => by rw [up_r h3, up_r h2]; exact f1 r h1 h2 h3) (fun i hi => by rw [up_n (by omega), up_n (by omega)]; exact f2 i hi) (fun j j1 j2 => ?_)
          rw [e1] at j2
          rw [e2]
          by_cases hj : j = (wqN S s).1
          · rw [hj, up_n (by omega), up_e, up_e, u1_e]; exact ⟨rfl, rfl⟩
          · rw [up_n (by omega), up_n (by omega), up_n (by omega), up_n (by omega), u1_n hj]
            exact f3 j j1 (by omega)
        · intro p3 p4
          rw [if_neg (by omega)] at ws
          have := ih c2 f1 f2 (by rw [ws]; exact f3)
          rw [ws] at this
          exact this
    have e : wqN S 0 = (0, fun _ => 0) := loopI_0 (by omega)
    have := key 0 (by omega) (by omega) (q_up c 188 0 0) (fun r h1 _ _ => up_r h1) (fun i hi => up_n (by omega)) (fun j j1 j2 => by exfalso; rw [e] at j2; have : j < 0 := j2; omega)
    rw [e] at this
    exact this
  · intro p
    have hn2 : ¬ (1 ≤ n ∧ n ≤ 30) := by
      intro h
      rw [if_pos h] at p; omega
    exact hz0 _ (by omega) (fun r h1 _ _ => up_r h1) (fun i hi => up_n (by omega))
theorem srch_up : ∀ (t : Nat) (i : Int) (way : Int → Int) (o : Option SS) (acc : Int × (Int → Int)), acc.1 ≤ (srch wh K n dd t i way o acc).1 := by
  intro t
  induction t with
  | zero =>
    intro i way o acc
    cases o with
    | none => exact Int.le_refl _
    | some X =>
      show acc.1 ≤ (if acc.1 < daysF n X 169 - dd then (daysF n X 169 - dd, way) else acc).1
      by_cases h : acc.1 < daysF n X 169 - dd
      · rw [if_pos h]; exact Int.le_of_lt h
      · rw [if_neg h]; exact Int.le_refl _
  | succ t ih =>
    intro i way o acc
    exact loopI_p (f := fun a acc => srch wh K n dd t (i + 1) (q_u1 way i a) (stp (wh i) a o) acc) (n := K + 1) (P := fun a => acc.1 ≤ a.1) (x := acc) (Int.le_refl _) (fun a y _ _ h => Int.le_trans h (ih (i + 1) _ _ y))
theorem loop1 {f : Int → (Int × (Int → Int)) → Int × (Int → Int)} (hK : 0 ≤ K) (hf : ∀ a acc, acc.1 ≤ (f a acc).1) (acc : Int × (Int → Int)) : (f 0 acc).1 ≤ (loopI f (K + 1) acc).1 := by
  have key : ∀ a, 0 ≤ a → a ≤ K → (f 0 acc).1 ≤ (loopI f (a + 1) acc).1 := by
    refine int_up ?_ ?_
    · rw [loopI_s (by omega), loopI_0 (by omega)]; exact Int.le_refl _
    · intro a p1 p2 ih
      rw [loopI_s (by omega)]
      exact Int.le_trans ih (hf _ _)
  exact key K hK (Int.le_refl _)
theorem srch_0 (hK : 0 ≤ K) : ∀ (t : Nat) (i : Int) (way : Int → Int) (X : SS) (acc : Int × (Int → Int)), daysF n X 169 - dd ≤ (srch wh K n dd t i way (some X) acc).1 := by
  intro t
  induction t with
  | zero =>
    intro i way X acc
    show _ ≤ (if acc.1 < daysF n X 169 - dd then (daysF n X 169 - dd, way) else acc).1
    by_cases h : acc.1 < daysF n X 169 - dd
    · rw [if_pos h]; exact Int.le_refl _
    · rw [if_neg h]; omega
  | succ t ih =>
    intro i way X acc
    have h1 := ih (i + 1) (q_u1 way i 0) X acc
    have h2 := loop1 (f := fun a acc => srch wh K n dd t (i + 1) (q_u1 way i a) (stp (wh i) a (some X)) acc) hK (fun a acc => srch_up t (i + 1) _ _ acc) acc
    have e : stp (wh i) 0 (some X) = some X := stp_0
    rw [← e] at h1
    exact Int.le_trans h1 h2
theorem bst_0 (hR : InvR S) (hI : InvL S) (hn : 1 ≤ n ∧ n ≤ 30) (hw : Wait S (whF S) (mF S)) : ¬ (bstF S n).1 = -1 := by
  have g := hR.1
  have h1 := srch_0 (wh := whF S) (n := n) (dd := S 169) (K := S 0) g.1 (mF S).toNat 0 (fun _ => 0) S (-1, fun _ => 0)
  have h2 := tot_days (n := n) (by omega) hR (Node_0 (way := fun _ => 0) hR hI hw)
  have h3 := tot_b hR hI (n := n) (by omega)
  have e : (bstF S n).1 = (srch (whF S) (S 0) n (S 169) (mF S).toNat 0 (fun _ => 0) (some S) (-1, fun _ => 0)).1 := rfl
  omega
end SPmA
