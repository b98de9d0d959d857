section SPae
variable {d : Nat} {G : GG} {c c' c0 cA cB : CC} {Q : Option AV → HH → Prop} {S : SS} {m K k js v t x y j j0 i N s o b n v1 v2 : Int} {L : Int → Int}
def aprF (S : SS) (s k : Int) : Int × (Int → Int) := asr S s k (mT S).toNat 0 (fun _ => 0) (-1, fun _ => 0)
theorem ap_val (hR : InvR S) (h : ApV S s k v) (h1 : ¬ S (197 + s) = 0) (h2 : ¬ bt (S (51 + s)) k = 0) : (aprF S s k).1 = v ∧ (0 ≤ v → fstW S s k v (mT S).toNat 0 (fun _ => 0) = some (aprF S s k).2) := by
  have mb := mT_b hR
  have bx : Box (fun _ => 0) 0 (S 0) := fun j q1 q2 => by omega
  rcases h.2 h1 h2 with ⟨e, hno⟩ | ⟨e1, e2, hmin, w0, hb, hF, hc⟩
  · have := asr_no hR hno (mT S).toNat 0 (fun _ => 0) (-1, fun _ => 0) (by omega) (by omega) bx
    unfold aprF
    rw [this]
    exact ⟨e.symm, fun z => by omega⟩
  · obtain ⟨w, hw⟩ := fst_some (b := v) hR hb hF (by omega) (mT S).toNat 0 (fun _ => 0) (by omega) (by omega) (fun j q1 q2 => by omega)
    have := (asr_B hR hmin e1 (mT S).toNat 0 (fun _ => 0) (-1, fun _ => 0) (by omega) (by omega) bx (Or.inl (by show (-1 : Int) < 0; omega))).1 w hw
    unfold aprF
    rw [this]
    exact ⟨rfl, fun _ => hw⟩
theorem r_apOf (hG : Shp G) (hR : InvR S) (hI : InvL S) (e190 : c 190 = S) (hs : I32 s) (hk : I32 k)
    (hz0 : ∀ c', ¬ (¬ isSo S s = 0 ∧ ¬ isK S k = 0 ∧ ¬ S (197 + s) = 0 ∧ ¬ bt (S (51 + s)) k = 0) → (∀ r, ¬ r = 188 → ¬ r = 197 → ¬ r = 198 → ¬ r = 203 → ¬ r = 204 → c' r = c r) → (∀ i, ¬ i = 34 → c' 188 i = c 188 i) → Q (some (aI (-1))) (G, c'))
    (hz1 : ∀ c', ¬ isSo S s = 0 → ¬ isK S k = 0 → ¬ S (197 + s) = 0 → ¬ bt (S (51 + s)) k = 0 → (∀ r, ¬ r = 188 → ¬ r = 197 → ¬ r = 198 → ¬ r = 203 → ¬ r = 204 → c' r = c r) → (∀ i, ¬ i = 34 → c' 188 i = c 188 i) → AccA S (c' 203) (aprF S s k) → Q (some (aI (aprF S s k).1)) (G, c')) : TM (d + 4) 235 [aR 188, aI s, aI k] (G, c) Q := by
  have g := hR.1
  have mb := mT_b hR
  refine b235_0 hG ?_
  refine r_isSoul hG (by rw [e190]; exact hR) hs ?_
  rw [e190]
  have b1 := isSo_01 (S := S) (k := s)
  have b2 := isK_01 (S := S) (k := k)
  refine b235_5 hG (by intros; omega) ?_ ?_
  · intro p; exact hz0 c (fun z => z.1 p) (fun _ _ _ _ _ _ => rfl) (fun _ _ => rfl)
  · intro p
    obtain ⟨s1, s2⟩ := isSo_t p
    have io := hI.1 s s1 (by omega)
    refine r_isKind hG (by rw [e190]; exact hR) hk ?_
    rw [e190]
    refine b235_13 hG (by intros; omega) ?_ (by intros; omega) (by intros; omega) (congrFun e190 (197 + s)) (by intros; omega) ?_ (by intros; omega) (by intros; omega) (congrFun e190 (51 + s)) ?_
    · intro p2; exact hz0 c (fun z => z.2.1 p2) (fun _ _ _ _ _ _ => rfl) (fun _ _ => rfl)
    · intro p2 p3; exact hz0 c (fun z => z.2.2.1 p3) (fun _ _ _ _ _ _ => rfl) (fun _ _ => rfl)
    · intro p2 p3
      obtain ⟨k1, k2⟩ := isK_t p2
      refine r_bitOf hG ?_
      have hb : bt (S (51 + s)) k = 0 ∨ bt (S (51 + s)) k = 1 := bt_01
      refine b235_42 hG (by intros; omega) ?_ ?_
      · intro p4
        have key : ∀ o, 0 ≤ o → o ≤ S 1 → ∀ c2 : CC, (∀ r, ¬ r = 197 → ¬ r = 198 → c2 r = c r) → (∀ j, 0 ≤ j → j < (twN S o).1 → c2 197 j = (twN S o).2 j ∧ c2 198 j = 0) → T (d + 4) 235 52 [some (aR 188), some (aI s), some (aI k), some (aI (twN S o).1), some (aI o), none, none] [] (G, c2) (QM Q) := by
          refine int_ind ?_ ?_
          · intro c2 f1 f2
            have c190 : c2 190 = S := by rw [f1 190 (by omega) (by omega)]; exact e190
            refine b235_52 hG (congrFun c190 1) (by omega) (by omega) ?_ (by intros; exfalso; omega) (by intros; exfalso; omega) rfl (by intros; exfalso; omega) (by intros; exfalso; omega) (by intros; exfalso; omega) ?_ ?_
            · intro q
              show T _ 235 110 [some (aR 188), some (aI s), some (aI k), some (aI (mT S)), some (aI (-1)), some (aI 1), none] _ _ _
              refine r_runA (d := d + 1) (c0 := c2) (s := s) (k := k) hG hR hI (by omega) hs hk c190 (fun j q1 q2 => (f2 j q1 q2).1) (mT S).toNat 0 (fun _ => 0) (-1, fun _ => 0) c2 1 (by omega) (by omega) (fun j q1 q2 => ⟨Int.le_refl 0, by show (0 : Int) < S 0; omega⟩) (fun j q1 q2 => rfl) (by omega) (by omega) ⟨fun _ _ _ _ _ => rfl, fun _ _ => rfl, fun j q1 q2 => (f2 j q1 q2).2, ⟨by show (-1 : Int) ≤ -1 ∧ (-1 : Int) ≤ 8; omega, fun h => by exfalso; have : (0 : Int) ≤ -1 := h; omega⟩⟩ ?_
              intro c3 h3
              have eb : asr S s k (mT S).toNat 0 (fun _ => 0) (-1, fun _ => 0) = aprF S s k := rfl
              rw [eb] at h3 ⊢
              obtain ⟨y1, y2, y3, y4⟩ := h3
              refine b234_4 hG (by omega) ?_ (by intros; exfalso; omega) (by intros; exfalso; omega) rfl up_e (up_n (by omega)) (by intros; exfalso; omega) (by intros; exfalso; omega) ?_ ?_
              · intro q1
                refine b235_195 hG ?_
                refine b235_110 hG TM_eqo (by omega) ?_ ?_
                · intro q2
                  exact hz1 c3 p p2 p3 p4 (fun r h1 h2 h3 h4 h5 => by rw [y1 r h1 h3 h4 h5]; exact f1 r h2 h3) (fun i hi => by rw [y2 i hi, f1 188 (by omega) (by omega)]) y4
                · intro q2; omega
              · intro q1; omega
              · intro q1; omega
            · intro q; omega
            · intro q; omega
          · intro o o1 o2 ih c2 f1 f2
            have c190 : c2 190 = S := by rw [f1 190 (by omega) (by omega)]; exact e190
            have ws := tw_s (S := S) o1
            have wk := (tw_ok (S := S) (N := S 1) o o1 (by omega)).1
            have ioo := hI.1 o o1 (by omega)
            refine b235_52 hG (congrFun c190 1) (by intros; omega) (by intros; omega) ?_ (by intros; omega) (by intros; omega) (congrFun c190 (197 + o)) (by intros; omega) (by intros; omega) (by intros; omega) ?_ ?_
            · intro q; omega
            · intro q q2
              rw [if_neg q2] at ws
              have e1 : (twN S (o + 1)).1 = (twN S o).1 + 1 := by rw [ws]
              have e2 : (twN S (o + 1)).2 = q_u1 (twN S o).2 (twN S o).1 o := by rw [ws]
              rw [← e1]
              refine ih _ (fun r h1 h2 => by rw [up_r h2, up_r h1]; exact f1 r h1 h2) (fun j j1 j2 => ?_)
              rw [e1] at j2
              rw [e2]
              by_cases hj : j = (twN S o).1
              · rw [hj, up_n (by omega), up_e, up_e, u1_e]; exact ⟨rfl, rfl⟩
              · rw [up_n (by omega), up_n (by omega), up_n (by omega), up_n (by omega), u1_n hj]
                exact f2 j j1 (by omega)
            · intro q q2
              rw [if_pos q2] at ws
              have := ih c2 f1 (by rw [ws]; exact f2)
              rw [ws] at this
              exact this
        have := key 0 (by omega) (by omega) c (fun _ _ _ => rfl) (fun j j1 j2 => by exfalso; rw [tw_0] at j2; have : j < 0 := j2; omega)
        rw [tw_0] at this
        exact this
      · intro p4; exact hz0 c (fun z => z.2.2.2 p4) (fun _ _ _ _ _ _ => rfl) (fun _ _ => rfl)
theorem op_appeal (hG : Shp G) (h : GR cA cB) (h1 : I32 v1) (h2 : I32 v2) : OP G (d + 50) 131 236 [aI v1, aI v2] cA cB := by
  have hR := h.1.1
  have hI := h.1.2.1
  have g := hR.1
  have hr := h.2.1.1
  have hL := h.2.2.1
  have b1 := isSo_01 (S := cB 190) (k := v1)
  have b2 := isK_01 (S := cB 190) (k := v2)
  have fin : ∀ cA', (∀ r, ¬ r = 133 → ¬ r = 134 → cA' r = cA r) → ∀ v, I32 v → ((¬ isSo (cB 190) v1 = 0 → ¬ isK (cB 190) v2 = 0 → ApV (cB 190) v1 v2 v) ∧ ((isSo (cB 190) v1 = 0 ∨ isK (cB 190) v2 = 0) → v = -1)) → TM (d + 50) 236 [aR 188, aI v1, aI v2] (G, cB) (fun r2 h2 => ∃ cB', h2 = (G, cB') ∧ GR cA' cB' ∧ ∃ w, (some (aI v)) = some (aI w) ∧ r2 = some (aI w) ∧ I32 w) := by
    intro cA' fA v hv hA
    refine b236_0 hG TM_eqo ?_
    have gr : ∀ cB', (∀ r, ¬ r = 188 → ¬ r = 197 → ¬ r = 198 → ¬ r = 203 → ¬ r = 204 → cB' r = (q_up cB 188 0 0) r) → (∀ i, ¬ i = 34 → cB' 188 i = (q_up cB 188 0 0) 188 i) → GR cA' cB' := by
      intro cB' k1 k2
      have k1' : ∀ r, ¬ r = 188 → ¬ r = 197 → ¬ r = 198 → ¬ r = 203 → ¬ r = 204 → cB' r = cB r := fun r h1 h2 h3 h4 h5 => by rw [k1 r h1 h2 h3 h4 h5, up_r h1]
      have k2' : ∀ i, ¬ i = 34 → ¬ i = 0 → cB' 188 i = cB 188 i := fun i h1 h2 => by rw [k2 i h1, up_n (by omega)]
      exact GR_keep h ⟨fun r p => fA r (by omega) (by omega), by rw [fA 2 (by omega) (by omega)], by rw [fA 2 (by omega) (by omega)], fun i _ _ => by rw [fA 120 (by omega) (by omega)]⟩ (fun r p => fA r (by omega) (by omega)) ⟨fun r p => k1' r (by omega) (by omega) (by omega) (by omega) (by omega), fun i p => k2' i (by omega) (by omega), fun j _ _ => by rw [k1' 193 (by omega) (by omega) (by omega) (by omega) (by omega)], by rw [k1' 190 (by omega) (by omega) (by omega) (by omega) (by omega)]; exact SmR_refl _⟩ (k1' 190 (by omega) (by omega) (by omega) (by omega) (by omega)) (k2' 23 (by omega) (by omega)) (k1' 195 (by omega) (by omega) (by omega) (by omega) (by omega))
    refine r_apOf (S := cB 190) hG hR hI (up_r (by omega)) h1 h2 ?_ ?_
    · intro c' hn k1 k2
      refine b236_11 hG ?_
      have : v = -1 := by
        by_cases q1 : isSo (cB 190) v1 = 0
        · exact hA.2 (Or.inl q1)
        · by_cases q2 : isK (cB 190) v2 = 0
          · exact hA.2 (Or.inr q2)
          · refine (hA.1 q1 q2).1 ?_
            by_cases q3 : cB 190 (197 + v1) = 0
            · exact Or.inl q3
            · by_cases q4 : bt (cB 190 (51 + v1)) v2 = 0
              · exact Or.inr q4
              · exact absurd ⟨q1, q2, q3, q4⟩ hn
      exact ⟨c', rfl, gr c' k1 k2, -1, by rw [this], rfl, by omega⟩
    · intro c' q1 q2 q3 q4 k1 k2 k3
      refine b236_11 hG ?_
      have := (ap_val hR (hA.1 q1 q2) q3 q4).1
      exact ⟨c', rfl, gr c' k1 k2, v, rfl, by rw [this], hv⟩
  show TM (d + 50) 131 [aR 1, aI v1, aI v2] (G, cA) _
  refine b131_0 hG ?_
  refine c_isSoul hG hR hr h1 ?_
  refine b131_8 hG (by intros; omega) ?_ ?_
  · intro p; exact ⟨cA, rfl, fun _ _ => rfl, fin cA (fun _ _ _ => rfl) (-1) (by omega) ⟨fun q => absurd p q, fun _ => rfl⟩⟩
  · intro p
    refine c_isKind hG hR hr h2 ?_
    refine b131_19 hG TM_eqo (by intros; omega) ?_ ?_
    · intro p2; exact ⟨cA, rfl, fun _ _ => rfl, fin cA (fun _ _ _ => rfl) (-1) (by omega) ⟨fun _ q => absurd p2 q, fun _ => rfl⟩⟩
    · intro p2
      refine c_fewest (S := cB 190) hG ⟨hR, hI, hr, hL⟩ (isSo_t p) (isK_t p2) ?_
      intro cA1 v f1 hA hv
      refine b131_31 hG ?_
      exact ⟨cA1, rfl, fun r hr' => f1 r (by omega) (by omega), fin cA1 f1 v hv ⟨fun _ _ => hA, fun q => by rcases q with q | q <;> omega⟩⟩
end SPae
