section SPGt
variable {d : Nat} {G : GG} {c c' cA cB cA' cB' : CC} {Q : Option AV → HH → Prop} {v1 n i j k m v : Int} {S : SS}
def netF (S : SS) (k : Int) : Int := dueF S k - dbtF S k
theorem net_b (hI : InvL S) (h0 : 0 ≤ k) (h1 : k < 8) : -799992 ≤ netF S k ∧ netF S k ≤ 799992 := by
  have := dbt_b hI h0 h1
  have := due_b hI h0 h1
  unfold netF
  omega
theorem SM_b {N : Int → Int} (h : ∀ j, 0 ≤ j → j < 8 → -799992 ≤ N j ∧ N j ≤ 799992) : -6399936 ≤ SM N v ∧ SM N v ≤ 6399936 := by
  unfold SM
  have bx1 := sumI_lo (f := fun j => if bt v j = 1 then N j else 0) (n := 8) (lo := -799992) (by omega) (fun j p q => by have := h j p q; show _ ≤ if bt v j = 1 then N j else 0; split <;> omega)
  have bx2 := sumI_hi (f := fun j => if bt v j = 1 then N j else 0) (n := 8) (hi := 799992) (by omega) (fun j p q => by have := h j p q; show (if bt v j = 1 then N j else 0) ≤ _; split <;> omega)
  omega
theorem r_netOf (hG : Shp G) (h0 : 0 ≤ v1) (h1 : v1 < 8) (hz : Q (some (aI (netF (c 190) v1))) (G, c)) : TM (d + 1) 222 [aR 188, aI v1] (G, c) Q := by
  refine b222_0 hG ?_
  refine r_duesOf hG h0 h1 ?_
  refine b222_5 hG TM_eqo ?_
  refine r_debtsOf hG h0 h1 ?_
  refine b222_10 hG ?_
  exact hz
def RwB (c : CC) (S : SS) (b : Int) : Prop := Grp (netF S) (c 200) 8 b ∧ c 201 0 = 0 ∧ ∀ v, 1 ≤ v → v < b → c 201 v = SM (netF S) v
theorem Grp_c {N g g' : Int → Int} {b : Int} (h : Grp N g n b) (hn : 0 ≤ n ∧ n ≤ 8) (hb : b ≤ 256) (he : ∀ v, 0 ≤ v → v < b → g' v = g v) (hb0 : 0 < b) : Grp N g' n b := by
  refine ⟨by rw [he 0 (by omega) hb0]; exact h.1, fun v p q => ?_⟩
  rw [he v (by omega) q, h.2 v p q]
  congr 1
  refine (loopI_c (fun j M p1 p2 => ?_)).symm
  unfold mx1
  by_cases hb1 : bt v j = 1
  · obtain ⟨r1, r2, -⟩ := bx1 (v := v) (k := j) (by omega) (by omega) hb1
    rw [if_pos hb1, if_pos hb1, he _ r1 (by omega)]
  · rw [if_neg hb1, if_neg hb1]
theorem mx_old {g g' : Int → Int} (hn : n ≤ 8) (hv : 0 ≤ v ∧ v < 256) (old : ∀ u, 0 ≤ u → u < v → g' u = g u) : mxF g' v n = mxF g v n := by
  refine loopI_c (fun j M p1 p2 => ?_)
  unfold mx1
  by_cases hb1 : bt v j = 1
  · obtain ⟨r1, r2, -⟩ := bx1 (v := v) (k := j) hv ⟨p1, by omega⟩ hb1
    rw [if_pos hb1, if_pos hb1, old _ r1 r2]
  · rw [if_neg hb1, if_neg hb1]
theorem grp_on {g g' : Int → Int} {N : Int → Int} (hv : 1 ≤ v ∧ v < 256) (hg : Grp N g 8 v) (old : ∀ u, 0 ≤ u → u < v → g' u = g u) (hw : g' v = mxF g v 8 + (if SM N v = 0 then 1 else 0)) : Grp N g' 8 (v + 1) := by
  have g0 := Grp_c hg (by omega) (by omega) old (by omega)
  refine ⟨g0.1, fun u p q => ?_⟩
  by_cases hu : u = v
  · rw [hu, hw, mx_old (g := g) (g' := g') (n := 8) (by omega) (by omega) old]
  · exact g0.2 u p (by omega)
theorem mx_b {g : Int → Int} {N : Int → Int} (hn : 0 ≤ n ∧ n ≤ 8) (hv : 1 ≤ v ∧ v < 256) (hg : Grp N g 8 v) : 0 ≤ mxF g v n ∧ mxF g v n ≤ 256 := by
  obtain ⟨m1, m2, m3⟩ := mxF_s (g := g) (v := v) (n := n) hn.1
  have gb := Grp_b hg (by omega) (by omega)
  refine ⟨m1, ?_⟩
  rcases m3 with m3 | ⟨j, p1, p2, p3, p4⟩
  · omega
  · obtain ⟨r1, r2, -⟩ := bx1 (v := v) (k := j) (by omega) (by omega) p3
    have := gb _ r1 r2
    omega
theorem r_grp_in (hG : Shp G) (hI : InvL S) (hv : 1 ≤ v ∧ v < 256) : ∀ k, 0 ≤ k → k ≤ 8 → ∀ c : CC, c 190 = S → (Grp (netF S) (c 200) 8 v ∧ c 201 0 = 0 ∧ ∀ u, 1 ≤ u → u < v → c 201 u = SM (netF S) u) → c 200 v = mxF (c 200) v k → ((∃ j, 0 ≤ j ∧ j < k ∧ bt v j = 1) → c 201 v = SM (netF S) v) → (∀ c', (∀ r, ¬ r = 200 → ¬ r = 201 → c' r = c r) → RwB c' S (v + 1) → T (d + 2) 224 2 [some (aR 188), some (aI v1), some (aI (v + 1)), none] [] (G, c') (QM Q)) → T (d + 2) 224 18 [some (aR 188), some (aI v1), some (aI v), some (aI k)] [] (G, c) (QM Q) := by
  have hN := fun j p q => net_b (S := S) (k := j) hI p q
  have hsb := SM_b (N := netF S) (v := v) hN
  refine int_ind ?_ ?_
  · intro c e190 hg hM hs hk
    obtain ⟨k0, q0, q1, q2⟩ := bx3 (v := v) (by omega) (by omega)
    have hs := hs ⟨k0, q0, q1, q2⟩
    have mle := mx_b (g := c 200) (N := netF S) (n := 8) (by omega) hv hg.1
    have fin : ∀ w, w = mxF (c 200) v 8 + (if SM (netF S) v = 0 then 1 else 0) → RwB (q_up c 200 v w) S (v + 1) := by
      intro w hw
      refine ⟨grp_on hv hg.1 (fun u p q => up_n (by omega)) (by rw [up_e, hw]), by rw [up_n (by omega)]; exact hg.2.1, fun u p q => ?_⟩
      rw [up_n (by omega)]
      by_cases hu : u = v
      · rw [hu]; exact hs
      · exact hg.2.2 u p (by omega)
    clear hg
    generalize mxF (c 200) v 8 = M8 at hM mle fin
    generalize SM (netF S) v = X at hs hsb fin
    refine b224_18 hG TM_eqo (by intros; omega) (by intros; omega) (by intros; omega) rfl rfl (by intros; omega) ?_ ?_ ?_
    · intro p1 p2
      refine hk _ (fun r q3 q4 => up_r q3) (fin _ ?_)
      rw [hM, if_neg (by omega)]
    · intro p1 p2
      refine hk _ (fun r q3 q4 => up_r q3) (fin _ ?_)
      rw [hM, if_pos (by omega)]
    · intro p1; omega
  · intro k h1 h2 ih c e190 hg hM hs hk
    have gb := Grp_b hg.1 (by omega) (by omega)
    have es : mxF (c 200) v (k + 1) = mx1 (c 200) v k (mxF (c 200) v k) := loopI_s h1
    have mle := mx_b (g := c 200) (N := netF S) (n := k) (by omega) hv hg.1
    unfold mx1 at es
    have ml2 : I32 (c 200 v) := by rw [hM]; omega
    refine b224_18 hG TM_eqo (by intros; omega) (by intros; omega) (by intros; omega) rfl rfl (by intros; omega) ?_ ?_ ?_
    · intro p1; omega
    · intro p1; omega
    · intro p1
      refine r_bitOf hG ?_
      by_cases hb : bt v k = 1
      · obtain ⟨r1, r2, r3⟩ := bx1 (v := v) (k := k) (by omega) (by omega) hb
        rw [if_pos hb] at es
        rw [hb]
        have hsum := SM_rm (N := netF S) (v := v) (k := k) (by omega) (by omega) hb
        have hre : c 201 (rmv v k) = SM (netF S) (rmv v k) := by
          by_cases hz : rmv v k = 0
          · rw [hz, hg.2.1, SM_0]
          · exact hg.2.2 _ (by omega) r2
        have hgr := gb _ r1 r2
        have keep : ∀ w, w = mxF (c 200) v (k + 1) → T (d + 2) 224 18 [some (aR 188), some (aI v1), some (aI v), some (aI (k + 1))] [] (G, q_up (q_up c 201 v (SM (netF S) (rmv v k) + netF S k)) 200 v w) (QM Q) := by
          intro w hw
          have old : ∀ u, 0 ≤ u → u < v → (q_up (q_up c 201 v (SM (netF S) (rmv v k) + netF S k)) 200 v w) 200 u = c 200 u := fun u p q => by rw [up_n (by omega), up_n (by omega)]
          refine ih _ (by rw [up_r (by omega), up_r (by omega)]; exact e190) ⟨Grp_c hg.1 (by omega) (by omega) old (by omega), by rw [up_n (by omega), up_n (by omega)]; exact hg.2.1, fun u p q => by rw [up_n (by omega), up_n (by omega)]; exact hg.2.2 u p q⟩ ?_ (fun _ => by rw [up_n (by omega), up_e]; exact hsum) (fun c' q1 q2 => hk c' (fun r q3 q4 => by rw [q1 r q3 q4, up_r q3, up_r q4]) q2)
          rw [up_e, mx_old (g := c 200) (n := k + 1) (by omega) (by omega) old]
          exact hw
        clear hs
        generalize mxF (c 200) v (k + 1) = M2 at es keep
        generalize mxF (c 200) v k = M1 at es hM mle
        generalize SM (netF S) (rmv v k) = Y at hsum hre keep
        generalize rmv v k = R at *
        refine b224_29 hG (by intros; omega) (by intros; rw [r3]; omega) (by intros; rw [r3]; omega) rfl ?_ ?_
        · intro p2
          rw [r3, hre]
          refine r_netOf hG h1 (by omega) ?_
          rw [e190]
          have e1 : (q_up c 201 v (Y + netF S k)) 200 v = M1 := by rw [up_n (by omega)]; exact hM
          have e2 : (q_up c 201 v (Y + netF S k)) 200 (q_and v (q_xor (q_shl 1 k) (-1))) = c 200 R := by rw [r3, up_n (by omega)]
          refine b224_57 hG (by omega) (by omega) (by omega) (by omega) e1 (by rw [r3]; omega) (by rw [r3]; omega) e2 (by omega) (by omega) e2 ?_ e1 ?_
          · intro p3
            refine keep _ ?_
            rw [es]
            by_cases e : M1 < c 200 R
            · rw [if_pos e]
            · rw [if_neg e]; omega
          · intro p3
            exact keep _ (by rw [es, if_neg (by omega)])
        · intro p2; omega
      · rw [if_neg hb] at es
        have hb01 : bt v k = 0 ∨ bt v k = 1 := bt_01
        refine b224_29 hG (by intros; omega) (by intros; omega) (by intros; omega) rfl ?_ ?_
        · intro p2; omega
        · intro p2
          refine ih c e190 hg (by rw [hM, es]) (fun ⟨j, p3, p4, p5⟩ => hs ⟨j, p3, by
            by_cases e : j = k
            · rw [e] at p5; exact absurd p5 hb
            · omega, p5⟩) hk
theorem r_groupsAll (hG : Shp G) (hI : InvL (c 190)) (hA : 0 ≤ v1 ∧ v1 < 256) (h0 : c 200 0 = 0 ∧ c 201 0 = 0) (hz : ∀ c', (∀ r, ¬ r = 200 → ¬ r = 201 → c' r = c r) → Grp (netF (c 190)) (c' 200) 8 256 → c' 201 0 = 0 → Q (some (aI (c' 200 v1))) (G, c')) : TM (d + 2) 224 [aR 188, aI v1] (G, c) Q := by
  have hN := fun j p q => net_b (S := c 190) (k := j) hI p q
  refine b224_0 hG ?_
  have key : ∀ v, 1 ≤ v → v ≤ 256 → ∀ c2 : CC, (∀ r, ¬ r = 200 → ¬ r = 201 → c2 r = c r) → RwB c2 (c 190) v → T (d + 2) 224 2 [some (aR 188), some (aI v1), some (aI v), none] [] (G, c2) (QM Q) := by
    refine int_ind ?_ ?_
    · intro c2 fr hr
      refine b224_2 hG (by intros; omega) (by intros; omega) (by intros; omega) rfl ?_ (by intros; omega) (by intros; omega) ?_
      · intro p1
        exact hz c2 fr hr.1 hr.2.1
      · intro p1; omega
    · intro v h1 h2 ih c2 fr hr
      have e190 := fr 190 (by omega) (by omega)
      refine b224_2 hG (by intros; omega) (by intros; omega) (by intros; omega) rfl ?_ (by intros; omega) (by intros; omega) ?_
      · intro p1; omega
      · intro p1
        have old : ∀ u, 0 ≤ u → u < v → (q_up c2 200 v 0) 200 u = c2 200 u := fun u p q => up_n (by omega)
        refine r_grp_in hG hI (v := v) ⟨h1, h2⟩ 0 (by omega) (by omega) _ (by rw [up_r (by omega)]; exact e190) ⟨Grp_c hr.1 (by omega) (by omega) old (by omega), by rw [up_n (by omega)]; exact hr.2.1, fun u p q => by rw [up_n (by omega)]; exact hr.2.2 u p q⟩ ?_ (fun ⟨j, p, q, _⟩ => by omega) (fun c' q1 q2 => ih c' (fun r q4 q5 => by rw [q1 r q4 q5, up_r q4]; exact fr r q4 q5) q2)
        rw [up_e]
        exact (loopI_0 (by omega)).symm
  refine key 1 (by omega) (by omega) c (fun _ _ _ => rfl) ⟨⟨h0.1, fun v p q => by omega⟩, h0.2, fun v p q => by omega⟩
end SPGt
