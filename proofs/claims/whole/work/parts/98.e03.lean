section SPGv
variable {d : Nat} {G : GG} {c c' cA cB cA' cB' : CC} {Q : Option AV → HH → Prop} {v1 n i j k m v : Int} {S : SS}
def nzF (S : SS) (k : Int) : Int := if netF S k = 0 then 0 else 1
def Enu (S : SS) (c : CC) (s m : Int) (sg : Int → Int) : Prop := 0 ≤ m ∧ m ≤ s ∧ m = sumI (nzF S) s ∧ (∀ i, 0 ≤ i → i < m → 0 ≤ sg i ∧ sg i < s ∧ c 137 i = netF S (sg i) ∧ ¬ netF S (sg i) = 0) ∧ (∀ i j, 0 ≤ i → i < m → 0 ≤ j → j < m → sg i = sg j → i = j) ∧ (∀ k, 0 ≤ k → k < s → ¬ netF S k = 0 → ∃ i, 0 ≤ i ∧ i < m ∧ sg i = k)
theorem c_collect (hG : Shp G) (hR : InvR S) (hI : InvL S) (hr : RR c 9 S) (hL : LR c 27 S) (hz : ∀ c' m sg, (∀ r, ¬ r = 136 → ¬ r = 137 → c' r = c r) → c' 136 5 = m → Enu S c' (S 1) m sg → Q none (G, c')) : TM (d + 2) 57 [aR 136] (G, c) Q := by
  have g := hR.1
  refine b57_0 hG ?_
  have key : ∀ s, 0 ≤ s → s ≤ S 1 → ∀ (c2 : CC) (m : Int) (sg : Int → Int), (∀ r, ¬ r = 136 → ¬ r = 137 → c2 r = c r) → c2 136 5 = m → Enu S c2 s m sg → T (d + 2) 57 7 [some (aR 136), some (aI s), none] [] (G, c2) (QM Q) := by
    refine int_ind ?_ ?_
    · intro c2 m sg fr em he
      have e1 : c2 9 1 = S 1 := by rw [fr 9 (by omega) (by omega)]; exact hr.1.2.1
      refine b57_7 hG rfl (by intros; omega) (by intros; omega) ?_ ?_
      · intro p1; exact hz c2 m sg fr em he
      · intro p1; omega
    · intro s h1 h2 ih c2 m sg fr em he
      have e1 : c2 9 1 = S 1 := by rw [fr 9 (by omega) (by omega)]; exact hr.1.2.1
      have hr2 : RR c2 9 S := RR_fr hr (fun r p q => fr r (by omega) (by omega))
      have hL2 : LR c2 27 S := LR_fr hL (fun r p q => fr r (by omega) (by omega))
      have d1 := dbt_b hI h1 (show s < 8 by omega)
      have d2 := due_b hI h1 (show s < 8 by omega)
      obtain ⟨n1, n2, n3, n4, n5, n6⟩ := he
      have es : sumI (nzF S) (s + 1) = sumI (nzF S) s + nzF S s := sumI_s h1
      have en : netF S s = dueF S s - dbtF S s := rfl
      refine b57_7 hG rfl (by intros; omega) (by intros; omega) ?_ ?_
      · intro p1; omega
      · intro p1
        refine c_owedInAll hG lf27 hR hI hr2 hL2 h1 (by omega) ?_
        refine b57_26 hG ?_
        refine c_owesInAll hG lf27 hR hI hr2 hL2 h1 (by omega) ?_
        refine b57_34 hG TM_eqo (by intros; omega) ?_ rfl (by intros; omega) ?_ rfl (by intros; omega) (by intros; omega) (up_n (by omega)) ?_
        · intro p2
          have z : nzF S s = 0 := if_pos (by omega)
          exact ih c2 m sg fr em ⟨n1, by omega, by omega, fun i p q => ⟨(n4 i p q).1, by have := (n4 i p q).2.1; omega, (n4 i p q).2.2⟩, n5, fun k p q r => by
            by_cases e : k = s
            · rw [e] at r; omega
            · exact n6 k p (by omega) r⟩
        · intro p2 p3; omega
        · intro p2 p3
          have z : nzF S s = 1 := if_neg (by omega)
          refine ih _ (m + 1) (q_u1 sg m s) (fun r p q => by rw [up_r p, up_r q]; exact fr r p q) (by rw [up_e, em]) ⟨by omega, by omega, by omega, fun i p q => ?_, fun i j p q r t u => ?_, fun k p q r => ?_⟩
          · rw [up_n (by omega), em]
            by_cases e : i = m
            · rw [e, u1_e, up_e]
              exact ⟨by omega, by omega, en.symm, by omega⟩
            · rw [u1_n e, up_n (by omega)]
              have := n4 i p (by omega)
              exact ⟨this.1, by omega, this.2.2⟩
          · by_cases e1 : i = m
            · by_cases e2 : j = m
              · omega
              · rw [e1, u1_e, u1_n e2] at u
                have := n4 j r (by omega)
                omega
            · by_cases e2 : j = m
              · rw [e2, u1_e, u1_n e1] at u
                have := n4 i p (by omega)
                omega
              · rw [u1_n e1, u1_n e2] at u
                exact n5 i j p (by omega) r (by omega) u
          · by_cases e : k = s
            · exact ⟨m, by omega, by omega, by rw [u1_e, e]⟩
            · obtain ⟨i, i0, i1, i2⟩ := n6 k p (by omega) r
              exact ⟨i, i0, by omega, by rw [u1_n (by omega)]; exact i2⟩
  refine key 0 (by omega) (by omega) _ 0 (fun _ => 0) (fun r p q => up_r p) up_e ⟨by omega, by omega, ?_, fun i p q => by omega, fun i j p q => by omega, fun k p q => by omega⟩
  rw [sumI_0 (by omega)]
def cutF (m : Int) (f : Int → Int) : Int → Int := fun j => if 0 ≤ j ∧ j < m then f j else 0
def RwA (c : CC) (m b : Int) : Prop := Grp (cutF m (c 137)) (c 139) m b ∧ c 138 0 = 0 ∧ ∀ v, 1 ≤ v → v < b → c 138 v = SM (cutF m (c 137)) v
theorem mx_oldm {g g' : Int → Int} (hn : n ≤ 8) (hv : 0 ≤ v ∧ v < 256) (old : ∀ u, 0 ≤ u → u < v → g' u = g u) : mxF g' v n = mxF g v n := mx_old hn hv old
theorem grp_onm {g g' : Int → Int} {N : Int → Int} (hm : 0 ≤ m ∧ m ≤ 8) (hv : 1 ≤ v ∧ v < 256) (hg : Grp N g m v) (old : ∀ u, 0 ≤ u → u < v → g' u = g u) (hw : g' v = mxF g v m + (if SM N v = 0 then 1 else 0)) : Grp N g' m (v + 1) := by
  have g0 := Grp_c hg hm (by omega) old (by omega)
  refine ⟨g0.1, fun u p q => ?_⟩
  by_cases hu : u = v
  · rw [hu, hw, mx_old (g := g) (g' := g') (n := m) (by omega) (by omega) old]
  · exact g0.2 u p (by omega)
theorem mx_bm {g : Int → Int} {N : Int → Int} (hm : 0 ≤ m ∧ m ≤ 8) (hn : 0 ≤ n ∧ n ≤ 8) (hv : 1 ≤ v ∧ v < 256) (hg : Grp N g m v) : 0 ≤ mxF g v n ∧ mxF g v n ≤ 256 := by
  obtain ⟨m1, m2, m3⟩ := mxF_s (g := g) (v := v) (n := n) hn.1
  have gb := Grp_b hg hm (by omega)
  refine ⟨m1, ?_⟩
  rcases m3 with m3 | ⟨j, p1, p2, p3, p4⟩
  · omega
  · obtain ⟨r1, r2, -⟩ := bx1 (v := v) (k := j) (by omega) (by omega) p3
    have := gb _ r1 r2
    omega
theorem c_grp_in (hG : Shp G) (hm : 0 ≤ m ∧ m ≤ 8) (hv : 1 ≤ v ∧ v < q_shl 1 m) (N : Int → Int) (hN : ∀ j, 0 ≤ j → j < 8 → -799992 ≤ N j ∧ N j ≤ 799992) : ∀ k, 0 ≤ k → k ≤ m → ∀ c : CC, c 136 5 = m → (∀ i, 0 ≤ i → i < m → c 137 i = N i) → (Grp N (c 139) m v ∧ c 138 0 = 0 ∧ ∀ u, 1 ≤ u → u < v → c 138 u = SM N u) → ((∃ j, 0 ≤ j ∧ j < k ∧ bt v j = 1) → c 138 v = SM N v) → (∀ c', (∀ r, ¬ r = 138 → ¬ r = 139 → c' r = c r) → (Grp N (c' 139) m (v + 1) ∧ c' 138 0 = 0 ∧ ∀ u, 1 ≤ u → u < v + 1 → c' 138 u = SM N u) → T (d + 3) 56 6 [some (aR 136), some (aI (v + 1)), none, none, none] [] (G, c') (QM Q)) → T (d + 3) 56 27 [some (aR 136), some (aI v), some (aI (mxF (c 139) v k)), some (aI k), none] [] (G, c) (QM Q) := by
  have h5 := bx5 hm
  have hsb := SM_b (N := N) (v := v) hN
  refine int_ind ?_ ?_
  · intro c em hn hg hs hk
    obtain ⟨k0, q0, q1, q2⟩ := bx3 (v := v) (by omega) (by omega)
    have km : k0 < m := by
      by_cases h : k0 < m
      · exact h
      · have := bx4 (n := m) (v := v) (j := k0) hm (by omega) (by omega) (by omega); omega
    have hs := hs ⟨k0, q0, km, q2⟩
    have mle := mx_bm (g := c 139) (N := N) (n := m) hm hm (by omega) hg.1
    have fin : ∀ w, w = mxF (c 139) v m + (if SM N v = 0 then 1 else 0) → (Grp N ((q_up c 139 v w) 139) m (v + 1) ∧ (q_up c 139 v w) 138 0 = 0 ∧ ∀ u, 1 ≤ u → u < v + 1 → (q_up c 139 v w) 138 u = SM N u) := by
      intro w hw
      refine ⟨grp_onm hm (by omega) hg.1 (fun u p q => up_n (by omega)) (by rw [up_e, hw]), by rw [up_n (by omega)]; exact hg.2.1, fun u p q => ?_⟩
      rw [up_n (by omega)]
      by_cases hu : u = v
      · rw [hu]; exact hs
      · exact hg.2.2 u p (by omega)
    clear hg
    generalize mxF (c 139) v m = M8 at mle fin ⊢
    generalize SM N v = X at hs hsb fin
    refine b56_27 hG TM_eqo rfl (by intros; omega) (by intros; omega) (by intros; omega) (by intros; omega) rfl (by intros; omega) ?_ ?_ (by intros; omega) ?_ (by intros; omega) (by intros; omega) rfl (by intros; omega) (by intros; omega) rfl (by intros; omega) (by intros; omega) (up_n (by omega)) (by intros; omega) (by intros; omega) ?_
    · intro p1 p2
      exact hk _ (fun r q3 q4 => up_r q4) (fin _ (by rw [if_neg (by omega)]; omega))
    · intro p1 p2
      exact hk _ (fun r q3 q4 => up_r q4) (fin _ (by rw [if_pos (by omega)]))
    · intro p1; omega
    · intro p1; omega
  · intro k h1 h2 ih c em hn hg hs hk
    have gb := Grp_b hg.1 hm (by omega)
    have es : mxF (c 139) v (k + 1) = mx1 (c 139) v k (mxF (c 139) v k) := loopI_s h1
    have mle := mx_bm (g := c 139) (N := N) (n := k) hm (by omega) (by omega) hg.1
    have hb01 : bt v k = 0 ∨ bt v k = 1 := bt_01
    unfold mx1 at es
    by_cases hb : bt v k = 1
    · obtain ⟨r1, r2, r3⟩ := bx1 (v := v) (k := k) (by omega) (by omega) hb
      have r1' : 0 ≤ q_xor v (q_shl 1 k) := r1
      have r2' : q_xor v (q_shl 1 k) < v := r2
      rw [if_pos hb] at es
      have hb' : q_and (q_shr v k) 1 = 1 := hb
      have hsum := SM_rm (N := N) (v := v) (k := k) (by omega) (by omega) hb
      have hre : c 138 (rmv v k) = SM N (rmv v k) := by
        by_cases hz : rmv v k = 0
        · rw [hz, hg.2.1, SM_0]
        · exact hg.2.2 _ (by omega) r2
      have hgr := gb _ r1 r2
      have hnk := hn k h1 h2
      have keep : T (d + 3) 56 27 [some (aR 136), some (aI v), some (aI (mxF (c 139) v (k + 1))), some (aI (k + 1)), none] [] (G, q_up c 138 v (SM N (rmv v k) + N k)) (QM Q) := by
        have := ih (q_up c 138 v (SM N (rmv v k) + N k)) (by rw [up_n (by omega)]; exact em) (fun i p q => by rw [up_n (by omega)]; exact hn i p q) ⟨by rw [up_r (by omega)]; exact hg.1, by rw [up_n (by omega)]; exact hg.2.1, fun u p q => by rw [up_n (by omega)]; exact hg.2.2 u p q⟩ (fun _ => by rw [up_e]; exact hsum) (fun c' q1 q2 => hk c' (fun r q3 q4 => by rw [q1 r q3 q4, up_r q3]) q2)
        rw [up_r (by omega)] at this
        exact this
      rw [es] at keep
      clear hs
      have hre2 : c 138 (q_xor v (q_shl 1 k)) = SM N (rmv v k) := hre
      have hgr2 : 0 ≤ c 139 (q_xor v (q_shl 1 k)) ∧ c 139 (q_xor v (q_shl 1 k)) ≤ q_xor v (q_shl 1 k) := hgr
      have keep2 : T (d + 3) 56 27 [some (aR 136), some (aI v), some (aI (if mxF (c 139) v k < c 139 (q_xor v (q_shl 1 k)) then c 139 (q_xor v (q_shl 1 k)) else mxF (c 139) v k)), some (aI (k + 1)), none] [] (G, q_up c 138 v (SM N (rmv v k) + N k)) (QM Q) := keep
      clear keep es hgr hre
      generalize mxF (c 139) v k = M1 at mle keep2 ⊢
      generalize SM N (rmv v k) = Y at hsum hre2 keep2
      refine b56_27 hG TM_eqo rfl (by intros; first | omega | (rw [hb'] at *; omega)) (by intros; first | omega | (rw [hb'] at *; omega)) (by intros; first | omega | (rw [hb'] at *; omega)) (by intros; first | omega | (rw [hb'] at *; omega)) rfl (by intros; first | omega | (rw [hb'] at *; omega)) ?_ ?_ (by intros; first | omega | (rw [hb'] at *; omega)) ?_ (by intros; first | omega | (rw [hb'] at *; omega)) (by intros; first | omega | (rw [hb'] at *; omega)) (hre2) (by intros; first | omega | (rw [hb'] at *; omega)) (by intros; first | omega | (rw [hb'] at *; omega)) (hnk) (by intros; first | omega | (rw [hb'] at *; omega)) (by intros; first | omega | (rw [hb'] at *; omega)) (up_n (by omega)) (by intros; first | omega | (rw [hb'] at *; omega)) (by intros; first | omega | (rw [hb'] at *; omega)) ?_
      · intro p1; omega
      · intro p1; omega
      · intro p1 p2; exact absurd hb' p2
      · intro p1 p2; exact keep2
    · rw [if_neg hb] at es
      have hb' : ¬ q_and (q_shr v k) 1 = 1 := hb
      have hbi : I32 (q_and (q_shr v k) 1) := and_I32
      rw [← es]
      refine b56_27 hG TM_eqo rfl (by intros; omega) (by intros; omega) (by intros; omega) (by intros; omega) rfl (by intros; omega) ?_ ?_ (by intros; omega) ?_ (by intros; omega) (by intros; omega) rfl (by intros; omega) (by intros; omega) rfl (by intros; omega) (by intros; omega) (up_n (by omega)) (by intros; omega) (by intros; omega) ?_
      · intro p1; omega
      · intro p1; omega
      · intro p1 p2
        exact ih c em hn hg (fun ⟨j, p3, p4, p5⟩ => hs ⟨j, p3, by
          by_cases e : j = k
          · rw [e] at p5; exact absurd p5 hb
          · omega, p5⟩) hk
      · intro p1 p2; exact absurd p2 hb'
theorem c_mostGroups (hG : Shp G) (hR : InvR S) (hI : InvL S) (hr : RR c 9 S) (hL : LR c 27 S) (h0 : c 138 0 = 0 ∧ c 139 0 = 0) (hz : ∀ c' m sg, (∀ r, ¬ r = 136 → ¬ r = 137 → ¬ r = 138 → ¬ r = 139 → c' r = c r) → c' 136 5 = m → Enu S c' (S 1) m sg → Grp (fun i => if 0 ≤ i ∧ i < m then netF S (sg i) else 0) (c' 139) m (q_shl 1 m) → c' 138 0 = 0 → Q (some (aI (c' 139 (q_shl 1 m - 1)))) (G, c')) : TM (d + 3) 56 [aR 136] (G, c) Q := by
  have g := hR.1
  refine b56_0 hG ?_
  refine c_collect hG hR hI hr hL (fun c1 m sg f1 em he => ?_)
  obtain ⟨n1, n2, n3, n4, n5, n6⟩ := he
  have hm : 0 ≤ m ∧ m ≤ 8 := ⟨n1, by omega⟩
  have h5 := bx5 hm
  obtain ⟨N, hNd⟩ : ∃ N : Int → Int, N = fun i => if 0 ≤ i ∧ i < m then netF S (sg i) else 0 := ⟨_, rfl⟩
  have hNv : ∀ i, 0 ≤ i → i < m → c1 137 i = N i := fun i p q => by
    rw [hNd, (n4 i p q).2.2.1]
    show _ = if 0 ≤ i ∧ i < m then _ else _
    rw [if_pos ⟨p, q⟩]
  have hN : ∀ j, 0 ≤ j → j < 8 → -799992 ≤ N j ∧ N j ≤ 799992 := fun j p q => by
    rw [hNd]
    show _ ≤ (if 0 ≤ j ∧ j < m then netF S (sg j) else 0) ∧ (if 0 ≤ j ∧ j < m then netF S (sg j) else 0) ≤ _
    by_cases h : 0 ≤ j ∧ j < m
    · rw [if_pos h]
      have := n4 j p h.2
      exact net_b hI this.1 (by omega)
    · rw [if_neg h]; omega
  refine b56_4 hG ?_
  have key : ∀ v, 1 ≤ v → v ≤ q_shl 1 m → ∀ c2 : CC, (∀ r, ¬ r = 138 → ¬ r = 139 → c2 r = c1 r) → (Grp N (c2 139) m v ∧ c2 138 0 = 0 ∧ ∀ u, 1 ≤ u → u < v → c2 138 u = SM N u) → T (d + 3) 56 6 [some (aR 136), some (aI v), none, none, none] [] (G, c2) (QM Q) := by
    refine int_ind ?_ ?_
    · intro c2 fr hrw
      have e2 : c2 136 5 = m := by rw [fr 136 (by omega) (by omega)]; exact em
      have hz2 := hz c2 m sg (fun r p q r2 r3 => by rw [fr r r2 r3]; exact f1 r p q) e2 ⟨n1, n2, n3, fun i p q => by rw [fr 137 (by omega) (by omega)]; exact n4 i p q, n5, n6⟩ (by rw [← hNd]; exact hrw.1) hrw.2.1
      clear hNd
      refine b56_6 hG (e2) (by intros; omega) (by intros; omega) (e2) (by intros; omega) (by intros; omega) rfl ?_ (e2) (by intros; omega) (by intros; omega) rfl ?_ ?_
      · intro p1; exact hz2
      · intro p1; omega
      · intro p1; omega
    · intro v h1 h2 ih c2 fr hrw
      have e2 : c2 136 5 = m := by rw [fr 136 (by omega) (by omega)]; exact em
      have st := c_grp_in (d := d) (Q := Q) hG hm ⟨h1, h2⟩ N hN 0 (by omega) (by omega) c2 e2 (fun i p q => by rw [fr 137 (by omega) (by omega)]; exact hNv i p q) hrw (fun ⟨j, p, q, _⟩ => by omega) (fun c3 f3 g3 => ih c3 (fun r p q => by rw [f3 r p q]; exact fr r p q) g3)
      rw [show mxF (c2 139) v 0 = 0 from loopI_0 (by omega)] at st
      clear hNd
      refine b56_6 hG (e2) (by intros; omega) (by intros; omega) (e2) (by intros; omega) (by intros; omega) rfl ?_ (e2) (by intros; omega) (by intros; omega) rfl ?_ ?_
      · intro p1; omega
      · intro p1 p2; omega
      · intro p1 p2; exact st
  refine key 1 (by omega) (by omega) c1 (fun _ _ _ => rfl) ⟨⟨by rw [f1 139 (by omega) (by omega)]; exact h0.2, fun v p q => by omega⟩, by rw [f1 138 (by omega) (by omega)]; exact h0.1, fun v p q => by omega⟩
theorem net_z (hR : InvR S) (hI : InvL S) (h0 : S 1 ≤ k) (h1 : k < 8) : netF S k = 0 := by
  have g := hR.1
  unfold netF dueF dbtF
  rw [sumI_z (f := fun q => S (205 + 8 * q + k)) (n := 0) (m := 8) (by omega) (by omega) (fun i p q => hI.2.2.2.1 i k p q (by omega) h1 (by omega)), sumI_z (f := fun q => S (205 + 8 * k + q)) (n := 0) (m := 8) (by omega) (by omega) (fun i p q => hI.2.2.2.1 k i (by omega) h1 p q (by omega)), sumI_0 (by omega), sumI_0 (by omega)]
  omega
def wnF (S : SS) (n : Int) : Int := loopI (fun k s => q_or s (if netF S k = 0 then 0 else q_shl 1 k)) n 0
theorem wn_b (hn : 0 ≤ n ∧ n ≤ 8) : 0 ≤ wnF S n ∧ wnF S n < q_shl 1 n ∧ ∀ j, 0 ≤ j → j < n → bt (wnF S n) j = nzF S j := by
  have key : ∀ n, 0 ≤ n → n ≤ 8 → 0 ≤ wnF S n ∧ wnF S n < q_shl 1 n ∧ ∀ j, 0 ≤ j → j < n → bt (wnF S n) j = nzF S j := by
    refine int_up ?_ ?_
    · rw [show wnF S 0 = 0 from loopI_0 (by omega)]
      exact ⟨by omega, by decide, fun j p q => by omega⟩
    · intro i h1 h2 ⟨h3, h4, h5⟩
      have hb := bx5 (n := i) ⟨h1, by omega⟩
      obtain ⟨q1, q2, q3, q4⟩ := bx6 (n := i) (v := wnF S i) ⟨h1, by omega⟩ ⟨h3, by omega⟩ h4
      rw [show wnF S (i + 1) = q_or (wnF S i) (if netF S i = 0 then 0 else q_shl 1 i) from loopI_s h1]
      by_cases hz : netF S i = 0
      · rw [if_pos hz, or_0 (by omega)]
        refine ⟨h3, by omega, fun j p q => ?_⟩
        by_cases e : j = i
        · rw [e, bx4 (n := i) (v := wnF S i) (j := i) ⟨h1, by omega⟩ ⟨h3, by omega⟩ h4 ⟨by omega, by omega⟩]
          exact (if_pos hz).symm
        · exact h5 j p (by omega)
      · rw [if_neg hz]
        refine ⟨q1, q2, fun j p q => ?_⟩
        rw [q4 j p (by omega)]
        by_cases e : j = i
        · rw [if_pos e, e]; exact (if_neg hz).symm
        · rw [if_neg e]; exact h5 j p (by omega)
  exact key n hn.1 hn.2
theorem r_withNet (hG : Shp G) (hI : InvL (c 190)) (hz : Q (some (aI (wnF (c 190) 8))) (G, c)) : TM (d + 2) 225 [aR 188] (G, c) Q := by
  refine b225_0 hG ?_
  have key : ∀ k, 0 ≤ k → k ≤ 8 → T (d + 2) 225 4 [some (aR 188), some (aI (wnF (c 190) k)), some (aI k)] [] (G, c) (QM Q) := by
    refine int_ind ?_ ?_
    · refine b225_4 hG TM_eqo (by intros; omega) ?_ ?_
      · intro p1; exact hz
      · intro p1; omega
    · intro k h1 h2 ih
      rw [show wnF (c 190) (k + 1) = q_or (wnF (c 190) k) (if netF (c 190) k = 0 then 0 else q_shl 1 k) from loopI_s h1] at ih
      have hb := net_b hI h1 h2
      refine b225_4 hG TM_eqo (by intros; omega) ?_ ?_
      · intro p1; omega
      · intro p1
        refine r_netOf hG h1 h2 ?_
        generalize netF (c 190) k = X at *
        refine b225_16 hG (by intros; omega) ?_ ?_
        · intro p2; rw [if_pos p2] at ih; exact ih
        · intro p2; rw [if_neg p2] at ih; exact ih
  exact key 0 (by omega) (by omega)
def bcN : Nat → Int → Int
  | 0, _ => 0
  | n + 1, v => if v = 0 then 0 else 1 + bcN n (q_and v (v - 1))
def bzN : Nat → Int → Bool
  | 0, v => decide (v = 0)
  | n + 1, v => decide (v = 0) || bzN n (q_and v (v - 1))
theorem bits_g : ∀ v : Fin 256, bzN 9 v.val = true ∧ bcN 9 v.val = sumI (bt v.val) 8 := by decide +kernel
theorem r_bits (hG : Shp G) (hv : 0 ≤ v ∧ v < 256) (hz : Q (some (aI (sumI (bt v) 8))) (G, c)) : TM d 226 [aI v] (G, c) Q := by
  have hg := bits_g ⟨v.toNat, by omega⟩
  rw [show ((⟨v.toNat, by omega⟩ : Fin 256).val : Int) = v by show (v.toNat : Int) = v; omega] at hg
  refine b226_0 hG TM_eqo ?_
  have key : ∀ (n : Nat) (u a : Int), I32 u → bzN n u = true → Q (some (aI (a + bcN n u))) (G, c) → T d 226 4 [none, some (aI a), some (aI u)] [] (G, c) (QM Q) := by
    intro n
    induction n with
    | zero =>
      intro u a hu hb hz
      have h0 : u = 0 := of_decide_eq_true hb
      rw [show a + bcN 0 u = a from Int.add_zero a] at hz
      refine b226_4 hG (by intros; omega) ?_ ?_
      · intro p1; exact hz
      · intro p1; omega
    | succ n ih =>
      intro u a hu hb hz
      unfold bcN at hz
      refine b226_4 hG (by intros; omega) ?_ ?_
      · intro p1; rw [if_pos p1, Int.add_zero] at hz; exact hz
      · intro p1
        unfold bzN at hb
        rw [decide_eq_false p1] at hb
        rw [if_neg p1] at hz
        refine ih _ (a + 1) and_I32 (by simpa using hb) ?_
        rw [show a + 1 + bcN n (q_and u (u - 1)) = a + (1 + bcN n (q_and u (u - 1))) by omega]
        exact hz
  refine key 9 v 0 (by omega) hg.1 ?_
  rw [hg.2, Int.zero_add]
  exact hz
theorem GR_nets (h : GR cA cB) (a1 : ∀ r, ¬ r = 136 → ¬ r = 137 → ¬ r = 138 → ¬ r = 139 → cA' r = cA r) (a2 : cA' 138 0 = 0) (a3 : cA' 139 0 = 0) (b1 : ∀ r, ¬ r = 188 → ¬ r = 200 → ¬ r = 201 → cB' r = cB r) (b2 : ∀ i, ¬ i = 0 → cB' 188 i = cB 188 i) (b3 : cB' 200 0 = 0) (b4 : cB' 201 0 = 0) : GR cA' cB' := by
  obtain ⟨r1, r2, r3, r4, r5, r6, r7, r8, r9⟩ := h
  have e190 := b1 190 (by omega) (by omega) (by omega)
  refine ⟨by rw [e190]; exact r1, GN_fr r2 (by rw [e190]; exact SmR_refl _) r1.1 (fun r p => a1 r (by omega) (by omega) (by omega) (by omega)) (fun j _ _ => by rw [b1 193 (by omega) (by omega) (by omega)]), by rw [e190]; exact LR_fr r3 (fun r p q => a1 r (by omega) (by omega) (by omega) (by omega)), GT_fr r4 (by rw [a1 2 (by omega) (by omega) (by omega) (by omega)]) (by rw [a1 2 (by omega) (by omega) (by omega) (by omega)]) (a1 _ (by omega) (by omega) (by omega) (by omega)) (a1 _ (by omega) (by omega) (by omega) (by omega)) (b2 _ (by omega)) (b2 _ (by omega)) (b1 _ (by omega) (by omega) (by omega)) (b1 _ (by omega) (by omega) (by omega)), GH_fr r5 (by rw [e190]; exact SmR_refl _) (fun r p q => a1 r (by omega) (by omega) (by omega) (by omega)) (b2 _ (by omega)) (b1 _ (by omega) (by omega) (by omega)), GM_fr r6 (a1 _ (by omega) (by omega) (by omega) (by omega)) (b2 _ (by omega)) (b1 _ (by omega) (by omega) (by omega)), GW_fr r7 (a1 _ (by omega) (by omega) (by omega) (by omega)) (b2 _ (by omega)) (b1 _ (by omega) (by omega) (by omega)), ?_, GI_fr r9 (fun r p q => a1 r (by omega) (by omega) (by omega) (by omega)) (b1 _ (by omega) (by omega) (by omega)) (b1 _ (by omega) (by omega) (by omega)) (b1 _ (by omega) (by omega) (by omega))⟩
  unfold GB
  rw [a1 120 (by omega) (by omega) (by omega) (by omega), b2 38 (by omega), b1 205 (by omega) (by omega) (by omega)]
  exact ⟨r8.1, r8.2.1, r8.2.2.1, a2, a3, b3, b4⟩
theorem grp_same (hR : InvR S) (hI : InvL S) {cA' cB' : CC} {m : Int} {sg : Int → Int} (he : Enu S cA' (S 1) m sg) (hA : Grp (fun i => if 0 ≤ i ∧ i < m then netF S (sg i) else 0) (cA' 139) m (q_shl 1 m)) (hB : Grp (netF S) (cB' 200) 8 256) : cA' 139 (q_shl 1 m - 1) = cB' 200 (wnF S 8) ∧ sumI (bt (wnF S 8)) 8 = m ∧ 0 ≤ wnF S 8 ∧ wnF S 8 < 256 ∧ 0 ≤ cB' 200 (wnF S 8) ∧ cB' 200 (wnF S 8) ≤ 255 ∧ 0 ≤ m ∧ m ≤ 8 := by
  have g := hR.1
  obtain ⟨n1, n2, n3, n4, n5, n6⟩ := he
  have hm : 0 ≤ m ∧ m ≤ 8 := ⟨n1, by omega⟩
  have h5 := bx5 hm
  have h8 := bx5 (n := 8) (by omega)
  obtain ⟨w1, w2, w3⟩ := wn_b (S := S) (n := 8) (by omega)
  have gb := Grp_b hB (by omega) (by omega) (wnF S 8) w1 (by omega)
  have hr : Ren sg m (q_shl 1 m - 1) (wnF S 8) := by
    refine ⟨fun i p q => ?_, fun i p q => ?_, fun k p q r => ?_⟩
    · have := n4 i p q
      rw [h5.2.2 i p (by omega), if_pos q, w3 (sg i) this.1 (by omega)]
      exact (if_neg this.2.2.2).symm
    · rw [h5.2.2 i (by omega) q, if_neg (by omega)]
    · rw [w3 k p q] at r
      unfold nzF at r
      have hnz : ¬ netF S k = 0 := fun e => by rw [if_pos e] at r; omega
      by_cases hk : k < S 1
      · exact n6 k p hk hnz
      · exact absurd (net_z hR hI (by omega) q) hnz
  have := Grp_ren (N := netF S) (N' := fun i => if 0 ≤ i ∧ i < m then netF S (sg i) else 0) (sg := sg) hm (fun i p q => by have := n4 i p q; exact ⟨this.1, by omega⟩) n5 (fun i p q => if_pos ⟨p, q⟩) hB hA (q_shl 1 m - 1).toNat (q_shl 1 m - 1) (wnF S 8) (by omega) (by omega) w1 (by omega) hr (Nat.le_refl _)
  refine ⟨this.1, ?_, w1, by omega, gb.1, by omega, hm⟩
  rw [sumI_c (f := bt (wnF S 8)) (g := nzF S) (fun j p q => w3 j p q), n3]
  exact sumI_z (by omega) (by omega) (fun i p q => by unfold nzF; rw [if_pos (net_z hR hI p q)])
theorem op_groups (hG : Shp G) (h : GR cA cB) : OP G (d + 50) 141 228 [] cA cB := by
  have hR := h.1.1
  have hI := h.1.2.1
  have hr := h.2.1.1
  have hL := h.2.2.1
  obtain ⟨-, -, -, z1, z2, z3, z4⟩ := h.2.2.2.2.2.2.2.1
  refine b141_0 hG TM_eqo ?_
  refine c_mostGroups hG hR hI hr hL ⟨z1, z2⟩ (fun c1 m sg f1 em he hA h138 => ?_)
  refine b141_7 hG ?_
  refine ⟨c1, rfl, fun r hr => f1 r (by omega) (by omega) (by omega) (by omega), ?_⟩
  obtain ⟨q1, q2⟩ := thr_e0 (c := cB)
  refine b228_0 hG TM_eqo ?_
  generalize hc1 : q_up cB 188 0 0 = c2 at q1 q2 ⊢
  have e190 := q1 190 (by omega)
  refine r_withNet hG (by rw [e190]; exact hI) ?_
  rw [e190]
  obtain ⟨w1, w2, -⟩ := wn_b (S := cB 190) (n := 8) (by omega)
  have h8 := bx5 (n := 8) (by omega)
  refine b228_10 hG ?_
  refine r_groupsAll hG (by rw [e190]; exact hI) ⟨w1, by omega⟩ (by rw [q1 200 (by omega), q1 201 (by omega)]; exact ⟨z3, z4⟩) (fun c3 f3 g3 s3 => ?_)
  rw [e190] at g3
  obtain ⟨x1, x2, x3, x4, x5, x6, x7, x8⟩ := grp_same hR hI he hA g3
  refine b228_13 hG ?_
  refine ⟨c3, rfl, GR_nets h f1 h138 hA.1 (fun r p q t => by rw [f3 r q t]; exact q1 r p) (fun i p => by rw [f3 188 (by omega) (by omega)]; exact q2 i p) g3.1 s3, _, by rw [x1], rfl, by omega⟩
theorem op_fewest (hG : Shp G) (h : GR cA cB) : OP G (d + 50) 140 227 [] cA cB := by
  have hR := h.1.1
  have hI := h.1.2.1
  have hr := h.2.1.1
  have hL := h.2.2.1
  obtain ⟨-, -, -, z1, z2, z3, z4⟩ := h.2.2.2.2.2.2.2.1
  refine b140_0 hG ?_
  refine c_mostGroups hG hR hI hr hL ⟨z1, z2⟩ (fun c1 m sg f1 em he hA h138 => ?_)
  refine b140_7 hG (em) ?_
  refine ⟨c1, rfl, fun r hr => f1 r (by omega) (by omega) (by omega) (by omega), ?_⟩
  obtain ⟨q1, q2⟩ := thr_e0 (c := cB)
  refine b227_0 hG ?_
  generalize hc1 : q_up cB 188 0 0 = c2 at q1 q2 ⊢
  have e190 := q1 190 (by omega)
  refine r_withNet hG (by rw [e190]; exact hI) ?_
  rw [e190]
  obtain ⟨w1, w2, -⟩ := wn_b (S := cB 190) (n := 8) (by omega)
  have h8 := bx5 (n := 8) (by omega)
  refine b227_9 hG ?_
  refine r_bits hG ⟨w1, by omega⟩ ?_
  refine b227_14 hG TM_eqo ?_
  refine r_groupsAll hG (by rw [e190]; exact hI) ⟨w1, by omega⟩ (by rw [q1 200 (by omega), q1 201 (by omega)]; exact ⟨z3, z4⟩) (fun c3 f3 g3 s3 => ?_)
  rw [e190] at g3
  obtain ⟨x1, x2, x3, x4, x5, x6, x7, x8⟩ := grp_same hR hI he hA g3
  refine b227_19 hG ?_
  refine ⟨c3, rfl, GR_nets h f1 h138 hA.1 (fun r p q t => by rw [f3 r q t]; exact q1 r p) (fun i p => by rw [f3 188 (by omega) (by omega)]; exact q2 i p) g3.1 s3, _, by rw [x1], by rw [x2], by omega⟩
end SPGv
