section SPsb
variable {d : Nat} {G : GG} {c c' cA cB cA' cB' : CC} {Q : Option AV → HH → Prop} {v1 v2 v3 v4 n i j k m v s : Int} {S : SS}
theorem c_compares (hG : Shp G) (h0 : 0 ≤ v2 ∧ v2 < 40) {s0 m : Int} (e1 : c 45 v2 = s0) (e2 : c 46 v2 = m) (hs : 60 ≤ s0 ∧ s0 ≤ 62) (hm : 0 ≤ m ∧ m ≤ 999) (hv : I32 v1) (hz : Q (some (aI (cmpV s0 m v1))) (G, c)) : TM d 92 [aR 43, aI v1, aI v2] (G, c) Q := by
  have h_a := se43
  have e1' : c (43 + 2) v2 = s0 := e1
  have e2' : c (43 + 3) v2 = m := e2
  unfold cmpV at hz
  refine b92_0 hG h_a (by intros; omega) (by intros; omega) (e1') (by intros; omega) (e1') (by intros; omega) (e2') (by intros; omega) (by intros; omega) ?_ ?_ (e2') (by intros; omega) (by intros; omega) ?_ ?_ (e2') (by intros; omega) (by intros; omega) ?_ ?_
  · intro p1 p2 p3; rw [if_neg p1, if_pos (by omega), if_neg (by omega)] at hz; exact hz
  · intro p1 p2 p3; rw [if_neg p1, if_pos (by omega), if_pos (by omega)] at hz; exact hz
  · intro p1 p2 p3; rw [if_neg p1, if_neg (by omega), if_neg (by omega)] at hz; exact hz
  · intro p1 p2 p3; rw [if_neg p1, if_neg (by omega), if_pos (by omega)] at hz; exact hz
  · intro p1 p2; rw [if_pos p1, if_neg (by omega)] at hz; exact hz
  · intro p1 p2; rw [if_pos p1, if_pos (by omega)] at hz; exact hz
theorem c_holds (hG : Shp G) (hS : GS S) (hr : RR c 9 S) (hL : LR c 27 S) (h0 : 0 ≤ v1 ∧ v1 < 40) (h1 : 0 ≤ v3 ∧ v3 < S 1) {w s0 m : Int} (hc : CdR S (c 44 v1) (c 45 v1) (c 46 v1) w s0 m) (hw : w ≤ 7) (hz : Q (some (aI (lfV S v3 w s0 m))) (G, c)) : TM (d + 2) 91 [aR 43, aI v1, aR 27, aI v3] (G, c) Q := by
  have hR := hS.1
  have hI := hS.2.1
  have g := hR.1
  have h_a := se43
  have h_b := lf27
  have hi := hI.1 v3 h1.1 (by omega)
  have hb := hS.2.2.1.2.2.1 v3 h1.1 (by omega)
  have h9 := hS.2.2.2
  obtain ⟨l1, l2, l3, l4⟩ := hL.1.2.1 v3 h1.1 (by omega)
  have c01 : ∀ v, cmpV s0 m v = 0 ∨ cmpV s0 m v = 1 := fun v => cmpV_01
  unfold CdR at hc
  unfold lfV at hz
  have x1e : c (43 + 1) v1 = c 44 v1 := rfl
  have x3e : c (43 + 3) v1 = c 46 v1 := rfl
  refine b91_0 hG h_a h_b TM_eqo (by intros; omega) (by intros; omega) (x1e) (by intros; omega) ?_ (by intros; omega) (by intros; omega) rfl (x3e) (by intros; omega) (by intros; omega) ?_ ?_ ?_ ?_ ?_ ?_ ?_ (by intros; omega) (by intros; omega) rfl (by intros; omega) ?_ ?_ (x3e) ?_ ?_ ?_ (by intros; omega) (by intros; omega) rfl ?_ (by intros; omega) (by intros; omega) rfl ?_ ?_
  · intro p1; omega
  · intro p1 p2
    rw [if_neg (show ¬ w = 0 by omega), if_pos (show w = 1 by omega), if_neg (by omega)] at hz; exact hz
  · intro p1 p2
    rw [if_neg (show ¬ w = 0 by omega), if_pos (show w = 1 by omega), if_pos (by omega)] at hz; exact hz
  · intro p1; omega
  · intro p1; omega
  · intro p1; omega
  · intro p1; omega
  · intro p1; omega
  · intro p1 p2
    rw [if_pos (show w = 0 by omega), if_neg (by omega)] at hz; exact hz
  · intro p1 p2
    rw [if_pos (show w = 0 by omega), if_pos (by omega)] at hz; exact hz
  · intro p1
    rw [if_neg (show ¬ w = 0 by omega), if_neg (show ¬ w = 1 by omega), if_pos (show w = 2 by omega)] at hz
    have hm : 0 ≤ m ∧ m < 8 := by omega
    have em : c 46 v1 = m := by omega
    have hd := hL.1.2.2.1 (v3 * 8 + m) (by omega) (by omega)
    rw [show 205 + (v3 * 8 + m) = 205 + 8 * v3 + m by omega] at hd
    have dd := d_at hI (x := v3) (y := m) h1.1 (by omega) hm.1 hm.2
    rw [em]
    refine c_soulPair hG ?_
    refine b91_123 hG h_b (by intros; omega) (by intros; omega) rfl (by intros; omega) ?_ ?_
    · intro p2; rw [if_neg (by omega)] at hz; exact hz
    · intro p2; rw [if_pos (by omega)] at hz; exact hz
  · intro p1
    rw [if_neg (show ¬ w = 0 by omega), if_neg (show ¬ w = 1 by omega), if_neg (show ¬ w = 2 by omega), if_pos (show w = 3 by omega)] at hz
    have := dbt_b hI h1.1 (show v3 < 8 by omega)
    refine c_owesInAll hG lf27 hR hI hr hL h1.1 (by omega) ?_
    refine b91_139 hG h_a TM_eqo ?_
    refine c_compares hG h0 (s0 := s0) (m := m) (by omega) (by omega) (by omega) (by omega) (by omega) ?_
    have c02 := c01 (dbtF S v3)
    refine b91_143 hG (by intros; omega) ?_
    exact hz
  · intro p1
    rw [if_neg (show ¬ w = 0 by omega), if_neg (show ¬ w = 1 by omega), if_neg (show ¬ w = 2 by omega), if_neg (show ¬ w = 3 by omega), if_pos (show w = 4 by omega)] at hz
    have := due_b hI h1.1 (show v3 < 8 by omega)
    refine c_owedInAll hG lf27 hR hI hr hL h1.1 (by omega) ?_
    refine b91_150 hG h_a TM_eqo ?_
    refine c_compares hG h0 (s0 := s0) (m := m) (by omega) (by omega) (by omega) (by omega) (by omega) ?_
    have c02 := c01 (dueF S v3)
    refine b91_154 hG (by intros; omega) ?_
    exact hz
  · intro p1
    rw [if_neg (show ¬ w = 0 by omega), if_neg (show ¬ w = 1 by omega), if_neg (show ¬ w = 2 by omega), if_neg (show ¬ w = 3 by omega), if_neg (show ¬ w = 4 by omega), if_pos (show w = 5 by omega)] at hz
    rw [l3]
    refine c_compares hG h0 (s0 := s0) (m := m) (by omega) (by omega) (by omega) (by omega) (by omega) ?_
    have c02 := c01 (S (189 + v3))
    refine b91_166 hG (by intros; omega) ?_
    exact hz
  · intro p1
    rw [if_neg (show ¬ w = 0 by omega), if_neg (show ¬ w = 1 by omega), if_neg (show ¬ w = 2 by omega), if_neg (show ¬ w = 3 by omega), if_neg (show ¬ w = 4 by omega), if_neg (show ¬ w = 5 by omega), if_pos (show w = 6 by omega)] at hz
    rw [l2]
    refine c_compares hG h0 (s0 := s0) (m := m) (by omega) (by omega) (by omega) (by omega) (by omega) ?_
    have c02 := c01 (S (181 + v3))
    refine b91_178 hG (by intros; omega) ?_
    exact hz
  · intro p1
    rw [if_neg (show ¬ w = 0 by omega), if_neg (show ¬ w = 1 by omega), if_neg (show ¬ w = 2 by omega), if_neg (show ¬ w = 3 by omega), if_neg (show ¬ w = 4 by omega), if_neg (show ¬ w = 5 by omega), if_neg (show ¬ w = 6 by omega)] at hz
    refine c_compares hG h0 (s0 := s0) (m := m) (by omega) (by omega) (by omega) (by omega) (by omega) ?_
    have c02 := c01 v3
    refine b91_185 hG (by intros; omega) ?_
    exact hz
theorem c_soulsByStep (hG : Shp G) (hS : GS S) (hr : RR c 9 S) (hL : LR c 27 S) (h0 : 0 ≤ v1 ∧ v1 < 40) {w s0 m : Int} (hc : CdR S (c 44 v1) (c 45 v1) (c 46 v1) w s0 m) (hw : w ≤ 7) (hz : Q (some (aI (orF (fun s => lfV S s w s0 m) (S 1)))) (G, c)) : TM (d + 3) 90 [aR 43, aI v1, aR 27] (G, c) Q := by
  have g := hS.1.1
  have h_a := se43
  have h_b := lf27
  have e1 := hr.1.2.1
  refine b90_0 hG h_a h_b ?_
  have key : ∀ s, 0 ≤ s → s ≤ S 1 → T (d + 3) 90 5 [some (aR 43), some (aI v1), some (aR 27), some (aI (orF (fun s => lfV S s w s0 m) s)), some (aI s)] [] (G, c) (QM Q) := by
    refine int_ind ?_ ?_
    · refine b90_5 hG h_a h_b rfl (by intros; omega) (by intros; omega) ?_ ?_
      · intro p; exact hz
      · intro p; omega
    · intro s h1 h2 ih
      rw [show orF (fun s => lfV S s w s0 m) (s + 1) = if lfV S s w s0 m = 0 then orF (fun s => lfV S s w s0 m) s else q_or (orF (fun s => lfV S s w s0 m) s) (q_shl 1 s) from loopI_s h1] at ih
      have l01 := lfV_01 (S := S) (s := s) (w := w) (s0 := s0) (m := m)
      refine b90_5 hG h_a h_b rfl (by intros; omega) (by intros; omega) ?_ ?_
      · intro p; omega
      · intro p
        refine c_holds hG hS hr hL h0 ⟨h1, by omega⟩ hc hw ?_
        refine b90_25 hG h_a h_b (by intros; omega) ?_ ?_
        · intro p2; rw [if_pos p2] at ih; exact ih
        · intro p2; rw [if_neg p2] at ih; exact ih
  exact key 0 (by omega) (by omega)
theorem c_soulsSaid (hG : Shp G) (hS : GS S) (hr : RR c 9 S) (hL : LR c 27 S) (hn : SnR c 43 S) (ht : c 43 7 = 1) (hz : ∀ c' v, (∀ r, ¬ r = 47 → c' r = c r) → 0 ≤ v ∧ v < 256 → (∀ s, 0 ≤ s → s < 8 → bt v s = if s < S 1 then (trF S s (S 333)).2 0 else 0) → Q (some (aI v)) (G, c')) : TM (d + 4) 89 [aR 43, aR 27] (G, c) Q := by
  have g := hS.1.1
  have h_a := se43
  have h_b := lf27
  have hw := SnR_w hn ht
  obtain ⟨g1, g2, g3, g4, dp, hd⟩ := hn.2.2 ht
  have h5 := bx5 (n := S 1) (by omega)
  refine b89_0 hG h_a h_b rfl ?_
  rw [hr.1.2.1]
  have key : ∀ i, 0 ≤ i → i ≤ S 333 → ∀ c2 : CC, (∀ r, ¬ r = 47 → c2 r = c r) → (∀ j, 0 ≤ j → j < dp i → (0 ≤ c2 47 j ∧ c2 47 j < 256) ∧ ∀ s, 0 ≤ s → s < 8 → bt (c2 47 j) s = if s < S 1 then (trF S s i).2 j else 0) → T (d + 4) 89 17 [some (aR 43), some (aR 27), some (aI (q_shl 1 (S 1) - 1)), some (aI (dp i)), some (aI i)] [] (G, c2) (QM Q) := by
    refine int_ind ?_ ?_
    · intro c2 fr hrw
      have e6 : c2 43 6 = S 333 := by rw [fr 43 (by omega)]; exact g1
      have hdS := hd.2.1
      obtain ⟨r1, r2⟩ := hrw 0 (by omega) (by omega)
      refine b89_17 hG h_a h_b TM_eqo (e6) (by intros; omega) (by intros; omega) ?_ ?_ (by intros; omega) (by intros; omega) rfl (by intros; omega) ?_ (by intros; omega) ?_ (by intros; omega) (by intros; omega) rfl ?_
      · intro p
        refine b89_180 hG h_a rfl ?_
        exact hz c2 _ fr r1 r2
      · intro p; omega
      · intro p; omega
      · intro p; omega
      · intro p; omega
    · intro i h1 h2 ih c2 fr hrw
      have e6 : c2 43 6 = S 333 := by rw [fr 43 (by omega)]; exact g1
      have hdb := dp_b hw hd i h1 (by omega)
      obtain ⟨w1, w2, w3, w4⟩ := hw i h1 h2
      have hdi := hd.2.2 i h1 h2
      have hcd := g4 i h1 h2
      have tinv := fun s => tr_inv (s := s) hw hd i h1 (by omega)
      have es : ∀ s, trF S s (i + 1) = tst S s i (trF S s i) := fun s => loopI_s h1
      have hcd2 : CdR S (c2 44 i) (c2 45 i) (c2 46 i) (S (334 + 3 * i)) (S (335 + 3 * i)) (S (336 + 3 * i)) := by rw [fr 44 (by omega), fr 45 (by omega), fr 46 (by omega)]; exact hcd
      have hcd3 := hcd2
      unfold CdR at hcd3
      have go : ∀ (c3 : CC) (n : Int), n = dp (i + 1) → (∀ r, ¬ r = 47 → c3 r = c2 r) → (∀ j, 0 ≤ j → j < n → (0 ≤ c3 47 j ∧ c3 47 j < 256) ∧ ∀ s, 0 ≤ s → s < 8 → bt (c3 47 j) s = if s < S 1 then (trF S s (i + 1)).2 j else 0) → T (d + 4) 89 174 [some (aR 43), some (aR 27), some (aI (q_shl 1 (S 1) - 1)), some (aI n), some (aI i)] [] (G, c3) (QM Q) := by
        intro c3 n hn f4 h4
        refine b89_174 hG h_a h_b ?_
        rw [hn] at h4 ⊢
        exact ih c3 (fun r p => by rw [f4 r p]; exact fr r p) h4
      have row : ∀ (a b n : Int), (n ≤ dp i ∨ (n = dp i + 1 ∧ a = dp i)) → (0 ≤ b ∧ b < 256) → (∀ s, 0 ≤ s → s < 8 → bt b s = if s < S 1 then (trF S s (i + 1)).2 a else 0) → (∀ s j, 0 ≤ j → j < n → ¬ j = a → (trF S s (i + 1)).2 j = (trF S s i).2 j) → ∀ j, 0 ≤ j → j < n → (0 ≤ (q_up c2 47 a b) 47 j ∧ (q_up c2 47 a b) 47 j < 256) ∧ ∀ s, 0 ≤ s → s < 8 → bt ((q_up c2 47 a b) 47 j) s = if s < S 1 then (trF S s (i + 1)).2 j else 0 := by
        intro a b n hn hb h3 h4 j p q
        by_cases e : j = a
        · rw [e, up_e]; exact ⟨hb, h3⟩
        · rw [up_n (by omega)]
          obtain ⟨q1, q2⟩ := hrw j p (by omega)
          exact ⟨q1, fun s s0 s1 => by rw [q2 s s0 s1, h4 s j p q e]⟩
      have kE : c2 (43 + 1) i = c2 44 i := rfl
      have all1 : ∀ s, 0 ≤ s → s < 8 → bt (q_shl 1 (S 1) - 1) s = if s < S 1 then 1 else 0 := h5.2.2
      have leaf : ¬ S (334 + 3 * i) = 20 → ¬ S (334 + 3 * i) = 21 → ¬ S (334 + 3 * i) = 22 → TM (d + 3) 90 [aR 43, aI i, aR 27] (G, c2) (fun r h' => T (d + 4) 89 170 [some (aR 43), some (aR 27), some (aI (q_shl 1 (S 1) - 1)), some (aI (dp i)), some (aI i)] (r.toList ++ [aI (dp i), aR (43 + 4)]) h' (QM Q)) := by
        intro n0 n1 n2
        obtain ⟨q1, q2⟩ := hdi.1 (by omega)
        refine c_soulsByStep hG hS (RR_fr hr (fun r p q => fr r (by omega))) (LR_fr hL (fun r p q => fr r (by omega))) ⟨h1, by omega⟩ hcd2 (by omega) ?_
        obtain ⟨o1, o2, o3⟩ := orF_b (f := fun s => lfV S s (S (334 + 3 * i)) (S (335 + 3 * i)) (S (336 + 3 * i))) (n := S 1) (fun j _ _ => lfV_01) (by omega)
        refine b89_170 hG h_a h_b (by intros; omega) (by intros; omega) ?_
        refine go _ _ (by omega) (fun r p => up_r p) (row (dp i) _ (dp i + 1) (by omega) ⟨o1, by omega⟩ (fun s s0 s1 => ?_) (fun s j p q e => ?_))
        · rw [o3 s s0 s1, es s]
          unfold tst
          rw [if_neg n0, if_neg n1, if_neg n2, (tinv s).1]
          show _ = if s < S 1 then q_u1 (trF S s i).2 (dp i) (lfV S s (S (334 + 3 * i)) (S (335 + 3 * i)) (S (336 + 3 * i))) (dp i) else 0
          rw [u1_e]
        · rw [es s]
          unfold tst
          rw [if_neg n0, if_neg n1, if_neg n2, (tinv s).1]
          exact u1_n e
      have e1a : c2 (43 + 4) (dp i + -1 - 1) = c2 47 (dp i - 2) := by rw [show dp i + -1 - 1 = dp i - 2 by omega]
      have e1b : c2 (43 + 4) (dp i + -1) = c2 47 (dp i - 1) := by rw [show dp i + -1 = dp i - 1 by omega]
      have two : ∀ b, 20 < S (334 + 3 * i) → (0 ≤ b ∧ b < 256) → (∀ s, 0 ≤ s → s < 8 → bt b s = if s < S 1 then (trF S s (i + 1)).2 (dp i - 2) else 0) → T (d + 4) 89 174 [some (aR 43), some (aR 27), some (aI (q_shl 1 (S 1) - 1)), some (aI (dp i + -1)), some (aI i)] [] (G, q_up c2 (43 + 4) (dp i + -1 - 1) b) (QM Q) := by
        intro b hh hb h3
        obtain ⟨q1, q2⟩ := hdi.2.2 hh
        rw [show dp i + -1 - 1 = dp i - 2 by omega]
        refine go _ _ (by omega) (fun r p => up_r p) (row (dp i - 2) _ (dp i + -1) (by omega) hb h3 (fun s j p q e => ?_))
        rw [es s]
        unfold tst
        rw [if_neg (show ¬ S (334 + 3 * i) = 20 by omega), (tinv s).1]
        by_cases e21 : S (334 + 3 * i) = 21
        · rw [if_pos e21]; exact u1_n e
        · rw [if_neg e21, if_pos (show S (334 + 3 * i) = 22 by omega)]; exact u1_n e
      have rest : ¬ c2 44 i = 12 → T (d + 4) 89 72 [some (aR 43), some (aR 27), some (aI (q_shl 1 (S 1) - 1)), some (aI (dp i)), some (aI i)] [] (G, c2) (QM Q) := by
        intro h12
        refine b89_72 hG h_a h_b (by intros; omega) (by intros; omega) (kE) (by intros; omega) (kE) (by intros; omega) (by intros; omega) ?_ ?_ (by intros; omega) ?_ ?_ (by intros; omega) (by intros; omega) (e1a) (by intros; omega) (by intros; omega) (e1b) ?_ (by intros; omega) (kE) (by intros; omega) ?_ ?_ ?_ ?_ (by intros; omega) (by intros; omega) (e1a) (by intros; omega) (by intros; omega) (e1b) ?_ (by intros; omega) (by intros; omega) (e1a) (by intros; omega) (by intros; omega) (e1b) ?_
        · intro p1 p2 p3; omega
        · intro p1 p2 p3; exact leaf (by omega) (by omega) (by omega)
        · intro p1 p2 p3 p4; omega
        · intro p1 p2 p3 p4
          have := hdi.2.2 (by omega)
          omega
        · intro p1 p2 p3
          obtain ⟨q1, q2⟩ := hdi.2.2 (by omega)
          obtain ⟨x1, x2⟩ := hrw (dp i - 2) (by omega) (by omega)
          obtain ⟨y1, y2⟩ := hrw (dp i - 1) (by omega) (by omega)
          refine two _ (by omega) (or_le x1 y1) (fun s s0 s1 => ?_)
          rw [bt_or ⟨s0, s1⟩, x2 s s0 s1, y2 s s0 s1, es s]
          unfold tst
          rw [if_neg (show ¬ S (334 + 3 * i) = 20 by omega), if_neg (show ¬ S (334 + 3 * i) = 21 by omega), if_pos (show S (334 + 3 * i) = 22 by omega), (tinv s).1]
          show _ = if s < S 1 then q_u1 (trF S s i).2 (dp i - 2) _ (dp i - 2) else 0
          rw [u1_e]
          by_cases hs : s < S 1
          · rw [if_pos hs, if_pos hs, if_pos hs]
          · rw [if_neg hs, if_neg hs, if_neg hs, if_neg (by omega)]
        · intro p1 p2 p3 p4; omega
        · intro p1 p2 p3 p4
          have := hdi.2.2 (by omega)
          omega
        · intro p1 p2 p3; omega
        · intro p1 p2 p3; omega
        · intro p1 p2 p3; omega
        · intro p1 p2
          obtain ⟨q1, q2⟩ := hdi.2.2 (by omega)
          obtain ⟨x1, x2⟩ := hrw (dp i - 2) (by omega) (by omega)
          obtain ⟨y1, y2⟩ := hrw (dp i - 1) (by omega) (by omega)
          refine two _ (by omega) (and_le x1) (fun s s0 s1 => ?_)
          rw [bt_and ⟨s0, s1⟩, x2 s s0 s1, y2 s s0 s1, es s]
          unfold tst
          rw [if_neg (show ¬ S (334 + 3 * i) = 20 by omega), if_pos (show S (334 + 3 * i) = 21 by omega), (tinv s).1]
          show _ = if s < S 1 then q_u1 (trF S s i).2 (dp i - 2) _ (dp i - 2) else 0
          rw [u1_e]
          by_cases hs : s < S 1
          · rw [if_pos hs, if_pos hs, if_pos hs]
          · rw [if_neg hs, if_neg hs, if_neg hs, if_neg (by omega)]
      have e3 : c2 (43 + 4) (dp i - 1) = c2 47 (dp i - 1) := rfl
      refine b89_17 hG h_a h_b TM_eqo (e6) (by intros; omega) (by intros; omega) ?_ ?_ (by intros; omega) (by intros; omega) (kE) (by intros; omega) ?_ (by intros; omega) ?_ (by intros; omega) (by intros; omega) (e3) ?_
      · intro p; omega
      · intro p1 p2; omega
      · intro p1 p2 p3; exact rest p3
      · intro p1 p2 p3 p4
        have := hdi.2.1 (by omega)
        omega
      · intro p1 p2 p3 p4
        obtain ⟨q1, q2⟩ := hdi.2.1 (by omega)
        obtain ⟨x1, x2⟩ := hrw (dp i - 1) (by omega) (by omega)
        refine go _ _ (by omega) (fun r p => up_r p) (row (dp i - 1) _ (dp i) (by omega) (and_le ⟨h5.2.1, by omega⟩) (fun s s0 s1 => ?_) (fun s j p q e => ?_))
        · rw [bt_and ⟨s0, s1⟩, bt_not ⟨s0, s1⟩, all1 s s0 s1, x2 s s0 s1, es s]
          unfold tst
          rw [if_pos (show S (334 + 3 * i) = 20 by omega), (tinv s).1]
          show _ = if s < S 1 then q_u1 (trF S s i).2 (dp i - 1) (1 - (trF S s i).2 (dp i - 1)) (dp i - 1) else 0
          rw [u1_e]
          have t01 := (tinv s).2 (dp i - 1)
          by_cases hs : s < S 1
          · rw [if_pos hs, if_pos hs, if_pos hs]
            split <;> omega
          · rw [if_neg hs, if_neg hs, if_neg hs, if_neg (by omega)]
        · rw [es s]
          unfold tst
          rw [if_pos (show S (334 + 3 * i) = 20 by omega), (tinv s).1]
          exact u1_n e
  have k0 := key 0 (by omega) (by omega) c (fun _ _ => rfl) (fun j p q => by rw [hd.1] at q; omega)
  rw [hd.1] at k0
  exact k0
end SPsb
