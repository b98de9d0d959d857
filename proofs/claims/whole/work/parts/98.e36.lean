section SPbs
variable {d d1 d2 r n0 : Nat} {G : GG} {c c' cA cB cA0 cB0 cA' cB' c0 : CC} {Q : Option AV → HH → Prop} {v v1 v2 N k m u x y z s had lives : Int} {S S' S0 : SS} {R : Int → Int}
def LnF (c : CC) (R : Int → Int) (S : SS) (i : Int) : Prop := (c 121 i = 7 ∧ R (3 * i) = 0 ∧ c 122 i = R (3 * i + 1) ∧ c 123 i = R (3 * i + 2) ∧ (0 ≤ R (3 * i + 1) ∧ R (3 * i + 1) < S 1) ∧ 0 ≤ R (3 * i + 2) ∧ R (3 * i + 2) < S 0) ∨ (((c 121 i = 8 ∧ R (3 * i) = 1) ∨ (c 121 i = 9 ∧ R (3 * i) = 2)) ∧ c 123 i = R (3 * i + 1) ∧ 1 ≤ R (3 * i + 1) ∧ R (3 * i + 1) ≤ 60)
theorem LnF_ok {i : Int} (h : LnF c R S i) : BkOk R S i := by
  rcases h with ⟨-, h1, -, -, h2⟩ | ⟨h1, -, h2⟩
  · exact Or.inl ⟨h1, h2⟩
  · exact Or.inr ⟨by omega, h2⟩
theorem LnF_sm {i : Int} (h : LnF c R S i) (hs : SmR S S') (e1 : c' 121 = c 121) (e2 : c' 122 = c 122) (e3 : c' 123 = c 123) : LnF c' R S' i := by
  unfold LnF
  rw [hs 0 (by omega), hs 1 (by omega), e1, e2, e3]
  exact h
theorem bkS_T {i : Int} (h : bkW R i S = 0) : bkS R i S = bkT R i S := if_pos h
theorem bkS_n {i : Int} (h : ¬ bkW R i S = 0) : bkS R i S = S := if_neg h
theorem c_runL (hG : Shp G) (hm : 0 ≤ m ∧ m ≤ 30) (hz : ∀ c' (p : Int × Int × SS), p = bkN R m.toNat 0 S0 → (∀ r, ¬ (35 ≤ r ∧ r ≤ 42) → ¬ r = 120 → c' r = c0 r) → (∀ i, i < 6 → c' 120 i = c0 120 i) → c' 120 6 = 1 → c' 120 7 = p.1 → c' 120 8 = p.2.1 → c' 120 9 = p.2.2 169 - had → c' 120 10 = allF p.2.2 → LR c' 35 p.2.2 → Q none (G, c')) : ∀ (n : Nat) (i : Int) (c : CC) (S : SS), i + n = m → 0 ≤ i → GS S → RR c 9 S → LR c 35 S → (∀ j, i ≤ j → j < m → LnF c R S j) → bkN R m.toNat 0 S0 = bkN R n i S → (∀ r, ¬ (35 ≤ r ∧ r ≤ 42) → ¬ r = 120 → c r = c0 r) → (∀ i, i < 6 → c 120 i = c0 120 i) → c 120 2 = m → c 120 6 = 1 → c 120 7 = 0 → c 120 8 = i → T (d + 8) 10 22 [some (aR 120), some (aR 35), some (aI had), some (aI i)] [] (G, c) (QM Q) := by
  have fin : ∀ (c : CC) (S : SS) (w i : Int), bkN R m.toNat 0 S0 = (w, i, S) → LR c 35 S → (∀ r, ¬ (35 ≤ r ∧ r ≤ 42) → ¬ r = 120 → c r = c0 r) → (∀ i, i < 6 → c 120 i = c0 120 i) → c 120 6 = 1 → c 120 7 = w → c 120 8 = i → c 120 9 = S 169 - had → TM (d + 7) 24 [aR 35] (G, c) (fun r h' => T (d + 8) 10 87 [none, none, none, none] (r.toList ++ [aR 120]) h' (QM Q)) := by
    intro c S w i e hL f1 f2 g1 g2 g3 g4
    refine c_allDebts hG lf35 hL ?_
    refine b10_87 hG ?_
    refine hz _ (w, i, S) e.symm (fun r h1 h2 => (up_r h2).trans (f1 r h1 h2)) (fun i h1 => (up_n (by omega)).trans (f2 i h1)) ((up_n (by omega)).trans g1) ((up_n (by omega)).trans g2) ((up_n (by omega)).trans g3) ((up_n (by omega)).trans g4) up_e (LR_fr hL (fun r p q => up_r (by omega)))
  intro n
  induction n with
  | zero =>
    intro i c S g1 g2 hS hr hL hl hb f1 f2 e2 e6 e7 e8
    have e169 : c 35 2 = S 169 := hL.1.1.2.1
    have fi := fin (q_up c 120 9 (S 169 - had)) S 0 i hb (LR_fr hL (fun r p q => up_r (by omega))) (fun r h1 h2 => (up_r h2).trans (f1 r h1 h2)) (fun i h1 => (up_n (by omega)).trans (f2 i h1)) ((up_n (by omega)).trans e6) ((up_n (by omega)).trans e7) ((up_n (by omega)).trans e8) up_e
    refine b10_22 hG (lf35) TM_eqo (e2) (by intros; omega) (by intros; omega) (e169) ?_ (e169) ?_ ?_
    · intro q; exact fi
    · intro q; omega
    · intro q; omega
  | succ n ih =>
    intro i c S g1 g2 hS hr hL hl hb f1 f2 e2 e6 e7 e8
    have e169 : c 35 2 = S 169 := hL.1.1.2.1
    have wb := bkW_b (R := R) (i := i) (S := S)
    have hli := hl i (by omega) (by omega)
    refine b10_22 hG (lf35) TM_eqo (e2) (by intros; omega) (by intros; omega) (e169) ?_ (e169) ?_ ?_
    · intro q; omega
    · intro q q2; omega
    · intro q q2
      refine c_runLine hG hS hr hL ⟨g2, by omega⟩ hli (fun c1 f3 l1 => ?_)
      have r120 : c1 120 = c 120 := f3 120 (by omega)
      by_cases hw : bkW R i S = 0
      · rw [bkS_T hw] at l1
        rw [hw]
        obtain ⟨s1, s2⟩ := bk_GS hS (LnF_ok hli) hw
        have e8' : (q_up c1 120 7 0) 120 8 = i := by rw [up_n (by omega), r120]; exact e8
        refine b10_43 hG (lf35) TM_eqo (up_e) (by intros; omega) (e8') ?_ (up_n (by omega)) ?_
        · intro q3
          refine ih (i + 1) _ (bkT R i S) (by omega) (by omega) s1 ?_ (LR_fr l1 (fun r p q => by rw [up_r (by omega), up_r (by omega)])) (fun j h1 h2 => LnF_sm (hl j (by omega) h2) s2 (by rw [up_r (by omega), up_r (by omega), f3 121 (by omega)]) (by rw [up_r (by omega), up_r (by omega), f3 122 (by omega)]) (by rw [up_r (by omega), up_r (by omega), f3 123 (by omega)])) ?_ (fun r h1 h2 => by rw [up_r h2, up_r h2, f3 r (by omega), f1 r h1 h2]) (fun i h1 => by rw [up_n (by omega), up_n (by omega), r120]; exact f2 i h1) ?_ ?_ ?_ up_e
          · exact RR_S (RR_fr hr (fun r p q => by rw [up_r (by omega), up_r (by omega), f3 r (by omega)])) s2 (by have := hS.1.1; omega)
          · rw [hb]
            show (if bkW R i S = 0 then _ else _) = _
            rw [if_pos hw]
          · rw [up_n (by omega), up_n (by omega), r120]; exact e2
          · rw [up_n (by omega), up_n (by omega), r120]; exact e6
          · rw [up_n (by omega), up_e]
        · intro q3; exact absurd rfl q3
      · rw [bkS_n hw] at l1
        have e3 : (q_up c1 120 7 (bkW R i S)) 35 2 = S 169 := by rw [up_n (by omega)]; exact l1.1.1.2.1
        refine b10_43 hG (lf35) TM_eqo (up_e) (by intros; omega) (up_n (by omega)) ?_ (e3) ?_
        · intro q3; exact absurd q3 hw
        · intro q3
          refine fin _ S (bkW R i S) i ?_ (LR_fr l1 (fun r p q => by rw [up_r (by omega), up_r (by omega)])) (fun r h1 h2 => by rw [up_r h2, up_r h2, f3 r (by omega), f1 r h1 h2]) (fun i h1 => by rw [up_n (by omega), up_n (by omega), r120]; exact f2 i h1) ?_ ?_ ?_ up_e
          · rw [hb]
            show (if bkW R i S = 0 then _ else _) = _
            rw [if_neg hw]
          · rw [up_n (by omega), up_n (by omega), r120]; exact e6
          · rw [up_n (by omega), up_e]
          · rw [up_n (by omega), up_n (by omega), r120]; exact e8
theorem c_runOn (hG : Shp G) (hm : 0 ≤ m ∧ m ≤ 30) (hS : GS S) (hr : RR c 9 S) (hL : LR c 35 S) (e2 : c 120 2 = m) (hl : ∀ i, 0 ≤ i → i < m → LnF c R S i) (hz : ∀ c' (p : Int × Int × SS), p = bkN R m.toNat 0 S → (∀ r, ¬ (35 ≤ r ∧ r ≤ 42) → ¬ r = 120 → c' r = c r) → (∀ i, i < 6 → c' 120 i = c 120 i) → c' 120 6 = 1 → c' 120 7 = p.1 → c' 120 8 = p.2.1 → c' 120 9 = p.2.2 169 - S 169 → c' 120 10 = allF p.2.2 → LR c' 35 p.2.2 → Q none (G, c')) : TM (d + 8) 10 [aR 120, aR 35] (G, c) Q := by
  have e169 : c 35 2 = S 169 := hL.1.1.2.1
  refine b10_0 hG (lf35) (e169) ?_
  refine c_runL hG hm hz m.toNat 0 _ S (by omega) (by omega) hS (RR_fr hr (fun r p q => by rw [up_r (by omega), up_r (by omega), up_r (by omega)])) (LR_fr hL (fun r p q => by rw [up_r (by omega), up_r (by omega), up_r (by omega)])) (fun j h1 h2 => LnF_sm (hl j h1 h2) (SmR_refl S) (by rw [up_r (by omega), up_r (by omega), up_r (by omega)]) (by rw [up_r (by omega), up_r (by omega), up_r (by omega)]) (by rw [up_r (by omega), up_r (by omega), up_r (by omega)])) rfl (fun r h1 h2 => by rw [up_r h2, up_r h2, up_r h2]) (fun i h1 => by rw [up_n (by omega), up_n (by omega), up_n (by omega)]) ?_ ?_ ?_ up_e
  · rw [up_n (by omega), up_n (by omega), up_n (by omega)]; exact e2
  · rw [up_n (by omega), up_n (by omega), up_e]
  · rw [up_n (by omega), up_e]
theorem r_runL (hG : Shp G) (hm : 0 ≤ m ∧ m ≤ 30) (hR : c0 192 = R) (e36 : c0 188 36 = m) (hz : ∀ c' (p : Int × Int × SS), p = bkN R m.toNat 0 S0 → (∀ r, ¬ r = 190 → ¬ r = 205 → c' r = c0 r) → c' 190 = p.2.2 → c' 205 0 = p.1 → c' 205 1 = p.2.1 → c' 205 2 = p.2.2 169 - had → T (d + 8) 250 204 [some (aR 188), some (aI lives), none, some (aI (if p.1 = 0 then -1 else p.2.1)), none] [aI (allF p.2.2), aI 3, aR 205] (G, c') (QM Q)) : ∀ (n : Nat) (i : Int) (c : CC), i + n = m → 0 ≤ i → GS (c 190) → (∀ j, i ≤ j → j < m → BkOk R (c 190) j) → bkN R m.toNat 0 S0 = bkN R n i (c 190) → (∀ r, ¬ r = 190 → ¬ r = 205 → c r = c0 r) → c 205 0 = 0 → c 205 1 = i → T (d + 8) 250 121 [some (aR 188), some (aI lives), some (aI had), some (aI (-1)), some (aI i)] [] (G, c) (QM Q) := by
  have fin : ∀ (c : CC) (w i x : Int), x = (if w = 0 then -1 else i) → bkN R m.toNat 0 S0 = (w, i, c 190) → (∀ r, ¬ r = 190 → ¬ r = 205 → c r = c0 r) → c 205 0 = w → c 205 1 = i → TM (d + 7) 196 [aR 188] (G, q_up c 205 2 (c 190 169 - had)) (fun r h' => T (d + 8) 250 204 [some (aR 188), some (aI lives), none, some (aI x), none] (r.toList ++ [aI 3, aR 205]) h' (QM Q)) := by
    intro c w i x hx e f1 g1 g2
    refine r_all hG ?_
    rw [hx]
    have e190 : (q_up c 205 2 (c 190 169 - had)) 190 = c 190 := up_r (by omega)
    have h := hz (q_up c 205 2 (c 190 169 - had)) (w, i, c 190) e.symm (fun r h1 h2 => (up_r h2).trans (f1 r h1 h2)) e190 ((up_n (by omega)).trans g1) ((up_n (by omega)).trans g2) up_e
    rw [e190]
    exact h
  intro n
  induction n with
  | zero =>
    intro i c g1 g2 hS hl hb f1 e0 e1
    have e36' : c 188 36 = m := by rw [f1 188 (by omega) (by omega)]; exact e36
    have fi := fin c 0 i (-1) (by rw [if_pos rfl]) hb f1 e0 e1
    refine b250_121 hG TM_eqo (e36') (by intros; omega) (by intros; omega) rfl ?_ (by intros; omega) rfl ?_ ?_
    · intro q; exact fi
    · intro q; omega
    · intro q; omega
  | succ n ih =>
    intro i c g1 g2 hS hl hb f1 e0 e1
    have e36' : c 188 36 = m := by rw [f1 188 (by omega) (by omega)]; exact e36
    have e192 : c 192 = R := by rw [f1 192 (by omega) (by omega)]; exact hR
    have hli := hl i (by omega) (by omega)
    have wb := bkW_b (R := R) (i := i) (S := c 190)
    refine b250_121 hG TM_eqo (e36') (by intros; omega) (by intros; omega) rfl ?_ (by intros; omega) rfl ?_ ?_
    · intro q; omega
    · intro q q2; omega
    · intro q q2
      refine r_does hG hS ⟨g2, by omega⟩ (by rw [e192]; exact hli) ?_
      rw [e192]
      by_cases hw : bkW R i (c 190) = 0
      · rw [bkS_T hw, hw]
        obtain ⟨s1, s2⟩ := bk_GS hS hli hw
        have hb2 : bkN R m.toNat 0 S0 = bkN R n (i + 1) (bkT R i (c 190)) := by
          rw [hb]
          show (if bkW R i (c 190) = 0 then _ else _) = _
          rw [if_pos hw]
        clear hb
        generalize bkT R i (c 190) = S1 at *
        have x1 : (q_up (q_uf c 190 S1) 205 0 0) 205 1 = i := by rw [up_n (by omega), uf_n2 (by omega)]; exact e1
        refine b250_147 hG (by intros; omega) (by intros; omega) (up_e) (by intros; omega) (x1) ?_ ?_
        · intro q3
          have e190 : (q_up (q_up (q_uf c 190 S1) 205 0 0) 205 1 (i + 1)) 190 = S1 := by rw [up_r (by omega), up_r (by omega), uf_e]
          refine ih (i + 1) _ (by omega) (by omega) (by rw [e190]; exact s1) (fun j h1 h2 => by rw [e190]; exact BkOk_sm (hl j (by omega) h2) s2) ?_ (fun r h1 h2 => by rw [up_r h2, up_r h2, uf_n h1, f1 r h1 h2]) ?_ up_e
          · rw [hb2, e190]
          · rw [up_n (by omega), up_e]
        · intro q3; omega
      · rw [bkS_n hw, uf_id]
        refine b250_147 hG (by intros; omega) (by intros; omega) (up_e) (by intros; omega) (up_n (by omega)) ?_ ?_
        · intro q3; omega
        · intro q3
          have e190 : (q_up c 205 0 (bkW R i (c 190))) 190 = c 190 := up_r (by omega)
          have e36'' : (q_up c 205 0 (bkW R i (c 190))) 188 36 = m := (up_n (by omega)).trans e36'
          have fi := fin (q_up c 205 0 (bkW R i (c 190))) (bkW R i (c 190)) i i (by rw [if_neg hw]) (by
            rw [hb, e190]
            show (if bkW R i (c 190) = 0 then _ else _) = _
            rw [if_neg hw]) (fun r h1 h2 => (up_r h2).trans (f1 r h1 h2)) up_e ((up_n (by omega)).trans e1)
          refine b250_121 hG TM_eqo (e36'') (by intros; omega) (by intros; omega) rfl ?_ (by intros; omega) rfl ?_ ?_
          · intro q4; exact fi
          · intro q4 q5; exact fi
          · intro q4 q5; omega
end SPbs
