section SPHo
variable {d : Nat} {G : GG} {c c' cA cB cA1 cB1 cA' cB' : CC} {Q : Option AV → HH → Prop} {v1 v2 n i j x s k f : Int} {S S' : SS} {a b : Int}
def canS (S : SS) (a b : Int) : Prop := ∃ x y, 0 ≤ x ∧ x < S 0 ∧ 0 ≤ y ∧ y < S 0 ∧ bt (S (51 + a)) x = 1 ∧ bt (S (51 + b)) y = 1 ∧ 0 < S (15 + 6 * x + y)
noncomputable def hop1 (S : SS) (a b : Int) : Int := @ite _ (canS S a b ∨ S (205 + 8 * a + b) = 0) (Classical.propDecidable _) 0 1
theorem hop1_0 (h : canS S a b ∨ S (205 + 8 * a + b) = 0) : hop1 S a b = 0 := if_pos h
theorem hop1_1 (h : ¬ canS S a b) (h2 : ¬ S (205 + 8 * a + b) = 0) : hop1 S a b = 1 := if_neg (fun q => q.elim h h2)
noncomputable def hopB (S : SS) (k a : Int) : Nat → Int → Int → Int ⊕ Int
  | 0, _, f => .inr f
  | n + 1, b, f => if hop1 S a b = 0 then hopB S k a n (b + 1) f else if f = k then .inl (10 * a + b) else hopB S k a n (b + 1) (f + 1)
noncomputable def hopA (S : SS) (k : Int) : Nat → Int → Int → Int ⊕ Int
  | 0, _, f => .inr f
  | n + 1, a, f => match hopB S k a (S 1).toNat 0 f with
    | .inl v => .inl v
    | .inr f' => hopA S k n (a + 1) f'
noncomputable def hopV (S : SS) (k : Int) : Int := if k < -1 then -1 else match hopA S k (S 1).toNat 0 0 with
  | .inl v => v
  | .inr f => if k = -1 then f else -1
theorem hopB_b : ∀ (n : Nat) (b f : Int), 0 ≤ a → a < 8 → 0 ≤ b → b + n ≤ 8 → 0 ≤ f → (∀ v, hopB S k a n b f = .inl v → 0 ≤ v ∧ v ≤ 80) ∧ (∀ g, hopB S k a n b f = .inr g → f ≤ g ∧ g ≤ f + n) := by
  intro n
  induction n with
  | zero =>
    intro b f _ _ _ _ _
    exact ⟨fun v h => by simp [hopB] at h, fun g h => by simp [hopB] at h; omega⟩
  | succ n ih =>
    intro b f h1 h2 h3 h4 h5
    unfold hopB
    by_cases hh : hop1 S a b = 0
    · rw [if_pos hh]
      have := ih (b + 1) f h1 h2 (by omega) (by omega) h5
      exact ⟨this.1, fun g h => by have := this.2 g h; omega⟩
    · rw [if_neg hh]
      by_cases hk : f = k
      · rw [if_pos hk]
        exact ⟨fun v h => by cases h; omega, fun g h => by cases h⟩
      · rw [if_neg hk]
        have := ih (b + 1) (f + 1) h1 h2 (by omega) (by omega) (by omega)
        exact ⟨this.1, fun g h => by have := this.2 g h; omega⟩
theorem hopA_b (hS : 0 ≤ S 1 ∧ S 1 ≤ 8) : ∀ (n : Nat) (a f : Int), 0 ≤ a → a + n ≤ 8 → 0 ≤ f → (∀ v, hopA S k n a f = .inl v → 0 ≤ v ∧ v ≤ 80) ∧ (∀ g, hopA S k n a f = .inr g → f ≤ g ∧ g ≤ f + 8 * n) := by
  intro n
  induction n with
  | zero =>
    intro a f _ _ _
    exact ⟨fun v h => by simp [hopA] at h, fun g h => by simp [hopA] at h; omega⟩
  | succ n ih =>
    intro a f h1 h2 h3
    unfold hopA
    have hb := hopB_b (S := S) (k := k) (a := a) (S 1).toNat 0 f h1 (by omega) (by omega) (by omega) h3
    cases hx : hopB S k a (S 1).toNat 0 f with
    | inl v =>
      dsimp only
      exact ⟨fun w h => by cases h; exact hb.1 v hx, fun g h => by cases h⟩
    | inr f' =>
      dsimp only
      have h4 := hb.2 f' hx
      have := ih (a + 1) f' (by omega) (by omega) (by omega)
      exact ⟨this.1, fun g h => by have := this.2 g h; omega⟩
theorem hopV_b (hS : 0 ≤ S 1 ∧ S 1 ≤ 8) : I32 (hopV S k) := by
  unfold hopV
  have hb := hopA_b (S := S) (k := k) hS (S 1).toNat 0 0 (by omega) (by omega) (by omega)
  by_cases h : k < -1
  · rw [if_pos h]; omega
  · rw [if_neg h]
    cases hx : hopA S k (S 1).toNat 0 0 with
    | inl v =>
      dsimp only
      have := hb.1 v hx
      omega
    | inr f =>
      dsimp only
      have := hb.2 f hx
      omega
theorem c_canSettle (hG : Shp G) (hR : InvR S) (hr : RR c 9 S) (h0 : 0 ≤ v1) (h1 : v1 < S 1) (h2 : 0 ≤ v2) (h3 : v2 < S 1) (hz1 : canS S v1 v2 → Q (some (aI 1)) (G, c)) (hz0 : ¬ canS S v1 v2 → Q (some (aI 0)) (G, c)) : TM (d + 1) 73 [aR 9, aI v1, aI v2] (G, c) Q := by
  have g := hR.1
  have h_a := ru9
  obtain ⟨e0, e1, e2⟩ := hr.1
  refine b73_0 hG h_a ?_
  have key : ∀ x, 0 ≤ x → x ≤ S 0 → (∀ p q, 0 ≤ p → p < x → 0 ≤ q → q < S 0 → ¬ (bt (S (51 + v1)) p = 1 ∧ bt (S (51 + v2)) q = 1 ∧ 0 < S (15 + 6 * p + q))) → T (d + 1) 73 2 [some (aR 9), some (aI v1), some (aI v2), some (aI x), none] [] (G, c) (QM Q) := by
    refine int_ind ?_ ?_
    · intro hno
      refine b73_2 hG h_a rfl (by intros; omega) (by intros; omega) ?_ ?_
      · intro p1
        exact hz0 (fun ⟨p, q, a1, a2, a3, a4, a5, a6, a7⟩ => hno p q a1 a2 a3 a4 ⟨a5, a6, a7⟩)
      · intro p1; omega
    · intro x q1 q2 ih hno
      refine b73_2 hG h_a rfl (by intros; omega) (by intros; omega) ?_ ?_
      · intro p1; omega
      · intro p1
        have key2 : ∀ y, 0 ≤ y → y ≤ S 0 → (∀ q, 0 ≤ q → q < y → ¬ (bt (S (51 + v1)) x = 1 ∧ bt (S (51 + v2)) q = 1 ∧ 0 < S (15 + 6 * x + q))) → T (d + 1) 73 13 [some (aR 9), some (aI v1), some (aI v2), some (aI x), some (aI y)] [] (G, c) (QM Q) := by
          refine int_ind ?_ ?_
          · intro hn2
            refine b73_13 hG h_a TM_eqo rfl (by intros; omega) (by intros; omega) ?_ ?_
            · intro p2
              refine ih (fun p q a1 a2 a3 a4 => ?_)
              by_cases hp : p = x
              · rw [hp]; exact hn2 q a3 a4
              · exact hno p q a1 (by omega) a3 a4
            · intro p2; omega
          · intro y q3 q4 ih2 hn2
            have go : ¬ (bt (S (51 + v1)) x = 1 ∧ bt (S (51 + v2)) y = 1 ∧ 0 < S (15 + 6 * x + y)) → T (d + 1) 73 13 [some (aR 9), some (aI v1), some (aI v2), some (aI x), some (aI (y + 1))] [] (G, c) (QM Q) := by
              intro hn
              refine ih2 (fun q a1 a2 => ?_)
              by_cases hq : q = y
              · rw [hq]; exact hn
              · exact hn2 q a1 (by omega)
            refine b73_13 hG h_a TM_eqo rfl (by intros; omega) (by intros; omega) ?_ ?_
            · intro p2; omega
            · intro p2
              refine c_mayBe hG hr h0 h1 (by omega) ?_
              have hb1 : bt (S (51 + v1)) x = 0 ∨ bt (S (51 + v1)) x = 1 := bt_01
              refine b73_28 hG h_a (by intros; omega) ?_ ?_
              · intro p3
                exact go (by omega)
              · intro p3
                refine c_mayBe hG hr h2 h3 (by omega) ?_
                have hb2 : bt (S (51 + v2)) y = 0 ∨ bt (S (51 + v2)) y = 1 := bt_01
                refine b73_38 hG h_a (by intros; omega) ?_ ?_
                · intro p4
                  exact go (by omega)
                · intro p4
                  refine c_kindPair hG ?_
                  have em := hr.2.2.1 (x * 6 + y) (by omega) (by omega)
                  rw [show 15 + (x * 6 + y) = 15 + 6 * x + y by omega] at em
                  have hm := hR.2.2.1 (6 * x + y) (by omega) (by omega)
                  rw [show 15 + (6 * x + y) = 15 + 6 * x + y by omega] at hm
                  refine b73_51 hG h_a (by intros; omega) (by intros; omega) rfl (by intros; omega) ?_ ?_
                  · intro p5
                    exact go (by omega)
                  · intro p5
                    exact hz1 ⟨x, y, by omega, by omega, by omega, by omega, by omega, by omega, by omega⟩
        exact key2 0 (by omega) (by omega) (fun q a1 a2 => by omega)
  exact key 0 (by omega) (by omega) (fun p q a1 a2 => by omega)
theorem r_isHopeless (hG : Shp G) (hR : InvR (c 190)) (hI : InvL (c 190)) (h0 : 0 ≤ v1) (h1 : v1 < 8) (h2 : 0 ≤ v2) (h3 : v2 < 8) (hz : Q (some (aI (hop1 (c 190) v1 v2))) (G, c)) : TM (d + 1) 220 [aR 188, aI v1, aI v2] (G, c) Q := by
  have g := hR.1
  have dd := d_at hI h0 h1 h2 h3
  refine b220_0 hG (by intros; omega) (by intros; omega) rfl (by intros; omega) ?_ ?_
  · intro p0
    have key : ∀ x, 0 ≤ x → x ≤ c 190 0 → (∀ p q, 0 ≤ p → p < x → 0 ≤ q → q < c 190 0 → ¬ (bt (c 190 (51 + v1)) p = 1 ∧ bt (c 190 (51 + v2)) q = 1 ∧ 0 < c 190 (15 + 6 * p + q))) → T (d + 1) 220 22 [some (aR 188), some (aI v1), some (aI v2), some (aI x), none] [] (G, c) (QM Q) := by
      refine int_ind ?_ ?_
      · intro hno
        refine b220_22 hG rfl (by intros; omega) (by intros; omega) ?_ ?_
        · intro p1
          rw [hop1_1 (fun ⟨p, q, a1, a2, a3, a4, a5, a6, a7⟩ => hno p q a1 a2 a3 a4 ⟨a5, a6, a7⟩) p0] at hz
          exact hz
        · intro p1; omega
      · intro x q1 q2 ih hno
        refine b220_22 hG rfl (by intros; omega) (by intros; omega) ?_ ?_
        · intro p1; omega
        · intro p1
          have key2 : ∀ y, 0 ≤ y → y ≤ c 190 0 → (∀ q, 0 ≤ q → q < y → ¬ (bt (c 190 (51 + v1)) x = 1 ∧ bt (c 190 (51 + v2)) q = 1 ∧ 0 < c 190 (15 + 6 * x + q))) → T (d + 1) 220 35 [some (aR 188), some (aI v1), some (aI v2), some (aI x), some (aI y)] [] (G, c) (QM Q) := by
            refine int_ind ?_ ?_
            · intro hn2
              refine b220_35 hG TM_eqo rfl (by intros; omega) (by intros; omega) ?_ (by intros; omega) (by intros; omega) rfl ?_
              · intro p2
                refine ih (fun p q a1 a2 a3 a4 => ?_)
                by_cases hp : p = x
                · rw [hp]; exact hn2 q a3 a4
                · exact hno p q a1 (by omega) a3 a4
              · intro p2; omega
            · intro y q3 q4 ih2 hn2
              have go : ¬ (bt (c 190 (51 + v1)) x = 1 ∧ bt (c 190 (51 + v2)) y = 1 ∧ 0 < c 190 (15 + 6 * x + y)) → T (d + 1) 220 35 [some (aR 188), some (aI v1), some (aI v2), some (aI x), some (aI (y + 1))] [] (G, c) (QM Q) := by
                intro hn
                refine ih2 (fun q a1 a2 => ?_)
                by_cases hq : q = y
                · rw [hq]; exact hn
                · exact hn2 q a1 (by omega)
              refine b220_35 hG TM_eqo rfl (by intros; omega) (by intros; omega) ?_ (by intros; omega) (by intros; omega) rfl ?_
              · intro p2; omega
              · intro p2
                refine r_bitOf hG ?_
                have hb1 : bt (c 190 (51 + v1)) x = 0 ∨ bt (c 190 (51 + v1)) x = 1 := bt_01
                refine b220_59 hG (by intros; omega) ?_ (by intros; omega) (by intros; omega) rfl ?_
                · intro p3
                  exact go (by omega)
                · intro p3
                  refine r_bitOf hG ?_
                  have hb2 : bt (c 190 (51 + v2)) y = 0 ∨ bt (c 190 (51 + v2)) y = 1 := bt_01
                  have hm := hR.2.2.1 (6 * x + y) (by omega) (by omega)
                  rw [show 15 + (6 * x + y) = 15 + 6 * x + y by omega] at hm
                  refine b220_76 hG (by intros; omega) ?_ (by intros; omega) (by intros; omega) rfl (by intros; omega) ?_ ?_
                  · intro p4
                    exact go (by omega)
                  · intro p4 p5
                    exact go (by omega)
                  · intro p4 p5
                    rw [hop1_0 (Or.inl ⟨x, y, by omega, by omega, by omega, by omega, by omega, by omega, by omega⟩)] at hz
                    exact hz
          exact key2 0 (by omega) (by omega) (fun q a1 a2 => by omega)
    exact key 0 (by omega) (by omega) (fun p q a1 a2 => by omega)
  · intro p0
    rw [hop1_0 (Or.inr p0)] at hz
    exact hz
theorem hop1_01 : hop1 S a b = 0 ∨ hop1 S a b = 1 := by
  by_cases h1 : canS S a b
  · exact Or.inl (hop1_0 (Or.inl h1))
  · by_cases h2 : S (205 + 8 * a + b) = 0
    · exact Or.inl (hop1_0 (Or.inr h2))
    · exact Or.inr (hop1_1 h1 h2)
theorem hopB_mono : ∀ (n : Nat) (b f g : Int), hopB S k a n b f = .inr g → f ≤ g := by
  intro n
  induction n with
  | zero => intro b f g h; cases h; omega
  | succ n ih =>
    intro b f g h
    unfold hopB at h
    by_cases hh : hop1 S a b = 0
    · rw [if_pos hh] at h; exact ih _ _ _ h
    · rw [if_neg hh] at h
      by_cases hk : f = k
      · rw [if_pos hk] at h; cases h
      · rw [if_neg hk] at h
        have := ih _ _ _ h
        omega
theorem hopB_neg (hk : k < -1) : ∀ (n : Nat) (b f : Int), 0 ≤ f → ∀ v, ¬ hopB S k a n b f = .inl v := by
  intro n
  induction n with
  | zero => intro b f _ v h; cases h
  | succ n ih =>
    intro b f h1 v
    unfold hopB
    by_cases hh : hop1 S a b = 0
    · rw [if_pos hh]; exact ih (b + 1) f h1 v
    · rw [if_neg hh, if_neg (by omega)]; exact ih (b + 1) (f + 1) (by omega) v
theorem hopA_neg (hk : k < -1) : ∀ (n : Nat) (a f : Int), 0 ≤ f → ∀ v, ¬ hopA S k n a f = .inl v := by
  intro n
  induction n with
  | zero => intro b f _ v h; cases h
  | succ n ih =>
    intro a f h1 v
    unfold hopA
    cases hx : hopB S k a (S 1).toNat 0 f with
    | inl w => exact absurd hx (hopB_neg hk _ _ _ h1 w)
    | inr f' =>
      dsimp only
      by_cases hf : 0 ≤ f'
      · exact ih (a + 1) f' hf v
      · exact absurd (hopB_mono _ _ _ _ hx) (by omega)
theorem op_hopeless (hG : Shp G) (h : GR cA cB) (h1 : I32 v1) : OP G (d + 50) 138 221 [aI v1] cA cB := by
  have hR := h.1.1
  have hI := h.1.2.1
  have g := hR.1
  have hr := h.2.1.1
  have hL := h.2.2.1
  refine op_q (v := hopV (cB 190) v1) h (hopV_b (by omega)) ?_ ?_
  · intro Q hz
    obtain ⟨e0, e1, e2⟩ := hr.1
    generalize hc : cA = c at *
    refine b138_0 hG ?_
    have kb : ∀ (n : Nat) (a b f : Int), 0 ≤ a → a < cB 190 1 → 0 ≤ b → b + n = cB 190 1 → 0 ≤ f → f ≤ 8 * a + b → (∀ v, hopB (cB 190) v1 a n b f = .inl v → v1 ≠ -1 → Q (some (aI v)) (G, c)) → (∀ f', hopB (cB 190) v1 a n b f = .inr f' → T (d + 50) 138 4 [some (aR 1), some (aI v1), some (aI f'), some (aI (a + 1)), none] [] (G, c) (QM Q)) → T (d + 50) 138 18 [some (aR 1), some (aI v1), some (aI f), some (aI a), some (aI b)] [] (G, c) (QM Q) := by
      intro n
      induction n with
      | zero =>
        intro a b f p1 p2 p3 p4 p5 p6 k1 k2
        refine b138_18 hG TM_eqo rfl (by intros; omega) (by intros; omega) ?_ ?_
        · intro p7; exact k2 f rfl
        · intro p7; omega
      | succ n ih =>
        intro a b f p1 p2 p3 p4 p5 p6 k1 k2
        unfold hopB at k1 k2
        have hd := hL.1.2.2.1 (a * 8 + b) (by omega) (by omega)
        rw [show (27 : Nat) + 6 = 33 from rfl, show 205 + (a * 8 + b) = 205 + 8 * a + b by omega] at hd
        have dd := d_at hI (x := a) (y := b) p1 (by omega) p3 (by omega)
        refine b138_18 hG TM_eqo rfl (by intros; omega) (by intros; omega) ?_ ?_
        · intro p7; omega
        · intro p7
          refine c_soulPair hG ?_
          refine b138_43 hG (by intros; omega) (by intros; omega) rfl (by intros; omega) ?_ ?_
          · intro p8
            rw [if_pos (hop1_0 (Or.inr (by omega)))] at k1 k2
            exact ih a (b + 1) f p1 p2 (by omega) (by omega) p5 (by omega) k1 k2
          · intro p8
            refine c_canSettle hG hR hr p1 p2 p3 (by omega) (fun hcs => ?_) (fun hcs => ?_)
            · refine b138_57 hG (by intros; omega) ?_ (by intros; omega) (by intros; omega) ?_ ?_
              · intro p9
                rw [if_pos (hop1_0 (Or.inl hcs))] at k1 k2
                exact ih a (b + 1) f p1 p2 (by omega) (by omega) p5 (by omega) k1 k2
              · intro p9; omega
              · intro p9; omega
            · rw [if_neg (by rw [hop1_1 hcs (by omega)]; omega)] at k1 k2
              refine b138_57 hG (by intros; omega) ?_ (by intros; omega) (by intros; omega) ?_ ?_
              · intro p9; omega
              · intro p9 p10
                rw [if_neg p10] at k1 k2
                exact ih a (b + 1) (f + 1) p1 p2 (by omega) (by omega) (by omega) (by omega) k1 k2
              · intro p9 p10
                rw [if_pos p10] at k1
                exact k1 _ rfl (by omega)
    unfold hopV at hz
    have ka : ∀ (n : Nat) (a f : Int), 0 ≤ a → a + n = cB 190 1 → 0 ≤ f → f ≤ 8 * a → (∀ v, hopA (cB 190) v1 n a f = .inl v → v1 ≠ -1 → Q (some (aI v)) (G, c)) → (∀ f', hopA (cB 190) v1 n a f = .inr f' → Q (some (aI (if v1 = -1 then f' else -1))) (G, c)) → T (d + 50) 138 4 [some (aR 1), some (aI v1), some (aI f), some (aI a), none] [] (G, c) (QM Q) := by
      intro n
      induction n with
      | zero =>
        intro a f p1 p2 p3 p4 k1 k2
        have k2 := k2 f rfl
        refine b138_4 hG rfl (by intros; omega) (by intros; omega) (by intros; omega) ?_ ?_ ?_
        · intro p5 p6; rw [if_neg p6] at k2; exact k2
        · intro p5 p6; rw [if_pos p6] at k2; exact k2
        · intro p5; omega
      | succ n ih =>
        intro a f p1 p2 p3 p4 k1 k2
        unfold hopA at k1 k2
        have hb := hopB_b (S := cB 190) (k := v1) (a := a) (cB 190 1).toNat 0 f p1 (by omega) (by omega) (by omega) p3
        refine b138_4 hG rfl (by intros; omega) (by intros; omega) (by intros; omega) ?_ ?_ ?_
        · intro p5; omega
        · intro p5; omega
        · intro p5
          refine kb (cB 190 1).toNat a 0 f p1 (by omega) (by omega) (by omega) p3 (by omega) (fun v hv => ?_) (fun f' hf' => ?_)
          · rw [hv] at k1
            exact k1 v rfl
          · have := hb.2 f' hf'
            rw [hf'] at k1 k2
            exact ih (a + 1) f' (by omega) (by omega) (by omega) (by omega) k1 k2
    refine ka (cB 190 1).toNat 0 0 (by omega) (by omega) (by omega) (by omega) (fun v hv hk => ?_) (fun f' hf' => ?_)
    · by_cases hk2 : v1 < -1
      · exact absurd hv (hopA_neg hk2 _ _ _ (by omega) v)
      · rw [if_neg hk2, hv] at hz; exact hz
    · by_cases hk2 : v1 < -1
      · rw [if_pos hk2] at hz
        rw [if_neg (by omega)]; exact hz
      · rw [if_neg hk2, hf'] at hz; exact hz
  · intro Q hz
    clear hr hL
    generalize hc : cB = c at *
    unfold hopV at hz
    refine b221_0 hG (by intros; omega) ?_ ?_
    · intro p0
      rw [if_neg (by omega)] at hz
      generalize hc1 : q_up c 188 0 0 = c1 at hz ⊢
      have e190 : c1 190 = c 190 := by rw [← hc1]; rfl
      rw [← e190] at hz hR hI g
      have kb : ∀ (n : Nat) (a b f : Int), 0 ≤ a → a < c1 190 1 → 0 ≤ b → b + n = c1 190 1 → 0 ≤ f → f ≤ 8 * a + b → (∀ v, hopB (c1 190) v1 a n b f = .inl v → v1 ≠ -1 → Q (some (aI v)) (G, c1)) → (∀ f', hopB (c1 190) v1 a n b f = .inr f' → T (d + 50) 221 16 [some (aR 188), some (aI v1), some (aI f'), some (aI (a + 1)), none] [] (G, c1) (QM Q)) → T (d + 50) 221 29 [some (aR 188), some (aI v1), some (aI f), some (aI a), some (aI b)] [] (G, c1) (QM Q) := by
        intro n
        induction n with
        | zero =>
          intro a b f p1 p2 p3 p4 p5 p6 k1 k2
          refine b221_29 hG TM_eqo rfl (by intros; omega) (by intros; omega) ?_ ?_
          · intro p7; exact k2 f rfl
          · intro p7; omega
        | succ n ih =>
          intro a b f p1 p2 p3 p4 p5 p6 k1 k2
          unfold hopB at k1 k2
          have h01 := hop1_01 (S := c1 190) (a := a) (b := b)
          refine b221_29 hG TM_eqo rfl (by intros; omega) (by intros; omega) ?_ ?_
          · intro p7; omega
          · intro p7
            refine r_isHopeless hG hR hI p1 (by omega) p3 (by omega) ?_
            refine b221_47 hG (by intros; omega) (by intros; omega) (by intros; omega) ?_ ?_ ?_
            · intro p8 p9
              rw [if_neg p8, if_neg p9] at k1 k2
              exact ih a (b + 1) (f + 1) p1 p2 (by omega) (by omega) (by omega) (by omega) k1 k2
            · intro p8 p9
              rw [if_neg p8, if_pos p9] at k1
              exact k1 _ rfl (by omega)
            · intro p8
              rw [if_pos p8] at k1 k2
              exact ih a (b + 1) f p1 p2 (by omega) (by omega) p5 (by omega) k1 k2
      have ka : ∀ (n : Nat) (a f : Int), 0 ≤ a → a + n = c1 190 1 → 0 ≤ f → f ≤ 8 * a → (∀ v, hopA (c1 190) v1 n a f = .inl v → v1 ≠ -1 → Q (some (aI v)) (G, c1)) → (∀ f', hopA (c1 190) v1 n a f = .inr f' → Q (some (aI (if v1 = -1 then f' else -1))) (G, c1)) → T (d + 50) 221 16 [some (aR 188), some (aI v1), some (aI f), some (aI a), none] [] (G, c1) (QM Q) := by
        intro n
        induction n with
        | zero =>
          intro a f p1 p2 p3 p4 k1 k2
          have k2 := k2 f rfl
          refine b221_16 hG rfl (by intros; omega) (by intros; omega) (by intros; omega) ?_ ?_ ?_
          · intro p5 p6; rw [if_neg p6] at k2; exact k2
          · intro p5 p6; rw [if_pos p6] at k2; exact k2
          · intro p5; omega
        | succ n ih =>
          intro a f p1 p2 p3 p4 k1 k2
          unfold hopA at k1 k2
          have hb := hopB_b (S := c1 190) (k := v1) (a := a) (c1 190 1).toNat 0 f p1 (by omega) (by omega) (by omega) p3
          refine b221_16 hG rfl (by intros; omega) (by intros; omega) (by intros; omega) ?_ ?_ ?_
          · intro p5; omega
          · intro p5; omega
          · intro p5
            refine kb (c1 190 1).toNat a 0 f p1 (by omega) (by omega) (by omega) p3 (by omega) (fun v hv => ?_) (fun f' hf' => ?_)
            · rw [hv] at k1
              exact k1 v rfl
            · have := hb.2 f' hf'
              rw [hf'] at k1 k2
              exact ih (a + 1) f' (by omega) (by omega) (by omega) (by omega) k1 k2
      refine ka (c1 190 1).toNat 0 0 (by omega) (by omega) (by omega) (by omega) (fun v hv hk => ?_) (fun f' hf' => ?_)
      · rw [hv] at hz; exact hz
      · rw [hf'] at hz; exact hz
    · intro p0
      rw [if_pos p0] at hz
      exact hz
end SPHo
