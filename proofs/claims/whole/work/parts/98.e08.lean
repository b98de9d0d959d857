section SPsc
variable {d : Nat} {G : GG} {c c' cA cB cA' cB' : CC} {Q : Option AV → HH → Prop} {v1 v2 n i j k m v s : Int} {S : SS}
def svF (S : SS) (s : Int) : Int := (trF S s (S 333)).2 0
def sdL (S : SS) (k : Int) : Nat → Int → Int → Int ⊕ Int
  | 0, _, f => .inr f
  | n + 1, i, f => if svF S i = 0 then sdL S k n (i + 1) f else if f = k then .inl i else sdL S k n (i + 1) (f + 1)
def sdV (S : SS) (k : Int) : Int := if S 333 = 0 ∨ k < -1 then -1 else match sdL S k (S 1).toNat 0 0 with
  | .inl v => v
  | .inr f => if k = -1 then f else -1
theorem sdL_b : ∀ (n : Nat) (i f : Int), 0 ≤ i → 0 ≤ f → (∀ v, sdL S k n i f = .inl v → 0 ≤ v ∧ v < i + n ∧ 0 ≤ k) ∧ (∀ g, sdL S k n i f = .inr g → f ≤ g ∧ g ≤ f + n) := by
  intro n
  induction n with
  | zero =>
    intro i f h1 h2
    exact ⟨fun v h => (by cases h), fun g h => (by cases h; omega)⟩
  | succ n ih =>
    intro i f h1 h2
    unfold sdL
    by_cases hz : svF S i = 0
    · rw [if_pos hz]
      obtain ⟨a1, a2⟩ := ih (i + 1) f (by omega) h2
      exact ⟨fun v h => by have := a1 v h; omega, fun g h => by have := a2 g h; omega⟩
    · rw [if_neg hz]
      by_cases hk : f = k
      · rw [if_pos hk]
        exact ⟨fun v h => (by cases h; omega), fun g h => (by cases h)⟩
      · rw [if_neg hk]
        obtain ⟨a1, a2⟩ := ih (i + 1) (f + 1) (by omega) (by omega)
        exact ⟨fun v h => by have := a1 v h; omega, fun g h => by have := a2 g h; omega⟩
theorem sdL_sum (h01 : ∀ s, svF S s = 0 ∨ svF S s = 1) (hk : k = -1) (N : Int) : ∀ (n : Nat) (i f : Int), 0 ≤ i → i + n = N → 0 ≤ f → sdL S k n i f = .inr (f + (sumI (svF S) N - sumI (svF S) i)) := by
  intro n
  induction n with
  | zero =>
    intro i f h1 h2 h3
    unfold sdL
    rw [show N = i by omega]
    congr 1
    omega
  | succ n ih =>
    intro i f h1 h2 h3
    unfold sdL
    have es : sumI (svF S) (i + 1) = sumI (svF S) i + svF S i := sumI_s h1
    have := h01 i
    by_cases hz : svF S i = 0
    · rw [if_pos hz, ih (i + 1) f (by omega) (by omega) h3]
      congr 1
      omega
    · rw [if_neg hz, if_neg (by omega), ih (i + 1) (f + 1) (by omega) (by omega) (by omega)]
      congr 1
      omega
theorem sdV_b (h : 0 ≤ S 1 ∧ S 1 ≤ 8) : I32 (sdV S k) := by
  unfold sdV
  by_cases h1 : S 333 = 0 ∨ k < -1
  · rw [if_pos h1]; omega
  · rw [if_neg h1]
    obtain ⟨a1, a2⟩ := sdL_b (S := S) (k := k) (S 1).toNat 0 0 (by omega) (by omega)
    cases hx : sdL S k (S 1).toNat 0 0 with
    | inl v => dsimp only; have := a1 v hx; omega
    | inr f => dsimp only; have := a2 f hx; omega
theorem op_said (hG : Shp G) (h : GR cA cB) (h1 : I32 v1) : OP G (d + 50) 117 261 [aI v1] cA cB := by
  have hS := h.1
  have g := hS.1.1
  have hr := h.2.1.1
  have hn := h.2.1.2.2
  have hL := h.2.2.1
  have hvb := sdV_b (S := cB 190) (k := v1) (by omega)
  by_cases ht : cA 43 7 = 1
  · have hw := SnR_w hn ht
    obtain ⟨g1, g2, g3, g4, dp, hd⟩ := hn.2.2 ht
    have h01 : ∀ s, svF (cB 190) s = 0 ∨ svF (cB 190) s = 1 := fun s => (tr_inv (s := s) hw hd (cB 190 333) (by omega) (by omega)).2 0
    have hm : ∀ cA', (∀ r, ¬ r = 47 → cA' r = cA r) → TM (d + 50) 261 [aR 188, aI v1] (G, cB) (fun r2 h2 => ∃ cB', h2 = (G, cB') ∧ GR cA' cB' ∧ ∃ v, (some (aI (sdV (cB 190) v1))) = some (aI v) ∧ r2 = some (aI v) ∧ I32 v) := by
      intro cA' fA
      have fin : ∀ c2 : CC, (∀ r, ¬ r = 207 → ¬ r = 188 → c2 r = cB r) → (∀ i, ¬ i = 0 → c2 188 i = cB 188 i) → GR cA' c2 := fun c2 f2 f3 => by
        refine GR_keep h ⟨fun r p => fA r (by omega), by rw [fA 2 (by omega)], by rw [fA 2 (by omega)], fun i _ _ => by rw [fA 120 (by omega)]⟩ (fun r p => fA r (by omega)) ⟨fun r p => f2 r (by omega) (by omega), fun i p => f3 i (by omega), fun j _ _ => by rw [f2 193 (by omega) (by omega)], ?_⟩ (f2 190 (by omega) (by omega)) (f3 23 (by omega)) (f2 195 (by omega) (by omega))
        rw [f2 190 (by omega) (by omega)]
        exact SmR_refl _
      obtain ⟨q1, q2⟩ := thr_e0 (c := cB)
      have e333 : (q_up cB 188 0 0) 190 333 = cB 190 333 := by rw [up_n (by omega)]
      refine b261_0 hG (e333) (by intros; omega) ?_ (by intros; omega) ?_ ?_
      · intro p1; omega
      · intro p1 p2
        generalize hc1 : q_up cB 188 0 0 = c1 at q1 q2 ⊢
        have key : ∀ (n : Nat) (i f : Int) (c2 : CC), (∀ r, ¬ r = 207 → c2 r = c1 r) → 0 ≤ i → i + n = cB 190 1 → 0 ≤ f → f ≤ i → (sdV (cB 190) v1 = match sdL (cB 190) v1 n i f with | .inl v => v | .inr f => if v1 = -1 then f else -1) → T (d + 50) 261 27 [some (aR 188), some (aI v1), some (aI f), some (aI i)] [] (G, c2) (QM (fun r2 h2 => ∃ cB', h2 = (G, cB') ∧ GR cA' cB' ∧ ∃ v, (some (aI (sdV (cB 190) v1))) = some (aI v) ∧ r2 = some (aI v) ∧ I32 v)) := by
          intro n
          induction n with
          | zero =>
            intro i f c2 fr k1 k2 k3 k4 hv
            have e190 : c2 190 = cB 190 := by rw [fr 190 (by omega), q1 190 (by omega)]
            have e1 : c2 190 1 = cB 190 1 := by rw [e190]
            have hv : sdV (cB 190) v1 = if v1 = -1 then f else -1 := hv
            have hf := fin c2 (fun r p q => by rw [fr r p, q1 r q]) (fun i p => by rw [fr 188 (by omega)]; exact q2 i p)
            refine b261_27 hG (e1) (by intros; omega) (by intros; omega) (by intros; omega) ?_ ?_ ?_
            · intro p3 p4; rw [if_neg p4] at hv; exact ⟨c2, rfl, hf, -1, by rw [hv], rfl, by omega⟩
            · intro p3 p4; rw [if_pos p4] at hv; exact ⟨c2, rfl, hf, f, by rw [hv], rfl, by omega⟩
            · intro p3; omega
          | succ n ih =>
            intro i f c2 fr k1 k2 k3 k4 hv
            have e190 : c2 190 = cB 190 := by rw [fr 190 (by omega), q1 190 (by omega)]
            have e1 : c2 190 1 = cB 190 1 := by rw [e190]
            unfold sdL at hv
            refine b261_27 hG (e1) (by intros; omega) (by intros; omega) (by intros; omega) ?_ ?_ ?_
            · intro p3; omega
            · intro p3; omega
            · intro p3
              refine r_isSaid hG (dp := dp) (by rw [e190]; exact hS) (by rw [e190]; exact hw) (by rw [e190]; exact hd) (by rw [e190]; omega) ⟨k1, by omega⟩ (fun c3 f3 => ?_)
              rw [e190]
              have fr3 : ∀ r, ¬ r = 207 → c3 r = c1 r := fun r p => by rw [f3 r p]; exact fr r p
              have hsv := h01 i
              have hf := fin c3 (fun r p q => by rw [fr3 r p, q1 r q]) (fun i p => by rw [fr3 188 (by omega)]; exact q2 i p)
              show T (d + 50) 261 42 _ ((some (aI (svF (cB 190) i))).toList ++ []) _ _
              refine b261_42 hG (by intros; omega) (by intros; omega) (by intros; omega) ?_ ?_ ?_
              · intro p4 p5
                rw [if_neg p4, if_neg p5] at hv
                exact ih (i + 1) (f + 1) c3 fr3 (by omega) (by omega) (by omega) (by omega) hv
              · intro p4 p5
                rw [if_neg p4, if_pos p5] at hv
                exact ⟨c3, rfl, hf, i, by rw [hv], rfl, by omega⟩
              · intro p4
                rw [if_pos p4] at hv
                exact ih (i + 1) f c3 fr3 (by omega) (by omega) (by omega) (by omega) hv
        exact key (cB 190 1).toNat 0 0 c1 (fun _ _ => rfl) (by omega) (by omega) (by omega) (by omega) (by unfold sdV; rw [if_neg (by omega)])
      · intro p1 p2
        refine ⟨_, rfl, fin _ (fun r p q => q1 r q) q2, -1, ?_, rfl, by omega⟩
        unfold sdV
        rw [if_pos (Or.inr p2)]
    refine b117_0 hG rfl (by intros; omega) ?_ ?_
    · intro p1
      refine c_soulsSaid hG hS hr hL hn ht (fun c2 v f2 hv hb => ?_)
      have hm := hm c2 f2
      have fr : ∀ r, 188 ≤ r → c2 r = cA r := fun r p => f2 r (by omega)
      have e1 : c2 9 1 = cB 190 1 := by rw [f2 9 (by omega)]; exact hr.1.2.1
      refine b117_23 hG TM_eqo (by intros; omega) ?_ ?_
      · intro p2
        have key : ∀ (n : Nat) (i f : Int), 0 ≤ i → i + n = cB 190 1 → 0 ≤ f → f ≤ i → (sdV (cB 190) v1 = match sdL (cB 190) v1 n i f with | .inl v => v | .inr f => if v1 = -1 then f else -1) → T (d + 50) 117 39 [some (aR 1), some (aI v1), some (aI v), some (aI f), some (aI i)] [] (G, c2) (QM (fun r1 h1 => ∃ cA', h1 = (G, cA') ∧ (∀ r, 188 ≤ r → cA' r = cA r) ∧ TM (d + 50) 261 [aR 188, aI v1] (G, cB) (fun r2 h2 => ∃ cB', h2 = (G, cB') ∧ GR cA' cB' ∧ ∃ v, r1 = some (aI v) ∧ r2 = some (aI v) ∧ I32 v))) := by
          intro n
          induction n with
          | zero =>
            intro i f k1 k2 k3 k4 hv2
            have hv2 : sdV (cB 190) v1 = if v1 = -1 then f else -1 := hv2
            rw [if_neg p2] at hv2
            rw [hv2] at hm
            refine b117_39 hG rfl (by intros; omega) (by intros; omega) ?_ (by intros; omega) ?_ (by intros; omega) (by intros; omega) ?_ ?_
            · intro p3; exact ⟨c2, rfl, fr, hm⟩
            · intro p3; omega
            · intro p3; omega
            · intro p3; omega
          | succ n ih =>
            intro i f k1 k2 k3 k4 hv2
            unfold sdL at hv2
            have hbi := hb i k1 (by omega)
            rw [if_pos (by omega)] at hbi
            have hbi : bt v i = svF (cB 190) i := hbi
            have hsv := h01 i
            have hb2 : q_and (q_shr v i) 1 = svF (cB 190) i := hbi
            refine b117_39 hG rfl (by intros; omega) (by intros; omega) ?_ (by intros; omega) ?_ (by intros; omega) (by intros; omega) ?_ ?_
            · intro p3; omega
            · intro p3 p4
              rw [if_pos (by omega)] at hv2
              exact ih (i + 1) f (by omega) (by omega) (by omega) (by omega) hv2
            · intro p3 p4 p5
              rw [if_neg (by omega), if_neg p5] at hv2
              exact ih (i + 1) (f + 1) (by omega) (by omega) (by omega) (by omega) hv2
            · intro p3 p4 p5
              rw [if_neg (by omega), if_pos p5] at hv2
              have hv2 : sdV (cB 190) v1 = i := hv2
              rw [hv2] at hm
              exact ⟨c2, rfl, fr, hm⟩
        refine key (cB 190 1).toNat 0 0 (by omega) (by omega) (by omega) (by omega) ?_
        unfold sdV
        by_cases hk : v1 < -1
        · rw [if_pos (Or.inr hk)]
          obtain ⟨a1, a2⟩ := sdL_b (S := cB 190) (k := v1) (cB 190 1).toNat 0 0 (by omega) (by omega)
          cases hx : sdL (cB 190) v1 (cB 190 1).toNat 0 0 with
          | inl w => have := a1 w hx; omega
          | inr f => dsimp only; rw [if_neg p2]
        · rw [if_neg (by omega)]
      · intro p2
        refine c_bitCount hG hv ?_
        refine b117_33 hG ?_
        have hsum : sumI (bt v) 8 = sdV (cB 190) v1 := by
          unfold sdV
          rw [if_neg (by omega), sdL_sum h01 p2 (cB 190 1) (cB 190 1).toNat 0 0 (by omega) (by omega) (by omega), sumI_0 (n := 0) (by omega)]
          dsimp only
          rw [if_pos p2]
          have e8 : sumI (bt v) 8 = sumI (bt v) (cB 190 1) := sumI_z (by omega) (by omega) (fun i p q => by rw [hb i (by omega) q, if_neg (by omega)])
          rw [e8, sumI_c (f := bt v) (g := svF (cB 190)) (fun j p q => by rw [hb j p (by omega), if_pos q]; rfl)]
          omega
        rw [hsum]
        exact ⟨c2, rfl, fr, hm⟩
    · intro p1; omega
  · have h0 : cA 43 7 = 0 := by have := hn.1; omega
    have h333 := hn.2.1 h0
    refine op_q (v := -1) h (by omega) ?_ ?_
    · intro Q hz
      generalize hc : cA = c at *
      refine b117_0 hG rfl (by intros; omega) ?_ ?_
      · intro p1; omega
      · intro p1; exact hz
    · intro Q hz
      have e333 : (q_up cB 188 0 0) 190 333 = cB 190 333 := by rw [up_n (by omega)]
      generalize hc : cB = c at *
      refine b261_0 hG (e333) (by intros; omega) ?_ (by intros; omega) ?_ ?_
      · intro p1; exact hz
      · intro p1 p2; omega
      · intro p1 p2; omega
end SPsc
