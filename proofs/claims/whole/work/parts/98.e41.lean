section SPsf
variable {d r n0 : Nat} {G : GG} {c c' cA cB cA' cB' cA0 cB0 : CC} {Q : Option AV → HH → Prop} {v v1 v2 N k m n s t t0 w dep q pa po D sg s0 x y u len most stop p : Int} {j i' : Nat} {S : SS} {B bs bs' dp : Int → Int}
def FAs (cA0 cA : CC) : Prop := (∀ r, ¬ r = 2 → ¬ (5 ≤ r ∧ r ≤ 8) → ¬ (48 ≤ r ∧ r ≤ 51) → cA r = cA0 r) ∧ (∀ i, (i < 7 ∨ 14 < i) → cA 2 i = cA0 2 i) ∧ ∀ i, ¬ i = 6 → ¬ i = 8 → cA 48 i = cA0 48 i
def FBs (cB0 cB : CC) : Prop := (∀ r, ¬ r = 188 → ¬ r = 192 → ¬ r = 206 → cB r = cB0 r) ∧ ∀ i, (i = 2 ∨ (19 ≤ i ∧ (i < 40 ∨ 44 < i))) → cB 188 i = cB0 188 i
theorem FAs_V (h : FAs cA0 cA) (f : FrV cA cA') : FAs cA0 cA' := ⟨fun r h1 h2 h3 => (f.1 r h1).trans (h.1 r h1 h2 h3), fun i h1 => (f.2 i (by omega) (by omega) (by omega) (by omega) (by omega)).trans (h.2.1 i h1), fun i h1 h2 => by rw [f.1 48 (by omega)]; exact h.2.2 i h1 h2⟩
theorem FAs_F (h : FAs cA0 cA) (f : FlA cA cA' k p) : FAs cA0 cA' := ⟨fun r h1 h2 h3 => (f.1 r h1).trans (h.1 r h1 h2 h3), fun i h1 => (f.2.1 i (by omega)).trans (h.2.1 i h1), fun i h1 h2 => by rw [f.1 48 (by omega)]; exact h.2.2 i h1 h2⟩
theorem FAs_8 (h : FAs cA0 cA) : FAs cA0 (q_up cA 48 8 v) := ⟨fun r h1 h2 h3 => (up_r (by omega)).trans (h.1 r h1 h2 h3), fun i h1 => (up_n (by omega)).trans (h.2.1 i h1), fun i h1 h2 => (up_n (by omega)).trans (h.2.2 i h1 h2)⟩
theorem FAs_S (h : FAs cA0 cA) : FAs cA0 (adS cA s k sg n) := ⟨fun r h1 h2 h3 => (adS_r (by omega) (by omega) (by omega) (by omega)).trans (h.1 r h1 h2 h3), fun i h1 => by rw [adS_r (by omega) (by omega) (by omega) (by omega)]; exact h.2.1 i h1, fun i h1 h2 => (adS_48 h1).trans (h.2.2 i h1 h2)⟩
theorem FBs_G (h : FBs cB0 cB) (f : FrG cB cB') : FBs cB0 cB' := ⟨fun r h1 h2 h3 => (f.1 r h1).trans (h.1 r h1 h2 h3), fun i h1 => (f.2 i (by omega) (by omega) (by omega) (by omega) (by omega) (by omega) (by omega)).trans (h.2 i h1)⟩
theorem FBs_F (h : FBs cB0 cB) (f : FlB cB cB' k p) : FBs cB0 cB' := ⟨fun r h1 h2 h3 => (f.1 r h1).trans (h.1 r h1 h2 h3), fun i h1 => (f.2.1 i (by omega) (by omega) (by omega)).trans (h.2 i h1)⟩
theorem FBs_I (h : FBs cB0 cB) (e1 : ∀ r, ¬ r = 188 → ¬ r = 192 → ¬ r = 206 → cB' r = cB r) (e2 : ∀ i, (i < 40 ∨ 44 < i) → cB' 188 i = cB 188 i) : FBs cB0 cB' := ⟨fun r h1 h2 h3 => (e1 r h1 h2 h3).trans (h.1 r h1 h2 h3), fun i h1 => (e2 i (by omega)).trans (h.2 i h1)⟩
theorem TkS_C (h : TkS B len most stop j cA cB) (e1 : ∀ i, i < 40 → cB' 188 i = cB 188 i) (e2 : cB' 189 = cB 189) : TkS B len most stop j cA cB' := by
  obtain ⟨t, ⟨⟨a1, a2, a3, a4, a5, a6, a7⟩, hB, e3, e5⟩, h1, h2, h3⟩ := h
  refine ⟨t, ⟨⟨?_, ?_, ?_, ?_, ?_, ?_, ?_⟩, fun i p1 p2 => by rw [e2]; exact hB i p1 p2, by rw [e1 3 (by omega)]; exact e3, by rw [e1 5 (by omega)]; exact e5⟩, h1, h2, by rw [e1 15 (by omega)]; exact h3⟩
  · rw [e1 11 (by omega)]; exact a1
  · rw [e1 12 (by omega)]; exact a2
  · rw [e1 4 (by omega)]; exact a3
  · rw [e1 4 (by omega)]; exact a4
  · rw [e1 14 (by omega)]; exact a5
  · rw [e1 14 (by omega)]; exact a6
  · rw [e1 17 (by omega)]; exact a7
def Sen (cA0 cB0 : CC) (B : Int → Int) (len most stop : Int) (j : Nat) (t0 : Int) (bs : Int → Int) (dep q pa po D : Int) (cA cB : CC) : Prop := TkS B len most stop j cA cB ∧ FAs cA0 cA ∧ FBs cB0 cB ∧ SeC (cB0 190) cA cB t0 bs dep q pa po D
theorem Sen_mv (h : Sen cA0 cB0 B len most stop j t0 bs dep q pa po D cA cB) (h2 : SeC (cB0 190) cA cB' t0 bs' dep v v1 v2 D) (e1 : ∀ r, ¬ r = 188 → ¬ r = 192 → ¬ r = 206 → cB' r = cB r) (e2 : ∀ i, (i < 40 ∨ 44 < i) → cB' 188 i = cB 188 i) : Sen cA0 cB0 B len most stop j t0 bs' dep v v1 v2 D cA cB' :=
  ⟨TkS_C h.1 (fun i hi => e2 i (by omega)) (e1 189 (by omega) (by omega) (by omega)), h.2.1, FBs_I h.2.2.1 e1 e2, h2⟩
theorem r_nots (hG : Shp G) : ∀ (n : Nat) (cB : CC), Sen cA0 cB0 B len most stop j t0 bs dep n pa po D cA cB → (pa = 1 ∨ po = 1 ∨ t0 = 0 ∨ ¬ bs (t0 - 1) = 20) → (∀ cB', Sen cA0 cB0 B len most stop j t0 bs dep 0 pa po D cA cB' → cB' 188 44 = cB 188 44 → Q none (G, cB')) → TM (d + 1) 254 [aR 188] (G, cB) Q := by
  intro n
  induction n with
  | zero =>
    intro cB h hb hz
    have hz := hz cB h rfl
    obtain ⟨h1, h2, h3, h4, h5, h6, h7, h8, h9, h10, h11, h12, h13, h14⟩ := h.2.2.2
    have e42 : cB 188 42 = t0 + pa + po := by omega
    by_cases ht : t0 + pa + po ≤ 0
    · refine b254_0 hG (e42) (by omega) ?_ (e42) (by intros; exfalso; omega) (by intros; exfalso; omega) rfl (by intros; exfalso; omega) ?_ (e42) (up_n (by omega)) ?_
      · intro q; exact hz
      · intro q; omega
      · intro q; omega
    · have hX : ¬ cB 206 (t0 + pa + po - 1) = 20 ∧ 20 ≤ cB 206 (t0 + pa + po - 1) ∧ cB 206 (t0 + pa + po - 1) ≤ 23 := by
        by_cases hpa : pa = 1
        · have := h8 hpa
          rw [show t0 + pa + po - 1 = t0 + po by omega, this]; omega
        · by_cases hpo : po = 1
          · have := h9 hpo
            rw [show t0 + pa + po - 1 = t0 by omega, this]; omega
          · have := h6 (t0 - 1) (by omega) (by omega)
            rw [show t0 + pa + po - 1 = t0 - 1 by omega, this.1]
            omega
      refine b254_0 hG (e42) (by intros; omega) ?_ (e42) (by intros; omega) (by intros; omega) rfl (by intros; omega) ?_ (e42) (up_n (by omega)) ?_
      · intro q; omega
      · intro q q2; exact hz
      · intro q q2; exact absurd q2 hX.1
  | succ n ih =>
    intro cB h hb hz
    obtain ⟨h1, h2, h3, h4, h5, h6, h7, h8, h9, h10, h11, h12, h13, h14⟩ := h.2.2.2
    obtain ⟨t, ht⟩ : ∃ t, t = t0 + ((n + 1 : Nat) : Int) + pa + po := ⟨_, rfl⟩
    have e42 : cB 188 42 = t := by rw [ht]; exact h3.1
    have hX : cB 206 (t - 1) = 20 := h7 (t - 1) (by omega) (by omega)
    have h3' := h3.2
    refine b254_0 hG (e42) (by intros; omega) ?_ (e42) (by intros; omega) (by intros; omega) (hX) (by intros; omega) ?_ (e42) ((up_n (by omega)).trans h5.1) ?_
    · intro q; omega
    · intro q q2; exact absurd rfl q2
    · intro q q2
      refine r_code hG (m := cB 188 40) (by rw [up_n (by omega), up_n (by omega)]) (by omega) ?_
      refine b254_51 hG ?_
      have fr : ∀ r, ¬ r = 188 → ¬ r = 192 → cdB (q_up (q_up cB 188 42 (t - 1)) 188 43 (dep + ((n + 1 : Nat) : Int) - 1)) (cB 188 40) 20 0 0 r = cB r := fun r p1 p2 => by rw [cdB_r p1 p2, up_r p1, up_r p1]
      have ff : ∀ i, ¬ i = 40 → ¬ i = 42 → ¬ i = 43 → cdB (q_up (q_up cB 188 42 (t - 1)) 188 43 (dep + ((n + 1 : Nat) : Int) - 1)) (cB 188 40) 20 0 0 188 i = cB 188 i := fun i p1 p2 p3 => by rw [cdB_188 p1, up_n (by omega), up_n (by omega)]
      have f42 : cdB (q_up (q_up cB 188 42 (t - 1)) 188 43 (dep + ((n + 1 : Nat) : Int) - 1)) (cB 188 40) 20 0 0 188 42 = cB 188 42 - 1 := by rw [cdB_188 (by omega), up_n (by omega), up_e, e42]
      have f43 : cdB (q_up (q_up cB 188 42 (t - 1)) 188 43 (dep + ((n + 1 : Nat) : Int) - 1)) (cB 188 40) 20 0 0 188 43 = cB 188 43 - 1 := by rw [cdB_188 (by omega), up_e, h5.1]
      have h2' := SeC_popN (q := (n : Int)) (cB' := cdB (q_up (q_up cB 188 42 (t - 1)) 188 43 (dep + ((n + 1 : Nat) : Int) - 1)) (cB 188 40) 20 0 0) (by
          have := h.2.2.2
          rw [show ((n + 1 : Nat) : Int) = (n : Int) + 1 by omega] at this
          exact this) (by omega) cdB_40 (ff 41 (by omega) (by omega) (by omega)) f42 f43 (fr 206 (by omega) (by omega)) (fun i hi => by rw [cdB_192 hi, up_r (by omega), up_r (by omega)]) cdB_w.1
      exact ih _ (Sen_mv h h2' (fun r p1 p2 _ => fr r p1 p2) (fun i hi => ff i (by omega) (by omega) (by omega))) hb (fun cB' g1 g2 => hz cB' g1 (by rw [g2]; exact ff 44 (by omega) (by omega) (by omega)))
theorem r_jA (hG : Shp G) (h : Sen cA0 cB0 B len most stop j t0 bs dep 0 1 po D cA cB) (hz : ∀ cB', Sen cA0 cB0 B len most stop j t0 bs dep 0 0 po D cA cB' → cB' 188 44 = cB 188 44 → T (d + 1) 253 0 [some (aR 188), some (aI v1)] [] (G, cB') (QM Q)) : T (d + 1) 253 0 [some (aR 188), some (aI v1)] [] (G, cB) (QM Q) := by
  obtain ⟨h1, h2, h3, h4, h5, h6, h7, h8, h9, h10, h11, h12, h13, h14⟩ := h.2.2.2
  obtain ⟨t, ht⟩ : ∃ t, t = t0 + po + 1 := ⟨_, rfl⟩
  have e42 : cB 188 42 = t := by omega
  have hX : cB 206 (t - 1) = 21 := by rw [show t - 1 = t0 + po by omega]; exact h8 rfl
  refine b253_0 hG (e42) (by omega) ?_ (e42) (by omega) (by omega) (hX) (by omega) (e42) (up_e) (by omega) (by omega) ((up_n (by omega)).trans hX) ?_ (e42) (by intros; exfalso; omega) (by intros; exfalso; omega) rfl (by intros; exfalso; omega) ?_ (by intros; exfalso; omega) ?_ (e42) (up_e) (by intros; exfalso; omega) (by intros; exfalso; omega) (up_n (by omega)) ?_
  · intro q; omega
  · intro q q2
    refine r_code hG (m := cB 188 40) (by rw [up_n (by omega)]) (by omega) ?_
    refine b253_70 hG ?_
    have fr : ∀ r, ¬ r = 188 → ¬ r = 192 → cdB (q_up cB 188 42 (t - 1)) (cB 188 40) 21 0 0 r = cB r := fun r p1 p2 => by rw [cdB_r p1 p2, up_r p1]
    have ff : ∀ i, ¬ i = 40 → ¬ i = 42 → cdB (q_up cB 188 42 (t - 1)) (cB 188 40) 21 0 0 188 i = cB 188 i := fun i p1 p2 => by rw [cdB_188 p1, up_n (by omega)]
    have f42 : cdB (q_up cB 188 42 (t - 1)) (cB 188 40) 21 0 0 188 42 = cB 188 42 - 1 := by rw [cdB_188 (by omega), up_e, e42]
    have h2' := SeC_popA (cB' := cdB (q_up cB 188 42 (t - 1)) (cB 188 40) 21 0 0) h.2.2.2 cdB_40 (ff 41 (by omega) (by omega)) f42 (ff 43 (by omega) (by omega)) (fr 206 (by omega) (by omega)) (fun i hi => by rw [cdB_192 hi, up_r (by omega)]) cdB_w.1
    exact hz _ (Sen_mv h h2' (fun r p1 p2 _ => fr r p1 p2) (fun i hi => ff i (by omega) (by omega))) (ff 44 (by omega) (by omega))
  · intro q q2; omega
  · intro q q2; omega
  · intro q q2; omega
theorem r_jO (hG : Shp G) (h : Sen cA0 cB0 B len most stop j t0 bs dep 0 0 1 D cA cB) (hz : ∀ cB', Sen cA0 cB0 B len most stop j t0 bs dep 0 0 0 D cA cB' → cB' 188 44 = cB 188 44 → T (d + 1) 253 0 [some (aR 188), some (aI 22)] [] (G, cB') (QM Q)) : T (d + 1) 253 0 [some (aR 188), some (aI 22)] [] (G, cB) (QM Q) := by
  obtain ⟨h1, h2, h3, h4, h5, h6, h7, h8, h9, h10, h11, h12, h13, h14⟩ := h.2.2.2
  obtain ⟨t, ht⟩ : ∃ t, t = t0 + 1 := ⟨_, rfl⟩
  have e42 : cB 188 42 = t := by omega
  have hX : cB 206 (t - 1) = 22 := by rw [show t - 1 = t0 by omega]; exact h9 rfl
  refine b253_0 hG (e42) (by intros; omega) ?_ (e42) (by intros; omega) (by intros; omega) (hX) (by intros; omega) (e42) (up_e) (by intros; omega) (by intros; omega) (up_n (by omega)) ?_ (e42) (by intros; omega) (by intros; omega) (hX) (by intros; omega) ?_ (by intros; omega) ?_ (e42) (up_e) (by intros; omega) (by intros; omega) ((up_n (by omega)).trans hX) ?_
  · intro q; omega
  · intro q q2; omega
  · intro q q2 q3; omega
  · intro q q2 q3 q4; omega
  · intro q q2 q3 q4
    refine r_code hG (m := cB 188 40) (by rw [up_n (by omega)]) (by omega) ?_
    refine b253_70 hG ?_
    have fr : ∀ r, ¬ r = 188 → ¬ r = 192 → cdB (q_up cB 188 42 (t - 1)) (cB 188 40) 22 0 0 r = cB r := fun r p1 p2 => by rw [cdB_r p1 p2, up_r p1]
    have ff : ∀ i, ¬ i = 40 → ¬ i = 42 → cdB (q_up cB 188 42 (t - 1)) (cB 188 40) 22 0 0 188 i = cB 188 i := fun i p1 p2 => by rw [cdB_188 p1, up_n (by omega)]
    have f42 : cdB (q_up cB 188 42 (t - 1)) (cB 188 40) 22 0 0 188 42 = cB 188 42 - 1 := by rw [cdB_188 (by omega), up_e, e42]
    have h2' := SeC_popO (cB' := cdB (q_up cB 188 42 (t - 1)) (cB 188 40) 22 0 0) h.2.2.2 cdB_40 (ff 41 (by omega) (by omega)) f42 (ff 43 (by omega) (by omega)) (fr 206 (by omega) (by omega)) (fun i hi => by rw [cdB_192 hi, up_r (by omega)]) cdB_w.1
    exact hz _ (Sen_mv h h2' (fun r p1 p2 _ => fr r p1 p2) (fun i hi => ff i (by omega) (by omega))) (ff 44 (by omega) (by omega))
theorem r_jE (hG : Shp G) (h : Sen cA0 cB0 B len most stop j t0 bs dep 0 0 po D cA cB) (hv : v1 = 21 ∨ v1 = 22) (hb : (v1 = 21 ∧ po = 1) ∨ (po = 0 ∧ (t0 = 0 ∨ (¬ bs (t0 - 1) = 21 ∧ (¬ bs (t0 - 1) = 22 ∨ v1 = 21))))) (hz : Q none (G, cB)) : T (d + 1) 253 0 [some (aR 188), some (aI v1)] [] (G, cB) (QM Q) := by
  obtain ⟨h1, h2, h3, h4, h5, h6, h7, h8, h9, h10, h11, h12, h13, h14⟩ := h.2.2.2
  have e42 : cB 188 42 = t0 + po := by omega
  by_cases ht : t0 + po ≤ 0
  · refine b253_0 hG (e42) (by omega) ?_ (e42) (by intros; exfalso; omega) (by intros; exfalso; omega) rfl (by intros; exfalso; omega) (e42) (up_e) (by intros; exfalso; omega) (by intros; exfalso; omega) (up_n (by omega)) ?_ (e42) (by intros; exfalso; omega) (by intros; exfalso; omega) rfl (by intros; exfalso; omega) ?_ (by intros; exfalso; omega) ?_ (e42) (up_e) (by intros; exfalso; omega) (by intros; exfalso; omega) (up_n (by omega)) ?_
    · intro q; exact hz
    · intro q q2; omega
    · intro q q2; omega
    · intro q q2; omega
    · intro q q2; omega
  · have hX : ¬ cB 206 (t0 + po - 1) = 21 ∧ (cB 206 (t0 + po - 1) = 22 → v1 = 21) ∧ 20 ≤ cB 206 (t0 + po - 1) ∧ cB 206 (t0 + po - 1) ≤ 23 := by
      by_cases hpo : po = 1
      · have := h9 hpo
        rw [show t0 + po - 1 = t0 by omega, this]; omega
      · have := h6 (t0 - 1) (by omega) (by omega)
        rw [show t0 + po - 1 = t0 - 1 by omega, this.1]
        omega
    obtain ⟨x1, x2, x3, x4⟩ := hX
    generalize hx : cB 206 (t0 + po - 1) = xx at *
    refine b253_0 hG (e42) (by intros; omega) ?_ (e42) (by intros; omega) (by intros; omega) (hx) (by intros; omega) (e42) (up_e) (by intros; omega) (by intros; omega) (up_n (by omega)) ?_ (e42) (by intros; omega) (by intros; omega) (hx) (by intros; omega) ?_ (by intros; omega) ?_ (e42) (up_e) (by intros; omega) (by intros; omega) (up_n (by omega)) ?_
    · intro q; omega
    · intro q q2; omega
    · intro q q2 q3; exact hz
    · intro q q2 q3 q4; exact hz
    · intro q q2 q3 q4; omega
theorem r_joinsA (hG : Shp G) (h : Sen cA0 cB0 B len most stop j t0 bs dep 0 pa 0 D cA cB) (hb : t0 = 0 ∨ ¬ bs (t0 - 1) = 21) (hz : ∀ cB', Sen cA0 cB0 B len most stop j t0 bs dep 0 0 0 D cA cB' → cB' 188 44 = cB 188 44 → Q none (G, cB')) : TM (d + 1) 253 [aR 188, aI 21] (G, cB) Q := by
  have hp := h.2.2.2.2.2.2.1.2.1
  rcases hp with hp | hp
  · subst hp
    exact r_jE hG h (Or.inl rfl) (Or.inr ⟨rfl, by omega⟩) (hz cB h rfl)
  · subst hp
    refine r_jA hG h (fun cB' g1 g2 => ?_)
    exact r_jE hG g1 (Or.inl rfl) (Or.inr ⟨rfl, by omega⟩) (hz cB' g1 g2)
theorem r_joinsO (hG : Shp G) (h : Sen cA0 cB0 B len most stop j t0 bs dep 0 pa po D cA cB) (hb : t0 = 0 ∨ (¬ bs (t0 - 1) = 21 ∧ ¬ bs (t0 - 1) = 22)) (hz : ∀ cB', Sen cA0 cB0 B len most stop j t0 bs dep 0 0 0 D cA cB' → cB' 188 44 = cB 188 44 → Q none (G, cB')) : TM (d + 1) 253 [aR 188, aI 22] (G, cB) Q := by
  have hp := h.2.2.2.2.2.2.1.2.1
  have hpo := h.2.2.2.2.2.2.1.2.2.1
  have stp : ∀ cB1, Sen cA0 cB0 B len most stop j t0 bs dep 0 0 po D cA cB1 → cB1 188 44 = cB 188 44 → T (d + 1) 253 0 [some (aR 188), some (aI 22)] [] (G, cB1) (QM Q) := by
    intro cB1 g1 g2
    rcases hpo with hpo | hpo
    · subst hpo
      exact r_jE hG g1 (Or.inr rfl) (Or.inr ⟨rfl, by omega⟩) (hz cB1 g1 g2)
    · subst hpo
      refine r_jO hG g1 (fun cB' g3 g4 => ?_)
      exact r_jE hG g3 (Or.inr rfl) (Or.inr ⟨rfl, by omega⟩) (hz cB' g3 (g4.trans g2))
  rcases hp with hp | hp
  · subst hp
    exact stp cB h rfl
  · subst hp
    exact r_jA hG h (fun cB' g1 g2 => stp cB' g1 g2)
end SPsf
