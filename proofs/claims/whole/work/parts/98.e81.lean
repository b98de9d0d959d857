section SPjg
variable {d : Nat} {G : GG} {c : CC} {v4 x y : Int} {Q : Option AV → HH → Prop}
theorem and_b : I32 (q_and x y) := by
  unfold q_and
  have := Int32.toInt_lt (Int32.ofInt x &&& Int32.ofInt y)
  have := Int32.le_toInt (Int32.ofInt x &&& Int32.ofInt y)
  omega
theorem law_loop (hG : Shp G) (hL : G.2.2.2.2.1 ≤ 3072) (hq : ∀ c2, GR c2 c2 → c2 0 0 ≤ 4000 → Q (some (aI 1)) (G, c2)) : ∀ (n : Nat) (v4 : Int) (c : CC), (G.2.2.2.2.1 : Int) - v4 ≤ n → 0 ≤ v4 → v4 ≤ 4000 → GR c c → c 0 0 ≤ v4 → T (d + 52) 271 23 [some (aR q_S), some (aR 1), some (aR 188), some (aR 211), some (aI v4), none, none] [] (G, c) (QM Q) := by
  intro n
  induction n with
  | zero =>
    intro v4 c h1 h0 h4 hc hz
    refine b271_23 hG TM_eqo (by intros; omega) (by intros; omega) ?_ (by intros; omega) (by intros; omega) (by intros; exact and_b) ?_ ?_ ?_ ?_ ?_ ?_ ?_ ?_ ?_ ?_ ?_ ?_ ?_ ?_ ?_ ?_ ?_ ?_ ?_ ?_ ?_ ?_ ?_ ?_ ?_ ?_ ?_ ?_ ?_ ?_ ?_ ?_ ?_ ?_ ?_ ?_ ?_ ?_ ?_
    · intro p
      refine b271_1334 hG ?_
      exact hq c hc (by omega)
    all_goals (intro p; omega)
  | succ n ih =>
    intro v4 c h1 h0 h4 hc hz
    have nx : v4 ≤ (G.2.2.2.2.1 : Int) - 6 → ∀ c2, GR c2 c2 → c2 0 0 ≤ c 0 0 + 1 → T (d + 52) 271 1328 [some (aR q_S), some (aR 1), some (aR 188), some (aR 211), some (aI v4), none, none] [] (G, c2) (QM Q) := fun p c2 h2 h3 => by
      refine b271_1328 hG ?_
      exact ih (v4 + 6) c2 (by omega) (by omega) (by omega) h2 (by omega)
    refine b271_23 hG TM_eqo (by intros; omega) (by intros; omega) ?_ (by intros; omega) (by intros; omega) (by intros; exact and_b) ?_ ?_ ?_ ?_ ?_ ?_ ?_ ?_ ?_ ?_ ?_ ?_ ?_ ?_ ?_ ?_ ?_ ?_ ?_ ?_ ?_ ?_ ?_ ?_ ?_ ?_ ?_ ?_ ?_ ?_ ?_ ?_ ?_ ?_ ?_ ?_ ?_ ?_ ?_
    · intro p
      refine b271_1334 hG ?_
      exact hq c hc (by omega)
    · intro p p2; exact nx p c hc (by omega)
    · intro p p2; exact arm_0 hG hc h0 (by omega) (nx p)
    · intro p p2; exact arm_1 hG hc h0 (by omega) (nx p)
    · intro p p2; exact arm_2 hG hc h0 (by omega) (nx p)
    · intro p p2; exact arm_3 hG hc h0 (by omega) (nx p)
    · intro p p2; exact arm_4 hG hc h0 (by omega) (nx p)
    · intro p p2; exact arm_5 hG hc h0 (by omega) (nx p)
    · intro p p2; exact arm_6 hG hc h0 (by omega) (nx p)
    · intro p p2; exact arm_7 hG hc h0 (by omega) (nx p)
    · intro p p2; exact arm_8 hG hc h0 (by omega) (nx p)
    · intro p p2; exact arm_9 hG hc h0 (by omega) (nx p)
    · intro p p2; exact arm_10 hG hc h0 (by omega) (nx p)
    · intro p p2; exact arm_11 hG hc h0 (by omega) (nx p)
    · intro p p2; exact arm_12 hG hc h0 (by omega) (nx p)
    · intro p p2; exact arm_13 hG hc h0 (by omega) (nx p)
    · intro p p2; exact arm_14 hG hc h0 (by omega) (nx p)
    · intro p p2; exact arm_15 hG hc h0 (by omega) (nx p)
    · intro p p2; exact arm_16 hG hc h0 (by omega) (nx p)
    · intro p p2; exact arm_17 hG hc h0 (by omega) (nx p)
    · intro p p2; exact arm_18 hG hc h0 (by omega) (nx p)
    · intro p p2; exact arm_19 hG hc h0 (by omega) (nx p)
    · intro p p2; exact arm_20 hG hc h0 (by omega) (nx p)
    · intro p p2; exact arm_21 hG hc h0 (by omega) (nx p)
    · intro p p2; exact arm_22 hG hc h0 (by omega) (nx p)
    · intro p p2; exact arm_23 hG hc h0 (by omega) (nx p)
    · intro p p2; exact arm_24 hG hc h0 (by omega) (nx p)
    · intro p p2; exact arm_25 hG hc h0 (by omega) (nx p)
    · intro p p2; exact arm_26 hG hc h0 (by omega) (nx p)
    · intro p p2; exact arm_27 hG hc h0 (by omega) (nx p)
    · intro p p2; exact arm_28 hG hc h0 (by omega) (nx p)
    · intro p p2; exact arm_29 hG hc h0 (by omega) (nx p)
    · intro p p2; exact arm_30 hG hc h0 (by omega) (nx p)
    · intro p p2; exact arm_31 hG hc h0 (by omega) (nx p)
    · intro p p2; exact arm_32 hG hc h0 (by omega) (nx p)
    · intro p p2; exact arm_33 hG hc h0 (by omega) (nx p)
    · intro p p2; exact arm_34 hG hc h0 (by omega) (nx p)
    · intro p p2; exact arm_35 hG hc h0 (by omega) (nx p)
    · intro p p2; exact arm_36 hG hc h0 (by omega) (nx p)
    · intro p p2; exact arm_37 hG hc h0 (by omega) (nx p)
end SPjg
