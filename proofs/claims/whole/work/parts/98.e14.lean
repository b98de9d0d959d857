section SPty
variable {d : Nat} {G : GG} {c c' c0 c1 : CC} {Q : Option AV → HH → Prop} {v1 v2 v3 i n s t p w x y b q u len N m most stop : Int} {k j : Nat} {B f : Int → Int}
theorem r_aft (hG : Shp G) (hB : ∀ i, 0 ≤ i → i < len → q_and (c 189 i) 255 = B i ∧ 0 ≤ B i ∧ B i ≤ 255) (e3 : c 188 3 = len) (e5 : c 188 5 = most) (hl : 0 ≤ len ∧ len ≤ 940) (hm : 0 ≤ most ∧ most ≤ 940) (hst : stop = if most < len then most else len) (hp : 0 ≤ p ∧ p ≤ len) (e4 : c 188 4 = p) (hn : p < len → ¬ B p = 10) (hz : ∀ c', FrN c c' → RQ c' B len most stop p → Q none (G, c')) : T (d + 1) 172 13 [some (aR 188), none, none, none] [aI (if p < len then B p else -1)] (G, c) (QM Q) := by
  have hbb : p < len → 0 ≤ B p ∧ B p ≤ 255 := fun h => (hB p hp.1 h).2
  have fr1 : FrN c (q_up (q_up c 188 12 p) 188 13 0) := FrN_up (FrN_up FrN_refl (by omega)) (by omega)
  have here : ∀ {Q2 : Option AV → HH → Prop}, Q2 (some (aI (if p < len then B p else -1))) (G, q_up (q_up c 188 12 p) 188 13 0) → TM d 169 [aR 188] (G, q_up (q_up c 188 12 p) 188 13 0) Q2 := by
    intro Q2 h
    refine r_here hG (B := B) (len := len) (p := p) (fun i p1 p2 => by rw [fr1.1 189 (by omega)]; exact hB i p1 p2) ((up_n (by omega)).trans ((up_n (by omega)).trans e3)) ((up_n (by omega)).trans ((up_n (by omega)).trans e4)) hl.2 (by omega) hl.1 h
  have tok : p < stop → T (d + 1) 172 84 [some (aR 188), none, none, none] [aI (if p < len then B p else -1)] (G, q_up (q_up c 188 12 p) 188 13 0) (QM Q) := by
    intro h
    have hs : stop ≤ len := by rw [hst]; split <;> omega
    rw [if_pos (by omega)]
    refine r_tok hG (most := most) (fun i p1 p2 => by rw [fr1.1 189 (by omega)]; exact hB i p1 p2) ((up_n (by omega)).trans ((up_n (by omega)).trans e3)) hl.2 hs ⟨hp.1, h⟩ up_e ((up_n (by omega)).trans ((up_n (by omega)).trans e4)) ((up_n (by omega)).trans up_e) (fun c' f1 f2 => hz c' (FrN_tr fr1 f1) f2)
  have end0 : ¬ most < len → p = len → T (d + 1) 172 84 [some (aR 188), none, none, none] [aI (if p < len then B p else -1)] (G, q_up (q_up c 188 12 p) 188 13 0) (QM Q) := by
    intro h1 h2
    rw [if_neg h1] at hst
    rw [if_neg (by omega)]
    refine b172_84 hG (by intros; omega) ?_ ?_
    · intro h; omega
    · intro h
      have hE := rS_end (B := B) (len := len) (most := most) (stop := stop) (q := p) (by omega)
      rw [if_neg h1] at hE
      refine hz _ (FrN_up fr1 (by omega)) ⟨?_, ?_, fun h => by omega, fun h => ?_, fun h => by omega, fun h => by omega, fun h => by omega⟩
      · rw [up_e, hE]
      · rw [up_n (by omega), up_n (by omega), up_e]; unfold tP; rw [if_neg (by omega)]; omega
      · rw [up_n (by omega), up_n (by omega), up_n (by omega), e4]; omega
  have end1 : most < len → most ≤ p → Q none (G, q_up (q_up (q_up (q_up c 188 12 p) 188 13 0) 188 12 most) 188 11 4) := by
    intro h1 h2
    rw [if_pos h1] at hst
    have hE := rS_end (B := B) (len := len) (most := most) (stop := stop) (q := p) (by omega)
    rw [if_pos h1] at hE
    refine hz _ (FrN_up (FrN_up fr1 (by omega)) (by omega)) ⟨?_, ?_, fun h => by omega, fun h => ?_, fun h => by omega, fun h => by omega, fun h => by omega⟩
    · rw [up_e, hE]
    · rw [up_n (by omega), up_e]; unfold tP; rw [if_neg (by omega)]; omega
    · rw [up_n (by omega), up_n (by omega), up_n (by omega), up_n (by omega), e4]; omega
  clear hz
  have hu : ¬ (if p < len then B p else (-1 : Int)) = 10 := by
    by_cases h : p < len
    · rw [if_pos h]; exact hn h
    · rw [if_neg h]; omega
  have hub : -1 ≤ (if p < len then B p else (-1 : Int)) ∧ (if p < len then B p else (-1 : Int)) ≤ 255 := by
    by_cases h : p < len
    · rw [if_pos h]; have := hbb h; omega
    · rw [if_neg h]; omega
  have hso : (most < len ∧ stop = most) ∨ (¬ most < len ∧ stop = len) := by
    by_cases h : most < len
    · rw [if_pos h] at hst; exact Or.inl ⟨h, hst⟩
    · rw [if_neg h] at hst; exact Or.inr ⟨h, hst⟩
  clear hst
  generalize (if p < len then B p else (-1 : Int)) = v at *
  refine b172_13 hG (by intros; omega) (e4) ((up_n (by omega)).trans ((up_n (by omega)).trans e3)) ((up_n (by omega)).trans ((up_n (by omega)).trans e5)) (by intros; omega) (by intros; omega) ?_ ((up_n (by omega)).trans ((up_n (by omega)).trans e4)) ((up_n (by omega)).trans ((up_n (by omega)).trans e5)) (by intros; omega) (by intros; omega) ?_ ((up_n (by omega)).trans ((up_n (by omega)).trans e5)) ?_ (e4) ?_
  · intro h1 h2
    by_cases h : p < len
    · exact here (tok (by omega))
    · exact here (end0 (by omega) (by omega))
  · intro h1 h2 h3; exact here (tok (by omega))
  · intro h1 h2 h3; exact end1 h2 h3
  · intro h1; exact absurd h1 hu
theorem r_next (hG : Shp G) (hB : ∀ i, 0 ≤ i → i < len → q_and (c 189 i) 255 = B i ∧ 0 ≤ B i ∧ B i ≤ 255) (e3 : c 188 3 = len) (e5 : c 188 5 = most) (hl : 0 ≤ len ∧ len ≤ 940) (hm : 0 ≤ most ∧ most ≤ 940) (hst : stop = if most < len then most else len) (hp : 0 ≤ p ∧ p ≤ len) (e4 : c 188 4 = p) (hz : ∀ c', FrN c c' → RQ c' B len most stop (skE B stop p) → Q none (G, c')) : TM (d + 1) 172 [aR 188] (G, c) Q := by
  have hsl : stop ≤ len := by rw [hst]; split <;> omega
  have key : ∀ (n : Nat) (x : Int) (c1 : CC), x + n = len → 0 ≤ x → (skE B stop x = skE B stop p ∨ (stop ≤ x ∧ stop ≤ skE B stop p)) → FrN c c1 → c1 188 4 = x → T (d + 1) 172 0 [some (aR 188), none, none, none] [] (G, c1) (QM Q) := by
    intro n
    induction n with
    | zero =>
      intro x c1 g1 g2 g3 g4 g5
      have hB1 : ∀ i, 0 ≤ i → i < len → q_and (c1 189 i) 255 = B i ∧ 0 ≤ B i ∧ B i ≤ 255 := fun i p1 p2 => by rw [g4.1 189 (by omega)]; exact hB i p1 p2
      have a3 : c1 188 3 = len := (g4.2 3 (by omega) (by omega) (by omega) (by omega) (by omega) (by omega)).trans e3
      have a5 : c1 188 5 = most := (g4.2 5 (by omega) (by omega) (by omega) (by omega) (by omega) (by omega)).trans e5
      have aft := r_aft (d := d) (Q := Q) hG hB1 a3 a5 hl hm hst ⟨g2, by omega⟩ g5 (fun h => by omega) (fun c' f1 f2 => hz c' (FrN_tr g4 f1) (by
        rcases g3 with g3 | g3
        · rw [← g3, skE_n (by omega)]; exact f2
        · exact RQ_end f2 g3.1 g3.2))
      rw [if_neg (by omega)] at aft
      refine b172_0 hG ?_
      refine r_here hG hB1 a3 g5 hl.2 (by omega) hl.1 ?_
      rw [if_neg (by omega)]
      refine b172_4 hG (by intros; omega) (g5) ?_ ?_
      · intro h; omega
      · intro h
        refine r_here hG hB1 a3 g5 hl.2 (by omega) hl.1 ?_
        rw [if_neg (by omega)]
        exact aft
    | succ n ih =>
      intro x c1 g1 g2 g3 g4 g5
      have hB1 : ∀ i, 0 ≤ i → i < len → q_and (c1 189 i) 255 = B i ∧ 0 ≤ B i ∧ B i ≤ 255 := fun i p1 p2 => by rw [g4.1 189 (by omega)]; exact hB i p1 p2
      have a3 : c1 188 3 = len := (g4.2 3 (by omega) (by omega) (by omega) (by omega) (by omega) (by omega)).trans e3
      have a5 : c1 188 5 = most := (g4.2 5 (by omega) (by omega) (by omega) (by omega) (by omega) (by omega)).trans e5
      have hbb := (hB x g2 (by omega)).2
      have blk : B x = 32 ∨ B x = 10 → T (d + 1) 172 0 [some (aR 188), none, none, none] [] (G, q_up c1 188 4 (x + 1)) (QM Q) := by
        intro hb
        refine ih (x + 1) _ (by omega) (by omega) ?_ (FrN_up g4 (by omega)) up_e
        rcases g3 with g3 | g3
        · by_cases h : x < stop
          · rw [skE_y ⟨h, hb⟩] at g3; exact Or.inl g3
          · rw [skE_n (by omega)] at g3; exact Or.inr ⟨by omega, by omega⟩
        · exact Or.inr ⟨by omega, g3.2⟩
      refine b172_0 hG ?_
      refine r_here hG hB1 a3 g5 hl.2 (by omega) hl.1 ?_
      rw [if_pos (by omega)]
      by_cases h10 : B x = 10
      · refine b172_4 hG (by intros; omega) (g5) ?_ ?_
        · intro h; omega
        · intro h
          refine r_here hG hB1 a3 g5 hl.2 (by omega) hl.1 ?_
          rw [if_pos (by omega)]
          have blk := blk (Or.inr h10)
          refine b172_13 hG (by intros; omega) (g5) ((up_n (by omega)).trans ((up_n (by omega)).trans a3)) ((up_n (by omega)).trans ((up_n (by omega)).trans a5)) (by intros; omega) (by intros; omega) ?_ ((up_n (by omega)).trans ((up_n (by omega)).trans g5)) ((up_n (by omega)).trans ((up_n (by omega)).trans a5)) (by intros; omega) (by intros; omega) ?_ ((up_n (by omega)).trans ((up_n (by omega)).trans a5)) ?_ (g5) ?_
          all_goals intros
          all_goals first | exact blk | (exfalso; omega)
      · by_cases h32 : B x = 32
        · have blk := blk (Or.inl h32)
          refine b172_4 hG (by intros; omega) (g5) ?_ ?_
          · intro h; exact blk
          · intro h; omega
        · have aft := r_aft (d := d) (Q := Q) hG hB1 a3 a5 hl hm hst ⟨g2, by omega⟩ g5 (fun _ => h10) (fun c' f1 f2 => hz c' (FrN_tr g4 f1) (by
            rcases g3 with g3 | g3
            · rw [← g3, skE_n (by omega)]; exact f2
            · exact RQ_end f2 g3.1 g3.2))
          rw [if_pos (by omega)] at aft
          refine b172_4 hG (by intros; omega) (g5) ?_ ?_
          · intro h; omega
          · intro h
            refine r_here hG hB1 a3 g5 hl.2 (by omega) hl.1 ?_
            rw [if_pos (by omega)]
            exact aft
  exact key (len - p).toNat p c (by omega) hp.1 (Or.inl rfl) FrN_refl e4
end SPty
