section SPtx
variable {d : Nat} {G : GG} {c c' c0 c1 : CC} {Q : Option AV → HH → Prop} {v1 v2 v3 i n s t p w x y b q u len N m most stop : Int} {k j : Nat} {B f : Int → Int}
def rS (B : Int → Int) (len most stop q : Int) : Int := if q < stop then (if (97 ≤ B q ∧ B q ≤ 122) ∨ (48 ≤ B q ∧ B q ≤ 57) then rR B q (tKn B len q) else sgF (B q) / 2 + 1 + (if sgF (B q) = 5 then 1 else 0)) else if most < len then 4 else 0
def RQ (c : CC) (B : Int → Int) (len most stop q : Int) : Prop := c 188 11 = rS B len most stop q ∧ c 188 12 = tP stop q ∧ (q < stop → c 188 4 = tE B len stop q) ∧ (stop ≤ q → stop ≤ c 188 4 ∧ c 188 4 ≤ len) ∧ (rS B len most stop q = 2 → c 188 14 = lV B q (tKn B len q)) ∧ (rS B len most stop q = 3 → c 188 14 = B q) ∧ (rS B len most stop q = 1 → c 188 17 = lG B q (tKn B len q))
theorem rR_b : rR B q k = 1 ∨ rR B q k = 2 ∨ rR B q k = 4 := by
  unfold rR
  split
  · omega
  · split <;> omega
theorem rS_end (h : stop ≤ q) : rS B len most stop q = if most < len then 4 else 0 := by
  unfold rS
  rw [if_neg (by omega)]
theorem RQ_end (h : RQ c B len most stop q) (h1 : stop ≤ q) (h2 : stop ≤ x) : RQ c B len most stop x := by
  obtain ⟨a1, a2, a3, a4, a5, a6, a7⟩ := h
  have e1 := rS_end (B := B) (len := len) (most := most) h1
  have e2 := rS_end (B := B) (len := len) (most := most) h2
  refine ⟨by rw [a1, e1, e2], by rw [a2]; unfold tP; rw [if_neg (by omega), if_neg (by omega)], fun h => by omega, fun _ => a4 h1, fun h => ?_, fun h => ?_, fun h => ?_⟩
  · rw [e2] at h; split at h <;> omega
  · rw [e2] at h; split at h <;> omega
  · rw [e2] at h; split at h <;> omega
theorem FrN_tr {c2 : CC} (h1 : FrN c c1) (h2 : FrN c1 c2) : FrN c c2 := ⟨fun r p => (h2.1 r p).trans (h1.1 r p), fun i p1 p2 p3 p4 p5 p6 => (h2.2 i p1 p2 p3 p4 p5 p6).trans (h1.2 i p1 p2 p3 p4 p5 p6)⟩
theorem FrN_refl : FrN c c := ⟨fun _ _ => rfl, fun _ _ _ _ _ _ _ => rfl⟩
theorem r_sgn (hG : Shp G) (hb : 0 ≤ b ∧ b ≤ 255) (e4 : c 188 4 = p) (hz : Q none (G, q_up (q_up (q_up c 188 11 (if sgF b = 4 then 3 else 4)) 188 14 b) 188 4 (p + 1))) : T (d + 1) 172 106 [some (aR 188), some (aI b), none, none] [aI 0] (G, c) (QM Q) := by
  have e : sgF b = if b = 59 ∨ b = 60 ∨ b = 61 ∨ b = 62 ∨ b = 40 ∨ b = 41 then 4 else 5 := rfl
  by_cases h : b = 59 ∨ b = 60 ∨ b = 61 ∨ b = 62 ∨ b = 40 ∨ b = 41
  · rw [if_pos h] at e
    rw [if_pos e] at hz
    clear e
    refine b172_106 hG TM_eqo (by intros; omega) ?_ (by intros; omega) ((up_n (by omega)).trans ((up_n (by omega)).trans e4)) ?_ ((up_n (by omega)).trans ((up_n (by omega)).trans e4)) ?_ ((up_n (by omega)).trans ((up_n (by omega)).trans e4)) ?_ ((up_n (by omega)).trans ((up_n (by omega)).trans e4)) ?_ ((up_n (by omega)).trans ((up_n (by omega)).trans e4)) ?_ ((up_n (by omega)).trans ((up_n (by omega)).trans e4)) ?_
    all_goals intros
    all_goals first | exact hz | (exfalso; omega)
  · rw [if_neg h] at e
    rw [if_neg (by omega)] at hz
    clear e
    refine b172_106 hG TM_eqo (by intros; omega) ?_ (by intros; omega) ((up_n (by omega)).trans ((up_n (by omega)).trans e4)) ?_ ((up_n (by omega)).trans ((up_n (by omega)).trans e4)) ?_ ((up_n (by omega)).trans ((up_n (by omega)).trans e4)) ?_ ((up_n (by omega)).trans ((up_n (by omega)).trans e4)) ?_ ((up_n (by omega)).trans ((up_n (by omega)).trans e4)) ?_ ((up_n (by omega)).trans ((up_n (by omega)).trans e4)) ?_
    all_goals intros
    all_goals first | exact hz | (exfalso; omega)
theorem r_tok (hG : Shp G) (hB : ∀ i, 0 ≤ i → i < len → q_and (c 189 i) 255 = B i ∧ 0 ≤ B i ∧ B i ≤ 255) (e3 : c 188 3 = len) (hl : len ≤ 940) (hs : stop ≤ len) (hq : 0 ≤ q ∧ q < stop) (e13 : c 188 13 = 0) (e4 : c 188 4 = q) (e12 : c 188 12 = q) (hz : ∀ c', FrN c c' → RQ c' B len most stop q → Q none (G, c')) : T (d + 1) 172 84 [some (aR 188), none, none, none] [aI (B q)] (G, c) (QM Q) := by
  obtain ⟨g1, g2, g3⟩ := hB q (by omega) (by omega)
  by_cases hr : (97 ≤ B q ∧ B q ≤ 122) ∨ (48 ≤ B q ∧ B q ≤ 57)
  · have hS : rS B len most stop q = rR B q (tKn B len q) := by unfold rS; rw [if_pos hq.2, if_pos hr]
    have run : T (d + 1) 172 168 [some (aR 188), none, none, none] [aI (if 97 ≤ B q ∧ B q ≤ 122 then 1 else 0)] (G, c) (QM Q) := by
      refine r_run hG hB e3 hl ⟨hq.1, by omega⟩ hr rfl e13 e4 e12 (fun c' f1 f2 f3 f4 f5 f6 => hz c' f1 ⟨by rw [hS]; exact f4, by unfold tP; rw [if_pos hq.2]; exact f2, fun _ => by unfold tE; rw [if_pos hq.2, if_pos hr]; exact f3, fun h => by omega, fun h => f5 (by rw [← hS]; exact h), fun h => ?_, fun h => f6 (by rw [← hS]; exact h)⟩)
      have := rR_b (B := B) (q := q) (k := tKn B len q)
      rw [hS] at h
      omega
    clear hz hS
    refine b172_84 hG (by intros; omega) ?_ ?_
    · intro h
      refine r_let hG (by omega) ?_
      by_cases hL : 97 ≤ B q ∧ B q ≤ 122
      · rw [if_pos hL]
        refine b172_99 hG TM_eqo (by intros; omega) ?_ ?_
        · intro h2; exact r_let hG (by omega) run
        · intro h2; omega
      · rw [if_neg hL]
        refine b172_99 hG TM_eqo (by intros; omega) ?_ ?_
        · intro h2; omega
        · intro h2
          refine r_dig hG (by omega) ?_
          rw [if_pos (by omega)]
          refine b172_106 hG TM_eqo (by intros; omega) ?_ (by intros; omega) ((up_n (by omega)).trans (up_n (by omega))) ?_ ((up_n (by omega)).trans (up_n (by omega))) ?_ ((up_n (by omega)).trans (up_n (by omega))) ?_ ((up_n (by omega)).trans (up_n (by omega))) ?_ ((up_n (by omega)).trans (up_n (by omega))) ?_ ((up_n (by omega)).trans (up_n (by omega))) ?_
          · intro h3; exact r_let hG (by omega) run
          all_goals intros
          all_goals omega
    · intro h; omega
  · have hS : rS B len most stop q = if sgF (B q) = 4 then 3 else 4 := by
      unfold rS
      rw [if_pos hq.2, if_neg hr]
      have e : sgF (B q) = 4 ∨ sgF (B q) = 5 := by unfold sgF; split <;> omega
      rcases e with e | e
      · rw [e]; rfl
      · rw [e]; rfl
    refine b172_84 hG (by intros; omega) ?_ ?_
    · intro h
      refine r_let hG (by omega) ?_
      rw [if_neg (by omega)]
      refine b172_99 hG TM_eqo (by intros; omega) ?_ ?_
      · intro h2; omega
      · intro h2
        refine r_dig hG (by omega) ?_
        rw [if_neg (by omega)]
        refine r_sgn hG ⟨g2, g3⟩ e4 ?_
        rw [← hS]
        refine hz _ (FrN_up (FrN_up (FrN_up FrN_refl (by omega)) (by omega)) (by omega)) ⟨?_, ?_, fun _ => ?_, fun h => by omega, fun h => ?_, fun h => ?_, fun h => ?_⟩
        · rw [up_n (by omega), up_n (by omega), up_e]
        · rw [up_n (by omega), up_n (by omega), up_n (by omega), e12]; unfold tP; rw [if_pos hq.2]
        · rw [up_e]; unfold tE; rw [if_pos hq.2, if_neg hr]
        · rw [hS] at h; split at h <;> omega
        · rw [up_n (by omega), up_e]
        · rw [hS] at h; split at h <;> omega
    · intro h; omega
end SPtx
