section SPkk
variable {d : Nat} {G : GG} {c c' : CC} {Q : Option AV → HH → Prop} {i q k w len most stop : Int} {B f : Int → Int}
theorem rnE_run : ∀ (n : Nat) (i j : Int), i ≤ j → j < rnE B len n i → (97 ≤ B j ∧ B j ≤ 122) ∨ (48 ≤ B j ∧ B j ≤ 57) := by
  intro n
  induction n with
  | zero => intro i j h1 h2; unfold rnE at h2; omega
  | succ n ih =>
    intro i j h1 h2
    unfold rnE at h2
    by_cases h : i < len ∧ ((97 ≤ B i ∧ B i ≤ 122) ∨ (48 ≤ B i ∧ B i ≤ 57))
    · rw [if_pos h] at h2
      by_cases e : i = j
      · rw [← e]; exact h.2
      · exact ih (i + 1) j (by omega) h2
    · rw [if_neg h] at h2; omega
theorem lLD_sum : ∀ k : Nat, (∀ j, i ≤ j → j < i + k → (97 ≤ B j ∧ B j ≤ 122) ∨ (48 ≤ B j ∧ B j ≤ 57)) → lL B i k + lD B i k = k := by
  intro k
  induction k with
  | zero => intro _; rfl
  | succ k ih =>
    intro h
    have h1 := ih (fun j p1 p2 => h j p1 (by omega))
    have h2 := h (i + k) (by omega) (by omega)
    have eL : lL B i (k + 1) = lL B i k + (if 97 ≤ B (i + k) ∧ B (i + k) ≤ 122 then 1 else 0) := rfl
    have eD : lD B i (k + 1) = lD B i k + (if 48 ≤ B (i + k) ∧ B (i + k) ≤ 57 then 1 else 0) := rfl
    rw [eL, eD]
    by_cases g : 97 ≤ B (i + k) ∧ B (i + k) ≤ 122
    · rw [if_pos g, if_neg (by omega)]; omega
    · rw [if_neg g, if_pos (by omega)]; omega
theorem tKn_1 (h : q < len) (hr : (97 ≤ B q ∧ B q ≤ 122) ∨ (48 ≤ B q ∧ B q ≤ 57)) : 1 ≤ tKn B len q ∧ lL B q (tKn B len q) + lD B q (tKn B len q) = tKn B len q := by
  have e5 : (len - q).toNat = (len - (q + 1)).toNat + 1 := by omega
  have h1 : q + 1 ≤ reE B len q := by
    unfold reE
    rw [e5]
    unfold rnE
    rw [if_pos ⟨h, hr⟩]
    exact (rnE_b (B := B) (len := len) _ (q + 1)).1
  unfold tKn
  refine ⟨by omega, lLD_sum _ (fun j p1 p2 => rnE_run (len := len) (len - q).toNat q j p1 ?_)⟩
  have e6 : reE B len q = rnE B len (len - q).toNat q := rfl
  omega
theorem plN_hit : ∀ (n : Nat) (i : Int), ¬ plN f w n i = -1 → f (plN f w n i) = w := by
  intro n
  induction n with
  | zero => intro i h; exact absurd rfl h
  | succ n ih =>
    intro i h
    unfold plN at h ⊢
    by_cases e : f i = w
    · rw [if_pos e]; exact e
    · rw [if_neg e] at h ⊢
      exact ih (i + 1) h
theorem rsv_pl : ∀ k, 0 ≤ k → k < 20 → plN rsvF (rsvF k) 20 0 = k := by
  intro k h1 h2
  have hi : k = 0 ∨ k = 1 ∨ k = 2 ∨ k = 3 ∨ k = 4 ∨ k = 5 ∨ k = 6 ∨ k = 7 ∨ k = 8 ∨ k = 9 ∨ k = 10 ∨ k = 11 ∨ k = 12 ∨ k = 13 ∨ k = 14 ∨ k = 15 ∨ k = 16 ∨ k = 17 ∨ k = 18 ∨ k = 19 := by omega
  rcases hi with rfl | rfl | rfl | rfl | rfl | rfl | rfl | rfl | rfl | rfl | rfl | rfl | rfl | rfl | rfl | rfl | rfl | rfl | rfl | rfl <;> decide +kernel
theorem key_iff (hs : stop ≤ len) (h : RQ c B len most stop q) (h1 : 0 ≤ k) (h2 : k < 20) : (tS B len stop q = 2 ∧ tN B len stop q = k) ↔ (c 188 11 = 1 ∧ c 188 17 = rsvF k) := by
  obtain ⟨a1, a2, a3, a4, a5, a6, a7⟩ := h
  rw [a1]
  by_cases hq : q < stop
  · by_cases hr : (97 ≤ B q ∧ B q ≤ 122) ∨ (48 ≤ B q ∧ B q ≤ 57)
    · obtain ⟨k1, k2⟩ := tKn_1 (B := B) (len := len) (q := q) (by omega) hr
      have hb := lLD_b (B := B) (i := q) (tKn B len q)
      have eS : rS B len most stop q = rR B q (tKn B len q) := by unfold rS; rw [if_pos hq, if_pos hr]
      have eT : tS B len stop q = tkS B q (tKn B len q) := by unfold tS; rw [if_pos hq, if_pos hr]
      have eN : tN B len stop q = tkN B q (tKn B len q) := by unfold tN; rw [if_pos hq, if_pos hr]
      rw [eS] at a7
      rw [eS, eT, eN]
      generalize tKn B len q = K at *
      unfold rR at a7 ⊢
      unfold tkS tkN
      by_cases g1 : lL B q K = 0 ∧ lD B q K ≤ 3
      · rw [if_pos g1, if_pos g1, if_pos g1]; omega
      · rw [if_neg g1] at a7
        rw [if_neg g1, if_neg g1, if_neg g1]
        by_cases g2 : lD B q K = 0 ∧ lL B q K ≤ 7
        · rw [if_pos g2] at a7
          rw [if_pos g2, if_pos g2, if_pos g2]
          have hN := lCG_NmR (B := B) (q := q) (k := K) (by omega) k1 (by omega)
          rw [plN_eq 20 (fun i p1 p2 => keyR i p1 p2) hN 20 0 (by omega) (by omega), a7 rfl]
          constructor
          · intro ⟨q1, q2⟩
            have := plN_hit (f := rsvF) (w := lG B q K) 20 0 (by omega)
            rw [q2] at this
            exact ⟨rfl, this.symm⟩
          · intro ⟨_, q2⟩
            rw [q2, rsv_pl k h1 h2, if_neg (by omega)]
            exact ⟨rfl, rfl⟩
        · rw [if_neg g2, if_neg g2, if_neg g2]; omega
    · have e : sgF (B q) = 4 ∨ sgF (B q) = 5 := by unfold sgF; split <;> omega
      have eT : tS B len stop q = sgF (B q) := by unfold tS; rw [if_pos hq, if_neg hr]
      have eS : rS B len most stop q = sgF (B q) / 2 + 1 + (if sgF (B q) = 5 then 1 else 0) := by unfold rS; rw [if_pos hq, if_neg hr]
      rw [eT, eS]
      rcases e with e | e
      · rw [e, if_neg (by omega)]; omega
      · rw [e, if_pos rfl]; omega
  · rw [rS_end (by omega)]
    have eT : tS B len stop q = 0 := by unfold tS; rw [if_neg hq]
    rw [eT]
    by_cases g : most < len
    · rw [if_pos g]; omega
    · rw [if_neg g]; omega
end SPkk
