section SPsg
variable {c c' : CC} {i q k w len most stop b : Int} {B f : Int → Int}
theorem tok_iff (hs : stop ≤ len) (hm : most < len → stop = most) (hm2 : ¬ most < len → stop = len) (h : RQ c B len most stop q) :
    ((tS B len stop q = 0 ∧ ¬ most < len) ↔ c 188 11 = 0) ∧ (tS B len stop q = 4 ↔ c 188 11 = 3) ∧ (c 188 11 = 3 → c 188 14 = tN B len stop q) ∧ (tS B len stop q = 3 ↔ c 188 11 = 2) ∧ (c 188 11 = 2 → c 188 14 = tN B len stop q) ∧ ((tS B len stop q = 1 ∨ tS B len stop q = 2) ↔ c 188 11 = 1) ∧ (c 188 11 = 1 → NmR (tW B len stop q) (c 188 17)) := by
  obtain ⟨a1, a2, a3, a4, a5, a6, a7⟩ := h
  rw [a1]
  by_cases hq : q < stop
  · by_cases hr : (97 ≤ B q ∧ B q ≤ 122) ∨ (48 ≤ B q ∧ B q ≤ 57)
    · obtain ⟨k1, k2⟩ := tKn_1 (B := B) (len := len) (q := q) (by omega) hr
      have hb := lLD_b (B := B) (i := q) (tKn B len q)
      have eS : rS B len most stop q = rR B q (tKn B len q) := by unfold rS; rw [if_pos hq, if_pos hr]
      have eT : tS B len stop q = tkS B q (tKn B len q) := by unfold tS; rw [if_pos hq, if_pos hr]
      have eN : tN B len stop q = tkN B q (tKn B len q) := by unfold tN; rw [if_pos hq, if_pos hr]
      have eW : tW B len stop q = tkW B q (tKn B len q) := by unfold tW; rw [if_pos hq, if_pos hr]
      rw [eS] at a5 a7
      rw [eS, eT, eN, eW]
      clear eS eT eN eW a1 a2 a3 a4 a6
      generalize tKn B len q = K at *
      unfold rR at a5 a7 ⊢
      unfold tkS tkN tkW
      by_cases g1 : lL B q K = 0 ∧ lD B q K ≤ 3
      · rw [if_pos g1] at a5
        simp only [if_pos g1]
        exact ⟨by first | omega | simp, by first | omega | simp, fun h => by first | omega | simp at h, by first | omega | simp, fun _ => a5 rfl, by first | omega | simp, fun h => by first | omega | simp at h⟩
      · rw [if_neg g1] at a7
        simp only [if_neg g1]
        by_cases g2 : lD B q K = 0 ∧ lL B q K ≤ 7
        · rw [if_pos g2] at a7
          simp only [if_pos g2]
          have hN := lCG_NmR (B := B) (q := q) (k := K) (by omega) k1 (by omega)
          have e12 : (if plN q_keys (lC B q K) 20 0 = -1 then (1 : Int) else 2) = 1 ∨ (if plN q_keys (lC B q K) 20 0 = -1 then (1 : Int) else 2) = 2 := by split <;> omega
          exact ⟨by omega, by omega, fun h => by omega, by omega, fun h => by omega, ⟨fun _ => (by first | rfl | trivial), fun _ => e12⟩, fun _ => by rw [a7 rfl]; exact hN⟩
        · simp only [if_neg g2]
          exact ⟨by omega, by omega, fun h => by omega, by omega, fun h => by omega, by omega, fun h => by omega⟩
    · have e : sgF (B q) = 4 ∨ sgF (B q) = 5 := by unfold sgF; split <;> omega
      have eT : tS B len stop q = sgF (B q) := by unfold tS; rw [if_pos hq, if_neg hr]
      have eN : tN B len stop q = B q := by unfold tN; rw [if_pos hq, if_neg hr]
      have eS : rS B len most stop q = sgF (B q) / 2 + 1 + (if sgF (B q) = 5 then 1 else 0) := by unfold rS; rw [if_pos hq, if_neg hr]
      rw [eT, eN]
      rcases e with e | e
      · rw [e, if_neg (by omega)] at eS
        rw [e]
        exact ⟨by omega, by omega, fun h => a6 h, by omega, fun h => by omega, by omega, fun h => by omega⟩
      · rw [e, if_pos rfl] at eS
        rw [e]
        exact ⟨by omega, by omega, fun h => by omega, by omega, fun h => by omega, by omega, fun h => by omega⟩
  · have eS := rS_end (B := B) (len := len) (most := most) (stop := stop) (q := q) (by omega)
    have eT : tS B len stop q = 0 := by unfold tS; rw [if_neg hq]
    rw [eT]
    by_cases g : most < len
    · rw [if_pos g] at eS
      exact ⟨by omega, by omega, fun h => by omega, by omega, fun h => by omega, by omega, fun h => by omega⟩
    · rw [if_neg g] at eS
      exact ⟨by omega, by omega, fun h => by omega, by omega, fun h => by omega, by omega, fun h => by omega⟩
end SPsg
