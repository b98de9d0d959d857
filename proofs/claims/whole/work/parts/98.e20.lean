section SPlk
variable {d1 k1 pc1 d2 k2 pc2 d : Nat} {L1 L2 : LV} {st1 st2 : List AV} {h1 h2 : HH} {P : Option AV → HH → Option AV → HH → Prop} {G : GG} {c c' : CC} {Q : Option AV → HH → Prop} {i k q w len most stop a b : Int} {j : Nat} {B f g : Int → Int}
theorem T_in {d k pc : Nat} {L : LV} {st : List AV} {h : HH} {Q : OO → HH → Prop} (x : T d k pc L st h Q) : ∃ (n : Nat) (o : OO) (h' : HH), ev n d k pc L st h = some (o, h') ∧ Q o h' := x
theorem T_mk {d k pc n : Nat} {L : LV} {st : List AV} {h h' : HH} {o : OO} {Q : OO → HH → Prop} (he : ev n d k pc L st h = some (o, h')) (hq : Q o h') : T d k pc L st h Q := ⟨n, o, h', he, hq⟩
theorem sw (h : T d2 k2 pc2 L2 st2 h2 (QM (fun r2 y2 => T d1 k1 pc1 L1 st1 h1 (QM (fun r1 y1 => P r1 y1 r2 y2))))) : T d1 k1 pc1 L1 st1 h1 (QM (fun r1 y1 => T d2 k2 pc2 L2 st2 h2 (QM (fun r2 y2 => P r1 y1 r2 y2)))) := by
  obtain ⟨n2, o2, y2, e2, q2⟩ := T_in h
  cases o2 with
  | inr z => exact False.elim q2
  | inl r2 =>
    obtain ⟨n1, o1, y1, e1, q1⟩ := T_in (show T d1 k1 pc1 L1 st1 h1 (QM (fun r1 y1 => P r1 y1 r2 y2)) from q2)
    cases o1 with
    | inr z => exact False.elim q1
    | inl r1 => exact T_mk e1 (show T d2 k2 pc2 L2 st2 h2 (QM (fun r2 y2 => P r1 y1 r2 y2)) from T_mk e2 q1)
theorem T_Qm {d k pc : Nat} {L : LV} {st : List AV} {h : HH} {Q Q' : Option AV → HH → Prop} (hq : ∀ r h', Q r h' → Q' r h') (x : T d k pc L st h (QM Q)) : T d k pc L st h (QM Q') :=
  T_mono (fun o h' y => by cases o with | inl r => exact hq r h' y | inr z => exact y) x
theorem TM_Qm {d k : Nat} {as : List AV} {h : HH} {Q Q' : Option AV → HH → Prop} (hq : ∀ r h', Q r h' → Q' r h') (x : TM d k as h Q) : TM d k as h Q' :=
  T_Qm hq x
theorem lV_b : ∀ k : Nat, 0 ≤ lV B q k ∧ (lD B q k ≤ 0 → lV B q k = 0) ∧ (lD B q k ≤ 1 → lV B q k < 10) ∧ (lD B q k ≤ 2 → lV B q k < 100) ∧ (lD B q k ≤ 3 → lV B q k < 1000) := by
  intro k
  induction k with
  | zero => unfold lV lD; omega
  | succ k ih =>
    have := lLD_b (B := B) (i := q) k
    unfold lV lD
    by_cases h : 48 ≤ B (q + k) ∧ B (q + k) ≤ 57
    · rw [if_pos h, if_pos h]; omega
    · rw [if_neg h, if_neg h]; omega
def Wt (B : Int → Int) (len most stop : Int) : Prop := (0 ≤ len ∧ len ≤ 940) ∧ (0 ≤ most ∧ most ≤ 940) ∧ (stop = if most < len then most else len) ∧ (0 ≤ stop ∧ stop ≤ len) ∧ ∀ i, 0 ≤ i → i < len → 0 ≤ B i ∧ B i ≤ 255
theorem tok_b (hW : Wt B len most stop) (h0 : 0 ≤ q) : (0 ≤ tS B len stop q ∧ tS B len stop q ≤ 5) ∧ (-1 ≤ tN B len stop q ∧ tN B len stop q ≤ 999) ∧ (tS B len stop q = 3 → 0 ≤ tN B len stop q) ∧ (tS B len stop q = 2 → 0 ≤ tN B len stop q ∧ tN B len stop q < 20) ∧ (0 ≤ tW B len stop q ∧ tW B len stop q < 34359738368) ∧ (0 ≤ tP stop q ∧ tP stop q ≤ 940) := by
  obtain ⟨⟨w1, w2⟩, w3, w4, ⟨w5, w6⟩, w7⟩ := hW
  unfold tS tN tW tP
  by_cases hq : q < stop
  · rw [if_pos hq, if_pos hq, if_pos hq, if_pos hq]
    by_cases hr : (97 ≤ B q ∧ B q ≤ 122) ∨ (48 ≤ B q ∧ B q ≤ 57)
    · rw [if_pos hr, if_pos hr, if_pos hr]
      have hb := lLD_b (B := B) (i := q) (tKn B len q)
      have hv := lV_b (B := B) (q := q) (tKn B len q)
      have hc := lC_b (B := B) (i := q) (tKn B len q)
      have hp := plN_b (f := q_keys) (w := lC B q (tKn B len q)) 20 0
      generalize tKn B len q = K at *
      unfold tkS tkN tkW
      generalize plN q_keys (lC B q K) 20 0 = p at *
      generalize lC B q K = C at *
      generalize lV B q K = V at *
      generalize lL B q K = LL at *
      generalize lD B q K = D at *
      by_cases g1 : LL = 0 ∧ D ≤ 3
      · rw [if_pos g1, if_pos g1, if_pos g1]; omega
      · rw [if_neg g1, if_neg g1, if_neg g1]
        by_cases g2 : D = 0 ∧ LL ≤ 7
        · rw [if_pos g2, if_pos g2, if_pos g2]
          by_cases g3 : p = -1
          · rw [if_pos g3]; omega
          · rw [if_neg g3]; omega
        · rw [if_neg g2, if_neg g2, if_neg g2]; omega
    · rw [if_neg hr, if_neg hr, if_neg hr]
      have := w7 q h0 (by omega)
      have e : sgF (B q) = 4 ∨ sgF (B q) = 5 := by unfold sgF; split <;> omega
      omega
  · rw [if_neg hq, if_neg hq, if_neg hq, if_neg hq]; omega
theorem W_up : ∀ (n : Nat) (l : List Int), l.length = n → (∀ a ∈ l, 97 ≤ a ∧ a ≤ 122) → W5 l < 32 ^ n ∧ W8 l < 256 ^ n := by
  intro n
  induction n with
  | zero =>
    intro l h1 h2
    rw [List.length_eq_zero_iff.mp h1]
    exact ⟨by decide, by decide⟩
  | succ n ih =>
    intro l h1 h2
    rcases List.eq_nil_or_concat l with rfl | ⟨m, x, rfl⟩
    · cases h1
    · rw [List.concat_eq_append] at h1 h2 ⊢
      rw [List.length_append] at h1
      have h3 : m.length = n := Nat.succ.inj h1
      have h4 := ih m h3 (fun a ha => h2 a (List.mem_append_left _ ha))
      have h5 := h2 x (List.mem_append_right _ (List.mem_singleton.mpr rfl))
      rw [W5_app, W8_app, Int.pow_succ, Int.pow_succ]
      omega
theorem NmR_b (h : NmR a b) : (0 ≤ a ∧ a < 34359738368) ∧ (0 ≤ b ∧ b < 72057594037927936) := by
  obtain ⟨l, ⟨l1, l2, v⟩, e1, e2⟩ := h
  have h1 := W_nn _ l rfl v
  have h2 := W_up _ l rfl v
  rw [e1, e2]
  have h3 : l.length = 1 ∨ l.length = 2 ∨ l.length = 3 ∨ l.length = 4 ∨ l.length = 5 ∨ l.length = 6 ∨ l.length = 7 := by omega
  rcases h3 with h3 | h3 | h3 | h3 | h3 | h3 | h3 <;> (rw [h3] at h2; simp only [Int.reducePow] at h2; omega)
abbrev zS (B : Int → Int) (len stop : Int) (j : Nat) : Int := tS B len stop (PP B len stop j)
abbrev pN (B : Int → Int) (len stop : Int) (j : Nat) : Int := tN B len stop (PP B len stop j)
abbrev pW (B : Int → Int) (len stop : Int) (j : Nat) : Int := tW B len stop (PP B len stop j)
abbrev pP (B : Int → Int) (len stop : Int) (j : Nat) : Int := tP stop (PP B len stop j)
theorem TA_e (h : TA c B len stop j) : c 2 10 = zS B len stop j ∧ c 2 11 = pP B len stop j ∧ c 2 12 = pN B len stop j ∧ c 2 13 = pW B len stop j := by
  obtain ⟨T, -, -, -, -, -, -, k10, k11, k12, k13, -⟩ := h
  exact ⟨k10, k11, k12, k13⟩
theorem p_b (hW : Wt B len most stop) (j : Nat) : (0 ≤ zS B len stop j ∧ zS B len stop j ≤ 5) ∧ (-1 ≤ pN B len stop j ∧ pN B len stop j ≤ 999) ∧ (zS B len stop j = 3 → 0 ≤ pN B len stop j) ∧ (zS B len stop j = 2 → 0 ≤ pN B len stop j ∧ pN B len stop j < 20) ∧ (0 ≤ pW B len stop j ∧ pW B len stop j < 34359738368) ∧ (0 ≤ pP B len stop j ∧ pP B len stop j ≤ 940) :=
  tok_b hW (PP_0 j hW.2.2.2.1.1)
theorem skE_b : i ≤ skE B stop i ∧ (skE B stop i ≤ stop ∨ skE B stop i = i) := by
  have sk : ∀ (n : Nat) (i : Int), stop - i ≤ n → i ≤ spN B stop n i ∧ (spN B stop n i ≤ stop ∨ spN B stop n i = i) := by
    intro n
    induction n with
    | zero => intro i h; exact ⟨Int.le_refl i, Or.inr rfl⟩
    | succ n ih =>
      intro i h
      unfold spN
      have := ih (i + 1) (by omega)
      split <;> omega
  unfold skE
  exact sk _ i (by omega)
theorem PP_up (hW : Wt B len most stop) (j : Nat) (h : ¬ zS B len stop j = 0) : PP B len stop j < stop ∧ PP B len stop j + 1 ≤ PP B len stop (j + 1) ∧ PP B len stop (j + 1) ≤ len := by
  obtain ⟨⟨w1, w2⟩, w3, w4, ⟨w5, w6⟩, w7⟩ := hW
  have h0 : PP B len stop j < stop := by
    by_cases g : PP B len stop j < stop
    · exact g
    · exact absurd (show tS B len stop (PP B len stop j) = 0 by unfold tS; rw [if_neg g]) h
  have h1 := tE_len (B := B) (len := len) w6 h0
  have e : PP B len stop (j + 1) = skE B stop (tE B len stop (PP B len stop j)) := rfl
  have h2 := skE_b (B := B) (stop := stop) (i := tE B len stop (PP B len stop j))
  have h3 : PP B len stop j + 1 ≤ tE B len stop (PP B len stop j) := by
    unfold tE
    rw [if_pos h0]
    by_cases hr : (97 ≤ B (PP B len stop j) ∧ B (PP B len stop j) ≤ 122) ∨ (48 ≤ B (PP B len stop j) ∧ B (PP B len stop j) ≤ 57)
    · rw [if_pos hr]
      have e5 : (len - PP B len stop j).toNat = (len - (PP B len stop j + 1)).toNat + 1 := by omega
      unfold reE
      rw [e5]
      unfold rnE
      rw [if_pos ⟨by omega, hr⟩]
      exact (rnE_b (B := B) (len := len) _ (PP B len stop j + 1)).1
    · rw [if_neg hr]; omega
  omega
end SPlk
