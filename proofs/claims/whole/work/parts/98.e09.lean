section SPtk
variable {d r n0 : Nat} {G : GG} {c c' : CC} {Q : Option AV → HH → Prop} {v1 i j k n s t p w x y len N : Int} {B f : Int → Int}
def I64 (x : Int) : Prop := -9223372036854775808 ≤ x ∧ x < 9223372036854775808
def plN (f : Int → Int) (w : Int) : Nat → Int → Int
  | 0, _ => -1
  | n + 1, i => if f i = w then i else plN f w n (i + 1)
theorem c_placeN (hG : Shp G) (ho : okR G r 21) (hn : lnR G r n0) (hb : n0 ≤ 3000) (hN : N ≤ (n0 : Int)) (hw : I64 w) (hf : ∀ i, 0 ≤ i → i < N → c r i = f i ∧ I64 (f i)) : ∀ (k : Nat) (i : Int), 0 ≤ i → i + k = N → (Q (some (aI (plN f w k i))) (G, c)) → T d 108 3 [some (aL w), none, some (aR r), some (aI N), some (aI i)] [] (G, c) (QM Q) := by
  unfold I64 at hw hf
  intro k
  induction k with
  | zero =>
    intro i h1 h2 hz
    have h3 : c r i = c r i := rfl
    refine b108_3 hG (by first | assumption | omega) (by first | assumption | omega) (by first | assumption | omega) (by intros; omega) (by intros; omega) ?_ (by intros; omega) ?_ (by intros; omega) (by intros; omega) rfl (by intros; omega) (by intros; omega) (by intros; omega) ?_ ?_
    · intro q; exact hz
    · intro q; omega
    · intro q; omega
    · intro q; omega
  | succ k ih =>
    intro i h1 h2 hz
    obtain ⟨g1, g2⟩ := hf i h1 (by omega)
    unfold plN at hz
    refine b108_3 hG (by first | assumption | omega) (by first | assumption | omega) (by first | assumption | omega) (by intros; omega) (by intros; omega) ?_ (by intros; omega) ?_ (by intros; omega) (by intros; omega) (g1) (by intros; omega) (by intros; omega) (by intros; split <;> (try split) <;> omega) ?_ ?_
    · intro q; omega
    · intro q; omega
    · intro q1 q2 q3
      have hne : ¬ f i = w := by
        intro h
        apply q3
        rw [if_neg (by omega), if_pos h]
      rw [if_neg hne] at hz
      exact ih (i + 1) (by omega) (by omega) hz
    · intro q1 q2 q3
      have he : f i = w := by
        by_cases h : f i = w
        · exact h
        · exfalso
          by_cases h5 : f i < w
          · rw [if_pos h5] at q3; omega
          · rw [if_neg h5, if_neg h] at q3; omega
      rw [if_pos he] at hz
      exact hz
theorem c_place (hG : Shp G) (ho : okR G r 21) (hn : lnR G r n0) (hb : n0 ≤ 3000) (h0 : 0 ≤ N) (hN : N ≤ (n0 : Int)) (hw : I64 w) (hf : ∀ i, 0 ≤ i → i < N → c r i = f i ∧ I64 (f i)) (hz : Q (some (aI (plN f w N.toNat 0))) (G, c)) : TM d 108 [aL w, aR r, aI N] (G, c) Q := by
  refine b108_0 hG (by first | assumption | omega) (by first | assumption | omega) (by first | assumption | omega) ?_
  exact c_placeN hG ho hn hb hN hw hf N.toNat 0 (by omega) (by omega) hz
def adT (c : CC) (t s p n w : Int) : CC := q_up (q_up (q_up (q_up (q_up c 5 t s) 6 t p) 7 t n) 8 t w) 2 7 (t + 1)
theorem c_addTok (hG : Shp G) (et : c 2 7 = t) (ht : 0 ≤ t ∧ t ≤ 940) (hz : Q none (G, adT c t s p n w)) : TM d 97 [aR 2, aI s, aI p, aI n, aL w] (G, c) Q := by
  refine b97_0 hG (et) (by intros; omega) ?_ (et) (by intros; omega) (by intros; omega) ((up_n (by omega)).trans et) (by intros; omega) (by intros; omega) ((up_n (by omega)).trans ((up_n (by omega)).trans et)) (by intros; omega) (by intros; omega) ((up_n (by omega)).trans ((up_n (by omega)).trans ((up_n (by omega)).trans et))) (by intros; omega) (by intros; omega) ((up_n (by omega)).trans ((up_n (by omega)).trans ((up_n (by omega)).trans ((up_n (by omega)).trans et)))) ?_
  · intro q; omega
  · intro q; exact hz
def rnE (B : Int → Int) (len : Int) : Nat → Int → Int
  | 0, i => i
  | n + 1, i => if i < len ∧ ((97 ≤ B i ∧ B i ≤ 122) ∨ (48 ≤ B i ∧ B i ≤ 57)) then rnE B len n (i + 1) else i
def reE (B : Int → Int) (len i : Int) : Int := rnE B len (len - i).toNat i
def lL (B : Int → Int) (i : Int) : Nat → Int
  | 0 => 0
  | n + 1 => lL B i n + (if 97 ≤ B (i + n) ∧ B (i + n) ≤ 122 then 1 else 0)
def lD (B : Int → Int) (i : Int) : Nat → Int
  | 0 => 0
  | n + 1 => lD B i n + (if 48 ≤ B (i + n) ∧ B (i + n) ≤ 57 then 1 else 0)
def lV (B : Int → Int) (i : Int) : Nat → Int
  | 0 => 0
  | n + 1 => if 48 ≤ B (i + n) ∧ B (i + n) ≤ 57 then lV B i n * 10 + (B (i + n) - 48) else lV B i n
def lC (B : Int → Int) (i : Int) : Nat → Int
  | 0 => 0
  | n + 1 => if 97 ≤ B (i + n) ∧ B (i + n) ≤ 122 then lC B i n * 32 + ((B (i + n) - 97) + 1) else lC B i n
theorem lLD_b : ∀ k : Nat, 0 ≤ lL B i k ∧ lL B i k ≤ k ∧ 0 ≤ lD B i k ∧ lD B i k ≤ k := by
  intro k
  induction k with
  | zero => unfold lL lD; omega
  | succ k ih =>
    unfold lL lD
    split <;> split <;> omega
theorem lC_b : ∀ k : Nat, 0 ≤ lC B i k ∧ (lL B i k ≤ 0 → lC B i k = 0) ∧ (lL B i k ≤ 1 → lC B i k < 32) ∧ (lL B i k ≤ 2 → lC B i k < 1024) ∧ (lL B i k ≤ 3 → lC B i k < 32768) ∧ (lL B i k ≤ 4 → lC B i k < 1048576) ∧ (lL B i k ≤ 5 → lC B i k < 33554432) ∧ (lL B i k ≤ 6 → lC B i k < 1073741824) ∧ (lL B i k ≤ 7 → lC B i k < 34359738368) := by
  intro k
  induction k with
  | zero => unfold lL lC; omega
  | succ k ih =>
    have := lLD_b (B := B) (i := i) k
    unfold lL lC
    by_cases h : 97 ≤ B (i + k) ∧ B (i + k) ≤ 122
    · rw [if_pos h, if_pos h]; omega
    · rw [if_neg h, if_neg h]; omega
theorem rnE_b : ∀ (n : Nat) (i : Int), i ≤ rnE B len n i ∧ rnE B len n i ≤ i + n := by
  intro n
  induction n with
  | zero => intro i; unfold rnE; omega
  | succ n ih =>
    intro i
    unfold rnE
    have := ih (i + 1)
    split <;> omega
def tkS (B : Int → Int) (i : Int) (k : Nat) : Int := if lL B i k = 0 ∧ lD B i k ≤ 3 then 3 else if lD B i k = 0 ∧ lL B i k ≤ 7 then (if plN q_keys (lC B i k) 20 0 = -1 then 1 else 2) else 5
def tkN (B : Int → Int) (i : Int) (k : Nat) : Int := if lL B i k = 0 ∧ lD B i k ≤ 3 then lV B i k else if lD B i k = 0 ∧ lL B i k ≤ 7 then plN q_keys (lC B i k) 20 0 else 0
def tkW (B : Int → Int) (i : Int) (k : Nat) : Int := if lL B i k = 0 ∧ lD B i k ≤ 3 then 0 else if lD B i k = 0 ∧ lL B i k ≤ 7 then lC B i k else 0
theorem plN_b : ∀ (k : Nat) (i : Int), plN f w k i = -1 ∨ (i ≤ plN f w k i ∧ plN f w k i < i + k) := by
  intro k
  induction k with
  | zero => intro i; exact Or.inl rfl
  | succ k ih =>
    intro i
    unfold plN
    have := ih (i + 1)
    split <;> omega
theorem keys64 : ∀ i, 0 ≤ i → i < 20 → I64 (q_keys i) := by
  intro i h1 h2
  have hi : i = 0 ∨ i = 1 ∨ i = 2 ∨ i = 3 ∨ i = 4 ∨ i = 5 ∨ i = 6 ∨ i = 7 ∨ i = 8 ∨ i = 9 ∨ i = 10 ∨ i = 11 ∨ i = 12 ∨ i = 13 ∨ i = 14 ∨ i = 15 ∨ i = 16 ∨ i = 17 ∨ i = 18 ∨ i = 19 := by omega
  unfold I64
  rcases hi with rfl | rfl | rfl | rfl | rfl | rfl | rfl | rfl | rfl | rfl | rfl | rfl | rfl | rfl | rfl | rfl | rfl | rfl | rfl | rfl <;> decide +kernel
theorem c_addRun (hG : Shp G) (hB : ∀ i, 0 ≤ i → i < len → c 3 i = B i ∧ 0 ≤ B i ∧ B i ≤ 255) (e1 : c 2 1 = len) (hl : len ≤ 940) (hk : ∀ i, 0 ≤ i → i < 20 → c 4 i = q_keys i) (et : c 2 7 = t) (ht : 0 ≤ t ∧ t ≤ 940) (h0 : 0 ≤ v1 ∧ v1 < len) (hz : Q (some (aI (reE B len v1))) (G, adT c t (tkS B v1 (reE B len v1 - v1).toNat) v1 (tkN B v1 (reE B len v1 - v1).toNat) (tkW B v1 (reE B len v1 - v1).toNat))) : TM (d + 1) 96 [aR 2, aI v1] (G, c) Q := by
  have ho : okR G 4 21 := sh_ok hG (by decide +kernel)
  have hn : lnR G 4 20 := sh_ln hG (by decide +kernel)
  have fin : ∀ k : Nat, reE B len v1 = v1 + k →
      (lL B v1 k = 0 → lD B v1 k ≤ 3 → TM d 97 [aR 2, aI 3, aI v1, aI (lV B v1 k), aL 0] (G, c) (fun r h' => T (d + 1) 96 110 [none, none, none, none, none, none, none, some (aI (v1 + k)), none] (r.toList ++ []) h' (QM Q))) ∧
      (¬ lL B v1 k = 0 → lD B v1 k = 0 → lL B v1 k ≤ 7 → TM d 108 [aL (lC B v1 k), aR 4, aI 20] (G, c) (fun r h' => T (d + 1) 96 134 [some (aR 2), some (aI v1), none, none, none, some (aL (lC B v1 k)), none, some (aI (v1 + k)), none] (r.toList ++ []) h' (QM Q))) ∧
      (((¬ lL B v1 k = 0 ∧ (¬ lD B v1 k = 0 ∨ 7 < lL B v1 k)) ∨ (lL B v1 k = 0 ∧ 3 < lD B v1 k)) → TM d 97 [aR 2, aI 5, aI v1, aI 0, aL 0] (G, c) (fun r h' => T (d + 1) 96 167 [none, none, none, none, none, none, none, some (aI (v1 + k)), none] (r.toList ++ []) h' (QM Q))) := by
    intro k he
    have hkk : (reE B len v1 - v1).toNat = k := by omega
    rw [hkk, he] at hz
    unfold tkS tkN tkW at hz
    have hb := lLD_b (B := B) (i := v1) k
    refine ⟨fun q1 q2 => ?_, fun q1 q2 q3 => ?_, fun q => ?_⟩
    · have h1 : lL B v1 k = 0 ∧ lD B v1 k ≤ 3 := ⟨q1, q2⟩
      rw [if_pos h1, if_pos h1, if_pos h1] at hz
      refine c_addTok hG et ht ?_
      refine b96_110 hG ?_
      refine b96_167 hG ?_
      exact hz
    · have h1 : ¬ (lL B v1 k = 0 ∧ lD B v1 k ≤ 3) := by omega
      have h2 : lD B v1 k = 0 ∧ lL B v1 k ≤ 7 := ⟨q2, q3⟩
      rw [if_neg h1, if_neg h1, if_neg h1, if_pos h2, if_pos h2, if_pos h2] at hz
      have hw := lC_b (B := B) (i := v1) k
      have hw64 : I64 (lC B v1 k) := by unfold I64; omega
      refine c_place hG ho hn (by omega) (by omega) (by omega) hw64 (fun i p1 p2 => ⟨hk i p1 p2, keys64 i p1 p2⟩) ?_
      have hp := plN_b (f := q_keys) (w := lC B v1 k) 20 0
      have e20 : (20 : Int).toNat = 20 := rfl
      rw [e20]
      generalize plN q_keys (lC B v1 k) 20 0 = u at *
      refine b96_134 hG TM_eqo (by intros; omega) ?_ ?_
      · intro q
        rw [if_neg q] at hz
        refine c_addTok hG et ht ?_
        refine b96_156 hG ?_
        refine b96_167 hG ?_
        exact hz
      · intro q
        rw [if_pos q] at hz
        refine c_addTok hG et ht ?_
        refine b96_156 hG ?_
        refine b96_167 hG ?_
        exact hz
    · have h1 : ¬ (lL B v1 k = 0 ∧ lD B v1 k ≤ 3) := by omega
      have h2 : ¬ (lD B v1 k = 0 ∧ lL B v1 k ≤ 7) := by omega
      rw [if_neg h1, if_neg h1, if_neg h1, if_neg h2, if_neg h2, if_neg h2] at hz
      refine c_addTok hG et ht ?_
      refine b96_167 hG ?_
      exact hz
  have key : ∀ (n k : Nat), v1 + k + n = len → reE B len v1 = rnE B len n (v1 + k) → T (d + 1) 96 13 [some (aR 2), some (aI v1), some (aI (lL B v1 k)), some (aI (lD B v1 k)), some (aI (lV B v1 k)), some (aL (lC B v1 k)), none, some (aI (v1 + k)), none] [] (G, c) (QM Q) := by
    intro n
    induction n with
    | zero =>
      intro k h1 h2
      obtain ⟨f1, f2, f3⟩ := fin k h2
      have hb := lLD_b (B := B) (i := v1) k
      refine b96_13 hG TM_eqo (e1) (by intros; omega) (by intros; omega) (by intros; omega) (by intros; omega) ?_ ?_ ?_ (by intros; omega) ?_ ?_ ?_ ?_ (by intros; omega) (by intros; omega) ?_ ?_ ?_ (by intros; omega) ?_ ?_ ?_ ?_ (by intros; omega) (by intros; omega) rfl ?_
      all_goals intros
      all_goals first | exact f1 (by omega) (by omega) | exact f2 (by omega) (by omega) (by omega) | exact f3 (by omega) | omega
    | succ n ih =>
      intro k h1 h2
      have hb := lLD_b (B := B) (i := v1) k
      obtain ⟨g1, g2, g3⟩ := hB (v1 + k) (by omega) (by omega)
      have hv : v1 + ((k + 1 : Nat) : Int) = v1 + k + 1 := by omega
      have ih := ih (k + 1) (by omega)
      rw [hv] at ih
      unfold rnE at h2
      have eL : lL B v1 (k + 1) = lL B v1 k + (if 97 ≤ B (v1 + k) ∧ B (v1 + k) ≤ 122 then 1 else 0) := rfl
      have eD : lD B v1 (k + 1) = lD B v1 k + (if 48 ≤ B (v1 + k) ∧ B (v1 + k) ≤ 57 then 1 else 0) := rfl
      have eV : lV B v1 (k + 1) = if 48 ≤ B (v1 + k) ∧ B (v1 + k) ≤ 57 then lV B v1 k * 10 + (B (v1 + k) - 48) else lV B v1 k := rfl
      have eC : lC B v1 (k + 1) = if 97 ≤ B (v1 + k) ∧ B (v1 + k) ≤ 122 then lC B v1 k * 32 + ((B (v1 + k) - 97) + 1) else lC B v1 k := rfl
      rw [eL, eD, eV, eC] at ih
      have fin := fin k
      generalize B (v1 + k) = b at *
      have lt : 97 ≤ b ∧ b ≤ 122 → T (d + 1) 96 44 [some (aR 2), some (aI v1), some (aI (lL B v1 k)), some (aI (lD B v1 k)), some (aI (lV B v1 k)), some (aL (lC B v1 k)), none, some (aI (v1 + k)), some (aI b)] [aI 1] (G, c) (QM Q) := by
        intro q
        rw [if_pos q, if_neg (by omega), if_neg (by omega), if_pos q] at ih
        rw [if_pos (by omega)] at h2
        have ih := ih h2
        refine b96_44 hG TM_eqo (by intros; omega) ?_ ?_
        · intro q2; omega
        · intro q2
          refine b156_0 hG (by intros; omega) ?_
          refine b96_57 hG ?_
          rw [show lD B v1 k + 0 = lD B v1 k by omega] at ih
          exact ih
      have nl : ¬ (97 ≤ b ∧ b ≤ 122) → T (d + 1) 96 44 [some (aR 2), some (aI v1), some (aI (lL B v1 k)), some (aI (lD B v1 k)), some (aI (lV B v1 k)), some (aL (lC B v1 k)), none, some (aI (v1 + k)), some (aI b)] [aI 0] (G, c) (QM Q) := by
        intro q
        have dg : 48 ≤ b ∧ b ≤ 57 → T (d + 1) 96 67 [some (aR 2), some (aI v1), some (aI (lL B v1 k)), some (aI (lD B v1 k)), some (aI (lV B v1 k)), some (aL (lC B v1 k)), none, some (aI (v1 + k)), some (aI b)] [aI 1] (G, c) (QM Q) := by
          intro q2
          rw [if_neg q, if_pos q2, if_pos q2, if_neg q] at ih
          rw [if_pos (by omega)] at h2
          have ih := ih h2
          rw [show lL B v1 k + 0 = lL B v1 k by omega] at ih
          refine b96_67 hG TM_eqo (by intros; omega) (by intros; omega) (by intros; omega) ?_ ?_ ?_ (by intros; omega) ?_ ?_ ?_ ?_ ?_
          all_goals intros
          all_goals first | exact ih | omega
        have nd : ¬ (48 ≤ b ∧ b ≤ 57) → T (d + 1) 96 67 [some (aR 2), some (aI v1), some (aI (lL B v1 k)), some (aI (lD B v1 k)), some (aI (lV B v1 k)), some (aL (lC B v1 k)), none, some (aI (v1 + k)), some (aI b)] [aI 0] (G, c) (QM Q) := by
          intro q2
          rw [if_neg (by omega)] at h2
          obtain ⟨f1, f2, f3⟩ := fin h2
          refine b96_67 hG TM_eqo (by intros; omega) (by intros; omega) (by intros; omega) ?_ ?_ ?_ (by intros; omega) ?_ ?_ ?_ ?_ ?_
          all_goals intros
          all_goals first | exact f1 (by omega) (by omega) | exact f2 (by omega) (by omega) (by omega) | exact f3 (by omega) | omega
        refine b96_44 hG TM_eqo (by intros; omega) ?_ ?_
        · intro q2
          refine b154_0 hG (by intros; omega) ?_ ?_ ?_
          · intro q3; exact nd (by omega)
          · intro q3 q4; exact nd (by omega)
          · intro q3 q4; exact dg (by omega)
        · intro q2; omega
      refine b96_13 hG TM_eqo (e1) (by intros; omega) (by intros; omega) (by intros; omega) (by intros; omega) ?_ ?_ ?_ (by intros; omega) ?_ ?_ ?_ ?_ (by intros; omega) (by intros; omega) ?_ ?_ ?_ (by intros; omega) ?_ ?_ ?_ ?_ (by intros; omega) (by intros; omega) (g1) ?_
      all_goals intros
      all_goals first | omega | skip
      refine b153_0 hG (by intros; omega) ?_ ?_ ?_
      · intro q3; exact nl (by omega)
      · intro q3 q4; exact nl (by omega)
      · intro q3 q4; exact lt (by omega)
  refine b96_0 hG ?_
  have := key (len - v1).toNat 0 (by omega) (by rw [show v1 + ((0 : Nat) : Int) = v1 by omega]; rfl)
  rw [show v1 + ((0 : Nat) : Int) = v1 by omega] at this
  exact this
end SPtk
