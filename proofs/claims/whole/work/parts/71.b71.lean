section SPS
variable {S : Int → Int} {s k i j n x y : Int}
abbrev SS : Type := Int → Int
def bt (x k : Int) : Int := q_and (q_shr x k) 1
def lsr (a b : Int) : Int := if a < b then a else b
def isAs (S : SS) (k i : Int) : Int := if S (197 + i) = 1 ∧ S (173 + i) = k + 1 then 1 else 0
def room (S : SS) (k : Int) : Int := S (9 + k) - sumI (isAs S k) (S 1)
def whyF (S : SS) (s k : Int) : Int := if 0 < S (173 + s) then 1 else if bt (S (51 + s)) k = 0 then 2 else if room S k = 0 then 3 else 0
def livesF (S : SS) (s k : Int) : SS := q_u1 (q_u1 S (173 + s) (k + 1)) (181 + s) (S (3 + k))
def bornF (S : SS) (s k : Int) : SS := q_u1 (q_u1 (q_u1 (livesF S s k) (197 + s) 1) (189 + s) (S (189 + s) + 1)) 171 (S 171 + 1)
def mtF (S : SS) (i j : Int) : Int := if 0 < S (173 + i) ∧ 0 < S (173 + j) then S (15 + 6 * S (173 + i) + S (173 + j) - 7) else 0
def fsF (S : SS) (i j : Int) : Int := lsr (mtF S i j) (S (205 + 8 * i + j))
def sdF (S : SS) (i j : Int) : Int := lsr (mtF S i j - fsF S i j) (S (205 + 8 * j + i))
def settF (S : SS) (i j : Int) : SS := q_u1 (q_u1 (q_u1 (q_u1 (q_u1 S (205 + 8 * i + j) (S (205 + 8 * i + j) - fsF S i j)) (205 + 8 * j + i) (S (205 + 8 * j + i) - sdF S i j)) (269 + 8 * i + j) (fsF S i j + sdF S i j)) (269 + 8 * j + i) (fsF S i j + sdF S i j)) 169 (S 169 + (fsF S i j + sdF S i j))
def rowF (i j : Int) (S : SS) : SS := if i < j then settF S i j else S
def pairsF (S : SS) : SS := loopI (fun i S => loopI (rowF i) (S 1) S) (S 1) S
def thenF (S : SS) (k : Int) : Int := lsr 99999 (S (205 + k) + S 2)
def growF (k : Int) (S : SS) : SS := if S (205 + k) = 0 then S else q_u1 (q_u1 S 170 (S 170 + (thenF S k - S (205 + k)))) (205 + k) (thenF S k)
def growsF (S : SS) : SS := loopI growF 64 S
def ageF (k : Int) (S : SS) : SS := if S (173 + k) = 0 then q_u1 S (197 + k) 0 else if S (181 + k) - 1 = 0 then q_u1 (q_u1 (q_u1 S (197 + k) 0) (181 + k) (S (181 + k) - 1)) (173 + k) 0 else q_u1 (q_u1 S (197 + k) 0) (181 + k) (S (181 + k) - 1)
def agesF (S : SS) : SS := loopI ageF (S 1) S
def tickF (S : SS) : SS := q_u1 (q_u1 S 168 (S 168 + 1)) 172 1
def dayF (S : SS) : SS := tickF (agesF (growsF (pairsF S)))
def clkL : Nat → Int → SS → Int → Int
  | 0, _, _, _ => -1
  | n + 1, k, S, s => if whyF S s k = 0 then k else clkL n (k + 1) S s
def clkF (S : SS) (s : Int) : Int := if 0 < S (59 + s) ∧ whyF S s (S (59 + s) - 1) = 0 then S (59 + s) - 1 else clkL (S 0).toNat 0 S s
def clk1 (s : Int) (S : SS) : SS := if 0 ≤ clkF S s then bornF S s (clkF S s) else S
def clksF (S : SS) : SS := loopI clk1 (S 1) S
def cdayF (S : SS) : SS := dayF (clksF S)
def daysF (n : Int) (S : SS) : SS := loopI (fun _ S => dayF S) n S
def cdaysF (n : Int) (S : SS) : SS := loopI (fun _ S => cdayF S) n S
def InvR (S : SS) : Prop :=
  (0 ≤ S 0 ∧ S 0 ≤ 6 ∧ 0 ≤ S 1 ∧ S 1 ≤ 8 ∧ 0 ≤ S 2 ∧ S 2 ≤ 9) ∧
  (∀ k, 0 ≤ k → k < S 0 → 1 ≤ S (3 + k) ∧ S (3 + k) ≤ 60 ∧ 1 ≤ S (9 + k) ∧ S (9 + k) ≤ 9) ∧
  (∀ k, 0 ≤ k → k < 36 → 0 ≤ S (15 + k) ∧ S (15 + k) ≤ 99) ∧
  (∀ x y, 0 ≤ x → x < 6 → 0 ≤ y → y < 6 → S (15 + 6 * x + y) = S (15 + 6 * y + x)) ∧
  (∀ s, 0 ≤ s → s < 8 → 0 ≤ S (51 + s) ∧ S (51 + s) < 64 ∧ 0 ≤ S (59 + s) ∧ S (59 + s) ≤ S 0) ∧
  (∀ i, 0 ≤ i → i < 64 → 0 ≤ S (67 + i) ∧ S (67 + i) ≤ 999) ∧
  (∀ x y, 0 ≤ x → x < 8 → 0 ≤ y → y < 8 → (S 1 ≤ x ∨ S 1 ≤ y ∨ x = y) → S (67 + 8 * x + y) = 0)
def InvL (S : SS) : Prop :=
  (∀ s, 0 ≤ s → s < 8 → 0 ≤ S (173 + s) ∧ S (173 + s) ≤ S 0 ∧ 0 ≤ S (181 + s) ∧ S (181 + s) ≤ 60 ∧ (S (173 + s) = 0 ↔ S (181 + s) = 0) ∧ 0 ≤ S (189 + s) ∧ 0 ≤ S (197 + s) ∧ S (197 + s) ≤ 1 ∧ (S (197 + s) = 1 → 0 < S (173 + s)) ∧ (S 1 ≤ s → S (173 + s) = 0 ∧ S (189 + s) = 0)) ∧
  (∀ s, 0 ≤ s → s < 8 → 0 < S (173 + s) → bt (S (51 + s)) (S (173 + s) - 1) = 1) ∧
  (∀ i, 0 ≤ i → i < 64 → 0 ≤ S (205 + i) ∧ S (205 + i) ≤ 99999) ∧
  (∀ x y, 0 ≤ x → x < 8 → 0 ≤ y → y < 8 → (S 1 ≤ x ∨ S 1 ≤ y ∨ x = y) → S (205 + 8 * x + y) = 0) ∧
  (∀ k, 0 ≤ k → k < S 0 → 0 ≤ room S k) ∧
  S 171 = sumI (fun i => S (189 + i)) 8 ∧
  (0 ≤ S 168 ∧ 0 ≤ S 169 ∧ 0 ≤ S 170) ∧
  (∀ x y, 0 ≤ x → x < 8 → 0 ≤ y → y < 8 → S (269 + 8 * x + y) = S (269 + 8 * y + x) ∧ 0 ≤ S (269 + 8 * x + y) ∧ S (269 + 8 * x + y) ≤ 99)
def Bd (S : SS) : Prop := S 169 ≤ 10000 * S 168 ∧ S 170 ≤ 10000 * S 168 ∧ (∀ s, 0 ≤ s → s < 8 → S (189 + s) ≤ S 168 + S (197 + s)) ∧ (S 172 = if 1 ≤ S 168 then 1 else 0)
def SmR (S S' : SS) : Prop := ∀ i, (i < 168 ∨ 333 ≤ i) → S' i = S i
theorem SmR_refl (S : SS) : SmR S S := fun _ _ => rfl
theorem SmR_tr {A B C : SS} (h1 : SmR A B) (h2 : SmR B C) : SmR A C := fun i hi => (h2 i hi).trans (h1 i hi)
theorem SmR_u1 {A B : SS} {i v : Int} (h : SmR A B) (h1 : 168 ≤ i) (h2 : i < 333) : SmR A (q_u1 B i v) := fun j hj => (u1_n (by omega)).trans (h j hj)
theorem SmR_loop {f : Int → SS → SS} (h : ∀ i, 0 ≤ i → i < n → ∀ X, SmR S X → SmR S (f i X)) : SmR S (loopI f n S) :=
  loopI_p (P := fun X => SmR S X) (SmR_refl S) (fun i y h1 h2 h3 => h i h1 h2 y h3)
theorem SmR_lives (h1 : 0 ≤ s) (h2 : s < 8) : SmR S (livesF S s k) := by
  unfold livesF
  exact SmR_u1 (SmR_u1 (SmR_refl S) (by omega) (by omega)) (by omega) (by omega)
theorem SmR_born (h1 : 0 ≤ s) (h2 : s < 8) : SmR S (bornF S s k) := by
  unfold bornF
  exact SmR_u1 (SmR_u1 (SmR_u1 (SmR_lives h1 h2) (by omega) (by omega)) (by omega) (by omega)) (by omega) (by omega)
theorem SmR_sett (h1 : 0 ≤ i) (h2 : i < 8) (h3 : 0 ≤ j) (h4 : j < 8) : SmR S (settF S i j) := by
  unfold settF
  exact SmR_u1 (SmR_u1 (SmR_u1 (SmR_u1 (SmR_u1 (SmR_refl S) (by omega) (by omega)) (by omega) (by omega)) (by omega) (by omega)) (by omega) (by omega)) (by omega) (by omega)
theorem SmR_row (h1 : 0 ≤ i) (h2 : i < 8) (h3 : 0 ≤ j) (h4 : j < 8) : SmR S (rowF i j S) := by
  unfold rowF
  split
  · exact SmR_sett h1 h2 h3 h4
  · exact SmR_refl S
theorem SmR_rows (h1 : 0 ≤ i) (h2 : i < 8) (h3 : n ≤ 8) : SmR S (loopI (rowF i) n S) :=
  SmR_loop (fun j h4 h5 X hX => SmR_tr hX (SmR_row h1 h2 h4 (by omega)))
theorem SmR_pairs (h : S 1 ≤ 8) : SmR S (pairsF S) :=
  SmR_loop (fun i h1 h2 X hX => SmR_tr hX (SmR_rows h1 (by omega) (by rw [hX 1 (by omega)]; omega)))
theorem SmR_grow (h1 : 0 ≤ k) (h2 : k < 64) : SmR S (growF k S) := by
  unfold growF
  split
  · exact SmR_refl S
  · exact SmR_u1 (SmR_u1 (SmR_refl S) (by omega) (by omega)) (by omega) (by omega)
theorem SmR_grows : SmR S (growsF S) := SmR_loop (fun k h1 h2 X hX => SmR_tr hX (SmR_grow h1 h2))
theorem SmR_age (h1 : 0 ≤ k) (h2 : k < 8) : SmR S (ageF k S) := by
  unfold ageF
  split
  · exact SmR_u1 (SmR_refl S) (by omega) (by omega)
  · split
    · exact SmR_u1 (SmR_u1 (SmR_u1 (SmR_refl S) (by omega) (by omega)) (by omega) (by omega)) (by omega) (by omega)
    · exact SmR_u1 (SmR_u1 (SmR_refl S) (by omega) (by omega)) (by omega) (by omega)
theorem SmR_ages (h : S 1 ≤ 8) : SmR S (agesF S) := SmR_loop (fun k h1 h2 X hX => SmR_tr hX (SmR_age h1 (by omega)))
theorem SmR_tick : SmR S (tickF S) := SmR_u1 (SmR_u1 (SmR_refl S) (by omega) (by omega)) (by omega) (by omega)
theorem SmR_day (h : S 1 ≤ 8) : SmR S (dayF S) := by
  have h1 := SmR_pairs h
  have h2 := SmR_tr h1 SmR_grows
  exact SmR_tr (SmR_tr h2 (SmR_ages (by rw [h2 1 (by omega)]; exact h))) SmR_tick
theorem SmR_clk1 (h1 : 0 ≤ s) (h2 : s < 8) : SmR S (clk1 s S) := by
  unfold clk1
  split
  · exact SmR_born h1 h2
  · exact SmR_refl S
theorem SmR_clks (h : S 1 ≤ 8) : SmR S (clksF S) := SmR_loop (fun k h1 h2 X hX => SmR_tr hX (SmR_clk1 h1 (by omega)))
theorem SmR_cday (h : S 1 ≤ 8) : SmR S (cdayF S) := by
  have h1 := SmR_clks h
  exact SmR_tr h1 (SmR_day (by rw [h1 1 (by omega)]; exact h))
theorem SmR_days (h : S 1 ≤ 8) : SmR S (daysF n S) := SmR_loop (fun k h1 h2 X hX => SmR_tr hX (SmR_day (by rw [hX 1 (by omega)]; exact h)))
theorem SmR_cdays (h : S 1 ≤ 8) : SmR S (cdaysF n S) := SmR_loop (fun k h1 h2 X hX => SmR_tr hX (SmR_cday (by rw [hX 1 (by omega)]; exact h)))
theorem InvR_sm {S S' : SS} (h : SmR S S') (hI : InvR S) : InvR S' := by
  obtain ⟨a1, a2, a3, a4, a5, a6, a7⟩ := hI
  have e0 := h 0 (by omega)
  have e1 := h 1 (by omega)
  have e2 := h 2 (by omega)
  refine ⟨?_, ?_, ?_, ?_, ?_, ?_, ?_⟩
  · rw [e0, e1, e2]; exact a1
  · intro k h1 h2
    rw [h (3 + k) (by omega), h (9 + k) (by omega)]
    exact a2 k h1 (by omega)
  · intro k h1 h2
    rw [h (15 + k) (by omega)]
    exact a3 k h1 h2
  · intro x y h1 h2 h3 h4
    rw [h (15 + 6 * x + y) (by omega), h (15 + 6 * y + x) (by omega)]
    exact a4 x y h1 h2 h3 h4
  · intro s h1 h2
    rw [h (51 + s) (by omega), h (59 + s) (by omega), e0]
    exact a5 s h1 h2
  · intro i h1 h2
    rw [h (67 + i) (by omega)]
    exact a6 i h1 h2
  · intro x y h1 h2 h3 h4 h5
    rw [h (67 + 8 * x + y) (by omega)]
    exact a7 x y h1 h2 h3 h4 (by omega)
end SPS
