section SPm1
variable {S X : SS} {i j k n m g x y a b N q : Int}
def PS (f : Int → Int → Int) (N : Int) : Int := sumI (fun i => sumI (fun j => if i < j then f i j else 0) N) N
theorem PS_c {f f' : Int → Int → Int} (h : ∀ i j, 0 ≤ i → i < j → j < N → f i j = f' i j) : PS f N = PS f' N := by
  unfold PS
  refine sumI_c (fun i h1 h2 => sumI_c (fun j h3 h4 => ?_))
  by_cases hij : i < j
  · rw [if_pos hij, if_pos hij]; exact h i j h1 hij h4
  · rw [if_neg hij, if_neg hij]
theorem PS_add {f f' : Int → Int → Int} : PS (fun i j => f i j + f' i j) N = PS f N + PS f' N := by
  unfold PS
  rw [← sumI_add]
  refine sumI_c (fun i h1 h2 => ?_)
  show sumI (fun j => if i < j then f i j + f' i j else 0) N = sumI _ N + sumI _ N
  rw [← sumI_add]
  refine sumI_c (fun j h3 h4 => ?_)
  show (if i < j then f i j + f' i j else 0) = (if i < j then f i j else 0) + (if i < j then f' i j else 0)
  by_cases hij : i < j
  · rw [if_pos hij, if_pos hij, if_pos hij]
  · rw [if_neg hij, if_neg hij, if_neg hij]; omega
theorem PS_0 {f : Int → Int → Int} (hN : 0 ≤ N) (h : ∀ i j, 0 ≤ i → i < j → j < N → f i j = 0) : PS f N = 0 := by
  have e : PS f N = PS (fun _ _ => 0) N := PS_c h
  rw [e]
  show sumI (fun i => sumI (fun j => if i < j then (0 : Int) else 0) N) N = 0
  have z : ∀ i : Int, sumI (fun j => if i < j then (0 : Int) else 0) N = 0 := fun i => by
    have h1 := sumI_lo (f := fun j => if i < j then (0 : Int) else 0) (n := N) (lo := 0) hN (fun j _ _ => by show (0 : Int) ≤ if i < j then 0 else 0; split <;> omega)
    have h2 := sumI_hi (f := fun j => if i < j then (0 : Int) else 0) (n := N) (hi := 0) hN (fun j _ _ => by show (if i < j then (0 : Int) else 0) ≤ 0; split <;> omega)
    omega
  have h1 := sumI_lo (f := fun i => sumI (fun j => if i < j then (0 : Int) else 0) N) (n := N) (lo := 0) hN (fun i _ _ => by show (0 : Int) ≤ sumI _ N; rw [z i]; omega)
  have h2 := sumI_hi (f := fun i => sumI (fun j => if i < j then (0 : Int) else 0) N) (n := N) (hi := 0) hN (fun i _ _ => by show sumI _ N ≤ (0 : Int); rw [z i]; omega)
  omega
def dl (S : SS) (x y : Int) : Int := if x < y then fsF S x y else sdF S y x
def Pq (S X : SS) (i j : Int) : Prop := (∀ q, q < 205 → ¬ q = 169 → X q = S q) ∧ X 169 = S 169 + sumI (fun a => sumI (fun b => if a < b then fsF S a b + sdF S a b else 0) (S 1)) i + sumI (fun b => if i < b then fsF S i b + sdF S i b else 0) j ∧ ∀ x y, 0 ≤ x → x < 8 → 0 ≤ y → y < 8 → X (205 + 8 * x + y) = S (205 + 8 * x + y) - (if (x < y ∧ (x < i ∨ (x = i ∧ y < j))) ∨ (y < x ∧ (y < i ∨ (y = i ∧ x < j))) then dl S x y else 0)
theorem mtF_e (h : ∀ q, q < 205 → ¬ q = 169 → X q = S q) (hi0 : 0 ≤ i) (hj0 : 0 ≤ j) (hi : i < 8) (hj : j < 8) (hS : S (173 + i) ≤ 6) (hS2 : S (173 + j) ≤ 6) : mtF X i j = mtF S i j := by
  unfold mtF
  rw [h (173 + i) (by omega) (by omega), h (173 + j) (by omega) (by omega)]
  by_cases hc : 0 < S (173 + i) ∧ 0 < S (173 + j)
  · rw [if_pos hc, if_pos hc, h _ (by omega) (by omega)]
  · rw [if_neg hc, if_neg hc]
theorem Pq_s (hR : InvR S) (hI : InvL S) (h : Pq S X i j) (h1 : 0 ≤ i) (h2 : i < S 1) (h3 : 0 ≤ j) (h4 : j < S 1) : Pq S (rowF i j X) i (j + 1) := by
  have g := hR.1
  obtain ⟨p1, p2, p3⟩ := h
  have a1 := hI.1 i h1 (by omega)
  have a2 := hI.1 j h3 (by omega)
  unfold rowF
  by_cases hij : i < j
  · rw [if_pos hij]
    have em := mtF_e (X := X) (i := i) (j := j) p1 h1 h3 (by omega) (by omega) (by omega) (by omega)
    have e1 : X (205 + 8 * i + j) = S (205 + 8 * i + j) := by
      rw [p3 i j h1 (by omega) h3 (by omega), if_neg (by omega)]; omega
    have e2 : X (205 + 8 * j + i) = S (205 + 8 * j + i) := by
      rw [p3 j i h3 (by omega) h1 (by omega), if_neg (by omega)]; omega
    have ef : fsF X i j = fsF S i j := by unfold fsF; rw [em, e1]
    have es : sdF X i j = sdF S i j := by unfold sdF; rw [em, ef, e2]
    obtain ⟨r1, r2, r3, -⟩ := sett_rd (S := X) (i := i) (j := j) h1 (by omega) h3 (by omega) (by omega)
    rw [ef, es] at r2 r3
    refine ⟨fun q q1 q2 => (r1 q q1 q2).trans (p1 q q1 q2), ?_, fun x y x1 x2 x3 x4 => ?_⟩
    · rw [r2, p2, sumI_s h3, if_pos hij]; omega
    · rw [r3 x y x1 x2 x3 x4]
      by_cases c1 : x = i ∧ y = j
      · rw [if_pos c1, if_pos (by omega), c1.1, c1.2]
        unfold dl
        rw [if_pos hij, e1]
      · rw [if_neg c1]
        by_cases c2 : x = j ∧ y = i
        · rw [if_pos c2, if_pos (by omega), c2.1, c2.2]
          unfold dl
          rw [if_neg (by omega), e2]
        · rw [if_neg c2, p3 x y x1 x2 x3 x4]
          by_cases c3 : (x < y ∧ (x < i ∨ (x = i ∧ y < j))) ∨ (y < x ∧ (y < i ∨ (y = i ∧ x < j)))
          · rw [if_pos c3, if_pos (by omega)]
          · rw [if_neg c3, if_neg (by omega)]
  · rw [if_neg hij]
    refine ⟨p1, ?_, fun x y x1 x2 x3 x4 => ?_⟩
    · rw [p2, sumI_s h3, if_neg hij]; omega
    · rw [p3 x y x1 x2 x3 x4]
      by_cases c3 : (x < y ∧ (x < i ∨ (x = i ∧ y < j))) ∨ (y < x ∧ (y < i ∨ (y = i ∧ x < j)))
      · rw [if_pos c3, if_pos (by omega)]
      · rw [if_neg c3, if_neg (by omega)]
theorem Pq_row (hR : InvR S) (hI : InvL S) (h : Pq S X i 0) (h1 : 0 ≤ i) (h2 : i < S 1) : Pq S (loopI (rowF i) (X 1) X) (i + 1) 0 := by
  have g := hR.1
  have e1 : X 1 = S 1 := h.1 1 (by omega) (by omega)
  rw [e1]
  have k := loopI_pi (f := rowF i) (n := S 1) (P := fun j Y => Pq S Y i j) (x := X) (by omega) h (fun j Y q1 q2 hY => Pq_s hR hI hY h1 h2 q1 q2)
  obtain ⟨p1, p2, p3⟩ := k
  refine ⟨p1, ?_, fun x y x1 x2 x3 x4 => ?_⟩
  · rw [p2, sumI_s h1, sumI_0 (show (0 : Int) ≤ 0 by omega)]; omega
  · rw [p3 x y x1 x2 x3 x4]
    have hz : ∀ c d, 0 ≤ c → c < 8 → 0 ≤ d → d < 8 → S 1 ≤ d → S (205 + 8 * c + d) = 0 ∧ S (205 + 8 * d + c) = 0 ∧ S (173 + d) = 0 := fun c d c1 c2 c3 c4 c5 => ⟨hI.2.2.2.1 c d c1 c2 c3 c4 (by omega), hI.2.2.2.1 d c c3 c4 c1 c2 (by omega), ((hI.1 d c3 c4).2.2.2.2.2.2.2.2.2 c5).1⟩
    have dz : ∀ c d, 0 ≤ c → c < d → d < 8 → S 1 ≤ d → fsF S c d = 0 ∧ sdF S c d = 0 := fun c d c1 c2 c3 c4 => by
      obtain ⟨z1, z2, z3⟩ := hz c d c1 (by omega) (by omega) c3 c4
      have em : mtF S c d = 0 := by unfold mtF; rw [if_neg (by omega)]
      have ef : fsF S c d = 0 := by unfold fsF; rw [em, z1]; rfl
      refine ⟨ef, ?_⟩
      unfold sdF; rw [em, ef, z2]; rfl
    by_cases c1 : (x < y ∧ (x < i ∨ (x = i ∧ y < S 1))) ∨ (y < x ∧ (y < i ∨ (y = i ∧ x < S 1)))
    · rw [if_pos c1, if_pos (by omega)]
    · rw [if_neg c1]
      by_cases c2 : (x < y ∧ (x < i + 1 ∨ (x = i + 1 ∧ y < 0))) ∨ (y < x ∧ (y < i + 1 ∨ (y = i + 1 ∧ x < 0)))
      · rw [if_pos c2]
        unfold dl
        by_cases hxy : x < y
        · rw [if_pos hxy, (dz x y x1 hxy x4 (by omega)).1]
        · rw [if_neg hxy, (dz y x x3 (by omega) x2 (by omega)).2]
      · rw [if_neg c2]
theorem pairs_rd (hR : InvR S) (hI : InvL S) : (∀ q, q < 205 → ¬ q = 169 → pairsF S q = S q) ∧ pairsF S 169 = S 169 + PS (fun a b => fsF S a b + sdF S a b) (S 1) ∧ ∀ x y, 0 ≤ x → x < S 1 → 0 ≤ y → y < S 1 → ¬ x = y → pairsF S (205 + 8 * x + y) = S (205 + 8 * x + y) - dl S x y := by
  have g := hR.1
  have k := loopI_pi (f := fun i S => loopI (rowF i) (S 1) S) (n := S 1) (P := fun i Y => Pq S Y i 0) (x := S) (by omega) ⟨fun _ _ _ => rfl, by rw [sumI_0 (show (0 : Int) ≤ 0 by omega), sumI_0 (show (0 : Int) ≤ 0 by omega)]; omega, fun x y x1 x2 x3 x4 => by rw [if_neg (by omega)]; omega⟩ (fun i Y q1 q2 hY => Pq_row hR hI hY q1 q2)
  obtain ⟨p1, p2, p3⟩ := k
  refine ⟨p1, ?_, fun x y x1 x2 x3 x4 hxy => ?_⟩
  · have e : pairsF S 169 = S 169 + PS (fun a b => fsF S a b + sdF S a b) (S 1) + sumI (fun b => if S 1 < b then fsF S (S 1) b + sdF S (S 1) b else 0) 0 := p2
    rw [e, sumI_0 (n := 0) (by omega)]
    omega
  · have e := p3 x y x1 (by omega) x3 (by omega)
    rw [if_pos (by omega)] at e
    exact e
def gw (g z : Int) : Int := if z = 0 then 0 else lsr 99999 (z + g)
theorem grows_rd (hX : 0 ≤ n) (hn : n ≤ 64) : (∀ q, q < 205 → ¬ q = 170 → loopI growF n X q = X q) ∧ (∀ q, 269 ≤ q → loopI growF n X q = X q) ∧ ∀ q, 0 ≤ q → q < 64 → loopI growF n X (205 + q) = if q < n then gw (X 2) (X (205 + q)) else X (205 + q) := by
  refine loopI_pi (f := growF) (n := n) (P := fun n Y => (∀ q, q < 205 → ¬ q = 170 → Y q = X q) ∧ (∀ q, 269 ≤ q → Y q = X q) ∧ ∀ q, 0 ≤ q → q < 64 → Y (205 + q) = if q < n then gw (X 2) (X (205 + q)) else X (205 + q)) (x := X) hX ⟨fun _ _ _ => rfl, fun _ _ => rfl, fun q h1 h2 => by rw [if_neg (by omega)]⟩ (fun k Y h1 h2 hY => ?_)
  obtain ⟨y1, y2, y3⟩ := hY
  obtain ⟨r1, r2, -, r4⟩ := grow_rd (S := Y) (k := k) h1 (by omega)
  refine ⟨fun q q1 q2 => (r1 q q1 q2).trans (y1 q q1 q2), fun q q1 => (r2 q q1).trans (y2 q q1), fun q q1 q2 => ?_⟩
  rw [r4 q q1 q2]
  have yk := y3 k h1 (by omega)
  rw [if_neg (by omega)] at yk
  by_cases hq : q = k
  · rw [hq, if_pos (show k < k + 1 by omega)]
    unfold gw
    by_cases hz : X (205 + k) = 0
    · rw [if_neg (by rw [yk]; omega), yk, if_pos hz]; exact hz
    · rw [if_pos ⟨rfl, by rw [yk]; exact hz⟩, if_neg hz]
      unfold thenF
      rw [yk, y1 2 (by omega) (by omega)]
  · rw [if_neg (by omega), y3 q q1 q2]
    by_cases h3 : q < k
    · rw [if_pos h3, if_pos (by omega)]
    · rw [if_neg h3, if_neg (by omega)]
theorem day_pr (hR : InvR S) (hI : InvL S) : dayF S 169 = S 169 + PS (fun a b => fsF S a b + sdF S a b) (S 1) ∧ ∀ x y, 0 ≤ x → x < S 1 → 0 ≤ y → y < S 1 → ¬ x = y → dayF S (205 + 8 * x + y) = gw (S 2) (S (205 + 8 * x + y) - dl S x y) := by
  have g := hR.1
  obtain ⟨p1, p2, p3⟩ := pairs_rd hR hI
  obtain ⟨g1, g2, g3⟩ := grows_rd (X := pairsF S) (n := 64) (by omega) (by omega)
  have ok := Ok_preday hR hI
  have e1 : growsF (pairsF S) 1 = S 1 := Ok_1 ok
  have a := ages_rd (S := growsF (pairsF S)) (n := growsF (pairsF S) 1) ok.2 (Ok_R ok hR) (by omega) (by omega)
  have a2 := a.2.1
  have t := tick_rd (S := agesF (growsF (pairsF S)))
  have ed : dayF S = tickF (agesF (growsF (pairsF S))) := rfl
  refine ⟨?_, fun x y x1 x2 x3 x4 hxy => ?_⟩
  · rw [ed, t.1 169 (by omega) (by omega)]
    have e := a2 169 (by omega)
    have e' := g1 169 (by omega) (by omega)
    show agesF (growsF (pairsF S)) 169 = _
    rw [show agesF (growsF (pairsF S)) 169 = growsF (pairsF S) 169 from e, show growsF (pairsF S) 169 = pairsF S 169 from e', p2]
  · rw [ed, t.1 _ (by omega) (by omega)]
    have e := a2 (205 + 8 * x + y) (by omega)
    have e' := g3 (8 * x + y) (by omega) (by omega)
    rw [if_pos (by omega), p1 2 (by omega) (by omega), show 205 + (8 * x + y) = 205 + 8 * x + y by omega, p3 x y x1 x2 x3 x4 hxy] at e'
    rw [show agesF (growsF (pairsF S)) (205 + 8 * x + y) = growsF (pairsF S) (205 + 8 * x + y) from e]
    exact e'
def prS (g m : Int) : Nat → Int → Int → Int
  | 0, _, _ => 0
  | n + 1, x, y => lsr m x + lsr (m - lsr m x) y + prS g m n (gw g (x - lsr m x)) (gw g (y - lsr (m - lsr m x) y))
def pvN (S : SS) (a b n : Int) : Int := if S (173 + a) = 0 ∨ S (173 + b) = 0 then 0 else prS (S 2) (mtF S a b) (lsr n (lsr (S (181 + a)) (S (181 + b)))).toNat (S (205 + 8 * a + b)) (S (205 + 8 * b + a))
theorem days_s (n : Int) (h : 0 ≤ n) : daysF (n + 1) S = daysF n (dayF S) := by
  have key : ∀ k, 0 ≤ k → k ≤ n → loopI (fun _ S => dayF S) (k + 1) S = loopI (fun _ S => dayF S) k (dayF S) := by
    refine int_up ?_ ?_
    · rw [loopI_s (by omega), loopI_0 (by omega), loopI_0 (by omega)]
    · intro k h1 h2 ih
      rw [loopI_s (by omega), ih]
      exact (loopI_s (f := fun _ S => dayF S) h1).symm
  exact key n h (by omega)
theorem days_sum : ∀ (n : Nat) (S : SS), InvR S → InvL S → daysF n S 169 - S 169 = PS (fun a b => pvN S a b n) (S 1) := by
  intro n
  induction n with
  | zero =>
    intro S hR hI
    have g := hR.1
    have e : daysF ((0 : Nat) : Int) S = S := loopI_0 (by omega)
    rw [e, PS_0 (by omega) (fun i j h1 h2 h3 => ?_)]
    · omega
    · have a1 := hI.1 i h1 (by omega)
      have a2 := hI.1 j (by omega) (by omega)
      unfold pvN
      by_cases hz : S (173 + i) = 0 ∨ S (173 + j) = 0
      · rw [if_pos hz]
      · rw [if_neg hz]
        have e0 : (lsr ((0 : Nat) : Int) (lsr (S (181 + i)) (S (181 + j)))).toNat = 0 := by
          have := lsr_b (a := ((0 : Nat) : Int)) (b := lsr (S (181 + i)) (S (181 + j)))
          omega
        rw [e0]; rfl
  | succ n ih =>
    intro S hR hI
    have g := hR.1
    have ok := Ok_day hR hI
    have ih := ih (dayF S) (Ok_R ok hR) ok.2
    rw [Ok_1 ok] at ih
    obtain ⟨d1, d2⟩ := day_pr hR hI
    have dr := day_rd hR hI
    rw [show ((n + 1 : Nat) : Int) = (n : Int) + 1 by omega, days_s _ (by omega)]
    have e : daysF n (dayF S) 169 - S 169 = (dayF S 169 - S 169) + (daysF n (dayF S) 169 - dayF S 169) := by omega
    rw [e, ih, d1, show S 169 + PS (fun a b => fsF S a b + sdF S a b) (S 1) - S 169 = PS (fun a b => fsF S a b + sdF S a b) (S 1) by omega, ← PS_add]
    refine PS_c (fun i j h1 h2 h3 => ?_)
    have a1 := hI.1 i h1 (by omega)
    have a2 := hI.1 j (by omega) (by omega)
    have b1 := (dr.2.1 i h1 (by omega)).2
    have b2 := (dr.2.1 j (by omega) (by omega)).2
    have db1 := (hI.2.2.1 (8 * i + j) (by omega) (by omega))
    have db2 := (hI.2.2.1 (8 * j + i) (by omega) (by omega))
    rw [show 205 + (8 * i + j) = 205 + 8 * i + j by omega] at db1
    rw [show 205 + (8 * j + i) = 205 + 8 * j + i by omega] at db2
    have l0 : ∀ z : Int, 0 ≤ z → lsr 0 z = 0 := fun z hz => by unfold lsr; split <;> omega
    show fsF S i j + sdF S i j + pvN (dayF S) i j n = pvN S i j (n + 1)
    by_cases hz : S (173 + i) = 0 ∨ S (173 + j) = 0
    · have em : mtF S i j = 0 := by unfold mtF; rw [if_neg (by omega)]
      have ef : fsF S i j = 0 := by unfold fsF; rw [em, l0 _ db1.1]
      have es : sdF S i j = 0 := by unfold sdF; rw [em, ef]; exact l0 _ db2.1
      have hz' : dayF S (173 + i) = 0 ∨ dayF S (173 + j) = 0 := by
        rcases hz with hz | hz
        · left; rw [b1.2, hz]; simp
        · right; rw [b2.2, hz]; simp
      unfold pvN
      rw [if_pos hz, if_pos hz', ef, es]; rfl
    · have e1 := d2 i j h1 (by omega) (by omega) h3 (by omega)
      have e2 := d2 j i (by omega) h3 h1 (by omega) (by omega)
      rw [show dl S i j = fsF S i j from if_pos h2] at e1
      rw [show dl S j i = sdF S i j from if_neg (by omega)] at e2
      have hk : ∃ k : Nat, (lsr ((n : Int) + 1) (lsr (S (181 + i)) (S (181 + j)))).toNat = k + 1 ∧ (k : Int) = lsr n (lsr (S (181 + i)) (S (181 + j)) - 1) := by
        have hl : 1 ≤ lsr (S (181 + i)) (S (181 + j)) := by unfold lsr; split <;> omega
        refine ⟨(lsr n (lsr (S (181 + i)) (S (181 + j)) - 1)).toNat, ?_, ?_⟩
        · generalize lsr (S (181 + i)) (S (181 + j)) = L at *
          unfold lsr
          split <;> split <;> omega
        · generalize lsr (S (181 + i)) (S (181 + j)) = L at *
          unfold lsr
          split <;> omega
      obtain ⟨k, hk1, hk2⟩ := hk
      have r1 : pvN S i j ((n : Int) + 1) = fsF S i j + sdF S i j + prS (S 2) (mtF S i j) k (gw (S 2) (S (205 + 8 * i + j) - fsF S i j)) (gw (S 2) (S (205 + 8 * j + i) - sdF S i j)) := by
        unfold pvN
        rw [if_neg hz, hk1]
        rfl
      rw [r1, ← e1, ← e2]
      have goal : pvN (dayF S) i j n = prS (S 2) (mtF S i j) k (dayF S (205 + 8 * i + j)) (dayF S (205 + 8 * j + i)) := by
        unfold pvN
        by_cases hz' : dayF S (173 + i) = 0 ∨ dayF S (173 + j) = 0
        · rw [if_pos hz']
          have hL : lsr (S (181 + i)) (S (181 + j)) = 1 := by
            have h1l : S (181 + i) = 1 ∨ S (181 + j) = 1 := by
              rcases hz' with h' | h'
              · left
                by_cases q : S (181 + i) = 1
                · exact q
                · rw [b1.2, if_neg (by omega)] at h'
                  omega
              · right
                by_cases q : S (181 + j) = 1
                · exact q
                · rw [b2.2, if_neg (by omega)] at h'
                  omega
            unfold lsr; split <;> omega
          have k0 : k = 0 := by
            rw [hL] at hk2
            unfold lsr at hk2
            split at hk2 <;> omega
          rw [k0]; rfl
        · have n1 : ¬ dayF S (173 + i) = 0 := fun z => hz' (Or.inl z)
          have n2 : ¬ dayF S (173 + j) = 0 := fun z => hz' (Or.inr z)
          rw [if_neg hz']
          have c1 : dayF S (173 + i) = S (173 + i) := by
            by_cases q : S (181 + i) = 1
            · exact absurd (by rw [b1.2, if_pos (by omega)]) n1
            · rw [b1.2, if_neg (by omega)]
          have c2 : dayF S (173 + j) = S (173 + j) := by
            by_cases q : S (181 + j) = 1
            · exact absurd (by rw [b2.2, if_pos (by omega)]) n2
            · rw [b2.2, if_neg (by omega)]
          have l1 : dayF S (181 + i) = S (181 + i) - 1 := by rw [b1.1]; split <;> omega
          have l2 : dayF S (181 + j) = S (181 + j) - 1 := by rw [b2.1]; split <;> omega
          have em : mtF (dayF S) i j = mtF S i j := by
            unfold mtF
            rw [c1, c2]
            by_cases hc : 0 < S (173 + i) ∧ 0 < S (173 + j)
            · rw [if_pos hc, if_pos hc, ok.1 _ (by omega)]
            · rw [if_neg hc, if_neg hc]
          have el : (lsr n (lsr (dayF S (181 + i)) (dayF S (181 + j)))).toNat = k := by
            rw [l1, l2]
            have : lsr (S (181 + i) - 1) (S (181 + j) - 1) = lsr (S (181 + i)) (S (181 + j)) - 1 := by unfold lsr; split <;> split <;> omega
            rw [this, ← hk2]
            omega
          rw [em, el, ok.1 2 (by omega)]
      rw [goal]
end SPm1
