section SPm2
variable {S X : SS} {i j k n m g x y a b N q w k' w' o : Int}
theorem sumI_if1 {f : Int → Int} (h0 : 0 ≤ w) (h1 : w < N) : sumI (fun i => if i = w then f i else 0) N = f w := by
  have e := sumI_u (f := fun _ => 0) (g := fun i => if i = w then f i else 0) (i := w) (n := N) h0 h1 (fun k _ _ hk => if_neg hk)
  rw [e]
  have z : sumI (fun _ => (0 : Int)) N = 0 := by
    have h2 := sumI_lo (f := fun _ => (0 : Int)) (n := N) (lo := 0) (by omega) (fun _ _ _ => by show (0 : Int) ≤ 0; omega)
    have h3 := sumI_hi (f := fun _ => (0 : Int)) (n := N) (hi := 0) (by omega) (fun _ _ _ => by show (0 : Int) ≤ 0; omega)
    omega
  rw [z]
  show 0 + ((if w = w then f w else 0) - 0) = f w
  rw [if_pos rfl]; omega
theorem PS_w {f f' : Int → Int → Int} (hw : 0 ≤ w) (hN : w < N) (h : ∀ i j, 0 ≤ i → i < j → j < N → ¬ i = w → ¬ j = w → f' i j = f i j) : PS f' N = PS f N + sumI (fun o => if o = w then 0 else if o < w then f' o w - f o w else f' w o - f w o) N := by
  have e : PS f' N = PS f N + PS (fun i j => f' i j - f i j) N := by
    rw [← PS_add]
    exact PS_c (fun i j _ _ _ => by show f' i j = f i j + (f' i j - f i j); omega)
  rw [e]
  have e2 : PS (fun i j => f' i j - f i j) N = sumI (fun o => if o = w then 0 else if o < w then f' o w - f o w else f' w o - f w o) N := by
    have row : ∀ i, 0 ≤ i → i < N → sumI (fun j => if i < j then f' i j - f i j else 0) N = (if i < w then f' i w - f i w else 0) + (if i = w then sumI (fun j => if w < j then f' w j - f w j else 0) N else 0) := by
      intro i h1 h2
      by_cases hi : i = w
      · rw [hi, if_neg (by omega), if_pos rfl]; omega
      · rw [if_neg hi]
        have c : sumI (fun j => if i < j then f' i j - f i j else 0) N = sumI (fun j => if j = w then (if i < w then f' i w - f i w else 0) else 0) N := by
          refine sumI_c (fun j h3 h4 => ?_)
          show (if i < j then f' i j - f i j else 0) = if j = w then (if i < w then f' i w - f i w else 0) else 0
          by_cases hj : j = w
          · rw [if_pos hj, hj]
          · rw [if_neg hj]
            by_cases hij : i < j
            · rw [if_pos hij, h i j h1 hij h4 hi hj]; omega
            · rw [if_neg hij]
        rw [c, sumI_if1 (f := fun _ => if i < w then f' i w - f i w else 0) hw hN]; omega
    unfold PS
    rw [sumI_c row, sumI_add, sumI_if1 (f := fun _ => sumI (fun j => if w < j then f' w j - f w j else 0) N) hw hN, ← sumI_add]
    refine sumI_c (fun o h1 h2 => ?_)
    show (if o < w then f' o w - f o w else 0) + (if w < o then f' w o - f w o else 0) = if o = w then 0 else if o < w then f' o w - f o w else f' w o - f w o
    by_cases ho : o = w
    · subst ho; simp
    · rw [if_neg ho]
      by_cases h3 : o < w
      · rw [if_pos h3, if_neg (by omega), if_pos h3]; omega
      · rw [if_neg h3, if_pos (by omega), if_neg h3]; omega
  rw [e2]
def pvW (S : SS) (w k o n : Int) : Int := if S (173 + o) = 0 then 0 else if o < w then prS (S 2) (S (15 + 6 * S (173 + o) + (k + 1) - 7)) (lsr n (lsr (S (181 + o)) (S (3 + k)))).toNat (S (205 + 8 * o + w)) (S (205 + 8 * w + o)) else prS (S 2) (S (15 + 6 * (k + 1) + S (173 + o) - 7)) (lsr n (lsr (S (3 + k)) (S (181 + o)))).toNat (S (205 + 8 * w + o)) (S (205 + 8 * o + w))
def addW (S : SS) (w k n : Int) : Int := sumI (fun o => if o = w then 0 else pvW S w k o n) (S 1)
def totS (S : SS) (n : Int) : Int := PS (fun a b => pvN S a b n) (S 1)
theorem tot_born (hR : InvR S) (hI : InvL S) (h1 : 0 ≤ w) (h2 : w < S 1) (h3 : 0 ≤ k) (h4 : k < S 0) (hz : S (173 + w) = 0) : totS (bornF S w k) n = totS S n + addW S w k n := by
  have g := hR.1
  obtain ⟨r1, r2, r3, -, -⟩ := born_rd (S := S) (s := w) (k := k) h1 (by omega)
  have e1 : bornF S w k 1 = S 1 := r1 1 (by omega) (by omega) (by omega) (by omega) (by omega)
  have rr : ∀ o, 0 ≤ o → o < 8 → ¬ o = w → bornF S w k (173 + o) = S (173 + o) ∧ bornF S w k (181 + o) = S (181 + o) := fun o p1 p2 p3 => ⟨r1 _ (by omega) (by omega) (by omega) (by omega) (by omega), r1 _ (by omega) (by omega) (by omega) (by omega) (by omega)⟩
  have ro : ∀ q, 205 ≤ q → bornF S w k q = S q := fun q p => r1 q (by omega) (by omega) (by omega) (by omega) (by omega)
  have rl : ∀ q, q < 168 → bornF S w k q = S q := fun q p => r1 q (by omega) (by omega) (by omega) (by omega) (by omega)
  unfold totS
  rw [e1, PS_w (f := fun a b => pvN S a b n) (f' := fun a b => pvN (bornF S w k) a b n) h1 h2 (fun i j p1 p2 p3 p4 p5 => ?_)]
  · congr 1
    unfold addW
    refine sumI_c (fun o p1 p2 => ?_)
    show (if o = w then (0 : Int) else if o < w then pvN (bornF S w k) o w n - pvN S o w n else pvN (bornF S w k) w o n - pvN S w o n) = if o = w then 0 else pvW S w k o n
    by_cases ho : o = w
    · rw [if_pos ho, if_pos ho]
    · rw [if_neg ho, if_neg ho]
      obtain ⟨a1, a2⟩ := rr o p1 (by omega) ho
      have ho1 := hI.1 o p1 (by omega)
      unfold pvW
      by_cases hlt : o < w
      · rw [if_pos hlt]
        have z : pvN S o w n = 0 := by unfold pvN; rw [if_pos (Or.inr hz)]
        rw [z]
        unfold pvN
        by_cases hoz : S (173 + o) = 0
        · rw [if_pos (Or.inl (by rw [a1]; exact hoz)), if_pos hoz]; rfl
        · rw [if_neg (by rw [a1, r2]; omega), if_neg hoz, if_pos hlt]
          have em : mtF (bornF S w k) o w = S (15 + 6 * S (173 + o) + (k + 1) - 7) := by
            unfold mtF
            rw [a1, r2, if_pos (by omega), rl _ (by omega)]
          rw [em, a2, r3, rl 2 (by omega), ro _ (by omega), ro _ (by omega)]; omega
      · rw [if_neg hlt]
        have z : pvN S w o n = 0 := by unfold pvN; rw [if_pos (Or.inl hz)]
        rw [z]
        unfold pvN
        by_cases hoz : S (173 + o) = 0
        · rw [if_pos (Or.inr (by rw [a1]; exact hoz)), if_pos hoz]; rfl
        · rw [if_neg (by rw [a1, r2]; omega), if_neg hoz, if_neg hlt]
          have em : mtF (bornF S w k) w o = S (15 + 6 * (k + 1) + S (173 + o) - 7) := by
            unfold mtF
            rw [a1, r2, if_pos (by omega), rl _ (by omega)]
          rw [em, a2, r3, rl 2 (by omega), ro _ (by omega), ro _ (by omega)]; omega
  · show pvN (bornF S w k) i j n = pvN S i j n
    obtain ⟨a1, a2⟩ := rr i p1 (by omega) p4
    obtain ⟨b1, b2⟩ := rr j (by omega) (by omega) p5
    have hi1 := hI.1 i p1 (by omega)
    have hj1 := hI.1 j (by omega) (by omega)
    have em : mtF (bornF S w k) i j = mtF S i j := by
      unfold mtF
      rw [a1, b1]
      by_cases hc : 0 < S (173 + i) ∧ 0 < S (173 + j)
      · rw [if_pos hc, if_pos hc, rl _ (by omega)]
      · rw [if_neg hc, if_neg hc]
    unfold pvN
    rw [a1, a2, b1, b2, em, rl 2 (by omega), ro _ (by omega), ro _ (by omega)]
theorem add_born (hR : InvR S) (hI : InvL S) (h1 : 0 ≤ w') (h2 : w' < S 1) (h3 : 0 ≤ k') (h4 : k' < S 0) (hz : S (173 + w') = 0) (hw : ¬ w = w') (h5 : 0 ≤ w) (h6 : w < S 1) (h7 : 0 ≤ k) (h8 : k < S 0) : addW (bornF S w' k') w k n = addW S w k n + pvW (bornF S w' k') w k w' n := by
  have g := hR.1
  obtain ⟨r1, r2, r3, -, -⟩ := born_rd (S := S) (s := w') (k := k') h1 (by omega)
  have e1 : bornF S w' k' 1 = S 1 := r1 1 (by omega) (by omega) (by omega) (by omega) (by omega)
  unfold addW
  rw [e1, sumI_u (f := fun o => if o = w then 0 else pvW S w k o n) (i := w') h1 h2 (fun o p1 p2 ho => ?_)]
  · show _ + ((if w' = w then 0 else pvW (bornF S w' k') w k w' n) - (if w' = w then 0 else pvW S w k w' n)) = _
    rw [if_neg (by omega), if_neg (by omega)]
    have z : pvW S w k w' n = 0 := if_pos hz
    rw [z]; omega
  · show (if o = w then 0 else pvW (bornF S w' k') w k o n) = if o = w then 0 else pvW S w k o n
    by_cases hoz : o = w
    · rw [if_pos hoz, if_pos hoz]
    · rw [if_neg hoz, if_neg hoz]
      have rr : ∀ q, ¬ q = 173 + w' → ¬ q = 181 + w' → (q < 168 ∨ q = 173 + o ∨ q = 181 + o ∨ 205 ≤ q) → bornF S w' k' q = S q := fun q q1 q2 q3 => r1 q q1 q2 (by omega) (by omega) (by omega)
      have ho1 := hI.1 o p1 (by omega)
      unfold pvW
      rw [rr (173 + o) (by omega) (by omega) (by omega)]
      by_cases hs : S (173 + o) = 0
      · rw [if_pos hs, if_pos hs]
      · rw [if_neg hs, if_neg hs, rr (181 + o) (by omega) (by omega) (by omega), rr 2 (by omega) (by omega) (by omega), rr (3 + k) (by omega) (by omega) (by omega), rr (205 + 8 * o + w) (by omega) (by omega) (by omega), rr (205 + 8 * w + o) (by omega) (by omega) (by omega), rr (15 + 6 * S (173 + o) + (k + 1) - 7) (by omega) (by omega) (by omega), rr (15 + 6 * (k + 1) + S (173 + o) - 7) (by omega) (by omega) (by omega)]
end SPm2
