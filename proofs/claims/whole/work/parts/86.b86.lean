section SPH
variable {d : Nat} {G : GG} {c c' cA cB cA' cB' : CC} {Q : Option AV → HH → Prop} {v1 n nx j : Int} {S : SS} {a : Nat}
theorem i32_of {x : Int} (h : -2147483648 ≤ x ∧ x < 2147483648) : (Int32.ofInt x).toInt = x := Int32.toInt_ofInt_of_le (by omega) (by omega)
theorem rem_eq {x y : Int} (hx : 0 ≤ x ∧ x < 2147483648) (hy : 0 < y ∧ y < 2147483648) : q_rem x y = x % y := by
  unfold q_rem
  have h1 : Int32.ofInt x - Int32.ofInt x / Int32.ofInt y * Int32.ofInt y = Int32.ofInt (x % y) := by
    have m1 : Int32.minValue.toInt = -2147483648 := rfl
    have m2 : Int32.maxValue.toInt = 2147483647 := rfl
    have hd : Int32.ofInt x / Int32.ofInt y = Int32.ofInt (x / y) := by
      rw [← Int32.ofInt_tdiv (by omega) (by omega) (by omega) (by omega), Int.tdiv_eq_ediv_of_nonneg hx.1]
    rw [hd, ← Int32.ofInt_mul, ← Int32.ofInt_sub]
    congr 1
    rw [Int.emod_def, Int.mul_comm]
  rw [h1]
  have := Int.emod_nonneg x (show y ≠ 0 by omega)
  have := Int.emod_lt_of_pos x hy.1
  exact i32_of (by omega)
def wsl (x : Int) : Nat := 55 + 8 * x.toNat
theorem wsl_L {x : Int} (h0 : 0 ≤ x) (h1 : x < 8) : Life (wsl x) := by
  have : x = 0 ∨ x = 1 ∨ x = 2 ∨ x = 3 ∨ x = 4 ∨ x = 5 ∨ x = 6 ∨ x = 7 := by omega
  rcases this with rfl | rfl | rfl | rfl | rfl | rfl | rfl | rfl <;> (unfold Life; decide)
theorem wsl_r {x : Int} (hG : Shp G) (h0 : 0 ≤ x) (h1 : x < 8) : rfR G 54 x.toNat (wsl x) := by
  have : x = 0 ∨ x = 1 ∨ x = 2 ∨ x = 3 ∨ x = 4 ∨ x = 5 ∨ x = 6 ∨ x = 7 := by omega
  rcases this with rfl | rfl | rfl | rfl | rfl | rfl | rfl | rfl <;> exact sh_rf hG (by decide +kernel)
theorem hsl_eq : hslot n nx j = wsl ((nx + 8 - n + j) % 8) := rfl
theorem c_keep (hG : Shp G) (e1 : c 53 1 = n) (hn : 0 ≤ n ∧ n ≤ 8) (e2 : c 53 2 = nx) (hx : 0 ≤ nx ∧ nx < 8)
    (hz : ∀ c', (∀ r, ¬ r = 53 → ¬ (wsl nx ≤ r ∧ r ≤ wsl nx + 7) → c' r = c r) → c' 53 1 = (if n < 8 then n + 1 else 8) → c' 53 2 = (nx + 1) % 8 → (∀ S, InvR S → LR c 27 S → LR c' (wsl nx) S) → Q none (G, c')) : TM (d + 1) 14 [aR 53, aR 27] (G, c) Q := by
  have h_a := lf27
  have h_w1 := wsl_L hx.1 hx.2
  have hw := wsl_r hG hx.1 hx.2
  have hb : wsl nx ≤ 55 + 8 * 7 ∧ 55 ≤ wsl nx := by unfold wsl; omega
  refine b14_0 hG h_a h_w1 TM_eqo rfl (by intros; omega) (by intros; omega) (by rw [e2]; exact hw) ?_
  refine c_copyLife hG h_w1 h_a (Or.inr (by omega)) (fun c1 f1 l1 => ?_)
  have g1 : c1 53 1 = n := by rw [f1 53 (by omega)]; exact e1
  have g2 : c1 53 2 = nx := by rw [f1 53 (by omega)]; exact e2
  refine b14_19 hG rfl (up_n (by omega)) (by intros; omega) ?_
  have em : q_rem (c1 53 2 + 1) 8 = (nx + 1) % 8 := by rw [g2, rem_eq (by omega) (by omega)]
  refine hz _ (fun r h1 h2 => ?_) ?_ ?_ (fun S hR hL => ?_)
  · rw [up_r h1, up_r h1]
    exact f1 r (by omega)
  · rw [up_e, g1]; omega
  · rw [up_n (by omega), up_e]; exact em
  · exact LR_fr (l1 S hR hL) (fun r h1 h2 => by rw [up_r (by omega), up_r (by omega)])
theorem r_keep_l (hG : Shp G) (hn : 0 ≤ n ∧ n ≤ 7) : ∀ i, 0 ≤ i → i ≤ 165 → ∀ c : CC, c 188 23 = n → (∀ c', (∀ r, ¬ r = 188 → ¬ r = 195 → c' r = c r) → (∀ i, ¬ i = 23 → c' 188 i = c 188 i) → c' 188 23 = n + 1 → (∀ q, c' 195 q = if 165 * n + i ≤ q ∧ q < 165 * n + 165 then c 190 (168 + (q - 165 * n)) else c 195 q) → Q none (G, c')) → T d 212 48 [some (aR 188), some (aI i)] [] (G, c) (QM Q) := by
  refine int_ind ?_ ?_
  · intro c e hz
    refine b212_48 hG (by intros; omega) rfl ?_ rfl (by intros; omega) (by intros; omega) rfl (by intros; omega) (by intros; omega) ?_
    · intro p1
      refine hz _ (fun r h1 h2 => up_r h1) (fun i h1 => up_n (by omega)) (by rw [up_e, e]) (fun q => ?_)
      rw [up_n (by omega), if_neg (by omega)]
    · intro p1; omega
  · intro i h1 h2 ih c e hz
    refine b212_48 hG (by intros; omega) rfl ?_ rfl (by intros; omega) (by intros; omega) rfl (by intros; omega) (by intros; omega) ?_
    · intro p1; omega
    · intro p1
      rw [e]
      refine ih _ (by rw [up_n (by omega)]; exact e) (fun c' k1 k2 k3 k4 => hz c' (fun r q1 q2 => (k1 r q1 q2).trans (up_r q2)) (fun i q1 => (k2 i q1).trans (up_n (by omega))) k3 (fun q => ?_))
      rw [k4 q]
      by_cases hq : q = 165 * n + i
      · rw [if_neg (by omega), hq, up_e, if_pos (by omega)]
        congr 1; omega
      · rw [up_n (by omega), up_n (by omega)]
        by_cases h3 : 165 * n + (i + 1) ≤ q ∧ q < 165 * n + 165
        · rw [if_pos h3, if_pos (by omega)]
        · rw [if_neg h3, if_neg (by omega)]
theorem r_keep_s (hG : Shp G) : ∀ i, 0 ≤ i → i ≤ 1155 → ∀ c : CC, (∀ c', (∀ r, ¬ r = 188 → ¬ r = 195 → c' r = c r) → (∀ i, ¬ i = 23 → c' 188 i = c 188 i) → c' 188 23 = 7 → (∀ q, c' 195 q = if i ≤ q ∧ q < 1155 then c 195 (q + 165) else c 195 q) → T d 212 48 [some (aR 188), some (aI 0)] [] (G, c') (QM Q)) → T d 212 11 [some (aR 188), some (aI i)] [] (G, c) (QM Q) := by
  refine int_ind ?_ ?_
  · intro c hz
    refine b212_11 hG (by intros; omega) ?_ (by intros; omega) (by intros; omega) rfl (by intros; omega) (by intros; omega) ?_
    · intro p1
      refine hz _ (fun r h1 h2 => up_r h1) (fun i h1 => up_n (by omega)) (by rw [up_e]) (fun q => ?_)
      rw [up_n (by omega), if_neg (by omega)]
    · intro p1; omega
  · intro i h1 h2 ih c hz
    refine b212_11 hG (by intros; omega) ?_ (by intros; omega) (by intros; omega) rfl (by intros; omega) (by intros; omega) ?_
    · intro p1; omega
    · intro p1
      refine ih _ (fun c' k1 k2 k3 k4 => hz c' (fun r q1 q2 => (k1 r q1 q2).trans (up_r q2)) (fun i q1 => (k2 i q1).trans (up_n (by omega))) k3 (fun q => ?_))
      rw [k4 q]
      by_cases h3 : i + 1 ≤ q ∧ q < 1155
      · rw [if_pos h3, if_pos (by omega), up_n (by omega)]
      · rw [if_neg h3]
        by_cases hq : q = i
        · rw [hq, up_e, if_pos (by omega)]
        · rw [up_n (by omega), if_neg (by omega)]
def keptF (n : Int) (u S : SS) : SS := fun q => if n = 8 then (if 1155 ≤ q ∧ q < 1320 then S (168 + (q - 1155)) else if 0 ≤ q ∧ q < 1155 then u (q + 165) else u q) else if 165 * n ≤ q ∧ q < 165 * n + 165 then S (168 + (q - 165 * n)) else u q
theorem r_keep (hG : Shp G) (e : c 188 23 = n) (hn : 0 ≤ n ∧ n ≤ 8) (hz : ∀ c', (∀ r, ¬ r = 188 → ¬ r = 195 → c' r = c r) → (∀ i, ¬ i = 23 → c' 188 i = c 188 i) → c' 188 23 = (if n < 8 then n + 1 else 8) → (∀ q, c' 195 q = keptF n (c 195) (c 190) q) → Q none (G, c')) : TM d 212 [aR 188] (G, c) Q := by
  refine b212_0 hG rfl (by intros; omega) ?_ ?_
  · intro p1
    refine r_keep_l hG (n := n) (by omega) 0 (by omega) (by omega) c e (fun c' k1 k2 k3 k4 => hz c' k1 k2 (by rw [k3, if_pos (by omega)]) (fun q => ?_))
    rw [k4 q]
    unfold keptF
    rw [if_neg (show ¬ n = 8 by omega), show 165 * n + 0 = 165 * n by omega]
  · intro p1
    refine r_keep_s hG 0 (by omega) (by omega) c (fun c1 f1 f2 f3 f4 => ?_)
    refine r_keep_l hG (n := 7) (by omega) 0 (by omega) (by omega) c1 f3 (fun c' k1 k2 k3 k4 => hz c' (fun r q1 q2 => (k1 r q1 q2).trans (f1 r q1 q2)) (fun i q1 => (k2 i q1).trans (f2 i q1)) (by rw [k3, if_neg (by omega)]; omega) (fun q => ?_))
    rw [k4 q]
    unfold keptF
    rw [if_pos (show n = 8 by omega), f1 190 (by omega) (by omega), f4 q]
    by_cases h1 : 165 * 7 + 0 ≤ q ∧ q < 165 * 7 + 165
    · rw [if_pos h1, if_pos (by omega)]
      congr 1
    · rw [if_neg h1, if_neg (show ¬ (1155 ≤ q ∧ q < 1320) by omega)]
theorem mix_same {S S' f : SS} (hs : SmR S S') (h : ∀ i, 0 ≤ i → i < 165 → f i = S (168 + i)) : mixF S' f = S := by
  funext i
  unfold mixF
  by_cases hi : 168 ≤ i ∧ i < 333
  · rw [if_pos hi, h (i - 168) (by omega) (by omega)]
    congr 1; omega
  · rw [if_neg hi]; exact hs i (by omega)
theorem mix_f {S f g : SS} (h : ∀ i, 0 ≤ i → i < 165 → f i = g i) : mixF S f = mixF S g := by
  funext i
  unfold mixF
  by_cases hi : 168 ≤ i ∧ i < 333
  · rw [if_pos hi, if_pos hi, h (i - 168) (by omega) (by omega)]
  · rw [if_neg hi, if_neg hi]
theorem GH_keep (hH : GH cA cB) (hS : GS (cB 190)) (hL : LR cA 27 (cB 190))
    (a1 : ∀ r, ¬ r = 53 → ¬ (wsl (cA 53 2) ≤ r ∧ r ≤ wsl (cA 53 2) + 7) → cA' r = cA r) (a2 : cA' 53 1 = (if cB 188 23 < 8 then cB 188 23 + 1 else 8)) (a3 : cA' 53 2 = (cA 53 2 + 1) % 8) (a4 : ∀ S, InvR S → LR cA 27 S → LR cA' (wsl (cA 53 2)) S)
    (b1 : SmR (cB 190) (cB' 190)) (b2 : cB' 188 23 = (if cB 188 23 < 8 then cB 188 23 + 1 else 8)) (b3 : ∀ q, cB' 195 q = keptF (cB 188 23) (cB 195) (cB 190) q) : GH cA' cB' := by
  obtain ⟨⟨h1, h2, h3, h4, h5⟩, h6⟩ := hH
  refine ⟨⟨by rw [a2, b2], by rw [b2]; omega, by rw [b2]; omega, by rw [a3]; omega, by rw [a3]; omega⟩, fun j p1 p2 => ?_⟩
  rw [b2] at p2 ⊢
  rw [a3]
  have old : ∀ j', 0 ≤ j' → j' < cB 188 23 → hslot (if cB 188 23 < 8 then cB 188 23 + 1 else 8) ((cA 53 2 + 1) % 8) j = hslot (cB 188 23) (cA 53 2) j' → ¬ ((cA 53 2 + 8 - cB 188 23 + j') % 8 = cA 53 2) → (∀ i, 0 ≤ i → i < 165 → cB' 195 (165 * j + i) = cB 195 (165 * j' + i)) → GS (mixF (cB' 190) (fun i => cB' 195 (165 * j + i))) ∧ LR cA' (hslot (if cB 188 23 < 8 then cB 188 23 + 1 else 8) ((cA 53 2 + 1) % 8) j) (mixF (cB' 190) (fun i => cB' 195 (165 * j + i))) := by
    intro j' q1 q2 q3 q4 q5
    obtain ⟨g1, g2⟩ := h6 j' q1 q2
    rw [mix_f (g := fun i => cB 195 (165 * j' + i)) q5, mix_c b1, q3]
    refine ⟨g1, LR_fr g2 (fun r q6 q7 => a1 r ?_ ?_)⟩
    · rw [hsl_eq] at q6; unfold wsl at q6; omega
    · rw [hsl_eq] at q6 q7; unfold wsl at q6 q7 ⊢; omega
  by_cases hn : cB 188 23 < 8
  · rw [if_pos hn] at p2 old ⊢
    by_cases hj : j = cB 188 23
    · have e1 : mixF (cB' 190) (fun i => cB' 195 (165 * j + i)) = cB 190 := mix_same b1 (fun i q1 q2 => by
        rw [b3]
        unfold keptF
        rw [if_neg (by omega), if_pos (by omega)]
        congr 1; omega)
      rw [e1]
      refine ⟨hS, ?_⟩
      have : hslot (cB 188 23 + 1) ((cA 53 2 + 1) % 8) j = wsl (cA 53 2) := by rw [hsl_eq]; congr 1; omega
      rw [this]
      exact a4 _ hS.1 hL
    · refine old j p1 (by omega) ?_ ?_ (fun i q1 q2 => ?_)
      · rw [hsl_eq, hsl_eq]; congr 1; omega
      · omega
      · rw [b3]
        unfold keptF
        rw [if_neg (by omega), if_neg (by omega)]
  · rw [if_neg hn] at p2 old ⊢
    by_cases hj : j = 7
    · have e1 : mixF (cB' 190) (fun i => cB' 195 (165 * j + i)) = cB 190 := mix_same b1 (fun i q1 q2 => by
        rw [b3]
        unfold keptF
        rw [if_pos (by omega), if_pos (by omega)]
        congr 1; omega)
      rw [e1]
      refine ⟨hS, ?_⟩
      have : hslot 8 ((cA 53 2 + 1) % 8) j = wsl (cA 53 2) := by rw [hsl_eq]; congr 1; omega
      rw [this]
      exact a4 _ hS.1 hL
    · refine old (j + 1) (by omega) (by omega) ?_ ?_ (fun i q1 q2 => ?_)
      · rw [hsl_eq, hsl_eq]; congr 1; omega
      · omega
      · rw [b3]
        unfold keptF
        rw [if_pos (by omega), if_neg (by omega), if_pos (by omega)]
        congr 1; omega
end SPH
