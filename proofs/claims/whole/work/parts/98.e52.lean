section SPm3
variable {S X : SS} {i j k n g x y a b N q w o K m had : Int} {wh way bd : Int → Int} {acc : Int × (Int → Int)}
theorem lsr_0 {z : Int} (h : 0 ≤ z) : lsr 0 z = 0 := by unfold lsr; split <;> omega
theorem gw_b {z : Int} (hz : 0 ≤ z ∧ z ≤ 99999) (hg : 0 ≤ g) : 0 ≤ gw g z ∧ gw g z ≤ 99999 := by
  unfold gw
  split
  · omega
  · unfold lsr; split <;> omega
theorem prS_b : ∀ (n : Nat) (x y : Int), (0 ≤ m ∧ m ≤ 99) → 0 ≤ g → (0 ≤ x ∧ x ≤ 99999) → (0 ≤ y ∧ y ≤ 99999) → 0 ≤ prS g m n x y ∧ prS g m n x y ≤ 99 * n := by
  intro n
  induction n with
  | zero => intro x y _ _ _ _; exact ⟨Int.le_refl 0, by show (0 : Int) ≤ _; omega⟩
  | succ n ih =>
    intro x y hm hg hx hy
    have l1 := lsr_b (a := m) (b := x)
    have l2 := lsr_b (a := m - lsr m x) (b := y)
    have := ih (gw g (x - lsr m x)) (gw g (y - lsr (m - lsr m x) y)) hm hg (gw_b (by omega) hg) (gw_b (by omega) hg)
    have e : prS g m (n + 1) x y = lsr m x + lsr (m - lsr m x) y + prS g m n (gw g (x - lsr m x)) (gw g (y - lsr (m - lsr m x) y)) := rfl
    rw [e]
    omega
theorem prS_m0 : ∀ (n : Nat) (x y : Int), 0 ≤ g → (0 ≤ x ∧ x ≤ 99999) → (0 ≤ y ∧ y ≤ 99999) → prS g 0 n x y = 0 := by
  intro n
  induction n with
  | zero => intro x y _ _ _; rfl
  | succ n ih =>
    intro x y hg hx hy
    have e : prS g 0 (n + 1) x y = lsr 0 x + lsr (0 - lsr 0 x) y + prS g 0 n (gw g (x - lsr 0 x)) (gw g (y - lsr (0 - lsr 0 x) y)) := rfl
    have l1 := lsr_0 hx.1
    rw [e, l1, show (0 : Int) - 0 = 0 by omega, lsr_0 hy.1, ih _ _ hg (gw_b (by omega) hg) (gw_b (by omega) hg)]; rfl
theorem prS_00 : ∀ (n : Nat), 0 ≤ m → prS g m n 0 0 = 0 := by
  intro n hm
  induction n with
  | zero => rfl
  | succ n ih =>
    have l1 : lsr m 0 = 0 := by unfold lsr; split <;> omega
    have e : prS g m (n + 1) 0 0 = lsr m 0 + lsr (m - lsr m 0) 0 + prS g m n (gw g (0 - lsr m 0)) (gw g (0 - lsr (m - lsr m 0) 0)) := rfl
    have l2 : lsr (m - 0) 0 = 0 := by unfold lsr; split <;> omega
    rw [e, l1, l2, show gw g (0 - 0) = 0 from rfl, ih]; rfl
def togV (S : SS) (n a b x y : Int) : Int := prS (S 2) (S (15 + 6 * x + y)) (lsr n (lsr (S (3 + x)) (S (3 + y)))).toNat (S (205 + 8 * a + b)) (S (205 + 8 * b + a))
def Wait (S : SS) (wh : Int → Int) (m : Int) : Prop := (0 ≤ m ∧ m ≤ 5) ∧ (∀ j, 0 ≤ j → j < m → 0 ≤ wh j ∧ wh j < S 1 ∧ S (173 + wh j) = 0) ∧ ∀ j i, 0 ≤ j → j < i → i < m → wh j < wh i
def NodeOk (S : SS) (n : Int) (wh : Int → Int) (m i : Int) (way : Int → Int) (X : SS) : Prop := Ok S X ∧ X 169 = S 169 ∧ (∀ j, i ≤ j → j < m → X (173 + wh j) = 0) ∧ (∀ q, 205 ≤ q → X q = S q) ∧ ∀ j, i ≤ j → j < m → ∀ k, 0 ≤ k → k < S 0 → addW X (wh j) k n = addW S (wh j) k n + sumI (fun l => if way l = 0 then 0 else togV S n (wh l) (wh j) (way l - 1) k) i
theorem Node_0 (hR : InvR S) (hI : InvL S) (hw : Wait S wh m) : NodeOk S n wh m 0 way S := ⟨Ok_refl hI, rfl, fun j h1 h2 => (hw.2.1 j h1 h2).2.2, fun _ _ => rfl, fun j h1 h2 k h3 h4 => by rw [sumI_0 (by omega)]; omega⟩
theorem Node_n (h : NodeOk S n wh m i way X) (h0 : 0 ≤ i) : NodeOk S n wh m (i + 1) (q_u1 way i 0) X := by
  obtain ⟨h1, h2, h3, h4, h5⟩ := h
  refine ⟨h1, h2, fun j p1 p2 => h3 j (by omega) p2, h4, fun j p1 p2 k p3 p4 => ?_⟩
  rw [h5 j (by omega) p2 k p3 p4, sumI_s h0, u1_e, if_pos rfl]
  have e : sumI (fun l => if q_u1 way i 0 l = 0 then 0 else togV S n (wh l) (wh j) (q_u1 way i 0 l - 1) k) i = sumI (fun l => if way l = 0 then 0 else togV S n (wh l) (wh j) (way l - 1) k) i := sumI_c (fun l q1 q2 => by
    show (if q_u1 way i 0 l = 0 then 0 else togV S n (wh l) (wh j) (q_u1 way i 0 l - 1) k) = if way l = 0 then 0 else togV S n (wh l) (wh j) (way l - 1) k
    rw [u1_n (by omega)])
  rw [e]; omega
theorem Node_k (hR : InvR S) (hI : InvL S) (hw : Wait S wh m) (h : NodeOk S n wh m i way X) (h0 : 0 ≤ i) (hi : i < m) (hk : 0 ≤ k) (hk2 : k < S 0) (hy : whyF X (wh i) k = 0) : NodeOk S n wh m (i + 1) (q_u1 way i (k + 1)) (bornF X (wh i) k) ∧ totS (bornF X (wh i) k) n = totS X n + addW X (wh i) k n := by
  have g := hR.1
  obtain ⟨w1, w2, w3⟩ := hw
  obtain ⟨h1, h2, h3, h4, h5⟩ := h
  have hRX := Ok_R h1 hR
  have e0 := Ok_0 h1
  have e1 := Ok_1 h1
  obtain ⟨a1, a2, a3⟩ := w2 i h0 hi
  have z := h3 i (Int.le_refl i) hi
  obtain ⟨r1, r2, r3, -, -⟩ := born_rd (S := X) (s := wh i) (k := k) a1 (by omega)
  refine ⟨⟨Ok_born hR h1 a1 a2 hk hk2 hy, ?_, fun j p1 p2 => ?_, fun q p => ?_, fun j p1 p2 k' p3 p4 => ?_⟩, tot_born hRX h1.2 a1 (by omega) hk (by omega) z⟩
  · rw [r1 169 (by omega) (by omega) (by omega) (by omega) (by omega)]; exact h2
  · have := w3 i j h0 (by omega) p2
    have := w2 j (by omega) p2
    rw [r1 _ (by omega) (by omega) (by omega) (by omega) (by omega)]
    exact h3 j (by omega) p2
  · rw [r1 q (by omega) (by omega) (by omega) (by omega) (by omega)]; exact h4 q p
  · have l1 := w3 i j h0 (by omega) p2
    have l2 := w2 j (by omega) p2
    rw [add_born hRX h1.2 a1 (by omega) hk (by omega) z (by omega) l2.1 (by omega) p3 (by omega), h5 j (by omega) p2 k' p3 p4, sumI_s h0, u1_e, if_neg (by omega)]
    have e : sumI (fun l => if q_u1 way i (k + 1) l = 0 then 0 else togV S n (wh l) (wh j) (q_u1 way i (k + 1) l - 1) k') i = sumI (fun l => if way l = 0 then 0 else togV S n (wh l) (wh j) (way l - 1) k') i := sumI_c (fun l q1 q2 => by
      show (if q_u1 way i (k + 1) l = 0 then 0 else togV S n (wh l) (wh j) (q_u1 way i (k + 1) l - 1) k') = if way l = 0 then 0 else togV S n (wh l) (wh j) (way l - 1) k'
      rw [u1_n (by omega)])
    rw [e]
    have ep : pvW (bornF X (wh i) k) (wh j) k' (wh i) n = togV S n (wh i) (wh j) (k + 1 - 1) k' := by
      unfold pvW togV
      rw [r2, if_neg (by omega), if_pos l1, r3, r1 2 (by omega) (by omega) (by omega) (by omega) (by omega), r1 (15 + 6 * (k + 1) + (k' + 1) - 7) (by omega) (by omega) (by omega) (by omega) (by omega), r1 (3 + k') (by omega) (by omega) (by omega) (by omega) (by omega), r1 (205 + 8 * wh i + wh j) (by omega) (by omega) (by omega) (by omega) (by omega), r1 (205 + 8 * wh j + wh i) (by omega) (by omega) (by omega) (by omega) (by omega), h4 (205 + 8 * wh i + wh j) (by omega), h4 (205 + 8 * wh j + wh i) (by omega), h1.1 2 (by omega), h1.1 (15 + 6 * (k + 1) + (k' + 1) - 7) (by omega), h1.1 (3 + k) (by omega), h1.1 (3 + k') (by omega)]
      rw [show 15 + 6 * (k + 1) + (k' + 1) - 7 = 15 + 6 * k + k' by omega, show k + 1 - 1 = k by omega]
    rw [ep]
    omega
def stp (w a : Int) (o : Option SS) : Option SS := match o with
  | none => none
  | some X => if a = 0 then some X else if whyF X w (a - 1) = 0 then some (bornF X w (a - 1)) else none
def srch (wh : Int → Int) (K n had : Int) : Nat → Int → (Int → Int) → Option SS → Int × (Int → Int) → Int × (Int → Int)
  | 0, _, way, o, acc => match o with
    | none => acc
    | some X => if acc.1 < daysF n X 169 - had then (daysF n X 169 - had, way) else acc
  | d + 1, i, way, o, acc => loopI (fun a acc => srch wh K n had d (i + 1) (q_u1 way i a) (stp (wh i) a o) acc) (K + 1) acc
theorem srch_none : ∀ (d : Nat) (i : Int) (way : Int → Int) (acc : Int × (Int → Int)), srch wh K n had d i way none acc = acc := by
  intro d
  induction d with
  | zero => intro i way acc; rfl
  | succ d ih =>
    intro i way acc
    exact loopI_id (fun a h1 h2 => ih (i + 1) (q_u1 way i a) acc)
def BndOk (S : SS) (n : Int) (wh : Int → Int) (m : Int) (bd : Int → Int) : Prop := bd m = 0 ∧ ∀ i, 0 ≤ i → i < m → ∃ (A : Int) (R : Int → Int), (0 ≤ A ∧ A ≤ 30000) ∧ (∀ k, 0 ≤ k → k < S 0 → addW S (wh i) k n ≤ A) ∧ (∀ j, 0 ≤ j → j < i → (0 ≤ R j ∧ R j ≤ 3000) ∧ ∀ x y, 0 ≤ x → x < S 0 → 0 ≤ y → y < S 0 → togV S n (wh j) (wh i) x y ≤ R j) ∧ bd i = bd (i + 1) + A + sumI R i
theorem bnd_step (hb : BndOk S n wh m bd) (h : NodeOk S n wh m i way X) (h0 : 0 ≤ i) (hi : i < m) (hway : ∀ j, 0 ≤ j → j < i → 0 ≤ way j ∧ way j ≤ S 0) (hk : 0 ≤ k) (hk2 : k < S 0) : addW X (wh i) k n + bd (i + 1) ≤ bd i ∧ bd (i + 1) ≤ bd i := by
  obtain ⟨A, R, a1, a2, a3, a4⟩ := hb.2 i h0 hi
  have e := h.2.2.2.2 i (Int.le_refl i) hi k hk hk2
  have s1 : sumI (fun l => if way l = 0 then 0 else togV S n (wh l) (wh i) (way l - 1) k) i ≤ sumI R i := sumI_le (fun j p1 p2 => by
    show (if way j = 0 then 0 else togV S n (wh j) (wh i) (way j - 1) k) ≤ R j
    have := a3 j p1 p2
    have hwj := hway j p1 p2
    by_cases hz : way j = 0
    · rw [if_pos hz]; exact this.1.1
    · rw [if_neg hz]; exact this.2 (way j - 1) k (by omega) (by omega) hk hk2)
  have s2 : 0 ≤ sumI R i := sumI_ge0 (fun j p1 p2 => (a3 j p1 p2).1.1)
  have := a2 k hk hk2
  omega
theorem bnd_0 (hb : BndOk S n wh m bd) (h0 : 0 ≤ i) (hi : i < m) : bd (i + 1) ≤ bd i := by
  obtain ⟨A, R, a1, a2, a3, a4⟩ := hb.2 i h0 hi
  have s2 : 0 ≤ sumI R i := sumI_ge0 (fun j p1 p2 => (a3 j p1 p2).1.1)
  omega
theorem tot_days (hn : 0 ≤ n) (hR : InvR S) (h : NodeOk S n wh m i way X) : daysF n X 169 - S 169 = totS X n := by
  have := days_sum n.toNat X (Ok_R h.1 hR) h.1.2
  rw [show ((n.toNat : Nat) : Int) = n by omega, h.2.1] at this
  exact this
theorem prune (hn : 0 ≤ n) (hR : InvR S) (hI : InvL S) (hw : Wait S wh m) (hb : BndOk S n wh m bd) : ∀ (d : Nat) (i : Int) (way : Int → Int) (X : SS) (acc : Int × (Int → Int)), i + d = m → 0 ≤ i → NodeOk S n wh m i way X → (∀ j, 0 ≤ j → j < i → 0 ≤ way j ∧ way j ≤ S 0) → totS X n + bd i ≤ acc.1 → srch wh (S 0) n (S 169) d i way (some X) acc = acc := by
  intro d
  induction d with
  | zero =>
    intro i way X acc g1 g2 h hway hle
    have e : i = m := by omega
    rw [e, hb.1] at hle
    have td := tot_days hn hR h
    show (if acc.1 < daysF n X 169 - S 169 then (daysF n X 169 - S 169, way) else acc) = acc
    rw [if_neg (by omega)]
  | succ d ih =>
    intro i way X acc g1 g2 h hway hle
    have hb0 := bnd_0 hb g2 (by omega)
    refine loopI_id (fun a h1 h2 => ?_)
    have hw' : ∀ j, 0 ≤ j → j < i + 1 → 0 ≤ q_u1 way i a j ∧ q_u1 way i a j ≤ S 0 := fun j p1 p2 => by
      by_cases hj : j = i
      · rw [hj, u1_e]; omega
      · rw [u1_n hj]; exact hway j p1 (by omega)
    show srch wh (S 0) n (S 169) d (i + 1) (q_u1 way i a) (stp (wh i) a (some X)) acc = acc
    by_cases ha : a = 0
    · have e : stp (wh i) a (some X) = some X := if_pos ha
      rw [e]
      rw [ha] at hw' ⊢
      exact ih (i + 1) _ X acc (by omega) (by omega) (Node_n h g2) hw' (by omega)
    · have e : stp (wh i) a (some X) = if whyF X (wh i) (a - 1) = 0 then some (bornF X (wh i) (a - 1)) else none := if_neg ha
      rw [e]
      by_cases hy : whyF X (wh i) (a - 1) = 0
      · rw [if_pos hy]
        obtain ⟨n1, n2⟩ := Node_k hR hI hw h g2 (by omega) (by omega) (by omega) hy
        rw [show a - 1 + 1 = a by omega] at n1
        have := bnd_step hb h g2 (by omega) hway (k := a - 1) (by omega) (by omega)
        exact ih (i + 1) _ _ acc (by omega) (by omega) n1 hw' (by omega)
      · rw [if_neg hy]
        exact srch_none d (i + 1) _ acc
end SPm3
