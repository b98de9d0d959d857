section SPB
variable {c : CC} {r r' : Nat} {i j v w : Int} {f g : Int → Int}
theorem up_e : (q_up c r i v) r i = v := by simp [q_up, q_uf, q_u1]
theorem up_n (h : ¬ (r' = r ∧ j = i)) : (q_up c r i v) r' j = c r' j := by
  unfold q_up q_uf
  by_cases hr : r' = r
  · subst hr
    rw [if_pos rfl]
    exact if_neg (fun hj => h ⟨rfl, hj⟩)
  · rw [if_neg hr]
theorem up_r (h : ¬ r' = r) : (q_up c r i v) r' = c r' := by
  unfold q_up q_uf
  rw [if_neg h]
theorem uf_e : (q_uf c r f) r = f := by simp [q_uf]
theorem uf_n (h : ¬ r' = r) : (q_uf c r f) r' = c r' := by
  unfold q_uf
  rw [if_neg h]
theorem uf_n2 (h : ¬ r' = r) : (q_uf c r f) r' j = c r' j := by rw [uf_n h]
theorem up_uf : q_up c r i v = q_uf c r (q_u1 (c r) i v) := rfl
theorem uf_uf : q_uf (q_uf c r f) r g = q_uf c r g := by
  funext x
  unfold q_uf
  by_cases hx : x = r
  · rw [if_pos hx, if_pos hx]
  · rw [if_neg hx, if_neg hx, if_neg hx]
theorem uf_id : q_uf c r (c r) = c := by
  funext x
  unfold q_uf
  by_cases hx : x = r
  · rw [if_pos hx, hx]
  · rw [if_neg hx]
theorem uf_id2 (h : f = c r) : q_uf c r f = c := by rw [h, uf_id]
theorem u1_e : q_u1 f i v i = v := if_pos rfl
theorem u1_n (h : ¬ j = i) : q_u1 f i v j = f j := if_neg h
theorem uf_comm (h : ¬ r = r') : q_uf (q_uf c r f) r' g = q_uf (q_uf c r' g) r f := by
  funext x
  unfold q_uf
  by_cases h1 : x = r'
  · by_cases h2 : x = r
    · exact absurd (h2.symm.trans h1) h
    · rw [if_pos h1, if_neg h2, if_pos h1]
  · by_cases h2 : x = r
    · rw [if_neg h1, if_pos h2, if_pos h2]
    · rw [if_neg h1, if_neg h2, if_neg h2, if_neg h1]
abbrev QM (Q : Option AV → HH → Prop) : OO → HH → Prop := fun o h' => match o with | .inl r => Q r h' | .inr _ => False
theorem int_ind {P : Int → Prop} {a N : Int} (h0 : P N) (hs : ∀ i, a ≤ i → i < N → P (i + 1) → P i) : ∀ i, a ≤ i → i ≤ N → P i := by
  have h : ∀ (n : Nat) (i : Int), a ≤ i → i ≤ N → N - i = n → P i := by
    intro n
    induction n with
    | zero =>
      intro i h1 h2 h3
      obtain rfl : i = N := by omega
      exact h0
    | succ n ih =>
      intro i h1 h2 h3
      exact hs i h1 (by omega) (ih (i + 1) (by omega) (by omega) (by omega))
  intro i h1 h2
  exact h (N - i).toNat i h1 h2 (by omega)
theorem int_up {P : Int → Prop} {a N : Int} (h0 : P a) (hs : ∀ i, a ≤ i → i < N → P i → P (i + 1)) : ∀ i, a ≤ i → i ≤ N → P i := by
  have h : ∀ (n : Nat) (i : Int), a ≤ i → i ≤ N → i - a = n → P i := by
    intro n
    induction n with
    | zero =>
      intro i h1 h2 h3
      obtain rfl : i = a := by omega
      exact h0
    | succ n ih =>
      intro i h1 h2 h3
      have := hs (i - 1) (by omega) (by omega) (ih (i - 1) (by omega) (by omega) (by omega))
      rwa [show i - 1 + 1 = i by omega] at this
  intro i h1 h2
  exact h (i - a).toNat i h1 h2 (by omega)
def loopN {α : Type} (f : Nat → α → α) : Nat → α → α
  | 0, x => x
  | n + 1, x => f n (loopN f n x)
def loopI {α : Type} (f : Int → α → α) (n : Int) (x : α) : α := loopN (fun k => f (k : Int)) n.toNat x
theorem loopI_0 {α : Type} {f : Int → α → α} {x : α} {n : Int} (h : n ≤ 0) : loopI f n x = x := by
  unfold loopI
  rw [show n.toNat = 0 by omega]
  rfl
theorem loopI_s {α : Type} {f : Int → α → α} {x : α} {n : Int} (h : 0 ≤ n) : loopI f (n + 1) x = f n (loopI f n x) := by
  unfold loopI
  rw [show (n + 1).toNat = n.toNat + 1 by omega]
  show f (n.toNat : Int) _ = _
  rw [show ((n.toNat : Nat) : Int) = n by omega]
theorem loopI_p {α : Type} {f : Int → α → α} {n : Int} {P : α → Prop} {x : α} (h0 : P x) (hs : ∀ i y, 0 ≤ i → i < n → P y → P (f i y)) : P (loopI f n x) := by
  by_cases hn : n ≤ 0
  · rw [loopI_0 hn]; exact h0
  · refine int_up (P := fun i => P (loopI f i x)) (a := 0) (N := n) ?_ ?_ n (by omega) (by omega)
    · rw [loopI_0 (by omega)]; exact h0
    · intro i h1 h2 h3
      rw [loopI_s h1]
      exact hs i _ h1 h2 h3
theorem loopI_pi {α : Type} {f : Int → α → α} {n : Int} {P : Int → α → Prop} {x : α} (hn : 0 ≤ n) (h0 : P 0 x) (hs : ∀ i y, 0 ≤ i → i < n → P i y → P (i + 1) (f i y)) : P n (loopI f n x) := by
  refine int_up (P := fun i => P i (loopI f i x)) (a := 0) (N := n) ?_ ?_ n (by omega) (by omega)
  · show P 0 (loopI f 0 x)
    rw [loopI_0 (by omega)]; exact h0
  · intro i h1 h2 h3
    show P (i + 1) (loopI f (i + 1) x)
    rw [loopI_s h1]
    exact hs i _ h1 h2 h3
theorem loopI_id {α : Type} {f : Int → α → α} {n : Int} {x : α} (h : ∀ i, 0 ≤ i → i < n → f i x = x) : loopI f n x = x :=
  loopI_p (P := fun y => y = x) rfl (fun i y h1 h2 h3 => by rw [h3]; exact h i h1 h2)
theorem loopI_c {α : Type} {f g : Int → α → α} {n : Int} {x : α} (h : ∀ i y, 0 ≤ i → i < n → f i y = g i y) : loopI f n x = loopI g n x := by
  by_cases hn : n ≤ 0
  · rw [loopI_0 hn, loopI_0 hn]
  · refine int_up (P := fun i => loopI f i x = loopI g i x) (a := 0) (N := n) ?_ ?_ n (by omega) (by omega)
    · show loopI f 0 x = loopI g 0 x
      rw [loopI_0 (by omega), loopI_0 (by omega)]
    · intro i h1 h2 h3
      show loopI f (i + 1) x = loopI g (i + 1) x
      rw [loopI_s h1, loopI_s h1, show loopI f i x = loopI g i x from h3]
      exact h i _ h1 h2
def sumI (f : Int → Int) (n : Int) : Int := loopI (fun k s => s + f k) n 0
theorem sumI_0 {n : Int} (h : n ≤ 0) : sumI f n = 0 := loopI_0 h
theorem sumI_s {n : Int} (h : 0 ≤ n) : sumI f (n + 1) = sumI f n + f n := loopI_s h
theorem sumI_c {n : Int} (h : ∀ i, 0 ≤ i → i < n → f i = g i) : sumI f n = sumI g n := loopI_c (fun i y h1 h2 => by rw [h i h1 h2])
theorem sumI_lo {n lo : Int} (hn : 0 ≤ n) (h : ∀ i, 0 ≤ i → i < n → lo ≤ f i) : lo * n ≤ sumI f n := by
  refine int_up (P := fun i => lo * i ≤ sumI f i) (a := 0) (N := n) ?_ ?_ n hn (by omega)
  · show lo * 0 ≤ sumI f 0
    rw [sumI_0 (by omega), Int.mul_zero]
    omega
  · intro i h1 h2 h3
    show lo * (i + 1) ≤ sumI f (i + 1)
    rw [sumI_s h1, Int.mul_add, Int.mul_one]
    have := h i h1 h2
    have h3 : lo * i ≤ sumI f i := h3
    omega
theorem sumI_hi {n hi : Int} (hn : 0 ≤ n) (h : ∀ i, 0 ≤ i → i < n → f i ≤ hi) : sumI f n ≤ hi * n := by
  refine int_up (P := fun i => sumI f i ≤ hi * i) (a := 0) (N := n) ?_ ?_ n hn (by omega)
  · show sumI f 0 ≤ hi * 0
    rw [sumI_0 (by omega), Int.mul_zero]
    omega
  · intro i h1 h2 h3
    show sumI f (i + 1) ≤ hi * (i + 1)
    rw [sumI_s h1, Int.mul_add, Int.mul_one]
    have := h i h1 h2
    have h3 : sumI f i ≤ hi * i := h3
    omega
theorem sumI_ge0 {n : Int} (h : ∀ i, 0 ≤ i → i < n → 0 ≤ f i) : 0 ≤ sumI f n := by
  by_cases hn : n ≤ 0
  · rw [sumI_0 hn]; omega
  · have := sumI_lo (lo := 0) (f := f) (n := n) (by omega) h
    omega
theorem sumI_z {n m : Int} (h0 : 0 ≤ n) (hnm : n ≤ m) (h : ∀ i, n ≤ i → i < m → f i = 0) : sumI f m = sumI f n := by
  refine int_up (P := fun i => sumI f i = sumI f n) (a := n) (N := m) rfl ?_ m hnm (by omega)
  intro i h1 h2 h3
  show sumI f (i + 1) = _
  rw [sumI_s (by omega), h i h1 h2, show sumI f i = sumI f n from h3]
  omega
theorem sumI_le {n : Int} (h : ∀ i, 0 ≤ i → i < n → f i ≤ g i) : sumI f n ≤ sumI g n := by
  by_cases hn : n ≤ 0
  · rw [sumI_0 hn, sumI_0 hn]; omega
  · refine int_up (P := fun i => sumI f i ≤ sumI g i) (a := 0) (N := n) ?_ ?_ n (by omega) (by omega)
    · show sumI f 0 ≤ sumI g 0
      rw [sumI_0 (by omega), sumI_0 (by omega)]; omega
    · intro i h1 h2 h3
      show sumI f (i + 1) ≤ sumI g (i + 1)
      rw [sumI_s h1, sumI_s h1]
      have := h i h1 h2
      have h3 : sumI f i ≤ sumI g i := h3
      omega
theorem sumI_add {n : Int} : sumI (fun i => f i + g i) n = sumI f n + sumI g n := by
  by_cases hn : n ≤ 0
  · rw [sumI_0 hn, sumI_0 hn, sumI_0 hn]; omega
  · refine int_up (P := fun n => sumI (fun i => f i + g i) n = sumI f n + sumI g n) (a := 0) (N := n) ?_ ?_ n (by omega) (by omega)
    · show sumI _ 0 = sumI f 0 + sumI g 0
      rw [sumI_0 (by omega), sumI_0 (by omega), sumI_0 (by omega)]; omega
    · intro i h1 h2 h3
      show sumI _ (i + 1) = sumI f (i + 1) + sumI g (i + 1)
      rw [sumI_s h1, sumI_s h1, sumI_s h1, show sumI (fun i => f i + g i) i = _ from h3]
      omega
theorem sumI_u {n : Int} (hi0 : 0 ≤ i) (hin : i < n) (h : ∀ k, 0 ≤ k → k < n → ¬ k = i → g k = f k) : sumI g n = sumI f n + (g i - f i) := by
  refine int_up (P := fun m => sumI g m = sumI f m + (g i - f i)) (a := i + 1) (N := n) ?_ ?_ n (by omega) (by omega)
  · show sumI g (i + 1) = sumI f (i + 1) + (g i - f i)
    rw [sumI_s hi0, sumI_s hi0, sumI_c (f := g) (g := f) (fun k h1 h2 => h k h1 (by omega) (by omega))]
    omega
  · intro k h1 h2 h3
    show sumI g (k + 1) = sumI f (k + 1) + (g i - f i)
    rw [sumI_s (by omega), sumI_s (by omega), show sumI g k = _ from h3, h k (by omega) h2 (by omega)]
    omega
end SPB
section SPB2
variable {α : Type} {f : Int → α → α} {i N : Int} {x : α}
def runF (f : Int → α → α) : Nat → Int → α → α
  | 0, _, x => x
  | n + 1, i, x => runF f n (i + 1) (f i x)
def loopR (f : Int → α → α) (i N : Int) (x : α) : α := runF f (N - i).toNat i x
theorem loopR_e (h : N ≤ i) : loopR f i N x = x := by
  unfold loopR
  rw [show (N - i).toNat = 0 by omega]
  rfl
theorem loopR_s (h : i < N) : loopR f i N x = loopR f (i + 1) N (f i x) := by
  unfold loopR
  rw [show (N - i).toNat = (N - (i + 1)).toNat + 1 by omega]
  rfl
theorem loopR_i (h0 : 0 ≤ i) (h : i ≤ N) : loopR f i N (loopI f i x) = loopI f N x := by
  refine int_ind (P := fun i => loopR f i N (loopI f i x) = loopI f N x) (a := 0) (N := N) ?_ ?_ i h0 h
  · exact loopR_e (by omega)
  · intro i h1 h2 h3
    show loopR f i N (loopI f i x) = _
    rw [loopR_s h2, ← loopI_s (f := f) (x := x) h1]
    exact h3
theorem loopR_0 : loopR f 0 N x = loopI f N x := by
  by_cases h : N ≤ 0
  · rw [loopR_e h, loopI_0 h]
  · have := loopR_i (f := f) (i := 0) (N := N) (x := x) (by omega) (by omega)
    rwa [loopI_0 (show (0 : Int) ≤ 0 by omega)] at this
theorem loopR_skip {j : Int} (h0 : i ≤ j) (h : j ≤ N) (hf : ∀ k, i ≤ k → k < j → f k x = x) : loopR f i N x = loopR f j N x := by
  refine int_up (P := fun j => loopR f i N x = loopR f j N x) (a := i) (N := j) rfl ?_ j h0 (by omega)
  intro k h1 h2 h3
  show _ = loopR f (k + 1) N x
  rw [show loopR f i N x = loopR f k N x from h3, loopR_s (by omega), hf k h1 h2]
theorem uf_up {c : CC} {r : Nat} {g : Int → Int} {i v : Int} : q_up (q_uf c r g) r i v = q_uf c r (q_u1 g i v) := by rw [up_uf, uf_e, uf_uf]
end SPB2
