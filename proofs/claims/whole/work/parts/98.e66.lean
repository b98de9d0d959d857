section SPaf
variable {d : Nat} {G : GG} {c c' c0 : CC} {Q : Option AV → HH → Prop} {S : SS} {m K k js v t x y j j0 i N s o b n fb : Int} {L f way w : Int → Int}
theorem fst_pre : ∀ (d : Nat) (i : Int) (way w : Int → Int), fstW S s k b d i way = some w → 0 ≤ i → ∀ j, 0 ≤ j → j < i → w j = way j := by
  intro d
  induction d with
  | zero =>
    intro i way w h h0 j h1 h2
    have ef : fstW S s k b 0 i way = if feF S s k way = 1 ∧ chW way (mT S) ≤ b then some way else none := rfl
    rw [ef] at h
    by_cases hh : feF S s k way = 1 ∧ chW way (mT S) ≤ b
    · rw [if_pos hh] at h; rw [← Option.some.inj h]
    · rw [if_neg hh] at h; exact absurd h (by intro z; cases z)
  | succ d ih =>
    intro i way w h h0 j h1 h2
    have key : ∀ w, loopI (fun a o => orO o (fstW S s k b d (i + 1) (q_u1 way i a))) (S 0) none = some w → w j = way j := by
      refine loopI_p (f := fun a o => orO o (fstW S s k b d (i + 1) (q_u1 way i a))) (n := S 0) (P := fun o => ∀ w, o = some w → w j = way j) (x := none) (fun w hw => absurd hw (by intro z; cases z)) (fun a y p1 p2 hy w hw => ?_)
      cases y with
      | some w' => exact hy w hw
      | none =>
        have hw : fstW S s k b d (i + 1) (q_u1 way i a) = some w := hw
        rw [ih (i + 1) _ w hw (by omega) j h1 (by omega), u1_n (by omega)]
    exact key w h
theorem fst_none (hR : InvR S) (h1 : i + d = mT S) (h0 : 0 ≤ i) (hb : Box way i (S 0)) (hno : ∀ w, Box w (mT S) (S 0) → Feas S s k w → chW w (mT S) ≤ b → (∀ j, 0 ≤ j → j < i → w j = way j) → False) : fstW S s k b d i way = none := by
  cases hf : fstW S s k b d i way with
  | none => rfl
  | some w =>
    obtain ⟨q1, q2, q3⟩ := fst_ok hR d i way w h1 h0 hb hf
    exact (hno w q1 q2 q3 (fst_pre d i way w hf h0)).elim
theorem lp_none {g : Int → Option (Int → Int)} {a0 : Int} (h0 : 0 ≤ a0) (h : loopI (fun a o => orO o (g a)) a0 none = none) (hg : ∀ a, a0 ≤ a → a < N → g a = none) : ∀ a, a0 ≤ a → a ≤ N → loopI (fun a o => orO o (g a)) a none = none := by
  refine int_up h ?_
  intro a p1 p2 ih
  rw [loopI_s (by omega), ih, hg a p1 p2]; rfl
theorem lp_some {g : Int → Option (Int → Int)} {a0 : Int} (h0 : 0 ≤ a0) (hN : a0 < N) (h : loopI (fun a o => orO o (g a)) a0 none = none) (hg : g a0 = some w) : loopI (fun a o => orO o (g a)) N none = some w := by
  have key : ∀ a, a0 + 1 ≤ a → a ≤ N → loopI (fun a o => orO o (g a)) a none = some w := by
    refine int_up ?_ ?_
    · rw [loopI_s h0, h, hg]; rfl
    · intro a p1 p2 ih
      rw [loopI_s (by omega), ih]; rfl
  exact key N (by omega) (Int.le_refl _)
theorem lp_one {g : Int → Option (Int → Int)} {a0 : Int} (h0 : 0 ≤ a0) (hN : a0 < N) (hg : ∀ a, 0 ≤ a → a < N → ¬ a = a0 → g a = none) : loopI (fun a o => orO o (g a)) N none = g a0 := by
  have n0 := lp_none (g := g) (N := a0) (a0 := 0) (by omega) (loopI_0 (by omega)) (fun a p1 p2 => hg a p1 (by omega) (by omega)) a0 h0 (Int.le_refl _)
  cases hh : g a0 with
  | some w => exact lp_some h0 hN n0 hh
  | none =>
    exact lp_none (g := g) (N := N) h0 n0 (fun a p1 p2 => by
      by_cases ha : a = a0
      · rw [ha]; exact hh
      · exact hg a (by omega) p2 ha) N (by omega) (Int.le_refl _)
theorem cnt_s (h : 0 ≤ i) : cntI f (i + 1) x = cntI f i x + (if f i = x then 1 else 0) := sumI_s h
theorem chw_s (h : 0 ≤ i) : chW way (i + 1) = chW way i + (if 0 < way i then 1 else 0) := sumI_s h
theorem cnt_mono (h0 : 0 ≤ i) : ∀ q, i ≤ q → q ≤ N → cntI f i x ≤ cntI f q x := by
  refine int_up (Int.le_refl _) ?_
  intro q q1 q2 ih
  rw [cnt_s (by omega)]; split <;> omega
theorem chw_mono (h0 : 0 ≤ i) : ∀ q, i ≤ q → q ≤ N → chW way i ≤ chW way q := by
  refine int_up (Int.le_refl _) ?_
  intro q q1 q2 ih
  rw [chw_s (by omega)]; split <;> omega
theorem cnt_ge (h0 : 0 ≤ i) (h1 : i ≤ js) (h2 : js < m) (e : f js = x) : cntI f i x + 1 ≤ cntI f m x := by
  have a := cnt_mono (f := f) (x := x) (N := js) h0 js h1 (Int.le_refl _)
  have b := cnt_s (f := f) (x := x) (i := js) (by omega)
  rw [if_pos e] at b
  have c := cnt_mono (f := f) (x := x) (i := js + 1) (N := m) (by omega) m (by omega) (Int.le_refl _)
  omega
theorem chw_ge (h0 : 0 ≤ i) (h1 : i ≤ js) (h2 : js < m) (e : 0 < way js) : chW way i + 1 ≤ chW way m := by
  have a := chw_mono (way := way) (N := js) h0 js h1 (Int.le_refl _)
  have b := chw_s (way := way) (i := js) (by omega)
  rw [if_pos e] at b
  have c := chw_mono (way := way) (i := js + 1) (N := m) (by omega) m (by omega) (Int.le_refl _)
  omega
theorem tw_pre (h0 : 0 ≤ o) : ∀ q, o ≤ q → q ≤ N → (twN S o).1 ≤ (twN S q).1 ∧ ∀ j, 0 ≤ j → j < (twN S o).1 → (twN S q).2 j = (twN S o).2 j := by
  refine int_up ⟨Int.le_refl _, fun _ _ _ => rfl⟩ ?_
  intro q q1 q2 ih
  have e := tw_s (S := S) (s := q) (by omega)
  by_cases hz : S (197 + q) = 0
  · rw [if_pos hz] at e; rw [e]; exact ih
  · rw [if_neg hz] at e
    have e1 : (twN S (q + 1)).1 = (twN S q).1 + 1 := by rw [e]
    have e2 : (twN S (q + 1)).2 = q_u1 (twN S q).2 (twN S q).1 q := by rw [e]
    rw [e1, e2]
    refine ⟨by omega, fun j h1 h2 => ?_⟩
    rw [u1_n (by omega)]
    exact ih.2 j h1 h2
theorem wT_at (h0 : 0 ≤ o) (h1 : o < S 1) (hz : ¬ S (197 + o) = 0) : (twN S o).1 < mT S ∧ wT S (twN S o).1 = o ∧ (twN S (o + 1)).1 = (twN S o).1 + 1 := by
  have e := tw_s (S := S) h0
  rw [if_neg hz] at e
  have e1 : (twN S (o + 1)).1 = (twN S o).1 + 1 := by rw [e]
  have p := tw_pre (S := S) (o := o + 1) (N := S 1) (by omega) (S 1) (by omega) (Int.le_refl _)
  have b := (tw_ok (S := S) (N := o) o h0 (Int.le_refl _)).1
  refine ⟨?_, ?_, e1⟩
  · have : mT S = (twN S (S 1)).1 := rfl
    omega
  · have e2 : wT S (twN S o).1 = (twN S (S 1)).2 (twN S o).1 := rfl
    rw [e2, p.2 _ b.1 (by omega), e]
    exact u1_e
theorem wT_lt (h0 : 0 ≤ o) (h1 : o ≤ S 1) (hj : 0 ≤ j) (hj2 : j < (twN S o).1) : wT S j < o := by
  have p := tw_pre (S := S) (N := S 1) h0 (S 1) h1 (Int.le_refl _)
  have e2 : wT S j = (twN S (S 1)).2 j := rfl
  rw [e2, p.2 j hj hj2]
  exact ((tw_ok (S := S) (N := o) o h0 (Int.le_refl _)).2.1 j hj hj2).2.1
def DfS (S : SS) (s k fb b : Int) (way : Int → Int) (r : Int → Int) (o i : Int) : Prop := (∀ x, 0 ≤ x → x < S 0 → r x = S (9 + x) - cntI (sgW S way) i x - (if o ≤ s ∧ x = k then 1 else 0) ∧ 0 ≤ r x) ∧ (b = fb - chW way i - (if o ≤ s then 1 else 0) ∧ 0 ≤ b ∧ b ≤ 8) ∧ (∀ j, 0 ≤ j → j < i → alT S j (sgW S way j) ∧ (wT S j = s → sgW S way j = k)) ∧ Box way i (S 0)
theorem sg_c (h : ∀ j, 0 ≤ j → j < i → w j = way j) : ∀ j, 0 ≤ j → j < i → sgW S w j = sgW S way j := fun j h1 h2 => by unfold sgW; rw [h j h1 h2]
theorem Df_s (hR : InvR S) (h : DfS S s k fb b way f o i) (h0 : 0 ≤ i) (ei : wT S i = o) {a : Int} (ha : 0 ≤ a ∧ a < S 0) (hal : alT S i (kby S o a)) (hos : ¬ o = s) (hb : 0 ≤ b - (if 0 < a then 1 else 0)) (hrm : 1 ≤ f (kby S o a)) : DfS S s k fb (b - (if 0 < a then 1 else 0)) (q_u1 way i a) (q_u1 f (kby S o a) (f (kby S o a) - 1)) (o + 1) (i + 1) := by
  obtain ⟨h1, ⟨h2, h3, h3'⟩, h4, h5⟩ := h
  have ec : ∀ j, 0 ≤ j → j < i → sgW S (q_u1 way i a) j = sgW S way j := sg_c (fun j _ q2 => u1_n (by omega))
  have ei2 : sgW S (q_u1 way i a) i = kby S o a := by unfold sgW; rw [u1_e, ei]
  refine ⟨fun x x1 x2 => ?_, ⟨?_, hb, by split <;> omega⟩, fun j j1 j2 => ?_, Box_s h5 ha⟩
  · have e := h1 x x1 x2
    rw [cnt_s h0, cnt_c (x := x) ec, ei2]
    by_cases hx : x = kby S o a
    · rw [hx, u1_e, if_pos rfl]
      rw [hx] at e
      by_cases hh : o ≤ s ∧ kby S o a = k
      · rw [if_pos hh] at e; rw [if_pos (show o + 1 ≤ s ∧ kby S o a = k from ⟨by omega, hh.2⟩)]; omega
      · rw [if_neg hh] at e; rw [if_neg (show ¬ (o + 1 ≤ s ∧ kby S o a = k) from fun z => hh ⟨by omega, z.2⟩)]; omega
    · rw [u1_n hx, if_neg (fun z => hx z.symm)]
      by_cases hh : o ≤ s ∧ x = k
      · rw [if_pos hh] at e; rw [if_pos (show o + 1 ≤ s ∧ x = k from ⟨by omega, hh.2⟩)]; omega
      · rw [if_neg hh] at e; rw [if_neg (show ¬ (o + 1 ≤ s ∧ x = k) from fun z => hh ⟨by omega, z.2⟩)]; omega
  · rw [chw_s h0, u1_e, chW_c (m := i) (way := way) (fun j _ q2 => u1_n (by omega)), h2]
    by_cases hh : o ≤ s
    · rw [if_pos hh, if_pos (show o + 1 ≤ s by omega)]; omega
    · rw [if_neg hh, if_neg (show ¬ o + 1 ≤ s by omega)]; omega
  · by_cases hj : j = i
    · rw [hj, ei2]
      exact ⟨hal, fun z => absurd (ei.symm.trans z) hos⟩
    · rw [ec j j1 (by omega)]; exact h4 j j1 (by omega)
end SPaf
