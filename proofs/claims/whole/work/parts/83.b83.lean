section SPO
variable {d : Nat} {G : GG} {c : CC} {Q : Option AV → HH → Prop} {v0 v1 v2 : Int} {S : SS} {a : Nat}
theorem sum8 {f : Int → Int} {n : Int} (hn : 0 ≤ n) : sumI f (8 * n) = sumI (fun a => sumI (fun b => f (8 * a + b)) 8) n := by
  refine int_up (P := fun n => sumI f (8 * n) = sumI (fun a => sumI (fun b => f (8 * a + b)) 8) n) (a := 0) (N := n) ?_ ?_ n hn (by omega)
  · show sumI f (8 * 0) = sumI _ 0
    rw [sumI_0 (by omega), sumI_0 (by omega)]
  · intro i h1 h2 h3
    show sumI f (8 * (i + 1)) = sumI _ (i + 1)
    have h3 : sumI f (8 * i) = sumI (fun a => sumI (fun b => f (8 * a + b)) 8) i := h3
    rw [sumI_s h1, ← h3]
    have key : ∀ m, 0 ≤ m → m ≤ 8 → sumI f (8 * i + m) = sumI f (8 * i) + sumI (fun b => f (8 * i + b)) m := by
      refine int_up ?_ ?_
      · rw [sumI_0 (show (0 : Int) ≤ 0 by omega), show 8 * i + 0 = 8 * i by omega]; omega
      · intro m h4 h5 h6
        rw [show 8 * i + (m + 1) = (8 * i + m) + 1 by omega, sumI_s (by omega), sumI_s h4, h6]
        omega
    have := key 8 (by omega) (by omega)
    rw [show 8 * (i + 1) = 8 * i + 8 by omega]
    exact this
theorem all_64 : sumI (fun i => S (205 + i)) 64 = allF S := by
  have := sum8 (f := fun i => S (205 + i)) (n := 8) (by omega)
  rw [show (8 : Int) * 8 = 64 by omega] at this
  rw [this]
  unfold allF dbtF
  refine sumI_c (fun i _ _ => sumI_c (fun j _ _ => ?_))
  show S (205 + (8 * i + j)) = S (205 + 8 * i + j)
  congr 1; omega
def cntF (S : SS) : Int := sumI (fun i => if 0 < S (205 + i) then 1 else 0) 64
def wtsF (S : SS) : Int := sumI (fun i => if S (173 + i) = 0 then 1 else 0) (S 1)
def livF (S : SS) (k : Int) : Int := sumI (fun i => if S (173 + i) = k + 1 then 1 else 0) (S 1)
theorem d_at (hI : InvL S) {x y : Int} (h1 : 0 ≤ x) (h2 : x < 8) (h3 : 0 ≤ y) (h4 : y < 8) : 0 ≤ S (205 + 8 * x + y) ∧ S (205 + 8 * x + y) ≤ 99999 := by
  have := hI.2.2.1 (8 * x + y) (by omega) (by omega)
  rwa [show 205 + (8 * x + y) = 205 + 8 * x + y by omega] at this
theorem dbt_b (hI : InvL S) (h1 : 0 ≤ v1) (h2 : v1 < 8) : 0 ≤ dbtF S v1 ∧ dbtF S v1 ≤ 799992 := by
  unfold dbtF
  have a1 := sumI_lo (f := fun q => S (205 + 8 * v1 + q)) (n := 8) (lo := 0) (by omega) (fun i h3 h4 => (d_at hI h1 h2 h3 h4).1)
  have a2 := sumI_hi (f := fun q => S (205 + 8 * v1 + q)) (n := 8) (hi := 99999) (by omega) (fun i h3 h4 => (d_at hI h1 h2 h3 h4).2)
  omega
theorem due_b (hI : InvL S) (h1 : 0 ≤ v1) (h2 : v1 < 8) : 0 ≤ dueF S v1 ∧ dueF S v1 ≤ 799992 := by
  unfold dueF
  have a1 := sumI_lo (f := fun q => S (205 + 8 * q + v1)) (n := 8) (lo := 0) (by omega) (fun i h3 h4 => (d_at hI h3 h4 h1 h2).1)
  have a2 := sumI_hi (f := fun q => S (205 + 8 * q + v1)) (n := 8) (hi := 99999) (by omega) (fun i h3 h4 => (d_at hI h3 h4 h1 h2).2)
  omega
theorem all_b (hI : InvL S) : 0 ≤ allF S ∧ allF S ≤ 6399936 := by
  unfold allF
  have a1 := sumI_lo (f := dbtF S) (n := 8) (lo := 0) (by omega) (fun i h3 h4 => (dbt_b hI h3 h4).1)
  have a2 := sumI_hi (f := dbtF S) (n := 8) (hi := 799992) (by omega) (fun i h3 h4 => (dbt_b hI h3 h4).2)
  omega
theorem cnt_b {f : Int → Prop} [DecidablePred f] {n : Int} (hn : 0 ≤ n) : 0 ≤ sumI (fun i => if f i then 1 else 0) n ∧ sumI (fun i => if f i then 1 else 0) n ≤ n := by
  have a1 := sumI_lo (f := fun i => if f i then 1 else 0) (n := n) (lo := 0) hn (fun i h3 h4 => by show 0 ≤ if f i then (1 : Int) else 0; split <;> omega)
  have a2 := sumI_hi (f := fun i => if f i then 1 else 0) (n := n) (hi := 1) hn (fun i h3 h4 => by show (if f i then (1 : Int) else 0) ≤ 1; split <;> omega)
  omega
theorem c_owesInAll (hG : Shp G) (h_a : Life a) (hR : InvR S) (hI : InvL S) (hr : RR c 9 S) (hL : LR c a S) (h0 : 0 ≤ v1) (h1 : v1 < 8) (hz : Q (some (aI (dbtF S v1))) (G, c)) : TM (d + 1) 22 [aR a, aI v1] (G, c) Q := by
  have g := hR.1
  have e1 := hr.1
  have ez : dbtF S v1 = sumI (fun q => S (205 + 8 * v1 + q)) (S 1) := sumI_z (by omega) (by omega) (fun i h3 h4 => hI.2.2.2.1 v1 i h0 h1 (by omega) h4 (by omega))
  rw [ez] at hz
  refine b22_0 hG h_a ?_
  have key : ∀ i, 0 ≤ i → i ≤ S 1 → T (d + 1) 22 4 [some (aR a), some (aI v1), some (aI (sumI (fun q => S (205 + 8 * v1 + q)) i)), some (aI i)] [] (G, c) (QM Q) := by
    refine int_ind ?_ ?_
    · refine b22_4 hG h_a TM_eqo rfl (by intros; omega) (by intros; omega) ?_ ?_
      · intro p1; exact hz
      · intro p1; omega
    · intro i h2 h3 ih
      rw [sumI_s h2] at ih
      refine b22_4 hG h_a TM_eqo rfl (by intros; omega) (by intros; omega) ?_ ?_
      · intro p1; omega
      · intro p1
        refine c_soulPair hG ?_
        refine b22_25 hG h_a (by intros; omega) (by intros; omega) rfl ?_
        rw [hL.1.2.2.1 (v1 * 8 + i) (by omega) (by omega), show 205 + (v1 * 8 + i) = 205 + 8 * v1 + i by omega]
        exact ih
  have k0 := key 0 (by omega) (by omega)
  rw [sumI_0 (by omega)] at k0
  exact k0
theorem c_owedInAll (hG : Shp G) (h_a : Life a) (hR : InvR S) (hI : InvL S) (hr : RR c 9 S) (hL : LR c a S) (h0 : 0 ≤ v1) (h1 : v1 < 8) (hz : Q (some (aI (dueF S v1))) (G, c)) : TM (d + 1) 23 [aR a, aI v1] (G, c) Q := by
  have g := hR.1
  have e1 := hr.1
  have ez : dueF S v1 = sumI (fun q => S (205 + 8 * q + v1)) (S 1) := sumI_z (by omega) (by omega) (fun i h3 h4 => hI.2.2.2.1 i v1 (by omega) h4 h0 h1 (by omega))
  rw [ez] at hz
  refine b23_0 hG h_a ?_
  have key : ∀ i, 0 ≤ i → i ≤ S 1 → T (d + 1) 23 4 [some (aR a), some (aI v1), some (aI (sumI (fun q => S (205 + 8 * q + v1)) i)), some (aI i)] [] (G, c) (QM Q) := by
    refine int_ind ?_ ?_
    · refine b23_4 hG h_a TM_eqo rfl (by intros; omega) (by intros; omega) ?_ ?_
      · intro p1; exact hz
      · intro p1; omega
    · intro i h2 h3 ih
      rw [sumI_s h2] at ih
      refine b23_4 hG h_a TM_eqo rfl (by intros; omega) (by intros; omega) ?_ ?_
      · intro p1; omega
      · intro p1
        refine c_soulPair hG ?_
        refine b23_25 hG h_a (by intros; omega) (by intros; omega) rfl ?_
        rw [hL.1.2.2.1 (i * 8 + v1) (by omega) (by omega), show 205 + (i * 8 + v1) = 205 + 8 * i + v1 by omega]
        exact ih
  have k0 := key 0 (by omega) (by omega)
  rw [sumI_0 (by omega)] at k0
  exact k0
theorem c_allDebts (hG : Shp G) (h_a : Life a) (hL : LR c a S) (hz : Q (some (aI (allF S))) (G, c)) : TM d 24 [aR a] (G, c) Q := by
  rw [← all_64] at hz
  refine b24_0 hG h_a ?_
  have key : ∀ i, 0 ≤ i → i ≤ 64 → T d 24 4 [some (aR a), some (aI (sumI (fun q => S (205 + q)) i)), some (aI i)] [] (G, c) (QM Q) := by
    refine int_ind ?_ ?_
    · refine b24_4 hG h_a (by intros; omega) ?_ (by intros; omega) (by intros; omega) rfl ?_
      · intro p1; exact hz
      · intro p1; omega
    · intro i h2 h3 ih
      rw [sumI_s h2] at ih
      refine b24_4 hG h_a (by intros; omega) ?_ (by intros; omega) (by intros; omega) rfl ?_
      · intro p1; omega
      · intro p1
        rw [hL.1.2.2.1 i h2 h3]
        exact ih
  have k0 := key 0 (by omega) (by omega)
  rw [sumI_0 (by omega)] at k0
  exact k0
theorem c_countDebts (hG : Shp G) (h_a : Life a) (hI : InvL S) (hL : LR c a S) (hz : Q (some (aI (cntF S))) (G, c)) : TM d 25 [aR a] (G, c) Q := by
  refine b25_0 hG h_a ?_
  have key : ∀ i, 0 ≤ i → i ≤ 64 → T d 25 4 [some (aR a), some (aI (sumI (fun i => if 0 < S (205 + i) then 1 else 0) i)), some (aI i)] [] (G, c) (QM Q) := by
    refine int_ind ?_ ?_
    · refine b25_4 hG h_a (by intros; omega) ?_ (by intros; omega) (by intros; omega) rfl (by intros; omega) ?_ ?_
      · intro p1; exact hz
      · intro p1; omega
      · intro p1; omega
    · intro i h2 h3 ih
      have e := hL.1.2.2.1 i h2 h3
      have hb := hI.2.2.1 i h2 h3
      rw [sumI_s h2] at ih
      refine b25_4 hG h_a (by intros; omega) ?_ (by intros; omega) (by intros; omega) rfl (by intros; omega) ?_ ?_
      · intro p1; omega
      · intro p1 p2
        rw [if_neg (by omega)] at ih
        exact ih
      · intro p1 p2
        rw [if_pos (by omega)] at ih
        exact ih
  have k0 := key 0 (by omega) (by omega)
  rw [sumI_0 (by omega)] at k0
  exact k0
theorem c_countWaiting (hG : Shp G) (h_a : Life a) (hR : InvR S) (hI : InvL S) (hr : RR c 9 S) (hL : LR c a S) (hz : Q (some (aI (wtsF S))) (G, c)) : TM d 26 [aR a] (G, c) Q := by
  have g := hR.1
  have e1 := hr.1
  refine b26_0 hG h_a ?_
  have key : ∀ i, 0 ≤ i → i ≤ S 1 → T d 26 4 [some (aR a), some (aI (sumI (fun i => if S (173 + i) = 0 then 1 else 0) i)), some (aI i)] [] (G, c) (QM Q) := by
    refine int_ind ?_ ?_
    · refine b26_4 hG h_a rfl (by intros; omega) (by intros; omega) ?_ (by intros; omega) (by intros; omega) rfl (by intros; omega) ?_ ?_
      · intro p1; exact hz
      · intro p1; omega
      · intro p1; omega
    · intro i h2 h3 ih
      have e := (hL.1.2.1 i h2 (by omega)).1
      have hb := hI.1 i h2 (by omega)
      rw [sumI_s h2] at ih
      refine b26_4 hG h_a rfl (by intros; omega) (by intros; omega) ?_ (by intros; omega) (by intros; omega) rfl (by intros; omega) ?_ ?_
      · intro p1; omega
      · intro p1 p2
        rw [if_neg (by omega)] at ih
        exact ih
      · intro p1 p2
        rw [if_pos (by omega)] at ih
        exact ih
  have k0 := key 0 (by omega) (by omega)
  rw [sumI_0 (by omega)] at k0
  exact k0
theorem births_z (hR : InvR S) (hI : InvL S) : S 171 = sumI (fun i => S (189 + i)) (S 1) := by
  have g := hR.1
  rw [hI.2.2.2.2.2.1]
  exact sumI_z (by omega) (by omega) (fun i h1 h2 => ((hI.1 i (by omega) h2).2.2.2.2.2.2.2.2.2 h1).2)
theorem c_allBirths (hG : Shp G) (h_a : Life a) (hR : InvR S) (hI : InvL S) (hr : RR c 9 S) (hL : LR c a S) (hz : Q (some (aI (S 171))) (G, c)) : TM d 27 [aR a] (G, c) Q := by
  have g := hR.1
  have e1 := hr.1
  rw [births_z hR hI] at hz
  refine b27_0 hG h_a ?_
  have key : ∀ i, 0 ≤ i → i ≤ S 1 → T d 27 4 [some (aR a), some (aI (sumI (fun i => S (189 + i)) i)), some (aI i)] [] (G, c) (QM Q) := by
    refine int_ind ?_ ?_
    · refine b27_4 hG h_a rfl (by intros; omega) (by intros; omega) ?_ (by intros; omega) (by intros; omega) rfl ?_
      · intro p1; exact hz
      · intro p1; omega
    · intro i h2 h3 ih
      have e := (hL.1.2.1 i h2 (by omega)).2.2.1
      rw [sumI_s h2] at ih
      refine b27_4 hG h_a rfl (by intros; omega) (by intros; omega) ?_ (by intros; omega) (by intros; omega) rfl ?_
      · intro p1; omega
      · intro p1
        rw [e]; exact ih
  have k0 := key 0 (by omega) (by omega)
  rw [sumI_0 (by omega)] at k0
  exact k0
theorem c_livingAs (hG : Shp G) (h_a : Life a) (hR : InvR S) (hI : InvL S) (hr : RR c 9 S) (hL : LR c a S) (hv : I32 v1) (hz : Q (some (aI (livF S v1))) (G, c)) : TM d 28 [aR a, aI v1] (G, c) Q := by
  have g := hR.1
  have e1 := hr.1
  refine b28_0 hG h_a ?_
  have key : ∀ i, 0 ≤ i → i ≤ S 1 → T d 28 4 [some (aR a), some (aI v1), some (aI (sumI (fun i => if S (173 + i) = v1 + 1 then 1 else 0) i)), some (aI i)] [] (G, c) (QM Q) := by
    refine int_ind ?_ ?_
    · refine b28_4 hG h_a rfl (by intros; omega) (by intros; omega) ?_ (by intros; omega) (by intros; omega) rfl (by intros; omega) (by intros; omega) ?_ ?_
      · intro p1; exact hz
      · intro p1; omega
      · intro p1; omega
    · intro i h2 h3 ih
      have e := (hL.1.2.1 i h2 (by omega)).1
      have hb := hI.1 i h2 (by omega)
      rw [sumI_s h2] at ih
      refine b28_4 hG h_a rfl (by intros; omega) (by intros; omega) ?_ (by intros; omega) (by intros; omega) rfl (by intros; omega) (by intros; omega) ?_ ?_
      · intro p1; omega
      · intro p1 p2
        rw [if_neg (by omega)] at ih
        exact ih
      · intro p1 p2
        rw [if_pos (by omega)] at ih
        exact ih
  have k0 := key 0 (by omega) (by omega)
  rw [sumI_0 (by omega)] at k0
  exact k0
theorem c_canPass (hG : Shp G) (h_a : Life a) (hI : InvL S) (hL : LR c a S) (hb : S 168 ≤ 2000000) (hv : I32 v1) (hz : Q (some (aI (if 1 ≤ v1 ∧ v1 ≤ 60 ∧ S 168 + v1 ≤ 9999 then 1 else 0))) (G, c)) : TM d 32 [aR a, aI v1] (G, c) Q := by
  have e := hL.1.1.1
  have := hI.2.2.2.2.2.2.1
  refine b32_0 hG h_a (by intros; omega) ?_ ?_ rfl (by intros; omega) (by intros; omega) ?_ ?_
  · intro p1; rw [if_neg (by omega)] at hz; exact hz
  · intro p1 p2; rw [if_neg (by omega)] at hz; exact hz
  · intro p1 p2 p3; rw [if_neg (by omega)] at hz; exact hz
  · intro p1 p2 p3; rw [if_pos (by omega)] at hz; exact hz
end SPO
